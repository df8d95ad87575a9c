/-! ===== rules of a consent: the class ===== -/
def Fq (I I' : am_I) : Prop := ∀ k a, k ≠ 7 → k ≠ 8 → ¬ (k = 5 ∧ a = 3) → I' k a = I k a
theorem Fq.rf {I : am_I} : Fq I I := fun _ _ _ _ _ => rfl
theorem Fq.tr {I I' I'' : am_I} (h : Fq I I') (h2 : Fq I' I'') : Fq I I'' := fun k a h0 h1 h3 => (h2 k a h0 h1 h3).trans (h k a h0 h1 h3)
theorem Fq.r {I I' : am_I} (h : Fq I I') {k : Nat} (h0 : k ≠ 7) (h1 : k ≠ 8) (h2 : k ≠ 5) : I' k = I k := funext fun a => h k a h0 h1 (fun c => h2 c.1)
theorem Fs.q {I I' : am_I} (h : Fs I I') : Fq I I' := fun k a h0 _ h2 => h k a h0 h2
theorem Fq.w8 {I I' : am_I} {a : Nat} {v : Int32} (h : Fq I I') : Fq I (am_w I' 8 a v) := fun k b h0 h1 h3 => by rw [aw_k h1]; exact h k b h0 h1 h3
theorem Fq.c {I I' : am_I} (h : Fq I I') : cfo I' = cfo I := funext fun i => h.r (by omega) (by omega) (by omega)
def ES (c : am_I) (L : Nat) (lt : Nat → Bool) (vv : Nat → Int32) (tl : Int32) (I : am_I) : Prop := cfo I = c ∧ (∀ q, q < 7 → I 6 q = vv q) ∧ I 5 4 = tl ∧ ∀ l, l < L → c 6 l = 0 → I 8 l = 0 ∨ I 8 l = if lt l then 2 else 1
theorem lh_c {c I M : am_I} {g R L S : Nat} {rb lb md : Nat → Nat} {vv : Nat → Int32} {tl : Int32} (hX : CX c M g R L S rb lb md) (hE : ES c L (ltB c lb md vv tl) vv tl I) {l f : Nat} (hl : l < L) (hf : 1000 ≤ f) : ∃ I', s_X1_literalHolds f I (nI l) = (bI (ltB c lb md vv tl l), I') ∧ p_X1_literalHolds f I (nI l) ∧ Fq I I' ∧ ES c L (ltB c lb md vv tl) vv tl I' := by
  obtain ⟨e1, e2, e3, e4⟩ := hE
  have hX' := hX
  rw [← e1] at hX'
  obtain ⟨I', t1, t2, t3⟩ := th_c hX' e2 e3 hl hf
  rw [e1] at t1
  have hL := hX.2.1
  have hcl := nI_clamp (n := l) (by omega)
  have hv133 : vp_in (nI l) 133 := vp_in_nI (by omega) (by omega)
  have h44 : I 44 l = c 6 l := by rw [← e1]; rfl
  have keep : ∀ K, Fs I K → ES c L (ltB c lb md vv tl) vv tl K := fun K hK => ⟨by rw [hK.q.c]; exact e1, fun q hq => by rw [hK.r (k := 6) (by decide) (by decide)]; exact e2 q hq, by rw [hK 5 4 (by decide) (by decide)]; exact e3, fun l hl h0 => by rw [hK.r (k := 8) (by decide) (by decide)]; exact e4 l hl h0⟩
  have hk : ∀ v : Int32, (v = if ltB c lb md vv tl l then 2 else 1) → ES c L (ltB c lb md vv tl) vv tl (am_w I' 8 l v) := fun v hv => by
    obtain ⟨k1, k2, k3, k4⟩ := keep I' t3
    refine ⟨?_, fun q hq => by rw [aw_k (by decide)]; exact k2 q hq, by rw [aw_k (by decide)]; exact k3, fun l' hl' h0 => ?_⟩
    · rw [← k1]
      funext i
      show am_w I' 8 l v (38 + i) = I' (38 + i)
      exact aw_k (by omega)
    · by_cases hll : l' = l
      · subst hll
        rw [aw_s]
        exact Or.inr hv
      · rw [aw_n hll]
        exact k4 l' hl' h0
  have b1 : vp_nar .byte ((1 : Int32).toInt8.toInt32) = 1 := by decide
  have b2 : vp_nar .byte ((2 : Int32).toInt8.toInt32) = 2 := by decide
  unfold s_X1_literalHolds p_X1_literalHolds
  rw [hcl, h44, t1, b1, b2]
  simp only
  by_cases c6 : c 6 l = 0
  · rw [if_pos c6, if_pos c6]
    by_cases k0 : I 8 l = 0
    · rw [if_pos k0, if_pos k0, aw_s, aw_s]
      by_cases hlt : ltB c lb md vv tl l = true
      · have hb : ¬ bI (ltB c lb md vv tl l) = 0 := by rw [hlt]; decide
        rw [if_neg hb, if_neg hb]
        exact ⟨_, by rw [if_pos rfl, hlt]; rfl, ⟨hv133, hv133, t2, hv133, hv133⟩, t3.q.w8, hk 2 (by rw [hlt]; rfl)⟩
      · have hlf : ltB c lb md vv tl l = false := by cases h : ltB c lb md vv tl l <;> simp_all
        have hb : bI (ltB c lb md vv tl l) = 0 := by rw [hlf]; rfl
        rw [if_pos hb, if_pos hb]
        exact ⟨_, by rw [if_neg (by decide), hlf]; rfl, ⟨hv133, hv133, t2, hv133, hv133⟩, t3.q.w8, hk 1 (by rw [hlf]; rfl)⟩
    · rw [if_neg k0, if_neg k0]
      refine ⟨I, ?_, ⟨hv133, hv133, hv133⟩, Fq.rf, e1, e2, e3, e4⟩
      rcases e4 l hl c6 with h | h
      · exact absurd h k0
      · rw [h]
        cases hlt : ltB c lb md vv tl l
        · rfl
        · rfl
  · rw [if_neg c6, if_neg c6]
    exact ⟨I', rfl, ⟨hv133, t2⟩, t3.q, keep I' t3⟩
def rht (so lt : Nat → Bool) : Nat → Nat → Bool → Bool
  | 0, _, all => all
  | d + 1, l, all => if so l then (if all then true else rht so lt d (l + 1) (lt l)) else rht so lt d (l + 1) (all && lt l)
def rhB (c : am_I) (rb : Nat → Nat) (lt : Nat → Bool) (r : Nat) : Bool := if rb r = rb (r + 1) then true else rht (fun l => decide (c 5 l = 1)) lt (rb (r + 1) - rb r - 1) (rb r + 1) (lt (rb r))
theorem hd_c {c M : am_I} {g R L S : Nat} {rb lb md : Nat → Nat} {vv : Nat → Int32} {tl : Int32} (hX : CX c M g R L S rb lb md) {r f fi : Nat} (hr : r < R) (hf : 1000 ≤ f) : ∀ d l, l + d = rb (r + 1) → fi < l → ∀ (I : am_I) (g' : Nat) (all : Bool), ES c L (ltB c lb md vv tl) vv tl I → d < g' → ∃ I', s_X1_holds_L23 (nI r) f g' (nI fi) (bI all) (nI l) I = (bI (rht (fun l => decide (c 5 l = 1)) (ltB c lb md vv tl) d l all), I') ∧ p_X1_holds_L23 (nI r) f g' (nI fi) (bI all) (nI l) I ∧ Fq I I' ∧ ES c L (ltB c lb md vv tl) vv tl I' := by
  have hR := hX.1
  have hL := hX.2.1
  obtain ⟨z1, z2, z3, z4, z5, z6, z7, z8⟩ := hX.2.2.2.2.2.2.2.1 r hr
  have v16 : vp_in (nI r) 16 := vp_in_nI (by omega) (by omega)
  intro d
  induction d with
  | zero =>
    intro l hl hfl I g' all hE hg
    obtain ⟨g', rfl⟩ : ∃ k, g' = k + 1 := ⟨g' - 1, by omega⟩
    have h40 : I 40 r = nI (rb (r + 1)) := by rw [← z5, ← hE.1]; rfl
    have hc : nI (rb (r + 1)) ≤ nI l := nI_le (by omega) (by omega)
    rw [u_s_X1_holds_L23, u_p_X1_holds_L23, nI_clamp (n := r) (by omega), h40, if_pos hc, if_pos hc]
    exact ⟨I, rfl, ⟨v16, by cases all; exact Or.inl rfl; exact Or.inr rfl⟩, Fq.rf, hE⟩
  | succ d ih =>
    intro l hl hfl I g' all hE hg
    obtain ⟨g', rfl⟩ : ∃ k, g' = k + 1 := ⟨g' - 1, by omega⟩
    have h40 : I 40 r = nI (rb (r + 1)) := by rw [← z5, ← hE.1]; rfl
    have h43 : I 43 l = c 5 l := by rw [← hE.1]; rfl
    have hc : ¬ nI (rb (r + 1)) ≤ nI l := nI_ge (by omega) (by omega)
    have hvl : vp_in (nI l) 133 := vp_in_nI (by omega) (by omega)
    have hli := hX.2.2.2.2.2.2.2.2.1 l (by omega)
    rw [u_s_X1_holds_L23, u_p_X1_holds_L23, nI_clamp (n := r) (by omega), nI_clamp (n := l) (by omega), h40, h43, if_neg hc, if_neg hc, nI_1]
    obtain ⟨I1, t1, t2, t3, t4⟩ := lh_c hX hE (show l < L by omega) hf
    have cont : ∀ (K : am_I) (b : Bool), Fq I K → ES c L (ltB c lb md vv tl) vv tl K → ∃ I', s_X1_holds_L23 (nI r) f g' (nI fi) (bI b) (nI (l + 1)) K = (bI (rht (fun l => decide (c 5 l = 1)) (ltB c lb md vv tl) d (l + 1) b), I') ∧ p_X1_holds_L23 (nI r) f g' (nI fi) (bI b) (nI (l + 1)) K ∧ Fq I I' ∧ ES c L (ltB c lb md vv tl) vv tl I' := fun K b hK hEK => by
      obtain ⟨I', q1, q2, q3, q4⟩ := ih (l + 1) (by omega) (by omega) K g' b hEK (by omega)
      exact ⟨I', q1, q2, hK.tr q3, q4⟩
    have lit : ∃ I', (if bI (ltB c lb md vv tl l) = 0 then s_X1_holds_L23 (nI r) f g' (nI fi) 0 (nI (l + 1)) I1 else s_X1_holds_L23 (nI r) f g' (nI fi) 1 (nI (l + 1)) I1) = (bI (rht (fun l => decide (c 5 l = 1)) (ltB c lb md vv tl) d (l + 1) (ltB c lb md vv tl l)), I') ∧ (if bI (ltB c lb md vv tl l) = 0 then p_X1_holds_L23 (nI r) f g' (nI fi) 0 (nI (l + 1)) I1 else p_X1_holds_L23 (nI r) f g' (nI fi) 1 (nI (l + 1)) I1) ∧ Fq I I' ∧ ES c L (ltB c lb md vv tl) vv tl I' := by
      obtain ⟨I', q1, q2, q3, q4⟩ := cont I1 (ltB c lb md vv tl l) t3 t4
      cases hb : ltB c lb md vv tl l
      · rw [hb] at q1 q2
        rw [if_pos (show bI false = 0 from rfl), if_pos (show bI false = 0 from rfl)]
        exact ⟨I', q1, q2, q3, q4⟩
      · rw [hb] at q1 q2
        rw [if_neg (show ¬ bI true = 0 by decide), if_neg (show ¬ bI true = 0 by decide)]
        exact ⟨I', q1, q2, q3, q4⟩
    rw [t1]
    simp only
    rcases hli.1 with s0 | s1
    · have hso : decide (c 5 l = 1) = false := by rw [s0]; decide
      have hrt : ∀ all, rht (fun l => decide (c 5 l = 1)) (ltB c lb md vv tl) (d + 1) l all = rht (fun l => decide (c 5 l = 1)) (ltB c lb md vv tl) d (l + 1) (all && ltB c lb md vv tl l) := fun all => by
        show (if decide (c 5 l = 1) = true then _ else _) = _
        rw [if_neg (by rw [hso]; decide)]
      rw [if_pos s0, if_pos s0, hrt]
      cases all
      · rw [if_pos (show bI false = 0 from rfl), if_pos (show bI false = 0 from rfl), Bool.false_and]
        obtain ⟨I', q1, q2, q3, q4⟩ := cont I false Fq.rf hE
        exact ⟨I', q1, ⟨v16, hvl, q2⟩, q3, q4⟩
      · rw [if_neg (show ¬ bI true = 0 by decide), if_neg (show ¬ bI true = 0 by decide), Bool.true_and]
        obtain ⟨I', q1, q2, q3, q4⟩ := lit
        exact ⟨I', q1, ⟨v16, hvl, t2, q2⟩, q3, q4⟩
    · have n0 : ¬ c 5 l = 0 := by rw [s1]; decide
      have nle : ¬ nI l ≤ nI fi := nI_ge (by omega) (by omega)
      have hso : decide (c 5 l = 1) = true := by rw [s1]; decide
      rw [if_neg n0, if_neg n0, if_neg nle, if_neg nle]
      cases all
      · have hrt : rht (fun l => decide (c 5 l = 1)) (ltB c lb md vv tl) (d + 1) l false = rht (fun l => decide (c 5 l = 1)) (ltB c lb md vv tl) d (l + 1) (ltB c lb md vv tl l) := by
          show (if decide (c 5 l = 1) = true then (if false = true then _ else _) else _) = _
          rw [if_pos hso, if_neg (by decide)]
        rw [if_pos (show bI false = 0 from rfl), if_pos (show bI false = 0 from rfl), hrt]
        obtain ⟨I', q1, q2, q3, q4⟩ := lit
        exact ⟨I', q1, ⟨v16, hvl, t2, q2⟩, q3, q4⟩
      · have hrt : rht (fun l => decide (c 5 l = 1)) (ltB c lb md vv tl) (d + 1) l true = true := by
          show (if decide (c 5 l = 1) = true then (if true = true then true else _) else _) = _
          rw [if_pos hso, if_pos rfl]
        rw [if_neg (show ¬ bI true = 0 by decide), if_neg (show ¬ bI true = 0 by decide), hrt]
        exact ⟨I, rfl, ⟨v16, hvl, trivial⟩, Fq.rf, hE⟩
theorem ho_c {c I M : am_I} {g R L S : Nat} {rb lb md : Nat → Nat} {vv : Nat → Int32} {tl : Int32} (hX : CX c M g R L S rb lb md) {r f : Nat} (hr : r < R) (hf : 1000 ≤ f) (hE : ES c L (ltB c lb md vv tl) vv tl I) : ∃ I', s_X1_holds f I (nI r) = (bI (rhB c rb (ltB c lb md vv tl) r), I') ∧ p_X1_holds f I (nI r) ∧ Fq I I' ∧ ES c L (ltB c lb md vv tl) vv tl I' := by
  have hR := hX.1
  have hL := hX.2.1
  obtain ⟨z1, z2, z3, z4, z5, z6, z7, z8⟩ := hX.2.2.2.2.2.2.2.1 r hr
  have v16 : vp_in (nI r) 16 := vp_in_nI (by omega) (by omega)
  have main : ∃ I', s_X1_holds_L23 (nI r) f f (nI (rb r)) 1 (nI (rb r)) I = (bI (rhB c rb (ltB c lb md vv tl) r), I') ∧ p_X1_holds_L23 (nI r) f f (nI (rb r)) 1 (nI (rb r)) I ∧ Fq I I' ∧ ES c L (ltB c lb md vv tl) vv tl I' := by
    obtain ⟨g', hg'⟩ : ∃ k, f = k + 1 := ⟨f - 1, by omega⟩
    have h40 : I 40 r = nI (rb (r + 1)) := by rw [← z5, ← hE.1]; rfl
    conv =>
      enter [1, I', 1, 1]
      arg 3
      rw [hg']
    conv =>
      enter [1, I', 2, 1]
      arg 3
      rw [hg']
    rw [u_s_X1_holds_L23, u_p_X1_holds_L23, nI_clamp (n := r) (by omega), h40]
    unfold rhB
    by_cases he : rb r = rb (r + 1)
    · have hc : nI (rb (r + 1)) ≤ nI (rb r) := nI_le (by omega) (by omega)
      rw [if_pos hc, if_pos hc, if_pos he]
      exact ⟨I, rfl, ⟨v16, Or.inr rfl⟩, Fq.rf, hE⟩
    · have hc : ¬ nI (rb (r + 1)) ≤ nI (rb r) := nI_ge (by omega) (by omega)
      have s1 := z8 (by omega)
      have n0 : ¬ c 5 (rb r) = 0 := by rw [s1]; decide
      have h43 : I 43 (rb r) = c 5 (rb r) := by rw [← hE.1]; rfl
      have hle : nI (rb r) ≤ nI (rb r) := nI_le (Nat.le_refl _) (by omega)
      have n1 : ¬ (1 : Int32) = 0 := by decide
      have hvl : vp_in (nI (rb r)) 133 := vp_in_nI (by omega) (by omega)
      rw [if_neg hc, if_neg hc, if_neg he, nI_clamp (n := rb r) (by omega), h43, if_neg n0, if_neg n0, if_pos hle, if_pos hle, if_neg n1, if_neg n1, nI_1]
      obtain ⟨I1, t1, t2, t3, t4⟩ := lh_c hX hE (show rb r < L by omega) hf
      rw [t1]
      simp only
      obtain ⟨I', q1, q2, q3, q4⟩ := hd_c (fi := rb r) hX hr hf (rb (r + 1) - rb r - 1) (rb r + 1) (by omega) (by omega) I1 g' (ltB c lb md vv tl (rb r)) t4 (by omega)
      cases hb : ltB c lb md vv tl (rb r)
      · rw [hb] at q1 q2
        rw [if_pos (show bI false = 0 from rfl), if_pos (show bI false = 0 from rfl)]
        exact ⟨I', q1, ⟨v16, hvl, t2, q2⟩, t3.tr q3, q4⟩
      · rw [hb] at q1 q2
        rw [if_neg (show ¬ bI true = 0 by decide), if_neg (show ¬ bI true = 0 by decide)]
        exact ⟨I', q1, ⟨v16, hvl, t2, q2⟩, t3.tr q3, q4⟩
  unfold s_X1_holds p_X1_holds
  by_cases h0 : r = 0
  · subst h0
    have hc : nI 0 ≤ (0 : Int32) := by decide
    rw [if_pos hc, if_pos hc]
    rw [hX.2.2.2.2.2.1] at main
    exact main
  · have hc : ¬ nI r ≤ (0 : Int32) := nI_nle (by omega) (by omega)
    rw [if_neg hc, if_neg hc]
    obtain ⟨m, rfl⟩ : ∃ m, r = m + 1 := ⟨r - 1, by omega⟩
    have h40 : I 40 m = nI (rb (m + 1)) := by
      have := (hX.2.2.2.2.2.2.2.1 m (by omega)).2.2.2.2.1
      rw [← this, ← hE.1]; rfl
    rw [nI_pred, nI_clamp (by omega), h40]
    obtain ⟨I', q1, q2, q3, q4⟩ := main
    exact ⟨I', q1, ⟨vp_in_nI (by omega) (by omega), q2⟩, q3, q4⟩
def leV (hd : Nat → Int32) (rh : Nat → Bool) : Nat → Nat → Int32
  | 0, _ => -3
  | d + 1, r => if hd r = 2 then leV hd rh d (r + 1) else if rh r then (if hd r = 0 then nI r else -2) else leV hd rh d (r + 1)
def maV (hd : Nat → Int32) (rh : Nat → Bool) : Nat → Nat → Int32
  | 0, _ => -1
  | d + 1, r => if hd r = 2 then (if rh r then nI r else maV hd rh d (r + 1)) else maV hd rh d (r + 1)
theorem le_c {c M : am_I} {g R L S : Nat} {rb lb md : Nat → Nat} {vv : Nat → Int32} {tl : Int32} (hX : CX c M g R L S rb lb md) {f : Nat} (hf : 1000 ≤ f) : ∀ d r, r + d = R → ∀ (I : am_I) (g' : Nat), ES c L (ltB c lb md vv tl) vv tl I → d < g' → (∃ I', s_X1_letBy_L2 f g' (nI r) I = (leV (c 1) (rhB c rb (ltB c lb md vv tl)) d r, I') ∧ p_X1_letBy_L2 f g' (nI r) I ∧ Fq I I' ∧ ES c L (ltB c lb md vv tl) vv tl I') ∧ ∃ I', s_X1_maskedBy_L2 f g' (nI r) I = (maV (c 1) (rhB c rb (ltB c lb md vv tl)) d r, I') ∧ p_X1_maskedBy_L2 f g' (nI r) I ∧ Fq I I' ∧ ES c L (ltB c lb md vv tl) vv tl I' := by
  have hR := hX.1
  intro d
  induction d with
  | zero =>
    intro r hr I g' hE hg
    obtain ⟨g', rfl⟩ : ∃ k, g' = k + 1 := ⟨g' - 1, by omega⟩
    have h38 : I 38 7 = nI R := by rw [← hX.2.2.2.1, ← hE.1]; rfl
    have hc : nI R ≤ nI r := nI_le (by omega) (by omega)
    rw [u_s_X1_letBy_L2, u_p_X1_letBy_L2, u_s_X1_maskedBy_L2, u_p_X1_maskedBy_L2, h38]
    simp only [if_pos hc]
    exact ⟨⟨I, rfl, trivial, Fq.rf, hE⟩, I, rfl, trivial, Fq.rf, hE⟩
  | succ d ih =>
    intro r hr I g' hE hg
    obtain ⟨g', rfl⟩ : ∃ k, g' = k + 1 := ⟨g' - 1, by omega⟩
    have h38 : I 38 7 = nI R := by rw [← hX.2.2.2.1, ← hE.1]; rfl
    have h39 : ∀ K, ES c L (ltB c lb md vv tl) vv tl K → K 39 r = c 1 r := fun K hK => by rw [← hK.1]; rfl
    have hc : ¬ nI R ≤ nI r := nI_ge (by omega) (by omega)
    have v16 : vp_in (nI r) 16 := vp_in_nI (by omega) (by omega)
    rw [u_s_X1_letBy_L2, u_p_X1_letBy_L2, u_s_X1_maskedBy_L2, u_p_X1_maskedBy_L2, h38, nI_clamp (n := r) (by omega), h39 I hE, nI_1]
    simp only [if_neg hc]
    obtain ⟨I1, t1, t2, t3, t4⟩ := ho_c hX (show r < R by omega) hf hE
    obtain ⟨⟨A, a1, a2, a3, a4⟩, B, b1, b2, b3, b4⟩ := ih (r + 1) (by omega) I g' hE (by omega)
    obtain ⟨⟨A', a1', a2', a3', a4'⟩, B', b1', b2', b3', b4'⟩ := ih (r + 1) (by omega) I1 g' t4 (by omega)
    unfold leV maV
    rw [t1]
    simp only
    rw [h39 I1 t4]
    by_cases c2 : c 1 r = 2
    · simp only [if_pos c2]
      refine ⟨⟨A, a1, ⟨v16, a2⟩, a3, a4⟩, ?_⟩
      cases hb : rhB c rb (ltB c lb md vv tl) r
      · rw [if_pos (show bI false = 0 from rfl), if_pos (show bI false = 0 from rfl)]
        exact ⟨B', b1', ⟨v16, t2, b2'⟩, t3.tr b3', b4'⟩
      · rw [if_neg (show ¬ bI true = 0 by decide), if_neg (show ¬ bI true = 0 by decide)]
        exact ⟨I1, rfl, ⟨v16, t2, trivial⟩, t3, t4⟩
    · simp only [if_neg c2]
      refine ⟨?_, ⟨B, b1, ⟨v16, b2⟩, b3, b4⟩⟩
      cases hb : rhB c rb (ltB c lb md vv tl) r
      · rw [if_pos (show bI false = 0 from rfl), if_pos (show bI false = 0 from rfl)]
        exact ⟨A', a1', ⟨v16, t2, a2'⟩, t3.tr a3', a4'⟩
      · rw [if_neg (show ¬ bI true = 0 by decide), if_neg (show ¬ bI true = 0 by decide)]
        refine ⟨I1, ?_, ⟨v16, t2, v16⟩, t3, t4⟩
        by_cases c0 : c 1 r = 0
        · simp only [if_pos c0]; rfl
        · simp only [if_neg c0]; rfl
