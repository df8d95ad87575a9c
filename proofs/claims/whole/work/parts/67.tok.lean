section
/-! ===== tokens of a text ===== -/
theorem aw_w {I : am_I} {k a : Nat} {v v' : Int32} : am_w (am_w I k a v) k a v' = am_w I k a v' := by
  funext k' a'
  by_cases hk : k' = k
  · subst hk
    by_cases ha : a' = a
    · subst ha
      rw [aw_s, aw_s]
    · rw [aw_n ha, aw_n ha, aw_n ha]
  · rw [aw_k hk, aw_k hk, aw_k hk]
theorem aw_id {I : am_I} {k a : Nat} {v : Int32} (h : I k a = v) : am_w I k a v = I := by
  funext k' a'
  by_cases hk : k' = k
  · subst hk
    by_cases ha : a' = a
    · subst ha
      rw [aw_s, h]
    · rw [aw_n ha]
  · rw [aw_k hk]
def rn (P : Int32 → Int32) (b : Nat → Int32) (n : Nat) : Nat → Nat → Nat
  | 0, i => i
  | d + 1, i => if i < n ∧ ¬ P (b i) = 0 then rn P b n d (i + 1) else i
def rr (P : Int32 → Int32) (b : Nat → Int32) (n i : Nat) : Nat := rn P b n (n - i) i
theorem rr_go {P : Int32 → Int32} {b : Nat → Int32} {n i : Nat} (h : i < n) (hP : ¬ P (b i) = 0) : rr P b n i = rr P b n (i + 1) := by
  unfold rr
  obtain ⟨d, hd⟩ : ∃ d, n - i = d + 1 := ⟨n - i - 1, by omega⟩
  rw [hd, show n - (i + 1) = d by omega]
  show (if _ then _ else _) = _
  rw [if_pos ⟨h, hP⟩]
theorem rr_no {P : Int32 → Int32} {b : Nat → Int32} {n i : Nat} (h : ¬ (i < n ∧ ¬ P (b i) = 0)) : rr P b n i = i := by
  unfold rr
  cases hd : n - i with
  | zero => rfl
  | succ d => show (if _ then _ else _) = _; rw [if_neg h]
theorem rr_all {P : Int32 → Int32} {b : Nat → Int32} {n : Nat} : ∀ d i, n - i = d → i ≤ n → (i ≤ rr P b n i ∧ rr P b n i ≤ n) ∧ (∀ j, i ≤ j → j < rr P b n i → ¬ P (b j) = 0) ∧ (rr P b n i < n → P (b (rr P b n i)) = 0) := by
  intro d
  induction d with
  | zero =>
    intro i hd hi
    rw [rr_no (by omega)]
    exact ⟨⟨by omega, by omega⟩, fun j h1 h2 => by omega, fun h => by omega⟩
  | succ d ih =>
    intro i hd hi
    by_cases hc : i < n ∧ ¬ P (b i) = 0
    · rw [rr_go hc.1 hc.2]
      obtain ⟨⟨h1, h2⟩, h3, h4⟩ := ih (i + 1) (by omega) (by omega)
      refine ⟨⟨by omega, h2⟩, fun j j1 j2 => ?_, h4⟩
      by_cases hj : j = i
      · subst hj; exact hc.2
      · exact h3 j (by omega) j2
    · rw [rr_no hc]
      refine ⟨⟨by omega, by omega⟩, fun j h1 h2 => by omega, fun h => ?_⟩
      exact Decidable.of_not_not (fun q => hc ⟨h, q⟩)
theorem rr_b {P : Int32 → Int32} {b : Nat → Int32} {n i : Nat} (hi : i ≤ n) : i ≤ rr P b n i ∧ rr P b n i ≤ n := (rr_all _ i rfl hi).1
theorem rr_in {P : Int32 → Int32} {b : Nat → Int32} {n i j : Nat} (hi : i ≤ n) (h1 : i ≤ j) (h2 : j < rr P b n i) : ¬ P (b j) = 0 := (rr_all _ i rfl hi).2.1 j h1 h2
theorem rr_x {P : Int32 → Int32} {b : Nat → Int32} {n i : Nat} (hi : i ≤ n) (h : rr P b n i < n) : P (b (rr P b n i)) = 0 := (rr_all _ i rfl hi).2.2 h
theorem rr_lt {P : Int32 → Int32} {b : Nat → Int32} {n i : Nat} (h : i < n) (hP : ¬ P (b i) = 0) : i < rr P b n i := by
  rw [rr_go h hP]
  have := rr_b (P := P) (b := b) (n := n) (i := i + 1) (by omega)
  omega
def dg (b : Nat → Int32) (i : Nat) : Nat → Int32
  | 0 => 0
  | m + 1 => dg b i m * 10 + (b (i + m) - 48)
theorem dig_1 {c : Int32} (h : ¬ s_X6_isDigit c = 0) : ∃ d, d < 10 ∧ c = nI (48 + d) ∧ c - 48 = nI d := by
  have h1 : 48 ≤ c.toInt ∧ c.toInt ≤ 57 := by
    unfold s_X6_isDigit at h
    by_cases q : c < 48
    · rw [if_pos q] at h; exact absurd rfl h
    · rw [if_neg q] at h
      by_cases q2 : 57 < c
      · rw [if_pos q2] at h; exact absurd rfl h
      · rw [Int32.lt_iff_toInt_lt] at q q2
        have e1 : (48 : Int32).toInt = 48 := rfl
        have e2 : (57 : Int32).toInt = 57 := rfl
        omega
  have h2 := ia_nI c (by omega)
  have h3 := ia_cn (x := c) (by omega)
  refine ⟨c.toNatClampNeg - 48, by omega, ?_, ?_⟩
  · rw [show 48 + (c.toNatClampNeg - 48) = c.toNatClampNeg by omega]; exact h2
  · rw [← pk_sub (b := 48) (by omega), ← h2]; rfl
theorem dg_nI {b : Nat → Int32} {i : Nat} : ∀ m, m ≤ 4 → (∀ j, j < m → ¬ s_X6_isDigit (b (i + j)) = 0) → ∃ x, x < 10 ^ m ∧ dg b i m = nI x := by
  intro m
  induction m with
  | zero => intro _ _; exact ⟨0, by decide, rfl⟩
  | succ m ih =>
    intro hm h
    obtain ⟨x, hx, e⟩ := ih (by omega) (fun j hj => h j (by omega))
    obtain ⟨d, hd, -, e2⟩ := dig_1 (h m (by omega))
    refine ⟨x * 10 + d, by rw [Nat.pow_succ]; omega, ?_⟩
    show dg b i m * 10 + (b (i + m) - 48) = _
    rw [e, e2]
    show nI x * nI 10 + nI d = _
    rw [pk_mul, nI_add]
def sgq (c : Int32) (e : Bool) : Nat := if c = 33 then (if e then 21 else 27) else if c = 40 then 24 else if c = 41 then 25 else if c = 42 then 19 else if c = 43 then 17 else if c = 45 then 18 else if c = 59 then 16 else if c = 60 then (if e then 23 else 22) else if c = 61 then (if e then 20 else 27) else 27
theorem sgq_c (c : Int32) (e : Bool) : s_X6_signOf c (bI e) = nI (sgq c e) := by
  unfold s_X6_signOf sgq
  by_cases h1 : c = 33
  · subst h1; cases e <;> decide +kernel
  rw [if_neg h1, if_neg h1]
  by_cases h2 : c = 40
  · subst h2; cases e <;> decide +kernel
  rw [if_neg h2, if_neg h2]
  by_cases h3 : c = 41
  · subst h3; cases e <;> decide +kernel
  rw [if_neg h3, if_neg h3]
  by_cases h4 : c = 42
  · subst h4; cases e <;> decide +kernel
  rw [if_neg h4, if_neg h4]
  by_cases h5 : c = 43
  · subst h5; cases e <;> decide +kernel
  rw [if_neg h5, if_neg h5]
  by_cases h6 : c = 45
  · subst h6; cases e <;> decide +kernel
  rw [if_neg h6, if_neg h6]
  by_cases h7 : c = 59
  · subst h7; cases e <;> decide +kernel
  rw [if_neg h7, if_neg h7]
  by_cases h8 : c = 60
  · subst h8; cases e <;> decide +kernel
  rw [if_neg h8, if_neg h8]
  by_cases h9 : c = 61
  · subst h9; cases e <;> decide +kernel
  rw [if_neg h9, if_neg h9]
  rfl
theorem sgq_r (c : Int32) (e : Bool) : 16 ≤ sgq c e ∧ sgq c e < 28 ∧ sgq c e ≠ 26 := by
  unfold sgq
  cases e <;> simp only [if_true, if_false, Bool.false_eq_true] <;> (repeat' split) <;> decide
theorem sgq_2 {c : Int32} {e : Bool} (h : sgq c e = 20 ∨ sgq c e = 21 ∨ sgq c e = 23) : e = true := by
  cases e with
  | true => rfl
  | false =>
    exfalso
    revert h
    unfold sgq
    simp only [if_false, Bool.false_eq_true]
    (repeat' split) <;> decide
def tcn (b : Nat → Int32) (n p : Nat) : Nat :=
  if p < n then (if s_X6_isLetter (b p) = 0 then (if s_X6_isDigit (b p) = 0 then sgq (b p) (decide (p + 1 < n ∧ b (p + 1) = 61)) else (if rr s_X6_isDigit b n p - p ≤ 4 then 15 else 27)) else (if rr s_X6_isLetter b n p - p ≤ 8 then wfind b p (rr s_X6_isLetter b n p) KW 0 else 27)) else 26
def sgl (c : Nat) : Nat := if c = 20 ∨ c = 21 ∨ c = 23 then 2 else 1
def ten (b : Nat → Int32) (n p : Nat) : Nat :=
  if p < n then (if s_X6_isLetter (b p) = 0 then (if s_X6_isDigit (b p) = 0 then p + sgl (sgq (b p) (decide (p + 1 < n ∧ b (p + 1) = 61))) else rr s_X6_isDigit b n p) else rr s_X6_isLetter b n p) else p
def Ad (I I' : am_I) : Prop := ∀ k a, ¬ (k = 1 ∧ 2 ≤ a ∧ a ≤ 5) → I' k a = I k a
theorem Ad.rf {I : am_I} : Ad I I := fun _ _ _ => rfl
theorem Ad.tr {I I' I'' : am_I} (h : Ad I I') (h2 : Ad I' I'') : Ad I I'' := fun k a q => (h2 k a q).trans (h k a q)
theorem Ad.w {I I' : am_I} {a : Nat} {v : Int32} (h : Ad I I') (h1 : 2 ≤ a) (h2 : a ≤ 5) : Ad I (am_w I' 1 a v) := fun k c q => by
  by_cases hk : k = 1
  · subst hk
    rw [aw_n (fun e => q ⟨rfl, by omega, by omega⟩)]
    exact h _ c q
  · rw [aw_k hk]
    exact h k c q
theorem Ad.row {I I' : am_I} (h : Ad I I') {k : Nat} (hk : k ≠ 1) : I' k = I k := funext fun a => h k a (fun q => hk q.1)
theorem ad_bl {b : Nat → Int32} {n f : Nat} (hn : n ≤ 2000) : ∀ d i g (I : am_I), n - i = d → i ≤ n → d < g → I 1 1 = nI n → I 1 2 = nI i → I 2 = b → s_X6_advance_L0 f g I = s_X6_advance_J39 f (am_w I 1 2 (nI (rr s_X6_isBlank b n i))) ∧ (p_X6_advance_J39 f (am_w I 1 2 (nI (rr s_X6_isBlank b n i))) → p_X6_advance_L0 f g I) := by
  intro d
  induction d with
  | zero =>
    intro i g I hd hi hg h1 h2 h3
    obtain ⟨g, rfl⟩ : ∃ k, g = k + 1 := ⟨g - 1, by omega⟩
    have hc : nI n ≤ nI i := nI_le (by omega) (by omega)
    rw [rr_no (by omega), aw_id h2, u_s_X6_advance_L0, u_p_X6_advance_L0, h1, h2, if_pos hc, if_pos hc]
    exact ⟨rfl, id⟩
  | succ d ih =>
    intro i g I hd hi hg h1 h2 h3
    obtain ⟨g, rfl⟩ : ∃ k, g = k + 1 := ⟨g - 1, by omega⟩
    have hc : ¬ nI n ≤ nI i := nI_ge (by omega) (by omega)
    have hv : vp_in (nI i) 2000 := vp_in_nI (by omega) (by omega)
    rw [u_s_X6_advance_L0, u_p_X6_advance_L0, h1, h2, if_neg hc, if_neg hc, nI_clamp (by omega), h3, nI_1]
    by_cases hb : s_X6_isBlank (b i) = 0
    · rw [if_pos hb, if_pos hb, rr_no (fun q => q.2 hb), aw_id h2]
      exact ⟨rfl, fun h => ⟨hv, h⟩⟩
    · rw [if_neg hb, if_neg hb, rr_go (by omega) hb]
      obtain ⟨q1, q2⟩ := ih (i + 1) g (am_w I 1 2 (nI (i + 1))) (by omega) (by omega) (by omega) h1 rfl h3
      rw [aw_w] at q1 q2
      exact ⟨q1, fun h => ⟨hv, q2 h⟩⟩
theorem ad_wd {b : Nat → Int32} {n f p : Nat} (hn : n ≤ 2000) (hf : 100 ≤ f) : ∀ d i g (I : am_I), n - i = d → i ≤ n → p ≤ i → d < g → I 1 1 = nI n → I 1 2 = nI i → I 1 4 = nI p → I 2 = b → p_X6_takeWord_L0 f g I ∧ ∃ I', s_X6_takeWord_L0 f g I = I' ∧ Ad I I' ∧ I' 1 2 = nI (rr s_X6_isLetter b n i) ∧ I' 1 3 = nI (if rr s_X6_isLetter b n i - p ≤ 8 then wfind b p (rr s_X6_isLetter b n i) KW 0 else 27) ∧ I' 1 4 = nI p := by
  intro d
  have out : ∀ i (I : am_I), i ≤ n → p ≤ i → I 1 2 = nI i → I 1 4 = nI p → I 2 = b → (if nI i - nI p ≤ 8 then p_X6_wordOf f I (nI p) (nI i) else True) ∧ ∃ I', (if nI i - nI p ≤ 8 then (am_w I 1 3 (s_X6_wordOf f I (nI p) (nI i))) else (am_w I 1 3 27)) = I' ∧ Ad I I' ∧ I' 1 2 = nI i ∧ I' 1 3 = nI (if i - p ≤ 8 then wfind b p i KW 0 else 27) ∧ I' 1 4 = nI p := by
    intro i I hi hp h2 h4 h3
    rw [pk_sub hp]
    by_cases hc : i - p ≤ 8
    · have c : nI (i - p) ≤ 8 := nI_le (b := 8) hc (by omega)
      obtain ⟨w1, w2⟩ := wo_c (I := I) (p := p) (e := i) (f := f) (by omega) (by omega) hf
      rw [if_pos c, if_pos c, if_pos hc, w1, h3]
      exact ⟨w2, _, rfl, Ad.rf.w (by omega) (by omega), h2, rfl, h4⟩
    · have c : ¬ nI (i - p) ≤ 8 := nI_ge (a := 8) (by omega) (by omega)
      rw [if_neg c, if_neg c, if_neg hc]
      exact ⟨trivial, _, rfl, Ad.rf.w (by omega) (by omega), h2, rfl, h4⟩
  induction d with
  | zero =>
    intro i g I hd hi hp hg h1 h2 h4 h3
    obtain ⟨g, rfl⟩ : ∃ k, g = k + 1 := ⟨g - 1, by omega⟩
    have hc : nI n ≤ nI i := nI_le (by omega) (by omega)
    rw [rr_no (by omega), u_s_X6_takeWord_L0, u_p_X6_takeWord_L0, h1, h2, h4, if_pos hc, if_pos hc]
    exact out i I hi hp h2 h4 h3
  | succ d ih =>
    intro i g I hd hi hp hg h1 h2 h4 h3
    obtain ⟨g, rfl⟩ : ∃ k, g = k + 1 := ⟨g - 1, by omega⟩
    have hc : ¬ nI n ≤ nI i := nI_ge (by omega) (by omega)
    have hv : vp_in (nI i) 2000 := vp_in_nI (by omega) (by omega)
    rw [u_s_X6_takeWord_L0, u_p_X6_takeWord_L0, h1, h2, h4, if_neg hc, if_neg hc, nI_clamp (by omega), h3, nI_1]
    by_cases hb : s_X6_isLetter (b i) = 0
    · rw [if_pos hb, if_pos hb, rr_no (fun q => q.2 hb)]
      obtain ⟨o1, o2⟩ := out i I hi hp h2 h4 h3
      exact ⟨⟨hv, o1⟩, o2⟩
    · rw [if_neg hb, if_neg hb, rr_go (by omega) hb]
      obtain ⟨q1, I', e, q2, q3⟩ := ih (i + 1) g (am_w I 1 2 (nI (i + 1))) (by omega) (by omega) (by omega) (by omega) h1 rfl h4 h3
      exact ⟨⟨hv, q1⟩, I', e, Ad.tr (Ad.rf.w (by omega) (by omega)) q2, q3⟩
theorem ad_dg {b : Nat → Int32} {n p : Nat} (hn : n ≤ 2000) : ∀ d i g (I : am_I), n - i = d → i ≤ n → p ≤ i → d < g → I 1 1 = nI n → I 1 2 = nI i → I 1 4 = nI p → I 2 = b → I 1 5 = dg b p (i - p) → p_X6_takeInt_L0 g I ∧ ∃ I', s_X6_takeInt_L0 g I = I' ∧ Ad I I' ∧ I' 1 2 = nI (rr s_X6_isDigit b n i) ∧ I' 1 3 = nI (if rr s_X6_isDigit b n i - p ≤ 4 then 15 else 27) ∧ I' 1 4 = nI p ∧ I' 1 5 = dg b p (rr s_X6_isDigit b n i - p) := by
  intro d
  have out : ∀ i (I : am_I), i ≤ n → p ≤ i → I 1 2 = nI i → I 1 4 = nI p → I 1 5 = dg b p (i - p) → ∃ I', (if nI i - nI p ≤ 4 then (am_w I 1 3 15) else (am_w I 1 3 27)) = I' ∧ Ad I I' ∧ I' 1 2 = nI i ∧ I' 1 3 = nI (if i - p ≤ 4 then 15 else 27) ∧ I' 1 4 = nI p ∧ I' 1 5 = dg b p (i - p) := by
    intro i I hi hp h2 h4 h5
    rw [pk_sub hp]
    by_cases hc : i - p ≤ 4
    · have c : nI (i - p) ≤ 4 := nI_le (b := 4) hc (by omega)
      rw [if_pos c, if_pos hc]
      exact ⟨_, rfl, Ad.rf.w (by omega) (by omega), h2, rfl, h4, h5⟩
    · have c : ¬ nI (i - p) ≤ 4 := nI_ge (a := 4) (by omega) (by omega)
      rw [if_neg c, if_neg hc]
      exact ⟨_, rfl, Ad.rf.w (by omega) (by omega), h2, rfl, h4, h5⟩
  induction d with
  | zero =>
    intro i g I hd hi hp hg h1 h2 h4 h3 h5
    obtain ⟨g, rfl⟩ : ∃ k, g = k + 1 := ⟨g - 1, by omega⟩
    have hc : nI n ≤ nI i := nI_le (by omega) (by omega)
    rw [rr_no (by omega), u_s_X6_takeInt_L0, u_p_X6_takeInt_L0, h1, h2, h4, if_pos hc, if_pos hc]
    exact ⟨trivial, out i I hi hp h2 h4 h5⟩
  | succ d ih =>
    intro i g I hd hi hp hg h1 h2 h4 h3 h5
    obtain ⟨g, rfl⟩ : ∃ k, g = k + 1 := ⟨g - 1, by omega⟩
    have hc : ¬ nI n ≤ nI i := nI_ge (by omega) (by omega)
    have hv : vp_in (nI i) 2000 := vp_in_nI (by omega) (by omega)
    rw [u_s_X6_takeInt_L0, u_p_X6_takeInt_L0, h1, h2, h4, if_neg hc, if_neg hc, nI_clamp (by omega), h3, nI_1]
    by_cases hb : s_X6_isDigit (b i) = 0
    · rw [if_pos hb, if_pos hb, rr_no (fun q => q.2 hb)]
      exact ⟨⟨hv, trivial⟩, out i I hi hp h2 h4 h5⟩
    · rw [if_neg hb, if_neg hb, rr_go (by omega) hb]
      have e5 : I 1 5 * 10 + (b i - 48) = dg b p (i + 1 - p) := by
        rw [h5, show i + 1 - p = (i - p) + 1 by omega]
        show _ = dg b p (i - p) * 10 + (b (p + (i - p)) - 48)
        rw [show p + (i - p) = i by omega]
      obtain ⟨q1, I', e, q2, q3⟩ := ih (i + 1) g (am_w (am_w I 1 5 (I 1 5 * 10 + (b i - 48))) 1 2 (nI (i + 1))) (by omega) (by omega) (by omega) (by omega) h1 rfl h4 h3 e5
      exact ⟨⟨hv, hv, q1⟩, I', e, Ad.tr (Ad.w (Ad.rf.w (by omega) (by omega)) (by omega) (by omega)) q2, q3⟩
theorem ad_sg {b : Nat → Int32} {n p : Nat} {I : am_I} (hn : n ≤ 2000) (hp : p < n) (h1 : I 1 1 = nI n) (h2 : I 1 2 = nI p) (h4 : I 1 4 = nI p) (h3 : I 2 = b) : p_X6_takeSign I (b p) ∧ ∃ I', s_X6_takeSign I (b p) = I' ∧ Ad I I' ∧ I' 1 2 = nI (p + sgl (sgq (b p) (decide (p + 1 < n ∧ b (p + 1) = 61)))) ∧ I' 1 3 = nI (sgq (b p) (decide (p + 1 < n ∧ b (p + 1) = 61))) ∧ I' 1 4 = nI p := by
  have J : ∀ e : Bool, ∃ I', s_X6_takeSign_J42 (b p) (b p) (bI e) (am_w I 1 2 (nI (p + 1))) = I' ∧ Ad I I' ∧ I' 1 2 = nI (p + sgl (sgq (b p) e)) ∧ I' 1 3 = nI (sgq (b p) e) ∧ I' 1 4 = nI p := by
    intro e
    unfold s_X6_takeSign_J42
    rw [sgq_c]
    have r := sgq_r (b p) e
    generalize sgq (b p) e = c at r
    have e20 : nI c = 20 ↔ c = 20 := nI_eq (b := 20) (by omega) (by omega)
    have e21 : nI c = 21 ↔ c = 21 := nI_eq (b := 21) (by omega) (by omega)
    have e23 : nI c = 23 ↔ c = 23 := nI_eq (b := 23) (by omega) (by omega)
    have x1 : (am_w I 1 2 (nI (p + 1))) 1 2 + 1 = nI (p + 2) := by show nI (p + 1) + 1 = _; rw [nI_1]
    have w2 : ∃ I', (am_w (am_w (am_w I 1 2 (nI (p + 1))) 1 3 (nI c)) 1 2 ((am_w I 1 2 (nI (p + 1))) 1 2 + 1)) = I' ∧ Ad I I' ∧ I' 1 2 = nI (p + 2) ∧ I' 1 3 = nI c ∧ I' 1 4 = nI p := by
      rw [x1]
      exact ⟨_, rfl, Ad.w (Ad.w (Ad.rf.w (by omega) (by omega)) (by omega) (by omega)) (by omega) (by omega), rfl, rfl, h4⟩
    unfold sgl
    by_cases c1 : c = 20
    · rw [if_pos (e20.mpr c1), if_pos (Or.inl c1)]; exact w2
    rw [if_neg (fun h => c1 (e20.mp h))]
    by_cases c2 : c = 21
    · rw [if_pos (e21.mpr c2), if_pos (Or.inr (Or.inl c2))]; exact w2
    rw [if_neg (fun h => c2 (e21.mp h))]
    by_cases c3 : c = 23
    · rw [if_pos (e23.mpr c3), if_pos (Or.inr (Or.inr c3))]; exact w2
    rw [if_neg (fun h => c3 (e23.mp h)), if_neg (by omega)]
    exact ⟨_, rfl, Ad.w (Ad.rf.w (by omega) (by omega)) (by omega) (by omega), rfl, rfl, h4⟩
  unfold p_X6_takeSign s_X6_takeSign
  rw [h1, h2, nI_1, h3]
  by_cases hc : p + 1 < n
  · have c : ¬ nI n ≤ nI (p + 1) := nI_ge hc (by omega)
    rw [if_neg c, if_neg c, nI_clamp (by omega)]
    refine ⟨vp_in_nI (by omega) (by omega), ?_⟩
    by_cases he : b (p + 1) = 61
    · rw [if_pos he, decide_eq_true ⟨hc, he⟩]
      exact J true
    · rw [if_neg he, decide_eq_false (fun q => he q.2)]
      exact J false
  · have c : nI n ≤ nI (p + 1) := nI_le (by omega) (by omega)
    rw [if_pos c, if_pos c, decide_eq_false (fun q => hc q.1)]
    exact ⟨trivial, J false⟩
theorem ad_j {b : Nat → Int32} {n f p : Nat} {I : am_I} (hn : n ≤ 2000) (hf : 3000 ≤ f) (h1 : I 1 1 = nI n) (h2 : I 1 2 = nI p) (h3 : I 2 = b) (hp : p ≤ n) : p_X6_advance_J39 f I ∧ ∃ I', s_X6_advance_J39 f I = I' ∧ Ad I I' ∧ I' 1 2 = nI (ten b n p) ∧ I' 1 3 = nI (tcn b n p) ∧ I' 1 4 = nI p ∧ (tcn b n p = 15 → I' 1 5 = dg b p (rr s_X6_isDigit b n p - p)) := by
  have ad0 : Ad I (am_w (am_w I 1 4 (nI p)) 1 5 0) := Ad.w (Ad.rf.w (by omega) (by omega)) (by omega) (by omega)
  unfold p_X6_advance_J39 s_X6_advance_J39 ten tcn
  rw [h1, h2, nI_clamp (by omega), h3]
  by_cases hc : p < n
  · have c : nI p < nI n := nI_lt hc (by omega)
    have hv : vp_in (nI p) 2000 := vp_in_nI (by omega) (by omega)
    simp only [if_pos c, if_pos hc]
    by_cases hl : s_X6_isLetter (b p) = 0
    · simp only [if_pos hl]
      by_cases hd : s_X6_isDigit (b p) = 0
      · simp only [if_pos hd]
        obtain ⟨q1, I', e, q2, q3, q4, q5⟩ := ad_sg (I := am_w (am_w I 1 4 (nI p)) 1 5 0) hn hc h1 h2 rfl h3
        refine ⟨⟨hv, hv, hv, q1⟩, I', e, ad0.tr q2, q3, q4, q5, fun h => ?_⟩
        have := sgq_r (b p) (decide (p + 1 < n ∧ b (p + 1) = 61))
        omega
      · simp only [if_neg hd]
        have e0 : s_X6_takeInt f (am_w (am_w I 1 4 (nI p)) 1 5 0) = s_X6_takeInt_L0 (f + 1) (am_w (am_w I 1 4 (nI p)) 1 5 0) := by rw [u_s_X6_takeInt_L0]; rfl
        have p0 : p_X6_takeInt f (am_w (am_w I 1 4 (nI p)) 1 5 0) = p_X6_takeInt_L0 (f + 1) (am_w (am_w I 1 4 (nI p)) 1 5 0) := by rw [u_p_X6_takeInt_L0]; rfl
        rw [e0, p0]
        obtain ⟨q1, I', e, q2, q3, q4, q5, q6⟩ := ad_dg (b := b) (p := p) hn _ p (f + 1) (am_w (am_w I 1 4 (nI p)) 1 5 0) rfl hp (Nat.le_refl p) (by omega) h1 h2 rfl h3 (by rw [Nat.sub_self]; rfl)
        exact ⟨⟨hv, hv, q1⟩, I', e, ad0.tr q2, q3, q4, q5, fun _ => q6⟩
    · simp only [if_neg hl]
      have e0 : s_X6_takeWord f (am_w (am_w I 1 4 (nI p)) 1 5 0) = s_X6_takeWord_L0 f (f + 1) (am_w (am_w I 1 4 (nI p)) 1 5 0) := by rw [u_s_X6_takeWord_L0]; rfl
      have p0 : p_X6_takeWord f (am_w (am_w I 1 4 (nI p)) 1 5 0) = p_X6_takeWord_L0 f (f + 1) (am_w (am_w I 1 4 (nI p)) 1 5 0) := by rw [u_p_X6_takeWord_L0]; rfl
      rw [e0, p0]
      obtain ⟨q1, I', e, q2, q3, q4, q5⟩ := ad_wd (b := b) (f := f) (p := p) hn (by omega) _ p (f + 1) (am_w (am_w I 1 4 (nI p)) 1 5 0) rfl hp (Nat.le_refl p) (by omega) h1 h2 rfl h3
      refine ⟨⟨hv, q1⟩, I', e, ad0.tr q2, q3, q4, q5, fun h => ?_⟩
      exfalso
      have w14 : ∀ (W : List (List Int32)) (k : Nat), k + W.length ≤ 14 → wfind b p (rr s_X6_isLetter b n p) W k ≤ 14 := by
        intro W
        induction W with
        | nil => intro k _; exact Nat.le_refl 14
        | cons w W ih =>
          intro k hk
          rw [List.length_cons] at hk
          unfold wfind
          split
          · omega
          · exact ih (k + 1) (by omega)
      have := w14 KW 0 (by decide)
      split at h <;> omega
  · have c : ¬ nI p < nI n := nI_nlt (by omega) (by omega)
    simp only [if_neg c, if_neg hc]
    exact ⟨trivial, _, rfl, ad0.w (by omega) (by omega), h2, rfl, rfl, fun h => by omega⟩
/-- the next token -/
theorem ad_c {b : Nat → Int32} {n f i : Nat} {I : am_I} (hn : n ≤ 2000) (hf : 3000 ≤ f) (h1 : I 1 1 = nI n) (h2 : I 1 2 = nI i) (h3 : I 2 = b) (hi : i ≤ n) : p_X6_advance f I ∧ ∃ I', s_X6_advance f I = I' ∧ Ad I I' ∧ I' 1 2 = nI (ten b n (rr s_X6_isBlank b n i)) ∧ I' 1 3 = nI (tcn b n (rr s_X6_isBlank b n i)) ∧ I' 1 4 = nI (rr s_X6_isBlank b n i) ∧ (tcn b n (rr s_X6_isBlank b n i) = 15 → I' 1 5 = dg b (rr s_X6_isBlank b n i) (rr s_X6_isDigit b n (rr s_X6_isBlank b n i) - rr s_X6_isBlank b n i)) := by
  have e0 : s_X6_advance f I = s_X6_advance_L0 f (f + 1) I := by rw [u_s_X6_advance_L0]; rfl
  have p0 : p_X6_advance f I = p_X6_advance_L0 f (f + 1) I := by rw [u_p_X6_advance_L0]; rfl
  obtain ⟨q1, q2⟩ := ad_bl (b := b) (f := f) hn _ i (f + 1) I rfl hi (by omega) h1 h2 h3
  have hr := rr_b (P := s_X6_isBlank) (b := b) hi
  obtain ⟨r1, I', e, r2, r3⟩ := ad_j (b := b) (f := f) (p := rr s_X6_isBlank b n i) (I := am_w I 1 2 (nI (rr s_X6_isBlank b n i))) hn hf h1 rfl h3 hr.2
  rw [e0, p0, q1]
  exact ⟨q2 r1, I', e, Ad.tr (Ad.rf.w (by omega) (by omega)) r2, r3⟩
end
