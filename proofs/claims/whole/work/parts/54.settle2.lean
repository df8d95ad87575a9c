/-! ===== the class settles ===== -/
theorem aw_s {I : am_I} {k a : Nat} {v : Int32} : am_w I k a v k a = v := by
  unfold am_w va_up
  rw [if_pos rfl, if_pos rfl]
theorem aw_n {I : am_I} {k a b : Nat} {v : Int32} (h : b ≠ a) : am_w I k a v k b = I k b := by
  unfold am_w va_up
  rw [if_pos rfl, if_neg h]
theorem aw_k {I : am_I} {k k' a : Nat} {v : Int32} (h : k' ≠ k) : am_w I k a v k' = I k' := by
  unfold am_w va_up
  rw [if_neg h]
theorem fl_36 : ∀ d i g (I : am_I), i + d = 10 → d < g → ∃ I', s_J7_fill_53178_36_L5 0 g (nI i) 10 I = I' ∧ p_J7_fill_53178_36_L5 0 g (nI i) 10 I ∧ Fr 36 I I' ∧ (∀ e, i ≤ e → e < 10 → I' 36 e = 0) ∧ ∀ e, e < i → I' 36 e = I 36 e := by
  intro d
  induction d with
  | zero =>
    intro i g I hi hg
    obtain ⟨g, rfl⟩ : ∃ k, g = k + 1 := ⟨g - 1, by omega⟩
    have hc : (10 : Int32) ≤ nI i := nI_le (a := 10) (by omega) (by omega)
    rw [u_s_J7_fill_53178_36_L5, u_p_J7_fill_53178_36_L5, if_pos hc, if_pos hc]
    exact ⟨I, rfl, trivial, Fr.rf, fun e h1 h2 => by omega, fun e _ => rfl⟩
  | succ d ih =>
    intro i g I hi hg
    obtain ⟨g, rfl⟩ : ∃ k, g = k + 1 := ⟨g - 1, by omega⟩
    have hc : ¬ (10 : Int32) ≤ nI i := nI_ge (b := 10) (by omega) (by omega)
    rw [u_s_J7_fill_53178_36_L5, u_p_J7_fill_53178_36_L5, if_neg hc, if_neg hc, nI_1, nI_clamp (by omega)]
    obtain ⟨I', a1, a2, a3, a4, a5⟩ := ih (i + 1) g (am_w I 36 i 0) (by omega) (by omega)
    refine ⟨I', a1, ⟨vp_in_nI (by omega) (by omega), a2⟩, Fr.tr (Fr.w Fr.rf) a3, fun e h1 h2 => ?_, fun e h => ?_⟩
    · by_cases he : e = i
      · subst he
        rw [a5 _ (by omega), aw_s]
      · exact a4 e (by omega) h2
    · rw [a5 _ (by omega), aw_n (by omega)]
theorem fl_36a {I : am_I} {f : Nat} (hf : 100 ≤ f) : ∃ I', s_J7_fill_53178_36 f I 0 = I' ∧ p_J7_fill_53178_36 f I 0 ∧ Fr 36 I I' ∧ Rd 36 I' (fun _ => 0) 0 := by
  obtain ⟨I', a1, a2, a3, a4, a5⟩ := fl_36 10 0 f I (by omega) (by omega)
  rw [nI_0] at a1 a2
  exact ⟨I', a1, a2, a3, fun e he => by rw [a4 e (by omega) he]; rfl, fun e => ⟨Int.le_refl _, Int.le_refl _⟩, rfl⟩
/-- one round of pushes -/
theorem st_in {I0 : am_I} {n s f : Nat} {mm v4 : Int32} (hn : n ≤ 12) (hs : s < 2 ^ 31) (hw : ∀ k, k < n → tU I0 k) (hm : mm = 0 ∨ mm = 1) : ∀ (d i : Nat), i + d = n → ∀ (I : am_I) (x : Nat → Int) (B : Int) (fl : Int32) (g : Nat), Rd 36 I x B → B + 20000 * d ≤ 100000000 → Fr 36 I0 I → (fl = 0 ∨ fl = 1) → ∃ (fl' : Int32) (I' : am_I), s_X5_settle_L11 (nI n) (nI s) mm f (g + d + 1) 1 v4 fl (nI i) I = (if fl' = 0 then (s_X5_areWithin f I' (nI n) (nI s) mm, I') else s_X5_settle_L11 (nI n) (nI s) mm f g 0 (v4 + 1) 0 0 I') ∧ ((if fl' = 0 then p_X5_areWithin f I' (nI n) (nI s) mm else p_X5_settle_L11 (nI n) (nI s) mm f g 0 (v4 + 1) 0 0 I') → p_X5_settle_L11 (nI n) (nI s) mm f (g + d + 1) 1 v4 fl (nI i) I) ∧ (fl' = 0 ∨ fl' = 1) ∧ (fl' = 0 ↔ fl = 0 ∧ eMov x (lF (eC I0 (decide (mm = 1))) s d i) = false) ∧ Rd 36 I' (eRun x (lF (eC I0 (decide (mm = 1))) s d i)) (B + 20000 * d) ∧ Fr 36 I0 I' := by
  intro d
  induction d with
  | zero =>
    intro i hi I x B fl g hR hB hF hfl
    have hc : nI n ≤ nI i := nI_le (by omega) (by omega)
    rw [u_s_X5_settle_L11_1, u_p_X5_settle_L11_1, if_pos hc, if_pos hc]
    refine ⟨fl, I, rfl, id, hfl, ⟨fun h => ⟨h, rfl⟩, fun h => h.1⟩, ?_, hF⟩
    exact hR.mo (by omega)
  | succ d ih =>
    intro i hi I x B fl g hR hB hF hfl
    have hc : ¬ nI n ≤ nI i := nI_ge (by omega) (by omega)
    have hb := bit_0 (s := s) (k := i) hs (by omega)
    rw [show g + (d + 1) + 1 = (g + d + 1) + 1 by omega, u_s_X5_settle_L11_1, u_p_X5_settle_L11_1, if_neg hc, if_neg hc, nI_1]
    by_cases hbit : s / 2 ^ i % 2 = 0
    · have hb1 := hb.mpr hbit
      rw [if_pos hb1, if_pos hb1]
      obtain ⟨fl1, I1, q1, q2, q3, q4, q5, q6⟩ := pt_2 hR (by omega) hF (by omega) (hw i (by omega)) hm
      have hl : lF (eC I0 (decide (mm = 1))) s (d + 1) i = eC I0 (decide (mm = 1)) i ++ lF (eC I0 (decide (mm = 1))) s d (i + 1) := by
        show (if s / 2 ^ i % 2 = 0 then _ else _) ++ _ = _
        rw [if_pos hbit]
      rw [q1, hl, eMov_app, eRun_app]
      simp only
      by_cases hz : fl1 = 0
      · rw [if_pos hz, if_pos hz]
        obtain ⟨fl', I', r1, r2, r3, r4, r5, r6⟩ := ih (i + 1) (by omega) I1 _ _ fl g q5 (by omega) q6 hfl
        refine ⟨fl', I', r1, fun h => ⟨q2, r2 h⟩, r3, ?_, r5.mo (by omega), r6⟩
        rw [r4, q4.mp hz, Bool.false_or]
      · rw [if_neg hz, if_neg hz]
        obtain ⟨fl', I', r1, r2, r3, r4, r5, r6⟩ := ih (i + 1) (by omega) I1 _ _ 1 g q5 (by omega) q6 (Or.inr rfl)
        refine ⟨fl', I', r1, fun h => ⟨q2, r2 h⟩, r3, ?_, r5.mo (by omega), r6⟩
        rw [r4]
        have hno : ¬ eMov x (eC I0 (decide (mm = 1)) i) = false := fun h => hz (q4.mpr h)
        constructor
        · intro h; exact absurd h.1 (by decide)
        · intro h
          rw [Bool.or_eq_false_iff] at h
          exact absurd h.2.1 hno
    · have hb1 : ¬ _ := fun h => hbit (hb.mp h)
      rw [if_neg hb1, if_neg hb1]
      have hl : lF (eC I0 (decide (mm = 1))) s (d + 1) i = lF (eC I0 (decide (mm = 1))) s d (i + 1) := by
        show (if s / 2 ^ i % 2 = 0 then _ else _) ++ _ = _
        rw [if_neg hbit]
        rfl
      rw [hl]
      obtain ⟨fl', I', r1, r2, r3, r4, r5, r6⟩ := ih (i + 1) (by omega) I x B fl g hR (by omega) hF hfl
      exact ⟨fl', I', r1, r2, r3, r4, r5.mo (by omega), r6⟩
/-- all rounds -/
theorem st_out {I0 : am_I} {n s f : Nat} {mm : Int32} (hn : n ≤ 12) (hs : s < 2 ^ 31) (hw : ∀ k, k < n → tU I0 k) (hm : mm = 0 ∨ mm = 1) : ∀ (k r : Nat), r + k = 11 → ∀ (I : am_I) (x : Nat → Int) (B : Int) (g : Nat), Rd 36 I x B → B + 240000 * k ≤ 10000000 → Fr 36 I0 I → 15 * k < g → ∃ I', Fr 36 I0 I' ∧ ((stl (lF (eC I0 (decide (mm = 1))) s n 0) k x = none ∧ s_X5_settle_L11 (nI n) (nI s) mm f g 0 (nI r) 0 0 I = (0, I') ∧ p_X5_settle_L11 (nI n) (nI s) mm f g 0 (nI r) 0 0 I) ∨ ∃ z, stl (lF (eC I0 (decide (mm = 1))) s n 0) k x = some z ∧ s_X5_settle_L11 (nI n) (nI s) mm f g 0 (nI r) 0 0 I = (s_X5_areWithin f I' (nI n) (nI s) mm, I') ∧ (p_X5_areWithin f I' (nI n) (nI s) mm → p_X5_settle_L11 (nI n) (nI s) mm f g 0 (nI r) 0 0 I) ∧ Rd 36 I' z 10000000) := by
  intro k
  induction k with
  | zero =>
    intro r hr I x B g hR hB hF hg
    obtain ⟨g, rfl⟩ : ∃ k, g = k + 1 := ⟨g - 1, by omega⟩
    have hc : (10 : Int32) < nI r := nI_lt (a := 10) (by omega) (by omega)
    rw [u_s_X5_settle_L11_0, u_p_X5_settle_L11_0, if_pos hc, if_pos hc]
    exact ⟨I, hF, Or.inl ⟨rfl, rfl, trivial⟩⟩
  | succ k ih =>
    intro r hr I x B g hR hB hF hg
    obtain ⟨g, rfl⟩ : ∃ k, g = (k + n + 1) + 1 := ⟨g - (n + 2), by omega⟩
    have hc : ¬ (10 : Int32) < nI r := nI_nlt (a := 10) (by omega) (by omega)
    rw [u_s_X5_settle_L11_0, u_p_X5_settle_L11_0, if_neg hc, if_neg hc]
    obtain ⟨fl', I1, r1, r2, r3, r4, r5, r6⟩ := st_in (v4 := nI r) (f := f) hn hs hw hm n 0 (by omega) I x B 0 g hR (by omega) hF (Or.inl rfl)
    rw [nI_0] at r1 r2
    unfold stl
    by_cases hz : fl' = 0
    · have hno := (r4.mp hz).2
      rw [hno]
      rw [if_pos hz] at r1 r2
      rw [(eMov_no hno).1] at r5
      exact ⟨I1, r6, Or.inr ⟨x, by rw [if_neg (by decide)], r1, r2, r5.mo (by omega)⟩⟩
    · have hyes : eMov x (lF (eC I0 (decide (mm = 1))) s n 0) = true := by
        cases he : eMov x (lF (eC I0 (decide (mm = 1))) s n 0)
        · exact absurd (r4.mpr ⟨rfl, he⟩) hz
        · rfl
      rw [if_neg hz, nI_1] at r1 r2
      rw [if_pos hyes]
      obtain ⟨I', a1, a2⟩ := ih (r + 1) (by omega) I1 _ _ g r5 (by omega) r6 (by omega)
      refine ⟨I', a1, ?_⟩
      rcases a2 with ⟨b1, b2, b3⟩ | ⟨z, b1, b2, b3, b4⟩
      · exact Or.inl ⟨b1, r1.trans b2, r2 b3⟩
      · exact Or.inr ⟨z, b1, r1.trans b2, fun h => r2 (b3 h), b4⟩
/-- the upper bounds -/
def aw_U (I : am_I) (m : Bool) (n s : Nat) (x : Nat → Int) : Prop := (∀ e, e < 10 → x e ≤ 9999) ∧ ∀ k, k < n → s / 2 ^ k % 2 = 0 → I 30 k = 0 → x (I 31 k).toNatClampNeg ≤ if m then 9999 - (I 33 k).toInt else (I 34 k).toInt
theorem aw_2 {I0 I : am_I} {n s : Nat} {mm : Int32} {x : Nat → Int} {B : Int} (hn : n ≤ 12) (hs : s < 2 ^ 31) (hw : ∀ k, k < n → tU I0 k) (hm : mm = 0 ∨ mm = 1) (hR : Rd 36 I x B) (hF : Fr 36 I0 I) : ∀ d i g, i + d = n → 2 * d < g → p_X5_areWithin_L34 (nI n) (nI s) mm I g 0 (nI i) 0 ∧ (s_X5_areWithin_L34 (nI n) (nI s) mm I g 0 (nI i) 0 = 0 ∨ s_X5_areWithin_L34 (nI n) (nI s) mm I g 0 (nI i) 0 = 1) ∧ (s_X5_areWithin_L34 (nI n) (nI s) mm I g 0 (nI i) 0 = 1 ↔ ∀ k, i ≤ k → k < n → s / 2 ^ k % 2 = 0 → I0 30 k = 0 → x (I0 31 k).toNatClampNeg ≤ if (decide (mm = 1)) then 9999 - (I0 33 k).toInt else (I0 34 k).toInt) := by
  have r30 := hF 30 (by decide)
  have r31 := hF 31 (by decide)
  have r33 := hF 33 (by decide)
  have r34 := hF 34 (by decide)
  intro d
  induction d with
  | zero =>
    intro i g hi hg
    obtain ⟨g, rfl⟩ : ∃ k, g = k + 1 := ⟨g - 1, by omega⟩
    have hc : nI n ≤ nI i := nI_le (by omega) (by omega)
    rw [u_s_X5_areWithin_L34_0, u_p_X5_areWithin_L34_0, if_pos hc, if_pos hc]
    exact ⟨trivial, Or.inr rfl, fun _ k h1 h2 => by omega, fun _ => rfl⟩
  | succ d ih =>
    intro i g hi hg
    obtain ⟨g, rfl⟩ : ∃ k, g = k + 1 + 1 := ⟨g - 2, by omega⟩
    have hc : ¬ nI n ≤ nI i := nI_ge (by omega) (by omega)
    have hv : vp_in (nI i) 12 := vp_in_nI (by omega) (by omega)
    have hb := bit_0 (s := s) (k := i) hs (by omega)
    obtain ⟨w1, w2, w3⟩ := hw i (by omega)
    have c31 := ia_cn w1.1
    have h31 : (I0 31 i).toNatClampNeg < 10 := by omega
    have v31 : vp_in (I0 31 i) 10 := by rw [vp_in_iff]; omega
    obtain ⟨i1, i2, i3⟩ := ih (i + 1) g (by omega) (by omega)
    have n9 : (9999 : Int32).toInt = 9999 := rfl
    have main : ∀ t0 : Int32, (I0 30 i = 0 → t0.toInt = if (decide (mm = 1)) then 9999 - (I0 33 i).toInt else (I0 34 i).toInt) → p_X5_areWithin_L34 (nI n) (nI s) mm I (g + 1) 1 (nI i) t0 ∧ (s_X5_areWithin_L34 (nI n) (nI s) mm I (g + 1) 1 (nI i) t0 = 0 ∨ s_X5_areWithin_L34 (nI n) (nI s) mm I (g + 1) 1 (nI i) t0 = 1) ∧ (s_X5_areWithin_L34 (nI n) (nI s) mm I (g + 1) 1 (nI i) t0 = 1 ↔ ∀ k, i ≤ k → k < n → s / 2 ^ k % 2 = 0 → I0 30 k = 0 → x (I0 31 k).toNatClampNeg ≤ if (decide (mm = 1)) then 9999 - (I0 33 k).toInt else (I0 34 k).toInt) := by
      intro t0 ht
      have skip : (s / 2 ^ i % 2 = 0 → I0 30 i = 0 → x (I0 31 i).toNatClampNeg ≤ if (decide (mm = 1)) then 9999 - (I0 33 i).toInt else (I0 34 i).toInt) → ((∀ k, i + 1 ≤ k → k < n → s / 2 ^ k % 2 = 0 → I0 30 k = 0 → x (I0 31 k).toNatClampNeg ≤ if (decide (mm = 1)) then 9999 - (I0 33 k).toInt else (I0 34 k).toInt) ↔ ∀ k, i ≤ k → k < n → s / 2 ^ k % 2 = 0 → I0 30 k = 0 → x (I0 31 k).toNatClampNeg ≤ if (decide (mm = 1)) then 9999 - (I0 33 k).toInt else (I0 34 k).toInt) := by
        intro h0
        constructor
        · intro h k h1 h2 h3 h4
          by_cases hk : k = i
          · subst hk; exact h0 h3 h4
          · exact h k (by omega) h2 h3 h4
        · intro h k h1 h2
          exact h k (by omega) h2
      rw [u_s_X5_areWithin_L34_1, u_p_X5_areWithin_L34_1, nI_1, nI_clamp (n := i) (by omega), r30, r31]
      by_cases hf : I0 30 i = 0
      · simp only [if_pos hf]
        by_cases hbit : s / 2 ^ i % 2 = 0
        · have hb1 := hb.mpr hbit
          simp only [if_pos hb1]
          have ht' := ht hf
          by_cases hle : I 36 (I0 31 i).toNatClampNeg ≤ t0
          · simp only [if_pos hle]
            refine ⟨⟨hv, hv, v31, i1⟩, i2, i3.trans (skip fun _ _ => ?_)⟩
            rw [Int32.le_iff_toInt_le, hR.1 _ h31, ht'] at hle
            exact hle
          · simp only [if_neg hle]
            refine ⟨⟨hv, hv, v31, trivial⟩, Or.inl trivial, ⟨fun h => absurd h (by decide), fun h => absurd (h i (Nat.le_refl _) (by omega) hbit hf) ?_⟩⟩
            rw [Int32.le_iff_toInt_le, hR.1 _ h31, ht'] at hle
            exact hle
        · have hb1 : ¬ _ := fun h => hbit (hb.mp h)
          simp only [if_neg hb1]
          exact ⟨⟨hv, i1⟩, i2, i3.trans (skip fun h => absurd h hbit)⟩
      · simp only [if_neg hf]
        exact ⟨⟨hv, i1⟩, i2, i3.trans (skip fun _ h => absurd h hf)⟩
    rw [u_s_X5_areWithin_L34_0, u_p_X5_areWithin_L34_0, nI_clamp (n := i) (by omega), r33, r34]
    simp only [if_neg hc]
    rcases hm with rfl | rfl
    · simp only [if_true]
      obtain ⟨m1, m2, m3⟩ := main (I0 34 i) (fun _ => rfl)
      exact ⟨⟨hv, m1⟩, m2, m3⟩
    · simp only [if_neg (show ¬ (1 : Int32) = 0 by decide)]
      obtain ⟨m1, m2, m3⟩ := main (9999 - I0 33 i) (fun hf => by
        rcases w3 with ⟨f0, -, -, l1, l2, l3⟩ | ⟨f1, -⟩ | ⟨f2, -⟩
        · rw [ia_sub (by omega) (by omega), n9]; rfl
        · rw [f1] at hf; exact absurd hf (by decide)
        · rw [f2] at hf; exact absurd hf (by decide))
      exact ⟨⟨hv, m1⟩, m2, m3⟩
theorem aw_1 {I0 I : am_I} {n s f : Nat} {mm : Int32} {x : Nat → Int} {B : Int} (hn : n ≤ 12) (hs : s < 2 ^ 31) (hw : ∀ k, k < n → tU I0 k) (hm : mm = 0 ∨ mm = 1) (hR : Rd 36 I x B) (hF : Fr 36 I0 I) (hf : 100 ≤ f) : ∀ d i g, i + d = 10 → d < g → p_X5_areWithin_L3 (nI n) (nI s) mm f I g (nI i) ∧ (s_X5_areWithin_L3 (nI n) (nI s) mm f I g (nI i) = 0 ∨ s_X5_areWithin_L3 (nI n) (nI s) mm f I g (nI i) = 1) ∧ (s_X5_areWithin_L3 (nI n) (nI s) mm f I g (nI i) = 1 ↔ (∀ e, i ≤ e → e < 10 → x e ≤ 9999) ∧ ∀ k, k < n → s / 2 ^ k % 2 = 0 → I0 30 k = 0 → x (I0 31 k).toNatClampNeg ≤ if (decide (mm = 1)) then 9999 - (I0 33 k).toInt else (I0 34 k).toInt) := by
  intro d
  induction d with
  | zero =>
    intro i g hi hg
    obtain ⟨g, rfl⟩ : ∃ k, g = k + 1 := ⟨g - 1, by omega⟩
    have hc : (10 : Int32) ≤ nI i := nI_le (a := 10) (by omega) (by omega)
    rw [u_s_X5_areWithin_L3, u_p_X5_areWithin_L3, if_pos hc, if_pos hc]
    obtain ⟨a1, a2, a3⟩ := aw_2 hn hs hw hm hR hF n 0 f (by omega) (by omega)
    rw [nI_0] at a1 a2 a3
    refine ⟨a1, a2, a3.trans ⟨fun h => ⟨fun e h1 h2 => by omega, fun k => h k (Nat.zero_le _)⟩, fun h k _ => h.2 k⟩⟩
  | succ d ih =>
    intro i g hi hg
    obtain ⟨g, rfl⟩ : ∃ k, g = k + 1 := ⟨g - 1, by omega⟩
    have hc : ¬ (10 : Int32) ≤ nI i := nI_ge (b := 10) (by omega) (by omega)
    have hv : vp_in (nI i) 10 := vp_in_nI (by omega) (by omega)
    have n9 : (9999 : Int32).toInt = 9999 := rfl
    rw [u_s_X5_areWithin_L3, u_p_X5_areWithin_L3, nI_1, nI_clamp (n := i) (by omega)]
    simp only [if_neg hc]
    obtain ⟨i1, i2, i3⟩ := ih (i + 1) g (by omega) (by omega)
    by_cases hle : I 36 i ≤ 9999
    · simp only [if_pos hle]
      rw [Int32.le_iff_toInt_le, hR.1 _ (by omega), n9] at hle
      refine ⟨⟨hv, i1⟩, i2, i3.trans ⟨fun h => ⟨fun e h1 h2 => ?_, h.2⟩, fun h => ⟨fun e h1 h2 => h.1 e (by omega) h2, h.2⟩⟩⟩
      by_cases he : e = i
      · subst he; exact hle
      · exact h.1 e (by omega) h2
    · simp only [if_neg hle]
      rw [Int32.le_iff_toInt_le, hR.1 _ (by omega), n9] at hle
      exact ⟨⟨hv, trivial⟩, Or.inl trivial, fun h => absurd h (by decide), fun h => absurd (h.1 i (Nat.le_refl _) (by omega)) hle⟩
theorem stl_z {l : List Eg} (hl : ∀ t, t ∈ l → t.1 < 10) : ∀ k (x z : Nat → Int), stl l k x = some z → ∀ e, 10 ≤ e → z e = x e := by
  intro k
  induction k with
  | zero => intro x z h; cases h
  | succ k ih =>
    intro x z h e he
    unfold stl at h
    split at h
    · rw [ih _ _ h e he, eRun_out hl he]
    · cases h; rfl
/-- days counted forth or back -/
def cl_m (m : Bool) (x : Nat → Int) : Nat → Int := fun e => if e < 10 then (if m then 9999 - x e else x e) else 0
theorem cl_2 {m : Bool} {x : Nat → Int} (h : ∀ e, 10 ≤ e → x e = 0) : cl_m m (cl_m m x) = x := by
  funext e
  unfold cl_m
  by_cases he : e < 10
  · simp only [if_pos he]
    cases m
    · rfl
    · show 9999 - (9999 - x e) = x e
      omega
  · rw [if_neg he, h e (by omega)]
theorem cl_lt {m : Bool} {x : Nat → Int} {e : Nat} (he : e < 10) : cl_m m x e = if m then 9999 - x e else x e := by
  unfold cl_m
  rw [if_pos he]
theorem cl_10 {m : Bool} {x : Nat → Int} : cl_m m x 10 = 0 := rfl
theorem ts_k {I : am_I} {k : Nat} (hw : tU I k) (m : Bool) (x : Nat → Int) : tHold I k x ↔ (∀ t, t ∈ eC I m k → cl_m m x t.2.1 + t.2.2 ≤ cl_m m x t.1) ∧ (I 30 k = 0 → cl_m m x (I 31 k).toNatClampNeg ≤ if m then 9999 - (I 33 k).toInt else (I 34 k).toInt) := by
  obtain ⟨w1, w2, w3⟩ := hw
  have c31 := ia_cn w1.1
  have c32 := ia_cn w2.1
  have h31 : (I 31 k).toNatClampNeg < 10 := by omega
  have h32 : (I 32 k).toNatClampNeg < 10 := by omega
  unfold tHold eC
  rcases w3 with ⟨f0, -, -, l1, l2, l3⟩ | ⟨f1, -, -, l1, l2⟩ | ⟨f2, -, -⟩
  · rw [if_pos f0, if_pos f0]
    simp only [List.mem_singleton, forall_eq, cl_lt h31, cl_10, f0, forall_const]
    cases m
    · simp only [Bool.false_eq_true, if_false]
      constructor <;> intro h <;> constructor <;> omega
    · simp only [if_true]
      constructor <;> intro h <;> constructor <;> omega
  · have n0 : ¬ I 30 k = 0 := by rw [f1]; decide
    rw [if_neg n0, if_neg n0, if_pos f1, if_pos f1]
    cases m
    · simp only [Bool.false_eq_true, if_false, List.mem_singleton, forall_eq, cl_lt h31, cl_lt h32]
      exact ⟨fun h => ⟨h, fun c => absurd c n0⟩, fun h => h.1⟩
    · simp only [if_true, List.mem_singleton, forall_eq, cl_lt h31, cl_lt h32]
      exact ⟨fun h => ⟨by omega, fun c => absurd c n0⟩, fun h => by have := h.1; omega⟩
  · have n0 : ¬ I 30 k = 0 := by rw [f2]; decide
    have n1 : ¬ I 30 k = 1 := by rw [f2]; decide
    rw [if_neg n0, if_neg n0, if_neg n1, if_neg n1]
    simp only [List.mem_cons, List.not_mem_nil, or_false, forall_eq_or_imp, forall_eq, cl_lt h31, cl_lt h32]
    cases m
    · simp only [Bool.false_eq_true, if_false]
      exact ⟨fun h => ⟨⟨by omega, by omega⟩, fun c => absurd c n0⟩, fun h => by have := h.1.1; have := h.1.2; omega⟩
    · simp only [if_true]
      exact ⟨fun h => ⟨⟨by omega, by omega⟩, fun c => absurd c n0⟩, fun h => by have := h.1.1; have := h.1.2; omega⟩
theorem ts_c {I : am_I} {n s : Nat} (hw : ∀ k, k < n → tU I k) (m : Bool) (x : Nat → Int) : tSol I n s x ↔ (∀ e, 0 ≤ cl_m m x e) ∧ eOk (lF (eC I m) s n 0) (cl_m m x) ∧ aw_U I m n s (cl_m m x) := by
  unfold tSol eOk aw_U
  constructor
  · rintro ⟨h1, h2⟩
    refine ⟨fun e => ?_, fun t ht => ?_, fun e he => ?_, fun k hk hb hf => ?_⟩
    · by_cases he : e < 10
      · rw [cl_lt he]
        have := h1 e he
        cases m
        · simp only [Bool.false_eq_true, if_false]; omega
        · simp only [if_true]; omega
      · unfold cl_m
        rw [if_neg he]
        exact Int.le_refl _
    · obtain ⟨k, k1, k2, k3, k4⟩ := (lF_mem n 0).mp ht
      exact ((ts_k (hw k (by omega)) m x).mp (h2 k (by omega) k3)).1 t k4
    · rw [cl_lt he]
      have := h1 e he
      cases m
      · simp only [Bool.false_eq_true, if_false]; omega
      · simp only [if_true]; omega
    · exact ((ts_k (hw k hk) m x).mp (h2 k hk hb)).2 hf
  · rintro ⟨h1, h2, h3, h4⟩
    refine ⟨fun e he => ?_, fun k hk hb => ?_⟩
    · have a := h1 e
      have b := h3 e he
      rw [cl_lt he] at a b
      cases m
      · simp only [Bool.false_eq_true, if_false] at a b; omega
      · simp only [if_true] at a b; omega
    · refine (ts_k (hw k hk) m x).mpr ⟨fun t ht => h2 t ?_, fun hf => h4 k hk hb hf⟩
      exact (lF_mem n 0).mpr ⟨k, Nat.zero_le _, by omega, hb, ht⟩
theorem eC_lt {I : am_I} {n s : Nat} (hw : ∀ k, k < n → tU I k) (m : Bool) : ∀ t, t ∈ lF (eC I m) s n 0 → t.1 < 10 := by
  intro t ht
  obtain ⟨k, k1, k2, k3, k4⟩ := (lF_mem n 0).mp ht
  obtain ⟨w1, w2, w3⟩ := hw k (by omega)
  have c31 := ia_cn w1.1
  have c32 := ia_cn w2.1
  have h31 : (I 31 k).toNatClampNeg < 10 := by omega
  have h32 : (I 32 k).toNatClampNeg < 10 := by omega
  unfold eC at k4
  split at k4
  · rw [List.mem_singleton] at k4; rw [k4]; exact h31
  · split at k4
    · split at k4
      · rw [List.mem_singleton] at k4; rw [k4]; exact h32
      · rw [List.mem_singleton] at k4; rw [k4]; exact h31
    · rcases List.mem_cons.mp k4 with h | h
      · rw [h]; exact h31
      · rw [List.mem_singleton] at h; rw [h]; exact h32
theorem aw_mo {I : am_I} {m : Bool} {n s : Nat} {x y : Nat → Int} (h : ∀ e, x e ≤ y e) (hy : aw_U I m n s y) : aw_U I m n s x := ⟨fun e he => Int.le_trans (h e) (hy.1 e he), fun k h1 h2 h3 => Int.le_trans (h _) (hy.2 k h1 h2 h3)⟩
/-- the class's settling: whether the tellings agree, and the first (last) days -/
theorem st_sp {I : am_I} {n s f : Nat} {mm : Int32} (hn : n ≤ 12) (hs : s < 2 ^ 31) (hw : ∀ k, k < n → tU I k) (hm : mm = 0 ∨ mm = 1) (hf : 200 ≤ f) : ∃ (r : Int32) (I' : am_I), s_X5_settle f I (nI n) (nI s) mm = (r, I') ∧ p_X5_settle f I (nI n) (nI s) mm ∧ Fr 36 I I' ∧ (r = 0 ∨ r = 1) ∧ (r = 1 ↔ tSat I n s) ∧ (tSat I n s → ∃ z, (∀ e, e < 10 → (I' 36 e).toInt = z e) ∧ tSol I n s (cl_m (decide (mm = 1)) z) ∧ ∀ x, tSol I n s x → ∀ e, e < 10 → z e ≤ cl_m (decide (mm = 1)) x e) := by
  obtain ⟨I1, a1, a2, a3, a4⟩ := fl_36a (I := I) (f := f) (by omega)
  obtain ⟨I', b1, b2⟩ := st_out (f := f) hn hs hw hm 11 0 (by omega) I1 (fun _ => 0) 0 f a4 (by omega) a3 (by omega)
  unfold s_X5_settle p_X5_settle
  rw [a1]
  rw [nI_0] at b2
  have hsat : tSat I n s → ∃ y, (∀ e, 0 ≤ y e) ∧ (∀ e, 10 ≤ e → y e = 0) ∧ eOk (lF (eC I (decide (mm = 1))) s n 0) y ∧ aw_U I (decide (mm = 1)) n s y := by
    rintro ⟨x, hx⟩
    obtain ⟨c1, c2, c3⟩ := (ts_c hw (decide (mm = 1)) x).mp hx
    exact ⟨_, c1, fun e he => by unfold cl_m; rw [if_neg (by omega)], c2, c3⟩
  rcases b2 with ⟨c1, c2, c3⟩ | ⟨z, c1, c2, c3, c4⟩
  · have hno : ¬ tSat I n s := by
      intro h
      obtain ⟨y, y1, y2, y3, y4⟩ := hsat h
      obtain ⟨z, hz⟩ := stl_11 (eC_lt hw _) (x0 := fun _ => 0) (y := y) ⟨y1, fun e he => y2 e he, y3⟩
      rw [c1] at hz
      cases hz
    rw [c2]
    exact ⟨0, I', rfl, ⟨a2, c3⟩, b1, Or.inl rfl, ⟨fun h => absurd h (by decide), fun h => absurd h hno⟩, fun h => absurd h hno⟩
  · obtain ⟨d1, d2, d3⟩ := aw_1 hn hs hw hm c4 b1 (show 100 ≤ f by omega) 10 0 f (by omega) (by omega)
    rw [nI_0] at d1 d2 d3
    obtain ⟨z1, z2, z3⟩ := stl_some _ _ _ c1
    have z0 := stl_z (eC_lt hw _) _ _ _ c1
    have haw : s_X5_areWithin f I' (nI n) (nI s) mm = 1 ↔ aw_U I (decide (mm = 1)) n s z := by
      refine d3.trans ?_
      unfold aw_U
      exact ⟨fun h => ⟨fun e he => h.1 e (Nat.zero_le _) he, h.2⟩, fun h => ⟨fun e _ he => h.1 e he, h.2⟩⟩
    have hsol : aw_U I (decide (mm = 1)) n s z → tSol I n s (cl_m (decide (mm = 1)) z) := by
      intro h
      rw [ts_c hw (decide (mm = 1)), cl_2 z0]
      exact ⟨z2, z1, h⟩
    have hto : tSat I n s → aw_U I (decide (mm = 1)) n s z := by
      intro h
      obtain ⟨y, y1, y2, y3, y4⟩ := hsat h
      exact aw_mo (z3 y y1 y3) y4
    rw [c2]
    refine ⟨_, I', rfl, ⟨a2, c3 d1⟩, b1, d2, haw.trans ⟨fun h => ⟨_, hsol h⟩, hto⟩, fun h => ⟨z, c4.1, hsol (hto h), fun x hx e he => ?_⟩⟩
    obtain ⟨x1, x2, x3⟩ := (ts_c hw (decide (mm = 1)) x).mp hx
    exact z3 _ x1 x2 e
