/-! ===== rules of a consent: the reference ===== -/
theorem vl_m {I0 : am_I} {i n o : Nat} {r vv : Nat → Int32} {a1 : Int32} (ho : o + n ≤ 12000) (hv : ∀ q, q < 7 → I0 83 q = vv q) (hc : ∀ j, j < n → cCl (r (i + j)) (I0 65 (o + j)) (I0 66 (o + j))) (hH : hgt r i n = some 1) : ∀ d j, j + d = n → ∀ (I : am_I) (g h : Nat), Fr 84 I0 I → hgt r i j = some h → (∀ k, k < h → I 84 k = evf vv r i j k) → d < g → ∃ I', s_X10_value_L5 a1 (nI (o + n)) g (nI h) (nI (o + j)) I = (evf vv r i n 0, I') ∧ p_X10_value_L5 a1 (nI (o + n)) g (nI h) (nI (o + j)) I ∧ Fr 84 I0 I' := by
  intro d
  induction d with
  | zero =>
    intro j hj I g h hF h1 h3 hg
    obtain ⟨g, rfl⟩ : ∃ k, g = k + 1 := ⟨g - 1, by omega⟩
    rw [show j = n by omega] at h1 h3 ⊢
    rw [hH] at h1
    cases h1
    have hle : nI (o + n) ≤ nI (o + n) := nI_le (Nat.le_refl _) (by omega)
    rw [u_s_X10_value_L5, u_p_X10_value_L5, if_pos hle, if_pos hle]
    refine ⟨I, ?_, trivial, hF⟩
    rw [← h3 0 (by omega)]
    rfl
  | succ d ih =>
    intro j hj I g h hF h1 h3 hg
    obtain ⟨g, rfl⟩ : ∃ k, g = k + 1 := ⟨g - 1, by omega⟩
    have hlt : ¬ nI (o + n) ≤ nI (o + j) := nI_ge (by omega) (by omega)
    have r65 := hF 65 (by decide)
    have r66 := hF 66 (by decide)
    have r83 := hF 83 (by decide)
    have hle := hgt_le h1
    obtain ⟨h', e'⟩ := hgt_pre hH d (j + 1) (by omega)
    obtain ⟨h0, e0, cs⟩ := hgt_st e'
    rw [h1] at e0
    cases e0
    have vo : vp_in (nI (o + j)) 12000 := vp_in_nI (by omega) (by omega)
    rw [u_s_X10_value_L5, u_p_X10_value_L5, if_neg hlt, if_neg hlt, nI_1, nI_1, nI_clamp (n := o + j) (by omega), r65, r66, r83]
    rcases cCl_t (hc j (by omega)) with ⟨m, m1, m2, m3, m4, m5⟩ | ⟨m, m1, m2, m3, m4, m5⟩ | ⟨m, m1, m2, m3, m4⟩
    · have n2 : ¬ (2 : Int32) ≤ I0 65 (o + j) := by rw [m4]; decide
      have nop : ¬ 10017 ≤ (r (i + j)).toInt := by omega
      have ch : h' = h + 1 ∧ h < 15 := by rcases cs with c | c; exact absurd c.1 nop; exact ⟨c.2.2, c.2.1⟩
      rw [if_neg n2, if_neg n2, if_pos m4, if_pos m4, nI_clamp (n := h) (by omega)]
      obtain ⟨I', q1, q2, q3⟩ := ih (j + 1) (by omega) (am_w I 84 h (I0 66 (o + j))) g h' hF.w e' (fun k hk => by
        rw [evf_v h1 nop]
        by_cases hk2 : k = h
        · subst hk2
          rw [aw_s, va_eq, m5, m2, vlv_i m1]
        · rw [aw_n hk2, va_ne hk2, h3 k (by omega)]) (by omega)
      rw [ch.1] at q1 q2
      exact ⟨I', q1, ⟨vo, vo, vo, vp_in_nI (by omega) (by omega), q2⟩, q3⟩
    · have n2 : ¬ (2 : Int32) ≤ I0 65 (o + j) := by rw [m4]; decide
      have n0 : ¬ I0 65 (o + j) = 0 := by rw [m4]; decide
      have nop : ¬ 10017 ≤ (r (i + j)).toInt := by omega
      have ch : h' = h + 1 ∧ h < 15 := by rcases cs with c | c; exact absurd c.1 nop; exact ⟨c.2.2, c.2.1⟩
      rw [if_neg n2, if_neg n2, if_neg n0, if_neg n0, nI_clamp (n := h) (by omega), m5, nI_clamp (n := m) (by omega), hv m m1]
      obtain ⟨I', q1, q2, q3⟩ := ih (j + 1) (by omega) (am_w I 84 h (vv m)) g h' hF.w e' (fun k hk => by
        rw [evf_v h1 nop]
        by_cases hk2 : k = h
        · subst hk2
          rw [aw_s, va_eq, m2, vlv_v m1]
        · rw [aw_n hk2, va_ne hk2, h3 k (by omega)]) (by omega)
      rw [ch.1] at q1 q2
      exact ⟨I', q1, ⟨vo, vo, vo, vp_in_nI m1 (by omega), vp_in_nI (by omega) (by omega), q2⟩, q3⟩
    · have y2 : (2 : Int32) ≤ I0 65 (o + j) := by rw [m4]; exact nI_le (a := 2) (by omega) (by omega)
      have op : 10017 ≤ (r (i + j)).toInt := by omega
      have ch : h' = h - 1 ∧ 2 ≤ h := by rcases cs with c | c; exact ⟨c.2.2, c.2.1⟩; exact absurd op c.1
      obtain ⟨t, rfl⟩ : ∃ t, h = t + 1 + 1 := ⟨h - 2, by omega⟩
      rw [if_pos y2, if_pos y2, pk_m1, nI_pred, nI_clamp (n := t) (by omega), nI_clamp (n := t + 1) (by omega)]
      have e1 : I 84 t = evf vv r i j t := h3 t (by omega)
      have e2 : I 84 (t + 1) = evf vv r i j (t + 1) := h3 (t + 1) (by omega)
      have go : ∀ w : Int32, w = opv (r (i + j)) (I 84 t) (I 84 (t + 1)) → ∃ I', s_X10_value_L5 a1 (nI (o + n)) g (nI (t + 1)) (nI (o + (j + 1))) (am_w I 84 t w) = (evf vv r i n 0, I') ∧ p_X10_value_L5 a1 (nI (o + n)) g (nI (t + 1)) (nI (o + (j + 1))) (am_w I 84 t w) ∧ Fr 84 I0 I' := fun w hw => by
        have := ih (j + 1) (by omega) (am_w I 84 t w) g h' hF.w e' (fun k hk => by
          rw [evf_o h1 op]
          show am_w I 84 t w 84 k = va_up _ t _ k
          by_cases hk2 : k = t
          · subst hk2
            rw [aw_s, va_eq, hw, e1, e2]
            rfl
          · rw [aw_n hk2, va_ne hk2, h3 k (by omega)]) (by omega)
        rw [ch.1] at this
        exact this
      have vt : vp_in (nI t) 500 := vp_in_nI (by omega) (by omega)
      have vt1 : vp_in (nI (t + 1)) 500 := vp_in_nI (by omega) (by omega)
      have m012 : m = 0 ∨ m = 1 ∨ m = 2 := by omega
      rcases m012 with rfl | rfl | rfl
      · have k2 : I0 65 (o + j) = 2 := m4
        rw [if_pos k2, if_pos k2]
        obtain ⟨I', q1, q2, q3⟩ := go (I 84 t + I 84 (t + 1)) (by unfold opv; rw [m2]; rfl)
        exact ⟨I', q1, ⟨vo, vt, vt1, vo, vt, q2⟩, q3⟩
      · have k2 : ¬ I0 65 (o + j) = 2 := by rw [m4]; decide
        have k3 : I0 65 (o + j) = 3 := m4
        rw [if_neg k2, if_neg k2, if_pos k3, if_pos k3]
        obtain ⟨I', q1, q2, q3⟩ := go (I 84 t - I 84 (t + 1)) (by unfold opv; rw [m2]; rfl)
        exact ⟨I', q1, ⟨vo, vt, vt1, vo, vo, vt, q2⟩, q3⟩
      · have k2 : ¬ I0 65 (o + j) = 2 := by rw [m4]; decide
        have k3 : ¬ I0 65 (o + j) = 3 := by rw [m4]; decide
        rw [if_neg k2, if_neg k2, if_neg k3, if_neg k3]
        obtain ⟨I', q1, q2, q3⟩ := go (I 84 t * I 84 (t + 1)) (by unfold opv; rw [m2]; rfl)
        exact ⟨I', q1, ⟨vo, vt, vt1, vo, vo, vt, q2⟩, q3⟩
theorem vl_a {I : am_I} {i n o f e : Nat} {r vv : Nat → Int32} (ho : o + n ≤ 12000) (hv : ∀ q, q < 7 → I 83 q = vv q) (hc : ∀ j, j < n → cCl (r (i + j)) (I 65 (o + j)) (I 66 (o + j))) (hH : hgt r i n = some 1) (hf : n < f) (he : e = o + n) : ∃ I', s_X10_value f I (nI o) (nI e) = (evf vv r i n 0, I') ∧ p_X10_value f I (nI o) (nI e) ∧ Fr 84 I I' := by
  subst he
  obtain ⟨I', q1, q2, q3⟩ := vl_m (a1 := nI o) ho hv hc hH n 0 (by omega) I f 0 Fr.rf rfl (fun k hk => by omega) hf
  exact ⟨I', q1, q2, q3⟩
theorem ix200 {g l : Nat} : 200 * nI g + nI l = nI (200 * g + l) := by
  show nI 200 * nI g + nI l = _
  rw [pk_mul, nI_add]
theorem ix16 {g l : Nat} : 16 * nI g + nI l = nI (16 * g + l) := by
  show nI 16 * nI g + nI l = _
  rw [pk_mul, nI_add]
def EM (M : am_I) (vv : Nat → Int32) (tl : Int32) (I : am_I) : Prop := Fr 84 M I ∧ (∀ q, q < 7 → M 83 q = vv q) ∧ M 46 59 = tl
theorem EM.st {M I I' : am_I} {vv : Nat → Int32} {tl : Int32} (h : EM M vv tl I) (hF : Fr 84 I I') : EM M vv tl I' := ⟨h.1.tr hF, h.2⟩
theorem it_m {c I M : am_I} {g R L S : Nat} {rb lb md : Nat → Nat} {vv : Nat → Int32} {tl : Int32} (hX : CX c M g R L S rb lb md) (hg : g < 24) (hE : EM M vv tl I) {l f : Nat} (hl : l < L) (hf : 1000 ≤ f) : ∃ I', s_X10_isTrue f I (nI (200 * g + l)) = (bI (ltB c lb md vv tl l), I') ∧ p_X10_isTrue f I (nI (200 * g + l)) ∧ EM M vv tl I' := by
  obtain ⟨x1, x2, x3, x4, x5, x6, x7, x8, x9, x10⟩ := hX
  obtain ⟨u1, u2, u3, u4, u5, u6, u7, u8, u9, u10⟩ := x9 l hl
  obtain ⟨hF, hv, ht⟩ := hE
  have v48 : vp_in (nI (200 * g + l)) 4800 := vp_in_nI (by omega) (by omega)
  have r60 := hF 60 (by decide)
  have r61 := hF 61 (by decide)
  have r62 := hF 62 (by decide)
  have r63 := hF 63 (by decide)
  have r66 := hF 66 (by decide)
  have r46 := hF 46 (by decide)
  rcases u8 with ⟨t6, k4, hone, v, hv12, hcv⟩ | ⟨s, hs4, ts, ks, m1, m2, m62, hg1, hg2⟩
  · have e66 : M 66 (500 * g + lb l) = nI v := by
      have hcl := x10 (lb l) (by omega)
      rw [hcv] at hcl
      have tv : (nI v).toInt = v := nI_toInt (by omega)
      rcases cCl_t hcl with ⟨n, h1, h2, h3, h4, h5⟩ | ⟨n, h1, h2, h3, -⟩ | ⟨n, h1, h2, h3, -⟩
      · rw [h5, h2]
      · omega
      · omega
    unfold s_X10_isTrue p_X10_isTrue
    rw [nI_clamp (n := 200 * g + l) (by omega), r60, k4, if_pos rfl, if_pos rfl, r61, u3, nI_clamp (n := 500 * g + lb l) (by omega), r66, e66, r46, ht]
    refine ⟨I, ?_, ⟨v48, v48, vp_in_nI (by omega) (by omega)⟩, hF, hv, ht⟩
    unfold ltB bI
    rw [if_pos t6, hcv]
    by_cases hbit : ((tl >>> (nI v &&& 31)) &&& 1) = 1
    · rw [if_pos hbit, decide_eq_true hbit]; rfl
    · rw [if_neg hbit, decide_eq_false hbit]; rfl
  · have n4 : ¬ nI s = 4 := by
      have : s = 0 ∨ s = 1 ∨ s = 2 ∨ s = 3 := by omega
      rcases this with h | h | h | h <;> subst h <;> decide
    have hc1 : ∀ K, Fr 84 M K → ∀ j, j < md l - lb l → cCl (c 7 (lb l + j)) (K 65 (500 * g + lb l + j)) (K 66 (500 * g + lb l + j)) := fun K hK j hj => by
      rw [hK 65 (by decide), hK 66 (by decide), Nat.add_assoc]
      exact x10 (lb l + j) (by omega)
    have hc2 : ∀ K, Fr 84 M K → ∀ j, j < lb (l + 1) - md l → cCl (c 7 (md l + j)) (K 65 (500 * g + md l + j)) (K 66 (500 * g + md l + j)) := fun K hK j hj => by
      rw [hK 65 (by decide), hK 66 (by decide), Nat.add_assoc]
      exact x10 (md l + j) (by omega)
    have hvK : ∀ K, Fr 84 M K → ∀ q, q < 7 → K 83 q = vv q := fun K hK q hq => by rw [hK 83 (by decide)]; exact hv q hq
    obtain ⟨I1, p1, p2, p3⟩ := vl_a (I := I) (o := 500 * g + lb l) (f := f) (e := 500 * g + md l) (by omega) (hvK I hF) (hc1 I hF) hg1 (by omega) (by omega)
    obtain ⟨I2, q1, q2, q3⟩ := vl_a (I := I1) (o := 500 * g + md l) (f := f) (e := 500 * g + lb (l + 1)) (by omega) (hvK I1 (hF.tr p3)) (hc2 I1 (hF.tr p3)) hg2 (by omega) (by omega)
    have w62 : I1 62 (200 * g + l) = nI (500 * g + md l) := by rw [(hF.tr p3) 62 (by decide)]; exact m62
    have w63 : I1 63 (200 * g + l) = nI (500 * g + lb (l + 1)) := by rw [(hF.tr p3) 63 (by decide)]; exact u4
    have w60 : I2 60 (200 * g + l) = nI s := by rw [((hF.tr p3).tr q3) 60 (by decide)]; exact ks
    unfold s_X10_isTrue p_X10_isTrue
    rw [nI_clamp (n := 200 * g + l) (by omega), r60, r61, r62, ks, u3, m62, if_neg n4, if_neg n4, p1]
    simp only [w62, w63, q1, w60]
    refine ⟨I2, ?_, ⟨v48, v48, v48, p2, v48, v48, q2, v48, ?_⟩, (hF.tr p3).tr q3, hv, ht⟩
    · have s4 : s = 0 ∨ s = 1 ∨ s = 2 ∨ s = 3 := by omega
      rcases s4 with rfl | rfl | rfl | rfl
      · have c0 : c 3 l = 20 := ts
        have e : ltB c lb md vv tl l = decide (evf vv (c 7) (lb l) (md l - lb l) 0 = evf vv (c 7) (md l) (lb (l + 1) - md l) 0) := by
          unfold ltB
          rw [if_neg (by rw [c0]; decide), if_pos c0]
        rw [if_pos (show nI 0 = 0 from rfl), e]
        by_cases hq : evf vv (c 7) (lb l) (md l - lb l) 0 = evf vv (c 7) (md l) (lb (l + 1) - md l) 0
        · rw [if_pos hq, decide_eq_true hq]; rfl
        · rw [if_neg hq, decide_eq_false hq]; rfl
      · have c0 : c 3 l = 21 := ts
        have e : ltB c lb md vv tl l = !(decide (evf vv (c 7) (lb l) (md l - lb l) 0 = evf vv (c 7) (md l) (lb (l + 1) - md l) 0)) := by
          unfold ltB
          rw [if_neg (by rw [c0]; decide), if_neg (by rw [c0]; decide), if_pos c0]
        rw [if_neg (show ¬ nI 1 = 0 by decide), if_pos (show nI 1 = 1 from rfl), e]
        by_cases hq : evf vv (c 7) (lb l) (md l - lb l) 0 = evf vv (c 7) (md l) (lb (l + 1) - md l) 0
        · rw [if_pos hq, decide_eq_true hq]; rfl
        · rw [if_neg hq, decide_eq_false hq]; rfl
      · have c0 : c 3 l = 22 := ts
        have e : ltB c lb md vv tl l = !(decide (evf vv (c 7) (md l) (lb (l + 1) - md l) 0 ≤ evf vv (c 7) (lb l) (md l - lb l) 0)) := by
          unfold ltB
          rw [if_neg (by rw [c0]; decide), if_neg (by rw [c0]; decide), if_neg (by rw [c0]; decide), if_pos c0]
        rw [if_neg (show ¬ nI 2 = 0 by decide), if_neg (show ¬ nI 2 = 1 by decide), if_pos (show nI 2 = 2 from rfl), e]
        by_cases hq : evf vv (c 7) (md l) (lb (l + 1) - md l) 0 ≤ evf vv (c 7) (lb l) (md l - lb l) 0
        · rw [if_pos hq, decide_eq_true hq]; rfl
        · rw [if_neg hq, decide_eq_false hq]; rfl
      · have c0 : c 3 l = 23 := ts
        have e : ltB c lb md vv tl l = !(decide (evf vv (c 7) (md l) (lb (l + 1) - md l) 0 < evf vv (c 7) (lb l) (md l - lb l) 0)) := by
          unfold ltB
          rw [if_neg (by rw [c0]; decide), if_neg (by rw [c0]; decide), if_neg (by rw [c0]; decide), if_neg (by rw [c0]; decide)]
        rw [if_neg (show ¬ nI 3 = 0 by decide), if_neg (show ¬ nI 3 = 1 by decide), if_neg (show ¬ nI 3 = 2 by decide), e]
        by_cases hq : evf vv (c 7) (md l) (lb (l + 1) - md l) 0 < evf vv (c 7) (lb l) (md l - lb l) 0
        · rw [if_pos hq, decide_eq_true hq]; rfl
        · rw [if_neg hq, decide_eq_false hq]; rfl
    · split
      · trivial
      · refine ⟨v48, ?_⟩
        split
        · trivial
        · exact v48
theorem hd_m {c M : am_I} {g R L S : Nat} {rb lb md : Nat → Nat} {vv : Nat → Int32} {tl : Int32} (hX : CX c M g R L S rb lb md) (hg : g < 24) {r f : Nat} (hr : r < R) (hf : 1000 ≤ f) : ∀ d l, l + d = rb (r + 1) → ∀ (I : am_I) (g' : Nat) (all : Bool), EM M vv tl I → 2 * d < g' → ∃ I', s_X10_holds_L27 (nI (16 * g + r)) (nI g) f g' 0 (bI all) (nI l) 0 I = (bI (rht (fun l => decide (c 5 l = 1)) (ltB c lb md vv tl) d l all), I') ∧ p_X10_holds_L27 (nI (16 * g + r)) (nI g) f g' 0 (bI all) (nI l) 0 I ∧ EM M vv tl I' := by
  have hR := hX.1
  have hL := hX.2.1
  obtain ⟨z1, z2, z3, z4, z5, z6, z7, z8⟩ := hX.2.2.2.2.2.2.2.1 r hr
  have v384 : vp_in (nI (16 * g + r)) 384 := vp_in_nI (by omega) (by omega)
  intro d
  induction d with
  | zero =>
    intro l hl I g' all hE hg'
    obtain ⟨g', rfl⟩ : ∃ k, g' = k + 1 := ⟨g' - 1, by omega⟩
    have h58 : I 58 (16 * g + r) = nI (rb (r + 1)) := by rw [hE.1 58 (by decide)]; exact z4
    have hc : nI (rb (r + 1)) ≤ nI l := nI_le (by omega) (by omega)
    rw [u_s_X10_holds_L27_0, u_p_X10_holds_L27_0, nI_clamp (n := 16 * g + r) (by omega), h58, if_pos hc, if_pos hc]
    exact ⟨I, rfl, ⟨v384, by cases all; exact Or.inl rfl; exact Or.inr rfl⟩, hE⟩
  | succ d ih =>
    intro l hl I g' all hE hg'
    obtain ⟨g', rfl⟩ : ∃ k, g' = k + 1 + 1 := ⟨g' - 2, by omega⟩
    have h58 : I 58 (16 * g + r) = nI (rb (r + 1)) := by rw [hE.1 58 (by decide)]; exact z4
    have hli := hX.2.2.2.2.2.2.2.2.1 l (by omega)
    have h64 : I 64 (200 * g + l) = c 5 l := by rw [hE.1 64 (by decide)]; exact hli.2.1
    have hc : ¬ nI (rb (r + 1)) ≤ nI l := nI_ge (by omega) (by omega)
    have v48 : vp_in (nI (200 * g + l)) 4800 := vp_in_nI (by omega) (by omega)
    rw [u_s_X10_holds_L27_0, u_p_X10_holds_L27_0, nI_clamp (n := 16 * g + r) (by omega), h58, if_neg hc, if_neg hc, ix200, nI_clamp (n := 200 * g + l) (by omega), h64]
    obtain ⟨I1, t1, t2, t3⟩ := it_m hX hg hE (show l < L by omega) hf
    have lit : ∃ I', (if bI (ltB c lb md vv tl l) = 0 then s_X10_holds_L27 (nI (16 * g + r)) (nI g) f g' 0 0 (nI (l + 1)) 0 I1 else s_X10_holds_L27 (nI (16 * g + r)) (nI g) f g' 0 1 (nI (l + 1)) 0 I1) = (bI (rht (fun l => decide (c 5 l = 1)) (ltB c lb md vv tl) d (l + 1) (ltB c lb md vv tl l)), I') ∧ (if bI (ltB c lb md vv tl l) = 0 then p_X10_holds_L27 (nI (16 * g + r)) (nI g) f g' 0 0 (nI (l + 1)) 0 I1 else p_X10_holds_L27 (nI (16 * g + r)) (nI g) f g' 0 1 (nI (l + 1)) 0 I1) ∧ EM M vv tl I' := by
      obtain ⟨I', q1, q2, q3⟩ := ih (l + 1) (by omega) I1 g' (ltB c lb md vv tl l) t3 (by omega)
      cases hb : ltB c lb md vv tl l
      · rw [hb] at q1 q2
        rw [if_pos (show bI false = 0 from rfl), if_pos (show bI false = 0 from rfl)]
        exact ⟨I', q1, q2, q3⟩
      · rw [hb] at q1 q2
        rw [if_neg (show ¬ bI true = 0 by decide), if_neg (show ¬ bI true = 0 by decide)]
        exact ⟨I', q1, q2, q3⟩
    rcases hli.1 with s0 | s1
    · have hso : decide (c 5 l = 1) = false := by rw [s0]; decide
      have hrt : rht (fun l => decide (c 5 l = 1)) (ltB c lb md vv tl) (d + 1) l all = rht (fun l => decide (c 5 l = 1)) (ltB c lb md vv tl) d (l + 1) (all && ltB c lb md vv tl l) := by
        show (if decide (c 5 l = 1) = true then _ else _) = _
        rw [if_neg (by rw [hso]; decide)]
      rw [if_pos s0, if_pos s0, hrt, u_s_X10_holds_L27_1, u_p_X10_holds_L27_1, nI_clamp (n := 200 * g + l) (by omega), h64, if_pos s0, if_pos s0, nI_1, t1]
      simp only
      cases all
      · rw [if_pos (show bI false = 0 from rfl), if_pos (show bI false = 0 from rfl), Bool.false_and]
        obtain ⟨I', q1, q2, q3⟩ := ih (l + 1) (by omega) I g' false hE (by omega)
        exact ⟨I', q1, ⟨v384, v48, v48, q2⟩, q3⟩
      · rw [if_neg (show ¬ bI true = 0 by decide), if_neg (show ¬ bI true = 0 by decide), Bool.true_and]
        obtain ⟨I', q1, q2, q3⟩ := lit
        exact ⟨I', q1, ⟨v384, v48, v48, t2, q2⟩, q3⟩
    · have n0 : ¬ c 5 l = 0 := by rw [s1]; decide
      have hso : decide (c 5 l = 1) = true := by rw [s1]; decide
      rw [if_neg n0, if_neg n0]
      cases all
      · have hrt : rht (fun l => decide (c 5 l = 1)) (ltB c lb md vv tl) (d + 1) l false = rht (fun l => decide (c 5 l = 1)) (ltB c lb md vv tl) d (l + 1) (ltB c lb md vv tl l) := by
          show (if decide (c 5 l = 1) = true then (if false = true then _ else _) else _) = _
          rw [if_pos hso, if_neg (by decide)]
        rw [if_pos (show bI false = 0 from rfl), if_pos (show bI false = 0 from rfl), hrt, u_s_X10_holds_L27_1, u_p_X10_holds_L27_1, nI_clamp (n := 200 * g + l) (by omega), h64, if_neg n0, if_neg n0, nI_1, t1]
        simp only
        obtain ⟨I', q1, q2, q3⟩ := lit
        exact ⟨I', q1, ⟨v384, v48, v48, t2, q2⟩, q3⟩
      · have hrt : rht (fun l => decide (c 5 l = 1)) (ltB c lb md vv tl) (d + 1) l true = true := by
          show (if decide (c 5 l = 1) = true then (if true = true then true else _) else _) = _
          rw [if_pos hso, if_pos rfl]
        rw [if_neg (show ¬ bI true = 0 by decide), if_neg (show ¬ bI true = 0 by decide), hrt]
        exact ⟨I, rfl, ⟨v384, v48, trivial⟩, hE⟩
theorem ho_m {c I M : am_I} {g R L S : Nat} {rb lb md : Nat → Nat} {vv : Nat → Int32} {tl : Int32} (hX : CX c M g R L S rb lb md) (hg : g < 24) {r f : Nat} (hr : r < R) (hf : 1000 ≤ f) (hE : EM M vv tl I) : ∃ I', s_X10_holds f I (nI (16 * g + r)) (nI g) = (bI (rhB c rb (ltB c lb md vv tl) r), I') ∧ p_X10_holds f I (nI (16 * g + r)) (nI g) ∧ EM M vv tl I' := by
  have hR := hX.1
  have hL := hX.2.1
  obtain ⟨z1, z2, z3, z4, z5, z6, z7, z8⟩ := hX.2.2.2.2.2.2.2.1 r hr
  have v384 : vp_in (nI (16 * g + r)) 384 := vp_in_nI (by omega) (by omega)
  have h57 : I 57 (16 * g + r) = nI (rb r) := by rw [hE.1 57 (by decide)]; exact z3
  have h58 : I 58 (16 * g + r) = nI (rb (r + 1)) := by rw [hE.1 58 (by decide)]; exact z4
  unfold s_X10_holds p_X10_holds
  rw [nI_clamp (n := 16 * g + r) (by omega), h57, h58]
  unfold rhB
  by_cases he : rb r = rb (r + 1)
  · have hc : nI (rb r) = nI (rb (r + 1)) := by rw [he]
    rw [if_pos hc, if_pos hc, if_pos he]
    exact ⟨I, rfl, ⟨v384, v384, trivial⟩, hE⟩
  · have hc : ¬ nI (rb r) = nI (rb (r + 1)) := fun h => he ((nI_eq (by omega) (by omega)).mp h)
    rw [if_neg hc, if_neg hc, if_neg he]
    obtain ⟨I', q1, q2, q3⟩ := hd_m hX hg hr hf (rb (r + 1) - rb r) (rb r) (by omega) I f false hE (by omega)
    have s1 := z8 (by omega)
    have hso : decide (c 5 (rb r) = 1) = true := by rw [s1]; decide
    obtain ⟨d, hd⟩ : ∃ d, rb (r + 1) - rb r = d + 1 := ⟨rb (r + 1) - rb r - 1, by omega⟩
    have hrt : rht (fun l => decide (c 5 l = 1)) (ltB c lb md vv tl) (d + 1) (rb r) false = rht (fun l => decide (c 5 l = 1)) (ltB c lb md vv tl) d (rb r + 1) (ltB c lb md vv tl (rb r)) := by
      show (if decide (c 5 (rb r) = 1) = true then (if false = true then _ else _) else _) = _
      rw [if_pos hso, if_neg (by decide)]
    rw [hd, hrt] at q1
    rw [show rb (r + 1) - rb r - 1 = d by omega]
    exact ⟨I', q1, ⟨v384, v384, v384, q2⟩, q3⟩
theorem le_m {c M : am_I} {g R L S : Nat} {rb lb md : Nat → Nat} {vv : Nat → Int32} {tl a1 a2 a3 a4 : Int32} (hX : CX c M g R L S rb lb md) (hg : g < 24) {f : Nat} (hf : 1000 ≤ f) : ∀ d r, r + d = R → ∀ (I : am_I) (g' : Nat), EM M vv tl I → d < g' → (∃ I', s_X10_letBy_L39 a1 a2 a3 a4 f g' (nI g) (nI r) I = (leV (c 1) (rhB c rb (ltB c lb md vv tl)) d r, I') ∧ p_X10_letBy_L39 a1 a2 a3 a4 f g' (nI g) (nI r) I ∧ EM M vv tl I') ∧ ∃ I', s_X10_maskBy_L51 a1 a2 a3 a4 f g' (nI g) (nI r) I = (maV (c 1) (rhB c rb (ltB c lb md vv tl)) d r, I') ∧ p_X10_maskBy_L51 a1 a2 a3 a4 f g' (nI g) (nI r) I ∧ EM M vv tl I' := by
  have hR := hX.1
  have v24 : vp_in (nI g) 24 := vp_in_nI hg (by omega)
  intro d
  induction d with
  | zero =>
    intro r hr I g' hE hg'
    obtain ⟨g', rfl⟩ : ∃ k, g' = k + 1 := ⟨g' - 1, by omega⟩
    have h55 : I 55 g = nI R := by rw [hE.1 55 (by decide)]; exact hX.2.2.2.2.1
    have hc : nI R ≤ nI r := nI_le (by omega) (by omega)
    rw [u_s_X10_letBy_L39, u_p_X10_letBy_L39, u_s_X10_maskBy_L51, u_p_X10_maskBy_L51, nI_clamp (n := g) (by omega), h55]
    simp only [if_pos hc]
    exact ⟨⟨I, rfl, ⟨v24, trivial⟩, hE⟩, I, rfl, ⟨v24, trivial⟩, hE⟩
  | succ d ih =>
    intro r hr I g' hE hg'
    obtain ⟨g', rfl⟩ : ∃ k, g' = k + 1 := ⟨g' - 1, by omega⟩
    have h55 : I 55 g = nI R := by rw [hE.1 55 (by decide)]; exact hX.2.2.2.2.1
    have hc : ¬ nI R ≤ nI r := nI_ge (by omega) (by omega)
    obtain ⟨z1, z2, -⟩ := hX.2.2.2.2.2.2.2.1 r (by omega)
    have h56 : ∀ K, EM M vv tl K → K 56 (16 * g + r) = c 1 r := fun K hK => by rw [hK.1 56 (by decide)]; exact z2
    have v384 : vp_in (nI (16 * g + r)) 384 := vp_in_nI (by omega) (by omega)
    rw [u_s_X10_letBy_L39, u_p_X10_letBy_L39, u_s_X10_maskBy_L51, u_p_X10_maskBy_L51, nI_clamp (n := g) (by omega), h55, ix16, nI_clamp (n := 16 * g + r) (by omega), h56 I hE, nI_1]
    simp only [if_neg hc]
    obtain ⟨I1, t1, t2, t4⟩ := ho_m hX hg (show r < R by omega) hf hE
    obtain ⟨⟨A, a1, a2, a4⟩, B, b1, b2, b4⟩ := ih (r + 1) (by omega) I g' hE (by omega)
    obtain ⟨⟨A', a1', a2', a4'⟩, B', b1', b2', b4'⟩ := ih (r + 1) (by omega) I1 g' t4 (by omega)
    unfold leV maV
    rw [t1]
    simp only
    rw [h56 I1 t4]
    by_cases c2 : c 1 r = 2
    · have c2' : (2 : Int32) ≤ c 1 r := by rw [c2]; decide
      simp only [if_pos c2, if_pos c2']
      refine ⟨⟨A, a1, ⟨v24, v384, a2⟩, a4⟩, ?_⟩
      cases hb : rhB c rb (ltB c lb md vv tl) r
      · rw [if_pos (show bI false = 0 from rfl), if_pos (show bI false = 0 from rfl)]
        exact ⟨B', b1', ⟨v24, v384, t2, b2'⟩, b4'⟩
      · rw [if_neg (show ¬ bI true = 0 by decide), if_neg (show ¬ bI true = 0 by decide)]
        exact ⟨I1, rfl, ⟨v24, v384, t2, trivial⟩, t4⟩
    · have c2' : ¬ (2 : Int32) ≤ c 1 r := by
        rcases z1 with h | h | h
        · rw [h]; decide
        · rw [h]; decide
        · exact absurd h c2
      simp only [if_neg c2, if_neg c2']
      refine ⟨?_, ⟨B, b1, ⟨v24, v384, b2⟩, b4⟩⟩
      cases hb : rhB c rb (ltB c lb md vv tl) r
      · rw [if_pos (show bI false = 0 from rfl), if_pos (show bI false = 0 from rfl)]
        exact ⟨A', a1', ⟨v24, v384, t2, a2'⟩, a4'⟩
      · rw [if_neg (show ¬ bI true = 0 by decide), if_neg (show ¬ bI true = 0 by decide)]
        refine ⟨I1, ?_, ⟨v24, v384, t2, v384⟩, t4⟩
        by_cases c0 : c 1 r = 0
        · simp only [if_pos c0]; rfl
        · simp only [if_neg c0]; rfl
