/-! ===== loops over the pieces and the persons ===== -/
theorem nI30 {a i : Nat} : 30 * nI a + nI i = nI (30 * a + i) := by
  show nI 30 * nI a + nI i = _
  rw [pk_mul, nI_add]
theorem nI30' {a i : Nat} : nI a * 30 + nI i = nI (30 * a + i) := by
  show nI a * nI 30 + nI i = _
  rw [pk_mul, nI_add, Nat.mul_comm]
theorem nI4 {a i : Nat} : 4 * nI a + nI i = nI (4 * a + i) := by
  show nI 4 * nI a + nI i = _
  rw [pk_mul, nI_add]
theorem nI4' {a i : Nat} : nI a * 4 + nI i = nI (4 * a + i) := by
  show nI a * nI 4 + nI i = _
  rw [pk_mul, nI_add, Nat.mul_comm]
theorem isB_nI {a b : Nat} (ha : a < b) (hb : b < 2 ^ 31) : ¬ s_X9_isBelow (nI a) (nI b) = 0 := by
  rw [isB_0, nI_toInt (by omega), nI_toInt hb]
  omega
/-- a number that is below n -/
theorem isB_of {x y : Int32} {n : Nat} (h : ¬ s_X9_isBelow x y = 0) (hy : y = nI n) (hn : n < 2 ^ 31) : ∃ j, j < n ∧ x = nI j := by
  have h1 : 0 ≤ x.toInt ∧ x.toInt < y.toInt := Decidable.of_not_not (fun c => h (isB_0.mpr c))
  rw [hy, nI_toInt hn] at h1
  refine ⟨x.toNatClampNeg, ?_, ia_nI x h1.1⟩
  have := ia_cn h1.1
  omega
theorem way_s {I : am_I} {a i m : Nat} (hm : I 26 2 = nI m) (hm6 : m ≤ 6) (ha : a < m) (hi : i < 30) : s_X0_wayOf I (nI a) (nI i) = I 28 (30 * a + i) ∧ p_X0_wayOf I (nI a) (nI i) := by
  have h1 : ¬ s_X0_has I (nI a) = 0 := by unfold s_X0_has; rw [hm]; exact isB_nI ha (by omega)
  have h2 : ¬ s_X9_isBelow (nI i) 30 = 0 := isB_nI (b := 30) hi (by omega)
  unfold s_X0_wayOf p_X0_wayOf
  rw [if_neg h1, if_neg h2, if_neg h1, if_neg h2, nI30', nI_clamp (by omega)]
  exact ⟨rfl, vp_in_nI (by omega) (by omega)⟩
theorem lp_name {I K : am_I} {a b n m : Nat} {x : Int32} (h1 : I 15 11 = nI n) (h2 : K 46 44 = nI n) (h3 : K 78 = I 23) (h4 : K 85 = I 28) (hn : n ≤ 30) (hm : I 26 2 = nI m) (hm6 : m ≤ 6) (ha : a < m) : ∀ g i, i ≤ n → n < g + i → p_X9_knowsByName_L2 (nI a) x I g (nI i) ∧ p_X10_hasName_L2 (nI a) x K g (nI i) ∧ s_X10_hasName_L2 (nI a) x K g (nI i) = s_X9_knowsByName_L2 (nI a) x I g (nI i) := by
  intro g
  induction g with
  | zero => intro i hi hg; omega
  | succ g ih =>
    intro i hi hg
    rw [u_p_X9_knowsByName_L2, u_p_X10_hasName_L2, u_s_X10_hasName_L2, u_s_X9_knowsByName_L2, h1, h2]
    by_cases hin : i = n
    · have hc : nI n ≤ nI i := nI_le (by omega) (by omega)
      simp only [if_pos hc]
      exact ⟨trivial, trivial, trivial⟩
    · have hc : ¬ nI n ≤ nI i := nI_ge (by omega) (by omega)
      have hw := way_s (i := i) hm hm6 ha (by omega)
      have hv : vp_in (nI i) 30 := vp_in_nI (by omega) (by omega)
      have hk : vp_in (nI (30 * a + i)) 180 := vp_in_nI (by omega) (by omega)
      obtain ⟨i1, i2, i3⟩ := ih (i + 1) (by omega) (by omega)
      rw [nI_1, nI30]
      simp only [if_neg hc]
      rw [nI_clamp (n := i) (by omega), nI_clamp (n := 30 * a + i) (by omega), h3, h4, hw.1]
      refine ⟨⟨hv, ?_⟩, ⟨hv, ?_⟩, ?_⟩
      · split
        · refine ⟨hw.2, ?_⟩
          split
          · trivial
          · exact i1
        · exact i1
      · split
        · refine ⟨hk, ?_⟩
          split
          · trivial
          · exact i2
        · exact i2
      · rw [i3]
theorem lp_trait {I K : am_I} {a n m : Nat} {x : Int32} (h1 : I 15 11 = nI n) (h2 : K 46 44 = nI n) (h3 : K 78 = I 23) (h4 : K 85 = I 28) (h5 : K 79 = I 24) (hn : n ≤ 30) (hm : I 26 2 = nI m) (hm6 : m ≤ 6) (ha : a < m) : ∀ g i v, i ≤ n → n < g + i → p_X9_knownTraits_L5 (nI a) x I g v (nI i) ∧ p_X10_traitsHeard_L5 (nI a) x K g v (nI i) ∧ s_X10_traitsHeard_L5 (nI a) x K g v (nI i) = s_X9_knownTraits_L5 (nI a) x I g v (nI i) := by
  intro g
  induction g with
  | zero => intro i v hi hg; omega
  | succ g ih =>
    intro i v hi hg
    rw [u_p_X9_knownTraits_L5, u_p_X10_traitsHeard_L5, u_s_X10_traitsHeard_L5, u_s_X9_knownTraits_L5, h1, h2]
    by_cases hin : i = n
    · have hc : nI n ≤ nI i := nI_le (by omega) (by omega)
      simp only [if_pos hc]
      exact ⟨trivial, trivial, trivial⟩
    · have hc : ¬ nI n ≤ nI i := nI_ge (by omega) (by omega)
      have hw := way_s (i := i) hm hm6 ha (by omega)
      have hv : vp_in (nI i) 30 := vp_in_nI (by omega) (by omega)
      have hk : vp_in (nI (30 * a + i)) 180 := vp_in_nI (by omega) (by omega)
      rw [nI_1, nI30]
      simp only [if_neg hc]
      rw [nI_clamp (n := i) (by omega), nI_clamp (n := 30 * a + i) (by omega), h3, h4, h5, hw.1]
      obtain ⟨i1, i2, i3⟩ := ih (i + 1) v (by omega) (by omega)
      obtain ⟨j1, j2, j3⟩ := ih (i + 1) (v ||| I 24 i) (by omega) (by omega)
      refine ⟨⟨hv, ?_⟩, ⟨hv, ?_⟩, ?_⟩
      · split
        · refine ⟨hw.2, ?_⟩
          split
          · exact ⟨hv, j1⟩
          · exact i1
        · exact i1
      · split
        · refine ⟨hk, ?_⟩
          split
          · exact ⟨hv, j2⟩
          · exact i2
        · exact i2
      · rw [i3, j3]
theorem lp_alk1 {I K : am_I} {p o : Nat} {x : Int32} (h3 : K 68 = I 10) (hp : p < 12) (ho : o < 12) : ∀ d k, k + d = 4 → ∀ f, d < f → p_X8_areAlike_L21 (nI p) (nI o) x I f (nI k) ∧ ∀ (g : Nat) (v3 : Int32), (s_X10_alike_L5 (nI p) x K (g + d + 1) 1 v3 (nI o) 0 (nI k) = s_X10_alike_L5 (nI p) x K g 0 v3 (nI (o + 1)) 0 0) ∧ (p_X10_alike_L5 (nI p) x K g 0 v3 (nI (o + 1)) 0 0 → p_X10_alike_L5 (nI p) x K (g + d + 1) 1 v3 (nI o) 0 (nI k)) ∧ (s_X10_alike_L5 (nI p) x K (g + d + 1) 1 v3 (nI o) 1 (nI k) = if s_X8_areAlike_L21 (nI p) (nI o) x I f (nI k) = 0 then s_X10_alike_L5 (nI p) x K g 0 v3 (nI (o + 1)) 0 0 else s_X10_alike_L5 (nI p) x K g 0 (v3 + 1) (nI (o + 1)) 0 0) ∧ ((if s_X8_areAlike_L21 (nI p) (nI o) x I f (nI k) = 0 then p_X10_alike_L5 (nI p) x K g 0 v3 (nI (o + 1)) 0 0 else p_X10_alike_L5 (nI p) x K g 0 (v3 + 1) (nI (o + 1)) 0 0) → p_X10_alike_L5 (nI p) x K (g + d + 1) 1 v3 (nI o) 1 (nI k)) := by
  intro d
  induction d with
  | zero =>
    intro k hk f hf
    obtain ⟨f, rfl⟩ : ∃ f', f = f' + 1 := ⟨f - 1, by omega⟩
    have hc : (4 : Int32) ≤ nI k := nI_le (a := 4) (by omega) (by omega)
    rw [u_p_X8_areAlike_L21, u_s_X8_areAlike_L21]
    refine ⟨by rw [if_pos hc]; trivial, fun g v3 => ?_⟩
    rw [Nat.add_zero, u_s_X10_alike_L5_1 (v5 := 0), u_s_X10_alike_L5_1 (v5 := 1), u_p_X10_alike_L5_1 (v5 := 0), u_p_X10_alike_L5_1 (v5 := 1)]
    have h10 : ¬ (1 : Int32) = 0 := by decide
    simp only [nI_1, if_pos hc, if_true, if_neg h10]
    exact ⟨trivial, id, trivial, id⟩
  | succ d ih =>
    intro k hk f hf
    obtain ⟨f, rfl⟩ : ∃ f', f = f' + 1 := ⟨f - 1, by omega⟩
    obtain ⟨a1, a2⟩ := ih (k + 1) (by omega) f (by omega)
    have hc : ¬ (4 : Int32) ≤ nI k := nI_ge (b := 4) (by omega) (by omega)
    have q1 : vp_in (nI (4 * p + k)) 48 := vp_in_nI (by omega) (by omega)
    have q2 : vp_in (nI (4 * o + k)) 48 := vp_in_nI (by omega) (by omega)
    have c1 := nI_clamp (n := 4 * p + k) (by omega)
    have c2 := nI_clamp (n := 4 * o + k) (by omega)
    refine ⟨?_, fun g v3 => ?_⟩
    · rw [u_p_X8_areAlike_L21, if_neg hc]
      simp only [nI4', nI_1]
      split
      · refine ⟨q1, q2, ?_⟩
        split
        · exact a1
        · trivial
      · exact a1
    · obtain ⟨b1, b2, b3, b4⟩ := a2 g v3
      rw [show g + (d + 1) + 1 = (g + d + 1) + 1 by omega]
      rw [u_s_X10_alike_L5_1 (g := g + d + 1) (v5 := 0), u_s_X10_alike_L5_1 (g := g + d + 1) (v5 := 1), u_p_X10_alike_L5_1 (g := g + d + 1) (v5 := 0), u_p_X10_alike_L5_1 (g := g + d + 1) (v5 := 1), u_s_X8_areAlike_L21]
      simp only [nI4, nI4', nI_1, c1, c2, h3, if_neg hc]
      by_cases hbit : (x >>> (nI k &&& 31)) &&& 1 = 1
      · simp only [if_pos hbit]
        by_cases he : I 10 (4 * p + k) = I 10 (4 * o + k)
        · have he' : I 10 (4 * o + k) = I 10 (4 * p + k) := he.symm
          simp only [if_pos he, if_pos he']
          exact ⟨b1, fun h => ⟨q2, q1, b2 h⟩, b3, fun h => ⟨q2, q1, b4 h⟩⟩
        · have he' : ¬ I 10 (4 * o + k) = I 10 (4 * p + k) := fun h => he h.symm
          simp only [if_neg he, if_neg he', if_true]
          exact ⟨b1, fun h => ⟨q2, q1, b2 h⟩, b1, fun h => ⟨q2, q1, b2 h⟩⟩
      · simp only [if_neg hbit]
        exact ⟨b1, b2, b3, b4⟩
theorem lp_alike {I K : am_I} {p n : Nat} {x : Int32} (h1 : I 9 3 = nI n) (h2 : K 46 35 = nI n) (h3 : K 68 = I 10) (hn : n ≤ 12) (hp : p < n) {f : Nat} (hf : 5 ≤ f) : ∀ g g' i v, i ≤ n → n < g + i → 6 * (n - i) < g' → p_X8_alikeTo_L5 (nI p) x f I g v (nI i) ∧ p_X10_alike_L5 (nI p) x K g' 0 v (nI i) 0 0 ∧ s_X10_alike_L5 (nI p) x K g' 0 v (nI i) 0 0 = s_X8_alikeTo_L5 (nI p) x f I g v (nI i) := by
  intro g
  induction g with
  | zero => intro g' i v hi hg hg'; omega
  | succ g ih =>
    intro g' i v hi hg hg'
    obtain ⟨g', rfl⟩ : ∃ k, g' = k + 1 := ⟨g' - 1, by omega⟩
    rw [u_p_X8_alikeTo_L5, u_s_X8_alikeTo_L5, u_p_X10_alike_L5_0, u_s_X10_alike_L5_0, h1, h2]
    by_cases hin : i = n
    · have hc : nI n ≤ nI i := nI_le (by omega) (by omega)
      simp only [if_pos hc]
      exact ⟨trivial, trivial, trivial⟩
    · have hc : ¬ nI n ≤ nI i := nI_ge (by omega) (by omega)
      simp only [if_neg hc]
      obtain ⟨g', rfl⟩ : ∃ k, g' = k + 4 + 1 := ⟨g' - 5, by omega⟩
      obtain ⟨a1, a2⟩ := lp_alk1 (x := x) (p := p) (o := i) h3 (by omega) (by omega) 4 0 rfl f (by omega)
      obtain ⟨-, -, b3, b4⟩ := a2 g' v
      have e0 : s_X8_areAlike f I (nI p) (nI i) x = s_X8_areAlike_L21 (nI p) (nI i) x I f 0 := by
        unfold s_X8_areAlike s_X8_has
        rw [h1, if_neg (isB_nI hp (by omega)), if_neg (isB_nI (show i < n by omega) (by omega))]
      have e1 : p_X8_areAlike f I (nI p) (nI i) x := by
        unfold p_X8_areAlike s_X8_has
        rw [h1, if_neg (isB_nI hp (by omega)), if_neg (isB_nI (show i < n by omega) (by omega))]
        exact a1
      rw [nI_1, e0]
      rw [nI_0] at b3 b4
      obtain ⟨i1, i2, i3⟩ := ih g' (i + 1) v (by omega) (by omega) (by omega)
      obtain ⟨j1, j2, j3⟩ := ih g' (i + 1) (v + 1) (by omega) (by omega) (by omega)
      refine ⟨⟨e1, ?_⟩, b4 ?_, b3.trans ?_⟩
      · split
        · exact i1
        · exact j1
      · split
        · exact i2
        · exact j2
      · rw [i3, j3]
