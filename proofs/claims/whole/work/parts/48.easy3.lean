/-! ===== steps with loops over the pieces ===== -/
theorem v_nI {x : Int32} {m : Nat} (h : 0 ≤ x.toInt ∧ x.toInt ≤ m) : ∃ n, n ≤ m ∧ x = nI n := ⟨x.toNatClampNeg, by have := ia_cn h.1; omega, ia_nI x h.1⟩
theorem sp_heard (a b : Int32) : LStp VV MX9_heard MX10_heard 3 1 0 0 [.int a, .int b] :=
  st_r (pc := fun I => p_X9_heard I a b) (pm := fun I => p_X10_heard I a b) (fun I => s_X9_heard I a b) (fun I => s_X10_heard I a b) (fun I J Q hG h => ct_X9_heard 0 I J Q hG a b h) (fun I J Q hG h => ct_X10_heard 0 I J Q hG a b h) (fun nc I J Q E hV => by
    have e2 := hV.2.1.2.2.2.2.2.2.2.1
    have e3 := hV.2.1.2.2.2.2.2.2.2.2.2.1
    have e4 := hV.2.1.2.2.2.2.2.2.2.2.2.2.1
    obtain ⟨n, hn, en⟩ := v_nI (m := 30) hV.2.2.1.2.2.2.2.1
    obtain ⟨m, hm, em⟩ := v_nI (m := 6) hV.2.2.1.2.2.2.2.2.1
    have e0 : s_X10_isPiece I b = s_X4_has I b := by show s_X9_isBelow b (I 46 44) = s_X9_isBelow b (I 15 11); rw [e2]
    have e1 : s_X10_isAsker I a = s_X0_has I a := by show s_X9_isBelow a (I 46 52) = s_X9_isBelow a (I 26 2); rw [e3]
    unfold p_X9_heard p_X10_heard s_X9_heard s_X10_heard
    rw [e0, e1, e4]
    by_cases h1 : s_X0_has I a = 0
    · simp only [if_pos h1]; exact ⟨trivial, trivial, trivial⟩
    · by_cases h2 : s_X4_has I b = 0
      · simp only [if_neg h1, if_pos h2]; exact ⟨trivial, trivial, trivial⟩
      · obtain ⟨a', ha, rfl⟩ := isB_of h1 em (by omega)
        obtain ⟨b', hb, rfl⟩ := isB_of h2 en (by omega)
        have hw := way_s (i := b') em hm ha (by omega)
        simp only [if_neg h1, if_neg h2]
        rw [hw.1, nI30, nI_clamp (by omega)]
        exact ⟨hw.2, vp_in_nI (by omega) (by omega), rfl⟩)
theorem lp_at {I : am_I} {n : Nat} {a b : Int32} (h1 : I 15 11 = nI n) (h2 : I 46 44 = nI n) (h3 : I 74 = I 19) (h4 : I 75 = I 20) (h5 : I 76 = I 21) (hn : n ≤ 30) : ∀ g i, i ≤ n → n < g + i → p_X4_pieceAt_L2 a b I g (nI i) ∧ p_X10_at__L2 a b I g (nI i) ∧ s_X10_at__L2 a b I g (nI i) = s_X4_pieceAt_L2 a b I g (nI i) := by
  intro g
  induction g with
  | zero => intro i hi hg; omega
  | succ g ih =>
    intro i hi hg
    rw [u_p_X4_pieceAt_L2, u_p_X10_at__L2, u_s_X10_at__L2, u_s_X4_pieceAt_L2, h1, h2, h3, h4, h5]
    by_cases hin : i = n
    · have hc : nI n ≤ nI i := nI_le (by omega) (by omega)
      simp only [if_pos hc]
      exact ⟨trivial, trivial, trivial⟩
    · have hc : ¬ nI n ≤ nI i := nI_ge (by omega) (by omega)
      have hv : vp_in (nI i) 30 := vp_in_nI (by omega) (by omega)
      obtain ⟨i1, i2, i3⟩ := ih (i + 1) (by omega) (by omega)
      simp only [if_neg hc, nI_1]
      refine ⟨⟨hv, ?_⟩, ⟨hv, ?_⟩, ?_⟩
      · split
        · refine ⟨hv, ?_⟩
          split
          · exact i1
          · refine ⟨hv, ?_⟩
            split
            · exact i1
            · trivial
        · exact i1
      · split
        · refine ⟨hv, ?_⟩
          split
          · exact i2
          · refine ⟨hv, ?_⟩
            split
            · exact i2
            · trivial
        · exact i2
      · rw [i3]
theorem sp_at (a b : Int32) : LStp VV MX9_at MX10_at_ 1 0 0 0 [.int a, .int b] := by
  obtain ⟨f, hf⟩ : ∃ f : Nat, 100 ≤ f := ⟨100, Nat.le_refl _⟩
  exact st_r (pc := fun I => p_X9_at f I a b) (pm := fun I => p_X10_at_ f I a b) (fun I => s_X9_at f I a b) (fun I => s_X10_at_ f I a b) (fun I J Q hG h => ct_X9_at f I J Q hG a b h) (fun I J Q hG h => ct_X10_at_ f I J Q hG a b h) (fun nc I J Q E hV => by
    obtain ⟨n, hn, en⟩ := v_nI (m := 30) hV.2.2.1.2.2.2.2.1
    exact lp_at en (hV.2.1.2.2.2.2.2.2.2.1.trans en) hV.2.1.1 hV.2.1.2.1 hV.2.1.2.2.1 hn f 0 (by omega) (by omega))
theorem sp_could (a b : Int32) : LStp VV MX9_could MX10_could 4 1 0 0 [.int a, .int b] := by
  obtain ⟨f, hf⟩ : ∃ f : Nat, 100 ≤ f := ⟨100, Nat.le_refl _⟩
  exact st_r (pc := fun I => p_X9_could f I a b) (pm := fun I => p_X10_could f I a b) (fun I => s_X9_could f I a b) (fun I => s_X10_could f I a b) (fun I J Q hG h => ct_X9_could f I J Q hG a b h) (fun I J Q hG h => ct_X10_could f I J Q hG a b h) (fun nc I J Q E hV => by
    have e2 := hV.2.1.2.2.2.2.2.2.2.1
    have e3 := hV.2.1.2.2.2.2.2.2.2.2.2.1
    have e4 := hV.2.1.2.2.2.2.2.2.2.2.2.2.1
    have e5 := hV.1.2.2.2.2.2.1
    obtain ⟨n, hn, en⟩ := v_nI (m := 30) hV.2.2.1.2.2.2.2.1
    obtain ⟨m, hm, em⟩ := v_nI (m := 6) hV.2.2.1.2.2.2.2.2.1
    obtain ⟨k, hk, ek⟩ := v_nI (m := 12) hV.2.2.1.2.1
    have e0 : s_X10_isPerson I b = s_X8_has I b := by show s_X9_isBelow b (I 46 35) = s_X9_isBelow b (I 9 3); rw [e5]
    have e1 : s_X10_isAsker I a = s_X0_has I a := by show s_X9_isBelow a (I 46 52) = s_X9_isBelow a (I 26 2); rw [e3]
    unfold p_X9_could p_X10_could s_X9_could s_X10_could
    rw [e0, e1]
    by_cases h1 : s_X0_has I a = 0
    · simp only [if_pos h1]; exact ⟨trivial, trivial, trivial⟩
    · by_cases h2 : s_X8_has I b = 0
      · simp only [if_neg h1, if_pos h2]; exact ⟨trivial, trivial, trivial⟩
      · obtain ⟨a', ha, rfl⟩ := isB_of h1 em (by omega)
        obtain ⟨b', hb, rfl⟩ := isB_of h2 ek (by omega)
        obtain ⟨q1, q2, q3⟩ := lp_name (x := nI b') (b := 0) en (e2.trans en) hV.2.1.2.2.2.2.1 e4 hn em hm ha f 0 (by omega) (by omega)
        obtain ⟨r1, r2, r3⟩ := lp_trait (x := nI b') en (e2.trans en) hV.2.1.2.2.2.2.1 e4 hV.2.1.2.2.2.2.2.1 hn em hm ha f 0 0 (by omega) (by omega)
        obtain ⟨t1, t2, t3⟩ := lp_alike (x := s_X9_knownTraits_L5 (nI a') (nI b') I f 0 0) ek (e5.trans ek) hV.1.2.2.2.1 hk hb (show 5 ≤ f by omega) f f 0 0 (by omega) (by omega) (by omega)
        rw [nI_0] at q1 q2 q3 r1 r2 r3 t1 t2 t3
        unfold p_X9_knowsByName p_X10_hasName s_X10_hasName s_X9_knowsByName p_X9_knownTraits p_X10_traitsHeard s_X10_traitsHeard s_X9_knownTraits p_X8_alikeTo s_X8_alikeTo p_X10_alike s_X10_alike
        simp only [if_neg h1, if_neg h2]
        rw [q3, r3, t3]
        refine ⟨⟨q1, ?_⟩, ⟨q2, ?_⟩, rfl⟩
        · split
          · exact ⟨r1, t1⟩
          · trivial
        · split
          · exact ⟨r2, t2⟩
          · trivial)
theorem lp_secs {I : am_I} {n m k : Nat} {a b : Int32} (h1 : I 15 11 = nI n) (h2 : I 46 44 = nI n) (h3 : I 75 = I 20) (h4 : I 76 = I 21) (h5 : I 77 = I 22) (h6 : I 70 = I 14) (h7 : I 85 = I 28) (hn : n ≤ 30) (hm : I 26 2 = nI m) (hm6 : m ≤ 6) (hk : I 13 1 = nI k) (hk12 : k ≤ 12) (ht : ∀ p : Nat, p < n → 0 ≤ (I 22 p).toInt ∧ (I 22 p).toInt < k) (hb : b = -1 ∨ ∃ j, j < m ∧ b = nI j) : ∀ g g' i v, i ≤ n → 2 * (n - i) < g → n < g' + i → p_X9_seconds_L34 a b I g 0 v (nI i) 0 ∧ p_X10_seconds_L32 a b I g' v (nI i) ∧ s_X10_seconds_L32 a b I g' v (nI i) = s_X9_seconds_L34 a b I g 0 v (nI i) 0 := by
  intro g g'
  induction g' generalizing g with
  | zero => intro i v hi hg hg'; omega
  | succ g' ih =>
    intro i v hi hg hg'
    obtain ⟨g, rfl⟩ : ∃ k, g = k + 1 := ⟨g - 1, by omega⟩
    rw [u_p_X9_seconds_L34_0, u_p_X10_seconds_L32, u_s_X10_seconds_L32, u_s_X9_seconds_L34_0, h1, h2, h3, h4, h5, h6, h7]
    by_cases hin : i = n
    · have hc : nI n ≤ nI i := nI_le (by omega) (by omega)
      simp only [if_pos hc]
      exact ⟨trivial, trivial, trivial⟩
    · have hc : ¬ nI n ≤ nI i := nI_ge (by omega) (by omega)
      have hv : vp_in (nI i) 30 := vp_in_nI (by omega) (by omega)
      obtain ⟨g, rfl⟩ : ∃ k, g = k + 1 := ⟨g - 1, by omega⟩
      have hti := ht i (by omega)
      have ec := ia_cn hti.1
      have et : I 22 i = nI (I 22 i).toNatClampNeg := ia_nI _ hti.1
      have hl : s_X7_lineOf I (I 22 i) = I 14 (I 22 i).toNatClampNeg := by
        unfold s_X7_lineOf s_X7_has
        rw [hk, if_neg]
        rw [et]
        exact isB_nI (by omega) (by omega)
      have hlp : p_X7_lineOf I (I 22 i) := by
        unfold p_X7_lineOf s_X7_has
        rw [hk, if_neg]
        · rw [vp_in_iff]; omega
        · rw [et]
          exact isB_nI (by omega) (by omega)
      have hv12 : vp_in (I 22 i) 12 := by rw [vp_in_iff]; omega
      have m1 : ∀ v3 : Int32, p_X9_seconds_L34 a b I (g + 1) 1 v3 (nI i) 0 = p_X9_seconds_L34 a b I g 0 v3 (nI (i + 1)) 0 := fun v3 => by
        rw [u_p_X9_seconds_L34_1, if_pos rfl, nI_1]
      have m2 : ∀ v3 : Int32, s_X9_seconds_L34 a b I (g + 1) 1 v3 (nI i) 0 = s_X9_seconds_L34 a b I g 0 v3 (nI (i + 1)) 0 := fun v3 => by
        rw [u_s_X9_seconds_L34_1, if_pos rfl, nI_1]
      have m3 : ∀ v3 : Int32, s_X9_seconds_L34 a b I (g + 1) 1 v3 (nI i) 1 = if ((I 14 (I 22 i).toNatClampNeg) >>> (a &&& 31)) &&& 1 = 1 then s_X9_seconds_L34 a b I g 0 (v3 + (I 21 i - I 20 i)) (nI (i + 1)) 0 else s_X9_seconds_L34 a b I g 0 v3 (nI (i + 1)) 0 := fun v3 => by
        rw [u_s_X9_seconds_L34_1, if_neg (by decide), nI_1, nI_clamp (by omega), hl]
      have m4 : ∀ v3 : Int32, (if ((I 14 (I 22 i).toNatClampNeg) >>> (a &&& 31)) &&& 1 = 1 then p_X9_seconds_L34 a b I g 0 (v3 + (I 21 i - I 20 i)) (nI (i + 1)) 0 else p_X9_seconds_L34 a b I g 0 v3 (nI (i + 1)) 0) → p_X9_seconds_L34 a b I (g + 1) 1 v3 (nI i) 1 := fun v3 h => by
        rw [u_p_X9_seconds_L34_1, if_neg (by decide), nI_1, nI_clamp (by omega), hl]
        refine ⟨hv, hlp, ?_⟩
        split
        · next hc => rw [if_pos hc] at h; exact ⟨hv, hv, h⟩
        · next hc => rw [if_neg hc] at h; exact h
      have ih1 := ih g (i + 1) v (by omega) (by omega) (by omega)
      have ih2 := ih g (i + 1) (v + (I 21 i - I 20 i)) (by omega) (by omega) (by omega)
      simp only [if_neg hc, nI_1]
      rw [m1, m2, m3, nI_clamp (n := i) (by omega)]
      rcases hb with rfl | ⟨j, hj, rfl⟩
      · simp only [if_true]
        refine ⟨m4 v ?_, ⟨hv, hv12, ?_⟩, ?_⟩
        · split
          · exact ih2.1
          · exact ih1.1
        · split
          · exact ⟨hv, hv, ih2.2.1⟩
          · exact ih1.2.1
        · rw [ih1.2.2, ih2.2.2]
      · have hw := way_s (i := i) hm hm6 hj (by omega)
        have hne : ¬ nI j = -1 := by
          rw [ia_eq, nI_toInt (by omega)]
          have : (-1 : Int32).toInt = -1 := rfl
          omega
        simp only [if_neg hne]
        rw [hw.1, nI30, nI_clamp (by omega)]
        by_cases hz : I 28 (30 * j + i) = 0
        · simp only [if_pos hz, ite_self]
          refine ⟨⟨hw.2, ih1.1⟩, ⟨hv, hv12, ?_⟩, ih1.2.2⟩
          split
          · exact ⟨vp_in_nI (by omega) (by omega), ih1.2.1⟩
          · exact ih1.2.1
        · simp only [if_neg hz]
          refine ⟨⟨hw.2, m4 v ?_⟩, ⟨hv, hv12, ?_⟩, ?_⟩
          · split
            · exact ih2.1
            · exact ih1.1
          · split
            · exact ⟨vp_in_nI (by omega) (by omega), hv, hv, ih2.2.1⟩
            · exact ih1.2.1
          · rw [ih1.2.2, ih2.2.2]
theorem sp_seconds (a b : Int32) : LStp VV MX9_seconds MX10_seconds 3 1 0 0 [.int a, .int b] := by
  obtain ⟨f, hf⟩ : ∃ f : Nat, 100 ≤ f := ⟨100, Nat.le_refl _⟩
  exact st_r (pc := fun I => p_X9_seconds f I a b) (pm := fun I => p_X10_seconds f I a b) (fun I => s_X9_seconds f I a b) (fun I => s_X10_seconds f I a b) (fun I J Q hG h => ct_X9_seconds f I J Q hG a b h) (fun I J Q hG h => ct_X10_seconds f I J Q hG a b h) (fun nc I J Q E hV => by
    have e2 := hV.2.1.2.2.2.2.2.2.2.1
    have e3 := hV.2.1.2.2.2.2.2.2.2.2.2.1
    have e4 := hV.2.1.2.2.2.2.2.2.2.2.2.2.1
    have e8 := hV.1.2.2.2.2.2.2.2.1
    obtain ⟨n, hn, en⟩ := v_nI (m := 30) hV.2.2.1.2.2.2.2.1
    obtain ⟨m, hm, em⟩ := v_nI (m := 6) hV.2.2.1.2.2.2.2.2.1
    obtain ⟨k, hk, ek⟩ := v_nI (m := 12) hV.2.2.1.2.2.1
    have e1 : s_X10_isAsker I b = s_X0_has I b := by show s_X9_isBelow b (I 46 52) = s_X9_isBelow b (I 26 2); rw [e3]
    have ht : ∀ p : Nat, p < n → 0 ≤ (I 22 p).toInt ∧ (I 22 p).toInt < k := fun p hp => by
      have h := (hV.2.2.2.1.1 p (by rw [en, nI_toInt (by omega)]; omega)).2.1
      rw [ek, nI_toInt (by omega)] at h
      exact h
    have key := fun hb => lp_secs (a := a) (b := b) en (e2.trans en) hV.2.1.2.1 hV.2.1.2.2.1 hV.2.1.2.2.2.1 hV.1.2.2.2.2.2.2.1 e4 hn em hm ek hk ht hb f f 0 0 (by omega) (by omega) (by omega)
    rw [nI_0] at key
    have hs : s_X10_seconds f I a b = if s_X7_has I a = 0 then -1 else if b = -1 then s_X10_seconds_L32 a b I f 0 0 else if s_X0_has I b = 0 then -1 else s_X10_seconds_L32 a b I f 0 0 := by
      unfold s_X10_seconds
      rw [e1, e8]
      unfold s_X7_has s_X9_isBelow
      by_cases h1 : a < 0
      · simp only [if_pos h1, if_true]
      · by_cases h2 : I 13 1 ≤ a
        · simp only [if_neg h1, if_pos h2, if_true]
        · simp only [if_neg h1, if_neg h2, if_neg (show ¬ (1 : Int32) = 0 by decide)]
    have hp : p_X10_seconds f I a b ↔ if s_X7_has I a = 0 then True else if b = -1 then p_X10_seconds_L32 a b I f 0 0 else if s_X0_has I b = 0 then True else p_X10_seconds_L32 a b I f 0 0 := by
      unfold p_X10_seconds
      rw [e1, e8]
      unfold s_X7_has s_X9_isBelow
      by_cases h1 : a < 0
      · simp only [if_pos h1, if_true]
      · by_cases h2 : I 13 1 ≤ a
        · simp only [if_neg h1, if_pos h2, if_true]
        · simp only [if_neg h1, if_neg h2, if_neg (show ¬ (1 : Int32) = 0 by decide)]
    rw [hs, hp]
    unfold p_X9_seconds s_X9_seconds
    by_cases h1 : s_X7_has I a = 0
    · simp only [if_pos h1]; exact ⟨trivial, trivial, trivial⟩
    · by_cases h2 : b = -1
      · simp only [if_neg h1, if_pos h2]; exact key (Or.inl h2)
      · by_cases h3 : s_X0_has I b = 0
        · simp only [if_neg h1, if_neg h2, if_pos h3]; exact ⟨trivial, trivial, trivial⟩
        · simp only [if_neg h1, if_neg h2, if_neg h3]; exact key (Or.inr (isB_of h3 em (by omega))))
