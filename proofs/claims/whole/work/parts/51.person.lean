/-! ===== person ===== -/
theorem st_no {nc : Nat} {I : am_I} {J : am_J} {Q : am_Q} {E : Nat → am_I} (hV : VV nc I J Q E) : 0 < nc ∧ VV nc (lI 0 I E) J Q (le_1 0 (lI 0 I E) (le_1 0 (lI 0 I E) E)) := by
  refine ⟨?_, ?_⟩
  · obtain ⟨-, -, -, -, -, ⟨np, σ, c1, c2, c3, -⟩, -⟩ := hV
    omega
  · rw [l_twice]
    exact (hV.ag ag_lI).ex (l_keep (fun _ _ _ => rfl))
theorem pr_m {a1 a2 a3 a4 : Int32} {I : am_I} (h : ¬ (¬ s_X9_isBelow a1 4 = 0 ∧ ¬ s_X9_isBelow a2 4 = 0 ∧ ¬ s_X9_isBelow a3 4 = 0 ∧ ¬ s_X9_isBelow a4 4 = 0) ∨ I 46 35 = 12) : s_X10_person I a1 a2 a3 a4 = (-1, I) ∧ p_X10_person I a1 a2 a3 a4 := by
  have e : ∀ a, s_X10_isFour a = s_X9_isBelow a 4 := fun _ => rfl
  unfold s_X10_person p_X10_person
  simp only [e]
  by_cases h0 : I 46 35 = 12
  · simp only [if_pos h0]; exact ⟨trivial, trivial⟩
  · have h := h.resolve_right h0
    by_cases h1 : s_X9_isBelow a1 4 = 0
    · simp only [if_pos h1, ite_self]; exact ⟨trivial, trivial⟩
    · by_cases h2 : s_X9_isBelow a2 4 = 0
      · simp only [if_pos h2, ite_self]; exact ⟨trivial, trivial⟩
      · by_cases h3 : s_X9_isBelow a3 4 = 0
        · simp only [if_pos h3, ite_self]; exact ⟨trivial, trivial⟩
        · by_cases h4 : s_X9_isBelow a4 4 = 0
          · simp only [if_pos h4, ite_self]; exact ⟨trivial, trivial⟩
          · exact absurd ⟨h1, h2, h3, h4⟩ h
theorem pr_c {a1 a2 a3 a4 : Int32} {I : am_I} {J : am_J} {Q : am_Q} (hG : Gr Q) (h : ¬ (¬ s_X9_isBelow a1 4 = 0 ∧ ¬ s_X9_isBelow a2 4 = 0 ∧ ¬ s_X9_isBelow a3 4 = 0 ∧ ¬ s_X9_isBelow a4 4 = 0) ∨ ¬ I 9 3 < 12) : Cm MX9_person 3 8 975 92 [.ref 0, .int a1, .int a2, .int a3, .int a4] I J Q (some (.int (-1)), 92, I, J, Q) := by
  by_cases h1 : s_X9_isBelow a1 4 = 0
  · exact ct_person_no1 I J Q hG a1 a2 a3 a4 h1
  · by_cases h2 : s_X9_isBelow a2 4 = 0
    · exact ct_person_no2 I J Q hG a1 a2 a3 a4 h1 h2
    · by_cases h3 : s_X9_isBelow a3 4 = 0
      · exact ct_person_no3 I J Q hG a1 a2 a3 a4 h1 h2 h3
      · by_cases h4 : s_X9_isBelow a4 4 = 0
        · exact ct_person_no4 I J Q hG a1 a2 a3 a4 h1 h2 h3 h4
        · exact ct_person_full I J Q hG a1 a2 a3 a4 h1 h2 h3 h4 (h.resolve_left (fun c => c ⟨h1, h2, h3, h4⟩))
theorem pr_12 {nc : Nat} {I : am_I} {J : am_J} {Q : am_Q} {E : Nat → am_I} (hV : VV nc I J Q E) : ¬ I 9 3 < 12 → I 46 35 = 12 := by
  intro h
  have b := hV.2.2.1.2.1
  rw [hV.1.2.2.2.2.2.1, ia_eq]
  rw [Int32.lt_iff_toInt_lt] at h
  have : (12 : Int32).toInt = 12 := rfl
  omega
theorem sp_per1 (a1 a2 a3 a4 : Int32) (h : ¬ (¬ s_X9_isBelow a1 4 = 0 ∧ ¬ s_X9_isBelow a2 4 = 0 ∧ ¬ s_X9_isBelow a3 4 = 0 ∧ ¬ s_X9_isBelow a4 4 = 0)) : LStp VV MX9_person MX10_person 3 1 8 975 [.int a1, .int a2, .int a3, .int a4] := by
  intro nc I J Q E hV
  obtain ⟨h0, h1⟩ := st_no hV
  have hG := hV.2.2.2.2.2.2.1.1 0
  refine ⟨0, -1, lI 0 I E, J, Q, h0, pr_c hG (Or.inl h), hV.2.2.2.2.2.2.1.2, 0, lI 0 I E, J, h0, ?_, h1⟩
  rw [l_back]
  obtain ⟨m1, m2⟩ := pr_m (I := lI 0 I E) (Or.inl h)
  have := ct_X10_person 0 (lI 0 I E) J (lQ 0 Q) hG a1 a2 a3 a4 m2
  rw [m1] at this
  exact this
theorem sp_per2 (a1 a2 a3 a4 : Int32) : LStp (fun nc I J Q E => VV nc I J Q E ∧ ¬ I 9 3 < 12) MX9_person MX10_person 3 1 8 975 [.int a1, .int a2, .int a3, .int a4] := by
  rintro nc I J Q E ⟨hV, hfull⟩
  obtain ⟨h0, h1⟩ := st_no hV
  have hG := hV.2.2.2.2.2.2.1.1 0
  refine ⟨0, -1, lI 0 I E, J, Q, h0, pr_c hG (Or.inr hfull), hV.2.2.2.2.2.2.1.2, 0, lI 0 I E, J, h0, ?_, h1, hfull⟩
  rw [l_back]
  obtain ⟨m1, m2⟩ := pr_m (I := lI 0 I E) (a1 := a1) (a2 := a2) (a3 := a3) (a4 := a4) (Or.inr (pr_12 hV hfull))
  have := ct_X10_person 0 (lI 0 I E) J (lQ 0 Q) hG a1 a2 a3 a4 m2
  rw [m1] at this
  exact this
theorem CR.zero {c M : am_I} {g : Nat} (hc : ∀ i a, i < 8 → c i a = 0) (hM : M 55 g = 0) : CR c M g := by
  refine ⟨0, 0, 0, fun _ => 0, fun _ => 0, fun _ => 0, by omega, by omega, by omega, hc 0 7 (by omega), hM, rfl, rfl, fun r h => absurd h (by omega), fun r h => absurd h (by omega), fun r h => absurd h (by omega), Or.inl (hc 0 10 (by omega)), fun _ r h => absurd h (by omega)⟩
def pr_I (I : am_I) (n : Nat) (a1 a2 a3 a4 : Int32) : am_I := am_w (am_w (am_w (am_w (am_w (am_w I 10 (4 * n) a1) 10 (4 * n + 1) a2) 10 (4 * n + 2) a3) 10 (4 * n + 3) a4) 11 n (-1)) 9 3 (nI n + 1)
def pr_K (I : am_I) (n : Nat) (a1 a2 a3 a4 : Int32) : am_I := am_w (am_w (am_w (am_w (am_w (am_w I 68 (4 * n) a1) 68 (4 * n + 1) a2) 68 (4 * n + 2) a3) 68 (4 * n + 3) a4) 69 n (-1)) 46 35 (nI n + 1)
theorem VV.person {nc n : Nat} {I : am_I} {J : am_J} {Q : am_Q} {E : Nat → am_I} (hV : VV nc I J Q E) (en : I 9 3 = nI n) (hn : n < 12) (a1 a2 a3 a4 : Int32) : VV (nc + 1) (pr_K (pr_I I n a1 a2 a3 a4) n a1 a2 a3 a4) J (am_w Q 12 n (some (1000 + 8 * nc))) (fun j' i => if j' = nc then fun _ => 0 else E j' i) := by
  have k1 : (nI n + 1).toInt = n + 1 := by rw [nI_1, nI_toInt (by omega)]; omega
  have k2 : (I 9 3).toInt = n := by rw [en, nI_toInt (by omega)]
  obtain ⟨⟨r1, r2, r3, r4, r5, r6, r7⟩, hs, ⟨b1, b2, b3⟩, ⟨p1, p2⟩, ht, ⟨np, σ, c1, c2, c3, c4, c5, c6, c7, c8⟩, ⟨q1, q2⟩, hj⟩ := hV
  have hnp : np = n := by
    have := c2.symm.trans en
    exact (nI_eq (by omega) (by omega)).mp this
  subst hnp
  refine ⟨⟨r1, r2, r3, ?_, ?_, rfl, r7⟩, hs, ⟨b1, ?_, b3⟩, ⟨fun p hp => ?_, fun t hp => ?_⟩, ht, ⟨np + 1, fun p => if p < np then σ p else if p = np then nc else σ np, by omega, ?_, by omega, fun p hp => ?_, fun p q hp hq he => ?_, ?_, fun p hp => ?_, fun p hp hp2 => ?_⟩, ⟨q1, fun k f r hr => ?_⟩, hj⟩
  · show va_up (va_up (va_up (va_up (I 68) _ _) _ _) _ _) _ _ = va_up (va_up (va_up (va_up (I 10) _ _) _ _) _ _) _ _
    rw [r4]
  · show va_up (I 69) _ _ = va_up (I 11) _ _
    rw [r5]
  · show 0 ≤ (nI np + 1).toInt ∧ (nI np + 1).toInt ≤ 12
    omega
  · obtain ⟨u1, u2, u3⟩ := p1 p hp
    refine ⟨u1, u2, u3.1, ?_⟩
    show (I 23 p).toInt < (nI np + 1).toInt
    omega
  · obtain ⟨u1, u2⟩ := p2 t hp
    refine ⟨u1, ?_⟩
    show (I 16 t).toInt < (nI np + 1).toInt
    omega
  · show nI np + 1 = nI (np + 1)
    rw [nI_1]
  · simp only
    have w1 := c4 p
    have w2 := c4 np (Nat.le_refl _)
    split
    · have := w1 (by omega); omega
    · split
      · omega
      · omega
  · simp only at he
    have wn := c4 np (Nat.le_refl _)
    by_cases hp1 : p < np
    · have wp := c4 p (by omega)
      rw [if_pos hp1] at he
      by_cases hq1 : q < np
      · rw [if_pos hq1] at he
        exact c5 p q (by omega) (by omega) he
      · rw [if_neg hq1] at he
        by_cases hq2 : q = np
        · rw [if_pos hq2] at he; omega
        · rw [if_neg hq2] at he
          have := c5 p np (by omega) (by omega) he
          omega
    · rw [if_neg hp1] at he
      by_cases hq1 : q < np
      · have wq := c4 q (by omega)
        rw [if_pos hq1] at he
        by_cases hp2 : p = np
        · rw [if_pos hp2] at he; omega
        · rw [if_neg hp2] at he
          have := c5 np q (by omega) (by omega) he
          omega
      · rw [if_neg hq1] at he
        by_cases hp2 : p = np
        · rw [if_pos hp2] at he
          by_cases hq2 : q = np
          · omega
          · rw [if_neg hq2] at he; omega
        · rw [if_neg hp2] at he
          by_cases hq2 : q = np
          · rw [if_pos hq2] at he; omega
          · omega
  · show Q 0 12 = _
    simp only
    rw [c6, if_neg (by omega), if_neg (by omega)]
  · simp only
    by_cases hp1 : p < np
    · obtain ⟨d1, lv, d2, d3, d4⟩ := c7 p hp1
      refine ⟨?_, lv, d2, d3, ?_⟩
      · rw [if_pos hp1]
        show va_up (Q 12) np _ p = _
        unfold va_up
        rw [if_neg (by omega)]
        exact d1
      · rw [if_pos hp1]
        have w := c4 p (by omega)
        refine CR.ex (c := E (σ p)) (fun i _ => ?_) d4
        show (if σ p = nc then _ else _) = _
        rw [if_neg (by omega)]
    · have hp2 : p = np := by omega
      subst hp2
      obtain ⟨z1, z2⟩ := c8 p (Nat.le_refl _) hn
      refine ⟨?_, 0, by omega, z1, CR.zero (fun i a _ => ?_) z2⟩
      · rw [if_neg hp1, if_pos rfl]
        show va_up (Q 12) p _ p = _
        unfold va_up
        rw [if_pos rfl]
      · rw [if_neg hp1, if_pos rfl]
        show (if nc = nc then (fun _ => (0 : Int32)) else E nc i) a = 0
        rw [if_pos rfl]
  · exact c8 p (by omega) hp2
  · have hr' : (va_up Q 12 (va_up (Q 12) np (some (1000 + 8 * nc)))) k f = some r := hr
    unfold va_up at hr'
    by_cases hk : k = 12
    · rw [if_pos hk] at hr'
      by_cases hf : f = np
      · simp only [if_pos hf, Option.some.injEq] at hr'
        refine Or.inr ?_
        omega
      · simp only [if_neg hf] at hr'
        rcases q2 12 f r hr' with w | w
        · exact Or.inl w
        · refine Or.inr ?_
          omega
    · rw [if_neg hk] at hr'
      rcases q2 k f r hr' with w | w
      · exact Or.inl w
      · refine Or.inr ?_
        omega
theorem sp_per3 (a1 a2 a3 a4 : Int32) : LPer VV a1 a2 a3 a4 := by
  rintro nc I J Q E hV ⟨h1, h2, h3, h4, h5⟩
  obtain ⟨n, hn, en⟩ := v_nI (m := 12) hV.2.2.1.2.1
  have hn2 : n < 12 := by rw [en] at h5; exact (nI_ltI (b := 12) (by omega) (by omega)).mp h5
  have hnc : nc = n + 1 := by
    obtain ⟨-, -, -, -, -, ⟨np, σ, c1, c2, c3, -⟩, -⟩ := hV
    have := (nI_eq (by omega) (by omega)).mp (c2.symm.trans en)
    omega
  have m4 : nI n * 4 = nI (4 * n) := by show nI n * nI 4 = _; rw [pk_mul, Nat.mul_comm]
  have m4' : 4 * nI n = nI (4 * n) := by show nI 4 * nI n = _; rw [pk_mul]
  have s1 : nI (4 * n) + 1 = nI (4 * n + 1) := nI_add _ 1
  have s2 : nI (4 * n) + 2 = nI (4 * n + 2) := nI_add _ 2
  have s3 : nI (4 * n) + 3 = nI (4 * n + 3) := nI_add _ 3
  have v0 : vp_in (nI (4 * n)) 48 := vp_in_nI (by omega) (by omega)
  have v1 : vp_in (nI (4 * n + 1)) 48 := vp_in_nI (by omega) (by omega)
  have v2 : vp_in (nI (4 * n + 2)) 48 := vp_in_nI (by omega) (by omega)
  have v3 : vp_in (nI (4 * n + 3)) 48 := vp_in_nI (by omega) (by omega)
  have vn : vp_in (nI n) 12 := vp_in_nI (by omega) (by omega)
  have t0 := nI_clamp (n := 4 * n) (by omega)
  have t1 := nI_clamp (n := 4 * n + 1) (by omega)
  have t2 := nI_clamp (n := 4 * n + 2) (by omega)
  have t3 := nI_clamp (n := 4 * n + 3) (by omega)
  have tn := nI_clamp (n := n) (by omega)
  have hlp : lp_I I a1 a2 a3 a4 = pr_I I n a1 a2 a3 a4 := by
    unfold lp_I pr_I
    rw [en, m4, s1, s2, s3, t0, t1, t2, t3, tn]
  have hVn := hV.person en hn2 a1 a2 a3 a4
  have hG2 : ∀ j, Gr (lQ j (am_w Q 12 n (some (1000 + 8 * nc)))) := hVn.2.2.2.2.2.2.1.1
  have hr2 := hVn.2.2.2.2.2.2.1.2
  rw [en, m4, s1, s2, s3]
  rw [tn]
  refine ⟨0, by omega, hV.2.2.2.2.2.2.1.1 0, by omega, hV.2.2.2.2.2.2.1.2, v0, v1, v2, v3, vn, 0, lI 0 (pr_K (pr_I I n a1 a2 a3 a4) n a1 a2 a3 a4) (fun j' i => if j' = nc then fun _ => 0 else E j' i), J, am_w Q 12 n (some (1000 + 8 * nc)), (fun j' i => if j' = nc then fun _ => 0 else E j' i), rfl, rfl, by omega, hr2, ?_, (hVn.ag ag_lI).ex (l_keep (fun _ _ _ => rfl))⟩
  rw [hlp]
  have e35 : lI 0 (pr_I I n a1 a2 a3 a4) (fun j' i => if j' = nc then fun _ => 0 else E j' i) 46 35 = nI n := hV.1.2.2.2.2.2.1.trans en
  have e : ∀ a, s_X10_isFour a = s_X9_isBelow a 4 := fun _ => rfl
  have c12 : ¬ nI n = 12 := fun h => by
    have := (nI_eq (b := 12) (by omega) (by omega)).mp h
    omega
  have hp : p_X10_person (lI 0 (pr_I I n a1 a2 a3 a4) (fun j' i => if j' = nc then fun _ => 0 else E j' i)) a1 a2 a3 a4 := by
    unfold p_X10_person
    rw [e35, e, e, e, e, if_neg c12, if_neg h1, if_neg h2, if_neg h3, if_neg h4, m4', s1, s2, s3]
    exact ⟨v0, v1, v2, v3, vn⟩
  have hs : s_X10_person (lI 0 (pr_I I n a1 a2 a3 a4) (fun j' i => if j' = nc then fun _ => 0 else E j' i)) a1 a2 a3 a4 = (nI n + 1 - 1, pr_K (lI 0 (pr_I I n a1 a2 a3 a4) (fun j' i => if j' = nc then fun _ => 0 else E j' i)) n a1 a2 a3 a4) := by
    unfold s_X10_person
    rw [e35, e, e, e, e, if_neg c12, if_neg h1, if_neg h2, if_neg h3, if_neg h4, m4', s1, s2, s3, t0, t1, t2, t3, tn]
    rfl
  have hK : pr_K (lI 0 (pr_I I n a1 a2 a3 a4) (fun j' i => if j' = nc then fun _ => 0 else E j' i)) n a1 a2 a3 a4 = lI 0 (pr_K (pr_I I n a1 a2 a3 a4) n a1 a2 a3 a4) (fun j' i => if j' = nc then fun _ => 0 else E j' i) := by
    funext k
    by_cases hk : 38 ≤ k ∧ k < 46
    · rw [lI_in hk]
      unfold pr_K
      rw [fw (fw (fw (fw (fw (fw (I := lI 0 (pr_I I n a1 a2 a3 a4) (fun j' i => if j' = nc then fun _ => 0 else E j' i)) (fun _ _ _ => rfl) (by decide)) (by decide)) (by decide)) (by decide)) (by decide)) (by decide) k hk.1 hk.2, lI_in hk]
    · rw [lI_out hk]
      unfold pr_K am_w va_up
      simp only [lI_out (show ¬ (38 ≤ 68 ∧ 68 < 46) by decide), lI_out (show ¬ (38 ≤ 69 ∧ 69 < 46) by decide), lI_out (show ¬ (38 ≤ 46 ∧ 46 < 46) by decide), lI_out hk]
  have := ct_X10_person 0 (lI 0 (pr_I I n a1 a2 a3 a4) (fun j' i => if j' = nc then fun _ => 0 else E j' i)) J (lQ 0 (am_w Q 12 n (some (1000 + 8 * nc)))) (hG2 0) a1 a2 a3 a4 hp
  rw [hs, hK] at this
  exact this
