section
/-! ===== read ===== -/
theorem CR.mv {c c' M M' : am_I} {g : Nat} (hc : ∀ i, i < 8 → c' i = c i) (h55 : M' 55 g = M 55 g) (h16 : ∀ k a, (k = 56 ∨ k = 57 ∨ k = 58) → 16 * g ≤ a → a < 16 * g + 16 → M' k a = M k a) (h200 : ∀ k a, 60 ≤ k → k ≤ 64 → 200 * g ≤ a → a < 200 * g + 200 → M' k a = M k a) (h500 : ∀ k a, (k = 65 ∨ k = 66) → 500 * g ≤ a → a < 500 * g + 500 → M' k a = M k a) (h : CR c M g) : CR c' M' g := by
  refine CR.ex hc ?_
  obtain ⟨R, L, S, rb, lb, md, e1, e2, e3, e4, e5, e6, e7, e8, e9, e10, e11, e12⟩ := h
  refine ⟨R, L, S, rb, lb, md, e1, e2, e3, e4, h55.trans e5, e6, e7, fun r hr => ?_, fun l hl => ?_, fun i hi => ?_, e11, e12⟩
  · have := e8 r hr
    unfold cRu at this ⊢
    rw [h16 56 (16 * g + r) (by omega) (by omega) (by omega), h16 57 (16 * g + r) (by omega) (by omega) (by omega), h16 58 (16 * g + r) (by omega) (by omega) (by omega)]
    exact this
  · have := e9 l hl
    unfold cLi at this ⊢
    rw [h200 64 (200 * g + l) (by omega) (by omega) (by omega) (by omega), h200 61 (200 * g + l) (by omega) (by omega) (by omega) (by omega), h200 63 (200 * g + l) (by omega) (by omega) (by omega) (by omega), h200 60 (200 * g + l) (by omega) (by omega) (by omega) (by omega), h200 62 (200 * g + l) (by omega) (by omega) (by omega) (by omega)]
    exact this
  · rw [h500 65 (500 * g + i) (by omega) (by omega) (by omega), h500 66 (500 * g + i) (by omega) (by omega) (by omega)]
    exact e10 i hi
theorem lq_w {j k q r : Nat} {Q : am_Q} (hk : ¬ (38 ≤ k ∧ k < 46)) : lQ j (am_w Q k q (some r)) = am_w (lQ j Q) k q (some (lqm j r)) := by
  funext k' q'
  by_cases e : k' = k
  · subst e
    rw [lQ_out hk]
    show ((va_up Q k' (va_up (Q k') q (some r))) k' q').map (lqm j) = (va_up (lQ j Q) k' (va_up (lQ j Q k') q (some (lqm j r)))) k' q'
    rw [vu_s, vu_s]
    by_cases e2 : q' = q
    · subst e2
      rw [vu_s, vu_s]
      rfl
    · rw [vu_n e2, vu_n e2, lQ_out hk]
  · show lQ j (va_up Q k _) k' q' = (va_up (lQ j Q) k _) k' q'
    rw [vu_n e]
    by_cases h2 : 38 ≤ k' ∧ k' < 46
    · rw [lQ_in h2, lQ_in h2]
    · rw [lQ_out h2, lQ_out h2]
      show (va_up Q k _ k' q').map (lqm j) = _
      rw [vu_n e]
theorem nI_m1 {n : Nat} (h : n < 2 ^ 31) : ¬ nI n = -1 := by
  rw [ia_eq, nI_toInt h]
  show ¬ _ = (-1 : Int)
  omega
/-- what is alike again when a text has been read -/
theorem VV.rd {nc : Nat} {K K3 M' : am_I} {J J' : am_J} {Q Q1 : am_Q} {E E1 : Nat → am_I} {pv : Int32} (hV : VV nc K J Q E) (hJ : J' 53 = J 53) (h3 : K3 = fun k => if 54 ≤ k ∧ k ≤ 66 then M' k else am_w (am_w (am_w (am_w K 1 1 0) 46 2 0) 0 11 pv) 46 17 pv k) (hC : VC nc (K 9 3) K3 Q1 E1) (hQ : VQ nc Q1) : VV nc K3 J' Q1 E1 := by
  obtain ⟨⟨r1, r2, r3, r4⟩, hs, ⟨b1, b2⟩, hp, ht, -, -, hj⟩ := hV
  have out : ∀ k, ¬ (54 ≤ k ∧ k ≤ 66) → k ≠ 0 → k ≠ 1 → k ≠ 46 → K3 k = K k := by
    intro k h1 h2 h4 h5
    rw [h3]
    show (if _ then _ else _) = _
    rw [if_neg h1, aw_k h5, aw_k h2, aw_k h5, aw_k h4]
  have o46 : ∀ a, a ≠ 2 → a ≠ 17 → K3 46 a = K 46 a := by
    intro a h1 h2
    rw [h3]
    show am_w (am_w (am_w (am_w K 1 1 0) 46 2 0) 0 11 pv) 46 17 pv 46 a = _
    rw [aw_n h2]
    show am_w (am_w K 1 1 0) 46 2 0 46 a = _
    rw [aw_n h1]
    rfl
  have o0 : ∀ a, a ≠ 11 → K3 0 a = K 0 a := by
    intro a h1
    rw [h3]
    show am_w (am_w (am_w K 1 1 0) 46 2 0) 0 11 pv 0 a = _
    rw [aw_n h1]
    rfl
  have x1 : K3 1 1 = 0 := by rw [h3]; rfl
  have x2 : K3 46 2 = 0 := by rw [h3]; rfl
  have x3 : K3 0 11 = pv := by rw [h3]; rfl
  have x4 : K3 46 17 = pv := by rw [h3]; rfl
  have n2 := out 2 (by omega) (by omega) (by omega) (by omega)
  have n9 := out 9 (by omega) (by omega) (by omega) (by omega)
  have n10 := out 10 (by omega) (by omega) (by omega) (by omega)
  have n11 := out 11 (by omega) (by omega) (by omega) (by omega)
  have n13 := out 13 (by omega) (by omega) (by omega) (by omega)
  have n14 := out 14 (by omega) (by omega) (by omega) (by omega)
  have n15 := out 15 (by omega) (by omega) (by omega) (by omega)
  have n16 := out 16 (by omega) (by omega) (by omega) (by omega)
  have n17 := out 17 (by omega) (by omega) (by omega) (by omega)
  have n18 := out 18 (by omega) (by omega) (by omega) (by omega)
  have n19 := out 19 (by omega) (by omega) (by omega) (by omega)
  have n20 := out 20 (by omega) (by omega) (by omega) (by omega)
  have n21 := out 21 (by omega) (by omega) (by omega) (by omega)
  have n22 := out 22 (by omega) (by omega) (by omega) (by omega)
  have n23 := out 23 (by omega) (by omega) (by omega) (by omega)
  have n24 := out 24 (by omega) (by omega) (by omega) (by omega)
  have n25 := out 25 (by omega) (by omega) (by omega) (by omega)
  have n26 := out 26 (by omega) (by omega) (by omega) (by omega)
  have n27 := out 27 (by omega) (by omega) (by omega) (by omega)
  have n28 := out 28 (by omega) (by omega) (by omega) (by omega)
  have n29 := out 29 (by omega) (by omega) (by omega) (by omega)
  have n30 := out 30 (by omega) (by omega) (by omega) (by omega)
  have n31 := out 31 (by omega) (by omega) (by omega) (by omega)
  have n32 := out 32 (by omega) (by omega) (by omega) (by omega)
  have n33 := out 33 (by omega) (by omega) (by omega) (by omega)
  have n34 := out 34 (by omega) (by omega) (by omega) (by omega)
  have n35 := out 35 (by omega) (by omega) (by omega) (by omega)
  have n37 := out 37 (by omega) (by omega) (by omega) (by omega)
  have n47 := out 47 (by omega) (by omega) (by omega) (by omega)
  have n68 := out 68 (by omega) (by omega) (by omega) (by omega)
  have n69 := out 69 (by omega) (by omega) (by omega) (by omega)
  have n70 := out 70 (by omega) (by omega) (by omega) (by omega)
  have n71 := out 71 (by omega) (by omega) (by omega) (by omega)
  have n72 := out 72 (by omega) (by omega) (by omega) (by omega)
  have n73 := out 73 (by omega) (by omega) (by omega) (by omega)
  have n74 := out 74 (by omega) (by omega) (by omega) (by omega)
  have n75 := out 75 (by omega) (by omega) (by omega) (by omega)
  have n76 := out 76 (by omega) (by omega) (by omega) (by omega)
  have n77 := out 77 (by omega) (by omega) (by omega) (by omega)
  have n78 := out 78 (by omega) (by omega) (by omega) (by omega)
  have n79 := out 79 (by omega) (by omega) (by omega) (by omega)
  have n80 := out 80 (by omega) (by omega) (by omega) (by omega)
  have n81 := out 81 (by omega) (by omega) (by omega) (by omega)
  have n82 := out 82 (by omega) (by omega) (by omega) (by omega)
  have n85 := out 85 (by omega) (by omega) (by omega) (by omega)
  have n86 := out 86 (by omega) (by omega) (by omega) (by omega)
  have n87 := out 87 (by omega) (by omega) (by omega) (by omega)
  have n88 := out 88 (by omega) (by omega) (by omega) (by omega)
  have n89 := out 89 (by omega) (by omega) (by omega) (by omega)
  have p35 := o46 35 (by omega) (by omega)
  have p38 := o46 38 (by omega) (by omega)
  have p40 := o46 40 (by omega) (by omega)
  have p44 := o46 44 (by omega) (by omega)
  have p52 := o46 52 (by omega) (by omega)
  have p54 := o46 54 (by omega) (by omega)
  have p56 := o46 56 (by omega) (by omega)
  have p61 := o46 61 (by omega) (by omega)
  have q9 := o0 9 (by omega)
  have q10 := o0 10 (by omega)
  refine ⟨⟨by rw [n47, n2]; exact r1, by rw [x1, x2], by rw [x3, x4], ?_⟩, ?_, ⟨by rw [x1]; decide, ?_⟩, ?_, ?_, by rw [n9]; exact hC, hQ, hJ.trans hj⟩
  · rw [n68, n10, n69, n11, p35, n9, n70, n14, p38, n13, n71, n16, n72, n17, n73, n18, p40, n15]
    exact r4
  · unfold VS at hs ⊢
    rw [n74, n19, n75, n20, n76, n21, n77, n22, n78, n23, n79, n24, n80, n25, p44, n15, n81, n27, p52, n26, n85, n28, n82, n37, p54, q9, p56, q10, p61, n29]
    exact hs
  · rw [n9, n13, n15, n26, q9, n29]
    exact b2
  · unfold VP at hp ⊢
    simp only [n15, n19, n22, n13, n23, n9, n16]
    exact hp
  · unfold VT tLo tSat tSol tHold tW at ht ⊢
    simp only [n86, n30, n87, n31, n29, n32, n88, n33, n89, n34, n35]
    exact ht
set_option maxHeartbeats 1000000 in
theorem sp_read (a : Int32) : LStp VV MX9_read MX10_read 9 5 0 0 [.int a] := by
  intro nc I J Q E hV
  obtain ⟨f, hf⟩ : ∃ f : Nat, 100000 ≤ f := ⟨100000, Nat.le_refl _⟩
  by_cases hper : s_X8_has I a = 0
  · obtain ⟨h0, h1⟩ := st_no hV
    have hG := hV.2.2.2.2.2.2.1.1 0
    have hper' : s_X8_has (lI 0 I E) a = 0 := hper
    have hm : s_X10_isPerson (lI 0 I E) a = 0 := by
      show s_X9_isBelow a (lI 0 I E 46 35) = 0
      have e : lI 0 I E 46 35 = I 9 3 := hV.1.2.2.2.2.2.1
      rw [e]
      exact hper
    have c1 := ct_X9_read f (lI 0 I E) J (lQ 0 Q) hG a 0 (by unfold p_X9_read; rw [if_pos hper']; trivial)
    have e1 : s_X9_read f (lI 0 I E) (lQ 0 Q) a 0 = (-1, lI 0 I E, lQ 0 Q) := by unfold s_X9_read; rw [if_pos hper']
    rw [e1] at c1
    have c2 := ct_X10_read f (lI 0 I E) J (lQ 0 Q) hG a (by unfold p_X10_read; rw [if_pos hm]; trivial)
    have e2 : s_X10_read f (lI 0 I E) J a = (-1, lI 0 I E, J) := by unfold s_X10_read; rw [if_pos hm]
    rw [e2] at c2
    refine ⟨0, -1, lI 0 I E, J, Q, h0, c1, hV.2.2.2.2.2.2.1.2, 0, lI 0 I E, J, h0, ?_, h1⟩
    rw [l_back]
    exact c2
  · have hV0 := hV
    obtain ⟨vr, vs, vb, vpp, vt, ⟨np, σ, c1, c2, c3, c4, c5, c6, c7, c8⟩, vq, vj⟩ := hV
    obtain ⟨p, hp, rfl⟩ := isB_of hper c2 (by omega)
    obtain ⟨j, hj⟩ : ∃ j, j = σ np := ⟨_, rfl⟩
    have hjn : j < nc := by rw [hj]; exact c4 np (Nat.le_refl _)
    obtain ⟨K, hK⟩ : ∃ K, K = lI j I E := ⟨_, rfl⟩
    have hKo : ∀ k, ¬ (38 ≤ k ∧ k < 46) → K k = I k := fun k hk => by rw [hK]; exact lI_out hk
    have hVK : VV nc K J Q E := by rw [hK]; exact hV0.ag ag_lI
    obtain ⟨n, hn, en⟩ := v_nI (m := 2000) hVK.2.2.1.1
    obtain ⟨tp, htp, etp⟩ := v_nI (m := 12) hVK.2.2.1.2.2.1
    obtain ⟨d1, lv, d2, d3, d4⟩ := c7 p hp
    have k2 : K 46 2 = nI n := hVK.1.2.1.trans en
    have k47 : K 47 = K 2 := hVK.1.1.1
    have k38 : K 46 38 = nI tp := hVK.1.2.2.2.2.2.2.2.1.trans etp
    have k35 : K 46 35 = nI np := by rw [hVK.1.2.2.2.2.2.1, hKo 9 (by omega)]; exact c2
    have k54 : K 54 p = nI lv := by rw [hKo 54 (by omega)]; exact d3
    have kb : ∀ k, vp_nar .byte (K 2 k) = K 2 k := hVK.1.1.2
    obtain ⟨g, hg⟩ : ∃ g, g = 2 * p + 1 - lv := ⟨_, rfl⟩
    obtain ⟨x, I', -, -, ⟨e1, p1⟩, -, fr, -⟩ := rd_b (f := f) (K := K) (N := K) (J := J) hf hn en kb htp k2 k47 k38 k35 c1 hp k54 d2 vj
    have frw : ∀ k, k ≠ 1 → k ≠ 3 → k ≠ 4 → ¬ (38 ≤ k ∧ k < 46) → I' k = K k := fun k h1 h2 h3 h4 => funext fun a => fr k a (fun q => h1 q.1) h2 h3 h4
    obtain ⟨I1, hI1⟩ : ∃ I1, I1 = am_w (am_w I' 0 11 (I' 3 7)) 1 1 0 := ⟨_, rfl⟩
    have i1w : ∀ k, k ≠ 0 → k ≠ 1 → I1 k = I' k := fun k h1 h2 => by rw [hI1, aw_k h2, aw_k h1]
    have w46 : I1 46 = K 46 := (i1w 46 (by decide) (by decide)).trans (frw 46 (by decide) (by decide) (by decide) (by decide))
    have w47 : I1 47 = K 47 := (i1w 47 (by decide) (by decide)).trans (frw 47 (by decide) (by decide) (by decide) (by decide))
    have w54 : I1 54 = K 54 := (i1w 54 (by decide) (by decide)).trans (frw 54 (by decide) (by decide) (by decide) (by decide))
    obtain ⟨x2, I2, M', J', ⟨e2, -⟩, ⟨e3, p3⟩, -, frM, m17, m2, hJ', hne, heq⟩ := rd_b (f := f) (K := K) (N := I1) (J := J) hf hn en kb htp (by rw [w46]; exact k2) (by rw [w47]; exact k47) (by rw [w46]; exact k38) (by rw [w46]; exact k35) c1 hp (by rw [w54]; exact k54) d2 vj
    have exx : x2 = x := by have := e2.symm.trans e1; exact (Prod.mk.inj this).1
    have exI : I2 = I' := by have := e2.symm.trans e1; exact (Prod.mk.inj this).2
    subst exx
    subst exI
    rw [← hg] at frM heq
    -- what is left of K
    have Z : ∀ k a, ¬ scR p g k a → ¬ (k = 0 ∧ a = 11) → ¬ (k = 1 ∧ 1 ≤ a ∧ a ≤ 5) → k ≠ 3 → k ≠ 4 → ¬ (38 ≤ k ∧ k < 46) → M' k a = K k a := by
      intro k a h1 h2 h3 h4 h5 h6
      rw [frM k a h1, hI1]
      by_cases q1 : k = 1
      · subst q1
        rw [aw_n (by omega), aw_k (by decide)]
        exact fr 1 a (by omega) h4 h5 h6
      · rw [aw_k q1]
        by_cases q0 : k = 0
        · subst q0
          rw [aw_n (by omega)]
          exact fr 0 a (by omega) h4 h5 h6
        · rw [aw_k q0]
          exact fr k a (by omega) h4 h5 h6
    have nsc : ∀ k a, (k < 46 ∨ 67 < k) → ¬ scR p g k a := fun k a h q => by unfold scR scM at q; omega
    obtain ⟨pv, hpv⟩ : ∃ pv, pv = I2 3 7 := ⟨_, rfl⟩
    obtain ⟨K3, hK3⟩ : ∃ K3 : am_I, K3 = fun k => if 54 ≤ k ∧ k ≤ 66 then M' k else am_w (am_w (am_w (am_w K 1 1 0) 46 2 0) 0 11 pv) 46 17 pv k := ⟨_, rfl⟩
    have hAg : Ag K3 M' := by
      intro k a hs
      rw [hK3]
      show _ = (if 54 ≤ k ∧ k ≤ 66 then M' k else am_w (am_w (am_w (am_w K 1 1 0) 46 2 0) 0 11 pv) 46 17 pv k) a
      by_cases hr : 54 ≤ k ∧ k ≤ 66
      · rw [if_pos hr]
      · rw [if_neg hr]
        have z3 : k ≠ 3 := fun e => by subst e; cases hs
        have z4 : k ≠ 4 := fun e => by subst e; cases hs
        have z38 : ¬ (38 ≤ k ∧ k < 46) := fun e => by
          have : k = 38 ∨ k = 39 ∨ k = 40 ∨ k = 41 ∨ k = 42 ∨ k = 43 ∨ k = 44 ∨ k = 45 := by omega
          rcases this with h | h | h | h | h | h | h | h <;> subst h <;> cases hs
        have z48 : k ≠ 48 := fun e => by subst e; cases hs
        have z49 : k ≠ 49 := fun e => by subst e; cases hs
        have z50 : k ≠ 50 := fun e => by subst e; cases hs
        have z51 : k ≠ 51 := fun e => by subst e; cases hs
        have z67 : k ≠ 67 := fun e => by subst e; cases hs
        have o46 : k = 46 → a ≠ 4 ∧ a ≠ 10 ∧ a ≠ 11 ∧ a ≠ 12 ∧ a ≠ 13 ∧ a ≠ 14 ∧ a ≠ 15 ∧ a ≠ 16 ∧ a ≠ 19 ∧ a ≠ 30 ∧ a ≠ 34 := by
          intro e
          subst e
          refine ⟨?_, ?_, ?_, ?_, ?_, ?_, ?_, ?_, ?_, ?_, ?_⟩ <;> (intro e; subst e; cases hs)
        have o1 : k = 1 → a ≠ 2 ∧ a ≠ 3 ∧ a ≠ 4 ∧ a ≠ 5 := by
          intro e
          subst e
          refine ⟨?_, ?_, ?_, ?_⟩ <;> (intro e; subst e; cases hs)
        by_cases e46 : k = 46
        · subst e46
          have o := o46 rfl
          by_cases a17 : a = 17
          · subst a17
            rw [aw_s, m17, hpv]
          · rw [aw_n a17]
            show _ = am_w (am_w K 1 1 0) 46 2 0 46 a
            by_cases a2 : a = 2
            · subst a2
              rw [aw_s, m2]
            · rw [aw_n a2]
              show _ = K 46 a
              exact Z 46 a (fun q => by unfold scR scM at q; omega) (by omega) (by omega) (by omega) (by omega) (by omega)
        · rw [aw_k e46]
          by_cases e0 : k = 0
          · subst e0
            by_cases a11 : a = 11
            · subst a11
              rw [aw_s, frM 0 11 (nsc 0 11 (by omega)), hI1, hpv]
              rfl
            · rw [aw_n a11]
              show _ = K 0 a
              exact Z 0 a (nsc 0 a (by omega)) (by omega) (by omega) (by omega) (by omega) (by omega)
          · rw [aw_k e0, aw_k e46]
            by_cases e1' : k = 1
            · subst e1'
              have o := o1 rfl
              by_cases a1 : a = 1
              · subst a1
                rw [aw_s, frM 1 1 (nsc 1 1 (by omega)), hI1]
                rfl
              · rw [aw_n a1]
                exact Z 1 a (nsc 1 a (by omega)) (by omega) (by omega) (by omega) (by omega) (by omega)
            · rw [aw_k e1']
              exact Z k a (fun q => by unfold scR scM at q; omega) (by omega) (by omega) z3 z4 z38
    have h54 : ∀ q, q ≠ p → K3 54 q = I 54 q := fun q hq => by
      rw [hK3]
      show M' 54 q = _
      rw [Z 54 q (fun z => by unfold scR scM at z; omega) (by omega) (by omega) (by omega) (by omega) (by omega), hKo 54 (by omega)]
    have r3 : ∀ k a, 54 ≤ k → k ≤ 66 → K3 k a = M' k a := fun k a h1 h2 => by
      rw [hK3]
      exact congrFun (if_pos ⟨h1, h2⟩) a
    have pg : ∀ (g' : Nat) (cc cc' : am_I), g' ≠ g → (∀ i, i < 8 → cc' i = cc i) → CR cc I g' → CR cc' K3 g' := by
      intro g' cc cc' hgg hcc hCR
      have zz : ∀ k a, 55 ≤ k → k ≤ 66 → ¬ scM g k a → K3 k a = I k a := fun k a h1 h2 h3 => by
        rw [r3 k a (by omega) h2, Z k a (fun q => by
          unfold scR at q
          rcases q with q | q
          · exact h3 q
          · omega) (by omega) (by omega) (by omega) (by omega) (by omega), hKo k (by omega)]
      refine CR.mv hcc (zz 55 g' (by omega) (by omega) (fun q => by unfold scM at q; omega)) (fun k a h1 h2 h3 => zz k a (by omega) (by omega) (fun q => by unfold scM at q; omega)) (fun k a h1 h2 h3 h4 => zz k a (by omega) (by omega) (fun q => by unfold scM at q; omega)) (fun k a h1 h2 h3 => zz k a (by omega) (by omega) (fun q => by unfold scM at q; omega)) hCR
    have h8 : ∀ q, np ≤ q → q < 12 → K3 54 q = 0 ∧ K3 55 (2 * q) = 0 := by
      intro q h1 h2
      obtain ⟨z1, z2⟩ := c8 q h1 h2
      refine ⟨by rw [h54 q (by omega)]; exact z1, ?_⟩
      rw [hK3]
      show M' 55 (2 * q) = 0
      rw [Z 55 (2 * q) (fun z => by unfold scR scM at z; omega) (by omega) (by omega) (by omega) (by omega) (by omega), hKo 55 (by omega)]
      exact z2
    have hother : ∀ q, q < np → ∀ i, i < 8 → le_1 j M' E (σ q) i = E (σ q) i := by
      intro q hq i _
      unfold le_1
      rw [if_neg (fun e => by
        rw [hj] at e
        have := c5 q np (by omega) (by omega) e
        omega)]
    have hper' : ¬ s_X8_has K (nI p) = 0 := by
      unfold s_X8_has at hper ⊢
      rw [hKo 9 (by omega)]
      exact hper
    have hper2 : ∀ v, ¬ s_X8_has (am_w I2 0 11 v) (nI p) = 0 := by
      intro v
      unfold s_X8_has at hper' ⊢
      rw [aw_k (by decide), frw 9 (by decide) (by decide) (by decide) (by decide)]
      exact hper'
    have q012 : lQ j Q 0 12 = some 38 := by
      rw [lQ_out (by omega)]
      show (Q 0 12).map (lqm j) = _
      rw [c6, hj]
      show some (lqm _ _) = _
      unfold lqm
      rw [if_pos rfl]
    have hσp : ¬ 1000 + 8 * σ p = 1000 + 8 * j := fun e => by
      have := c5 p np (by omega) (by omega) (by omega)
      omega
    have q12p : lQ j Q 12 p = some (1000 + 8 * σ p) := by
      rw [lQ_out (by omega)]
      show (Q 12 p).map (lqm j) = _
      rw [d1]
      show some (lqm _ _) = _
      unfold lqm
      rw [if_neg hσp]
    have v12 : vp_in (nI p) 12 := vp_in_nI (by omega) (by omega)
    have cp := nI_clamp (n := p) (by omega)
    have hG := vq.1 j
    have hpc : p_X9_read f K (lQ j Q) (nI p) (1000 + 8 * σ p) := by
      unfold p_X9_read
      rw [if_neg hper', etp, e1]
      refine ⟨q012, p1, ?_⟩
      by_cases hx : x2 = 0
      · simp only [hx, if_true]
        refine ⟨q012, ?_⟩
        unfold p_X8_exchangeConsent
        rw [if_neg (hper2 _), cp]
        exact ⟨⟨v12, q12p⟩, ⟨v12, q12p⟩, v12⟩
      · simp only [hx, if_false]
    have hcm := ct_X9_read f K J (lQ j Q) hG (nI p) (1000 + 8 * σ p) hpc
    by_cases hx : x2 = 0
    · -- the text stands
      obtain ⟨heq1, heq2⟩ := heq hx
      obtain ⟨Q1, hQ1⟩ : ∃ Q1, Q1 = am_w (am_w Q 12 p (some (1000 + 8 * j))) 0 12 (some (1000 + 8 * σ p)) := ⟨_, rfl⟩
      have eQ : lQ j Q1 = am_w (am_w (lQ j Q) 12 p (some 38)) 0 12 (some (1000 + 8 * σ p)) := by
        rw [hQ1, lq_w (by omega), lq_w (by omega)]
        have l1 : lqm j (1000 + 8 * j) = 38 := if_pos rfl
        have l2 : lqm j (1000 + 8 * σ p) = 1000 + 8 * σ p := if_neg hσp
        rw [l1, l2]
      have eR : s_X9_read f K (lQ j Q) (nI p) (1000 + 8 * σ p) = (x2, I1, lQ j Q1) := by
        unfold s_X9_read
        rw [if_neg hper', etp, e1]
        simp only [hx, if_true]
        unfold s_X8_exchangeConsent
        rw [if_neg (hper2 _), cp, eQ, hI1]
        rfl
      rw [eR] at hcm
      have σj : σ p < nc := c4 p (by omega)
      have hVQ1 : VQ nc Q1 := by
        refine ⟨fun j' => ?_, fun k q r hr => ?_⟩
        · rw [hQ1]
          exact vq.1 j'
        · rw [hQ1] at hr
          have hr' : (va_up (va_up Q 12 (va_up (Q 12) p (some (1000 + 8 * j)))) 0 (va_up ((va_up Q 12 (va_up (Q 12) p (some (1000 + 8 * j)))) 0) 12 (some (1000 + 8 * σ p)))) k q = some r := hr
          by_cases k0 : k = 0
          · subst k0
            rw [vu_s] at hr'
            by_cases f12 : q = 12
            · subst f12
              rw [vu_s] at hr'
              cases hr'
              exact Or.inr (by omega)
            · rw [vu_n f12, vu_n (by decide)] at hr'
              exact vq.2 0 q r hr'
          · rw [vu_n k0] at hr'
            by_cases k12 : k = 12
            · subst k12
              rw [vu_s] at hr'
              by_cases fp : q = p
              · subst fp
                rw [vu_s] at hr'
                cases hr'
                exact Or.inr (by omega)
              · rw [vu_n fp] at hr'
                exact vq.2 12 q r hr'
            · rw [vu_n k12] at hr'
              exact vq.2 k q r hr'
      refine ⟨j, x2, I1, J, Q1, hjn, ?_, hVQ1.2, j, M', J', hjn, ?_, ?_⟩
      · rw [← hK]
        exact hcm
      · rw [l_back]
        have := ct_X10_read f I1 J (lQ j Q1) (hVQ1.1 j) (nI p) p3
        rw [e3] at this
        exact this
      · rw [l_twice]
        refine VV.ag hAg (VV.rd hVK hJ' hK3 ?_ hVQ1)
        refine ⟨np, fun q => if q = p then j else if q = np then σ p else σ q, c1, by rw [hKo 9 (by omega)]; exact c2, c3, fun q hq => ?_, fun q r hq hr he => ?_, ?_, fun q hq => ?_, h8⟩
        · simp only
          have := c4 q hq
          split
          · exact hjn
          · split
            · exact σj
            · exact this
        · simp only at he
          rw [hj] at he
          by_cases qp : q = p
          · rw [if_pos qp] at he
            by_cases rp : r = p
            · omega
            · rw [if_neg rp] at he
              by_cases rn : r = np
              · rw [if_pos rn] at he
                have := c5 np p (by omega) (by omega) he
                omega
              · rw [if_neg rn] at he
                have := c5 np r (by omega) (by omega) he
                omega
          · rw [if_neg qp] at he
            by_cases qn : q = np
            · rw [if_pos qn] at he
              by_cases rp : r = p
              · rw [if_pos rp] at he
                have := c5 p np (by omega) (by omega) he
                omega
              · rw [if_neg rp] at he
                by_cases rn : r = np
                · omega
                · rw [if_neg rn] at he
                  have := c5 p r (by omega) (by omega) he
                  omega
            · rw [if_neg qn] at he
              by_cases rp : r = p
              · rw [if_pos rp] at he
                have := c5 q np (by omega) (by omega) he
                omega
              · rw [if_neg rp] at he
                by_cases rn : r = np
                · rw [if_pos rn] at he
                  have := c5 q p (by omega) (by omega) he
                  omega
                · rw [if_neg rn] at he
                  exact c5 q r hq hr he
        · simp only
          rw [if_neg (show ¬ np = p by omega), if_pos trivial, hQ1]
          rfl
        · simp only
          by_cases qp : q = p
          · subst qp
            rw [if_pos rfl]
            refine ⟨by
              rw [hQ1]
              show va_up (Q 12) q (some (1000 + 8 * j)) q = _
              rw [vu_s], 1 - lv, by omega, ?_, ?_⟩
            · rw [hK3]; exact heq1
            · have eg : 2 * q + (1 - lv) = g := by omega
              rw [eg]
              refine CR.mv (c := fun i => I2 (38 + i)) (M := M') (fun i hi => ?_) ?_ (fun k a h1 h2 h3 => ?_) (fun k a h1 h2 h3 h4 => ?_) (fun k a h1 h2 h3 => ?_) heq2
              · unfold le_1
                rw [if_pos rfl]
                funext a
                rw [frM (38 + i) a (nsc _ a (by omega)), i1w (38 + i) (by omega) (by omega)]
              · rw [hK3]; rfl
              · exact r3 k a (by omega) (by omega)
              · exact r3 k a (by omega) (by omega)
              · exact r3 k a (by omega) (by omega)
          · rw [if_neg qp, if_neg (show ¬ q = np by omega)]
            obtain ⟨u1, lv', u2, u3, u4⟩ := c7 q hq
            refine ⟨by
              rw [hQ1]
              show va_up (Q 12) p (some (1000 + 8 * j)) q = _
              rw [vu_n qp]
              exact u1, lv', u2, by rw [h54 q qp]; exact u3, pg _ _ _ (by omega) (hother q hq) u4⟩
    · -- a fault
      have eR : s_X9_read f K (lQ j Q) (nI p) (1000 + 8 * σ p) = (x2, I1, lQ j Q) := by
        unfold s_X9_read
        rw [if_neg hper', etp, e1]
        simp only [hx, if_false]
        rw [hI1]
        rfl
      rw [eR] at hcm
      refine ⟨j, x2, I1, J, Q, hjn, ?_, vq.2, j, M', J', hjn, ?_, ?_⟩
      · rw [← hK]
        exact hcm
      · rw [l_back]
        have := ct_X10_read f I1 J (lQ j Q) (vq.1 j) (nI p) p3
        rw [e3] at this
        exact this
      · rw [l_twice]
        refine VV.ag hAg (VV.rd hVK hJ' hK3 ?_ vq)
        refine ⟨np, σ, c1, by rw [hKo 9 (by omega)]; exact c2, c3, c4, c5, c6, fun q hq => ?_, h8⟩
        obtain ⟨u1, lv', u2, u3, u4⟩ := c7 q hq
        by_cases qp : q = p
        · subst qp
          have elv : lv' = lv := (nI_eq (by omega) (by omega)).mp (u3.symm.trans d3)
          subst elv
          refine ⟨u1, lv', u2, ?_, pg _ _ _ (by omega) (hother q hq) u4⟩
          rw [hK3]
          show M' 54 q = _
          rw [hne hx, w54]
          exact k54
        · exact ⟨u1, lv', u2, by rw [h54 q qp]; exact u3, pg _ _ _ (by omega) (hother q hq) u4⟩
end
