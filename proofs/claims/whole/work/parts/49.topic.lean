/-! ===== topic, piece, feed, person ===== -/
theorem sp_topic (a : Int32) : LStp VV MX9_topic MX10_topic 4 0 0 0 [.int a] :=
  st_x (pc := fun I => p_X9_topic I a) (pm := fun I => p_X10_topic I a) (fun I => s_X9_topic I a) (fun I => s_X10_topic I a) (fun I J Q hG h => ct_X9_topic 0 I J Q hG a h) (fun I J Q hG h => ct_X10_topic 0 I J Q hG a h) (fun nc I J Q E hV => by
    have e8 := hV.1.2.2.2.2.2.2.2.1
    have e7 := hV.1.2.2.2.2.2.2.1
    obtain ⟨k, hk, ek⟩ := v_nI (m := 12) hV.2.2.1.2.2.1
    have l12 : (12 : Int32) = nI 12 := rfl
    have hno : s_X9_topic I a = (-1, I) → p_X9_topic I a → s_X10_topic I a = (-1, I) → p_X10_topic I a → ∃ (x : Int32) (I1 I2 : am_I), p_X9_topic I a ∧ s_X9_topic I a = (x, I1) ∧ p_X10_topic I1 a ∧ s_X10_topic I1 a = (x, I2) ∧ (∀ k, 38 ≤ k → k < 46 → I2 k = I k) ∧ VV nc I2 J Q E := fun a1 a2 a3 a4 => ⟨-1, I, I, a2, a1, a4, a3, fun _ _ _ => rfl, hV⟩
    have hyes : ∀ z : Int32, k < 12 → p_X9_topic I a → s_X9_topic I a = (nI k + 1 - 1, am_w (am_w I 14 k z) 13 1 (nI k + 1)) → p_X10_topic (am_w (am_w I 14 k z) 13 1 (nI k + 1)) a → s_X10_topic (am_w (am_w I 14 k z) 13 1 (nI k + 1)) a = (nI k + 1 - 1, am_w (am_w (am_w (am_w I 14 k z) 13 1 (nI k + 1)) 70 k z) 46 38 (nI k + 1)) → ∃ (x : Int32) (I1 I2 : am_I), p_X9_topic I a ∧ s_X9_topic I a = (x, I1) ∧ p_X10_topic I1 a ∧ s_X10_topic I1 a = (x, I2) ∧ (∀ k, 38 ≤ k → k < 46 → I2 k = I k) ∧ VV nc I2 J Q E := fun z hk2 a1 a2 a3 a4 => by
      refine ⟨_, _, _, a1, a2, a3, a4, fw (fw (fw (fw (fun _ _ _ => rfl) (by decide)) (by decide)) (by decide)) (by decide), ?_⟩
      have h1 : (nI k + 1).toInt = k + 1 := by rw [nI_1, nI_toInt (by omega)]; omega
      have h2 : (I 13 1).toInt = k := by rw [ek, nI_toInt (by omega)]
      obtain ⟨⟨r1, r2, r3, r4, r5, r6, r7, r8, r9⟩, hs, ⟨b1, b2, b3, b4⟩, ⟨p1, p2⟩, hq⟩ := hV
      refine ⟨⟨r1, r2, r3, r4, r5, r6, ?_, rfl, r9⟩, hs, ⟨b1, b2, ?_, b4⟩, ⟨fun p hp => ?_, p2⟩, hq⟩
      · show va_up (I 70) _ _ = va_up (I 14) _ _
        rw [r7]
      · show 0 ≤ (nI k + 1).toInt ∧ (nI k + 1).toInt ≤ 12
        omega
      · obtain ⟨u1, u2, u3⟩ := p1 p hp
        refine ⟨u1, ⟨u2.1, ?_⟩, u3⟩
        show (I 22 p).toInt < (nI k + 1).toInt
        omega
    by_cases hfull : k = 12
    · have c1 : ¬ I 13 1 < 12 := by rw [ek, hfull]; decide
      have c2 : I 46 38 = 12 := by rw [e8, ek, hfull]; rfl
      refine hno ?_ ?_ ?_ ?_
      · unfold s_X9_topic s_X7_add; simp only [if_neg c1, ite_self]
      · unfold p_X9_topic p_X7_add; simp only [if_neg c1, ite_self]
      · unfold s_X10_topic; rw [if_pos c2]
      · unfold p_X10_topic; rw [if_pos c2]; trivial
    · have c1 : nI k < 12 := nI_lt (b := 12) (by omega) (by omega)
      have c2 : ¬ nI k = 12 := fun h => hfull ((nI_eq (b := 12) (by omega) (by omega)).mp h)
      have hv : vp_in (nI k) 12 := vp_in_nI (by omega) (by omega)
      have c3 := nI_clamp (n := k) (by omega)
      by_cases h1 : a = -1
      · have h2 : s_X7_has I a = 0 := by unfold s_X7_has; rw [isB_0, h1]; have : (-1 : Int32).toInt = -1 := rfl; omega
        have h3 : ¬ a < -1 := by rw [h1]; decide
        have h4 : a < nI k := by rw [h1, Int32.lt_iff_toInt_lt, nI_toInt (by omega)]; have : (-1 : Int32).toInt = -1 := rfl; omega
        refine hyes ((0 : Int32) ||| ((1 : Int32) <<< (nI k &&& 31))) (by omega) ?_ ?_ ?_ ?_
        · unfold p_X9_topic p_X7_add p_X7_lineOf; rw [if_pos h1, ek, if_pos c1, if_pos h2]; exact ⟨trivial, hv⟩
        · unfold s_X9_topic s_X7_add s_X7_lineOf; rw [if_pos h1, ek, if_pos c1, if_pos h2, c3]
        · show (if I 46 38 = 12 then _ else if a < -1 then _ else if a < I 46 38 then vp_in (I 46 38) 12 ∧ (if a = -1 then _ else _) else _)
          rw [e8, ek, if_neg c2, if_neg h3, if_pos h4, if_pos h1]; exact ⟨hv, trivial⟩
        · show (if I 46 38 = 12 then _ else if a < -1 then _ else if a < I 46 38 then (if a = -1 then (I 46 38 + 1 - 1, am_w (am_w _ 70 (I 46 38).toNatClampNeg (1 <<< (I 46 38 &&& 31))) 46 38 (I 46 38 + 1)) else _) else _) = _
          rw [e8, ek, if_neg c2, if_neg h3, if_pos h4, if_pos h1, c3, Int32.zero_or]
      · by_cases h2 : s_X7_has I a = 0
        · have h0 : a < -1 ∨ ¬ a < I 46 38 := by
            unfold s_X7_has at h2
            rw [isB_0] at h2
            rw [e8, Int32.lt_iff_toInt_lt, Int32.lt_iff_toInt_lt]
            rw [ia_eq] at h1
            have : (-1 : Int32).toInt = -1 := rfl
            omega
          refine hno ?_ ?_ ?_ ?_
          · unfold s_X9_topic; rw [if_neg h1, if_pos h2]
          · unfold p_X9_topic; rw [if_neg h1, if_pos h2]; trivial
          · unfold s_X10_topic
            rcases h0 with h0 | h0
            · simp only [if_pos h0, ite_self]
            · simp only [if_neg h0, ite_self]
          · unfold p_X10_topic
            rcases h0 with h0 | h0
            · simp only [if_pos h0, ite_self]
            · simp only [if_neg h0, ite_self]
        · obtain ⟨b, hb, rfl⟩ := isB_of h2 ek (by omega)
          have h3 : ¬ nI b < -1 := by rw [Int32.lt_iff_toInt_lt, nI_toInt (by omega)]; have : (-1 : Int32).toInt = -1 := rfl; omega
          have h4 : nI b < nI k := nI_lt hb (by omega)
          have hvb : vp_in (nI b) 12 := vp_in_nI (by omega) (by omega)
          have c4 := nI_clamp (n := b) (by omega)
          refine hyes (I 14 b ||| ((1 : Int32) <<< (nI k &&& 31))) (by omega) ?_ ?_ ?_ ?_
          · unfold p_X9_topic p_X7_add p_X7_lineOf; rw [if_neg h1, if_neg h2, ek, if_pos c1, if_neg h2]; exact ⟨hvb, hv⟩
          · unfold s_X9_topic s_X7_add s_X7_lineOf; rw [if_neg h1, if_neg h2, ek, if_pos c1, if_neg h2, c3, c4]
          · show (if I 46 38 = 12 then _ else if nI b < -1 then _ else if nI b < I 46 38 then vp_in (I 46 38) 12 ∧ (if nI b = -1 then _ else vp_in (I 46 38) 12 ∧ vp_in (nI b) 12 ∧ vp_in (I 46 38) 12) else _)
            rw [e8, ek, if_neg c2, if_neg h3, if_pos h4, if_neg h1]; exact ⟨hv, hv, hvb, hv⟩
          · show (if I 46 38 = 12 then _ else if nI b < -1 then _ else if nI b < I 46 38 then (if nI b = -1 then _ else (I 46 38 + 1 - 1, am_w (am_w (am_w _ 70 (I 46 38).toNatClampNeg (1 <<< (I 46 38 &&& 31))) 70 (I 46 38).toNatClampNeg ((va_up (I 70) (I 46 38).toNatClampNeg (1 <<< (I 46 38 &&& 31)) (I 46 38).toNatClampNeg) ||| (va_up (I 70) (I 46 38).toNatClampNeg (1 <<< (I 46 38 &&& 31)) (nI b).toNatClampNeg))) 46 38 (I 46 38 + 1))) else _) = _
            rw [e8, ek, if_neg c2, if_neg h3, if_pos h4, if_neg h1, c3, c4, e7]
            have q1 : va_up (I 14) k (1 <<< (nI k &&& 31)) k = 1 <<< (nI k &&& 31) := if_pos rfl
            have q2 : va_up (I 14) k (1 <<< (nI k &&& 31)) b = I 14 b := if_neg (by omega)
            rw [q1, q2, Int32.or_comm]
            congr 2
            unfold am_w
            rw [bx_uu]
            congr 1
            show va_up (va_up _ _ _) _ _ = va_up _ _ _
            rw [bx_uu])
