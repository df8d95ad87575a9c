/-! ===== more easy steps ===== -/
theorem sp_asker (a : Int32) : LStp VV MX9_asker MX10_asker 1 1 0 0 [.int a] :=
  st_x (pc := fun I => p_X9_asker I a) (pm := fun I => p_X10_asker I a) (fun I => s_X9_asker I a) (fun I => s_X10_asker I a) (fun I J Q hG h => ct_X9_asker 0 I J Q hG a h) (fun I J Q hG h => ct_X10_asker 0 I J Q hG a h) (fun nc I J Q E hV => by
    have e2 := hV.2.1.2.2.2.2.2.2.2.2.2.1
    have hb := hV.2.2.1.2.2.2.2.2.1
    have l4 : (6 : Int32).toInt = 6 := rfl
    have e0 : s_X10_isFour a = s_X9_isBelow a 4 := rfl
    simp only [s_X9_asker, s_X10_asker, p_X9_asker, p_X10_asker, s_X0_add, p_X0_add, e0]
    by_cases h1 : s_X9_isBelow a 4 = 0
    · exact ⟨-1, I, I, by rw [if_pos h1]; trivial, by rw [if_pos h1], by rw [if_pos h1]; split <;> trivial, by rw [if_pos h1]; split <;> rfl, fun _ _ _ => rfl, hV⟩
    · by_cases h4 : I 26 2 < 6
      · have h5 : ¬ I 26 2 = 6 := by rw [ia_eq]; rw [Int32.lt_iff_toInt_lt] at h4; omega
        have h6 : vp_in (I 26 2) 6 := by rw [vp_in_iff]; rw [Int32.lt_iff_toInt_lt] at h4; omega
        refine ⟨I 26 2 + 1 - 1, am_w (am_w I 27 (I 26 2).toNatClampNeg a) 26 2 (I 26 2 + 1), am_w (am_w (am_w (am_w I 27 (I 26 2).toNatClampNeg a) 26 2 (I 26 2 + 1)) 81 (I 26 2).toNatClampNeg a) 46 52 (I 26 2 + 1), ?_, ?_, ?_, ?_, fw (fw (fw (fw (fun _ _ _ => rfl) (by decide)) (by decide)) (by decide)) (by decide), ?_⟩
        · rw [if_neg h1, if_pos h4]; exact h6
        · rw [if_neg h1, if_pos h4]
        · show (if I 46 52 = 6 then _ else if s_X9_isBelow a 4 = 0 then _ else vp_in (I 46 52) 6)
          rw [e2, if_neg h5, if_neg h1]; exact h6
        · show (if I 46 52 = 6 then _ else if s_X9_isBelow a 4 = 0 then _ else (I 46 52 + 1 - 1, am_w (am_w _ 81 (I 46 52).toNatClampNeg a) 46 52 (I 46 52 + 1))) = _
          rw [e2, if_neg h5, if_neg h1]
        · have h7 : 0 ≤ (I 26 2 + 1).toInt ∧ (I 26 2 + 1).toInt ≤ 6 := by
            rw [Int32.lt_iff_toInt_lt] at h4
            rw [ia_p1 (by omega)]
            omega
          obtain ⟨hr, ⟨f1, f2, f3, f4, f5, f6, f7, f8, f9, f10, f11, f12, f13, f14, f15⟩, ⟨b1, b2, b3, b4, b5, b6, b7, b8⟩, h4, h5, h6, hq⟩ := hV
          refine ⟨hr, ⟨f1, f2, f3, f4, f5, f6, f7, f8, ?_, rfl, f11, f12, f13, f14, f15⟩, ⟨b1, b2, b3, b4, b5, h7, b7, b8⟩, h4, h5, h6, hq⟩
          show va_up (I 81) _ _ = va_up (I 27) _ _
          rw [f9]
      · have h5 : I 26 2 = 6 := by rw [ia_eq]; rw [Int32.lt_iff_toInt_lt] at h4; omega
        exact ⟨-1, I, I, by rw [if_neg h1, if_neg h4]; trivial, by rw [if_neg h1, if_neg h4], by rw [e2, if_pos h5]; trivial, by rw [e2, if_pos h5], fun _ _ _ => rfl, hV⟩)
theorem sp_dies (a b : Int32) : LStp VV MX9_dies MX10_dies 3 1 0 0 [.int a, .int b] :=
  st_x (pc := fun I => p_X9_dies I a b) (pm := fun I => p_X10_dies I a b) (fun I => s_X9_dies I a b) (fun I => s_X10_dies I a b) (fun I J Q hG h => ct_X9_dies 0 I J Q hG a b h) (fun I J Q hG h => ct_X10_dies 0 I J Q hG a b h) (fun nc I J Q E hV => by
    have e2 := hV.1.2.2.2.2.2.1
    have e3 := hV.1.2.2.2.2.1
    have hb := hV.2.2.1.2.1
    have e0 : s_X10_isPerson I a = s_X8_has I a := by show s_X9_isBelow a (I 46 35) = s_X9_isBelow a (I 9 3); rw [e2]
    have e1 : s_X10_isDay b = s_X9_isDay b := rfl
    by_cases h1 : s_X8_has I a = 0
    · refine ⟨0, I, I, ?_, ?_, ?_, ?_, fun _ _ _ => rfl, hV⟩
      · simp only [p_X9_dies, p_X8_setDeath, if_pos h1]; split <;> trivial
      · simp only [s_X9_dies, s_X8_setDeath, if_pos h1]; split <;> rfl
      · simp only [p_X10_dies, e0, if_pos h1]
      · simp only [s_X10_dies, e0, if_pos h1]
    · by_cases h2 : s_X9_isDay b = 0
      · refine ⟨0, I, I, ?_, ?_, ?_, ?_, fun _ _ _ => rfl, hV⟩
        · simp only [p_X9_dies, if_pos h2]
        · simp only [s_X9_dies, if_pos h2]
        · simp only [p_X10_dies, e0, e1, if_neg h1, if_pos h2]
        · simp only [s_X10_dies, e0, e1, if_neg h1, if_pos h2]
      · have h6 : vp_in a 12 := by
          have h := isB_0 (a := a) (b := I 9 3)
          have : 0 ≤ a.toInt ∧ a.toInt < (I 9 3).toInt := Decidable.of_not_not (fun c => h1 (h.mpr c))
          rw [vp_in_iff]; omega
        by_cases h3 : I 11 a.toNatClampNeg = -1
        · refine ⟨1, am_w I 11 a.toNatClampNeg b, am_w (am_w I 11 a.toNatClampNeg b) 69 a.toNatClampNeg b, ?_, ?_, ?_, ?_, fw (fw (fun _ _ _ => rfl) (by decide)) (by decide), ?_⟩
          · simp only [p_X9_dies, p_X8_setDeath, if_neg h1, if_neg h2, if_pos h3]; exact ⟨h6, h6⟩
          · simp only [s_X9_dies, s_X8_setDeath, if_neg h1, if_neg h2, if_pos h3]; rfl
          · show (if s_X10_isPerson I a = 0 then _ else if s_X10_isDay b = 0 then _ else vp_in a 12 ∧ if I 69 a.toNatClampNeg = -1 then _ else _)
            rw [e0, e1, e3, if_neg h1, if_neg h2, if_pos h3]; exact ⟨h6, h6⟩
          · show (if s_X10_isPerson I a = 0 then _ else if s_X10_isDay b = 0 then _ else if I 69 a.toNatClampNeg = -1 then _ else _) = _
            rw [e0, e1, e3, if_neg h1, if_neg h2, if_pos h3]
          · obtain ⟨⟨r1, r2, r3, r4, r5, r6⟩, hs⟩ := hV
            refine ⟨⟨r1, r2, r3, r4, ?_, r6⟩, hs⟩
            show va_up (I 69) _ _ = va_up (I 11) _ _
            rw [r5]
        · refine ⟨0, I, I, ?_, ?_, ?_, ?_, fun _ _ _ => rfl, hV⟩
          · simp only [p_X9_dies, p_X8_setDeath, if_neg h1, if_neg h2, if_neg h3]; exact ⟨h6, trivial⟩
          · simp only [s_X9_dies, s_X8_setDeath, if_neg h1, if_neg h2, if_neg h3]; rfl
          · simp only [p_X10_dies, e0, e1, e3, if_neg h1, if_neg h2, if_neg h3]; exact ⟨h6, trivial⟩
          · simp only [s_X10_dies, e0, e1, e3, if_neg h1, if_neg h2, if_neg h3])
theorem sp_takes (a b : Int32) : LStp VV MX9_takes MX10_takes 3 1 0 0 [.int a, .int b] :=
  st_x (pc := fun I => p_X9_takes I a b) (pm := fun I => p_X10_takes I a b) (fun I => s_X9_takes I a b) (fun I => s_X10_takes I a b) (fun I J Q hG h => ct_X9_takes 0 I J Q hG a b h) (fun I J Q hG h => ct_X10_takes 0 I J Q hG a b h) (fun nc I J Q E hV => by
    have e2 := hV.2.1.2.2.2.2.2.2.2.1
    have e3 := hV.2.1.2.2.2.2.2.2.1
    have hb := hV.2.2.1.2.2.2.2.1
    have e0 : s_X10_isPiece I a = s_X4_has I a := by show s_X9_isBelow a (I 46 44) = s_X9_isBelow a (I 15 11); rw [e2]
    have e1 : s_X10_isDay b = s_X9_isDay b := rfl
    by_cases h1 : s_X4_has I a = 0
    · refine ⟨0, I, I, ?_, ?_, ?_, ?_, fun _ _ _ => rfl, hV⟩
      · simp only [p_X9_takes, p_X4_takeBack, if_pos h1]; split <;> trivial
      · simp only [s_X9_takes, s_X4_takeBack, if_pos h1]; split <;> rfl
      · simp only [p_X10_takes, e0, if_pos h1]
      · simp only [s_X10_takes, e0, if_pos h1]
    · by_cases h2 : s_X9_isDay b = 0
      · refine ⟨0, I, I, ?_, ?_, ?_, ?_, fun _ _ _ => rfl, hV⟩
        · simp only [p_X9_takes, if_pos h2]
        · simp only [s_X9_takes, if_pos h2]
        · simp only [p_X10_takes, e0, e1, if_neg h1, if_pos h2]
        · simp only [s_X10_takes, e0, e1, if_neg h1, if_pos h2]
      · have h6 : vp_in a 30 := by
          have h := isB_0 (a := a) (b := I 15 11)
          have : 0 ≤ a.toInt ∧ a.toInt < (I 15 11).toInt := Decidable.of_not_not (fun c => h1 (h.mpr c))
          rw [vp_in_iff]; omega
        by_cases h3 : I 25 a.toNatClampNeg = -1
        · refine ⟨1, am_w I 25 a.toNatClampNeg b, am_w (am_w I 25 a.toNatClampNeg b) 80 a.toNatClampNeg b, ?_, ?_, ?_, ?_, fw (fw (fun _ _ _ => rfl) (by decide)) (by decide), ?_⟩
          · simp only [p_X9_takes, p_X4_takeBack, if_neg h1, if_neg h2, if_pos h3]; exact ⟨h6, h6⟩
          · simp only [s_X9_takes, s_X4_takeBack, if_neg h1, if_neg h2, if_pos h3]; rfl
          · show (if s_X10_isPiece I a = 0 then _ else if s_X10_isDay b = 0 then _ else vp_in a 30 ∧ if I 80 a.toNatClampNeg = -1 then _ else _)
            rw [e0, e1, e3, if_neg h1, if_neg h2, if_pos h3]; exact ⟨h6, h6⟩
          · show (if s_X10_isPiece I a = 0 then _ else if s_X10_isDay b = 0 then _ else if I 80 a.toNatClampNeg = -1 then _ else _) = _
            rw [e0, e1, e3, if_neg h1, if_neg h2, if_pos h3]
          · obtain ⟨hr, ⟨f1, f2, f3, f4, f5, f6, f7, f8⟩, hs⟩ := hV
            refine ⟨hr, ⟨f1, f2, f3, f4, f5, f6, ?_, f8⟩, hs⟩
            show va_up (I 80) _ _ = va_up (I 25) _ _
            rw [f7]
        · refine ⟨0, I, I, ?_, ?_, ?_, ?_, fun _ _ _ => rfl, hV⟩
          · simp only [p_X9_takes, p_X4_takeBack, if_neg h1, if_neg h2, if_neg h3]; exact ⟨h6, trivial⟩
          · simp only [s_X9_takes, s_X4_takeBack, if_neg h1, if_neg h2, if_neg h3]; rfl
          · simp only [p_X10_takes, e0, e1, e3, if_neg h1, if_neg h2, if_neg h3]; exact ⟨h6, trivial⟩
          · simp only [s_X10_takes, e0, e1, e3, if_neg h1, if_neg h2, if_neg h3])
theorem sp_tape (a b c : Int32) : LStp VV MX9_tape MX10_tape 2 1 0 0 [.int a, .int b, .int c] :=
  st_x (pc := fun I => p_X9_tape I a b c) (pm := fun I => p_X10_tape I a b c) (fun I => s_X9_tape I a b c) (fun I => s_X10_tape I a b c) (fun I J Q hG h => ct_X9_tape 0 I J Q hG a b c h) (fun I J Q hG h => ct_X10_tape 0 I J Q hG a b c h) (fun nc I J Q E hV => by
    have e2 := hV.1.2.2.2.2.2.1
    have e3 := hV.1.2.2.2.2.2.2.2.2.2.2.2
    have hb := hV.2.2.1.2.2.2.1
    have l6 : (6 : Int32).toInt = 6 := rfl
    have e0 : s_X10_isPerson I a = s_X8_has I a := by show s_X9_isBelow a (I 46 35) = s_X9_isBelow a (I 9 3); rw [e2]
    have e1 : s_X10_isDay b = s_X9_isDay b := rfl
    have e9 : s_X9_tape I a b c = if c < 1 ∨ 999 < c then s_X9_tape_J17 a b c 0 I else s_X9_tape_J17 a b c 1 I := by
      unfold s_X9_tape
      by_cases h1 : c < 1
      · rw [if_pos h1, if_pos (Or.inl h1)]
      · by_cases h2 : 999 < c
        · rw [if_neg h1, if_pos h2, if_pos (Or.inr h2)]
        · rw [if_neg h1, if_neg h2, if_neg (by intro h; exact h.elim h1 h2)]
    have q9 : p_X9_tape I a b c ↔ if c < 1 ∨ 999 < c then p_X9_tape_J17 a b c 0 I else p_X9_tape_J17 a b c 1 I := by
      unfold p_X9_tape
      by_cases h1 : c < 1
      · rw [if_pos h1, if_pos (Or.inl h1)]
      · by_cases h2 : 999 < c
        · rw [if_neg h1, if_pos h2, if_pos (Or.inr h2)]
        · rw [if_neg h1, if_neg h2, if_neg (by intro h; exact h.elim h1 h2)]
    have hno : ∀ P : Prop, P → s_X9_tape I a b c = (-1, I) → p_X9_tape I a b c → s_X10_tape I a b c = (-1, I) → p_X10_tape I a b c → ∃ (x : Int32) (I1 I2 : am_I), p_X9_tape I a b c ∧ s_X9_tape I a b c = (x, I1) ∧ p_X10_tape I1 a b c ∧ s_X10_tape I1 a b c = (x, I2) ∧ (∀ k, 38 ≤ k → k < 46 → I2 k = I k) ∧ VV nc I2 J Q E := fun P _ a1 a2 a3 a4 => ⟨-1, I, I, a2, a1, a4, a3, fun _ _ _ => rfl, hV⟩
    by_cases h1 : s_X8_has I a = 0
    · refine hno _ trivial ?_ ?_ ?_ ?_
      · rw [e9]; unfold s_X9_tape_J17; simp only [if_pos h1, ite_self]
      · rw [q9]; unfold p_X9_tape_J17; simp only [if_pos h1, ite_self]
      · unfold s_X10_tape; simp only [e0, if_pos h1, ite_self]
      · unfold p_X10_tape; simp only [e0, if_pos h1, ite_self]
    · by_cases h2 : s_X9_isDay b = 0
      · refine hno _ trivial ?_ ?_ ?_ ?_
        · rw [e9]; unfold s_X9_tape_J17; simp only [if_neg h1, if_pos h2, ite_self]
        · rw [q9]; unfold p_X9_tape_J17; simp only [if_neg h1, if_pos h2, ite_self]
        · unfold s_X10_tape; simp only [e0, e1, if_neg h1, if_pos h2, ite_self]
        · unfold p_X10_tape; simp only [e0, e1, if_neg h1, if_pos h2, ite_self]
      · by_cases h3 : c < 1 ∨ 999 < c
        · have h4 : s_X10_tape I a b c = (-1, I) := by
            unfold s_X10_tape
            simp only [e0, e1, if_neg h1, if_neg h2]
            by_cases h5 : c < 1
            · simp only [if_pos h5, ite_self]
            · have h6 : ¬ c ≤ 999 := by
                have h7 := h3.resolve_left h5
                rw [Int32.lt_iff_toInt_lt] at h7; rw [Int32.le_iff_toInt_le]; omega
              simp only [if_neg h5, if_neg h6, ite_self]
          have h4p : p_X10_tape I a b c := by
            unfold p_X10_tape
            simp only [e0, e1, if_neg h1, if_neg h2]
            by_cases h5 : c < 1
            · simp only [if_pos h5, ite_self]
            · have h6 : ¬ c ≤ 999 := by
                have h7 := h3.resolve_left h5
                rw [Int32.lt_iff_toInt_lt] at h7; rw [Int32.le_iff_toInt_le]; omega
              simp only [if_neg h5, if_neg h6, ite_self]
          refine hno _ trivial ?_ ?_ h4 h4p
          · rw [e9, if_pos h3]; unfold s_X9_tape_J17; simp only [if_neg h1, if_neg h2, if_true]
          · rw [q9, if_pos h3]; unfold p_X9_tape_J17; simp only [if_neg h1, if_neg h2, if_true]
        · have h5 : ¬ c < 1 := fun h => h3 (Or.inl h)
          have h6 : c ≤ 999 := by
            have h7 : ¬ 999 < c := fun h => h3 (Or.inr h)
            rw [Int32.lt_iff_toInt_lt] at h7; rw [Int32.le_iff_toInt_le]; omega
          by_cases h4 : I 15 3 < 6
          · have h7 : ¬ I 15 3 = 6 := by rw [ia_eq]; rw [Int32.lt_iff_toInt_lt] at h4; omega
            have h8 : vp_in (I 15 3) 6 := by rw [vp_in_iff]; rw [Int32.lt_iff_toInt_lt] at h4; omega
            refine ⟨I 15 3 + 1 - 1, am_w (am_w (am_w (am_w I 16 (I 15 3).toNatClampNeg a) 17 (I 15 3).toNatClampNeg b) 18 (I 15 3).toNatClampNeg c) 15 3 (I 15 3 + 1), am_w (am_w (am_w (am_w (am_w (am_w (am_w (am_w I 16 (I 15 3).toNatClampNeg a) 17 (I 15 3).toNatClampNeg b) 18 (I 15 3).toNatClampNeg c) 15 3 (I 15 3 + 1)) 71 (I 15 3).toNatClampNeg a) 72 (I 15 3).toNatClampNeg b) 73 (I 15 3).toNatClampNeg c) 46 40 (I 15 3 + 1), ?_, ?_, ?_, ?_, fw (fw (fw (fw (fw (fw (fw (fw (fun _ _ _ => rfl) (by decide)) (by decide)) (by decide)) (by decide)) (by decide)) (by decide)) (by decide)) (by decide), ?_⟩
            · rw [q9, if_neg h3]; unfold p_X9_tape_J17 p_X4_addTape; rw [if_neg h1, if_neg h2, if_neg (by decide), if_pos h4]; exact ⟨h8, h8, h8⟩
            · rw [e9, if_neg h3]; unfold s_X9_tape_J17 s_X4_addTape; rw [if_neg h1, if_neg h2, if_neg (by decide), if_pos h4]
            · show (if I 46 40 = 6 then _ else if s_X10_isPerson I a = 0 then _ else if s_X10_isDay b = 0 then _ else if c < 1 then _ else if c ≤ 999 then vp_in (I 46 40) 6 ∧ vp_in (I 46 40) 6 ∧ vp_in (I 46 40) 6 else _)
              rw [e0, e1, e3, if_neg h7, if_neg h1, if_neg h2, if_neg h5, if_pos h6]; exact ⟨h8, h8, h8⟩
            · show (if I 46 40 = 6 then _ else if s_X10_isPerson I a = 0 then _ else if s_X10_isDay b = 0 then _ else if c < 1 then _ else if c ≤ 999 then (I 46 40 + 1 - 1, am_w (am_w (am_w (am_w _ 71 (I 46 40).toNatClampNeg a) 72 (I 46 40).toNatClampNeg b) 73 (I 46 40).toNatClampNeg c) 46 40 (I 46 40 + 1)) else _) = _
              rw [e0, e1, e3, if_neg h7, if_neg h1, if_neg h2, if_neg h5, if_pos h6]
            · have ha : 0 ≤ a.toInt ∧ a.toInt < (I 9 3).toInt := Decidable.of_not_not (fun c => h1 (isB_0.mpr c))
              rw [Int32.lt_iff_toInt_lt] at h4
              have hp1 : (I 15 3 + 1).toInt = (I 15 3).toInt + 1 := ia_p1 (by omega)
              have hcl : ((I 15 3).toNatClampNeg : Int) = (I 15 3).toInt := ia_cn hb.1
              obtain ⟨⟨r1, r2, r3, r4, r5, r6, r7, r8, r9, r10, r11, r12⟩, hs, ⟨b1, b2, b3, b4, b5⟩, ⟨p1, p2⟩, hq⟩ := hV
              refine ⟨⟨r1, r2, r3, r4, r5, r6, r7, r8, ?_, ?_, ?_, rfl⟩, hs, ⟨b1, b2, b3, ?_, b5⟩, ⟨fun p hp => ?_, fun t ht => ?_⟩, hq⟩
              · show va_up (I 71) _ _ = va_up (I 16) _ _
                rw [r9]
              · show va_up (I 72) _ _ = va_up (I 17) _ _
                rw [r10]
              · show va_up (I 73) _ _ = va_up (I 18) _ _
                rw [r11]
              · show 0 ≤ (I 15 3 + 1).toInt ∧ (I 15 3 + 1).toInt ≤ 6
                omega
              · obtain ⟨u1, u2⟩ := p1 p hp
                refine ⟨⟨u1.1, ?_⟩, u2⟩
                show (I 19 p).toInt < (I 15 3 + 1).toInt
                omega
              · have ht' : (t : Int) < (I 15 3 + 1).toInt := ht
                show 0 ≤ (va_up (I 16) (I 15 3).toNatClampNeg a t).toInt ∧ (va_up (I 16) (I 15 3).toNatClampNeg a t).toInt < (I 9 3).toInt
                unfold va_up
                split
                · exact ha
                · exact p2 t (by omega)
          · have h5' : I 15 3 = 6 := by rw [ia_eq]; rw [Int32.lt_iff_toInt_lt] at h4; omega
            refine hno _ trivial ?_ ?_ ?_ ?_
            · rw [e9, if_neg h3]; unfold s_X9_tape_J17 s_X4_addTape; simp only [if_neg h1, if_neg h2, if_neg h4, ite_self]
            · rw [q9, if_neg h3]; unfold p_X9_tape_J17 p_X4_addTape; simp only [if_neg h1, if_neg h2, if_neg h4, ite_self]
            · unfold s_X10_tape; rw [e3, if_pos h5']
            · unfold p_X10_tape; rw [e3, if_pos h5']; trivial)
