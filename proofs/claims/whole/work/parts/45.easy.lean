/-! ===== the easy steps ===== -/
theorem fw {I I' : am_I} {k a : Nat} {v : Int32} (h : ∀ k', 38 ≤ k' → k' < 46 → I' k' = I k') (hk : ¬ (38 ≤ k ∧ k < 46)) : ∀ k', 38 ≤ k' → k' < 46 → am_w I' k a v k' = I k' := by
  intro k' h1 h2
  unfold am_w va_up
  rw [if_neg (by omega)]
  exact h k' h1 h2
theorem sp_place : LStp VV MX9_place MX10_place 0 0 0 0 [] :=
  st_r (pc := fun _ => True) (pm := fun _ => True) s_X9_place s_X10_place (fun I J Q hG _ => ct_X9_place 0 I J Q hG) (fun I J Q hG _ => ct_X10_place 0 I J Q hG) (fun nc I J Q E hV => ⟨trivial, trivial, hV.1.2.2.1⟩)
theorem sp_count (a : Int32) : LStp VV MX9_count MX10_count 0 0 0 0 [.int a] :=
  st_r (pc := fun _ => True) (pm := fun _ => True) (fun I => s_X9_count I a) (fun I => s_X10_count I a) (fun I J Q hG _ => ct_X9_count 0 I J Q hG a) (fun I J Q hG _ => ct_X10_count 0 I J Q hG a) (fun nc I J Q E hV => ⟨trivial, trivial, by
    obtain ⟨⟨-, e2, -, -, -, e6, -, e8, -, -, -, e12⟩, ⟨-, -, -, -, -, -, -, f8, -, f10, -, -, f13, f14, f15⟩, -⟩ := hV
    unfold s_X9_count s_X10_count
    rw [e2, e6, e8, e12, f8, f10, f13, f14, f15]⟩)
/-- a step out of the two outcomes -/
theorem st_x {yc ym : am_MD} {dc dm : Nat} {As : List Value} {pc pm : am_I → Prop} (sc sm : am_I → Int32 × am_I) (hc : ∀ I J Q, Gr Q → pc I → Cm yc dc 0 0 92 (.ref 0 :: As) I J Q (am_FiI J Q (sc I))) (hm : ∀ I J Q, Gr Q → pm I → Cm ym dm 0 0 92 (.ref 46 :: As) I J Q (am_FiI J Q (sm I)))
    (h : ∀ nc I J Q E, VV nc I J Q E → ∃ (x : Int32) (I1 I2 : am_I), pc I ∧ sc I = (x, I1) ∧ pm I1 ∧ sm I1 = (x, I2) ∧ (∀ k, 38 ≤ k → k < 46 → I2 k = I k) ∧ VV nc I2 J Q E) : LStp VV yc ym dc dm 0 0 As := by
  refine st_e sc sm hc hm (fun nc I J Q E hV => ?_)
  obtain ⟨x, I1, I2, a1, a2, a3, a4, a5, a6⟩ := h nc I J Q E hV
  rw [a2]
  simp only
  rw [a4]
  exact ⟨a1, a3, rfl, a5, a6⟩
theorem sp_bound (a : Int32) : LStp VV MX9_bound MX10_bound 0 0 0 0 [.int a] :=
  st_x (pc := fun _ => True) (pm := fun _ => True) (fun I => s_X9_bound I a) (fun I => s_X10_bound I a) (fun I J Q hG _ => ct_X9_bound 0 I J Q hG a) (fun I J Q hG _ => ct_X10_bound 0 I J Q hG a) (fun nc I J Q E hV => by
    simp only [s_X9_bound, s_X10_bound]
    by_cases h1 : a < 1
    · exact ⟨0, I, I, trivial, by rw [if_pos h1], trivial, by rw [if_pos h1], fun _ _ _ => rfl, hV⟩
    · by_cases h2 : a ≤ 12
      · have h3 : ¬ 12 < a := by rw [Int32.lt_iff_toInt_lt]; rw [Int32.le_iff_toInt_le] at h2; omega
        refine ⟨1, am_w I 0 10 a, am_w (am_w I 0 10 a) 46 56 a, trivial, by rw [if_neg h1, if_neg h3], trivial, by rw [if_neg h1, if_pos h2], fw (fw (fun _ _ _ => rfl) (by decide)) (by decide), ?_⟩
        obtain ⟨h1, ⟨f1, f2, f3, f4, f5, f6, f7, f8, f9, f10, f11, f12, f13, f14, f15⟩, h3, h4, h5, h6, h7⟩ := hV
        exact ⟨h1, ⟨f1, f2, f3, f4, f5, f6, f7, f8, f9, f10, f11, f12, f13, rfl, f15⟩, h3, h4, h5, h6, h7⟩
      · have h3 : 12 < a := by rw [Int32.lt_iff_toInt_lt]; rw [Int32.le_iff_toInt_le] at h2; omega
        exact ⟨0, I, I, trivial, by rw [if_neg h1, if_pos h3], trivial, by rw [if_neg h1, if_neg h2], fun _ _ _ => rfl, hV⟩)
theorem sp_back (a : Int32) : LStp VV MX9_back MX10_back 1 0 0 0 [.int a] :=
  st_x (pc := fun _ => True) (pm := fun _ => True) (fun I => s_X9_back I a) (fun I => s_X10_back I a) (fun I J Q hG _ => ct_X9_back 0 I J Q hG a) (fun I J Q hG _ => ct_X10_back 0 I J Q hG a) (fun nc I J Q E hV => by
    have e2 := hV.1.2.1
    simp only [s_X9_back, s_X10_back, s_X6_drop]
    by_cases h1 : a < 0
    · exact ⟨-1, I, I, trivial, by rw [if_pos h1], trivial, by rw [if_pos h1], fun _ _ _ => rfl, hV⟩
    · by_cases h2 : a ≤ I 1 1
      · refine ⟨I 1 1 - a, am_w I 1 1 (I 1 1 - a), am_w (am_w I 1 1 (I 1 1 - a)) 46 2 (I 1 1 - a), trivial, by rw [if_neg h1, if_pos h2], trivial, ?_, fw (fw (fun _ _ _ => rfl) (by decide)) (by decide), ?_⟩
        · show (if a < 0 then _ else if a ≤ I 46 2 then (I 46 2 - a, am_w _ 46 2 (I 46 2 - a)) else _) = _
          rw [e2, if_neg h1, if_pos h2]
        · have hb := hV.2.2.1.1
          have h3 : 0 ≤ (I 1 1 - a).toInt ∧ (I 1 1 - a).toInt ≤ 2000 := by
            rw [Int32.lt_iff_toInt_lt] at h1
            rw [Int32.le_iff_toInt_le] at h2
            have : (0 : Int32).toInt = 0 := rfl
            rw [ia_sub (by omega) (by omega)]
            omega
          obtain ⟨⟨e1, e2, e3⟩, h2, ⟨b1, b2⟩, h4, h5, h6, h7⟩ := hV
          exact ⟨⟨e1, rfl, e3⟩, h2, ⟨h3, b2⟩, h4, h5, h6, h7⟩
      · exact ⟨-1, I, I, trivial, by rw [if_neg h1, if_neg h2], trivial, by rw [e2, if_neg h1, if_neg h2], fun _ _ _ => rfl, hV⟩)
theorem sp_copy (a : Int32) : LStp VV MX9_copy MX10_copy 0 0 0 0 [.int a] :=
  st_x (pc := fun I => p_X9_copy I a) (pm := fun I => p_X10_copy I a) (fun I => s_X9_copy I a) (fun I => s_X10_copy I a) (fun I J Q hG h => ct_X9_copy 0 I J Q hG a h) (fun I J Q hG h => ct_X10_copy 0 I J Q hG a h) (fun nc I J Q E hV => by
    have e2 := hV.2.1.2.2.2.2.2.2.2.2.2.2.2.2.1
    have hb := hV.2.2.1.2.2.2.2.2.2.1
    have l4 : (4 : Int32).toInt = 4 := rfl
    simp only [s_X9_copy, s_X10_copy, p_X9_copy, p_X10_copy]
    by_cases h1 : a < 0
    · exact ⟨-1, I, I, by rw [if_pos h1]; trivial, by rw [if_pos h1], by rw [if_pos h1]; split <;> trivial, by rw [if_pos h1]; split <;> rfl, fun _ _ _ => rfl, hV⟩
    · by_cases h2 : a ≤ 400
      · have h3 : ¬ 400 < a := by rw [Int32.lt_iff_toInt_lt]; rw [Int32.le_iff_toInt_le] at h2; omega
        by_cases h4 : I 0 9 < 4
        · have h5 : ¬ I 0 9 = 4 := by rw [ia_eq]; rw [Int32.lt_iff_toInt_lt] at h4; omega
          have h6 : vp_in (I 0 9) 4 := by rw [vp_in_iff]; rw [Int32.lt_iff_toInt_lt] at h4; omega
          refine ⟨I 0 9 + 1 - 1, am_w (am_w I 37 (I 0 9).toNatClampNeg a) 0 9 (I 0 9 + 1), am_w (am_w (am_w (am_w I 37 (I 0 9).toNatClampNeg a) 0 9 (I 0 9 + 1)) 82 (I 0 9).toNatClampNeg a) 46 54 (I 0 9 + 1), ?_, ?_, ?_, ?_, fw (fw (fw (fw (fun _ _ _ => rfl) (by decide)) (by decide)) (by decide)) (by decide), ?_⟩
          · rw [if_neg h1, if_neg h3, if_pos h4]; exact h6
          · rw [if_neg h1, if_neg h3, if_pos h4]
          · show (if I 46 54 = 4 then _ else if a < 0 then _ else if a ≤ 400 then vp_in (I 46 54) 4 else _)
            rw [e2, if_neg h5, if_neg h1, if_pos h2]; exact h6
          · show (if I 46 54 = 4 then _ else if a < 0 then _ else if a ≤ 400 then (I 46 54 + 1 - 1, am_w (am_w _ 82 (I 46 54).toNatClampNeg a) 46 54 (I 46 54 + 1)) else _) = _
            rw [e2, if_neg h5, if_neg h1, if_pos h2]
          · have h7 : 0 ≤ (I 0 9 + 1).toInt ∧ (I 0 9 + 1).toInt ≤ 4 := by
              rw [Int32.lt_iff_toInt_lt] at h4
              rw [ia_p1 (by omega)]
              omega
            obtain ⟨hr, ⟨f1, f2, f3, f4, f5, f6, f7, f8, f9, f10, f11, f12, f13, f14, f15⟩, ⟨b1, b2, b3, b4, b5, b6, b7, b8⟩, h4, h5, h6, hq⟩ := hV
            refine ⟨hr, ⟨f1, f2, f3, f4, f5, f6, f7, f8, f9, f10, f11, ?_, rfl, f14, f15⟩, ⟨b1, b2, b3, b4, b5, b6, h7, b8⟩, h4, h5, h6, hq⟩
            show va_up (I 82) _ _ = va_up (I 37) _ _
            rw [f12]
        · have h5 : I 0 9 = 4 := by rw [ia_eq]; rw [Int32.lt_iff_toInt_lt] at h4; omega
          exact ⟨-1, I, I, by rw [if_neg h1, if_neg h3, if_neg h4]; trivial, by rw [if_neg h1, if_neg h3, if_neg h4], by rw [e2, if_pos h5]; trivial, by rw [e2, if_pos h5], fun _ _ _ => rfl, hV⟩
      · have h3 : 400 < a := by rw [Int32.lt_iff_toInt_lt]; rw [Int32.le_iff_toInt_le] at h2; omega
        exact ⟨-1, I, I, by rw [if_neg h1, if_pos h3]; trivial, by rw [if_neg h1, if_pos h3], by rw [if_neg h1, if_neg h2]; split <;> trivial, by rw [if_neg h1, if_neg h2]; split <;> rfl, fun _ _ _ => rfl, hV⟩)
