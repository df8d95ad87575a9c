/-! ===== a step out of the methods' functions ===== -/
theorem l_back (j : Nat) (I1 : am_I) (E : Nat → am_I) : lI j I1 (le_1 j I1 E) = I1 := by
  funext k
  by_cases h : 38 ≤ k ∧ k < 46
  · rw [lI_in h]
    unfold le_1
    rw [if_pos rfl, show 38 + (k - 38) = k by omega]
  · exact lI_out h
theorem l_twice (j : Nat) (I1 I2 : am_I) (E : Nat → am_I) : le_1 j I2 (le_1 j I1 E) = le_1 j I2 E := by
  funext j' i
  unfold le_1
  split <;> rfl
/-- nothing changes in the consents -/
theorem l_keep {j : Nat} {I2 I : am_I} {E : Nat → am_I} (h : ∀ k, 38 ≤ k → k < 46 → I2 k = lI j I E k) : ∀ j' i, i < 8 → le_1 j I2 E j' i = E j' i := by
  intro j' i hi
  unfold le_1
  split
  · next hj =>
    rw [h (38 + i) (by omega) (by omega), lI_in (by omega), hj, show 38 + i - 38 = i by omega]
  · rfl
theorem st_II {V : am_V} {yc ym : am_MD} {dc dm : Nat} {As : List Value} {pc pm : am_I → Prop} (sc sm : am_I → Int32 × am_I) (hc : ∀ I J Q, Gr Q → pc I → Cm yc dc 0 0 92 (.ref 0 :: As) I J Q (am_FiI J Q (sc I))) (hm : ∀ I J Q, Gr Q → pm I → Cm ym dm 0 0 92 (.ref 46 :: As) I J Q (am_FiI J Q (sm I)))
    (h : ∀ nc I J Q E, V nc I J Q E → ∃ j : Nat, j < nc ∧ Gr (lQ j Q) ∧ (∀ k f r, Q k f = some r → lv_l nc r) ∧ pc (lI j I E) ∧ pm (sc (lI j I E)).2 ∧ (sm (sc (lI j I E)).2).1 = (sc (lI j I E)).1 ∧ V nc (sm (sc (lI j I E)).2).2 J Q (le_1 j (sm (sc (lI j I E)).2).2 E)) : LStp V yc ym dc dm 0 0 As := by
  intro nc I J Q E hV
  obtain ⟨j, hj, hG, hr, hpc, hpm, he, hV2⟩ := h nc I J Q E hV
  refine ⟨j, (sc (lI j I E)).1, (sc (lI j I E)).2, J, Q, hj, hc _ J (lQ j Q) hG hpc, hr, j, (sm (sc (lI j I E)).2).2, J, hj, ?_, ?_⟩
  · rw [l_back, ← he]
    exact hm _ J (lQ j Q) hG hpm
  · rw [l_twice]
    exact hV2
