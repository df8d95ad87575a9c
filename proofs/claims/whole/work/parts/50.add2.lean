/-! ===== piece, person ===== -/
def pc_add (I : am_I) (n : Nat) (a1 a2 a3 a4 a5 a6 : Int32) : am_I := am_w (am_w (am_w (am_w (am_w (am_w (am_w (am_w I 19 n a1) 20 n a2) 21 n a3) 22 n a4) 23 n a5) 24 n a6) 25 n (-1)) 15 11 (nI n + 1)
def pm_add (I : am_I) (n : Nat) (a1 a2 a3 a4 a5 a6 : Int32) : am_I := am_w (am_w (am_w (am_w (am_w (am_w (am_w (am_w I 74 n a1) 75 n a2) 76 n a3) 77 n a4) 78 n a5) 79 n a6) 80 n (-1)) 46 44 (nI n + 1)
theorem lp_free {I K : am_I} {n : Nat} {a1 a2 a3 a4 a5 a6 : Int32} (h1 : I 15 11 = nI n) (h2 : K 46 44 = nI n) (h3 : K 74 = I 19) (h4 : K 75 = I 20) (h5 : K 76 = I 21) (hn : n < 30) : ∀ g i, i ≤ n → n < g + i → p_X4_isFree_L35 a1 a2 a3 I g (nI i) ∧ p_X10_piece_L97 a1 a2 a3 a4 a5 a6 g (nI i) K ∧ s_X10_piece_L97 a1 a2 a3 a4 a5 a6 g (nI i) K = if s_X4_isFree_L35 a1 a2 a3 I g (nI i) = 0 then (-1, K) else (nI n + 1 - 1, pm_add K n a1 a2 a3 a4 a5 a6) := by
  have hvn : vp_in (nI n) 30 := vp_in_nI (by omega) (by omega)
  have cn := nI_clamp (n := n) (by omega)
  intro g
  induction g with
  | zero => intro i hi hg; omega
  | succ g ih =>
    intro i hi hg
    rw [u_p_X4_isFree_L35, u_p_X10_piece_L97, u_s_X10_piece_L97, u_s_X4_isFree_L35, h1, h2, h3, h4, h5]
    by_cases hin : i = n
    · have hc : nI n ≤ nI i := nI_le (by omega) (by omega)
      simp only [if_pos hc, cn]
      refine ⟨trivial, ⟨hvn, hvn, hvn, hvn, hvn, hvn, hvn⟩, ?_⟩
      rw [if_neg (by decide)]
      rfl
    · have hc : ¬ nI n ≤ nI i := nI_ge (by omega) (by omega)
      have hv : vp_in (nI i) 30 := vp_in_nI (by omega) (by omega)
      obtain ⟨i1, i2, i3⟩ := ih (i + 1) (by omega) (by omega)
      simp only [if_neg hc, nI_1 i]
      by_cases q1 : I 19 (nI i).toNatClampNeg = a1
      · by_cases q2 : I 21 (nI i).toNatClampNeg ≤ a2
        · simp only [if_pos q1, if_pos q2]
          refine ⟨⟨hv, hv, i1⟩, ⟨hv, hv, ?_⟩, ?_⟩
          · split
            · exact i2
            · exact ⟨hv, i2⟩
          · split <;> exact i3
        · by_cases q3 : a3 ≤ I 20 (nI i).toNatClampNeg
          · simp only [if_pos q1, if_neg q2, if_pos q3]
            exact ⟨⟨hv, hv, hv, i1⟩, ⟨hv, hv, i2⟩, i3⟩
          · simp only [if_pos q1, if_neg q2, if_neg q3, if_true]
            exact ⟨⟨hv, hv, hv, trivial⟩, ⟨hv, hv, hv, trivial⟩, trivial⟩
      · simp only [if_neg q1]
        exact ⟨⟨hv, i1⟩, ⟨hv, i2⟩, i3⟩
theorem VV.piece {nc : Nat} {I : am_I} {J : am_J} {Q : am_Q} {E : Nat → am_I} (hV : VV nc I J Q E) {n : Nat} (hn : n < 30) (en : I 15 11 = nI n) (a1 a2 a3 a4 a5 a6 : Int32) (h1 : 0 ≤ a1.toInt ∧ a1.toInt < (I 15 3).toInt) (h4 : 0 ≤ a4.toInt ∧ a4.toInt < (I 13 1).toInt) (h5 : -1 ≤ a5.toInt ∧ a5.toInt < (I 9 3).toInt) : VV nc (pm_add (pc_add I n a1 a2 a3 a4 a5 a6) n a1 a2 a3 a4 a5 a6) J Q E := by
  have k1 : (nI n + 1).toInt = n + 1 := by rw [nI_1, nI_toInt (by omega)]; omega
  have k2 : (I 15 11).toInt = n := by rw [en, nI_toInt (by omega)]
  obtain ⟨hr, ⟨f1, f2, f3, f4, f5, f6, f7, f8, f9⟩, ⟨b1, b2, b3, b4, b5, b6⟩, ⟨p1, p2⟩, hq⟩ := hV
  refine ⟨hr, ⟨?_, ?_, ?_, ?_, ?_, ?_, ?_, rfl, f9⟩, ⟨b1, b2, b3, b4, ?_, b6⟩, ⟨fun p hp => ?_, p2⟩, hq⟩
  · show va_up (I 74) n a1 = va_up (I 19) n a1
    rw [f1]
  · show va_up (I 75) n a2 = va_up (I 20) n a2
    rw [f2]
  · show va_up (I 76) n a3 = va_up (I 21) n a3
    rw [f3]
  · show va_up (I 77) n a4 = va_up (I 22) n a4
    rw [f4]
  · show va_up (I 78) n a5 = va_up (I 23) n a5
    rw [f5]
  · show va_up (I 79) n a6 = va_up (I 24) n a6
    rw [f6]
  · show va_up (I 80) n (-1) = va_up (I 25) n (-1)
    rw [f7]
  · show 0 ≤ (nI n + 1).toInt ∧ (nI n + 1).toInt ≤ 30
    omega
  · have hp' : (p : Int) < (nI n + 1).toInt := hp
    show (0 ≤ (va_up (I 19) n a1 p).toInt ∧ (va_up (I 19) n a1 p).toInt < (I 15 3).toInt) ∧ (0 ≤ (va_up (I 22) n a4 p).toInt ∧ (va_up (I 22) n a4 p).toInt < (I 13 1).toInt) ∧ (-1 ≤ (va_up (I 23) n a5 p).toInt ∧ (va_up (I 23) n a5 p).toInt < (I 9 3).toInt)
    unfold va_up
    by_cases hpn : p = n
    · simp only [if_pos hpn]
      exact ⟨h1, h4, h5⟩
    · simp only [if_neg hpn]
      exact p1 p (by omega)
theorem sp_piece (a1 a2 a3 a4 a5 a6 : Int32) : LStp VV MX9_piece MX10_piece 2 0 0 0 [.int a1, .int a2, .int a3, .int a4, .int a5, .int a6] := by
  obtain ⟨f, hf⟩ : ∃ f : Nat, 100 ≤ f := ⟨100, Nat.le_refl _⟩
  refine st_x (pc := fun I => p_X9_piece f I a1 a2 a3 a4 a5 a6) (pm := fun I => p_X10_piece f I a1 a2 a3 a4 a5 a6) (fun I => s_X9_piece f I a1 a2 a3 a4 a5 a6) (fun I => s_X10_piece f I a1 a2 a3 a4 a5 a6) (fun I J Q hG h => ct_X9_piece f I J Q hG a1 a2 a3 a4 a5 a6 h) (fun I J Q hG h => ct_X10_piece f I J Q hG a1 a2 a3 a4 a5 a6 h) (fun nc I J Q E hV => ?_)
  obtain ⟨n, hn, en⟩ := v_nI (m := 30) hV.2.2.1.2.2.2.2.1
  have en2 : I 46 44 = nI n := hV.2.1.2.2.2.2.2.2.2.1.trans en
  have e40 : I 46 40 = I 15 3 := hV.1.2.2.2.2.2.2.2.2.2.2.2
  have e38 : I 46 38 = I 13 1 := hV.1.2.2.2.2.2.2.2.1
  have e35 : I 46 35 = I 9 3 := hV.1.2.2.2.2.2.1
  have e73 : I 73 = I 18 := hV.1.2.2.2.2.2.2.2.2.2.2.1
  have bt := hV.2.2.1.2.2.2.1
  have hno : p_X9_piece f I a1 a2 a3 a4 a5 a6 → s_X9_piece f I a1 a2 a3 a4 a5 a6 = (-1, I) → p_X10_piece f I a1 a2 a3 a4 a5 a6 → s_X10_piece f I a1 a2 a3 a4 a5 a6 = (-1, I) → ∃ (x : Int32) (I1 I2 : am_I), p_X9_piece f I a1 a2 a3 a4 a5 a6 ∧ s_X9_piece f I a1 a2 a3 a4 a5 a6 = (x, I1) ∧ p_X10_piece f I1 a1 a2 a3 a4 a5 a6 ∧ s_X10_piece f I1 a1 a2 a3 a4 a5 a6 = (x, I2) ∧ (∀ k, 38 ≤ k → k < 46 → I2 k = I k) ∧ VV nc I2 J Q E := fun q1 q2 q3 q4 => ⟨-1, I, I, q1, q2, q3, q4, fun _ _ _ => rfl, hV⟩
  -- the reference's own guards, in the class's words
  have hfree0 : ∀ b, s_X9_isBelow a1 (I 15 3) = 0 ∨ a2 < 0 ∨ a3 ≤ a2 ∨ ¬ a3 ≤ I 18 a1.toNatClampNeg ∨ b → True := fun _ _ => trivial
  have m30 : ∀ K : am_I, (¬ n = 30 → ¬ nI n = 30) := fun _ h c => h ((nI_eq (b := 30) (by omega) (by omega)).mp c)
  have isb1 : s_X9_isBelow a1 (I 15 3) = 0 ↔ (a1 < 0 ∨ I 15 3 ≤ a1) := by
    rw [isB_0, Int32.lt_iff_toInt_lt, Int32.le_iff_toInt_le]; have : (0 : Int32).toInt = 0 := rfl; omega
  have isb4 : s_X7_has I a4 = 0 ↔ (a4 < 0 ∨ I 13 1 ≤ a4) := by
    unfold s_X7_has; rw [isB_0, Int32.lt_iff_toInt_lt, Int32.le_iff_toInt_le]; have : (0 : Int32).toInt = 0 := rfl; omega
  have isb5 : s_X8_has I a5 = 0 ↔ (a5 < 0 ∨ I 9 3 ≤ a5) := by
    unfold s_X8_has; rw [isB_0, Int32.lt_iff_toInt_lt, Int32.le_iff_toInt_le]; have : (0 : Int32).toInt = 0 := rfl; omega
  have isb6 : s_X9_isBelow a6 16 = 0 ↔ (a6 < 0 ∨ 15 < a6) := by
    rw [isB_0, Int32.lt_iff_toInt_lt, Int32.lt_iff_toInt_lt]; have : (0 : Int32).toInt = 0 := rfl; have : (15 : Int32).toInt = 15 := rfl; have : (16 : Int32).toInt = 16 := rfl; omega
  by_cases g1 : a1 < 0 ∨ I 15 3 ≤ a1
  · have z : s_X4_isFree f I a1 a2 a3 = 0 := by unfold s_X4_isFree; rw [if_pos (isb1.mpr g1)]
    have zp : p_X4_isFree f I a1 a2 a3 := by unfold p_X4_isFree; rw [if_pos (isb1.mpr g1)]; trivial
    refine hno ?_ ?_ ?_ ?_
    · unfold p_X9_piece; rw [if_pos z]; exact ⟨zp, trivial⟩
    · unfold s_X9_piece; rw [if_pos z]
    · unfold p_X10_piece; rw [e40]
      rcases g1 with g1 | g1
      · simp only [if_pos g1, ite_self]
      · simp only [if_pos g1, ite_self]
    · unfold s_X10_piece; rw [e40]
      rcases g1 with g1 | g1
      · simp only [if_pos g1, ite_self]
      · simp only [if_pos g1, ite_self]
  · have g1a : ¬ a1 < 0 := fun h => g1 (Or.inl h)
    have g1b : ¬ I 15 3 ≤ a1 := fun h => g1 (Or.inr h)
    have nb1 : ¬ s_X9_isBelow a1 (I 15 3) = 0 := fun h => g1 (isb1.mp h)
    have r1 : 0 ≤ a1.toInt ∧ a1.toInt < (I 15 3).toInt := Decidable.of_not_not (fun c => nb1 (isB_0.mpr c))
    have v1 : vp_in a1 6 := by rw [vp_in_iff]; omega
    by_cases g2 : a2 < 0 ∨ a3 ≤ a2 ∨ I 18 a1.toNatClampNeg < a3
    · have z : s_X4_isFree f I a1 a2 a3 = 0 := by
        unfold s_X4_isFree; rw [if_neg nb1]
        rcases g2 with g2 | g2 | g2
        · rw [if_pos g2]
        · simp only [if_pos g2, ite_self]
        · have : ¬ a3 ≤ I 18 a1.toNatClampNeg := by rw [Int32.le_iff_toInt_le]; rw [Int32.lt_iff_toInt_lt] at g2; omega
          simp only [if_neg this, ite_self]
      have zp : p_X4_isFree f I a1 a2 a3 := by
        unfold p_X4_isFree; rw [if_neg nb1]
        rcases g2 with g2 | g2 | g2
        · rw [if_pos g2]; trivial
        · simp only [if_pos g2, ite_self]
        · have : ¬ a3 ≤ I 18 a1.toNatClampNeg := by rw [Int32.le_iff_toInt_le]; rw [Int32.lt_iff_toInt_lt] at g2; omega
          simp only [if_neg this]
          split
          · trivial
          · split
            · trivial
            · exact ⟨v1, trivial⟩
      refine hno ?_ ?_ ?_ ?_
      · unfold p_X9_piece; rw [if_pos z]; exact ⟨zp, trivial⟩
      · unfold s_X9_piece; rw [if_pos z]
      · unfold p_X10_piece; rw [e40, e73, if_neg g1a, if_neg g1b]
        rcases g2 with g2 | g2 | g2
        · simp only [if_pos g2, ite_self]
        · simp only [if_pos g2, ite_self]
        · simp only [if_pos g2]
          split
          · trivial
          · split
            · trivial
            · split
              · trivial
              · exact ⟨v1, trivial⟩
      · unfold s_X10_piece; rw [e40, e73, if_neg g1a, if_neg g1b]
        rcases g2 with g2 | g2 | g2
        · simp only [if_pos g2, ite_self]
        · simp only [if_pos g2, ite_self]
        · simp only [if_pos g2, ite_self]
    · have g2a : ¬ a2 < 0 := fun h => g2 (Or.inl h)
      have g2b : ¬ a3 ≤ a2 := fun h => g2 (Or.inr (Or.inl h))
      have g2c : ¬ I 18 a1.toNatClampNeg < a3 := fun h => g2 (Or.inr (Or.inr h))
      have g2d : a3 ≤ I 18 a1.toNatClampNeg := by rw [Int32.le_iff_toInt_le]; rw [Int32.lt_iff_toInt_lt] at g2c; omega
      have zs : s_X4_isFree f I a1 a2 a3 = s_X4_isFree_L35 a1 a2 a3 I f 0 := by unfold s_X4_isFree; rw [if_neg nb1, if_neg g2a, if_neg g2b, if_pos g2d]
      have zp : p_X4_isFree_L35 a1 a2 a3 I f 0 → p_X4_isFree f I a1 a2 a3 := fun h => by unfold p_X4_isFree; rw [if_neg nb1, if_neg g2a, if_neg g2b, if_pos g2d]; exact ⟨v1, h⟩
      have hloop : p_X4_isFree_L35 a1 a2 a3 I f 0 := by
        have : ∀ g i, i ≤ n → n < g + i → p_X4_isFree_L35 a1 a2 a3 I g (nI i) := by
          intro g
          induction g with
          | zero => intro i hi hg; omega
          | succ g ih =>
            intro i hi hg
            rw [u_p_X4_isFree_L35, en]
            by_cases hin : i = n
            · rw [if_pos (nI_le (by omega) (by omega))]; trivial
            · have hv : vp_in (nI i) 30 := vp_in_nI (by omega) (by omega)
              have i1 := ih (i + 1) (by omega) (by omega)
              rw [if_neg (nI_ge (by omega) (by omega)), nI_1]
              refine ⟨hv, ?_⟩
              split
              · refine ⟨hv, ?_⟩
                split
                · exact i1
                · refine ⟨hv, ?_⟩
                  split
                  · exact i1
                  · trivial
              · exact i1
        exact this f 0 (by omega) (by omega)
      have zp := zp hloop
      -- the later guards
      by_cases g4 : s_X7_has I a4 = 0
      · have g4' := isb4.mp g4
        refine hno ?_ ?_ ?_ ?_
        · unfold p_X9_piece; simp only [if_pos g4, ite_self]; exact ⟨zp, trivial⟩
        · unfold s_X9_piece; simp only [if_pos g4, ite_self]
        · unfold p_X10_piece; rw [e38]
          rcases g4' with h | h
          · simp only [if_pos h, ite_self]
            repeat' split
            all_goals first | trivial | exact ⟨v1, trivial⟩
          · simp only [if_pos h, ite_self]
            repeat' split
            all_goals first | trivial | exact ⟨v1, trivial⟩
        · unfold s_X10_piece; rw [e38]
          rcases g4' with h | h
          · simp only [if_pos h, ite_self]
          · simp only [if_pos h, ite_self]
      · have r4 : 0 ≤ a4.toInt ∧ a4.toInt < (I 13 1).toInt := Decidable.of_not_not (fun c => g4 (isB_0.mpr c))
        have g4a : ¬ a4 < 0 := fun h => g4 (isb4.mpr (Or.inl h))
        have g4b : ¬ I 13 1 ≤ a4 := fun h => g4 (isb4.mpr (Or.inr h))
        -- names and tells
        by_cases g5 : (a5 = -1 ∧ a6 = 0) ∨ (¬ a5 = -1 ∧ ¬ s_X8_has I a5 = 0 ∧ ¬ s_X9_isBelow a6 16 = 0)
        · have m1 : (-1 : Int32).toInt = -1 := rfl
          have m0 : (0 : Int32).toInt = 0 := rfl
          have b9 := hV.2.2.1.2.1
          have r5 : -1 ≤ a5.toInt ∧ a5.toInt < (I 9 3).toInt := by
            rcases g5 with ⟨h, -⟩ | ⟨-, h, -⟩
            · rw [h]; omega
            · have := Decidable.of_not_not (fun c => h (isB_0.mpr c)); omega
          have k5a : ¬ a5 < -1 := by rw [Int32.lt_iff_toInt_lt]; omega
          have k5b : ¬ I 9 3 ≤ a5 := by rw [Int32.le_iff_toInt_le]; omega
          have k6 : ¬ a6 < 0 ∧ ¬ 15 < a6 := by
            rcases g5 with ⟨-, h⟩ | ⟨-, -, h⟩
            · rw [h]; decide
            · exact ⟨fun c => h (isb6.mpr (Or.inl c)), fun c => h (isb6.mpr (Or.inr c))⟩
          have hs9 : s_X9_piece f I a1 a2 a3 a4 a5 a6 = if s_X4_isFree_L35 a1 a2 a3 I f 0 = 0 then (-1, I) else s_X4_addPiece I a1 a2 a3 a4 a5 a6 := by
            unfold s_X9_piece
            rw [zs]
            rcases g5 with ⟨h, h'⟩ | ⟨h, h', h''⟩
            · simp only [if_neg g4, if_pos h, if_pos h']
            · simp only [if_neg g4, if_neg h, if_neg h', if_neg h'']
          have hp9 : (s_X4_isFree_L35 a1 a2 a3 I f 0 = 0 ∨ p_X4_addPiece I a1 a2 a3 a4 a5 a6) → p_X9_piece f I a1 a2 a3 a4 a5 a6 := by
            intro ha
            unfold p_X9_piece
            rw [zs]
            refine ⟨zp, ?_⟩
            by_cases hz : s_X4_isFree_L35 a1 a2 a3 I f 0 = 0
            · rw [if_pos hz]; trivial
            · have ha := ha.resolve_left hz
              rcases g5 with ⟨h, h'⟩ | ⟨h, h', h''⟩
              · simp only [if_neg hz, if_neg g4, if_pos h, if_pos h']; exact ha
              · simp only [if_neg hz, if_neg g4, if_neg h, if_neg h', if_neg h'']; exact ha
          have hs10 : ∀ K : am_I, K 46 44 = nI n → K 46 40 = I 15 3 → K 73 = I 18 → K 46 38 = I 13 1 → K 46 35 = I 9 3 → s_X10_piece f K a1 a2 a3 a4 a5 a6 = if nI n = 30 then (-1, K) else s_X10_piece_L97 a1 a2 a3 a4 a5 a6 f 0 K := by
            intro K w1 w2 w3 w4 w5
            unfold s_X10_piece
            rw [w1, w2, w3, w4, w5, if_neg g1a, if_neg g1b, if_neg g2a, if_neg g2b, if_neg g2c, if_neg g4a, if_neg g4b, if_neg k5a, if_neg k5b, if_neg k6.1, if_neg k6.2]
            rcases g5 with ⟨h, h'⟩ | ⟨h, -, -⟩
            · rw [if_pos h, if_pos h']
            · rw [if_neg h]
          have hp10 : ∀ K : am_I, K 46 44 = nI n → K 46 40 = I 15 3 → K 73 = I 18 → K 46 38 = I 13 1 → K 46 35 = I 9 3 → (nI n = 30 ∨ p_X10_piece_L97 a1 a2 a3 a4 a5 a6 f 0 K) → p_X10_piece f K a1 a2 a3 a4 a5 a6 := by
            intro K w1 w2 w3 w4 w5 ha
            unfold p_X10_piece
            rw [w1, w2, w3, w4, w5, if_neg g1a, if_neg g1b, if_neg g2a, if_neg g2b, if_neg g2c, if_neg g4a, if_neg g4b, if_neg k5a, if_neg k5b, if_neg k6.1, if_neg k6.2]
            by_cases hz : nI n = 30
            · rw [if_pos hz]; trivial
            · have ha := ha.resolve_left hz
              rw [if_neg hz]
              rcases g5 with ⟨h, h'⟩ | ⟨h, -, -⟩
              · rw [if_pos h, if_pos h']; exact ⟨v1, ha⟩
              · rw [if_neg h]; exact ⟨v1, ha⟩
          by_cases hfull : n = 30
          · have hz : nI n = 30 := by rw [hfull]; rfl
            have ha : ¬ I 15 11 < 30 := by rw [en, hfull]; decide
            have hadd : s_X4_addPiece I a1 a2 a3 a4 a5 a6 = (-1, I) := by unfold s_X4_addPiece; rw [if_neg ha]
            refine hno (hp9 (Or.inr ?_)) ?_ (hp10 I en2 e40 e73 e38 e35 (Or.inl hz)) ?_
            · unfold p_X4_addPiece; rw [if_neg ha]; trivial
            · rw [hs9, hadd, ite_self]
            · rw [hs10 I en2 e40 e73 e38 e35, if_pos hz]
          · have hn30 : n < 30 := by omega
            have hz : ¬ nI n = 30 := m30 I hfull
            have ha : nI n < 30 := nI_lt (b := 30) hn30 (by omega)
            have hvn : vp_in (nI n) 30 := vp_in_nI hn30 (by omega)
            have hadd : s_X4_addPiece I a1 a2 a3 a4 a5 a6 = (nI n + 1 - 1, pc_add I n a1 a2 a3 a4 a5 a6) := by
              unfold s_X4_addPiece; rw [en, if_pos ha, nI_clamp (by omega)]; rfl
            have haddp : p_X4_addPiece I a1 a2 a3 a4 a5 a6 := by
              unfold p_X4_addPiece; rw [en, if_pos ha]; exact ⟨hvn, hvn, hvn, hvn, hvn, hvn, hvn⟩
            by_cases hz2 : s_X4_isFree_L35 a1 a2 a3 I f 0 = 0
            · obtain ⟨-, l2, l3⟩ := lp_free (a1 := a1) (a2 := a2) (a3 := a3) (a4 := a4) (a5 := a5) (a6 := a6) en en2 hV.2.1.1 hV.2.1.2.1 hV.2.1.2.2.1 hn30 f 0 (by omega) (by omega)
              rw [nI_0] at l2 l3
              refine hno (hp9 (Or.inl hz2)) ?_ (hp10 I en2 e40 e73 e38 e35 (Or.inr l2)) ?_
              · rw [hs9, if_pos hz2]
              · rw [hs10 I en2 e40 e73 e38 e35, if_neg hz, l3, if_pos hz2]
            · obtain ⟨-, l2, l3⟩ := lp_free (I := I) (K := pc_add I n a1 a2 a3 a4 a5 a6) (a1 := a1) (a2 := a2) (a3 := a3) (a4 := a4) (a5 := a5) (a6 := a6) en en2 hV.2.1.1 hV.2.1.2.1 hV.2.1.2.2.1 hn30 f 0 (by omega) (by omega)
              rw [nI_0] at l2 l3
              refine ⟨nI n + 1 - 1, pc_add I n a1 a2 a3 a4 a5 a6, pm_add (pc_add I n a1 a2 a3 a4 a5 a6) n a1 a2 a3 a4 a5 a6, hp9 (Or.inr haddp), ?_, hp10 _ en2 e40 e73 e38 e35 (Or.inr l2), ?_, ?_, hV.piece hn30 en a1 a2 a3 a4 a5 a6 r1 r4 r5⟩
              · rw [hs9, if_neg hz2, hadd]
              · rw [hs10 (pc_add I n a1 a2 a3 a4 a5 a6) en2 e40 e73 e38 e35, if_neg hz, l3, if_neg hz2]
              · unfold pm_add pc_add
                exact fw (fw (fw (fw (fw (fw (fw (fw (fw (fw (fw (fw (fw (fw (fw (fw (fun _ _ _ => rfl) (by decide)) (by decide)) (by decide)) (by decide)) (by decide)) (by decide)) (by decide)) (by decide)) (by decide)) (by decide)) (by decide)) (by decide)) (by decide)) (by decide)) (by decide)) (by decide)
        · have m1 : (-1 : Int32).toInt = -1 := rfl
          have m0 : (0 : Int32).toInt = 0 := rfl
          have hs9 : s_X9_piece f I a1 a2 a3 a4 a5 a6 = (-1, I) := by
            unfold s_X9_piece
            rw [if_neg g4]
            by_cases h : a5 = -1
            · have h' : ¬ a6 = 0 := fun c => g5 (Or.inl ⟨h, c⟩)
              rw [if_pos h, if_neg h', ite_self]
            · rw [if_neg h]
              by_cases h' : s_X8_has I a5 = 0
              · rw [if_pos h', ite_self]
              · have h'' : s_X9_isBelow a6 16 = 0 := Decidable.of_not_not (fun c => g5 (Or.inr ⟨h, h', c⟩))
                rw [if_neg h', if_pos h'', ite_self]
          have hp9 : p_X9_piece f I a1 a2 a3 a4 a5 a6 := by
            unfold p_X9_piece
            refine ⟨zp, ?_⟩
            rw [if_neg g4]
            by_cases h : a5 = -1
            · have h' : ¬ a6 = 0 := fun c => g5 (Or.inl ⟨h, c⟩)
              rw [if_pos h, if_neg h', ite_self]; trivial
            · rw [if_neg h]
              by_cases h' : s_X8_has I a5 = 0
              · rw [if_pos h', ite_self]; trivial
              · have h'' : s_X9_isBelow a6 16 = 0 := Decidable.of_not_not (fun c => g5 (Or.inr ⟨h, h', c⟩))
                rw [if_neg h', if_pos h'', ite_self]; trivial
          have hk : a5 < -1 ∨ I 9 3 ≤ a5 ∨ a6 < 0 ∨ 15 < a6 ∨ (a5 = -1 ∧ ¬ a6 = 0) := by
            by_cases h : a5 = -1
            · exact Or.inr (Or.inr (Or.inr (Or.inr ⟨h, fun c => g5 (Or.inl ⟨h, c⟩)⟩)))
            · by_cases h' : s_X8_has I a5 = 0
              · rcases isb5.mp h' with c | c
                · refine Or.inl ?_
                  rw [Int32.lt_iff_toInt_lt] at c ⊢
                  rw [ia_eq] at h
                  omega
                · exact Or.inr (Or.inl c)
              · rcases isb6.mp (Decidable.of_not_not (fun c => g5 (Or.inr ⟨h, h', c⟩))) with c | c
                · exact Or.inr (Or.inr (Or.inl c))
                · exact Or.inr (Or.inr (Or.inr (Or.inl c)))
          refine hno hp9 hs9 ?_ ?_
          · unfold p_X10_piece; rw [e35, e38]
            rcases hk with h | h | h | h | ⟨h, h'⟩
            · simp only [if_pos h, ite_self]
              repeat' split
              all_goals first | trivial | exact ⟨v1, trivial⟩
            · simp only [if_pos h, ite_self]
              repeat' split
              all_goals first | trivial | exact ⟨v1, trivial⟩
            · simp only [if_pos h, ite_self]
              repeat' split
              all_goals first | trivial | exact ⟨v1, trivial⟩
            · simp only [if_pos h, ite_self]
              repeat' split
              all_goals first | trivial | exact ⟨v1, trivial⟩
            · simp only [if_pos h, if_neg h', ite_self]
              repeat' split
              all_goals first | trivial | exact ⟨v1, trivial⟩
          · unfold s_X10_piece; rw [e35, e38]
            rcases hk with h | h | h | h | ⟨h, h'⟩
            · simp only [if_pos h, ite_self]
            · simp only [if_pos h, ite_self]
            · simp only [if_pos h, ite_self]
            · simp only [if_pos h, ite_self]
            · simp only [if_pos h, if_neg h', ite_self]
