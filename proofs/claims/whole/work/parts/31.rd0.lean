def s_X2_begin (I : am_I)  : am_I := (am_w (am_w (am_w (am_w (am_w (am_w (am_w I 3 1 0) 3 2 0) 3 3 0) 3 4 (-1)) 3 5 1) 3 6 (-1)) 3 7 (-1))
set_option maxRecDepth 100000 in
set_option maxHeartbeats 4000000 in
theorem gt_X2_begin (f : Nat) (I : am_I) (J : am_J) (Q : am_Q) (hG : Gr Q)  : Gd MX2_begin (am_o 0 0 0 (am_FvI J Q (s_X2_begin I))) 0 0 92 0 [some (.ref 3)] [] I J Q := by
  unfold s_X2_begin
  refine gd_aload_n (q := 1) rfl rfl rfl ?_
  refine gd_iconst (v := 0) (q := 2) rfl rfl rfl ?_
  refine gd_putI (q := 5) rfl rfl rfl (Nat.le_of_ble_eq_true rfl) rfl rfl rfl (Or.inl rfl) ?_
  refine gd_aload_n (q := 6) rfl rfl rfl ?_
  refine gd_iconst (v := 0) (q := 7) rfl rfl rfl ?_
  refine gd_putI (q := 10) rfl rfl rfl (Nat.le_of_ble_eq_true rfl) rfl rfl rfl (Or.inl rfl) ?_
  refine gd_aload_n (q := 11) rfl rfl rfl ?_
  refine gd_iconst (v := 0) (q := 12) rfl rfl rfl ?_
  refine gd_putI (q := 15) rfl rfl rfl (Nat.le_of_ble_eq_true rfl) rfl rfl rfl (Or.inl rfl) ?_
  refine gd_aload_n (q := 16) rfl rfl rfl ?_
  refine gd_iconst (v := (-1)) (q := 17) rfl rfl rfl ?_
  refine gd_putI (q := 20) rfl rfl rfl (Nat.le_of_ble_eq_true rfl) rfl rfl rfl (Or.inl rfl) ?_
  refine gd_aload_n (q := 21) rfl rfl rfl ?_
  refine gd_iconst (v := 1) (q := 22) rfl rfl rfl ?_
  refine gd_putZ (q := 25) rfl rfl rfl (Nat.le_of_ble_eq_true rfl) rfl rfl rfl (by decide) rfl ?_
  refine gd_aload_n (q := 26) rfl rfl rfl ?_
  refine gd_iconst (v := (-1)) (q := 27) rfl rfl rfl ?_
  refine gd_putI (q := 30) rfl rfl rfl (Nat.le_of_ble_eq_true rfl) rfl rfl rfl (Or.inl rfl) ?_
  refine gd_aload_n (q := 31) rfl rfl rfl ?_
  refine gd_iconst (v := (-1)) (q := 32) rfl rfl rfl ?_
  refine gd_putI (q := 35) rfl rfl rfl (Nat.le_of_ble_eq_true rfl) rfl rfl rfl (Or.inl rfl) ?_
  exact gd_return rfl rfl (Nat.le_refl 0) (Nat.le_refl 0) rfl
theorem ct_X2_begin (f : Nat) (I : am_I) (J : am_J) (Q : am_Q) (hG : Gr Q)  : Cm MX2_begin 0 0 0 92 [.ref 3] I J Q (am_FvI J Q (s_X2_begin I)) := cm_of (by decide) rfl IX2_begin_ok (Nat.le_of_ble_eq_true rfl) (gt_X2_begin f I J Q hG)
def s_X6_rewind (I : am_I)  : am_I := (am_w I 1 2 0)
set_option maxRecDepth 100000 in
set_option maxHeartbeats 4000000 in
theorem gt_X6_rewind (f : Nat) (I : am_I) (J : am_J) (Q : am_Q) (hG : Gr Q)  : Gd MX6_rewind (am_o 0 0 0 (am_FvI J Q (s_X6_rewind I))) 0 0 92 0 [some (.ref 1)] [] I J Q := by
  unfold s_X6_rewind
  refine gd_aload_n (q := 1) rfl rfl rfl ?_
  refine gd_iconst (v := 0) (q := 2) rfl rfl rfl ?_
  refine gd_putI (q := 5) rfl rfl rfl (Nat.le_of_ble_eq_true rfl) rfl rfl rfl (Or.inl rfl) ?_
  exact gd_return rfl rfl (Nat.le_refl 0) (Nat.le_refl 0) rfl
theorem ct_X6_rewind (f : Nat) (I : am_I) (J : am_J) (Q : am_Q) (hG : Gr Q)  : Cm MX6_rewind 0 0 0 92 [.ref 1] I J Q (am_FvI J Q (s_X6_rewind I)) := cm_of (by decide) rfl IX6_rewind_ok (Nat.le_of_ble_eq_true rfl) (gt_X6_rewind f I J Q hG)
def s_X1_clear (I : am_I)  : am_I := (am_w (am_w (am_w (am_w I 38 7 0) 38 8 0) 38 9 0) 38 10 0)
set_option maxRecDepth 100000 in
set_option maxHeartbeats 4000000 in
theorem gt_X1_clear (f : Nat) (I : am_I) (J : am_J) (Q : am_Q) (hG : Gr Q)  : Gd MX1_clear (am_o 0 0 0 (am_FvI J Q (s_X1_clear I))) 0 0 92 0 [some (.ref 38)] [] I J Q := by
  unfold s_X1_clear
  refine gd_aload_n (q := 1) rfl rfl rfl ?_
  refine gd_iconst (v := 0) (q := 2) rfl rfl rfl ?_
  refine gd_putI (q := 5) rfl rfl rfl (Nat.le_of_ble_eq_true rfl) rfl rfl rfl (Or.inl rfl) ?_
  refine gd_aload_n (q := 6) rfl rfl rfl ?_
  refine gd_iconst (v := 0) (q := 7) rfl rfl rfl ?_
  refine gd_putI (q := 10) rfl rfl rfl (Nat.le_of_ble_eq_true rfl) rfl rfl rfl (Or.inl rfl) ?_
  refine gd_aload_n (q := 11) rfl rfl rfl ?_
  refine gd_iconst (v := 0) (q := 12) rfl rfl rfl ?_
  refine gd_putI (q := 15) rfl rfl rfl (Nat.le_of_ble_eq_true rfl) rfl rfl rfl (Or.inl rfl) ?_
  refine gd_aload_n (q := 16) rfl rfl rfl ?_
  refine gd_iconst (v := 0) (q := 17) rfl rfl rfl ?_
  refine gd_putZ (q := 20) rfl rfl rfl (Nat.le_of_ble_eq_true rfl) rfl rfl rfl (by decide) rfl ?_
  exact gd_return rfl rfl (Nat.le_refl 0) (Nat.le_refl 0) rfl
theorem ct_X1_clear (f : Nat) (I : am_I) (J : am_J) (Q : am_Q) (hG : Gr Q)  : Cm MX1_clear 0 0 0 92 [.ref 38] I J Q (am_FvI J Q (s_X1_clear I)) := cm_of (by decide) rfl IX1_clear_ok (Nat.le_of_ble_eq_true rfl) (gt_X1_clear f I J Q hG)
def s_X6_isLetter  (a0 : Int32) : Int32 := (if a0 < 97 then 0 else (if 122 < a0 then 0 else 1))
theorem z_X6_isLetter  (a0 : Int32) : (s_X6_isLetter a0) = 0 ∨ (s_X6_isLetter a0) = 1 := by
  unfold s_X6_isLetter
  repeat' split
  all_goals first | exact Or.inl rfl | exact Or.inr rfl
set_option maxRecDepth 100000 in
set_option maxHeartbeats 4000000 in
theorem gt_X6_isLetter (f : Nat) (I : am_I) (J : am_J) (Q : am_Q) (hG : Gr Q) (a0 : Int32) : Gd MX6_isLetter (am_o 0 0 0 (am_Fi I J Q (s_X6_isLetter a0))) 0 0 92 0 [some (.int a0)] [] I J Q := by
  unfold s_X6_isLetter
  refine gd_iload_n (q := 1) rfl rfl rfl ?_
  refine gd_bipush (v := 97) (q := 3) rfl rfl rfl ?_
  refine gy_icmp_lt (q := 6) (r := 16) rfl rfl rfl (fun c_3 => ?_) (fun c_3 => ?_)
  · refine gd_iconst (v := 0) (q := 17) rfl rfl rfl ?_
    exact gd_ireturn rfl rfl rfl (Nat.le_refl 0) (Nat.le_refl 0) rfl
  · refine gd_iload_n (q := 7) rfl rfl rfl ?_
    refine gd_bipush (v := 122) (q := 9) rfl rfl rfl ?_
    refine gy_icmp_gt (q := 12) (r := 16) rfl rfl rfl (fun c_9 => ?_) (fun c_9 => ?_)
    · refine gd_iconst (v := 0) (q := 17) rfl rfl rfl ?_
      exact gd_ireturn rfl rfl rfl (Nat.le_refl 0) (Nat.le_refl 0) rfl
    · refine gd_iconst (v := 1) (q := 13) rfl rfl rfl ?_
      refine gd_goto (q := 17) rfl rfl ?_
      exact gd_ireturn rfl rfl rfl (Nat.le_refl 0) (Nat.le_refl 0) rfl
theorem ct_X6_isLetter (f : Nat) (I : am_I) (J : am_J) (Q : am_Q) (hG : Gr Q) (a0 : Int32) : Cm MX6_isLetter 0 0 0 92 [.int a0] I J Q (am_Fi I J Q (s_X6_isLetter a0)) := cm_of (by decide) rfl IX6_isLetter_ok (Nat.le_of_ble_eq_true rfl) (gt_X6_isLetter f I J Q hG a0)
def s_X6_isDigit  (a0 : Int32) : Int32 := (if a0 < 48 then 0 else (if 57 < a0 then 0 else 1))
theorem z_X6_isDigit  (a0 : Int32) : (s_X6_isDigit a0) = 0 ∨ (s_X6_isDigit a0) = 1 := by
  unfold s_X6_isDigit
  repeat' split
  all_goals first | exact Or.inl rfl | exact Or.inr rfl
set_option maxRecDepth 100000 in
set_option maxHeartbeats 4000000 in
theorem gt_X6_isDigit (f : Nat) (I : am_I) (J : am_J) (Q : am_Q) (hG : Gr Q) (a0 : Int32) : Gd MX6_isDigit (am_o 0 0 0 (am_Fi I J Q (s_X6_isDigit a0))) 0 0 92 0 [some (.int a0)] [] I J Q := by
  unfold s_X6_isDigit
  refine gd_iload_n (q := 1) rfl rfl rfl ?_
  refine gd_bipush (v := 48) (q := 3) rfl rfl rfl ?_
  refine gy_icmp_lt (q := 6) (r := 16) rfl rfl rfl (fun c_3 => ?_) (fun c_3 => ?_)
  · refine gd_iconst (v := 0) (q := 17) rfl rfl rfl ?_
    exact gd_ireturn rfl rfl rfl (Nat.le_refl 0) (Nat.le_refl 0) rfl
  · refine gd_iload_n (q := 7) rfl rfl rfl ?_
    refine gd_bipush (v := 57) (q := 9) rfl rfl rfl ?_
    refine gy_icmp_gt (q := 12) (r := 16) rfl rfl rfl (fun c_9 => ?_) (fun c_9 => ?_)
    · refine gd_iconst (v := 0) (q := 17) rfl rfl rfl ?_
      exact gd_ireturn rfl rfl rfl (Nat.le_refl 0) (Nat.le_refl 0) rfl
    · refine gd_iconst (v := 1) (q := 13) rfl rfl rfl ?_
      refine gd_goto (q := 17) rfl rfl ?_
      exact gd_ireturn rfl rfl rfl (Nat.le_refl 0) (Nat.le_refl 0) rfl
theorem ct_X6_isDigit (f : Nat) (I : am_I) (J : am_J) (Q : am_Q) (hG : Gr Q) (a0 : Int32) : Cm MX6_isDigit 0 0 0 92 [.int a0] I J Q (am_Fi I J Q (s_X6_isDigit a0)) := cm_of (by decide) rfl IX6_isDigit_ok (Nat.le_of_ble_eq_true rfl) (gt_X6_isDigit f I J Q hG a0)
theorem am_swX6_signOf_1 {x : Int32} (h0 : ¬ x = 33) (h1 : ¬ x = 40) (h2 : ¬ x = 41) (h3 : ¬ x = 42) (h4 : ¬ x = 43) (h5 : ¬ x = 45) (h6 : ¬ x = 59) (h7 : ¬ x = 60) (h8 : ¬ x = 61) : (x.toInt < 33 ∨ 61 < x.toInt) ∨ (¬ x.toInt < 33 ∧ ¬ 61 < x.toInt ∧ (#[161, 185, 185, 185, 185, 185, 185, 143, 146, 140, 134, 185, 137, 185, 185, 185, 185, 185, 185, 185, 185, 185, 185, 185, 185, 185, 131, 173, 149] : Array Int)[(x.toInt - 33).toNat]? = some 185) := by
  by_cases hlo : x.toInt < 33
  · exact Or.inl (Or.inl hlo)
  by_cases hhi : 61 < x.toInt
  · exact Or.inl (Or.inr hhi)
  refine Or.inr ⟨hlo, hhi, ?_⟩
  have e0 := lv_neT (a := 33) h0 rfl
  have e1 := lv_neT (a := 40) h1 rfl
  have e2 := lv_neT (a := 41) h2 rfl
  have e3 := lv_neT (a := 42) h3 rfl
  have e4 := lv_neT (a := 43) h4 rfl
  have e5 := lv_neT (a := 45) h5 rfl
  have e6 := lv_neT (a := 59) h6 rfl
  have e7 := lv_neT (a := 60) h7 rfl
  have e8 := lv_neT (a := 61) h8 rfl
  rcases (show x.toInt = 34 ∨ x.toInt = 35 ∨ x.toInt = 36 ∨ x.toInt = 37 ∨ x.toInt = 38 ∨ x.toInt = 39 ∨ x.toInt = 44 ∨ x.toInt = 46 ∨ x.toInt = 47 ∨ x.toInt = 48 ∨ x.toInt = 49 ∨ x.toInt = 50 ∨ x.toInt = 51 ∨ x.toInt = 52 ∨ x.toInt = 53 ∨ x.toInt = 54 ∨ x.toInt = 55 ∨ x.toInt = 56 ∨ x.toInt = 57 ∨ x.toInt = 58 by omega) with h | h | h | h | h | h | h | h | h | h | h | h | h | h | h | h | h | h | h | h <;> (rw [h]; rfl)
def s_X6_signOf  (a0 : Int32) (a1 : Int32) : Int32 := (if a0 = 33 then (if a1 = 0 then 27 else 21) else (if a0 = 40 then 24 else (if a0 = 41 then 25 else (if a0 = 42 then 19 else (if a0 = 43 then 17 else (if a0 = 45 then 18 else (if a0 = 59 then 16 else (if a0 = 60 then (if a1 = 0 then 22 else 23) else (if a0 = 61 then (if a1 = 0 then 27 else 20) else 27)))))))))
set_option maxRecDepth 100000 in
set_option maxHeartbeats 4000000 in
theorem gt_X6_signOf (f : Nat) (I : am_I) (J : am_J) (Q : am_Q) (hG : Gr Q) (a0 : Int32) (a1 : Int32) : Gd MX6_signOf (am_o 0 0 0 (am_Fi I J Q (s_X6_signOf a0 a1))) 0 0 92 0 [some (.int a0), some (.int a1)] [] I J Q := by
  unfold s_X6_signOf
  refine gd_iload_n (q := 1) rfl rfl rfl ?_
  refine gy_ite (fun c_1_33 => ?_) (fun c_1_33 => ?_)
  · refine gd_tsIn (q := 162) rfl (by rw [c_1_33]; decide) (by rw [c_1_33]; decide) (by first | (rw [c_1_33]; done) | (rw [c_1_33]; rfl)) rfl ?_
    refine gd_iload_n (q := 163) rfl rfl rfl ?_
    refine gy_if_eq (q := 166) (r := 171) rfl rfl rfl (fun c_163 => ?_) (fun c_163 => ?_)
    · refine gd_bipush (v := 27) (q := 173) rfl rfl rfl ?_
      exact gd_ireturn rfl rfl rfl (Nat.le_refl 0) (Nat.le_refl 0) rfl
    · refine gd_bipush (v := 21) (q := 168) rfl rfl rfl ?_
      refine gd_goto (q := 173) rfl rfl ?_
      exact gd_ireturn rfl rfl rfl (Nat.le_refl 0) (Nat.le_refl 0) rfl
  · refine gy_ite (fun c_1_40 => ?_) (fun c_1_40 => ?_)
    · refine gd_tsIn (q := 144) rfl (by rw [c_1_40]; decide) (by rw [c_1_40]; decide) (by first | (rw [c_1_40]; done) | (rw [c_1_40]; rfl)) rfl ?_
      refine gd_bipush (v := 24) (q := 146) rfl rfl rfl ?_
      exact gd_ireturn rfl rfl rfl (Nat.le_refl 0) (Nat.le_refl 0) rfl
    · refine gy_ite (fun c_1_41 => ?_) (fun c_1_41 => ?_)
      · refine gd_tsIn (q := 147) rfl (by rw [c_1_41]; decide) (by rw [c_1_41]; decide) (by first | (rw [c_1_41]; done) | (rw [c_1_41]; rfl)) rfl ?_
        refine gd_bipush (v := 25) (q := 149) rfl rfl rfl ?_
        exact gd_ireturn rfl rfl rfl (Nat.le_refl 0) (Nat.le_refl 0) rfl
      · refine gy_ite (fun c_1_42 => ?_) (fun c_1_42 => ?_)
        · refine gd_tsIn (q := 141) rfl (by rw [c_1_42]; decide) (by rw [c_1_42]; decide) (by first | (rw [c_1_42]; done) | (rw [c_1_42]; rfl)) rfl ?_
          refine gd_bipush (v := 19) (q := 143) rfl rfl rfl ?_
          exact gd_ireturn rfl rfl rfl (Nat.le_refl 0) (Nat.le_refl 0) rfl
        · refine gy_ite (fun c_1_43 => ?_) (fun c_1_43 => ?_)
          · refine gd_tsIn (q := 135) rfl (by rw [c_1_43]; decide) (by rw [c_1_43]; decide) (by first | (rw [c_1_43]; done) | (rw [c_1_43]; rfl)) rfl ?_
            refine gd_bipush (v := 17) (q := 137) rfl rfl rfl ?_
            exact gd_ireturn rfl rfl rfl (Nat.le_refl 0) (Nat.le_refl 0) rfl
          · refine gy_ite (fun c_1_45 => ?_) (fun c_1_45 => ?_)
            · refine gd_tsIn (q := 138) rfl (by rw [c_1_45]; decide) (by rw [c_1_45]; decide) (by first | (rw [c_1_45]; done) | (rw [c_1_45]; rfl)) rfl ?_
              refine gd_bipush (v := 18) (q := 140) rfl rfl rfl ?_
              exact gd_ireturn rfl rfl rfl (Nat.le_refl 0) (Nat.le_refl 0) rfl
            · refine gy_ite (fun c_1_59 => ?_) (fun c_1_59 => ?_)
              · refine gd_tsIn (q := 132) rfl (by rw [c_1_59]; decide) (by rw [c_1_59]; decide) (by first | (rw [c_1_59]; done) | (rw [c_1_59]; rfl)) rfl ?_
                refine gd_bipush (v := 16) (q := 134) rfl rfl rfl ?_
                exact gd_ireturn rfl rfl rfl (Nat.le_refl 0) (Nat.le_refl 0) rfl
              · refine gy_ite (fun c_1_60 => ?_) (fun c_1_60 => ?_)
                · refine gd_tsIn (q := 174) rfl (by rw [c_1_60]; decide) (by rw [c_1_60]; decide) (by first | (rw [c_1_60]; done) | (rw [c_1_60]; rfl)) rfl ?_
                  refine gd_iload_n (q := 175) rfl rfl rfl ?_
                  refine gy_if_eq (q := 178) (r := 183) rfl rfl rfl (fun c_175 => ?_) (fun c_175 => ?_)
                  · refine gd_bipush (v := 22) (q := 185) rfl rfl rfl ?_
                    exact gd_ireturn rfl rfl rfl (Nat.le_refl 0) (Nat.le_refl 0) rfl
                  · refine gd_bipush (v := 23) (q := 180) rfl rfl rfl ?_
                    refine gd_goto (q := 185) rfl rfl ?_
                    exact gd_ireturn rfl rfl rfl (Nat.le_refl 0) (Nat.le_refl 0) rfl
                · refine gy_ite (fun c_1_61 => ?_) (fun c_1_61 => ?_)
                  · refine gd_tsIn (q := 150) rfl (by rw [c_1_61]; decide) (by rw [c_1_61]; decide) (by first | (rw [c_1_61]; done) | (rw [c_1_61]; rfl)) rfl ?_
                    refine gd_iload_n (q := 151) rfl rfl rfl ?_
                    refine gy_if_eq (q := 154) (r := 159) rfl rfl rfl (fun c_151 => ?_) (fun c_151 => ?_)
                    · refine gd_bipush (v := 27) (q := 161) rfl rfl rfl ?_
                      exact gd_ireturn rfl rfl rfl (Nat.le_refl 0) (Nat.le_refl 0) rfl
                    · refine gd_bipush (v := 20) (q := 156) rfl rfl rfl ?_
                      refine gd_goto (q := 161) rfl rfl ?_
                      exact gd_ireturn rfl rfl rfl (Nat.le_refl 0) (Nat.le_refl 0) rfl
                  · refine gd_tsAny (q := 186) rfl (am_swX6_signOf_1 c_1_33 c_1_40 c_1_41 c_1_42 c_1_43 c_1_45 c_1_59 c_1_60 c_1_61) rfl ?_
                    refine gd_bipush (v := 27) (q := 188) rfl rfl rfl ?_
                    exact gd_ireturn rfl rfl rfl (Nat.le_refl 0) (Nat.le_refl 0) rfl
theorem ct_X6_signOf (f : Nat) (I : am_I) (J : am_J) (Q : am_Q) (hG : Gr Q) (a0 : Int32) (a1 : Int32) : Cm MX6_signOf 0 0 0 92 [.int a0, .int a1] I J Q (am_Fi I J Q (s_X6_signOf a0 a1)) := cm_of (by decide) rfl IX6_signOf_ok (Nat.le_of_ble_eq_true rfl) (gt_X6_signOf f I J Q hG a0 a1)
def s_X6_takeSign_J42 (a1 : Int32)  (t0 : Int32) (t1 : Int32) (I : am_I) : am_I := (if (s_X6_signOf t0 t1) = 20 then (am_w (am_w I 1 3 (s_X6_signOf t0 t1)) 1 2 ((I 1 2) + 1)) else (if (s_X6_signOf t0 t1) = 21 then (am_w (am_w I 1 3 (s_X6_signOf t0 t1)) 1 2 ((I 1 2) + 1)) else (if (s_X6_signOf t0 t1) = 23 then (am_w (am_w I 1 3 (s_X6_signOf t0 t1)) 1 2 ((I 1 2) + 1)) else (am_w I 1 3 (s_X6_signOf t0 t1)))))
def s_X6_takeSign (I : am_I) (a1 : Int32) : am_I := (if (I 1 1) ≤ ((I 1 2) + 1) then (s_X6_takeSign_J42 a1 a1 0 (am_w I 1 2 ((I 1 2) + 1))) else (if (I 2 ((I 1 2) + 1).toNatClampNeg) = 61 then (s_X6_takeSign_J42 a1 a1 1 (am_w I 1 2 ((I 1 2) + 1))) else (s_X6_takeSign_J42 a1 a1 0 (am_w I 1 2 ((I 1 2) + 1)))))
def p_X6_takeSign (I : am_I) (a1 : Int32) : Prop := (if (I 1 1) ≤ ((I 1 2) + 1) then True else vp_in ((I 1 2) + 1) 2000)
set_option maxRecDepth 100000 in
set_option maxHeartbeats 4000000 in
theorem gl_X6_takeSign_42 (a1 : Int32) (f : Nat) (J : am_J) (Q : am_Q) (hG : Gr Q) (t0 : Int32) (t1 : Int32) (I : am_I) : Gd MX6_takeSign (am_o 1 0 0 (am_FvI J Q (s_X6_takeSign_J42 a1 t0 t1 I))) 0 0 92 42 [some (.ref 1), none] [.int t1, .int t0, .ref 1] I J Q := by
  unfold s_X6_takeSign_J42
  refine gd_cSi (q := 45) rfl rfl lk6_70 myX6_signOf sxX6_signOf (ct_X6_signOf f _ _ _ hG _ _) rfl rfl (Nat.le_of_ble_eq_true rfl) ⟨(Nat.le_of_ble_eq_true rfl), (Nat.le_of_ble_eq_true rfl)⟩ ?_
  refine gd_putI (q := 48) rfl rfl rfl (Nat.le_of_ble_eq_true rfl) rfl rfl rfl (Or.inl rfl) ?_
  refine gd_aload_n (q := 49) rfl rfl rfl ?_
  refine gd_getI (q := 52) rfl rfl rfl (Nat.le_of_ble_eq_true rfl) rfl rfl ?_
  refine gd_bipush (v := 20) (q := 54) rfl rfl rfl ?_
  refine gy_icmp_eq (q := 57) (r := 75) rfl rfl rfl (fun c_54 => ?_) (fun c_54 => ?_)
  · refine gd_aload_n (q := 76) rfl rfl rfl ?_
    refine gd_dup (q := 77) rfl rfl rfl ?_
    refine gd_getI (q := 80) rfl rfl rfl (Nat.le_of_ble_eq_true rfl) rfl rfl ?_
    refine gd_iconst (v := 1) (q := 81) rfl rfl rfl ?_
    refine gd_iadd (q := 82) rfl rfl ?_
    refine gd_putI (q := 85) rfl rfl rfl (Nat.le_of_ble_eq_true rfl) rfl rfl rfl (Or.inl rfl) ?_
    exact gd_return rfl rfl (Nat.le_refl 0) (Nat.le_refl 0) rfl
  · refine gd_aload_n (q := 58) rfl rfl rfl ?_
    refine gd_getI (q := 61) rfl rfl rfl (Nat.le_of_ble_eq_true rfl) rfl rfl ?_
    refine gd_bipush (v := 21) (q := 63) rfl rfl rfl ?_
    refine gy_icmp_eq (q := 66) (r := 75) rfl rfl rfl (fun c_63 => ?_) (fun c_63 => ?_)
    · refine gd_aload_n (q := 76) rfl rfl rfl ?_
      refine gd_dup (q := 77) rfl rfl rfl ?_
      refine gd_getI (q := 80) rfl rfl rfl (Nat.le_of_ble_eq_true rfl) rfl rfl ?_
      refine gd_iconst (v := 1) (q := 81) rfl rfl rfl ?_
      refine gd_iadd (q := 82) rfl rfl ?_
      refine gd_putI (q := 85) rfl rfl rfl (Nat.le_of_ble_eq_true rfl) rfl rfl rfl (Or.inl rfl) ?_
      exact gd_return rfl rfl (Nat.le_refl 0) (Nat.le_refl 0) rfl
    · refine gd_aload_n (q := 67) rfl rfl rfl ?_
      refine gd_getI (q := 70) rfl rfl rfl (Nat.le_of_ble_eq_true rfl) rfl rfl ?_
      refine gd_bipush (v := 23) (q := 72) rfl rfl rfl ?_
      refine gy_icmp_ne (q := 75) (r := 85) rfl rfl rfl (fun c_72 => ?_) (fun c_72 => ?_)
      · refine gd_aload_n (q := 76) rfl rfl rfl ?_
        refine gd_dup (q := 77) rfl rfl rfl ?_
        refine gd_getI (q := 80) rfl rfl rfl (Nat.le_of_ble_eq_true rfl) rfl rfl ?_
        refine gd_iconst (v := 1) (q := 81) rfl rfl rfl ?_
        refine gd_iadd (q := 82) rfl rfl ?_
        refine gd_putI (q := 85) rfl rfl rfl (Nat.le_of_ble_eq_true rfl) rfl rfl rfl (Or.inl rfl) ?_
        exact gd_return rfl rfl (Nat.le_refl 0) (Nat.le_refl 0) rfl
      · exact gd_return rfl rfl (Nat.le_refl 0) (Nat.le_refl 0) rfl
set_option maxRecDepth 100000 in
set_option maxHeartbeats 4000000 in
theorem gt_X6_takeSign (f : Nat) (I : am_I) (J : am_J) (Q : am_Q) (hG : Gr Q) (a1 : Int32) (hp : p_X6_takeSign I a1) : Gd MX6_takeSign (am_o 1 0 0 (am_FvI J Q (s_X6_takeSign I a1))) 0 0 92 0 [some (.ref 1), some (.int a1)] [] I J Q := by
  unfold s_X6_takeSign
  unfold p_X6_takeSign at hp
  refine gd_aload_n (q := 1) rfl rfl rfl ?_
  refine gd_dup (q := 2) rfl rfl rfl ?_
  refine gd_getI (q := 5) rfl rfl rfl (Nat.le_of_ble_eq_true rfl) rfl rfl ?_
  refine gd_iconst (v := 1) (q := 6) rfl rfl rfl ?_
  refine gd_iadd (q := 7) rfl rfl ?_
  refine gd_putI (q := 10) rfl rfl rfl (Nat.le_of_ble_eq_true rfl) rfl rfl rfl (Or.inl rfl) ?_
  refine gd_aload_n (q := 11) rfl rfl rfl ?_
  refine gd_iload_n (q := 12) rfl rfl rfl ?_
  refine gd_aload_n (q := 13) rfl rfl rfl ?_
  refine gd_getI (q := 16) rfl rfl rfl (Nat.le_of_ble_eq_true rfl) rfl rfl ?_
  refine gd_aload_n (q := 17) rfl rfl rfl ?_
  refine gd_getI (q := 20) rfl rfl rfl (Nat.le_of_ble_eq_true rfl) rfl rfl ?_
  refine gx_icmp_ge (q := 23) (r := 41) rfl rfl rfl hp (fun c_20 hp => ?_) (fun c_20 hp => ?_)
  · refine gd_iconst (v := 0) (q := 42) rfl rfl rfl ?_
    refine gd_drop 1 ?_
    exact gl_X6_takeSign_42 a1 f J Q hG _ 0 _
  · refine gd_aload_n (q := 24) rfl rfl rfl ?_
    refine gd_getR (q := 27) (r := 2) rfl rfl rfl (Nat.le_of_ble_eq_true rfl) rfl rfl (gr_1_0 hG) ?_
    refine gd_aload_n (q := 28) rfl rfl rfl ?_
    refine gd_getI (q := 31) rfl rfl rfl (Nat.le_of_ble_eq_true rfl) rfl rfl ?_
    refine gd_bald (q := 32) rfl rfl (Nat.le_of_ble_eq_true rfl) rfl hp ?_
    refine gd_bipush (v := 61) (q := 34) rfl rfl rfl ?_
    refine gy_icmp_ne (q := 37) (r := 41) rfl rfl rfl (fun c_34 => ?_) (fun c_34 => ?_)
    · refine gd_iconst (v := 1) (q := 38) rfl rfl rfl ?_
      refine gd_goto (q := 42) rfl rfl ?_
      refine gd_drop 1 ?_
      exact gl_X6_takeSign_42 a1 f J Q hG _ _ _
    · refine gd_iconst (v := 0) (q := 42) rfl rfl rfl ?_
      refine gd_drop 1 ?_
      exact gl_X6_takeSign_42 a1 f J Q hG _ 0 _
theorem ct_X6_takeSign (f : Nat) (I : am_I) (J : am_J) (Q : am_Q) (hG : Gr Q) (a1 : Int32) (hp : p_X6_takeSign I a1) : Cm MX6_takeSign 1 0 0 92 [.ref 1, .int a1] I J Q (am_FvI J Q (s_X6_takeSign I a1)) := cm_of (by decide) rfl IX6_takeSign_ok (Nat.le_of_ble_eq_true rfl) (gt_X6_takeSign f I J Q hG a1 hp)
def s_X6_takeInt_L0   : Nat → am_I → am_I
  | 0, I => I
  | g + 1, I => (if (I 1 1) ≤ (I 1 2) then (if ((I 1 2) - (I 1 4)) ≤ 4 then (am_w I 1 3 15) else (am_w I 1 3 27)) else (if (s_X6_isDigit (I 2 (I 1 2).toNatClampNeg)) = 0 then (if ((I 1 2) - (I 1 4)) ≤ 4 then (am_w I 1 3 15) else (am_w I 1 3 27)) else (s_X6_takeInt_L0 g (am_w (am_w I 1 5 (((I 1 5) * 10) + ((I 2 (I 1 2).toNatClampNeg) - 48))) 1 2 ((I 1 2) + 1)))))
def p_X6_takeInt_L0   : Nat → am_I → Prop
  | 0, _ => False
  | g + 1, I => (if (I 1 1) ≤ (I 1 2) then True else (vp_in (I 1 2) 2000 ∧ (if (s_X6_isDigit (I 2 (I 1 2).toNatClampNeg)) = 0 then True else (vp_in (I 1 2) 2000 ∧ (p_X6_takeInt_L0 g (am_w (am_w I 1 5 (((I 1 5) * 10) + ((I 2 (I 1 2).toNatClampNeg) - 48))) 1 2 ((I 1 2) + 1)))))))
def s_X6_takeInt (f : Nat) (I : am_I)  : am_I := (if (I 1 1) ≤ (I 1 2) then (if ((I 1 2) - (I 1 4)) ≤ 4 then (am_w I 1 3 15) else (am_w I 1 3 27)) else (if (s_X6_isDigit (I 2 (I 1 2).toNatClampNeg)) = 0 then (if ((I 1 2) - (I 1 4)) ≤ 4 then (am_w I 1 3 15) else (am_w I 1 3 27)) else (s_X6_takeInt_L0 f (am_w (am_w I 1 5 (((I 1 5) * 10) + ((I 2 (I 1 2).toNatClampNeg) - 48))) 1 2 ((I 1 2) + 1)))))
def p_X6_takeInt (f : Nat) (I : am_I)  : Prop := (if (I 1 1) ≤ (I 1 2) then True else (vp_in (I 1 2) 2000 ∧ (if (s_X6_isDigit (I 2 (I 1 2).toNatClampNeg)) = 0 then True else (vp_in (I 1 2) 2000 ∧ (p_X6_takeInt_L0 f (am_w (am_w I 1 5 (((I 1 5) * 10) + ((I 2 (I 1 2).toNatClampNeg) - 48))) 1 2 ((I 1 2) + 1)))))))
set_option maxRecDepth 100000 in
set_option maxHeartbeats 4000000 in
theorem gl_X6_takeInt_L0  (f : Nat) (J : am_J) (Q : am_Q) (hG : Gr Q) : ∀ g : Nat, (∀ (I : am_I), p_X6_takeInt_L0 g I → Gd MX6_takeInt (am_o 1 0 0 (am_FvI J Q (s_X6_takeInt_L0 g I))) 0 0 92 0 [some (.ref 1)] [] I J Q) := by
  intro g
  induction g with
  | zero => exact fun _ hp => False.elim hp
  | succ g ih =>
    have ih_0 := ih
    intro I hp
    rw [s_X6_takeInt_L0]
    rw [p_X6_takeInt_L0] at hp
    refine gd_aload_n (q := 1) rfl rfl rfl ?_
    refine gd_getI (q := 4) rfl rfl rfl (Nat.le_of_ble_eq_true rfl) rfl rfl ?_
    refine gd_aload_n (q := 5) rfl rfl rfl ?_
    refine gd_getI (q := 8) rfl rfl rfl (Nat.le_of_ble_eq_true rfl) rfl rfl ?_
    refine gx_icmp_ge (q := 11) (r := 63) rfl rfl rfl hp (fun c_8 hp => ?_) (fun c_8 hp => ?_)
    · refine gd_aload_n (q := 64) rfl rfl rfl ?_
      refine gd_aload_n (q := 65) rfl rfl rfl ?_
      refine gd_getI (q := 68) rfl rfl rfl (Nat.le_of_ble_eq_true rfl) rfl rfl ?_
      refine gd_aload_n (q := 69) rfl rfl rfl ?_
      refine gd_getI (q := 72) rfl rfl rfl (Nat.le_of_ble_eq_true rfl) rfl rfl ?_
      refine gd_isub (q := 73) rfl rfl ?_
      refine gd_iconst (v := 4) (q := 74) rfl rfl rfl ?_
      refine gy_icmp_le (q := 77) (r := 82) rfl rfl rfl (fun c_74 => ?_) (fun c_74 => ?_)
      · refine gd_bipush (v := 15) (q := 84) rfl rfl rfl ?_
        refine gd_putI (q := 87) rfl rfl rfl (Nat.le_of_ble_eq_true rfl) rfl rfl rfl (Or.inl rfl) ?_
        exact gd_return rfl rfl (Nat.le_refl 0) (Nat.le_refl 0) rfl
      · refine gd_bipush (v := 27) (q := 79) rfl rfl rfl ?_
        refine gd_goto (q := 84) rfl rfl ?_
        refine gd_putI (q := 87) rfl rfl rfl (Nat.le_of_ble_eq_true rfl) rfl rfl rfl (Or.inl rfl) ?_
        exact gd_return rfl rfl (Nat.le_refl 0) (Nat.le_refl 0) rfl
    · refine gd_aload_n (q := 12) rfl rfl rfl ?_
      refine gd_getR (q := 15) (r := 2) rfl rfl rfl (Nat.le_of_ble_eq_true rfl) rfl rfl (gr_1_0 hG) ?_
      refine gd_aload_n (q := 16) rfl rfl rfl ?_
      refine gd_getI (q := 19) rfl rfl rfl (Nat.le_of_ble_eq_true rfl) rfl rfl ?_
      refine gd_bald (q := 20) rfl rfl (Nat.le_of_ble_eq_true rfl) rfl hp.1 ?_
      replace hp := hp.2
      refine gd_cSi (q := 23) rfl rfl lk6_45 myX6_isDigit sxX6_isDigit (ct_X6_isDigit f _ _ _ hG _) rfl rfl (Nat.le_of_ble_eq_true rfl) ⟨(Nat.le_of_ble_eq_true rfl), (Nat.le_of_ble_eq_true rfl)⟩ ?_
      refine gx_if_eq (q := 26) (r := 63) rfl rfl rfl hp (fun c_23 hp => ?_) (fun c_23 hp => ?_)
      · refine gd_aload_n (q := 64) rfl rfl rfl ?_
        refine gd_aload_n (q := 65) rfl rfl rfl ?_
        refine gd_getI (q := 68) rfl rfl rfl (Nat.le_of_ble_eq_true rfl) rfl rfl ?_
        refine gd_aload_n (q := 69) rfl rfl rfl ?_
        refine gd_getI (q := 72) rfl rfl rfl (Nat.le_of_ble_eq_true rfl) rfl rfl ?_
        refine gd_isub (q := 73) rfl rfl ?_
        refine gd_iconst (v := 4) (q := 74) rfl rfl rfl ?_
        refine gy_icmp_le (q := 77) (r := 82) rfl rfl rfl (fun c_74 => ?_) (fun c_74 => ?_)
        · refine gd_bipush (v := 15) (q := 84) rfl rfl rfl ?_
          refine gd_putI (q := 87) rfl rfl rfl (Nat.le_of_ble_eq_true rfl) rfl rfl rfl (Or.inl rfl) ?_
          exact gd_return rfl rfl (Nat.le_refl 0) (Nat.le_refl 0) rfl
        · refine gd_bipush (v := 27) (q := 79) rfl rfl rfl ?_
          refine gd_goto (q := 84) rfl rfl ?_
          refine gd_putI (q := 87) rfl rfl rfl (Nat.le_of_ble_eq_true rfl) rfl rfl rfl (Or.inl rfl) ?_
          exact gd_return rfl rfl (Nat.le_refl 0) (Nat.le_refl 0) rfl
      · refine gd_aload_n (q := 27) rfl rfl rfl ?_
        refine gd_aload_n (q := 28) rfl rfl rfl ?_
        refine gd_getI (q := 31) rfl rfl rfl (Nat.le_of_ble_eq_true rfl) rfl rfl ?_
        refine gd_bipush (v := 10) (q := 33) rfl rfl rfl ?_
        refine gd_imul (q := 34) rfl rfl ?_
        refine gd_aload_n (q := 35) rfl rfl rfl ?_
        refine gd_getR (q := 38) (r := 2) rfl rfl rfl (Nat.le_of_ble_eq_true rfl) rfl rfl (gr_1_0 hG) ?_
        refine gd_aload_n (q := 39) rfl rfl rfl ?_
        refine gd_getI (q := 42) rfl rfl rfl (Nat.le_of_ble_eq_true rfl) rfl rfl ?_
        refine gd_bald (q := 43) rfl rfl (Nat.le_of_ble_eq_true rfl) rfl hp.1 ?_
        replace hp := hp.2
        refine gd_bipush (v := 48) (q := 45) rfl rfl rfl ?_
        refine gd_isub (q := 46) rfl rfl ?_
        refine gd_iadd (q := 47) rfl rfl ?_
        refine gd_putI (q := 50) rfl rfl rfl (Nat.le_of_ble_eq_true rfl) rfl rfl rfl (Or.inl rfl) ?_
        refine gd_aload_n (q := 51) rfl rfl rfl ?_
        refine gd_dup (q := 52) rfl rfl rfl ?_
        refine gd_getI (q := 55) rfl rfl rfl (Nat.le_of_ble_eq_true rfl) rfl rfl ?_
        refine gd_iconst (v := 1) (q := 56) rfl rfl rfl ?_
        refine gd_iadd (q := 57) rfl rfl ?_
        refine gd_putI (q := 60) rfl rfl rfl (Nat.le_of_ble_eq_true rfl) rfl rfl rfl (Or.inl rfl) ?_
        refine gd_goto (q := 0) rfl rfl ?_
        exact ih_0 _ hp
theorem gl_X6_takeInt_0  (f : Nat) (J : am_J) (Q : am_Q) (hG : Gr Q) (g : Nat) : ∀ (I : am_I), p_X6_takeInt_L0 g I → Gd MX6_takeInt (am_o 1 0 0 (am_FvI J Q (s_X6_takeInt_L0 g I))) 0 0 92 0 [some (.ref 1)] [] I J Q := (gl_X6_takeInt_L0 f J Q hG g)
set_option maxRecDepth 100000 in
set_option maxHeartbeats 4000000 in
theorem gt_X6_takeInt (f : Nat) (I : am_I) (J : am_J) (Q : am_Q) (hG : Gr Q)  (hp : p_X6_takeInt f I) : Gd MX6_takeInt (am_o 1 0 0 (am_FvI J Q (s_X6_takeInt f I))) 0 0 92 0 [some (.ref 1)] [] I J Q := by
  unfold s_X6_takeInt
  unfold p_X6_takeInt at hp
  refine gd_aload_n (q := 1) rfl rfl rfl ?_
  refine gd_getI (q := 4) rfl rfl rfl (Nat.le_of_ble_eq_true rfl) rfl rfl ?_
  refine gd_aload_n (q := 5) rfl rfl rfl ?_
  refine gd_getI (q := 8) rfl rfl rfl (Nat.le_of_ble_eq_true rfl) rfl rfl ?_
  refine gx_icmp_ge (q := 11) (r := 63) rfl rfl rfl hp (fun c_8 hp => ?_) (fun c_8 hp => ?_)
  · refine gd_aload_n (q := 64) rfl rfl rfl ?_
    refine gd_aload_n (q := 65) rfl rfl rfl ?_
    refine gd_getI (q := 68) rfl rfl rfl (Nat.le_of_ble_eq_true rfl) rfl rfl ?_
    refine gd_aload_n (q := 69) rfl rfl rfl ?_
    refine gd_getI (q := 72) rfl rfl rfl (Nat.le_of_ble_eq_true rfl) rfl rfl ?_
    refine gd_isub (q := 73) rfl rfl ?_
    refine gd_iconst (v := 4) (q := 74) rfl rfl rfl ?_
    refine gy_icmp_le (q := 77) (r := 82) rfl rfl rfl (fun c_74 => ?_) (fun c_74 => ?_)
    · refine gd_bipush (v := 15) (q := 84) rfl rfl rfl ?_
      refine gd_putI (q := 87) rfl rfl rfl (Nat.le_of_ble_eq_true rfl) rfl rfl rfl (Or.inl rfl) ?_
      exact gd_return rfl rfl (Nat.le_refl 0) (Nat.le_refl 0) rfl
    · refine gd_bipush (v := 27) (q := 79) rfl rfl rfl ?_
      refine gd_goto (q := 84) rfl rfl ?_
      refine gd_putI (q := 87) rfl rfl rfl (Nat.le_of_ble_eq_true rfl) rfl rfl rfl (Or.inl rfl) ?_
      exact gd_return rfl rfl (Nat.le_refl 0) (Nat.le_refl 0) rfl
  · refine gd_aload_n (q := 12) rfl rfl rfl ?_
    refine gd_getR (q := 15) (r := 2) rfl rfl rfl (Nat.le_of_ble_eq_true rfl) rfl rfl (gr_1_0 hG) ?_
    refine gd_aload_n (q := 16) rfl rfl rfl ?_
    refine gd_getI (q := 19) rfl rfl rfl (Nat.le_of_ble_eq_true rfl) rfl rfl ?_
    refine gd_bald (q := 20) rfl rfl (Nat.le_of_ble_eq_true rfl) rfl hp.1 ?_
    replace hp := hp.2
    refine gd_cSi (q := 23) rfl rfl lk6_45 myX6_isDigit sxX6_isDigit (ct_X6_isDigit f _ _ _ hG _) rfl rfl (Nat.le_of_ble_eq_true rfl) ⟨(Nat.le_of_ble_eq_true rfl), (Nat.le_of_ble_eq_true rfl)⟩ ?_
    refine gx_if_eq (q := 26) (r := 63) rfl rfl rfl hp (fun c_23 hp => ?_) (fun c_23 hp => ?_)
    · refine gd_aload_n (q := 64) rfl rfl rfl ?_
      refine gd_aload_n (q := 65) rfl rfl rfl ?_
      refine gd_getI (q := 68) rfl rfl rfl (Nat.le_of_ble_eq_true rfl) rfl rfl ?_
      refine gd_aload_n (q := 69) rfl rfl rfl ?_
      refine gd_getI (q := 72) rfl rfl rfl (Nat.le_of_ble_eq_true rfl) rfl rfl ?_
      refine gd_isub (q := 73) rfl rfl ?_
      refine gd_iconst (v := 4) (q := 74) rfl rfl rfl ?_
      refine gy_icmp_le (q := 77) (r := 82) rfl rfl rfl (fun c_74 => ?_) (fun c_74 => ?_)
      · refine gd_bipush (v := 15) (q := 84) rfl rfl rfl ?_
        refine gd_putI (q := 87) rfl rfl rfl (Nat.le_of_ble_eq_true rfl) rfl rfl rfl (Or.inl rfl) ?_
        exact gd_return rfl rfl (Nat.le_refl 0) (Nat.le_refl 0) rfl
      · refine gd_bipush (v := 27) (q := 79) rfl rfl rfl ?_
        refine gd_goto (q := 84) rfl rfl ?_
        refine gd_putI (q := 87) rfl rfl rfl (Nat.le_of_ble_eq_true rfl) rfl rfl rfl (Or.inl rfl) ?_
        exact gd_return rfl rfl (Nat.le_refl 0) (Nat.le_refl 0) rfl
    · refine gd_aload_n (q := 27) rfl rfl rfl ?_
      refine gd_aload_n (q := 28) rfl rfl rfl ?_
      refine gd_getI (q := 31) rfl rfl rfl (Nat.le_of_ble_eq_true rfl) rfl rfl ?_
      refine gd_bipush (v := 10) (q := 33) rfl rfl rfl ?_
      refine gd_imul (q := 34) rfl rfl ?_
      refine gd_aload_n (q := 35) rfl rfl rfl ?_
      refine gd_getR (q := 38) (r := 2) rfl rfl rfl (Nat.le_of_ble_eq_true rfl) rfl rfl (gr_1_0 hG) ?_
      refine gd_aload_n (q := 39) rfl rfl rfl ?_
      refine gd_getI (q := 42) rfl rfl rfl (Nat.le_of_ble_eq_true rfl) rfl rfl ?_
      refine gd_bald (q := 43) rfl rfl (Nat.le_of_ble_eq_true rfl) rfl hp.1 ?_
      replace hp := hp.2
      refine gd_bipush (v := 48) (q := 45) rfl rfl rfl ?_
      refine gd_isub (q := 46) rfl rfl ?_
      refine gd_iadd (q := 47) rfl rfl ?_
      refine gd_putI (q := 50) rfl rfl rfl (Nat.le_of_ble_eq_true rfl) rfl rfl rfl (Or.inl rfl) ?_
      refine gd_aload_n (q := 51) rfl rfl rfl ?_
      refine gd_dup (q := 52) rfl rfl rfl ?_
      refine gd_getI (q := 55) rfl rfl rfl (Nat.le_of_ble_eq_true rfl) rfl rfl ?_
      refine gd_iconst (v := 1) (q := 56) rfl rfl rfl ?_
      refine gd_iadd (q := 57) rfl rfl ?_
      refine gd_putI (q := 60) rfl rfl rfl (Nat.le_of_ble_eq_true rfl) rfl rfl rfl (Or.inl rfl) ?_
      refine gd_goto (q := 0) rfl rfl ?_
      exact gl_X6_takeInt_0 f J Q hG f _ hp
theorem ct_X6_takeInt (f : Nat) (I : am_I) (J : am_J) (Q : am_Q) (hG : Gr Q)  (hp : p_X6_takeInt f I) : Cm MX6_takeInt 1 0 0 92 [.ref 1] I J Q (am_FvI J Q (s_X6_takeInt f I)) := cm_of (by decide) rfl IX6_takeInt_ok (Nat.le_of_ble_eq_true rfl) (gt_X6_takeInt f I J Q hG hp)
def s_X6_wordOf_L11 (a1 : Int32) (a2 : Int32) (I : am_I) : Nat → Int32 → Int32 → Int32 → Int32 → Int32
  | 0, _, _, _, _ => 0
  | g + 1, v3, v4, v5, v6 => (if 61 ≤ v6 then 14 else (if (am_chr v6) = 32 then (if v5 = 0 then (s_X6_wordOf_L11 a1 a2 I g (v3 + 1) a1 1 (v6 + 1)) else (if v4 = a2 then v3 else (s_X6_wordOf_L11 a1 a2 I g (v3 + 1) a1 1 (v6 + 1)))) else (if v5 = 0 then (s_X6_wordOf_L11 a1 a2 I g v3 (v4 + 1) 0 (v6 + 1)) else (if a2 ≤ v4 then (s_X6_wordOf_L11 a1 a2 I g v3 (v4 + 1) 0 (v6 + 1)) else (if (I 2 v4.toNatClampNeg) = (am_chr v6) then (s_X6_wordOf_L11 a1 a2 I g v3 (v4 + 1) 1 (v6 + 1)) else (s_X6_wordOf_L11 a1 a2 I g v3 (v4 + 1) 0 (v6 + 1)))))))
def p_X6_wordOf_L11 (a1 : Int32) (a2 : Int32) (I : am_I) : Nat → Int32 → Int32 → Int32 → Int32 → Prop
  | 0, _, _, _, _ => False
  | g + 1, v3, v4, v5, v6 => (if 61 ≤ v6 then True else (vp_in v6 61 ∧ (if (am_chr v6) = 32 then (if v5 = 0 then (p_X6_wordOf_L11 a1 a2 I g (v3 + 1) a1 1 (v6 + 1)) else (if v4 = a2 then True else (p_X6_wordOf_L11 a1 a2 I g (v3 + 1) a1 1 (v6 + 1)))) else (if v5 = 0 then (p_X6_wordOf_L11 a1 a2 I g v3 (v4 + 1) 0 (v6 + 1)) else (if a2 ≤ v4 then (p_X6_wordOf_L11 a1 a2 I g v3 (v4 + 1) 0 (v6 + 1)) else (vp_in v4 2000 ∧ (if (I 2 v4.toNatClampNeg) = (am_chr v6) then (p_X6_wordOf_L11 a1 a2 I g v3 (v4 + 1) 1 (v6 + 1)) else (p_X6_wordOf_L11 a1 a2 I g v3 (v4 + 1) 0 (v6 + 1)))))))))
def s_X6_wordOf (f : Nat) (I : am_I) (a1 : Int32) (a2 : Int32) : Int32 := (s_X6_wordOf_L11 a1 a2 I f 0 a1 1 0)
def p_X6_wordOf (f : Nat) (I : am_I) (a1 : Int32) (a2 : Int32) : Prop := (p_X6_wordOf_L11 a1 a2 I f 0 a1 1 0)
set_option maxRecDepth 100000 in
set_option maxHeartbeats 4000000 in
theorem gl_X6_wordOf_L11 (a1 : Int32) (a2 : Int32) (f : Nat) (I : am_I) (J : am_J) (Q : am_Q) (hG : Gr Q) : ∀ g : Nat, (∀ (v3 : Int32) (v4 : Int32) (v5 : Int32) (v6 : Int32), p_X6_wordOf_L11 a1 a2 I g v3 v4 v5 v6 → Gd MX6_wordOf (am_o 5 0 0 (am_Fi I J Q (s_X6_wordOf_L11 a1 a2 I g v3 v4 v5 v6))) 0 0 92 11 [some (.ref 1), some (.int a1), some (.int a2), some (.int v3), some (.int v4), some (.int v5), some (.int v6), none] [] I J Q) := by
  intro g
  induction g with
  | zero => exact fun _ _ _ _ hp => False.elim hp
  | succ g ih =>
    have ih_11 := ih
    intro v3 v4 v5 v6 hp
    rw [s_X6_wordOf_L11]
    rw [p_X6_wordOf_L11] at hp
    refine gd_iload (q := 13) rfl rfl rfl ?_
    refine gd_wlen (q := 18) rfl rfl rfl rfl (Nat.le_of_ble_eq_true rfl) ⟨(Nat.le_of_ble_eq_true rfl), (Nat.le_of_ble_eq_true rfl)⟩ ⟨Nat.le_refl 0, Nat.le_refl 0⟩ ?_
    refine gx_icmp_ge (q := 21) (r := 101) rfl rfl rfl hp (fun c_18 hp => ?_) (fun c_18 hp => ?_)
    · refine gd_bipush (v := 14) (q := 103) rfl rfl rfl ?_
      exact gd_ireturn rfl rfl rfl (Nat.le_refl 0) (Nat.le_refl 0) rfl
    · refine gd_wchr (q := 28) rfl rfl rfl rfl rfl rfl (Nat.le_of_ble_eq_true rfl) ⟨(Nat.le_of_ble_eq_true rfl), (Nat.le_of_ble_eq_true rfl)⟩ ⟨Nat.le_refl 0, Nat.le_refl 0⟩ hp.1 ?_
      replace hp := hp.2
      refine gd_istore (q := 30) rfl rfl (Nat.le_of_ble_eq_true rfl) rfl ?_
      refine gd_iload (q := 32) rfl rfl rfl ?_
      refine gd_bipush (v := 32) (q := 34) rfl rfl rfl ?_
      refine gx_icmp_eq (q := 37) (r := 73) rfl rfl rfl hp (fun c_34 hp => ?_) (fun c_34 hp => ?_)
      · refine gd_iload (q := 75) rfl rfl rfl ?_
        refine gx_if_eq (q := 78) (r := 86) rfl rfl rfl hp (fun c_75 hp => ?_) (fun c_75 hp => ?_)
        · refine gd_iinc (v := (v3 + 1)) (q := 89) rfl rfl rfl rfl (Nat.le_of_ble_eq_true rfl) rfl ?_
          refine gd_iload_n (q := 90) rfl rfl rfl ?_
          refine gd_istore (q := 92) rfl rfl (Nat.le_of_ble_eq_true rfl) rfl ?_
          refine gd_iconst (v := 1) (q := 93) rfl rfl rfl ?_
          refine gd_istore (q := 95) rfl rfl (Nat.le_of_ble_eq_true rfl) rfl ?_
          refine gd_iinc (v := (v6 + 1)) (q := 98) rfl rfl rfl rfl (Nat.le_of_ble_eq_true rfl) rfl ?_
          refine gd_goto (q := 11) rfl rfl ?_
          refine gd_drop 7 ?_
          exact ih_11 _ _ _ _ hp
        · refine gd_iload (q := 80) rfl rfl rfl ?_
          refine gd_iload_n (q := 81) rfl rfl rfl ?_
          refine gx_icmp_ne (q := 84) (r := 86) rfl rfl rfl hp (fun c_81 hp => ?_) (fun c_81 hp => ?_)
          · refine gd_iload_n (q := 85) rfl rfl rfl ?_
            exact gd_ireturn rfl rfl rfl (Nat.le_refl 0) (Nat.le_refl 0) rfl
          · refine gd_iinc (v := (v3 + 1)) (q := 89) rfl rfl rfl rfl (Nat.le_of_ble_eq_true rfl) rfl ?_
            refine gd_iload_n (q := 90) rfl rfl rfl ?_
            refine gd_istore (q := 92) rfl rfl (Nat.le_of_ble_eq_true rfl) rfl ?_
            refine gd_iconst (v := 1) (q := 93) rfl rfl rfl ?_
            refine gd_istore (q := 95) rfl rfl (Nat.le_of_ble_eq_true rfl) rfl ?_
            refine gd_iinc (v := (v6 + 1)) (q := 98) rfl rfl rfl rfl (Nat.le_of_ble_eq_true rfl) rfl ?_
            refine gd_goto (q := 11) rfl rfl ?_
            refine gd_drop 7 ?_
            exact ih_11 _ _ _ _ hp
      · refine gd_iload (q := 39) rfl rfl rfl ?_
        refine gx_if_eq (q := 42) (r := 64) rfl rfl rfl hp (fun c_39 hp => ?_) (fun c_39 hp => ?_)
        · refine gd_iconst (v := 0) (q := 65) rfl rfl rfl ?_
          refine gd_istore (q := 67) rfl rfl (Nat.le_of_ble_eq_true rfl) rfl ?_
          refine gd_iinc (v := (v4 + 1)) (q := 70) rfl rfl rfl rfl (Nat.le_of_ble_eq_true rfl) rfl ?_
          refine gd_goto (q := 95) rfl rfl ?_
          refine gd_iinc (v := (v6 + 1)) (q := 98) rfl rfl rfl rfl (Nat.le_of_ble_eq_true rfl) rfl ?_
          refine gd_goto (q := 11) rfl rfl ?_
          refine gd_drop 7 ?_
          exact ih_11 _ _ 0 _ hp
        · refine gd_iload (q := 44) rfl rfl rfl ?_
          refine gd_iload_n (q := 45) rfl rfl rfl ?_
          refine gx_icmp_ge (q := 48) (r := 64) rfl rfl rfl hp (fun c_45 hp => ?_) (fun c_45 hp => ?_)
          · refine gd_iconst (v := 0) (q := 65) rfl rfl rfl ?_
            refine gd_istore (q := 67) rfl rfl (Nat.le_of_ble_eq_true rfl) rfl ?_
            refine gd_iinc (v := (v4 + 1)) (q := 70) rfl rfl rfl rfl (Nat.le_of_ble_eq_true rfl) rfl ?_
            refine gd_goto (q := 95) rfl rfl ?_
            refine gd_iinc (v := (v6 + 1)) (q := 98) rfl rfl rfl rfl (Nat.le_of_ble_eq_true rfl) rfl ?_
            refine gd_goto (q := 11) rfl rfl ?_
            refine gd_drop 7 ?_
            exact ih_11 _ _ 0 _ hp
          · refine gd_aload_n (q := 49) rfl rfl rfl ?_
            refine gd_getR (q := 52) (r := 2) rfl rfl rfl (Nat.le_of_ble_eq_true rfl) rfl rfl (gr_1_0 hG) ?_
            refine gd_iload (q := 54) rfl rfl rfl ?_
            refine gd_bald (q := 55) rfl rfl (Nat.le_of_ble_eq_true rfl) rfl hp.1 ?_
            replace hp := hp.2
            refine gd_iload (q := 57) rfl rfl rfl ?_
            refine gx_icmp_ne (q := 60) (r := 64) rfl rfl rfl hp (fun c_57 hp => ?_) (fun c_57 hp => ?_)
            · refine gd_iconst (v := 1) (q := 61) rfl rfl rfl ?_
              refine gd_goto (q := 65) rfl rfl ?_
              refine gd_istore (q := 67) rfl rfl (Nat.le_of_ble_eq_true rfl) rfl ?_
              refine gd_iinc (v := (v4 + 1)) (q := 70) rfl rfl rfl rfl (Nat.le_of_ble_eq_true rfl) rfl ?_
              refine gd_goto (q := 95) rfl rfl ?_
              refine gd_iinc (v := (v6 + 1)) (q := 98) rfl rfl rfl rfl (Nat.le_of_ble_eq_true rfl) rfl ?_
              refine gd_goto (q := 11) rfl rfl ?_
              refine gd_drop 7 ?_
              exact ih_11 _ _ _ _ hp
            · refine gd_iconst (v := 0) (q := 65) rfl rfl rfl ?_
              refine gd_istore (q := 67) rfl rfl (Nat.le_of_ble_eq_true rfl) rfl ?_
              refine gd_iinc (v := (v4 + 1)) (q := 70) rfl rfl rfl rfl (Nat.le_of_ble_eq_true rfl) rfl ?_
              refine gd_goto (q := 95) rfl rfl ?_
              refine gd_iinc (v := (v6 + 1)) (q := 98) rfl rfl rfl rfl (Nat.le_of_ble_eq_true rfl) rfl ?_
              refine gd_goto (q := 11) rfl rfl ?_
              refine gd_drop 7 ?_
              exact ih_11 _ _ 0 _ hp
theorem gl_X6_wordOf_11 (a1 : Int32) (a2 : Int32) (f : Nat) (I : am_I) (J : am_J) (Q : am_Q) (hG : Gr Q) (g : Nat) : ∀ (v3 : Int32) (v4 : Int32) (v5 : Int32) (v6 : Int32), p_X6_wordOf_L11 a1 a2 I g v3 v4 v5 v6 → Gd MX6_wordOf (am_o 5 0 0 (am_Fi I J Q (s_X6_wordOf_L11 a1 a2 I g v3 v4 v5 v6))) 0 0 92 11 [some (.ref 1), some (.int a1), some (.int a2), some (.int v3), some (.int v4), some (.int v5), some (.int v6), none] [] I J Q := (gl_X6_wordOf_L11 a1 a2 f I J Q hG g)
set_option maxRecDepth 100000 in
set_option maxHeartbeats 4000000 in
theorem gt_X6_wordOf (f : Nat) (I : am_I) (J : am_J) (Q : am_Q) (hG : Gr Q) (a1 : Int32) (a2 : Int32) (hp : p_X6_wordOf f I a1 a2) : Gd MX6_wordOf (am_o 5 0 0 (am_Fi I J Q (s_X6_wordOf f I a1 a2))) 0 0 92 0 [some (.ref 1), some (.int a1), some (.int a2), none, none, none, none, none] [] I J Q := by
  unfold s_X6_wordOf
  unfold p_X6_wordOf at hp
  refine gd_iconst (v := 0) (q := 1) rfl rfl rfl ?_
  refine gd_istore_n (q := 2) rfl rfl (Nat.le_of_ble_eq_true rfl) rfl ?_
  refine gd_iload_n (q := 3) rfl rfl rfl ?_
  refine gd_istore (q := 5) rfl rfl (Nat.le_of_ble_eq_true rfl) rfl ?_
  refine gd_iconst (v := 1) (q := 6) rfl rfl rfl ?_
  refine gd_istore (q := 8) rfl rfl (Nat.le_of_ble_eq_true rfl) rfl ?_
  refine gd_iconst (v := 0) (q := 9) rfl rfl rfl ?_
  refine gd_istore (q := 11) rfl rfl (Nat.le_of_ble_eq_true rfl) rfl ?_
  exact gl_X6_wordOf_11 a1 a2 f I J Q hG f 0 _ _ 0 hp
theorem ct_X6_wordOf (f : Nat) (I : am_I) (J : am_J) (Q : am_Q) (hG : Gr Q) (a1 : Int32) (a2 : Int32) (hp : p_X6_wordOf f I a1 a2) : Cm MX6_wordOf 5 0 0 92 [.ref 1, .int a1, .int a2] I J Q (am_Fi I J Q (s_X6_wordOf f I a1 a2)) := cm_of (by decide) rfl IX6_wordOf_ok (Nat.le_of_ble_eq_true rfl) (gt_X6_wordOf f I J Q hG a1 a2 hp)
def s_X6_takeWord_L0  (f : Nat) : Nat → am_I → am_I
  | 0, I => I
  | g + 1, I => (if (I 1 1) ≤ (I 1 2) then (if ((I 1 2) - (I 1 4)) ≤ 8 then (am_w I 1 3 (s_X6_wordOf f I (I 1 4) (I 1 2))) else (am_w I 1 3 27)) else (if (s_X6_isLetter (I 2 (I 1 2).toNatClampNeg)) = 0 then (if ((I 1 2) - (I 1 4)) ≤ 8 then (am_w I 1 3 (s_X6_wordOf f I (I 1 4) (I 1 2))) else (am_w I 1 3 27)) else (s_X6_takeWord_L0 f g (am_w I 1 2 ((I 1 2) + 1)))))
def p_X6_takeWord_L0  (f : Nat) : Nat → am_I → Prop
  | 0, _ => False
  | g + 1, I => (if (I 1 1) ≤ (I 1 2) then (if ((I 1 2) - (I 1 4)) ≤ 8 then (p_X6_wordOf f I (I 1 4) (I 1 2)) else True) else (vp_in (I 1 2) 2000 ∧ (if (s_X6_isLetter (I 2 (I 1 2).toNatClampNeg)) = 0 then (if ((I 1 2) - (I 1 4)) ≤ 8 then (p_X6_wordOf f I (I 1 4) (I 1 2)) else True) else (p_X6_takeWord_L0 f g (am_w I 1 2 ((I 1 2) + 1))))))
def s_X6_takeWord (f : Nat) (I : am_I)  : am_I := (if (I 1 1) ≤ (I 1 2) then (if ((I 1 2) - (I 1 4)) ≤ 8 then (am_w I 1 3 (s_X6_wordOf f I (I 1 4) (I 1 2))) else (am_w I 1 3 27)) else (if (s_X6_isLetter (I 2 (I 1 2).toNatClampNeg)) = 0 then (if ((I 1 2) - (I 1 4)) ≤ 8 then (am_w I 1 3 (s_X6_wordOf f I (I 1 4) (I 1 2))) else (am_w I 1 3 27)) else (s_X6_takeWord_L0 f f (am_w I 1 2 ((I 1 2) + 1)))))
def p_X6_takeWord (f : Nat) (I : am_I)  : Prop := (if (I 1 1) ≤ (I 1 2) then (if ((I 1 2) - (I 1 4)) ≤ 8 then (p_X6_wordOf f I (I 1 4) (I 1 2)) else True) else (vp_in (I 1 2) 2000 ∧ (if (s_X6_isLetter (I 2 (I 1 2).toNatClampNeg)) = 0 then (if ((I 1 2) - (I 1 4)) ≤ 8 then (p_X6_wordOf f I (I 1 4) (I 1 2)) else True) else (p_X6_takeWord_L0 f f (am_w I 1 2 ((I 1 2) + 1))))))
set_option maxRecDepth 100000 in
set_option maxHeartbeats 4000000 in
theorem gl_X6_takeWord_L0  (f : Nat) (J : am_J) (Q : am_Q) (hG : Gr Q) : ∀ g : Nat, (∀ (I : am_I), p_X6_takeWord_L0 f g I → Gd MX6_takeWord (am_o 6 0 0 (am_FvI J Q (s_X6_takeWord_L0 f g I))) 0 0 92 0 [some (.ref 1)] [] I J Q) := by
  intro g
  induction g with
  | zero => exact fun _ hp => False.elim hp
  | succ g ih =>
    have ih_0 := ih
    intro I hp
    rw [s_X6_takeWord_L0]
    rw [p_X6_takeWord_L0] at hp
    refine gd_aload_n (q := 1) rfl rfl rfl ?_
    refine gd_getI (q := 4) rfl rfl rfl (Nat.le_of_ble_eq_true rfl) rfl rfl ?_
    refine gd_aload_n (q := 5) rfl rfl rfl ?_
    refine gd_getI (q := 8) rfl rfl rfl (Nat.le_of_ble_eq_true rfl) rfl rfl ?_
    refine gx_icmp_ge (q := 11) (r := 39) rfl rfl rfl hp (fun c_8 hp => ?_) (fun c_8 hp => ?_)
    · refine gd_aload_n (q := 40) rfl rfl rfl ?_
      refine gd_aload_n (q := 41) rfl rfl rfl ?_
      refine gd_getI (q := 44) rfl rfl rfl (Nat.le_of_ble_eq_true rfl) rfl rfl ?_
      refine gd_aload_n (q := 45) rfl rfl rfl ?_
      refine gd_getI (q := 48) rfl rfl rfl (Nat.le_of_ble_eq_true rfl) rfl rfl ?_
      refine gd_isub (q := 49) rfl rfl ?_
      refine gd_bipush (v := 8) (q := 51) rfl rfl rfl ?_
      refine gx_icmp_le (q := 54) (r := 59) rfl rfl rfl hp (fun c_51 hp => ?_) (fun c_51 hp => ?_)
      · refine gd_aload_n (q := 60) rfl rfl rfl ?_
        refine gd_aload_n (q := 61) rfl rfl rfl ?_
        refine gd_getI (q := 64) rfl rfl rfl (Nat.le_of_ble_eq_true rfl) rfl rfl ?_
        refine gd_aload_n (q := 65) rfl rfl rfl ?_
        refine gd_getI (q := 68) rfl rfl rfl (Nat.le_of_ble_eq_true rfl) rfl rfl ?_
        refine gd_cVi (q := 71) rfl rfl lk6_54 myX6_wordOf vxX6_wordOf (ct_X6_wordOf f _ _ _ hG _ _ hp) rfl (Nat.le_of_ble_eq_true rfl) rfl rfl (Nat.le_of_ble_eq_true rfl) rfl (Nat.le_of_ble_eq_true rfl) ⟨(Nat.le_of_ble_eq_true rfl), (Nat.le_of_ble_eq_true rfl)⟩ ?_
        refine gd_putI (q := 74) rfl rfl rfl (Nat.le_of_ble_eq_true rfl) rfl rfl rfl (Or.inl rfl) ?_
        exact gd_return rfl rfl (Nat.le_refl 0) (Nat.le_refl 0) rfl
      · refine gd_bipush (v := 27) (q := 56) rfl rfl rfl ?_
        refine gd_goto (q := 71) rfl rfl ?_
        refine gd_putI (q := 74) rfl rfl rfl (Nat.le_of_ble_eq_true rfl) rfl rfl rfl (Or.inl rfl) ?_
        exact gd_return rfl rfl (Nat.le_refl 0) (Nat.le_refl 0) rfl
    · refine gd_aload_n (q := 12) rfl rfl rfl ?_
      refine gd_getR (q := 15) (r := 2) rfl rfl rfl (Nat.le_of_ble_eq_true rfl) rfl rfl (gr_1_0 hG) ?_
      refine gd_aload_n (q := 16) rfl rfl rfl ?_
      refine gd_getI (q := 19) rfl rfl rfl (Nat.le_of_ble_eq_true rfl) rfl rfl ?_
      refine gd_bald (q := 20) rfl rfl (Nat.le_of_ble_eq_true rfl) rfl hp.1 ?_
      replace hp := hp.2
      refine gd_cSi (q := 23) rfl rfl lk6_39 myX6_isLetter sxX6_isLetter (ct_X6_isLetter f _ _ _ hG _) rfl rfl (Nat.le_of_ble_eq_true rfl) ⟨(Nat.le_of_ble_eq_true rfl), (Nat.le_of_ble_eq_true rfl)⟩ ?_
      refine gx_if_eq (q := 26) (r := 39) rfl rfl rfl hp (fun c_23 hp => ?_) (fun c_23 hp => ?_)
      · refine gd_aload_n (q := 40) rfl rfl rfl ?_
        refine gd_aload_n (q := 41) rfl rfl rfl ?_
        refine gd_getI (q := 44) rfl rfl rfl (Nat.le_of_ble_eq_true rfl) rfl rfl ?_
        refine gd_aload_n (q := 45) rfl rfl rfl ?_
        refine gd_getI (q := 48) rfl rfl rfl (Nat.le_of_ble_eq_true rfl) rfl rfl ?_
        refine gd_isub (q := 49) rfl rfl ?_
        refine gd_bipush (v := 8) (q := 51) rfl rfl rfl ?_
        refine gx_icmp_le (q := 54) (r := 59) rfl rfl rfl hp (fun c_51 hp => ?_) (fun c_51 hp => ?_)
        · refine gd_aload_n (q := 60) rfl rfl rfl ?_
          refine gd_aload_n (q := 61) rfl rfl rfl ?_
          refine gd_getI (q := 64) rfl rfl rfl (Nat.le_of_ble_eq_true rfl) rfl rfl ?_
          refine gd_aload_n (q := 65) rfl rfl rfl ?_
          refine gd_getI (q := 68) rfl rfl rfl (Nat.le_of_ble_eq_true rfl) rfl rfl ?_
          refine gd_cVi (q := 71) rfl rfl lk6_54 myX6_wordOf vxX6_wordOf (ct_X6_wordOf f _ _ _ hG _ _ hp) rfl (Nat.le_of_ble_eq_true rfl) rfl rfl (Nat.le_of_ble_eq_true rfl) rfl (Nat.le_of_ble_eq_true rfl) ⟨(Nat.le_of_ble_eq_true rfl), (Nat.le_of_ble_eq_true rfl)⟩ ?_
          refine gd_putI (q := 74) rfl rfl rfl (Nat.le_of_ble_eq_true rfl) rfl rfl rfl (Or.inl rfl) ?_
          exact gd_return rfl rfl (Nat.le_refl 0) (Nat.le_refl 0) rfl
        · refine gd_bipush (v := 27) (q := 56) rfl rfl rfl ?_
          refine gd_goto (q := 71) rfl rfl ?_
          refine gd_putI (q := 74) rfl rfl rfl (Nat.le_of_ble_eq_true rfl) rfl rfl rfl (Or.inl rfl) ?_
          exact gd_return rfl rfl (Nat.le_refl 0) (Nat.le_refl 0) rfl
      · refine gd_aload_n (q := 27) rfl rfl rfl ?_
        refine gd_dup (q := 28) rfl rfl rfl ?_
        refine gd_getI (q := 31) rfl rfl rfl (Nat.le_of_ble_eq_true rfl) rfl rfl ?_
        refine gd_iconst (v := 1) (q := 32) rfl rfl rfl ?_
        refine gd_iadd (q := 33) rfl rfl ?_
        refine gd_putI (q := 36) rfl rfl rfl (Nat.le_of_ble_eq_true rfl) rfl rfl rfl (Or.inl rfl) ?_
        refine gd_goto (q := 0) rfl rfl ?_
        exact ih_0 _ hp
theorem gl_X6_takeWord_0  (f : Nat) (J : am_J) (Q : am_Q) (hG : Gr Q) (g : Nat) : ∀ (I : am_I), p_X6_takeWord_L0 f g I → Gd MX6_takeWord (am_o 6 0 0 (am_FvI J Q (s_X6_takeWord_L0 f g I))) 0 0 92 0 [some (.ref 1)] [] I J Q := (gl_X6_takeWord_L0 f J Q hG g)
set_option maxRecDepth 100000 in
set_option maxHeartbeats 4000000 in
theorem gt_X6_takeWord (f : Nat) (I : am_I) (J : am_J) (Q : am_Q) (hG : Gr Q)  (hp : p_X6_takeWord f I) : Gd MX6_takeWord (am_o 6 0 0 (am_FvI J Q (s_X6_takeWord f I))) 0 0 92 0 [some (.ref 1)] [] I J Q := by
  unfold s_X6_takeWord
  unfold p_X6_takeWord at hp
  refine gd_aload_n (q := 1) rfl rfl rfl ?_
  refine gd_getI (q := 4) rfl rfl rfl (Nat.le_of_ble_eq_true rfl) rfl rfl ?_
  refine gd_aload_n (q := 5) rfl rfl rfl ?_
  refine gd_getI (q := 8) rfl rfl rfl (Nat.le_of_ble_eq_true rfl) rfl rfl ?_
  refine gx_icmp_ge (q := 11) (r := 39) rfl rfl rfl hp (fun c_8 hp => ?_) (fun c_8 hp => ?_)
  · refine gd_aload_n (q := 40) rfl rfl rfl ?_
    refine gd_aload_n (q := 41) rfl rfl rfl ?_
    refine gd_getI (q := 44) rfl rfl rfl (Nat.le_of_ble_eq_true rfl) rfl rfl ?_
    refine gd_aload_n (q := 45) rfl rfl rfl ?_
    refine gd_getI (q := 48) rfl rfl rfl (Nat.le_of_ble_eq_true rfl) rfl rfl ?_
    refine gd_isub (q := 49) rfl rfl ?_
    refine gd_bipush (v := 8) (q := 51) rfl rfl rfl ?_
    refine gx_icmp_le (q := 54) (r := 59) rfl rfl rfl hp (fun c_51 hp => ?_) (fun c_51 hp => ?_)
    · refine gd_aload_n (q := 60) rfl rfl rfl ?_
      refine gd_aload_n (q := 61) rfl rfl rfl ?_
      refine gd_getI (q := 64) rfl rfl rfl (Nat.le_of_ble_eq_true rfl) rfl rfl ?_
      refine gd_aload_n (q := 65) rfl rfl rfl ?_
      refine gd_getI (q := 68) rfl rfl rfl (Nat.le_of_ble_eq_true rfl) rfl rfl ?_
      refine gd_cVi (q := 71) rfl rfl lk6_54 myX6_wordOf vxX6_wordOf (ct_X6_wordOf f _ _ _ hG _ _ hp) rfl (Nat.le_of_ble_eq_true rfl) rfl rfl (Nat.le_of_ble_eq_true rfl) rfl (Nat.le_of_ble_eq_true rfl) ⟨(Nat.le_of_ble_eq_true rfl), (Nat.le_of_ble_eq_true rfl)⟩ ?_
      refine gd_putI (q := 74) rfl rfl rfl (Nat.le_of_ble_eq_true rfl) rfl rfl rfl (Or.inl rfl) ?_
      exact gd_return rfl rfl (Nat.le_refl 0) (Nat.le_refl 0) rfl
    · refine gd_bipush (v := 27) (q := 56) rfl rfl rfl ?_
      refine gd_goto (q := 71) rfl rfl ?_
      refine gd_putI (q := 74) rfl rfl rfl (Nat.le_of_ble_eq_true rfl) rfl rfl rfl (Or.inl rfl) ?_
      exact gd_return rfl rfl (Nat.le_refl 0) (Nat.le_refl 0) rfl
  · refine gd_aload_n (q := 12) rfl rfl rfl ?_
    refine gd_getR (q := 15) (r := 2) rfl rfl rfl (Nat.le_of_ble_eq_true rfl) rfl rfl (gr_1_0 hG) ?_
    refine gd_aload_n (q := 16) rfl rfl rfl ?_
    refine gd_getI (q := 19) rfl rfl rfl (Nat.le_of_ble_eq_true rfl) rfl rfl ?_
    refine gd_bald (q := 20) rfl rfl (Nat.le_of_ble_eq_true rfl) rfl hp.1 ?_
    replace hp := hp.2
    refine gd_cSi (q := 23) rfl rfl lk6_39 myX6_isLetter sxX6_isLetter (ct_X6_isLetter f _ _ _ hG _) rfl rfl (Nat.le_of_ble_eq_true rfl) ⟨(Nat.le_of_ble_eq_true rfl), (Nat.le_of_ble_eq_true rfl)⟩ ?_
    refine gx_if_eq (q := 26) (r := 39) rfl rfl rfl hp (fun c_23 hp => ?_) (fun c_23 hp => ?_)
    · refine gd_aload_n (q := 40) rfl rfl rfl ?_
      refine gd_aload_n (q := 41) rfl rfl rfl ?_
      refine gd_getI (q := 44) rfl rfl rfl (Nat.le_of_ble_eq_true rfl) rfl rfl ?_
      refine gd_aload_n (q := 45) rfl rfl rfl ?_
      refine gd_getI (q := 48) rfl rfl rfl (Nat.le_of_ble_eq_true rfl) rfl rfl ?_
      refine gd_isub (q := 49) rfl rfl ?_
      refine gd_bipush (v := 8) (q := 51) rfl rfl rfl ?_
      refine gx_icmp_le (q := 54) (r := 59) rfl rfl rfl hp (fun c_51 hp => ?_) (fun c_51 hp => ?_)
      · refine gd_aload_n (q := 60) rfl rfl rfl ?_
        refine gd_aload_n (q := 61) rfl rfl rfl ?_
        refine gd_getI (q := 64) rfl rfl rfl (Nat.le_of_ble_eq_true rfl) rfl rfl ?_
        refine gd_aload_n (q := 65) rfl rfl rfl ?_
        refine gd_getI (q := 68) rfl rfl rfl (Nat.le_of_ble_eq_true rfl) rfl rfl ?_
        refine gd_cVi (q := 71) rfl rfl lk6_54 myX6_wordOf vxX6_wordOf (ct_X6_wordOf f _ _ _ hG _ _ hp) rfl (Nat.le_of_ble_eq_true rfl) rfl rfl (Nat.le_of_ble_eq_true rfl) rfl (Nat.le_of_ble_eq_true rfl) ⟨(Nat.le_of_ble_eq_true rfl), (Nat.le_of_ble_eq_true rfl)⟩ ?_
        refine gd_putI (q := 74) rfl rfl rfl (Nat.le_of_ble_eq_true rfl) rfl rfl rfl (Or.inl rfl) ?_
        exact gd_return rfl rfl (Nat.le_refl 0) (Nat.le_refl 0) rfl
      · refine gd_bipush (v := 27) (q := 56) rfl rfl rfl ?_
        refine gd_goto (q := 71) rfl rfl ?_
        refine gd_putI (q := 74) rfl rfl rfl (Nat.le_of_ble_eq_true rfl) rfl rfl rfl (Or.inl rfl) ?_
        exact gd_return rfl rfl (Nat.le_refl 0) (Nat.le_refl 0) rfl
    · refine gd_aload_n (q := 27) rfl rfl rfl ?_
      refine gd_dup (q := 28) rfl rfl rfl ?_
      refine gd_getI (q := 31) rfl rfl rfl (Nat.le_of_ble_eq_true rfl) rfl rfl ?_
      refine gd_iconst (v := 1) (q := 32) rfl rfl rfl ?_
      refine gd_iadd (q := 33) rfl rfl ?_
      refine gd_putI (q := 36) rfl rfl rfl (Nat.le_of_ble_eq_true rfl) rfl rfl rfl (Or.inl rfl) ?_
      refine gd_goto (q := 0) rfl rfl ?_
      exact gl_X6_takeWord_0 f J Q hG f _ hp
theorem ct_X6_takeWord (f : Nat) (I : am_I) (J : am_J) (Q : am_Q) (hG : Gr Q)  (hp : p_X6_takeWord f I) : Cm MX6_takeWord 6 0 0 92 [.ref 1] I J Q (am_FvI J Q (s_X6_takeWord f I)) := cm_of (by decide) rfl IX6_takeWord_ok (Nat.le_of_ble_eq_true rfl) (gt_X6_takeWord f I J Q hG hp)
def s_X6_isBlank  (a0 : Int32) : Int32 := (if a0 = 9 then 1 else (if a0 = 10 then 1 else (if a0 = 13 then 1 else (if a0 = 32 then 1 else 0))))
theorem z_X6_isBlank  (a0 : Int32) : (s_X6_isBlank a0) = 0 ∨ (s_X6_isBlank a0) = 1 := by
  unfold s_X6_isBlank
  repeat' split
  all_goals first | exact Or.inl rfl | exact Or.inr rfl
set_option maxRecDepth 100000 in
set_option maxHeartbeats 4000000 in
theorem gt_X6_isBlank (f : Nat) (I : am_I) (J : am_J) (Q : am_Q) (hG : Gr Q) (a0 : Int32) : Gd MX6_isBlank (am_o 0 0 0 (am_Fi I J Q (s_X6_isBlank a0))) 0 0 92 0 [some (.int a0)] [] I J Q := by
  unfold s_X6_isBlank
  refine gd_iload_n (q := 1) rfl rfl rfl ?_
  refine gd_bipush (v := 9) (q := 3) rfl rfl rfl ?_
  refine gy_icmp_eq (q := 6) (r := 24) rfl rfl rfl (fun c_3 => ?_) (fun c_3 => ?_)
  · refine gd_iconst (v := 1) (q := 25) rfl rfl rfl ?_
    refine gd_goto (q := 29) rfl rfl ?_
    exact gd_ireturn rfl rfl rfl (Nat.le_refl 0) (Nat.le_refl 0) rfl
  · refine gd_iload_n (q := 7) rfl rfl rfl ?_
    refine gd_bipush (v := 10) (q := 9) rfl rfl rfl ?_
    refine gy_icmp_eq (q := 12) (r := 24) rfl rfl rfl (fun c_9 => ?_) (fun c_9 => ?_)
    · refine gd_iconst (v := 1) (q := 25) rfl rfl rfl ?_
      refine gd_goto (q := 29) rfl rfl ?_
      exact gd_ireturn rfl rfl rfl (Nat.le_refl 0) (Nat.le_refl 0) rfl
    · refine gd_iload_n (q := 13) rfl rfl rfl ?_
      refine gd_bipush (v := 13) (q := 15) rfl rfl rfl ?_
      refine gy_icmp_eq (q := 18) (r := 24) rfl rfl rfl (fun c_15 => ?_) (fun c_15 => ?_)
      · refine gd_iconst (v := 1) (q := 25) rfl rfl rfl ?_
        refine gd_goto (q := 29) rfl rfl ?_
        exact gd_ireturn rfl rfl rfl (Nat.le_refl 0) (Nat.le_refl 0) rfl
      · refine gd_iload_n (q := 19) rfl rfl rfl ?_
        refine gd_bipush (v := 32) (q := 21) rfl rfl rfl ?_
        refine gy_icmp_ne (q := 24) (r := 28) rfl rfl rfl (fun c_21 => ?_) (fun c_21 => ?_)
        · refine gd_iconst (v := 1) (q := 25) rfl rfl rfl ?_
          refine gd_goto (q := 29) rfl rfl ?_
          exact gd_ireturn rfl rfl rfl (Nat.le_refl 0) (Nat.le_refl 0) rfl
        · refine gd_iconst (v := 0) (q := 29) rfl rfl rfl ?_
          exact gd_ireturn rfl rfl rfl (Nat.le_refl 0) (Nat.le_refl 0) rfl
theorem ct_X6_isBlank (f : Nat) (I : am_I) (J : am_J) (Q : am_Q) (hG : Gr Q) (a0 : Int32) : Cm MX6_isBlank 0 0 0 92 [.int a0] I J Q (am_Fi I J Q (s_X6_isBlank a0)) := cm_of (by decide) rfl IX6_isBlank_ok (Nat.le_of_ble_eq_true rfl) (gt_X6_isBlank f I J Q hG a0)
def s_X6_advance_J39  (f : Nat) (I : am_I) : am_I := (if (I 1 2) < (I 1 1) then (if (s_X6_isLetter (I 2 (I 1 2).toNatClampNeg)) = 0 then (if (s_X6_isDigit (I 2 (I 1 2).toNatClampNeg)) = 0 then (s_X6_takeSign (am_w (am_w I 1 4 (I 1 2)) 1 5 0) (I 2 (I 1 2).toNatClampNeg)) else (s_X6_takeInt f (am_w (am_w I 1 4 (I 1 2)) 1 5 0))) else (s_X6_takeWord f (am_w (am_w I 1 4 (I 1 2)) 1 5 0))) else (am_w (am_w (am_w I 1 4 (I 1 2)) 1 5 0) 1 3 26))
def p_X6_advance_J39  (f : Nat) (I : am_I) : Prop := (if (I 1 2) < (I 1 1) then (vp_in (I 1 2) 2000 ∧ (if (s_X6_isLetter (I 2 (I 1 2).toNatClampNeg)) = 0 then (vp_in (I 1 2) 2000 ∧ (if (s_X6_isDigit (I 2 (I 1 2).toNatClampNeg)) = 0 then (vp_in (I 1 2) 2000 ∧ (p_X6_takeSign (am_w (am_w I 1 4 (I 1 2)) 1 5 0) (I 2 (I 1 2).toNatClampNeg))) else (p_X6_takeInt f (am_w (am_w I 1 4 (I 1 2)) 1 5 0)))) else (p_X6_takeWord f (am_w (am_w I 1 4 (I 1 2)) 1 5 0)))) else True)
def s_X6_advance_L0  (f : Nat) : Nat → am_I → am_I
  | 0, I => I
  | g + 1, I => (if (I 1 1) ≤ (I 1 2) then (s_X6_advance_J39 f I) else (if (s_X6_isBlank (I 2 (I 1 2).toNatClampNeg)) = 0 then (s_X6_advance_J39 f I) else (s_X6_advance_L0 f g (am_w I 1 2 ((I 1 2) + 1)))))
def p_X6_advance_L0  (f : Nat) : Nat → am_I → Prop
  | 0, _ => False
  | g + 1, I => (if (I 1 1) ≤ (I 1 2) then (p_X6_advance_J39 f I) else (vp_in (I 1 2) 2000 ∧ (if (s_X6_isBlank (I 2 (I 1 2).toNatClampNeg)) = 0 then (p_X6_advance_J39 f I) else (p_X6_advance_L0 f g (am_w I 1 2 ((I 1 2) + 1))))))
def s_X6_advance (f : Nat) (I : am_I)  : am_I := (if (I 1 1) ≤ (I 1 2) then (s_X6_advance_J39 f I) else (if (s_X6_isBlank (I 2 (I 1 2).toNatClampNeg)) = 0 then (s_X6_advance_J39 f I) else (s_X6_advance_L0 f f (am_w I 1 2 ((I 1 2) + 1)))))
def p_X6_advance (f : Nat) (I : am_I)  : Prop := (if (I 1 1) ≤ (I 1 2) then (p_X6_advance_J39 f I) else (vp_in (I 1 2) 2000 ∧ (if (s_X6_isBlank (I 2 (I 1 2).toNatClampNeg)) = 0 then (p_X6_advance_J39 f I) else (p_X6_advance_L0 f f (am_w I 1 2 ((I 1 2) + 1))))))
set_option maxRecDepth 100000 in
set_option maxHeartbeats 4000000 in
theorem gl_X6_advance_39  (f : Nat) (J : am_J) (Q : am_Q) (hG : Gr Q) (I : am_I) : p_X6_advance_J39 f I → Gd MX6_advance (am_o 7 0 0 (am_FvI J Q (s_X6_advance_J39 f I))) 0 0 92 39 [some (.ref 1)] [] I J Q := by
  intro hp
  unfold s_X6_advance_J39
  unfold p_X6_advance_J39 at hp
  refine gd_aload_n (q := 40) rfl rfl rfl ?_
  refine gd_aload_n (q := 41) rfl rfl rfl ?_
  refine gd_getI (q := 44) rfl rfl rfl (Nat.le_of_ble_eq_true rfl) rfl rfl ?_
  refine gd_putI (q := 47) rfl rfl rfl (Nat.le_of_ble_eq_true rfl) rfl rfl rfl (Or.inl rfl) ?_
  refine gd_aload_n (q := 48) rfl rfl rfl ?_
  refine gd_iconst (v := 0) (q := 49) rfl rfl rfl ?_
  refine gd_putI (q := 52) rfl rfl rfl (Nat.le_of_ble_eq_true rfl) rfl rfl rfl (Or.inl rfl) ?_
  refine gd_aload_n (q := 53) rfl rfl rfl ?_
  refine gd_getI (q := 56) rfl rfl rfl (Nat.le_of_ble_eq_true rfl) rfl rfl ?_
  refine gd_aload_n (q := 57) rfl rfl rfl ?_
  refine gd_getI (q := 60) rfl rfl rfl (Nat.le_of_ble_eq_true rfl) rfl rfl ?_
  refine gx_icmp_lt (q := 63) (r := 72) rfl rfl rfl hp (fun c_60 hp => ?_) (fun c_60 hp => ?_)
  · refine gd_aload_n (q := 73) rfl rfl rfl ?_
    refine gd_getR (q := 76) (r := 2) rfl rfl rfl (Nat.le_of_ble_eq_true rfl) rfl rfl (gr_1_0 hG) ?_
    refine gd_aload_n (q := 77) rfl rfl rfl ?_
    refine gd_getI (q := 80) rfl rfl rfl (Nat.le_of_ble_eq_true rfl) rfl rfl ?_
    refine gd_bald (q := 81) rfl rfl (Nat.le_of_ble_eq_true rfl) rfl hp.1 ?_
    replace hp := hp.2
    refine gd_cSi (q := 84) rfl rfl lk6_39 myX6_isLetter sxX6_isLetter (ct_X6_isLetter f _ _ _ hG _) rfl rfl (Nat.le_of_ble_eq_true rfl) ⟨(Nat.le_of_ble_eq_true rfl), (Nat.le_of_ble_eq_true rfl)⟩ ?_
    refine gx_if_eq (q := 87) (r := 94) rfl rfl rfl hp (fun c_84 hp => ?_) (fun c_84 hp => ?_)
    · refine gd_aload_n (q := 95) rfl rfl rfl ?_
      refine gd_getR (q := 98) (r := 2) rfl rfl rfl (Nat.le_of_ble_eq_true rfl) rfl rfl (gr_1_0 hG) ?_
      refine gd_aload_n (q := 99) rfl rfl rfl ?_
      refine gd_getI (q := 102) rfl rfl rfl (Nat.le_of_ble_eq_true rfl) rfl rfl ?_
      refine gd_bald (q := 103) rfl rfl (Nat.le_of_ble_eq_true rfl) rfl hp.1 ?_
      replace hp := hp.2
      refine gd_cSi (q := 106) rfl rfl lk6_45 myX6_isDigit sxX6_isDigit (ct_X6_isDigit f _ _ _ hG _) rfl rfl (Nat.le_of_ble_eq_true rfl) ⟨(Nat.le_of_ble_eq_true rfl), (Nat.le_of_ble_eq_true rfl)⟩ ?_
      refine gx_if_eq (q := 109) (r := 116) rfl rfl rfl hp (fun c_106 hp => ?_) (fun c_106 hp => ?_)
      · refine gd_aload_n (q := 117) rfl rfl rfl ?_
        refine gd_aload_n (q := 118) rfl rfl rfl ?_
        refine gd_getR (q := 121) (r := 2) rfl rfl rfl (Nat.le_of_ble_eq_true rfl) rfl rfl (gr_1_0 hG) ?_
        refine gd_aload_n (q := 122) rfl rfl rfl ?_
        refine gd_getI (q := 125) rfl rfl rfl (Nat.le_of_ble_eq_true rfl) rfl rfl ?_
        refine gd_bald (q := 126) rfl rfl (Nat.le_of_ble_eq_true rfl) rfl hp.1 ?_
        replace hp := hp.2
        refine gd_cVv (q := 129) rfl rfl lk6_51 myX6_takeSign vxX6_takeSign (ct_X6_takeSign f _ _ _ hG _ hp) rfl (Nat.le_of_ble_eq_true rfl) rfl rfl (Nat.le_of_ble_eq_true rfl) rfl (Nat.le_of_ble_eq_true rfl) ⟨(Nat.le_of_ble_eq_true rfl), (Nat.le_of_ble_eq_true rfl)⟩ ?_
        exact gd_return rfl rfl (Nat.le_refl 0) (Nat.le_refl 0) rfl
      · refine gd_aload_n (q := 110) rfl rfl rfl ?_
        refine gd_cVv (q := 113) rfl rfl lk6_48 myX6_takeInt vxX6_takeInt (ct_X6_takeInt f _ _ _ hG hp) rfl (Nat.le_of_ble_eq_true rfl) rfl rfl (Nat.le_of_ble_eq_true rfl) rfl (Nat.le_of_ble_eq_true rfl) ⟨(Nat.le_of_ble_eq_true rfl), (Nat.le_of_ble_eq_true rfl)⟩ ?_
        refine gd_goto (q := 129) rfl rfl ?_
        exact gd_return rfl rfl (Nat.le_refl 0) (Nat.le_refl 0) rfl
    · refine gd_aload_n (q := 88) rfl rfl rfl ?_
      refine gd_cVv (q := 91) rfl rfl lk6_42 myX6_takeWord vxX6_takeWord (ct_X6_takeWord f _ _ _ hG hp) rfl (Nat.le_of_ble_eq_true rfl) rfl rfl (Nat.le_of_ble_eq_true rfl) rfl (Nat.le_of_ble_eq_true rfl) ⟨(Nat.le_of_ble_eq_true rfl), (Nat.le_of_ble_eq_true rfl)⟩ ?_
      refine gd_goto (q := 129) rfl rfl ?_
      exact gd_return rfl rfl (Nat.le_refl 0) (Nat.le_refl 0) rfl
  · refine gd_aload_n (q := 64) rfl rfl rfl ?_
    refine gd_bipush (v := 26) (q := 66) rfl rfl rfl ?_
    refine gd_putI (q := 69) rfl rfl rfl (Nat.le_of_ble_eq_true rfl) rfl rfl rfl (Or.inl rfl) ?_
    refine gd_goto (q := 129) rfl rfl ?_
    exact gd_return rfl rfl (Nat.le_refl 0) (Nat.le_refl 0) rfl
set_option maxRecDepth 100000 in
set_option maxHeartbeats 4000000 in
theorem gl_X6_advance_L0  (f : Nat) (J : am_J) (Q : am_Q) (hG : Gr Q) : ∀ g : Nat, (∀ (I : am_I), p_X6_advance_L0 f g I → Gd MX6_advance (am_o 7 0 0 (am_FvI J Q (s_X6_advance_L0 f g I))) 0 0 92 0 [some (.ref 1)] [] I J Q) := by
  intro g
  induction g with
  | zero => exact fun _ hp => False.elim hp
  | succ g ih =>
    have ih_0 := ih
    intro I hp
    rw [s_X6_advance_L0]
    rw [p_X6_advance_L0] at hp
    refine gd_aload_n (q := 1) rfl rfl rfl ?_
    refine gd_getI (q := 4) rfl rfl rfl (Nat.le_of_ble_eq_true rfl) rfl rfl ?_
    refine gd_aload_n (q := 5) rfl rfl rfl ?_
    refine gd_getI (q := 8) rfl rfl rfl (Nat.le_of_ble_eq_true rfl) rfl rfl ?_
    refine gx_icmp_ge (q := 11) (r := 39) rfl rfl rfl hp (fun c_8 hp => ?_) (fun c_8 hp => ?_)
    · exact gl_X6_advance_39 f J Q hG _ hp
    · refine gd_aload_n (q := 12) rfl rfl rfl ?_
      refine gd_getR (q := 15) (r := 2) rfl rfl rfl (Nat.le_of_ble_eq_true rfl) rfl rfl (gr_1_0 hG) ?_
      refine gd_aload_n (q := 16) rfl rfl rfl ?_
      refine gd_getI (q := 19) rfl rfl rfl (Nat.le_of_ble_eq_true rfl) rfl rfl ?_
      refine gd_bald (q := 20) rfl rfl (Nat.le_of_ble_eq_true rfl) rfl hp.1 ?_
      replace hp := hp.2
      refine gd_cSi (q := 23) rfl rfl lk6_26 myX6_isBlank sxX6_isBlank (ct_X6_isBlank f _ _ _ hG _) rfl rfl (Nat.le_of_ble_eq_true rfl) ⟨(Nat.le_of_ble_eq_true rfl), (Nat.le_of_ble_eq_true rfl)⟩ ?_
      refine gx_if_eq (q := 26) (r := 39) rfl rfl rfl hp (fun c_23 hp => ?_) (fun c_23 hp => ?_)
      · exact gl_X6_advance_39 f J Q hG _ hp
      · refine gd_aload_n (q := 27) rfl rfl rfl ?_
        refine gd_dup (q := 28) rfl rfl rfl ?_
        refine gd_getI (q := 31) rfl rfl rfl (Nat.le_of_ble_eq_true rfl) rfl rfl ?_
        refine gd_iconst (v := 1) (q := 32) rfl rfl rfl ?_
        refine gd_iadd (q := 33) rfl rfl ?_
        refine gd_putI (q := 36) rfl rfl rfl (Nat.le_of_ble_eq_true rfl) rfl rfl rfl (Or.inl rfl) ?_
        refine gd_goto (q := 0) rfl rfl ?_
        exact ih_0 _ hp
theorem gl_X6_advance_0  (f : Nat) (J : am_J) (Q : am_Q) (hG : Gr Q) (g : Nat) : ∀ (I : am_I), p_X6_advance_L0 f g I → Gd MX6_advance (am_o 7 0 0 (am_FvI J Q (s_X6_advance_L0 f g I))) 0 0 92 0 [some (.ref 1)] [] I J Q := (gl_X6_advance_L0 f J Q hG g)
set_option maxRecDepth 100000 in
set_option maxHeartbeats 4000000 in
theorem gt_X6_advance (f : Nat) (I : am_I) (J : am_J) (Q : am_Q) (hG : Gr Q)  (hp : p_X6_advance f I) : Gd MX6_advance (am_o 7 0 0 (am_FvI J Q (s_X6_advance f I))) 0 0 92 0 [some (.ref 1)] [] I J Q := by
  unfold s_X6_advance
  unfold p_X6_advance at hp
  refine gd_aload_n (q := 1) rfl rfl rfl ?_
  refine gd_getI (q := 4) rfl rfl rfl (Nat.le_of_ble_eq_true rfl) rfl rfl ?_
  refine gd_aload_n (q := 5) rfl rfl rfl ?_
  refine gd_getI (q := 8) rfl rfl rfl (Nat.le_of_ble_eq_true rfl) rfl rfl ?_
  refine gx_icmp_ge (q := 11) (r := 39) rfl rfl rfl hp (fun c_8 hp => ?_) (fun c_8 hp => ?_)
  · exact gl_X6_advance_39 f J Q hG _ hp
  · refine gd_aload_n (q := 12) rfl rfl rfl ?_
    refine gd_getR (q := 15) (r := 2) rfl rfl rfl (Nat.le_of_ble_eq_true rfl) rfl rfl (gr_1_0 hG) ?_
    refine gd_aload_n (q := 16) rfl rfl rfl ?_
    refine gd_getI (q := 19) rfl rfl rfl (Nat.le_of_ble_eq_true rfl) rfl rfl ?_
    refine gd_bald (q := 20) rfl rfl (Nat.le_of_ble_eq_true rfl) rfl hp.1 ?_
    replace hp := hp.2
    refine gd_cSi (q := 23) rfl rfl lk6_26 myX6_isBlank sxX6_isBlank (ct_X6_isBlank f _ _ _ hG _) rfl rfl (Nat.le_of_ble_eq_true rfl) ⟨(Nat.le_of_ble_eq_true rfl), (Nat.le_of_ble_eq_true rfl)⟩ ?_
    refine gx_if_eq (q := 26) (r := 39) rfl rfl rfl hp (fun c_23 hp => ?_) (fun c_23 hp => ?_)
    · exact gl_X6_advance_39 f J Q hG _ hp
    · refine gd_aload_n (q := 27) rfl rfl rfl ?_
      refine gd_dup (q := 28) rfl rfl rfl ?_
      refine gd_getI (q := 31) rfl rfl rfl (Nat.le_of_ble_eq_true rfl) rfl rfl ?_
      refine gd_iconst (v := 1) (q := 32) rfl rfl rfl ?_
      refine gd_iadd (q := 33) rfl rfl ?_
      refine gd_putI (q := 36) rfl rfl rfl (Nat.le_of_ble_eq_true rfl) rfl rfl rfl (Or.inl rfl) ?_
      refine gd_goto (q := 0) rfl rfl ?_
      exact gl_X6_advance_0 f J Q hG f _ hp
theorem ct_X6_advance (f : Nat) (I : am_I) (J : am_J) (Q : am_Q) (hG : Gr Q)  (hp : p_X6_advance f I) : Cm MX6_advance 7 0 0 92 [.ref 1] I J Q (am_FvI J Q (s_X6_advance f I)) := cm_of (by decide) rfl IX6_advance_ok (Nat.le_of_ble_eq_true rfl) (gt_X6_advance f I J Q hG hp)
def s_X2_endsLiteral  (a0 : Int32) : Int32 := (if a0 = 5 then 1 else (if a0 = 4 then 1 else (if a0 = 16 then 1 else 0)))
theorem z_X2_endsLiteral  (a0 : Int32) : (s_X2_endsLiteral a0) = 0 ∨ (s_X2_endsLiteral a0) = 1 := by
  unfold s_X2_endsLiteral
  repeat' split
  all_goals first | exact Or.inl rfl | exact Or.inr rfl
set_option maxRecDepth 100000 in
set_option maxHeartbeats 4000000 in
theorem gt_X2_endsLiteral (f : Nat) (I : am_I) (J : am_J) (Q : am_Q) (hG : Gr Q) (a0 : Int32) : Gd MX2_endsLiteral (am_o 0 0 0 (am_Fi I J Q (s_X2_endsLiteral a0))) 0 0 92 0 [some (.int a0)] [] I J Q := by
  unfold s_X2_endsLiteral
  refine gd_iload_n (q := 1) rfl rfl rfl ?_
  refine gd_iconst (v := 5) (q := 2) rfl rfl rfl ?_
  refine gy_icmp_eq (q := 5) (r := 16) rfl rfl rfl (fun c_2 => ?_) (fun c_2 => ?_)
  · refine gd_iconst (v := 1) (q := 17) rfl rfl rfl ?_
    refine gd_goto (q := 21) rfl rfl ?_
    exact gd_ireturn rfl rfl rfl (Nat.le_refl 0) (Nat.le_refl 0) rfl
  · refine gd_iload_n (q := 6) rfl rfl rfl ?_
    refine gd_iconst (v := 4) (q := 7) rfl rfl rfl ?_
    refine gy_icmp_eq (q := 10) (r := 16) rfl rfl rfl (fun c_7 => ?_) (fun c_7 => ?_)
    · refine gd_iconst (v := 1) (q := 17) rfl rfl rfl ?_
      refine gd_goto (q := 21) rfl rfl ?_
      exact gd_ireturn rfl rfl rfl (Nat.le_refl 0) (Nat.le_refl 0) rfl
    · refine gd_iload_n (q := 11) rfl rfl rfl ?_
      refine gd_bipush (v := 16) (q := 13) rfl rfl rfl ?_
      refine gy_icmp_ne (q := 16) (r := 20) rfl rfl rfl (fun c_13 => ?_) (fun c_13 => ?_)
      · refine gd_iconst (v := 1) (q := 17) rfl rfl rfl ?_
        refine gd_goto (q := 21) rfl rfl ?_
        exact gd_ireturn rfl rfl rfl (Nat.le_refl 0) (Nat.le_refl 0) rfl
      · refine gd_iconst (v := 0) (q := 21) rfl rfl rfl ?_
        exact gd_ireturn rfl rfl rfl (Nat.le_refl 0) (Nat.le_refl 0) rfl
theorem ct_X2_endsLiteral (f : Nat) (I : am_I) (J : am_J) (Q : am_Q) (hG : Gr Q) (a0 : Int32) : Cm MX2_endsLiteral 0 0 0 92 [.int a0] I J Q (am_Fi I J Q (s_X2_endsLiteral a0)) := cm_of (by decide) rfl IX2_endsLiteral_ok (Nat.le_of_ble_eq_true rfl) (gt_X2_endsLiteral f I J Q hG a0)
def s_X2_isComparison  (a0 : Int32) : Int32 := (if a0 < 20 then 0 else (if 23 < a0 then 0 else 1))
theorem z_X2_isComparison  (a0 : Int32) : (s_X2_isComparison a0) = 0 ∨ (s_X2_isComparison a0) = 1 := by
  unfold s_X2_isComparison
  repeat' split
  all_goals first | exact Or.inl rfl | exact Or.inr rfl
set_option maxRecDepth 100000 in
set_option maxHeartbeats 4000000 in
theorem gt_X2_isComparison (f : Nat) (I : am_I) (J : am_J) (Q : am_Q) (hG : Gr Q) (a0 : Int32) : Gd MX2_isComparison (am_o 0 0 0 (am_Fi I J Q (s_X2_isComparison a0))) 0 0 92 0 [some (.int a0)] [] I J Q := by
  unfold s_X2_isComparison
  refine gd_iload_n (q := 1) rfl rfl rfl ?_
  refine gd_bipush (v := 20) (q := 3) rfl rfl rfl ?_
  refine gy_icmp_lt (q := 6) (r := 16) rfl rfl rfl (fun c_3 => ?_) (fun c_3 => ?_)
  · refine gd_iconst (v := 0) (q := 17) rfl rfl rfl ?_
    exact gd_ireturn rfl rfl rfl (Nat.le_refl 0) (Nat.le_refl 0) rfl
  · refine gd_iload_n (q := 7) rfl rfl rfl ?_
    refine gd_bipush (v := 23) (q := 9) rfl rfl rfl ?_
    refine gy_icmp_gt (q := 12) (r := 16) rfl rfl rfl (fun c_9 => ?_) (fun c_9 => ?_)
    · refine gd_iconst (v := 0) (q := 17) rfl rfl rfl ?_
      exact gd_ireturn rfl rfl rfl (Nat.le_refl 0) (Nat.le_refl 0) rfl
    · refine gd_iconst (v := 1) (q := 13) rfl rfl rfl ?_
      refine gd_goto (q := 17) rfl rfl ?_
      exact gd_ireturn rfl rfl rfl (Nat.le_refl 0) (Nat.le_refl 0) rfl
theorem ct_X2_isComparison (f : Nat) (I : am_I) (J : am_J) (Q : am_Q) (hG : Gr Q) (a0 : Int32) : Cm MX2_isComparison 0 0 0 92 [.int a0] I J Q (am_Fi I J Q (s_X2_isComparison a0)) := cm_of (by decide) rfl IX2_isComparison_ok (Nat.le_of_ble_eq_true rfl) (gt_X2_isComparison f I J Q hG a0)
def s_X2_endsSide (I : am_I) (a1 : Int32) : Int32 := (if (I 3 2) ≤ 0 then (if (I 3 4) = (-1) then (s_X2_isComparison a1) else (s_X2_endsLiteral a1)) else (if a1 = 25 then 1 else 0))
theorem z_X2_endsSide (I : am_I) (a1 : Int32) : (s_X2_endsSide I a1) = 0 ∨ (s_X2_endsSide I a1) = 1 := by
  unfold s_X2_endsSide
  repeat' split
  all_goals first | exact Or.inl rfl | exact Or.inr rfl | exact z_X2_endsLiteral _ | exact z_X2_isComparison _
set_option maxRecDepth 100000 in
set_option maxHeartbeats 4000000 in
theorem gt_X2_endsSide (f : Nat) (I : am_I) (J : am_J) (Q : am_Q) (hG : Gr Q) (a1 : Int32) : Gd MX2_endsSide (am_o 1 0 0 (am_Fi I J Q (s_X2_endsSide I a1))) 0 0 92 0 [some (.ref 3), some (.int a1)] [] I J Q := by
  unfold s_X2_endsSide
  refine gd_aload_n (q := 1) rfl rfl rfl ?_
  refine gd_getI (q := 4) rfl rfl rfl (Nat.le_of_ble_eq_true rfl) rfl rfl ?_
  refine gy_if_le (q := 7) (r := 19) rfl rfl rfl (fun c_4 => ?_) (fun c_4 => ?_)
  · refine gd_aload_n (q := 20) rfl rfl rfl ?_
    refine gd_getI (q := 23) rfl rfl rfl (Nat.le_of_ble_eq_true rfl) rfl rfl ?_
    refine gd_iconst (v := (-1)) (q := 24) rfl rfl rfl ?_
    refine gy_icmp_ne (q := 27) (r := 34) rfl rfl rfl (fun c_24 => ?_) (fun c_24 => ?_)
    · refine gd_iload_n (q := 28) rfl rfl rfl ?_
      refine gd_cSi (q := 31) rfl rfl lk2_90 myX2_isComparison sxX2_isComparison (ct_X2_isComparison f _ _ _ hG _) rfl rfl (Nat.le_of_ble_eq_true rfl) ⟨(Nat.le_of_ble_eq_true rfl), (Nat.le_of_ble_eq_true rfl)⟩ ?_
      refine gd_goto (q := 38) rfl rfl ?_
      exact gd_ireturn rfl rfl (am_zn (z_X2_isComparison a1)) (Nat.le_refl 0) (Nat.le_refl 0) rfl
    · refine gd_iload_n (q := 35) rfl rfl rfl ?_
      refine gd_cSi (q := 38) rfl rfl lk2_81 myX2_endsLiteral sxX2_endsLiteral (ct_X2_endsLiteral f _ _ _ hG _) rfl rfl (Nat.le_of_ble_eq_true rfl) ⟨(Nat.le_of_ble_eq_true rfl), (Nat.le_of_ble_eq_true rfl)⟩ ?_
      exact gd_ireturn rfl rfl (am_zn (z_X2_endsLiteral a1)) (Nat.le_refl 0) (Nat.le_refl 0) rfl
  · refine gd_iload_n (q := 8) rfl rfl rfl ?_
    refine gd_bipush (v := 25) (q := 10) rfl rfl rfl ?_
    refine gy_icmp_ne (q := 13) (r := 17) rfl rfl rfl (fun c_10 => ?_) (fun c_10 => ?_)
    · refine gd_iconst (v := 1) (q := 14) rfl rfl rfl ?_
      refine gd_goto (q := 18) rfl rfl ?_
      exact gd_ireturn rfl rfl rfl (Nat.le_refl 0) (Nat.le_refl 0) rfl
    · refine gd_iconst (v := 0) (q := 18) rfl rfl rfl ?_
      exact gd_ireturn rfl rfl rfl (Nat.le_refl 0) (Nat.le_refl 0) rfl
theorem ct_X2_endsSide (f : Nat) (I : am_I) (J : am_J) (Q : am_Q) (hG : Gr Q) (a1 : Int32) : Cm MX2_endsSide 1 0 0 92 [.ref 3, .int a1] I J Q (am_Fi I J Q (s_X2_endsSide I a1)) := cm_of (by decide) rfl IX2_endsSide_ok (Nat.le_of_ble_eq_true rfl) (gt_X2_endsSide f I J Q hG a1)
def s_X2_startsUnit  (a0 : Int32) : Int32 := (if a0 = 15 then 1 else (if a0 = 24 then 1 else (if (s_X9_isVar a0) = 0 then 0 else 1)))
theorem z_X2_startsUnit  (a0 : Int32) : (s_X2_startsUnit a0) = 0 ∨ (s_X2_startsUnit a0) = 1 := by
  unfold s_X2_startsUnit
  repeat' split
  all_goals first | exact Or.inl rfl | exact Or.inr rfl | exact z_X9_isVar _
set_option maxRecDepth 100000 in
set_option maxHeartbeats 4000000 in
theorem gt_X2_startsUnit (f : Nat) (I : am_I) (J : am_J) (Q : am_Q) (hG : Gr Q) (a0 : Int32) : Gd MX2_startsUnit (am_o 1 0 0 (am_Fi I J Q (s_X2_startsUnit a0))) 0 0 92 0 [some (.int a0)] [] I J Q := by
  unfold s_X2_startsUnit
  refine gd_iload_n (q := 1) rfl rfl rfl ?_
  refine gd_bipush (v := 15) (q := 3) rfl rfl rfl ?_
  refine gy_icmp_eq (q := 6) (r := 19) rfl rfl rfl (fun c_3 => ?_) (fun c_3 => ?_)
  · refine gd_iconst (v := 1) (q := 20) rfl rfl rfl ?_
    refine gd_goto (q := 24) rfl rfl ?_
    exact gd_ireturn rfl rfl rfl (Nat.le_refl 0) (Nat.le_refl 0) rfl
  · refine gd_iload_n (q := 7) rfl rfl rfl ?_
    refine gd_bipush (v := 24) (q := 9) rfl rfl rfl ?_
    refine gy_icmp_eq (q := 12) (r := 19) rfl rfl rfl (fun c_9 => ?_) (fun c_9 => ?_)
    · refine gd_iconst (v := 1) (q := 20) rfl rfl rfl ?_
      refine gd_goto (q := 24) rfl rfl ?_
      exact gd_ireturn rfl rfl rfl (Nat.le_refl 0) (Nat.le_refl 0) rfl
    · refine gd_iload_n (q := 13) rfl rfl rfl ?_
      refine gd_cSi (q := 16) rfl rfl lk2_93 myX9_isVar sxX9_isVar (ct_X9_isVar f _ _ _ hG _) rfl rfl (Nat.le_of_ble_eq_true rfl) ⟨(Nat.le_of_ble_eq_true rfl), (Nat.le_of_ble_eq_true rfl)⟩ ?_
      refine gy_if_eq (q := 19) (r := 23) rfl rfl rfl (fun c_16 => ?_) (fun c_16 => ?_)
      · refine gd_iconst (v := 0) (q := 24) rfl rfl rfl ?_
        exact gd_ireturn rfl rfl rfl (Nat.le_refl 0) (Nat.le_refl 0) rfl
      · refine gd_iconst (v := 1) (q := 20) rfl rfl rfl ?_
        refine gd_goto (q := 24) rfl rfl ?_
        exact gd_ireturn rfl rfl rfl (Nat.le_refl 0) (Nat.le_refl 0) rfl
theorem ct_X2_startsUnit (f : Nat) (I : am_I) (J : am_J) (Q : am_Q) (hG : Gr Q) (a0 : Int32) : Cm MX2_startsUnit 1 0 0 92 [.int a0] I J Q (am_Fi I J Q (s_X2_startsUnit a0)) := cm_of (by decide) rfl IX2_startsUnit_ok (Nat.le_of_ble_eq_true rfl) (gt_X2_startsUnit f I J Q hG a0)
def s_X2_isHead  (a0 : Int32) : Int32 := (if a0 = 0 then 1 else (if a0 = 1 then 1 else (if a0 = 2 then 1 else 0)))
theorem z_X2_isHead  (a0 : Int32) : (s_X2_isHead a0) = 0 ∨ (s_X2_isHead a0) = 1 := by
  unfold s_X2_isHead
  repeat' split
  all_goals first | exact Or.inl rfl | exact Or.inr rfl
set_option maxRecDepth 100000 in
set_option maxHeartbeats 4000000 in
theorem gt_X2_isHead (f : Nat) (I : am_I) (J : am_J) (Q : am_Q) (hG : Gr Q) (a0 : Int32) : Gd MX2_isHead (am_o 0 0 0 (am_Fi I J Q (s_X2_isHead a0))) 0 0 92 0 [some (.int a0)] [] I J Q := by
  unfold s_X2_isHead
  refine gd_iload_n (q := 1) rfl rfl rfl ?_
  refine gy_if_eq (q := 4) (r := 14) rfl rfl rfl (fun c_1 => ?_) (fun c_1 => ?_)
  · refine gd_iconst (v := 1) (q := 15) rfl rfl rfl ?_
    refine gd_goto (q := 19) rfl rfl ?_
    exact gd_ireturn rfl rfl rfl (Nat.le_refl 0) (Nat.le_refl 0) rfl
  · refine gd_iload_n (q := 5) rfl rfl rfl ?_
    refine gd_iconst (v := 1) (q := 6) rfl rfl rfl ?_
    refine gy_icmp_eq (q := 9) (r := 14) rfl rfl rfl (fun c_6 => ?_) (fun c_6 => ?_)
    · refine gd_iconst (v := 1) (q := 15) rfl rfl rfl ?_
      refine gd_goto (q := 19) rfl rfl ?_
      exact gd_ireturn rfl rfl rfl (Nat.le_refl 0) (Nat.le_refl 0) rfl
    · refine gd_iload_n (q := 10) rfl rfl rfl ?_
      refine gd_iconst (v := 2) (q := 11) rfl rfl rfl ?_
      refine gy_icmp_ne (q := 14) (r := 18) rfl rfl rfl (fun c_11 => ?_) (fun c_11 => ?_)
      · refine gd_iconst (v := 1) (q := 15) rfl rfl rfl ?_
        refine gd_goto (q := 19) rfl rfl ?_
        exact gd_ireturn rfl rfl rfl (Nat.le_refl 0) (Nat.le_refl 0) rfl
      · refine gd_iconst (v := 0) (q := 19) rfl rfl rfl ?_
        exact gd_ireturn rfl rfl rfl (Nat.le_refl 0) (Nat.le_refl 0) rfl
theorem ct_X2_isHead (f : Nat) (I : am_I) (J : am_J) (Q : am_Q) (hG : Gr Q) (a0 : Int32) : Cm MX2_isHead 0 0 0 92 [.int a0] I J Q (am_Fi I J Q (s_X2_isHead a0)) := cm_of (by decide) rfl IX2_isHead_ok (Nat.le_of_ble_eq_true rfl) (gt_X2_isHead f I J Q hG a0)
theorem am_swX2_goesOn_4 {x : Int32} (h0 : ¬ x = 0) (h1 : ¬ x = 1) (h2 : ¬ x = 2) (h3 : ¬ x = 3) (h4 : ¬ x = 4) (h5 : ¬ x = 5) : (x.toInt < 0 ∨ 5 < x.toInt) ∨ (¬ x.toInt < 0 ∧ ¬ 5 < x.toInt ∧ (#[40, 59, 76, 95, 107, 112] : Array Int)[(x.toInt - 0).toNat]? = some 117) := by
  by_cases hlo : x.toInt < 0
  · exact Or.inl (Or.inl hlo)
  by_cases hhi : 5 < x.toInt
  · exact Or.inl (Or.inr hhi)
  refine Or.inr ⟨hlo, hhi, ?_⟩
  have e0 := lv_neT (a := 0) h0 rfl
  have e1 := lv_neT (a := 1) h1 rfl
  have e2 := lv_neT (a := 2) h2 rfl
  have e3 := lv_neT (a := 3) h3 rfl
  have e4 := lv_neT (a := 4) h4 rfl
  have e5 := lv_neT (a := 5) h5 rfl
  exfalso; omega
def s_X2_goesOn (I : am_I) (a1 : Int32) : Int32 := (if (I 3 3) = 0 then (if (s_X2_isHead a1) = 0 then (if a1 = 26 then 1 else 0) else 1) else (if (I 3 3) = 1 then (if a1 = 3 then 1 else (if a1 = 16 then 1 else 0)) else (if (I 3 3) = 2 then (if a1 = 6 then 1 else (if (s_X2_startsUnit a1) = 0 then 0 else 1)) else (if (I 3 3) = 3 then (if a1 = 15 then 1 else 0) else (if (I 3 3) = 4 then (s_X2_endsLiteral a1) else (if (I 3 3) = 5 then (s_X2_startsUnit a1) else (if (s_X9_isOperator a1) = 0 then (if (s_X2_endsSide I a1) = 0 then 0 else 1) else 1)))))))
theorem z_X2_goesOn (I : am_I) (a1 : Int32) : (s_X2_goesOn I a1) = 0 ∨ (s_X2_goesOn I a1) = 1 := by
  unfold s_X2_goesOn
  repeat' split
  all_goals first | exact Or.inl rfl | exact Or.inr rfl | exact z_X9_isOperator _ | exact z_X2_endsSide _ _ | exact z_X2_startsUnit _ | exact z_X2_endsLiteral _ | exact z_X2_isHead _
set_option maxRecDepth 100000 in
set_option maxHeartbeats 4000000 in
theorem gt_X2_goesOn (f : Nat) (I : am_I) (J : am_J) (Q : am_Q) (hG : Gr Q) (a1 : Int32) : Gd MX2_goesOn (am_o 2 0 0 (am_Fi I J Q (s_X2_goesOn I a1))) 0 0 92 0 [some (.ref 3), some (.int a1)] [] I J Q := by
  unfold s_X2_goesOn
  refine gd_aload_n (q := 1) rfl rfl rfl ?_
  refine gd_getI (q := 4) rfl rfl rfl (Nat.le_of_ble_eq_true rfl) rfl rfl ?_
  refine gy_ite (fun c_4_0 => ?_) (fun c_4_0 => ?_)
  · refine gd_tsIn (q := 44) rfl (by rw [c_4_0]; decide) (by rw [c_4_0]; decide) (by first | (rw [c_4_0]; done) | (rw [c_4_0]; rfl)) rfl ?_
    refine gd_iload_n (q := 45) rfl rfl rfl ?_
    refine gd_cSi (q := 48) rfl rfl lk2_75 myX2_isHead sxX2_isHead (ct_X2_isHead f _ _ _ hG _) rfl rfl (Nat.le_of_ble_eq_true rfl) ⟨(Nat.le_of_ble_eq_true rfl), (Nat.le_of_ble_eq_true rfl)⟩ ?_
    refine gy_if_ne (q := 51) (r := 57) rfl rfl rfl (fun c_48 => ?_) (fun c_48 => ?_)
    · refine gd_iload_n (q := 52) rfl rfl rfl ?_
      refine gd_bipush (v := 26) (q := 54) rfl rfl rfl ?_
      refine gy_icmp_ne (q := 57) (r := 61) rfl rfl rfl (fun c_54 => ?_) (fun c_54 => ?_)
      · refine gd_iconst (v := 1) (q := 58) rfl rfl rfl ?_
        refine gd_goto (q := 62) rfl rfl ?_
        exact gd_ireturn rfl rfl rfl (Nat.le_refl 0) (Nat.le_refl 0) rfl
      · refine gd_iconst (v := 0) (q := 62) rfl rfl rfl ?_
        exact gd_ireturn rfl rfl rfl (Nat.le_refl 0) (Nat.le_refl 0) rfl
    · refine gd_iconst (v := 1) (q := 58) rfl rfl rfl ?_
      refine gd_goto (q := 62) rfl rfl ?_
      exact gd_ireturn rfl rfl rfl (Nat.le_refl 0) (Nat.le_refl 0) rfl
  · refine gy_ite (fun c_4_1 => ?_) (fun c_4_1 => ?_)
    · refine gd_tsIn (q := 63) rfl (by rw [c_4_1]; decide) (by rw [c_4_1]; decide) (by first | (rw [c_4_1]; done) | (rw [c_4_1]; rfl)) rfl ?_
      refine gd_iload_n (q := 64) rfl rfl rfl ?_
      refine gd_iconst (v := 3) (q := 65) rfl rfl rfl ?_
      refine gy_icmp_eq (q := 68) (r := 74) rfl rfl rfl (fun c_65 => ?_) (fun c_65 => ?_)
      · refine gd_iconst (v := 1) (q := 75) rfl rfl rfl ?_
        refine gd_goto (q := 79) rfl rfl ?_
        exact gd_ireturn rfl rfl rfl (Nat.le_refl 0) (Nat.le_refl 0) rfl
      · refine gd_iload_n (q := 69) rfl rfl rfl ?_
        refine gd_bipush (v := 16) (q := 71) rfl rfl rfl ?_
        refine gy_icmp_ne (q := 74) (r := 78) rfl rfl rfl (fun c_71 => ?_) (fun c_71 => ?_)
        · refine gd_iconst (v := 1) (q := 75) rfl rfl rfl ?_
          refine gd_goto (q := 79) rfl rfl ?_
          exact gd_ireturn rfl rfl rfl (Nat.le_refl 0) (Nat.le_refl 0) rfl
        · refine gd_iconst (v := 0) (q := 79) rfl rfl rfl ?_
          exact gd_ireturn rfl rfl rfl (Nat.le_refl 0) (Nat.le_refl 0) rfl
    · refine gy_ite (fun c_4_2 => ?_) (fun c_4_2 => ?_)
      · refine gd_tsIn (q := 80) rfl (by rw [c_4_2]; decide) (by rw [c_4_2]; decide) (by first | (rw [c_4_2]; done) | (rw [c_4_2]; rfl)) rfl ?_
        refine gd_iload_n (q := 81) rfl rfl rfl ?_
        refine gd_bipush (v := 6) (q := 83) rfl rfl rfl ?_
        refine gy_icmp_eq (q := 86) (r := 93) rfl rfl rfl (fun c_83 => ?_) (fun c_83 => ?_)
        · refine gd_iconst (v := 1) (q := 94) rfl rfl rfl ?_
          refine gd_goto (q := 98) rfl rfl ?_
          exact gd_ireturn rfl rfl rfl (Nat.le_refl 0) (Nat.le_refl 0) rfl
        · refine gd_iload_n (q := 87) rfl rfl rfl ?_
          refine gd_cSi (q := 90) rfl rfl lk2_78 myX2_startsUnit sxX2_startsUnit (ct_X2_startsUnit f _ _ _ hG _) rfl rfl (Nat.le_of_ble_eq_true rfl) ⟨(Nat.le_of_ble_eq_true rfl), (Nat.le_of_ble_eq_true rfl)⟩ ?_
          refine gy_if_eq (q := 93) (r := 97) rfl rfl rfl (fun c_90 => ?_) (fun c_90 => ?_)
          · refine gd_iconst (v := 0) (q := 98) rfl rfl rfl ?_
            exact gd_ireturn rfl rfl rfl (Nat.le_refl 0) (Nat.le_refl 0) rfl
          · refine gd_iconst (v := 1) (q := 94) rfl rfl rfl ?_
            refine gd_goto (q := 98) rfl rfl ?_
            exact gd_ireturn rfl rfl rfl (Nat.le_refl 0) (Nat.le_refl 0) rfl
      · refine gy_ite (fun c_4_3 => ?_) (fun c_4_3 => ?_)
        · refine gd_tsIn (q := 99) rfl (by rw [c_4_3]; decide) (by rw [c_4_3]; decide) (by first | (rw [c_4_3]; done) | (rw [c_4_3]; rfl)) rfl ?_
          refine gd_iload_n (q := 100) rfl rfl rfl ?_
          refine gd_bipush (v := 15) (q := 102) rfl rfl rfl ?_
          refine gy_icmp_ne (q := 105) (r := 109) rfl rfl rfl (fun c_102 => ?_) (fun c_102 => ?_)
          · refine gd_iconst (v := 1) (q := 106) rfl rfl rfl ?_
            refine gd_goto (q := 110) rfl rfl ?_
            exact gd_ireturn rfl rfl rfl (Nat.le_refl 0) (Nat.le_refl 0) rfl
          · refine gd_iconst (v := 0) (q := 110) rfl rfl rfl ?_
            exact gd_ireturn rfl rfl rfl (Nat.le_refl 0) (Nat.le_refl 0) rfl
        · refine gy_ite (fun c_4_4 => ?_) (fun c_4_4 => ?_)
          · refine gd_tsIn (q := 111) rfl (by rw [c_4_4]; decide) (by rw [c_4_4]; decide) (by first | (rw [c_4_4]; done) | (rw [c_4_4]; rfl)) rfl ?_
            refine gd_iload_n (q := 112) rfl rfl rfl ?_
            refine gd_cSi (q := 115) rfl rfl lk2_81 myX2_endsLiteral sxX2_endsLiteral (ct_X2_endsLiteral f _ _ _ hG _) rfl rfl (Nat.le_of_ble_eq_true rfl) ⟨(Nat.le_of_ble_eq_true rfl), (Nat.le_of_ble_eq_true rfl)⟩ ?_
            exact gd_ireturn rfl rfl (am_zn (z_X2_endsLiteral a1)) (Nat.le_refl 0) (Nat.le_refl 0) rfl
          · refine gy_ite (fun c_4_5 => ?_) (fun c_4_5 => ?_)
            · refine gd_tsIn (q := 116) rfl (by rw [c_4_5]; decide) (by rw [c_4_5]; decide) (by first | (rw [c_4_5]; done) | (rw [c_4_5]; rfl)) rfl ?_
              refine gd_iload_n (q := 117) rfl rfl rfl ?_
              refine gd_cSi (q := 120) rfl rfl lk2_78 myX2_startsUnit sxX2_startsUnit (ct_X2_startsUnit f _ _ _ hG _) rfl rfl (Nat.le_of_ble_eq_true rfl) ⟨(Nat.le_of_ble_eq_true rfl), (Nat.le_of_ble_eq_true rfl)⟩ ?_
              exact gd_ireturn rfl rfl (am_zn (z_X2_startsUnit a1)) (Nat.le_refl 0) (Nat.le_refl 0) rfl
            · refine gd_tsAny (q := 121) rfl (am_swX2_goesOn_4 c_4_0 c_4_1 c_4_2 c_4_3 c_4_4 c_4_5) rfl ?_
              refine gd_iload_n (q := 122) rfl rfl rfl ?_
              refine gd_cSi (q := 125) rfl rfl lk2_84 myX9_isOperator sxX9_isOperator (ct_X9_isOperator f _ _ _ hG _) rfl rfl (Nat.le_of_ble_eq_true rfl) ⟨(Nat.le_of_ble_eq_true rfl), (Nat.le_of_ble_eq_true rfl)⟩ ?_
              refine gy_if_ne (q := 128) (r := 136) rfl rfl rfl (fun c_125 => ?_) (fun c_125 => ?_)
              · refine gd_aload_n (q := 129) rfl rfl rfl ?_
                refine gd_iload_n (q := 130) rfl rfl rfl ?_
                refine gd_cVi (q := 133) rfl rfl lk2_87 myX2_endsSide vxX2_endsSide (ct_X2_endsSide f _ _ _ hG _) rfl (Nat.le_of_ble_eq_true rfl) rfl rfl (Nat.le_of_ble_eq_true rfl) rfl (Nat.le_of_ble_eq_true rfl) ⟨(Nat.le_of_ble_eq_true rfl), (Nat.le_of_ble_eq_true rfl)⟩ ?_
                refine gy_if_eq (q := 136) (r := 140) rfl rfl rfl (fun c_133 => ?_) (fun c_133 => ?_)
                · refine gd_iconst (v := 0) (q := 141) rfl rfl rfl ?_
                  exact gd_ireturn rfl rfl rfl (Nat.le_refl 0) (Nat.le_refl 0) rfl
                · refine gd_iconst (v := 1) (q := 137) rfl rfl rfl ?_
                  refine gd_goto (q := 141) rfl rfl ?_
                  exact gd_ireturn rfl rfl rfl (Nat.le_refl 0) (Nat.le_refl 0) rfl
              · refine gd_iconst (v := 1) (q := 137) rfl rfl rfl ?_
                refine gd_goto (q := 141) rfl rfl ?_
                exact gd_ireturn rfl rfl rfl (Nat.le_refl 0) (Nat.le_refl 0) rfl
theorem ct_X2_goesOn (f : Nat) (I : am_I) (J : am_J) (Q : am_Q) (hG : Gr Q) (a1 : Int32) : Cm MX2_goesOn 2 0 0 92 [.ref 3, .int a1] I J Q (am_Fi I J Q (s_X2_goesOn I a1)) := cm_of (by decide) rfl IX2_goesOn_ok (Nat.le_of_ble_eq_true rfl) (gt_X2_goesOn f I J Q hG a1)
def s_X2_faultOf_J28 (a1 : Int32) (a2 : Int32) (a3 : Int32) (I : am_I) (t0 : Int32) : Int32 := (if (s_X2_isHead a1) = 0 then (if a1 = 24 then (if (I 3 2) < 6 then (if t0 = 0 then 0 else 2) else (if t0 = 0 then 2 else 2)) else (if t0 = 0 then 0 else 2)) else (if a3 < 16 then (if a1 = 24 then (if (I 3 2) < 6 then (if t0 = 0 then 0 else 2) else (if t0 = 0 then 2 else 2)) else (if t0 = 0 then 0 else 2)) else (if a1 = 24 then (if (I 3 2) < 6 then (if t0 = 0 then 2 else 2) else (if t0 = 0 then 2 else 2)) else (if t0 = 0 then 2 else 2))))
def s_X2_faultOf (I : am_I) (a1 : Int32) (a2 : Int32) (a3 : Int32) : Int32 := (if (s_X2_goesOn I a1) = 0 then 1 else (if a1 = 26 then (s_X2_faultOf_J28 a1 a2 a3 I 0) else (if a2 < 400 then (s_X2_faultOf_J28 a1 a2 a3 I 0) else (s_X2_faultOf_J28 a1 a2 a3 I 1))))
set_option maxRecDepth 100000 in
set_option maxHeartbeats 4000000 in
theorem gl_X2_faultOf_28 (a1 : Int32) (a2 : Int32) (a3 : Int32) (f : Nat) (I : am_I) (J : am_J) (Q : am_Q) (hG : Gr Q) (t0 : Int32) : Gd MX2_faultOf (am_o 3 0 0 (am_Fi I J Q (s_X2_faultOf_J28 a1 a2 a3 I t0))) 0 0 92 28 [some (.ref 3), some (.int a1), none, some (.int a3), none, none, none] [.int t0] I J Q := by
  unfold s_X2_faultOf_J28
  refine gd_istore (q := 30) rfl rfl (Nat.le_of_ble_eq_true rfl) rfl ?_
  refine gd_iload_n (q := 31) rfl rfl rfl ?_
  refine gd_cSi (q := 34) rfl rfl lk2_75 myX2_isHead sxX2_isHead (ct_X2_isHead f _ _ _ hG _) rfl rfl (Nat.le_of_ble_eq_true rfl) ⟨(Nat.le_of_ble_eq_true rfl), (Nat.le_of_ble_eq_true rfl)⟩ ?_
  refine gy_if_eq (q := 37) (r := 47) rfl rfl rfl (fun c_34 => ?_) (fun c_34 => ?_)
  · refine gd_iconst (v := 0) (q := 48) rfl rfl rfl ?_
    refine gd_istore (q := 50) rfl rfl (Nat.le_of_ble_eq_true rfl) rfl ?_
    refine gd_iload_n (q := 51) rfl rfl rfl ?_
    refine gd_bipush (v := 24) (q := 53) rfl rfl rfl ?_
    refine gy_icmp_ne (q := 56) (r := 69) rfl rfl rfl (fun c_53 => ?_) (fun c_53 => ?_)
    · refine gd_aload_n (q := 57) rfl rfl rfl ?_
      refine gd_getI (q := 60) rfl rfl rfl (Nat.le_of_ble_eq_true rfl) rfl rfl ?_
      refine gd_bipush (v := 6) (q := 62) rfl rfl rfl ?_
      refine gy_icmp_lt (q := 65) (r := 69) rfl rfl rfl (fun c_62 => ?_) (fun c_62 => ?_)
      · refine gd_iconst (v := 0) (q := 70) rfl rfl rfl ?_
        refine gd_istore (q := 72) rfl rfl (Nat.le_of_ble_eq_true rfl) rfl ?_
        refine gd_iload (q := 74) rfl rfl rfl ?_
        refine gy_if_ne (q := 77) (r := 87) rfl rfl rfl (fun c_74 => ?_) (fun c_74 => ?_)
        · refine gd_iload (q := 79) rfl rfl rfl ?_
          refine gd_if_ne (q := 82) (r := 87) rfl rfl rfl (fun c => absurd c (by decide)) (fun _ => ?_)
          refine gd_iload (q := 84) rfl rfl rfl ?_
          refine gd_if_eq (q := 87) (r := 91) rfl rfl rfl (fun _ => ?_) (fun c => absurd c (by decide))
          refine gd_iconst (v := 0) (q := 92) rfl rfl rfl ?_
          exact gd_ireturn rfl rfl rfl (Nat.le_refl 0) (Nat.le_refl 0) rfl
        · refine gd_iconst (v := 2) (q := 88) rfl rfl rfl ?_
          refine gd_goto (q := 92) rfl rfl ?_
          exact gd_ireturn rfl rfl rfl (Nat.le_refl 0) (Nat.le_refl 0) rfl
      · refine gd_iconst (v := 1) (q := 66) rfl rfl rfl ?_
        refine gd_goto (q := 70) rfl rfl ?_
        refine gd_istore (q := 72) rfl rfl (Nat.le_of_ble_eq_true rfl) rfl ?_
        refine gd_iload (q := 74) rfl rfl rfl ?_
        refine gy_if_ne (q := 77) (r := 87) rfl rfl rfl (fun c_74 => ?_) (fun c_74 => ?_)
        · refine gd_iload (q := 79) rfl rfl rfl ?_
          refine gd_if_ne (q := 82) (r := 87) rfl rfl rfl (fun c => absurd c (by decide)) (fun _ => ?_)
          refine gd_iload (q := 84) rfl rfl rfl ?_
          refine gd_if_eq (q := 87) (r := 91) rfl rfl rfl (fun c => absurd c (by decide)) (fun _ => ?_)
          refine gd_iconst (v := 2) (q := 88) rfl rfl rfl ?_
          refine gd_goto (q := 92) rfl rfl ?_
          exact gd_ireturn rfl rfl rfl (Nat.le_refl 0) (Nat.le_refl 0) rfl
        · refine gd_iconst (v := 2) (q := 88) rfl rfl rfl ?_
          refine gd_goto (q := 92) rfl rfl ?_
          exact gd_ireturn rfl rfl rfl (Nat.le_refl 0) (Nat.le_refl 0) rfl
    · refine gd_iconst (v := 0) (q := 70) rfl rfl rfl ?_
      refine gd_istore (q := 72) rfl rfl (Nat.le_of_ble_eq_true rfl) rfl ?_
      refine gd_iload (q := 74) rfl rfl rfl ?_
      refine gy_if_ne (q := 77) (r := 87) rfl rfl rfl (fun c_74 => ?_) (fun c_74 => ?_)
      · refine gd_iload (q := 79) rfl rfl rfl ?_
        refine gd_if_ne (q := 82) (r := 87) rfl rfl rfl (fun c => absurd c (by decide)) (fun _ => ?_)
        refine gd_iload (q := 84) rfl rfl rfl ?_
        refine gd_if_eq (q := 87) (r := 91) rfl rfl rfl (fun _ => ?_) (fun c => absurd c (by decide))
        refine gd_iconst (v := 0) (q := 92) rfl rfl rfl ?_
        exact gd_ireturn rfl rfl rfl (Nat.le_refl 0) (Nat.le_refl 0) rfl
      · refine gd_iconst (v := 2) (q := 88) rfl rfl rfl ?_
        refine gd_goto (q := 92) rfl rfl ?_
        exact gd_ireturn rfl rfl rfl (Nat.le_refl 0) (Nat.le_refl 0) rfl
  · refine gd_iload_n (q := 38) rfl rfl rfl ?_
    refine gd_bipush (v := 16) (q := 40) rfl rfl rfl ?_
    refine gy_icmp_lt (q := 43) (r := 47) rfl rfl rfl (fun c_40 => ?_) (fun c_40 => ?_)
    · refine gd_iconst (v := 0) (q := 48) rfl rfl rfl ?_
      refine gd_istore (q := 50) rfl rfl (Nat.le_of_ble_eq_true rfl) rfl ?_
      refine gd_iload_n (q := 51) rfl rfl rfl ?_
      refine gd_bipush (v := 24) (q := 53) rfl rfl rfl ?_
      refine gy_icmp_ne (q := 56) (r := 69) rfl rfl rfl (fun c_53 => ?_) (fun c_53 => ?_)
      · refine gd_aload_n (q := 57) rfl rfl rfl ?_
        refine gd_getI (q := 60) rfl rfl rfl (Nat.le_of_ble_eq_true rfl) rfl rfl ?_
        refine gd_bipush (v := 6) (q := 62) rfl rfl rfl ?_
        refine gy_icmp_lt (q := 65) (r := 69) rfl rfl rfl (fun c_62 => ?_) (fun c_62 => ?_)
        · refine gd_iconst (v := 0) (q := 70) rfl rfl rfl ?_
          refine gd_istore (q := 72) rfl rfl (Nat.le_of_ble_eq_true rfl) rfl ?_
          refine gd_iload (q := 74) rfl rfl rfl ?_
          refine gy_if_ne (q := 77) (r := 87) rfl rfl rfl (fun c_74 => ?_) (fun c_74 => ?_)
          · refine gd_iload (q := 79) rfl rfl rfl ?_
            refine gd_if_ne (q := 82) (r := 87) rfl rfl rfl (fun c => absurd c (by decide)) (fun _ => ?_)
            refine gd_iload (q := 84) rfl rfl rfl ?_
            refine gd_if_eq (q := 87) (r := 91) rfl rfl rfl (fun _ => ?_) (fun c => absurd c (by decide))
            refine gd_iconst (v := 0) (q := 92) rfl rfl rfl ?_
            exact gd_ireturn rfl rfl rfl (Nat.le_refl 0) (Nat.le_refl 0) rfl
          · refine gd_iconst (v := 2) (q := 88) rfl rfl rfl ?_
            refine gd_goto (q := 92) rfl rfl ?_
            exact gd_ireturn rfl rfl rfl (Nat.le_refl 0) (Nat.le_refl 0) rfl
        · refine gd_iconst (v := 1) (q := 66) rfl rfl rfl ?_
          refine gd_goto (q := 70) rfl rfl ?_
          refine gd_istore (q := 72) rfl rfl (Nat.le_of_ble_eq_true rfl) rfl ?_
          refine gd_iload (q := 74) rfl rfl rfl ?_
          refine gy_if_ne (q := 77) (r := 87) rfl rfl rfl (fun c_74 => ?_) (fun c_74 => ?_)
          · refine gd_iload (q := 79) rfl rfl rfl ?_
            refine gd_if_ne (q := 82) (r := 87) rfl rfl rfl (fun c => absurd c (by decide)) (fun _ => ?_)
            refine gd_iload (q := 84) rfl rfl rfl ?_
            refine gd_if_eq (q := 87) (r := 91) rfl rfl rfl (fun c => absurd c (by decide)) (fun _ => ?_)
            refine gd_iconst (v := 2) (q := 88) rfl rfl rfl ?_
            refine gd_goto (q := 92) rfl rfl ?_
            exact gd_ireturn rfl rfl rfl (Nat.le_refl 0) (Nat.le_refl 0) rfl
          · refine gd_iconst (v := 2) (q := 88) rfl rfl rfl ?_
            refine gd_goto (q := 92) rfl rfl ?_
            exact gd_ireturn rfl rfl rfl (Nat.le_refl 0) (Nat.le_refl 0) rfl
      · refine gd_iconst (v := 0) (q := 70) rfl rfl rfl ?_
        refine gd_istore (q := 72) rfl rfl (Nat.le_of_ble_eq_true rfl) rfl ?_
        refine gd_iload (q := 74) rfl rfl rfl ?_
        refine gy_if_ne (q := 77) (r := 87) rfl rfl rfl (fun c_74 => ?_) (fun c_74 => ?_)
        · refine gd_iload (q := 79) rfl rfl rfl ?_
          refine gd_if_ne (q := 82) (r := 87) rfl rfl rfl (fun c => absurd c (by decide)) (fun _ => ?_)
          refine gd_iload (q := 84) rfl rfl rfl ?_
          refine gd_if_eq (q := 87) (r := 91) rfl rfl rfl (fun _ => ?_) (fun c => absurd c (by decide))
          refine gd_iconst (v := 0) (q := 92) rfl rfl rfl ?_
          exact gd_ireturn rfl rfl rfl (Nat.le_refl 0) (Nat.le_refl 0) rfl
        · refine gd_iconst (v := 2) (q := 88) rfl rfl rfl ?_
          refine gd_goto (q := 92) rfl rfl ?_
          exact gd_ireturn rfl rfl rfl (Nat.le_refl 0) (Nat.le_refl 0) rfl
    · refine gd_iconst (v := 1) (q := 44) rfl rfl rfl ?_
      refine gd_goto (q := 48) rfl rfl ?_
      refine gd_istore (q := 50) rfl rfl (Nat.le_of_ble_eq_true rfl) rfl ?_
      refine gd_iload_n (q := 51) rfl rfl rfl ?_
      refine gd_bipush (v := 24) (q := 53) rfl rfl rfl ?_
      refine gy_icmp_ne (q := 56) (r := 69) rfl rfl rfl (fun c_53 => ?_) (fun c_53 => ?_)
      · refine gd_aload_n (q := 57) rfl rfl rfl ?_
        refine gd_getI (q := 60) rfl rfl rfl (Nat.le_of_ble_eq_true rfl) rfl rfl ?_
        refine gd_bipush (v := 6) (q := 62) rfl rfl rfl ?_
        refine gy_icmp_lt (q := 65) (r := 69) rfl rfl rfl (fun c_62 => ?_) (fun c_62 => ?_)
        · refine gd_iconst (v := 0) (q := 70) rfl rfl rfl ?_
          refine gd_istore (q := 72) rfl rfl (Nat.le_of_ble_eq_true rfl) rfl ?_
          refine gd_iload (q := 74) rfl rfl rfl ?_
          refine gy_if_ne (q := 77) (r := 87) rfl rfl rfl (fun c_74 => ?_) (fun c_74 => ?_)
          · refine gd_iload (q := 79) rfl rfl rfl ?_
            refine gd_if_ne (q := 82) (r := 87) rfl rfl rfl (fun _ => ?_) (fun c => absurd c (by decide))
            refine gd_iconst (v := 2) (q := 88) rfl rfl rfl ?_
            refine gd_goto (q := 92) rfl rfl ?_
            exact gd_ireturn rfl rfl rfl (Nat.le_refl 0) (Nat.le_refl 0) rfl
          · refine gd_iconst (v := 2) (q := 88) rfl rfl rfl ?_
            refine gd_goto (q := 92) rfl rfl ?_
            exact gd_ireturn rfl rfl rfl (Nat.le_refl 0) (Nat.le_refl 0) rfl
        · refine gd_iconst (v := 1) (q := 66) rfl rfl rfl ?_
          refine gd_goto (q := 70) rfl rfl ?_
          refine gd_istore (q := 72) rfl rfl (Nat.le_of_ble_eq_true rfl) rfl ?_
          refine gd_iload (q := 74) rfl rfl rfl ?_
          refine gy_if_ne (q := 77) (r := 87) rfl rfl rfl (fun c_74 => ?_) (fun c_74 => ?_)
          · refine gd_iload (q := 79) rfl rfl rfl ?_
            refine gd_if_ne (q := 82) (r := 87) rfl rfl rfl (fun _ => ?_) (fun c => absurd c (by decide))
            refine gd_iconst (v := 2) (q := 88) rfl rfl rfl ?_
            refine gd_goto (q := 92) rfl rfl ?_
            exact gd_ireturn rfl rfl rfl (Nat.le_refl 0) (Nat.le_refl 0) rfl
          · refine gd_iconst (v := 2) (q := 88) rfl rfl rfl ?_
            refine gd_goto (q := 92) rfl rfl ?_
            exact gd_ireturn rfl rfl rfl (Nat.le_refl 0) (Nat.le_refl 0) rfl
      · refine gd_iconst (v := 0) (q := 70) rfl rfl rfl ?_
        refine gd_istore (q := 72) rfl rfl (Nat.le_of_ble_eq_true rfl) rfl ?_
        refine gd_iload (q := 74) rfl rfl rfl ?_
        refine gy_if_ne (q := 77) (r := 87) rfl rfl rfl (fun c_74 => ?_) (fun c_74 => ?_)
        · refine gd_iload (q := 79) rfl rfl rfl ?_
          refine gd_if_ne (q := 82) (r := 87) rfl rfl rfl (fun _ => ?_) (fun c => absurd c (by decide))
          refine gd_iconst (v := 2) (q := 88) rfl rfl rfl ?_
          refine gd_goto (q := 92) rfl rfl ?_
          exact gd_ireturn rfl rfl rfl (Nat.le_refl 0) (Nat.le_refl 0) rfl
        · refine gd_iconst (v := 2) (q := 88) rfl rfl rfl ?_
          refine gd_goto (q := 92) rfl rfl ?_
          exact gd_ireturn rfl rfl rfl (Nat.le_refl 0) (Nat.le_refl 0) rfl
set_option maxRecDepth 100000 in
set_option maxHeartbeats 4000000 in
theorem gt_X2_faultOf (f : Nat) (I : am_I) (J : am_J) (Q : am_Q) (hG : Gr Q) (a1 : Int32) (a2 : Int32) (a3 : Int32) : Gd MX2_faultOf (am_o 3 0 0 (am_Fi I J Q (s_X2_faultOf I a1 a2 a3))) 0 0 92 0 [some (.ref 3), some (.int a1), some (.int a2), some (.int a3), none, none, none] [] I J Q := by
  unfold s_X2_faultOf
  refine gd_aload_n (q := 1) rfl rfl rfl ?_
  refine gd_iload_n (q := 2) rfl rfl rfl ?_
  refine gd_cVi (q := 5) rfl rfl lk2_71 myX2_goesOn vxX2_goesOn (ct_X2_goesOn f _ _ _ hG _) rfl (Nat.le_of_ble_eq_true rfl) rfl rfl (Nat.le_of_ble_eq_true rfl) rfl (Nat.le_of_ble_eq_true rfl) ⟨(Nat.le_of_ble_eq_true rfl), (Nat.le_of_ble_eq_true rfl)⟩ ?_
  refine gy_if_ne (q := 8) (r := 10) rfl rfl rfl (fun c_5 => ?_) (fun c_5 => ?_)
  · refine gd_iconst (v := 1) (q := 9) rfl rfl rfl ?_
    exact gd_ireturn rfl rfl rfl (Nat.le_refl 0) (Nat.le_refl 0) rfl
  · refine gd_iload_n (q := 11) rfl rfl rfl ?_
    refine gd_bipush (v := 26) (q := 13) rfl rfl rfl ?_
    refine gy_icmp_eq (q := 16) (r := 27) rfl rfl rfl (fun c_13 => ?_) (fun c_13 => ?_)
    · refine gd_iconst (v := 0) (q := 28) rfl rfl rfl ?_
      refine gd_drop 2 ?_
      exact gl_X2_faultOf_28 a1 a2 a3 f I J Q hG 0
    · refine gd_iload_n (q := 17) rfl rfl rfl ?_
      refine gd_sipush (v := 400) (q := 20) rfl rfl rfl ?_
      refine gy_icmp_lt (q := 23) (r := 27) rfl rfl rfl (fun c_20 => ?_) (fun c_20 => ?_)
      · refine gd_iconst (v := 0) (q := 28) rfl rfl rfl ?_
        refine gd_drop 2 ?_
        exact gl_X2_faultOf_28 a1 a2 a3 f I J Q hG 0
      · refine gd_iconst (v := 1) (q := 24) rfl rfl rfl ?_
        refine gd_goto (q := 28) rfl rfl ?_
        refine gd_drop 2 ?_
        exact gl_X2_faultOf_28 a1 a2 a3 f I J Q hG _
theorem ct_X2_faultOf (f : Nat) (I : am_I) (J : am_J) (Q : am_Q) (hG : Gr Q) (a1 : Int32) (a2 : Int32) (a3 : Int32) : Cm MX2_faultOf 3 0 0 92 [.ref 3, .int a1, .int a2, .int a3] I J Q (am_Fi I J Q (s_X2_faultOf I a1 a2 a3)) := cm_of (by decide) rfl IX2_faultOf_ok (Nat.le_of_ble_eq_true rfl) (gt_X2_faultOf f I J Q hG a1 a2 a3)
def s_X1_codeOf  (a0 : Int32) : Int32 := (10000 + a0)
set_option maxRecDepth 100000 in
set_option maxHeartbeats 4000000 in
theorem gt_X1_codeOf (f : Nat) (I : am_I) (J : am_J) (Q : am_Q) (hG : Gr Q) (a0 : Int32) : Gd MX1_codeOf (am_o 0 0 0 (am_Fi I J Q (s_X1_codeOf a0))) 0 0 92 0 [some (.int a0)] [] I J Q := by
  unfold s_X1_codeOf
  refine gd_sipush (v := 10000) (q := 3) rfl rfl rfl ?_
  refine gd_iload_n (q := 4) rfl rfl rfl ?_
  refine gd_iadd (q := 5) rfl rfl ?_
  exact gd_ireturn rfl rfl rfl (Nat.le_refl 0) (Nat.le_refl 0) rfl
theorem ct_X1_codeOf (f : Nat) (I : am_I) (J : am_J) (Q : am_Q) (hG : Gr Q) (a0 : Int32) : Cm MX1_codeOf 0 0 0 92 [.int a0] I J Q (am_Fi I J Q (s_X1_codeOf a0)) := cm_of (by decide) rfl IX1_codeOf_ok (Nat.le_of_ble_eq_true rfl) (gt_X1_codeOf f I J Q hG a0)
def s_X1_addCell (I : am_I) (a1 : Int32) : am_I := (if 400 ≤ (I 38 9) then I else (am_w (am_w I 45 (I 38 9).toNatClampNeg (vp_nar .short (a1.toInt16.toInt32))) 38 9 ((I 38 9) + 1)))
def p_X1_addCell (I : am_I) (a1 : Int32) : Prop := (if 400 ≤ (I 38 9) then True else vp_in (I 38 9) 400)
set_option maxRecDepth 100000 in
set_option maxHeartbeats 4000000 in
theorem gt_X1_addCell (f : Nat) (I : am_I) (J : am_J) (Q : am_Q) (hG : Gr Q) (a1 : Int32) (hp : p_X1_addCell I a1) : Gd MX1_addCell (am_o 0 0 0 (am_FvI J Q (s_X1_addCell I a1))) 0 0 92 0 [some (.ref 38), some (.int a1)] [] I J Q := by
  unfold s_X1_addCell
  unfold p_X1_addCell at hp
  refine gd_aload_n (q := 1) rfl rfl rfl ?_
  refine gd_getI (q := 4) rfl rfl rfl (Nat.le_of_ble_eq_true rfl) rfl rfl ?_
  refine gd_sipush (v := 400) (q := 7) rfl rfl rfl ?_
  refine gx_icmp_ge (q := 10) (r := 31) rfl rfl rfl hp (fun c_7 hp => ?_) (fun c_7 hp => ?_)
  · exact gd_return rfl rfl (Nat.le_refl 0) (Nat.le_refl 0) rfl
  · refine gd_aload_n (q := 11) rfl rfl rfl ?_
    refine gd_getR (q := 14) (r := 45) rfl rfl rfl (Nat.le_of_ble_eq_true rfl) rfl rfl (gr_38_6 hG) ?_
    refine gd_aload_n (q := 15) rfl rfl rfl ?_
    refine gd_getI (q := 18) rfl rfl rfl (Nat.le_of_ble_eq_true rfl) rfl rfl ?_
    refine gd_iload_n (q := 19) rfl rfl rfl ?_
    refine gd_i2s (q := 20) rfl rfl ?_
    refine gd_sast (q := 21) rfl rfl (Nat.le_of_ble_eq_true rfl) rfl hp ?_
    refine gd_aload_n (q := 22) rfl rfl rfl ?_
    refine gd_dup (q := 23) rfl rfl rfl ?_
    refine gd_getI (q := 26) rfl rfl rfl (Nat.le_of_ble_eq_true rfl) rfl rfl ?_
    refine gd_iconst (v := 1) (q := 27) rfl rfl rfl ?_
    refine gd_iadd (q := 28) rfl rfl ?_
    refine gd_putI (q := 31) rfl rfl rfl (Nat.le_of_ble_eq_true rfl) rfl rfl rfl (Or.inl rfl) ?_
    exact gd_return rfl rfl (Nat.le_refl 0) (Nat.le_refl 0) rfl
theorem ct_X1_addCell (f : Nat) (I : am_I) (J : am_J) (Q : am_Q) (hG : Gr Q) (a1 : Int32) (hp : p_X1_addCell I a1) : Cm MX1_addCell 0 0 0 92 [.ref 38, .int a1] I J Q (am_FvI J Q (s_X1_addCell I a1)) := cm_of (by decide) rfl IX1_addCell_ok (Nat.le_of_ble_eq_true rfl) (gt_X1_addCell f I J Q hG a1 hp)
def s_X2_unload_L0 (a2 : Int32)  : Nat → Nat → am_I → am_I
  | 0, _, I => I
  | g + 1, 0, I => (if (I 3 1) ≤ 0 then I else (if (s_X9_isOperator (I 4 ((I 3 1) - 1).toNatClampNeg)) = 0 then I else (if a2 = 17 then (s_X2_unload_L0 a2 g 1 I) else (if (I 4 ((I 3 1) - 1).toNatClampNeg) = 19 then (s_X2_unload_L0 a2 g 1 I) else I))))
  | g + 1, 1, I => (s_X2_unload_L0 a2 g 0 (s_X1_addCell (am_w I 3 1 ((I 3 1) - 1)) (s_X1_codeOf (I 4 ((I 3 1) - 1).toNatClampNeg))))
  | _ + 1, _ + 2, I => I
def p_X2_unload_L0 (a2 : Int32)  : Nat → Nat → am_I → Prop
  | 0, _, _ => False
  | g + 1, 0, I => (if (I 3 1) ≤ 0 then True else (vp_in ((I 3 1) - 1) 21 ∧ (if (s_X9_isOperator (I 4 ((I 3 1) - 1).toNatClampNeg)) = 0 then True else (if a2 = 17 then (p_X2_unload_L0 a2 g 1 I) else (vp_in ((I 3 1) - 1) 21 ∧ (if (I 4 ((I 3 1) - 1).toNatClampNeg) = 19 then (p_X2_unload_L0 a2 g 1 I) else True))))))
  | g + 1, 1, I => (vp_in ((I 3 1) - 1) 21 ∧ ((p_X1_addCell (am_w I 3 1 ((I 3 1) - 1)) (s_X1_codeOf (I 4 ((I 3 1) - 1).toNatClampNeg))) ∧ (p_X2_unload_L0 a2 g 0 (s_X1_addCell (am_w I 3 1 ((I 3 1) - 1)) (s_X1_codeOf (I 4 ((I 3 1) - 1).toNatClampNeg))))))
  | _ + 1, _ + 2, _ => False
def s_X2_unload (f : Nat) (I : am_I) (a2 : Int32) : am_I := (if (I 3 1) ≤ 0 then I else (if (s_X9_isOperator (I 4 ((I 3 1) - 1).toNatClampNeg)) = 0 then I else (if a2 = 17 then (s_X2_unload_L0 a2 f 1 I) else (if (I 4 ((I 3 1) - 1).toNatClampNeg) = 19 then (s_X2_unload_L0 a2 f 1 I) else I))))
def p_X2_unload (f : Nat) (I : am_I) (a2 : Int32) : Prop := (if (I 3 1) ≤ 0 then True else (vp_in ((I 3 1) - 1) 21 ∧ (if (s_X9_isOperator (I 4 ((I 3 1) - 1).toNatClampNeg)) = 0 then True else (if a2 = 17 then (p_X2_unload_L0 a2 f 1 I) else (vp_in ((I 3 1) - 1) 21 ∧ (if (I 4 ((I 3 1) - 1).toNatClampNeg) = 19 then (p_X2_unload_L0 a2 f 1 I) else True))))))
set_option maxRecDepth 100000 in
set_option maxHeartbeats 4000000 in
theorem gl_X2_unload_L0 (a2 : Int32) (f : Nat) (J : am_J) (Q : am_Q) (hG : Gr Q) : ∀ g : Nat, (∀ (I : am_I), p_X2_unload_L0 a2 g 0 I → Gd MX2_unload (am_o 1 0 0 (am_FvI J Q (s_X2_unload_L0 a2 g 0 I))) 0 0 92 0 [some (.ref 3), some (.ref 38), some (.int a2)] [] I J Q) ∧ (∀ (I : am_I), p_X2_unload_L0 a2 g 1 I → Gd MX2_unload (am_o 1 0 0 (am_FvI J Q (s_X2_unload_L0 a2 g 1 I))) 0 0 92 46 [some (.ref 3), some (.ref 38), some (.int a2)] [] I J Q) := by
  intro g
  induction g with
  | zero => exact ⟨fun _ hp => False.elim hp, fun _ hp => False.elim hp⟩
  | succ g ih =>
    have ih_0 := ih.1
    have ih_46 := ih.2
    refine ⟨?_, ?_⟩
    · intro I hp
      rw [s_X2_unload_L0]
      rw [p_X2_unload_L0] at hp
      refine gd_aload_n (q := 1) rfl rfl rfl ?_
      refine gd_getI (q := 4) rfl rfl rfl (Nat.le_of_ble_eq_true rfl) rfl rfl ?_
      refine gx_if_le (q := 7) (r := 75) rfl rfl rfl hp (fun c_4 hp => ?_) (fun c_4 hp => ?_)
      · exact gd_return rfl rfl (Nat.le_refl 0) (Nat.le_refl 0) rfl
      · refine gd_aload_n (q := 8) rfl rfl rfl ?_
        refine gd_getR (q := 11) (r := 4) rfl rfl rfl (Nat.le_of_ble_eq_true rfl) rfl rfl (gr_3_0 hG) ?_
        refine gd_aload_n (q := 12) rfl rfl rfl ?_
        refine gd_getI (q := 15) rfl rfl rfl (Nat.le_of_ble_eq_true rfl) rfl rfl ?_
        refine gd_iconst (v := 1) (q := 16) rfl rfl rfl ?_
        refine gd_isub (q := 17) rfl rfl ?_
        refine gd_iald (q := 18) rfl rfl (Nat.le_of_ble_eq_true rfl) rfl hp.1 ?_
        replace hp := hp.2
        refine gd_cSi (q := 21) rfl rfl lk2_84 myX9_isOperator sxX9_isOperator (ct_X9_isOperator f _ _ _ hG _) rfl rfl (Nat.le_of_ble_eq_true rfl) ⟨(Nat.le_of_ble_eq_true rfl), (Nat.le_of_ble_eq_true rfl)⟩ ?_
        refine gx_if_eq (q := 24) (r := 75) rfl rfl rfl hp (fun c_21 hp => ?_) (fun c_21 hp => ?_)
        · exact gd_return rfl rfl (Nat.le_refl 0) (Nat.le_refl 0) rfl
        · refine gd_iload_n (q := 25) rfl rfl rfl ?_
          refine gd_bipush (v := 17) (q := 27) rfl rfl rfl ?_
          refine gx_icmp_eq (q := 30) (r := 46) rfl rfl rfl hp (fun c_27 hp => ?_) (fun c_27 hp => ?_)
          · exact ih_46 _ hp
          · refine gd_aload_n (q := 31) rfl rfl rfl ?_
            refine gd_getR (q := 34) (r := 4) rfl rfl rfl (Nat.le_of_ble_eq_true rfl) rfl rfl (gr_3_0 hG) ?_
            refine gd_aload_n (q := 35) rfl rfl rfl ?_
            refine gd_getI (q := 38) rfl rfl rfl (Nat.le_of_ble_eq_true rfl) rfl rfl ?_
            refine gd_iconst (v := 1) (q := 39) rfl rfl rfl ?_
            refine gd_isub (q := 40) rfl rfl ?_
            refine gd_iald (q := 41) rfl rfl (Nat.le_of_ble_eq_true rfl) rfl hp.1 ?_
            replace hp := hp.2
            refine gd_bipush (v := 19) (q := 43) rfl rfl rfl ?_
            refine gx_icmp_ne (q := 46) (r := 75) rfl rfl rfl hp (fun c_43 hp => ?_) (fun c_43 hp => ?_)
            · exact ih_46 _ hp
            · exact gd_return rfl rfl (Nat.le_refl 0) (Nat.le_refl 0) rfl
    · intro I hp
      rw [s_X2_unload_L0]
      rw [p_X2_unload_L0] at hp
      refine gd_aload_n (q := 47) rfl rfl rfl ?_
      refine gd_dup (q := 48) rfl rfl rfl ?_
      refine gd_getI (q := 51) rfl rfl rfl (Nat.le_of_ble_eq_true rfl) rfl rfl ?_
      refine gd_iconst (v := 1) (q := 52) rfl rfl rfl ?_
      refine gd_isub (q := 53) rfl rfl ?_
      refine gd_putI (q := 56) rfl rfl rfl (Nat.le_of_ble_eq_true rfl) rfl rfl rfl (Or.inl rfl) ?_
      refine gd_aload_n (q := 57) rfl rfl rfl ?_
      refine gd_aload_n (q := 58) rfl rfl rfl ?_
      refine gd_getR (q := 61) (r := 4) rfl rfl rfl (Nat.le_of_ble_eq_true rfl) rfl rfl (gr_3_0 hG) ?_
      refine gd_aload_n (q := 62) rfl rfl rfl ?_
      refine gd_getI (q := 65) rfl rfl rfl (Nat.le_of_ble_eq_true rfl) rfl rfl ?_
      refine gd_iald (q := 66) rfl rfl (Nat.le_of_ble_eq_true rfl) rfl hp.1 ?_
      replace hp := hp.2
      refine gd_cSi (q := 69) rfl rfl lk2_106 myX1_codeOf sxX1_codeOf (ct_X1_codeOf f _ _ _ hG _) rfl rfl (Nat.le_of_ble_eq_true rfl) ⟨(Nat.le_of_ble_eq_true rfl), (Nat.le_of_ble_eq_true rfl)⟩ ?_
      refine gd_cVv (q := 72) rfl rfl lk2_110 myX1_addCell vxX1_addCell (ct_X1_addCell f _ _ _ hG _ hp.1) rfl (Nat.le_of_ble_eq_true rfl) rfl rfl (Nat.le_of_ble_eq_true rfl) rfl (Nat.le_of_ble_eq_true rfl) ⟨(Nat.le_of_ble_eq_true rfl), (Nat.le_of_ble_eq_true rfl)⟩ ?_
      replace hp := hp.2
      refine gd_goto (q := 0) rfl rfl ?_
      exact ih_0 _ hp
theorem gl_X2_unload_0 (a2 : Int32) (f : Nat) (J : am_J) (Q : am_Q) (hG : Gr Q) (g : Nat) : ∀ (I : am_I), p_X2_unload_L0 a2 g 0 I → Gd MX2_unload (am_o 1 0 0 (am_FvI J Q (s_X2_unload_L0 a2 g 0 I))) 0 0 92 0 [some (.ref 3), some (.ref 38), some (.int a2)] [] I J Q := (gl_X2_unload_L0 a2 f J Q hG g).1
theorem gl_X2_unload_46 (a2 : Int32) (f : Nat) (J : am_J) (Q : am_Q) (hG : Gr Q) (g : Nat) : ∀ (I : am_I), p_X2_unload_L0 a2 g 1 I → Gd MX2_unload (am_o 1 0 0 (am_FvI J Q (s_X2_unload_L0 a2 g 1 I))) 0 0 92 46 [some (.ref 3), some (.ref 38), some (.int a2)] [] I J Q := (gl_X2_unload_L0 a2 f J Q hG g).2
set_option maxRecDepth 100000 in
set_option maxHeartbeats 4000000 in
theorem gt_X2_unload (f : Nat) (I : am_I) (J : am_J) (Q : am_Q) (hG : Gr Q) (a2 : Int32) (hp : p_X2_unload f I a2) : Gd MX2_unload (am_o 1 0 0 (am_FvI J Q (s_X2_unload f I a2))) 0 0 92 0 [some (.ref 3), some (.ref 38), some (.int a2)] [] I J Q := by
  unfold s_X2_unload
  unfold p_X2_unload at hp
  refine gd_aload_n (q := 1) rfl rfl rfl ?_
  refine gd_getI (q := 4) rfl rfl rfl (Nat.le_of_ble_eq_true rfl) rfl rfl ?_
  refine gx_if_le (q := 7) (r := 75) rfl rfl rfl hp (fun c_4 hp => ?_) (fun c_4 hp => ?_)
  · exact gd_return rfl rfl (Nat.le_refl 0) (Nat.le_refl 0) rfl
  · refine gd_aload_n (q := 8) rfl rfl rfl ?_
    refine gd_getR (q := 11) (r := 4) rfl rfl rfl (Nat.le_of_ble_eq_true rfl) rfl rfl (gr_3_0 hG) ?_
    refine gd_aload_n (q := 12) rfl rfl rfl ?_
    refine gd_getI (q := 15) rfl rfl rfl (Nat.le_of_ble_eq_true rfl) rfl rfl ?_
    refine gd_iconst (v := 1) (q := 16) rfl rfl rfl ?_
    refine gd_isub (q := 17) rfl rfl ?_
    refine gd_iald (q := 18) rfl rfl (Nat.le_of_ble_eq_true rfl) rfl hp.1 ?_
    replace hp := hp.2
    refine gd_cSi (q := 21) rfl rfl lk2_84 myX9_isOperator sxX9_isOperator (ct_X9_isOperator f _ _ _ hG _) rfl rfl (Nat.le_of_ble_eq_true rfl) ⟨(Nat.le_of_ble_eq_true rfl), (Nat.le_of_ble_eq_true rfl)⟩ ?_
    refine gx_if_eq (q := 24) (r := 75) rfl rfl rfl hp (fun c_21 hp => ?_) (fun c_21 hp => ?_)
    · exact gd_return rfl rfl (Nat.le_refl 0) (Nat.le_refl 0) rfl
    · refine gd_iload_n (q := 25) rfl rfl rfl ?_
      refine gd_bipush (v := 17) (q := 27) rfl rfl rfl ?_
      refine gx_icmp_eq (q := 30) (r := 46) rfl rfl rfl hp (fun c_27 hp => ?_) (fun c_27 hp => ?_)
      · exact gl_X2_unload_46 a2 f J Q hG f _ hp
      · refine gd_aload_n (q := 31) rfl rfl rfl ?_
        refine gd_getR (q := 34) (r := 4) rfl rfl rfl (Nat.le_of_ble_eq_true rfl) rfl rfl (gr_3_0 hG) ?_
        refine gd_aload_n (q := 35) rfl rfl rfl ?_
        refine gd_getI (q := 38) rfl rfl rfl (Nat.le_of_ble_eq_true rfl) rfl rfl ?_
        refine gd_iconst (v := 1) (q := 39) rfl rfl rfl ?_
        refine gd_isub (q := 40) rfl rfl ?_
        refine gd_iald (q := 41) rfl rfl (Nat.le_of_ble_eq_true rfl) rfl hp.1 ?_
        replace hp := hp.2
        refine gd_bipush (v := 19) (q := 43) rfl rfl rfl ?_
        refine gx_icmp_ne (q := 46) (r := 75) rfl rfl rfl hp (fun c_43 hp => ?_) (fun c_43 hp => ?_)
        · exact gl_X2_unload_46 a2 f J Q hG f _ hp
        · exact gd_return rfl rfl (Nat.le_refl 0) (Nat.le_refl 0) rfl
theorem ct_X2_unload (f : Nat) (I : am_I) (J : am_J) (Q : am_Q) (hG : Gr Q) (a2 : Int32) (hp : p_X2_unload f I a2) : Cm MX2_unload 1 0 0 92 [.ref 3, .ref 38, .int a2] I J Q (am_FvI J Q (s_X2_unload f I a2)) := cm_of (by decide) rfl IX2_unload_ok (Nat.le_of_ble_eq_true rfl) (gt_X2_unload f I J Q hG a2 hp)
def s_X2_hold (I : am_I) (a1 : Int32) : am_I := (if 21 ≤ (I 3 1) then I else (am_w (am_w I 4 (I 3 1).toNatClampNeg a1) 3 1 ((I 3 1) + 1)))
def p_X2_hold (I : am_I) (a1 : Int32) : Prop := (if 21 ≤ (I 3 1) then True else vp_in (I 3 1) 21)
set_option maxRecDepth 100000 in
set_option maxHeartbeats 4000000 in
theorem gt_X2_hold (f : Nat) (I : am_I) (J : am_J) (Q : am_Q) (hG : Gr Q) (a1 : Int32) (hp : p_X2_hold I a1) : Gd MX2_hold (am_o 0 0 0 (am_FvI J Q (s_X2_hold I a1))) 0 0 92 0 [some (.ref 3), some (.int a1)] [] I J Q := by
  unfold s_X2_hold
  unfold p_X2_hold at hp
  refine gd_aload_n (q := 1) rfl rfl rfl ?_
  refine gd_getI (q := 4) rfl rfl rfl (Nat.le_of_ble_eq_true rfl) rfl rfl ?_
  refine gd_aload_n (q := 5) rfl rfl rfl ?_
  refine gd_getR (q := 8) (r := 4) rfl rfl rfl (Nat.le_of_ble_eq_true rfl) rfl rfl (gr_3_0 hG) ?_
  refine gd_alen (v := 21) (ty := .int) (q := 9) rfl rfl (Nat.le_of_ble_eq_true rfl) rfl (fun _ => rfl) rfl ?_
  refine gx_icmp_ge (q := 12) (r := 32) rfl rfl rfl hp (fun c_9 hp => ?_) (fun c_9 hp => ?_)
  · exact gd_return rfl rfl (Nat.le_refl 0) (Nat.le_refl 0) rfl
  · refine gd_aload_n (q := 13) rfl rfl rfl ?_
    refine gd_getR (q := 16) (r := 4) rfl rfl rfl (Nat.le_of_ble_eq_true rfl) rfl rfl (gr_3_0 hG) ?_
    refine gd_aload_n (q := 17) rfl rfl rfl ?_
    refine gd_getI (q := 20) rfl rfl rfl (Nat.le_of_ble_eq_true rfl) rfl rfl ?_
    refine gd_iload_n (q := 21) rfl rfl rfl ?_
    refine gd_iast (q := 22) rfl rfl (Nat.le_of_ble_eq_true rfl) rfl hp ?_
    refine gd_aload_n (q := 23) rfl rfl rfl ?_
    refine gd_dup (q := 24) rfl rfl rfl ?_
    refine gd_getI (q := 27) rfl rfl rfl (Nat.le_of_ble_eq_true rfl) rfl rfl ?_
    refine gd_iconst (v := 1) (q := 28) rfl rfl rfl ?_
    refine gd_iadd (q := 29) rfl rfl ?_
    refine gd_putI (q := 32) rfl rfl rfl (Nat.le_of_ble_eq_true rfl) rfl rfl rfl (Or.inl rfl) ?_
    exact gd_return rfl rfl (Nat.le_refl 0) (Nat.le_refl 0) rfl
theorem ct_X2_hold (f : Nat) (I : am_I) (J : am_J) (Q : am_Q) (hG : Gr Q) (a1 : Int32) (hp : p_X2_hold I a1) : Cm MX2_hold 0 0 0 92 [.ref 3, .int a1] I J Q (am_FvI J Q (s_X2_hold I a1)) := cm_of (by decide) rfl IX2_hold_ok (Nat.le_of_ble_eq_true rfl) (gt_X2_hold f I J Q hG a1 hp)
def s_X2_takeBracket (f : Nat) (I : am_I) (a1 : Int32) : am_I := (if a1 = 24 then (am_w (am_w (s_X2_hold I 24) 3 2 (((s_X2_hold I 24) 3 2) + 1)) 3 3 5) else (if ((s_X2_unload f I 17) 3 1) ≤ 0 then (am_w (am_w (s_X2_unload f I 17) 3 2 (((s_X2_unload f I 17) 3 2) - 1)) 3 3 6) else (am_w (am_w (am_w (s_X2_unload f I 17) 3 1 (((s_X2_unload f I 17) 3 1) - 1)) 3 2 (((s_X2_unload f I 17) 3 2) - 1)) 3 3 6)))
def p_X2_takeBracket (f : Nat) (I : am_I) (a1 : Int32) : Prop := (if a1 = 24 then (p_X2_hold I 24) else (p_X2_unload f I 17))
set_option maxRecDepth 100000 in
set_option maxHeartbeats 4000000 in
theorem gt_X2_takeBracket (f : Nat) (I : am_I) (J : am_J) (Q : am_Q) (hG : Gr Q) (a1 : Int32) (hp : p_X2_takeBracket f I a1) : Gd MX2_takeBracket (am_o 2 0 0 (am_FvI J Q (s_X2_takeBracket f I a1))) 0 0 92 0 [some (.ref 3), some (.int a1), some (.ref 38)] [] I J Q := by
  unfold s_X2_takeBracket
  unfold p_X2_takeBracket at hp
  refine gd_iload_n (q := 1) rfl rfl rfl ?_
  refine gd_bipush (v := 24) (q := 3) rfl rfl rfl ?_
  refine gx_icmp_ne (q := 6) (r := 28) rfl rfl rfl hp (fun c_3 hp => ?_) (fun c_3 hp => ?_)
  · refine gd_aload_n (q := 7) rfl rfl rfl ?_
    refine gd_bipush (v := 24) (q := 9) rfl rfl rfl ?_
    refine gd_cVv (q := 12) rfl rfl lk2_121 myX2_hold vxX2_hold (ct_X2_hold f _ _ _ hG _ hp) rfl (Nat.le_of_ble_eq_true rfl) rfl rfl (Nat.le_of_ble_eq_true rfl) rfl (Nat.le_of_ble_eq_true rfl) ⟨(Nat.le_of_ble_eq_true rfl), (Nat.le_of_ble_eq_true rfl)⟩ ?_
    refine gd_aload_n (q := 13) rfl rfl rfl ?_
    refine gd_dup (q := 14) rfl rfl rfl ?_
    refine gd_getI (q := 17) rfl rfl rfl (Nat.le_of_ble_eq_true rfl) rfl rfl ?_
    refine gd_iconst (v := 1) (q := 18) rfl rfl rfl ?_
    refine gd_iadd (q := 19) rfl rfl ?_
    refine gd_putI (q := 22) rfl rfl rfl (Nat.le_of_ble_eq_true rfl) rfl rfl rfl (Or.inl rfl) ?_
    refine gd_aload_n (q := 23) rfl rfl rfl ?_
    refine gd_iconst (v := 5) (q := 24) rfl rfl rfl ?_
    refine gd_putI (q := 27) rfl rfl rfl (Nat.le_of_ble_eq_true rfl) rfl rfl rfl (Or.inl rfl) ?_
    exact gd_return rfl rfl (Nat.le_refl 0) (Nat.le_refl 0) rfl
  · refine gd_aload_n (q := 29) rfl rfl rfl ?_
    refine gd_aload_n (q := 30) rfl rfl rfl ?_
    refine gd_bipush (v := 17) (q := 32) rfl rfl rfl ?_
    refine gd_cVv (q := 35) rfl rfl lk2_117 myX2_unload vxX2_unload (ct_X2_unload f _ _ _ hG _ hp) rfl (Nat.le_of_ble_eq_true rfl) rfl rfl (Nat.le_of_ble_eq_true rfl) rfl (Nat.le_of_ble_eq_true rfl) ⟨(Nat.le_of_ble_eq_true rfl), (Nat.le_of_ble_eq_true rfl)⟩ ?_
    refine gd_aload_n (q := 36) rfl rfl rfl ?_
    refine gd_getI (q := 39) rfl rfl rfl (Nat.le_of_ble_eq_true rfl) rfl rfl ?_
    refine gy_if_le (q := 42) (r := 52) rfl rfl rfl (fun c_39 => ?_) (fun c_39 => ?_)
    · refine gd_aload_n (q := 53) rfl rfl rfl ?_
      refine gd_dup (q := 54) rfl rfl rfl ?_
      refine gd_getI (q := 57) rfl rfl rfl (Nat.le_of_ble_eq_true rfl) rfl rfl ?_
      refine gd_iconst (v := 1) (q := 58) rfl rfl rfl ?_
      refine gd_isub (q := 59) rfl rfl ?_
      refine gd_putI (q := 62) rfl rfl rfl (Nat.le_of_ble_eq_true rfl) rfl rfl rfl (Or.inl rfl) ?_
      refine gd_aload_n (q := 63) rfl rfl rfl ?_
      refine gd_bipush (v := 6) (q := 65) rfl rfl rfl ?_
      refine gd_putI (q := 68) rfl rfl rfl (Nat.le_of_ble_eq_true rfl) rfl rfl rfl (Or.inl rfl) ?_
      exact gd_return rfl rfl (Nat.le_refl 0) (Nat.le_refl 0) rfl
    · refine gd_aload_n (q := 43) rfl rfl rfl ?_
      refine gd_dup (q := 44) rfl rfl rfl ?_
      refine gd_getI (q := 47) rfl rfl rfl (Nat.le_of_ble_eq_true rfl) rfl rfl ?_
      refine gd_iconst (v := 1) (q := 48) rfl rfl rfl ?_
      refine gd_isub (q := 49) rfl rfl ?_
      refine gd_putI (q := 52) rfl rfl rfl (Nat.le_of_ble_eq_true rfl) rfl rfl rfl (Or.inl rfl) ?_
      refine gd_aload_n (q := 53) rfl rfl rfl ?_
      refine gd_dup (q := 54) rfl rfl rfl ?_
      refine gd_getI (q := 57) rfl rfl rfl (Nat.le_of_ble_eq_true rfl) rfl rfl ?_
      refine gd_iconst (v := 1) (q := 58) rfl rfl rfl ?_
      refine gd_isub (q := 59) rfl rfl ?_
      refine gd_putI (q := 62) rfl rfl rfl (Nat.le_of_ble_eq_true rfl) rfl rfl rfl (Or.inl rfl) ?_
      refine gd_aload_n (q := 63) rfl rfl rfl ?_
      refine gd_bipush (v := 6) (q := 65) rfl rfl rfl ?_
      refine gd_putI (q := 68) rfl rfl rfl (Nat.le_of_ble_eq_true rfl) rfl rfl rfl (Or.inl rfl) ?_
      exact gd_return rfl rfl (Nat.le_refl 0) (Nat.le_refl 0) rfl
theorem ct_X2_takeBracket (f : Nat) (I : am_I) (J : am_J) (Q : am_Q) (hG : Gr Q) (a1 : Int32) (hp : p_X2_takeBracket f I a1) : Cm MX2_takeBracket 2 0 0 92 [.ref 3, .int a1, .ref 38] I J Q (am_FvI J Q (s_X2_takeBracket f I a1)) := cm_of (by decide) rfl IX2_takeBracket_ok (Nat.le_of_ble_eq_true rfl) (gt_X2_takeBracket f I J Q hG a1 hp)
def s_X1_hasDay_L2 (a1 : Int32) (a2 : Int32) (I : am_I) : Nat → Int32 → Int32
  | 0, _ => 0
  | g + 1, v3 => (if a2 ≤ v3 then 0 else (if (I 45 v3.toNatClampNeg) = (s_X1_codeOf 9) then 1 else (if (I 45 v3.toNatClampNeg) = (s_X1_codeOf 10) then 1 else (s_X1_hasDay_L2 a1 a2 I g (v3 + 1)))))
def p_X1_hasDay_L2 (a1 : Int32) (a2 : Int32) (I : am_I) : Nat → Int32 → Prop
  | 0, _ => False
  | g + 1, v3 => (if a2 ≤ v3 then True else (vp_in v3 400 ∧ (if (I 45 v3.toNatClampNeg) = (s_X1_codeOf 9) then True else (vp_in v3 400 ∧ (if (I 45 v3.toNatClampNeg) = (s_X1_codeOf 10) then True else (p_X1_hasDay_L2 a1 a2 I g (v3 + 1)))))))
theorem z_X1_hasDay_L2 (a1 : Int32) (a2 : Int32) (I : am_I) : ∀ (g : Nat), (∀ (v3 : Int32), (s_X1_hasDay_L2 a1 a2 I g v3) = 0 ∨ (s_X1_hasDay_L2 a1 a2 I g v3) = 1) := by
  intro g
  induction g with
  | zero => (intros; exact Or.inl rfl)
  | succ g ih =>
    intro v3
    rw [s_X1_hasDay_L2]
    repeat' split
    all_goals first | exact Or.inl rfl | exact Or.inr rfl | exact ih _
def s_X1_hasDay (f : Nat) (I : am_I) (a1 : Int32) (a2 : Int32) : Int32 := (s_X1_hasDay_L2 a1 a2 I f a1)
def p_X1_hasDay (f : Nat) (I : am_I) (a1 : Int32) (a2 : Int32) : Prop := (p_X1_hasDay_L2 a1 a2 I f a1)
theorem z_X1_hasDay (f : Nat) (I : am_I) (a1 : Int32) (a2 : Int32) : (s_X1_hasDay f I a1 a2) = 0 ∨ (s_X1_hasDay f I a1 a2) = 1 := by
  unfold s_X1_hasDay
  repeat' split
  all_goals first | exact Or.inl rfl | exact Or.inr rfl | exact (z_X1_hasDay_L2 _ _ _ _) _
set_option maxRecDepth 100000 in
set_option maxHeartbeats 4000000 in
theorem gl_X1_hasDay_L2 (a1 : Int32) (a2 : Int32) (f : Nat) (I : am_I) (J : am_J) (Q : am_Q) (hG : Gr Q) : ∀ g : Nat, (∀ (v3 : Int32), p_X1_hasDay_L2 a1 a2 I g v3 → Gd MX1_hasDay (am_o 1 0 0 (am_Fi I J Q (s_X1_hasDay_L2 a1 a2 I g v3))) 0 0 92 2 [some (.ref 38), none, some (.int a2), some (.int v3)] [] I J Q) := by
  intro g
  induction g with
  | zero => exact fun _ hp => False.elim hp
  | succ g ih =>
    have ih_2 := ih
    intro v3 hp
    rw [s_X1_hasDay_L2]
    rw [p_X1_hasDay_L2] at hp
    refine gd_iload_n (q := 3) rfl rfl rfl ?_
    refine gd_iload_n (q := 4) rfl rfl rfl ?_
    refine gx_icmp_ge (q := 7) (r := 43) rfl rfl rfl hp (fun c_4 hp => ?_) (fun c_4 hp => ?_)
    · refine gd_iconst (v := 0) (q := 44) rfl rfl rfl ?_
      exact gd_ireturn rfl rfl rfl (Nat.le_refl 0) (Nat.le_refl 0) rfl
    · refine gd_aload_n (q := 8) rfl rfl rfl ?_
      refine gd_getR (q := 11) (r := 45) rfl rfl rfl (Nat.le_of_ble_eq_true rfl) rfl rfl (gr_38_6 hG) ?_
      refine gd_iload_n (q := 12) rfl rfl rfl ?_
      refine gd_sald (q := 13) rfl rfl (Nat.le_of_ble_eq_true rfl) rfl hp.1 ?_
      replace hp := hp.2
      refine gd_bipush (v := 9) (q := 15) rfl rfl rfl ?_
      refine gd_cSi (q := 18) rfl rfl lk1_57 myX1_codeOf sxX1_codeOf (ct_X1_codeOf f _ _ _ hG _) rfl rfl (Nat.le_of_ble_eq_true rfl) ⟨(Nat.le_of_ble_eq_true rfl), (Nat.le_of_ble_eq_true rfl)⟩ ?_
      refine gx_icmp_eq (q := 21) (r := 35) rfl rfl rfl hp (fun c_18 hp => ?_) (fun c_18 hp => ?_)
      · refine gd_iconst (v := 1) (q := 36) rfl rfl rfl ?_
        exact gd_ireturn rfl rfl rfl (Nat.le_refl 0) (Nat.le_refl 0) rfl
      · refine gd_aload_n (q := 22) rfl rfl rfl ?_
        refine gd_getR (q := 25) (r := 45) rfl rfl rfl (Nat.le_of_ble_eq_true rfl) rfl rfl (gr_38_6 hG) ?_
        refine gd_iload_n (q := 26) rfl rfl rfl ?_
        refine gd_sald (q := 27) rfl rfl (Nat.le_of_ble_eq_true rfl) rfl hp.1 ?_
        replace hp := hp.2
        refine gd_bipush (v := 10) (q := 29) rfl rfl rfl ?_
        refine gd_cSi (q := 32) rfl rfl lk1_57 myX1_codeOf sxX1_codeOf (ct_X1_codeOf f _ _ _ hG _) rfl rfl (Nat.le_of_ble_eq_true rfl) ⟨(Nat.le_of_ble_eq_true rfl), (Nat.le_of_ble_eq_true rfl)⟩ ?_
        refine gx_icmp_ne (q := 35) (r := 37) rfl rfl rfl hp (fun c_32 hp => ?_) (fun c_32 hp => ?_)
        · refine gd_iconst (v := 1) (q := 36) rfl rfl rfl ?_
          exact gd_ireturn rfl rfl rfl (Nat.le_refl 0) (Nat.le_refl 0) rfl
        · refine gd_iinc (v := (v3 + 1)) (q := 40) rfl rfl rfl rfl (Nat.le_of_ble_eq_true rfl) rfl ?_
          refine gd_goto (q := 2) rfl rfl ?_
          exact ih_2 _ hp
theorem gl_X1_hasDay_2 (a1 : Int32) (a2 : Int32) (f : Nat) (I : am_I) (J : am_J) (Q : am_Q) (hG : Gr Q) (g : Nat) : ∀ (v3 : Int32), p_X1_hasDay_L2 a1 a2 I g v3 → Gd MX1_hasDay (am_o 1 0 0 (am_Fi I J Q (s_X1_hasDay_L2 a1 a2 I g v3))) 0 0 92 2 [some (.ref 38), none, some (.int a2), some (.int v3)] [] I J Q := (gl_X1_hasDay_L2 a1 a2 f I J Q hG g)
set_option maxRecDepth 100000 in
set_option maxHeartbeats 4000000 in
theorem gt_X1_hasDay (f : Nat) (I : am_I) (J : am_J) (Q : am_Q) (hG : Gr Q) (a1 : Int32) (a2 : Int32) (hp : p_X1_hasDay f I a1 a2) : Gd MX1_hasDay (am_o 1 0 0 (am_Fi I J Q (s_X1_hasDay f I a1 a2))) 0 0 92 0 [some (.ref 38), some (.int a1), some (.int a2), none] [] I J Q := by
  unfold s_X1_hasDay
  unfold p_X1_hasDay at hp
  refine gd_iload_n (q := 1) rfl rfl rfl ?_
  refine gd_istore_n (q := 2) rfl rfl (Nat.le_of_ble_eq_true rfl) rfl ?_
  refine gd_drop 1 ?_
  exact gl_X1_hasDay_2 a1 a2 f I J Q hG f _ hp
theorem ct_X1_hasDay (f : Nat) (I : am_I) (J : am_J) (Q : am_Q) (hG : Gr Q) (a1 : Int32) (a2 : Int32) (hp : p_X1_hasDay f I a1 a2) : Cm MX1_hasDay 1 0 0 92 [.ref 38, .int a1, .int a2] I J Q (am_Fi I J Q (s_X1_hasDay f I a1 a2)) := cm_of (by decide) rfl IX1_hasDay_ok (Nat.le_of_ble_eq_true rfl) (gt_X1_hasDay f I J Q hG a1 a2 hp)
