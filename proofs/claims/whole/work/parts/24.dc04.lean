def s_X7_add (I : am_I) (a1 : Int32) : Int32 × am_I := (if (I 13 1) < 12 then ((((I 13 1) + 1) - 1), (am_w (am_w I 14 (I 13 1).toNatClampNeg ((s_X7_lineOf I a1) ||| (1 <<< ((I 13 1) &&& 31)))) 13 1 ((I 13 1) + 1))) else ((-1), I))
def p_X7_add (I : am_I) (a1 : Int32) : Prop := (if (I 13 1) < 12 then ((p_X7_lineOf I a1) ∧ vp_in (I 13 1) 12) else True)
set_option maxRecDepth 100000 in
set_option maxHeartbeats 4000000 in
theorem gt_X7_add (f : Nat) (I : am_I) (J : am_J) (Q : am_Q) (hG : Gr Q) (a1 : Int32) (hp : p_X7_add I a1) : Gd MX7_add (am_o 3 0 0 (am_FiI J Q (s_X7_add I a1))) 0 0 92 0 [some (.ref 13), some (.int a1)] [] I J Q := by
  unfold s_X7_add
  unfold p_X7_add at hp
  refine gd_aload_n (q := 1) rfl rfl rfl ?_
  refine gd_getI (q := 4) rfl rfl rfl (Nat.le_of_ble_eq_true rfl) rfl rfl ?_
  refine gd_bipush (v := 12) (q := 6) rfl rfl rfl ?_
  refine gx_icmp_lt (q := 9) (r := 11) rfl rfl rfl hp (fun c_6 hp => ?_) (fun c_6 hp => ?_)
  · refine gd_aload_n (q := 12) rfl rfl rfl ?_
    refine gd_getR (q := 15) (r := 14) rfl rfl rfl (Nat.le_of_ble_eq_true rfl) rfl rfl (gr_13_0 hG) ?_
    refine gd_aload_n (q := 16) rfl rfl rfl ?_
    refine gd_getI (q := 19) rfl rfl rfl (Nat.le_of_ble_eq_true rfl) rfl rfl ?_
    refine gd_aload_n (q := 20) rfl rfl rfl ?_
    refine gd_iload_n (q := 21) rfl rfl rfl ?_
    refine gd_cVi (q := 24) rfl rfl lk7_23 myX7_lineOf vxX7_lineOf (ct_X7_lineOf f _ _ _ hG _ hp.1) rfl (Nat.le_of_ble_eq_true rfl) rfl rfl (Nat.le_of_ble_eq_true rfl) rfl (Nat.le_of_ble_eq_true rfl) ⟨(Nat.le_of_ble_eq_true rfl), (Nat.le_of_ble_eq_true rfl)⟩ ?_
    replace hp := hp.2
    refine gd_iconst (v := 1) (q := 25) rfl rfl rfl ?_
    refine gd_aload_n (q := 26) rfl rfl rfl ?_
    refine gd_getI (q := 29) rfl rfl rfl (Nat.le_of_ble_eq_true rfl) rfl rfl ?_
    refine gd_ishl (q := 30) rfl rfl ?_
    refine gd_ior (q := 31) rfl rfl ?_
    refine gd_iast (q := 32) rfl rfl (Nat.le_of_ble_eq_true rfl) rfl hp ?_
    refine gd_aload_n (q := 33) rfl rfl rfl ?_
    refine gd_dup (q := 34) rfl rfl rfl ?_
    refine gd_getI (q := 37) rfl rfl rfl (Nat.le_of_ble_eq_true rfl) rfl rfl ?_
    refine gd_iconst (v := 1) (q := 38) rfl rfl rfl ?_
    refine gd_iadd (q := 39) rfl rfl ?_
    refine gd_putI (q := 42) rfl rfl rfl (Nat.le_of_ble_eq_true rfl) rfl rfl rfl (Or.inl rfl) ?_
    refine gd_aload_n (q := 43) rfl rfl rfl ?_
    refine gd_getI (q := 46) rfl rfl rfl (Nat.le_of_ble_eq_true rfl) rfl rfl ?_
    refine gd_iconst (v := 1) (q := 47) rfl rfl rfl ?_
    refine gd_isub (q := 48) rfl rfl ?_
    exact gd_ireturn rfl rfl rfl (Nat.le_refl 0) (Nat.le_refl 0) rfl
  · refine gd_iconst (v := (-1)) (q := 10) rfl rfl rfl ?_
    exact gd_ireturn rfl rfl rfl (Nat.le_refl 0) (Nat.le_refl 0) rfl
theorem ct_X7_add (f : Nat) (I : am_I) (J : am_J) (Q : am_Q) (hG : Gr Q) (a1 : Int32) (hp : p_X7_add I a1) : Cm MX7_add 3 0 0 92 [.ref 13, .int a1] I J Q (am_FiI J Q (s_X7_add I a1)) := cm_of (by decide) rfl IX7_add_ok (Nat.le_of_ble_eq_true rfl) (gt_X7_add f I J Q hG a1 hp)
def s_X9_topic (I : am_I) (a1 : Int32) : Int32 × am_I := (if a1 = (-1) then (((s_X7_add I a1).1), ((s_X7_add I a1).2)) else (if (s_X7_has I a1) = 0 then ((-1), I) else (((s_X7_add I a1).1), ((s_X7_add I a1).2))))
def p_X9_topic (I : am_I) (a1 : Int32) : Prop := (if a1 = (-1) then (p_X7_add I a1) else (if (s_X7_has I a1) = 0 then True else (p_X7_add I a1)))
set_option maxRecDepth 100000 in
set_option maxHeartbeats 4000000 in
theorem gt_X9_topic (f : Nat) (I : am_I) (J : am_J) (Q : am_Q) (hG : Gr Q) (a1 : Int32) (hp : p_X9_topic I a1) : Gd MX9_topic (am_o 4 0 0 (am_FiI J Q (s_X9_topic I a1))) 0 0 92 0 [some (.ref 0), some (.int a1)] [] I J Q := by
  unfold s_X9_topic
  unfold p_X9_topic at hp
  refine gd_iload_n (q := 1) rfl rfl rfl ?_
  refine gd_iconst (v := (-1)) (q := 2) rfl rfl rfl ?_
  refine gx_icmp_eq (q := 5) (r := 16) rfl rfl rfl hp (fun c_2 hp => ?_) (fun c_2 hp => ?_)
  · refine gd_aload_n (q := 17) rfl rfl rfl ?_
    refine gd_getR (q := 20) (r := 13) rfl rfl rfl (Nat.le_of_ble_eq_true rfl) rfl rfl (gr_0_4 hG) ?_
    refine gd_iload_n (q := 21) rfl rfl rfl ?_
    refine gd_cVi (q := 24) rfl rfl lk9_119 myX7_add vxX7_add (ct_X7_add f _ _ _ hG _ hp) rfl (Nat.le_of_ble_eq_true rfl) rfl rfl (Nat.le_of_ble_eq_true rfl) rfl (Nat.le_of_ble_eq_true rfl) ⟨(Nat.le_of_ble_eq_true rfl), (Nat.le_of_ble_eq_true rfl)⟩ ?_
    refine gd_goto (q := 28) rfl rfl ?_
    exact gd_ireturn rfl rfl rfl (Nat.le_refl 0) (Nat.le_refl 0) rfl
  · refine gd_aload_n (q := 6) rfl rfl rfl ?_
    refine gd_getR (q := 9) (r := 13) rfl rfl rfl (Nat.le_of_ble_eq_true rfl) rfl rfl (gr_0_4 hG) ?_
    refine gd_iload_n (q := 10) rfl rfl rfl ?_
    refine gd_cVi (q := 13) rfl rfl lk9_118 myX7_has vxX7_has (ct_X7_has f _ _ _ hG _) rfl (Nat.le_of_ble_eq_true rfl) rfl rfl (Nat.le_of_ble_eq_true rfl) rfl (Nat.le_of_ble_eq_true rfl) ⟨(Nat.le_of_ble_eq_true rfl), (Nat.le_of_ble_eq_true rfl)⟩ ?_
    refine gx_if_eq (q := 16) (r := 27) rfl rfl rfl hp (fun c_13 hp => ?_) (fun c_13 hp => ?_)
    · refine gd_iconst (v := (-1)) (q := 28) rfl rfl rfl ?_
      exact gd_ireturn rfl rfl rfl (Nat.le_refl 0) (Nat.le_refl 0) rfl
    · refine gd_aload_n (q := 17) rfl rfl rfl ?_
      refine gd_getR (q := 20) (r := 13) rfl rfl rfl (Nat.le_of_ble_eq_true rfl) rfl rfl (gr_0_4 hG) ?_
      refine gd_iload_n (q := 21) rfl rfl rfl ?_
      refine gd_cVi (q := 24) rfl rfl lk9_119 myX7_add vxX7_add (ct_X7_add f _ _ _ hG _ hp) rfl (Nat.le_of_ble_eq_true rfl) rfl rfl (Nat.le_of_ble_eq_true rfl) rfl (Nat.le_of_ble_eq_true rfl) ⟨(Nat.le_of_ble_eq_true rfl), (Nat.le_of_ble_eq_true rfl)⟩ ?_
      refine gd_goto (q := 28) rfl rfl ?_
      exact gd_ireturn rfl rfl rfl (Nat.le_refl 0) (Nat.le_refl 0) rfl
theorem ct_X9_topic (f : Nat) (I : am_I) (J : am_J) (Q : am_Q) (hG : Gr Q) (a1 : Int32) (hp : p_X9_topic I a1) : Cm MX9_topic 4 0 0 92 [.ref 0, .int a1] I J Q (am_FiI J Q (s_X9_topic I a1)) := cm_of (by decide) rfl IX9_topic_ok (Nat.le_of_ble_eq_true rfl) (gt_X9_topic f I J Q hG a1 hp)
def s_X8_has (I : am_I) (a1 : Int32) : Int32 := (s_X9_isBelow a1 (I 9 3))
theorem z_X8_has (I : am_I) (a1 : Int32) : (s_X8_has I a1) = 0 ∨ (s_X8_has I a1) = 1 := by
  unfold s_X8_has
  repeat' split
  all_goals first | exact Or.inl rfl | exact Or.inr rfl | exact z_X9_isBelow _ _
set_option maxRecDepth 100000 in
set_option maxHeartbeats 4000000 in
theorem gt_X8_has (f : Nat) (I : am_I) (J : am_J) (Q : am_Q) (hG : Gr Q) (a1 : Int32) : Gd MX8_has (am_o 1 0 0 (am_Fi I J Q (s_X8_has I a1))) 0 0 92 0 [some (.ref 9), some (.int a1)] [] I J Q := by
  unfold s_X8_has
  refine gd_iload_n (q := 1) rfl rfl rfl ?_
  refine gd_aload_n (q := 2) rfl rfl rfl ?_
  refine gd_getI (q := 5) rfl rfl rfl (Nat.le_of_ble_eq_true rfl) rfl rfl ?_
  refine gd_cSi (q := 8) rfl rfl lk8_28 myX9_isBelow sxX9_isBelow (ct_X9_isBelow f _ _ _ hG _ _) rfl rfl (Nat.le_of_ble_eq_true rfl) ⟨(Nat.le_of_ble_eq_true rfl), (Nat.le_of_ble_eq_true rfl)⟩ ?_
  exact gd_ireturn rfl rfl (am_zn (z_X9_isBelow a1 (I 9 3))) (Nat.le_refl 0) (Nat.le_refl 0) rfl
theorem ct_X8_has (f : Nat) (I : am_I) (J : am_J) (Q : am_Q) (hG : Gr Q) (a1 : Int32) : Cm MX8_has 1 0 0 92 [.ref 9, .int a1] I J Q (am_Fi I J Q (s_X8_has I a1)) := cm_of (by decide) rfl IX8_has_ok (Nat.le_of_ble_eq_true rfl) (gt_X8_has f I J Q hG a1)
def s_X9_isDay  (a0 : Int32) : Int32 := (if a0 < 0 then 0 else (if 9999 < a0 then 0 else 1))
theorem z_X9_isDay  (a0 : Int32) : (s_X9_isDay a0) = 0 ∨ (s_X9_isDay a0) = 1 := by
  unfold s_X9_isDay
  repeat' split
  all_goals first | exact Or.inl rfl | exact Or.inr rfl
set_option maxRecDepth 100000 in
set_option maxHeartbeats 4000000 in
theorem gt_X9_isDay (f : Nat) (I : am_I) (J : am_J) (Q : am_Q) (hG : Gr Q) (a0 : Int32) : Gd MX9_isDay (am_o 0 0 0 (am_Fi I J Q (s_X9_isDay a0))) 0 0 92 0 [some (.int a0)] [] I J Q := by
  unfold s_X9_isDay
  refine gd_iload_n (q := 1) rfl rfl rfl ?_
  refine gy_if_lt (q := 4) (r := 15) rfl rfl rfl (fun c_1 => ?_) (fun c_1 => ?_)
  · refine gd_iconst (v := 0) (q := 16) rfl rfl rfl ?_
    exact gd_ireturn rfl rfl rfl (Nat.le_refl 0) (Nat.le_refl 0) rfl
  · refine gd_iload_n (q := 5) rfl rfl rfl ?_
    refine gd_sipush (v := 9999) (q := 8) rfl rfl rfl ?_
    refine gy_icmp_gt (q := 11) (r := 15) rfl rfl rfl (fun c_8 => ?_) (fun c_8 => ?_)
    · refine gd_iconst (v := 0) (q := 16) rfl rfl rfl ?_
      exact gd_ireturn rfl rfl rfl (Nat.le_refl 0) (Nat.le_refl 0) rfl
    · refine gd_iconst (v := 1) (q := 12) rfl rfl rfl ?_
      refine gd_goto (q := 16) rfl rfl ?_
      exact gd_ireturn rfl rfl rfl (Nat.le_refl 0) (Nat.le_refl 0) rfl
theorem ct_X9_isDay (f : Nat) (I : am_I) (J : am_J) (Q : am_Q) (hG : Gr Q) (a0 : Int32) : Cm MX9_isDay 0 0 0 92 [.int a0] I J Q (am_Fi I J Q (s_X9_isDay a0)) := cm_of (by decide) rfl IX9_isDay_ok (Nat.le_of_ble_eq_true rfl) (gt_X9_isDay f I J Q hG a0)
def s_X4_addTape (I : am_I) (a1 : Int32) (a2 : Int32) (a3 : Int32) : Int32 × am_I := (if (I 15 3) < 6 then ((((I 15 3) + 1) - 1), (am_w (am_w (am_w (am_w I 16 (I 15 3).toNatClampNeg a1) 17 (I 15 3).toNatClampNeg a2) 18 (I 15 3).toNatClampNeg a3) 15 3 ((I 15 3) + 1))) else ((-1), I))
def p_X4_addTape (I : am_I) (a1 : Int32) (a2 : Int32) (a3 : Int32) : Prop := (if (I 15 3) < 6 then (vp_in (I 15 3) 6 ∧ (vp_in (I 15 3) 6 ∧ vp_in (I 15 3) 6)) else True)
set_option maxRecDepth 100000 in
set_option maxHeartbeats 4000000 in
theorem gt_X4_addTape (f : Nat) (I : am_I) (J : am_J) (Q : am_Q) (hG : Gr Q) (a1 : Int32) (a2 : Int32) (a3 : Int32) (hp : p_X4_addTape I a1 a2 a3) : Gd MX4_addTape (am_o 0 0 0 (am_FiI J Q (s_X4_addTape I a1 a2 a3))) 0 0 92 0 [some (.ref 15), some (.int a1), some (.int a2), some (.int a3)] [] I J Q := by
  unfold s_X4_addTape
  unfold p_X4_addTape at hp
  refine gd_aload_n (q := 1) rfl rfl rfl ?_
  refine gd_getI (q := 4) rfl rfl rfl (Nat.le_of_ble_eq_true rfl) rfl rfl ?_
  refine gd_bipush (v := 6) (q := 6) rfl rfl rfl ?_
  refine gx_icmp_lt (q := 9) (r := 11) rfl rfl rfl hp (fun c_6 hp => ?_) (fun c_6 hp => ?_)
  · refine gd_aload_n (q := 12) rfl rfl rfl ?_
    refine gd_getR (q := 15) (r := 16) rfl rfl rfl (Nat.le_of_ble_eq_true rfl) rfl rfl (gr_15_0 hG) ?_
    refine gd_aload_n (q := 16) rfl rfl rfl ?_
    refine gd_getI (q := 19) rfl rfl rfl (Nat.le_of_ble_eq_true rfl) rfl rfl ?_
    refine gd_iload_n (q := 20) rfl rfl rfl ?_
    refine gd_iast (q := 21) rfl rfl (Nat.le_of_ble_eq_true rfl) rfl hp.1 ?_
    replace hp := hp.2
    refine gd_aload_n (q := 22) rfl rfl rfl ?_
    refine gd_getR (q := 25) (r := 17) rfl rfl rfl (Nat.le_of_ble_eq_true rfl) rfl rfl (gr_15_1 hG) ?_
    refine gd_aload_n (q := 26) rfl rfl rfl ?_
    refine gd_getI (q := 29) rfl rfl rfl (Nat.le_of_ble_eq_true rfl) rfl rfl ?_
    refine gd_iload_n (q := 30) rfl rfl rfl ?_
    refine gd_iast (q := 31) rfl rfl (Nat.le_of_ble_eq_true rfl) rfl hp.1 ?_
    replace hp := hp.2
    refine gd_aload_n (q := 32) rfl rfl rfl ?_
    refine gd_getR (q := 35) (r := 18) rfl rfl rfl (Nat.le_of_ble_eq_true rfl) rfl rfl (gr_15_2 hG) ?_
    refine gd_aload_n (q := 36) rfl rfl rfl ?_
    refine gd_getI (q := 39) rfl rfl rfl (Nat.le_of_ble_eq_true rfl) rfl rfl ?_
    refine gd_iload_n (q := 40) rfl rfl rfl ?_
    refine gd_iast (q := 41) rfl rfl (Nat.le_of_ble_eq_true rfl) rfl hp ?_
    refine gd_aload_n (q := 42) rfl rfl rfl ?_
    refine gd_dup (q := 43) rfl rfl rfl ?_
    refine gd_getI (q := 46) rfl rfl rfl (Nat.le_of_ble_eq_true rfl) rfl rfl ?_
    refine gd_iconst (v := 1) (q := 47) rfl rfl rfl ?_
    refine gd_iadd (q := 48) rfl rfl ?_
    refine gd_putI (q := 51) rfl rfl rfl (Nat.le_of_ble_eq_true rfl) rfl rfl rfl (Or.inl rfl) ?_
    refine gd_aload_n (q := 52) rfl rfl rfl ?_
    refine gd_getI (q := 55) rfl rfl rfl (Nat.le_of_ble_eq_true rfl) rfl rfl ?_
    refine gd_iconst (v := 1) (q := 56) rfl rfl rfl ?_
    refine gd_isub (q := 57) rfl rfl ?_
    exact gd_ireturn rfl rfl rfl (Nat.le_refl 0) (Nat.le_refl 0) rfl
  · refine gd_iconst (v := (-1)) (q := 10) rfl rfl rfl ?_
    exact gd_ireturn rfl rfl rfl (Nat.le_refl 0) (Nat.le_refl 0) rfl
theorem ct_X4_addTape (f : Nat) (I : am_I) (J : am_J) (Q : am_Q) (hG : Gr Q) (a1 : Int32) (a2 : Int32) (a3 : Int32) (hp : p_X4_addTape I a1 a2 a3) : Cm MX4_addTape 0 0 0 92 [.ref 15, .int a1, .int a2, .int a3] I J Q (am_FiI J Q (s_X4_addTape I a1 a2 a3)) := cm_of (by decide) rfl IX4_addTape_ok (Nat.le_of_ble_eq_true rfl) (gt_X4_addTape f I J Q hG a1 a2 a3 hp)
def s_X9_tape_J17 (a1 : Int32) (a2 : Int32) (a3 : Int32)  (t0 : Int32) (I : am_I) : Int32 × am_I := (if (s_X8_has I a1) = 0 then ((-1), I) else (if (s_X9_isDay a2) = 0 then ((-1), I) else (if t0 = 0 then ((-1), I) else (((s_X4_addTape I a1 a2 a3).1), ((s_X4_addTape I a1 a2 a3).2)))))
def p_X9_tape_J17 (a1 : Int32) (a2 : Int32) (a3 : Int32)  (t0 : Int32) (I : am_I) : Prop := (if (s_X8_has I a1) = 0 then True else (if (s_X9_isDay a2) = 0 then True else (if t0 = 0 then True else (p_X4_addTape I a1 a2 a3))))
def s_X9_tape (I : am_I) (a1 : Int32) (a2 : Int32) (a3 : Int32) : Int32 × am_I := (if a3 < 1 then (s_X9_tape_J17 a1 a2 a3 0 I) else (if 999 < a3 then (s_X9_tape_J17 a1 a2 a3 0 I) else (s_X9_tape_J17 a1 a2 a3 1 I)))
def p_X9_tape (I : am_I) (a1 : Int32) (a2 : Int32) (a3 : Int32) : Prop := (if a3 < 1 then (p_X9_tape_J17 a1 a2 a3 0 I) else (if 999 < a3 then (p_X9_tape_J17 a1 a2 a3 0 I) else (p_X9_tape_J17 a1 a2 a3 1 I)))
set_option maxRecDepth 100000 in
set_option maxHeartbeats 4000000 in
theorem gl_X9_tape_17 (a1 : Int32) (a2 : Int32) (a3 : Int32) (f : Nat) (J : am_J) (Q : am_Q) (hG : Gr Q) (t0 : Int32) (I : am_I) : p_X9_tape_J17 a1 a2 a3 t0 I → Gd MX9_tape (am_o 2 0 0 (am_FiI J Q (s_X9_tape_J17 a1 a2 a3 t0 I))) 0 0 92 17 [some (.ref 0), some (.int a1), some (.int a2), some (.int a3), none] [.int t0] I J Q := by
  intro hp
  unfold s_X9_tape_J17
  unfold p_X9_tape_J17 at hp
  refine gd_istore (q := 19) rfl rfl (Nat.le_of_ble_eq_true rfl) rfl ?_
  refine gd_aload_n (q := 20) rfl rfl rfl ?_
  refine gd_getR (q := 23) (r := 9) rfl rfl rfl (Nat.le_of_ble_eq_true rfl) rfl rfl (gr_0_3 hG) ?_
  refine gd_iload_n (q := 24) rfl rfl rfl ?_
  refine gd_cVi (q := 27) rfl rfl lk9_91 myX8_has vxX8_has (ct_X8_has f _ _ _ hG _) rfl (Nat.le_of_ble_eq_true rfl) rfl rfl (Nat.le_of_ble_eq_true rfl) rfl (Nat.le_of_ble_eq_true rfl) ⟨(Nat.le_of_ble_eq_true rfl), (Nat.le_of_ble_eq_true rfl)⟩ ?_
  refine gx_if_eq (q := 30) (r := 55) rfl rfl rfl hp (fun c_27 hp => ?_) (fun c_27 hp => ?_)
  · refine gd_iconst (v := (-1)) (q := 56) rfl rfl rfl ?_
    exact gd_ireturn rfl rfl rfl (Nat.le_refl 0) (Nat.le_refl 0) rfl
  · refine gd_iload_n (q := 31) rfl rfl rfl ?_
    refine gd_cSi (q := 34) rfl rfl lk9_121 myX9_isDay sxX9_isDay (ct_X9_isDay f _ _ _ hG _) rfl rfl (Nat.le_of_ble_eq_true rfl) ⟨(Nat.le_of_ble_eq_true rfl), (Nat.le_of_ble_eq_true rfl)⟩ ?_
    refine gx_if_eq (q := 37) (r := 55) rfl rfl rfl hp (fun c_34 hp => ?_) (fun c_34 hp => ?_)
    · refine gd_iconst (v := (-1)) (q := 56) rfl rfl rfl ?_
      exact gd_ireturn rfl rfl rfl (Nat.le_refl 0) (Nat.le_refl 0) rfl
    · refine gd_iload (q := 39) rfl rfl rfl ?_
      refine gx_if_eq (q := 42) (r := 55) rfl rfl rfl hp (fun c_39 hp => ?_) (fun c_39 hp => ?_)
      · refine gd_iconst (v := (-1)) (q := 56) rfl rfl rfl ?_
        exact gd_ireturn rfl rfl rfl (Nat.le_refl 0) (Nat.le_refl 0) rfl
      · refine gd_aload_n (q := 43) rfl rfl rfl ?_
        refine gd_getR (q := 46) (r := 15) rfl rfl rfl (Nat.le_of_ble_eq_true rfl) rfl rfl (gr_0_5 hG) ?_
        refine gd_iload_n (q := 47) rfl rfl rfl ?_
        refine gd_iload_n (q := 48) rfl rfl rfl ?_
        refine gd_iload_n (q := 49) rfl rfl rfl ?_
        refine gd_cVi (q := 52) rfl rfl lk9_124 myX4_addTape vxX4_addTape (ct_X4_addTape f _ _ _ hG _ _ _ hp) rfl (Nat.le_of_ble_eq_true rfl) rfl rfl (Nat.le_of_ble_eq_true rfl) rfl (Nat.le_of_ble_eq_true rfl) ⟨(Nat.le_of_ble_eq_true rfl), (Nat.le_of_ble_eq_true rfl)⟩ ?_
        refine gd_goto (q := 56) rfl rfl ?_
        exact gd_ireturn rfl rfl rfl (Nat.le_refl 0) (Nat.le_refl 0) rfl
set_option maxRecDepth 100000 in
set_option maxHeartbeats 4000000 in
theorem gt_X9_tape (f : Nat) (I : am_I) (J : am_J) (Q : am_Q) (hG : Gr Q) (a1 : Int32) (a2 : Int32) (a3 : Int32) (hp : p_X9_tape I a1 a2 a3) : Gd MX9_tape (am_o 2 0 0 (am_FiI J Q (s_X9_tape I a1 a2 a3))) 0 0 92 0 [some (.ref 0), some (.int a1), some (.int a2), some (.int a3), none] [] I J Q := by
  unfold s_X9_tape
  unfold p_X9_tape at hp
  refine gd_iload_n (q := 1) rfl rfl rfl ?_
  refine gd_iconst (v := 1) (q := 2) rfl rfl rfl ?_
  refine gx_icmp_lt (q := 5) (r := 16) rfl rfl rfl hp (fun c_2 hp => ?_) (fun c_2 hp => ?_)
  · refine gd_iconst (v := 0) (q := 17) rfl rfl rfl ?_
    exact gl_X9_tape_17 a1 a2 a3 f J Q hG 0 _ hp
  · refine gd_iload_n (q := 6) rfl rfl rfl ?_
    refine gd_sipush (v := 999) (q := 9) rfl rfl rfl ?_
    refine gx_icmp_gt (q := 12) (r := 16) rfl rfl rfl hp (fun c_9 hp => ?_) (fun c_9 hp => ?_)
    · refine gd_iconst (v := 0) (q := 17) rfl rfl rfl ?_
      exact gl_X9_tape_17 a1 a2 a3 f J Q hG 0 _ hp
    · refine gd_iconst (v := 1) (q := 13) rfl rfl rfl ?_
      refine gd_goto (q := 17) rfl rfl ?_
      exact gl_X9_tape_17 a1 a2 a3 f J Q hG _ _ hp
theorem ct_X9_tape (f : Nat) (I : am_I) (J : am_J) (Q : am_Q) (hG : Gr Q) (a1 : Int32) (a2 : Int32) (a3 : Int32) (hp : p_X9_tape I a1 a2 a3) : Cm MX9_tape 2 0 0 92 [.ref 0, .int a1, .int a2, .int a3] I J Q (am_FiI J Q (s_X9_tape I a1 a2 a3)) := cm_of (by decide) rfl IX9_tape_ok (Nat.le_of_ble_eq_true rfl) (gt_X9_tape f I J Q hG a1 a2 a3 hp)
def s_X4_isFree_L35 (a1 : Int32) (a2 : Int32) (a3 : Int32) (I : am_I) : Nat → Int32 → Int32
  | 0, _ => 0
  | g + 1, v4 => (if (I 15 11) ≤ v4 then 1 else (if (I 19 v4.toNatClampNeg) = a1 then (if (I 21 v4.toNatClampNeg) ≤ a2 then (s_X4_isFree_L35 a1 a2 a3 I g (v4 + 1)) else (if a3 ≤ (I 20 v4.toNatClampNeg) then (s_X4_isFree_L35 a1 a2 a3 I g (v4 + 1)) else 0)) else (s_X4_isFree_L35 a1 a2 a3 I g (v4 + 1))))
def p_X4_isFree_L35 (a1 : Int32) (a2 : Int32) (a3 : Int32) (I : am_I) : Nat → Int32 → Prop
  | 0, _ => False
  | g + 1, v4 => (if (I 15 11) ≤ v4 then True else (vp_in v4 30 ∧ (if (I 19 v4.toNatClampNeg) = a1 then (vp_in v4 30 ∧ (if (I 21 v4.toNatClampNeg) ≤ a2 then (p_X4_isFree_L35 a1 a2 a3 I g (v4 + 1)) else (vp_in v4 30 ∧ (if a3 ≤ (I 20 v4.toNatClampNeg) then (p_X4_isFree_L35 a1 a2 a3 I g (v4 + 1)) else True)))) else (p_X4_isFree_L35 a1 a2 a3 I g (v4 + 1)))))
theorem z_X4_isFree_L35 (a1 : Int32) (a2 : Int32) (a3 : Int32) (I : am_I) : ∀ (g : Nat), (∀ (v4 : Int32), (s_X4_isFree_L35 a1 a2 a3 I g v4) = 0 ∨ (s_X4_isFree_L35 a1 a2 a3 I g v4) = 1) := by
  intro g
  induction g with
  | zero => (intros; exact Or.inl rfl)
  | succ g ih =>
    intro v4
    rw [s_X4_isFree_L35]
    repeat' split
    all_goals first | exact Or.inl rfl | exact Or.inr rfl | exact z_X9_isBelow _ _ | exact ih _
def s_X4_isFree (f : Nat) (I : am_I) (a1 : Int32) (a2 : Int32) (a3 : Int32) : Int32 := (if (s_X9_isBelow a1 (I 15 3)) = 0 then 0 else (if a2 < 0 then 0 else (if a3 ≤ a2 then 0 else (if a3 ≤ (I 18 a1.toNatClampNeg) then (s_X4_isFree_L35 a1 a2 a3 I f 0) else 0))))
def p_X4_isFree (f : Nat) (I : am_I) (a1 : Int32) (a2 : Int32) (a3 : Int32) : Prop := (if (s_X9_isBelow a1 (I 15 3)) = 0 then True else (if a2 < 0 then True else (if a3 ≤ a2 then True else (vp_in a1 6 ∧ (if a3 ≤ (I 18 a1.toNatClampNeg) then (p_X4_isFree_L35 a1 a2 a3 I f 0) else True)))))
theorem z_X4_isFree (f : Nat) (I : am_I) (a1 : Int32) (a2 : Int32) (a3 : Int32) : (s_X4_isFree f I a1 a2 a3) = 0 ∨ (s_X4_isFree f I a1 a2 a3) = 1 := by
  unfold s_X4_isFree
  repeat' split
  all_goals first | exact Or.inl rfl | exact Or.inr rfl | exact z_X9_isBelow _ _ | exact (z_X4_isFree_L35 _ _ _ _ _) _
set_option maxRecDepth 100000 in
set_option maxHeartbeats 4000000 in
theorem gl_X4_isFree_L35 (a1 : Int32) (a2 : Int32) (a3 : Int32) (f : Nat) (I : am_I) (J : am_J) (Q : am_Q) (hG : Gr Q) : ∀ g : Nat, (∀ (v4 : Int32), p_X4_isFree_L35 a1 a2 a3 I g v4 → Gd MX4_isFree (am_o 1 0 0 (am_Fi I J Q (s_X4_isFree_L35 a1 a2 a3 I g v4))) 0 0 92 35 [some (.ref 15), some (.int a1), some (.int a2), some (.int a3), some (.int v4)] [] I J Q) := by
  intro g
  induction g with
  | zero => exact fun _ hp => False.elim hp
  | succ g ih =>
    have ih_35 := ih
    intro v4 hp
    rw [s_X4_isFree_L35]
    rw [p_X4_isFree_L35] at hp
    refine gd_iload (q := 37) rfl rfl rfl ?_
    refine gd_aload_n (q := 38) rfl rfl rfl ?_
    refine gd_getI (q := 41) rfl rfl rfl (Nat.le_of_ble_eq_true rfl) rfl rfl ?_
    refine gx_icmp_ge (q := 44) (r := 85) rfl rfl rfl hp (fun c_41 hp => ?_) (fun c_41 hp => ?_)
    · refine gd_iconst (v := 1) (q := 86) rfl rfl rfl ?_
      exact gd_ireturn rfl rfl rfl (Nat.le_refl 0) (Nat.le_refl 0) rfl
    · refine gd_aload_n (q := 45) rfl rfl rfl ?_
      refine gd_getR (q := 48) (r := 19) rfl rfl rfl (Nat.le_of_ble_eq_true rfl) rfl rfl (gr_15_4 hG) ?_
      refine gd_iload (q := 50) rfl rfl rfl ?_
      refine gd_iald (q := 51) rfl rfl (Nat.le_of_ble_eq_true rfl) rfl hp.1 ?_
      replace hp := hp.2
      refine gd_iload_n (q := 52) rfl rfl rfl ?_
      refine gx_icmp_ne (q := 55) (r := 79) rfl rfl rfl hp (fun c_52 hp => ?_) (fun c_52 hp => ?_)
      · refine gd_iload_n (q := 56) rfl rfl rfl ?_
        refine gd_aload_n (q := 57) rfl rfl rfl ?_
        refine gd_getR (q := 60) (r := 21) rfl rfl rfl (Nat.le_of_ble_eq_true rfl) rfl rfl (gr_15_6 hG) ?_
        refine gd_iload (q := 62) rfl rfl rfl ?_
        refine gd_iald (q := 63) rfl rfl (Nat.le_of_ble_eq_true rfl) rfl hp.1 ?_
        replace hp := hp.2
        refine gx_icmp_ge (q := 66) (r := 79) rfl rfl rfl hp (fun c_63 hp => ?_) (fun c_63 hp => ?_)
        · refine gd_iinc (v := (v4 + 1)) (q := 82) rfl rfl rfl rfl (Nat.le_of_ble_eq_true rfl) rfl ?_
          refine gd_goto (q := 35) rfl rfl ?_
          exact ih_35 _ hp
        · refine gd_aload_n (q := 67) rfl rfl rfl ?_
          refine gd_getR (q := 70) (r := 20) rfl rfl rfl (Nat.le_of_ble_eq_true rfl) rfl rfl (gr_15_5 hG) ?_
          refine gd_iload (q := 72) rfl rfl rfl ?_
          refine gd_iald (q := 73) rfl rfl (Nat.le_of_ble_eq_true rfl) rfl hp.1 ?_
          replace hp := hp.2
          refine gd_iload_n (q := 74) rfl rfl rfl ?_
          refine gx_icmp_ge (q := 77) (r := 79) rfl rfl rfl hp (fun c_74 hp => ?_) (fun c_74 hp => ?_)
          · refine gd_iinc (v := (v4 + 1)) (q := 82) rfl rfl rfl rfl (Nat.le_of_ble_eq_true rfl) rfl ?_
            refine gd_goto (q := 35) rfl rfl ?_
            exact ih_35 _ hp
          · refine gd_iconst (v := 0) (q := 78) rfl rfl rfl ?_
            exact gd_ireturn rfl rfl rfl (Nat.le_refl 0) (Nat.le_refl 0) rfl
      · refine gd_iinc (v := (v4 + 1)) (q := 82) rfl rfl rfl rfl (Nat.le_of_ble_eq_true rfl) rfl ?_
        refine gd_goto (q := 35) rfl rfl ?_
        exact ih_35 _ hp
theorem gl_X4_isFree_35 (a1 : Int32) (a2 : Int32) (a3 : Int32) (f : Nat) (I : am_I) (J : am_J) (Q : am_Q) (hG : Gr Q) (g : Nat) : ∀ (v4 : Int32), p_X4_isFree_L35 a1 a2 a3 I g v4 → Gd MX4_isFree (am_o 1 0 0 (am_Fi I J Q (s_X4_isFree_L35 a1 a2 a3 I g v4))) 0 0 92 35 [some (.ref 15), some (.int a1), some (.int a2), some (.int a3), some (.int v4)] [] I J Q := (gl_X4_isFree_L35 a1 a2 a3 f I J Q hG g)
set_option maxRecDepth 100000 in
set_option maxHeartbeats 4000000 in
theorem gt_X4_isFree (f : Nat) (I : am_I) (J : am_J) (Q : am_Q) (hG : Gr Q) (a1 : Int32) (a2 : Int32) (a3 : Int32) (hp : p_X4_isFree f I a1 a2 a3) : Gd MX4_isFree (am_o 1 0 0 (am_Fi I J Q (s_X4_isFree f I a1 a2 a3))) 0 0 92 0 [some (.ref 15), some (.int a1), some (.int a2), some (.int a3), none] [] I J Q := by
  unfold s_X4_isFree
  unfold p_X4_isFree at hp
  refine gd_iload_n (q := 1) rfl rfl rfl ?_
  refine gd_aload_n (q := 2) rfl rfl rfl ?_
  refine gd_getI (q := 5) rfl rfl rfl (Nat.le_of_ble_eq_true rfl) rfl rfl ?_
  refine gd_cSi (q := 8) rfl rfl lk4_46 myX9_isBelow sxX9_isBelow (ct_X9_isBelow f _ _ _ hG _ _) rfl rfl (Nat.le_of_ble_eq_true rfl) ⟨(Nat.le_of_ble_eq_true rfl), (Nat.le_of_ble_eq_true rfl)⟩ ?_
  refine gx_if_eq (q := 11) (r := 30) rfl rfl rfl hp (fun c_8 hp => ?_) (fun c_8 hp => ?_)
  · refine gd_iconst (v := 0) (q := 31) rfl rfl rfl ?_
    exact gd_ireturn rfl rfl rfl (Nat.le_refl 0) (Nat.le_refl 0) rfl
  · refine gd_iload_n (q := 12) rfl rfl rfl ?_
    refine gx_if_lt (q := 15) (r := 30) rfl rfl rfl hp (fun c_12 hp => ?_) (fun c_12 hp => ?_)
    · refine gd_iconst (v := 0) (q := 31) rfl rfl rfl ?_
      exact gd_ireturn rfl rfl rfl (Nat.le_refl 0) (Nat.le_refl 0) rfl
    · refine gd_iload_n (q := 16) rfl rfl rfl ?_
      refine gd_iload_n (q := 17) rfl rfl rfl ?_
      refine gx_icmp_ge (q := 20) (r := 30) rfl rfl rfl hp (fun c_17 hp => ?_) (fun c_17 hp => ?_)
      · refine gd_iconst (v := 0) (q := 31) rfl rfl rfl ?_
        exact gd_ireturn rfl rfl rfl (Nat.le_refl 0) (Nat.le_refl 0) rfl
      · refine gd_iload_n (q := 21) rfl rfl rfl ?_
        refine gd_aload_n (q := 22) rfl rfl rfl ?_
        refine gd_getR (q := 25) (r := 18) rfl rfl rfl (Nat.le_of_ble_eq_true rfl) rfl rfl (gr_15_2 hG) ?_
        refine gd_iload_n (q := 26) rfl rfl rfl ?_
        refine gd_iald (q := 27) rfl rfl (Nat.le_of_ble_eq_true rfl) rfl hp.1 ?_
        replace hp := hp.2
        refine gx_icmp_le (q := 30) (r := 32) rfl rfl rfl hp (fun c_27 hp => ?_) (fun c_27 hp => ?_)
        · refine gd_iconst (v := 0) (q := 33) rfl rfl rfl ?_
          refine gd_istore (q := 35) rfl rfl (Nat.le_of_ble_eq_true rfl) rfl ?_
          exact gl_X4_isFree_35 a1 a2 a3 f I J Q hG f 0 hp
        · refine gd_iconst (v := 0) (q := 31) rfl rfl rfl ?_
          exact gd_ireturn rfl rfl rfl (Nat.le_refl 0) (Nat.le_refl 0) rfl
theorem ct_X4_isFree (f : Nat) (I : am_I) (J : am_J) (Q : am_Q) (hG : Gr Q) (a1 : Int32) (a2 : Int32) (a3 : Int32) (hp : p_X4_isFree f I a1 a2 a3) : Cm MX4_isFree 1 0 0 92 [.ref 15, .int a1, .int a2, .int a3] I J Q (am_Fi I J Q (s_X4_isFree f I a1 a2 a3)) := cm_of (by decide) rfl IX4_isFree_ok (Nat.le_of_ble_eq_true rfl) (gt_X4_isFree f I J Q hG a1 a2 a3 hp)
def s_X4_addPiece (I : am_I) (a1 : Int32) (a2 : Int32) (a3 : Int32) (a4 : Int32) (a5 : Int32) (a6 : Int32) : Int32 × am_I := (if (I 15 11) < 30 then ((((I 15 11) + 1) - 1), (am_w (am_w (am_w (am_w (am_w (am_w (am_w (am_w I 19 (I 15 11).toNatClampNeg a1) 20 (I 15 11).toNatClampNeg a2) 21 (I 15 11).toNatClampNeg a3) 22 (I 15 11).toNatClampNeg a4) 23 (I 15 11).toNatClampNeg a5) 24 (I 15 11).toNatClampNeg a6) 25 (I 15 11).toNatClampNeg (-1)) 15 11 ((I 15 11) + 1))) else ((-1), I))
def p_X4_addPiece (I : am_I) (a1 : Int32) (a2 : Int32) (a3 : Int32) (a4 : Int32) (a5 : Int32) (a6 : Int32) : Prop := (if (I 15 11) < 30 then (vp_in (I 15 11) 30 ∧ (vp_in (I 15 11) 30 ∧ (vp_in (I 15 11) 30 ∧ (vp_in (I 15 11) 30 ∧ (vp_in (I 15 11) 30 ∧ (vp_in (I 15 11) 30 ∧ vp_in (I 15 11) 30)))))) else True)
set_option maxRecDepth 100000 in
set_option maxHeartbeats 4000000 in
theorem gt_X4_addPiece (f : Nat) (I : am_I) (J : am_J) (Q : am_Q) (hG : Gr Q) (a1 : Int32) (a2 : Int32) (a3 : Int32) (a4 : Int32) (a5 : Int32) (a6 : Int32) (hp : p_X4_addPiece I a1 a2 a3 a4 a5 a6) : Gd MX4_addPiece (am_o 0 0 0 (am_FiI J Q (s_X4_addPiece I a1 a2 a3 a4 a5 a6))) 0 0 92 0 [some (.ref 15), some (.int a1), some (.int a2), some (.int a3), some (.int a4), some (.int a5), some (.int a6)] [] I J Q := by
  unfold s_X4_addPiece
  unfold p_X4_addPiece at hp
  refine gd_aload_n (q := 1) rfl rfl rfl ?_
  refine gd_getI (q := 4) rfl rfl rfl (Nat.le_of_ble_eq_true rfl) rfl rfl ?_
  refine gd_bipush (v := 30) (q := 6) rfl rfl rfl ?_
  refine gx_icmp_lt (q := 9) (r := 11) rfl rfl rfl hp (fun c_6 hp => ?_) (fun c_6 hp => ?_)
  · refine gd_aload_n (q := 12) rfl rfl rfl ?_
    refine gd_getR (q := 15) (r := 19) rfl rfl rfl (Nat.le_of_ble_eq_true rfl) rfl rfl (gr_15_4 hG) ?_
    refine gd_aload_n (q := 16) rfl rfl rfl ?_
    refine gd_getI (q := 19) rfl rfl rfl (Nat.le_of_ble_eq_true rfl) rfl rfl ?_
    refine gd_iload_n (q := 20) rfl rfl rfl ?_
    refine gd_iast (q := 21) rfl rfl (Nat.le_of_ble_eq_true rfl) rfl hp.1 ?_
    replace hp := hp.2
    refine gd_aload_n (q := 22) rfl rfl rfl ?_
    refine gd_getR (q := 25) (r := 20) rfl rfl rfl (Nat.le_of_ble_eq_true rfl) rfl rfl (gr_15_5 hG) ?_
    refine gd_aload_n (q := 26) rfl rfl rfl ?_
    refine gd_getI (q := 29) rfl rfl rfl (Nat.le_of_ble_eq_true rfl) rfl rfl ?_
    refine gd_iload_n (q := 30) rfl rfl rfl ?_
    refine gd_iast (q := 31) rfl rfl (Nat.le_of_ble_eq_true rfl) rfl hp.1 ?_
    replace hp := hp.2
    refine gd_aload_n (q := 32) rfl rfl rfl ?_
    refine gd_getR (q := 35) (r := 21) rfl rfl rfl (Nat.le_of_ble_eq_true rfl) rfl rfl (gr_15_6 hG) ?_
    refine gd_aload_n (q := 36) rfl rfl rfl ?_
    refine gd_getI (q := 39) rfl rfl rfl (Nat.le_of_ble_eq_true rfl) rfl rfl ?_
    refine gd_iload_n (q := 40) rfl rfl rfl ?_
    refine gd_iast (q := 41) rfl rfl (Nat.le_of_ble_eq_true rfl) rfl hp.1 ?_
    replace hp := hp.2
    refine gd_aload_n (q := 42) rfl rfl rfl ?_
    refine gd_getR (q := 45) (r := 22) rfl rfl rfl (Nat.le_of_ble_eq_true rfl) rfl rfl (gr_15_7 hG) ?_
    refine gd_aload_n (q := 46) rfl rfl rfl ?_
    refine gd_getI (q := 49) rfl rfl rfl (Nat.le_of_ble_eq_true rfl) rfl rfl ?_
    refine gd_iload (q := 51) rfl rfl rfl ?_
    refine gd_iast (q := 52) rfl rfl (Nat.le_of_ble_eq_true rfl) rfl hp.1 ?_
    replace hp := hp.2
    refine gd_aload_n (q := 53) rfl rfl rfl ?_
    refine gd_getR (q := 56) (r := 23) rfl rfl rfl (Nat.le_of_ble_eq_true rfl) rfl rfl (gr_15_8 hG) ?_
    refine gd_aload_n (q := 57) rfl rfl rfl ?_
    refine gd_getI (q := 60) rfl rfl rfl (Nat.le_of_ble_eq_true rfl) rfl rfl ?_
    refine gd_iload (q := 62) rfl rfl rfl ?_
    refine gd_iast (q := 63) rfl rfl (Nat.le_of_ble_eq_true rfl) rfl hp.1 ?_
    replace hp := hp.2
    refine gd_aload_n (q := 64) rfl rfl rfl ?_
    refine gd_getR (q := 67) (r := 24) rfl rfl rfl (Nat.le_of_ble_eq_true rfl) rfl rfl (gr_15_9 hG) ?_
    refine gd_aload_n (q := 68) rfl rfl rfl ?_
    refine gd_getI (q := 71) rfl rfl rfl (Nat.le_of_ble_eq_true rfl) rfl rfl ?_
    refine gd_iload (q := 73) rfl rfl rfl ?_
    refine gd_iast (q := 74) rfl rfl (Nat.le_of_ble_eq_true rfl) rfl hp.1 ?_
    replace hp := hp.2
    refine gd_aload_n (q := 75) rfl rfl rfl ?_
    refine gd_getR (q := 78) (r := 25) rfl rfl rfl (Nat.le_of_ble_eq_true rfl) rfl rfl (gr_15_10 hG) ?_
    refine gd_aload_n (q := 79) rfl rfl rfl ?_
    refine gd_getI (q := 82) rfl rfl rfl (Nat.le_of_ble_eq_true rfl) rfl rfl ?_
    refine gd_iconst (v := (-1)) (q := 83) rfl rfl rfl ?_
    refine gd_iast (q := 84) rfl rfl (Nat.le_of_ble_eq_true rfl) rfl hp ?_
    refine gd_aload_n (q := 85) rfl rfl rfl ?_
    refine gd_dup (q := 86) rfl rfl rfl ?_
    refine gd_getI (q := 89) rfl rfl rfl (Nat.le_of_ble_eq_true rfl) rfl rfl ?_
    refine gd_iconst (v := 1) (q := 90) rfl rfl rfl ?_
    refine gd_iadd (q := 91) rfl rfl ?_
    refine gd_putI (q := 94) rfl rfl rfl (Nat.le_of_ble_eq_true rfl) rfl rfl rfl (Or.inl rfl) ?_
    refine gd_aload_n (q := 95) rfl rfl rfl ?_
    refine gd_getI (q := 98) rfl rfl rfl (Nat.le_of_ble_eq_true rfl) rfl rfl ?_
    refine gd_iconst (v := 1) (q := 99) rfl rfl rfl ?_
    refine gd_isub (q := 100) rfl rfl ?_
    exact gd_ireturn rfl rfl rfl (Nat.le_refl 0) (Nat.le_refl 0) rfl
  · refine gd_iconst (v := (-1)) (q := 10) rfl rfl rfl ?_
    exact gd_ireturn rfl rfl rfl (Nat.le_refl 0) (Nat.le_refl 0) rfl
theorem ct_X4_addPiece (f : Nat) (I : am_I) (J : am_J) (Q : am_Q) (hG : Gr Q) (a1 : Int32) (a2 : Int32) (a3 : Int32) (a4 : Int32) (a5 : Int32) (a6 : Int32) (hp : p_X4_addPiece I a1 a2 a3 a4 a5 a6) : Cm MX4_addPiece 0 0 0 92 [.ref 15, .int a1, .int a2, .int a3, .int a4, .int a5, .int a6] I J Q (am_FiI J Q (s_X4_addPiece I a1 a2 a3 a4 a5 a6)) := cm_of (by decide) rfl IX4_addPiece_ok (Nat.le_of_ble_eq_true rfl) (gt_X4_addPiece f I J Q hG a1 a2 a3 a4 a5 a6 hp)
def s_X9_piece (f : Nat) (I : am_I) (a1 : Int32) (a2 : Int32) (a3 : Int32) (a4 : Int32) (a5 : Int32) (a6 : Int32) : Int32 × am_I := (if (s_X4_isFree f I a1 a2 a3) = 0 then ((-1), I) else (if (s_X7_has I a4) = 0 then ((-1), I) else (if a5 = (-1) then (if a6 = 0 then (((s_X4_addPiece I a1 a2 a3 a4 a5 a6).1), ((s_X4_addPiece I a1 a2 a3 a4 a5 a6).2)) else ((-1), I)) else (if (s_X8_has I a5) = 0 then ((-1), I) else (if (s_X9_isBelow a6 16) = 0 then ((-1), I) else (((s_X4_addPiece I a1 a2 a3 a4 a5 a6).1), ((s_X4_addPiece I a1 a2 a3 a4 a5 a6).2)))))))
def p_X9_piece (f : Nat) (I : am_I) (a1 : Int32) (a2 : Int32) (a3 : Int32) (a4 : Int32) (a5 : Int32) (a6 : Int32) : Prop := ((p_X4_isFree f I a1 a2 a3) ∧ (if (s_X4_isFree f I a1 a2 a3) = 0 then True else (if (s_X7_has I a4) = 0 then True else (if a5 = (-1) then (if a6 = 0 then (p_X4_addPiece I a1 a2 a3 a4 a5 a6) else True) else (if (s_X8_has I a5) = 0 then True else (if (s_X9_isBelow a6 16) = 0 then True else (p_X4_addPiece I a1 a2 a3 a4 a5 a6)))))))
set_option maxRecDepth 100000 in
set_option maxHeartbeats 4000000 in
theorem gt_X9_piece (f : Nat) (I : am_I) (J : am_J) (Q : am_Q) (hG : Gr Q) (a1 : Int32) (a2 : Int32) (a3 : Int32) (a4 : Int32) (a5 : Int32) (a6 : Int32) (hp : p_X9_piece f I a1 a2 a3 a4 a5 a6) : Gd MX9_piece (am_o 2 0 0 (am_FiI J Q (s_X9_piece f I a1 a2 a3 a4 a5 a6))) 0 0 92 0 [some (.ref 0), some (.int a1), some (.int a2), some (.int a3), some (.int a4), some (.int a5), some (.int a6), none] [] I J Q := by
  unfold s_X9_piece
  unfold p_X9_piece at hp
  refine gd_aload_n (q := 1) rfl rfl rfl ?_
  refine gd_getR (q := 4) (r := 15) rfl rfl rfl (Nat.le_of_ble_eq_true rfl) rfl rfl (gr_0_5 hG) ?_
  refine gd_iload_n (q := 5) rfl rfl rfl ?_
  refine gd_iload_n (q := 6) rfl rfl rfl ?_
  refine gd_iload_n (q := 7) rfl rfl rfl ?_
  refine gd_cVi (q := 10) rfl rfl lk9_128 myX4_isFree vxX4_isFree (ct_X4_isFree f _ _ _ hG _ _ _ hp.1) rfl (Nat.le_of_ble_eq_true rfl) rfl rfl (Nat.le_of_ble_eq_true rfl) rfl (Nat.le_of_ble_eq_true rfl) ⟨(Nat.le_of_ble_eq_true rfl), (Nat.le_of_ble_eq_true rfl)⟩ ?_
  replace hp := hp.2
  refine gx_if_eq (q := 13) (r := 25) rfl rfl rfl hp (fun c_10 hp => ?_) (fun c_10 hp => ?_)
  · refine gd_iconst (v := (-1)) (q := 26) rfl rfl rfl ?_
    exact gd_ireturn rfl rfl rfl (Nat.le_refl 0) (Nat.le_refl 0) rfl
  · refine gd_aload_n (q := 14) rfl rfl rfl ?_
    refine gd_getR (q := 17) (r := 13) rfl rfl rfl (Nat.le_of_ble_eq_true rfl) rfl rfl (gr_0_4 hG) ?_
    refine gd_iload (q := 19) rfl rfl rfl ?_
    refine gd_cVi (q := 22) rfl rfl lk9_118 myX7_has vxX7_has (ct_X7_has f _ _ _ hG _) rfl (Nat.le_of_ble_eq_true rfl) rfl rfl (Nat.le_of_ble_eq_true rfl) rfl (Nat.le_of_ble_eq_true rfl) ⟨(Nat.le_of_ble_eq_true rfl), (Nat.le_of_ble_eq_true rfl)⟩ ?_
    refine gx_if_ne (q := 25) (r := 27) rfl rfl rfl hp (fun c_22 hp => ?_) (fun c_22 hp => ?_)
    · refine gd_iconst (v := (-1)) (q := 26) rfl rfl rfl ?_
      exact gd_ireturn rfl rfl rfl (Nat.le_refl 0) (Nat.le_refl 0) rfl
    · refine gd_iload (q := 29) rfl rfl rfl ?_
      refine gd_iconst (v := (-1)) (q := 30) rfl rfl rfl ?_
      refine gx_icmp_ne (q := 33) (r := 46) rfl rfl rfl hp (fun c_30 hp => ?_) (fun c_30 hp => ?_)
      · refine gd_iload (q := 35) rfl rfl rfl ?_
        refine gx_if_ne (q := 38) (r := 42) rfl rfl rfl hp (fun c_35 hp => ?_) (fun c_35 hp => ?_)
        · refine gd_iconst (v := 1) (q := 39) rfl rfl rfl ?_
          refine gd_goto (q := 73) rfl rfl ?_
          refine gd_istore (q := 75) rfl rfl (Nat.le_of_ble_eq_true rfl) rfl ?_
          refine gd_iload (q := 77) rfl rfl rfl ?_
          refine gd_if_eq (q := 80) (r := 99) rfl rfl rfl (fun c => absurd c (by decide)) (fun _ => ?_)
          refine gd_aload_n (q := 81) rfl rfl rfl ?_
          refine gd_getR (q := 84) (r := 15) rfl rfl rfl (Nat.le_of_ble_eq_true rfl) rfl rfl (gr_0_5 hG) ?_
          refine gd_iload_n (q := 85) rfl rfl rfl ?_
          refine gd_iload_n (q := 86) rfl rfl rfl ?_
          refine gd_iload_n (q := 87) rfl rfl rfl ?_
          refine gd_iload (q := 89) rfl rfl rfl ?_
          refine gd_iload (q := 91) rfl rfl rfl ?_
          refine gd_iload (q := 93) rfl rfl rfl ?_
          refine gd_cVi (q := 96) rfl rfl lk9_132 myX4_addPiece vxX4_addPiece (ct_X4_addPiece f _ _ _ hG _ _ _ _ _ _ hp) rfl (Nat.le_of_ble_eq_true rfl) rfl rfl (Nat.le_of_ble_eq_true rfl) rfl (Nat.le_of_ble_eq_true rfl) ⟨(Nat.le_of_ble_eq_true rfl), (Nat.le_of_ble_eq_true rfl)⟩ ?_
          refine gd_goto (q := 100) rfl rfl ?_
          exact gd_ireturn rfl rfl rfl (Nat.le_refl 0) (Nat.le_refl 0) rfl
        · refine gd_iconst (v := 0) (q := 43) rfl rfl rfl ?_
          refine gd_goto (q := 73) rfl rfl ?_
          refine gd_istore (q := 75) rfl rfl (Nat.le_of_ble_eq_true rfl) rfl ?_
          refine gd_iload (q := 77) rfl rfl rfl ?_
          refine gd_if_eq (q := 80) (r := 99) rfl rfl rfl (fun _ => ?_) (fun c => absurd c (by decide))
          refine gd_iconst (v := (-1)) (q := 100) rfl rfl rfl ?_
          exact gd_ireturn rfl rfl rfl (Nat.le_refl 0) (Nat.le_refl 0) rfl
      · refine gd_aload_n (q := 47) rfl rfl rfl ?_
        refine gd_getR (q := 50) (r := 9) rfl rfl rfl (Nat.le_of_ble_eq_true rfl) rfl rfl (gr_0_3 hG) ?_
        refine gd_iload (q := 52) rfl rfl rfl ?_
        refine gd_cVi (q := 55) rfl rfl lk9_91 myX8_has vxX8_has (ct_X8_has f _ _ _ hG _) rfl (Nat.le_of_ble_eq_true rfl) rfl rfl (Nat.le_of_ble_eq_true rfl) rfl (Nat.le_of_ble_eq_true rfl) ⟨(Nat.le_of_ble_eq_true rfl), (Nat.le_of_ble_eq_true rfl)⟩ ?_
        refine gx_if_eq (q := 58) (r := 72) rfl rfl rfl hp (fun c_55 hp => ?_) (fun c_55 hp => ?_)
        · refine gd_iconst (v := 0) (q := 73) rfl rfl rfl ?_
          refine gd_istore (q := 75) rfl rfl (Nat.le_of_ble_eq_true rfl) rfl ?_
          refine gd_iload (q := 77) rfl rfl rfl ?_
          refine gd_if_eq (q := 80) (r := 99) rfl rfl rfl (fun _ => ?_) (fun c => absurd c (by decide))
          refine gd_iconst (v := (-1)) (q := 100) rfl rfl rfl ?_
          exact gd_ireturn rfl rfl rfl (Nat.le_refl 0) (Nat.le_refl 0) rfl
        · refine gd_iload (q := 60) rfl rfl rfl ?_
          refine gd_bipush (v := 16) (q := 62) rfl rfl rfl ?_
          refine gd_cSi (q := 65) rfl rfl lk9_110 myX9_isBelow sxX9_isBelow (ct_X9_isBelow f _ _ _ hG _ _) rfl rfl (Nat.le_of_ble_eq_true rfl) ⟨(Nat.le_of_ble_eq_true rfl), (Nat.le_of_ble_eq_true rfl)⟩ ?_
          refine gx_if_eq (q := 68) (r := 72) rfl rfl rfl hp (fun c_65 hp => ?_) (fun c_65 hp => ?_)
          · refine gd_iconst (v := 0) (q := 73) rfl rfl rfl ?_
            refine gd_istore (q := 75) rfl rfl (Nat.le_of_ble_eq_true rfl) rfl ?_
            refine gd_iload (q := 77) rfl rfl rfl ?_
            refine gd_if_eq (q := 80) (r := 99) rfl rfl rfl (fun _ => ?_) (fun c => absurd c (by decide))
            refine gd_iconst (v := (-1)) (q := 100) rfl rfl rfl ?_
            exact gd_ireturn rfl rfl rfl (Nat.le_refl 0) (Nat.le_refl 0) rfl
          · refine gd_iconst (v := 1) (q := 69) rfl rfl rfl ?_
            refine gd_goto (q := 73) rfl rfl ?_
            refine gd_istore (q := 75) rfl rfl (Nat.le_of_ble_eq_true rfl) rfl ?_
            refine gd_iload (q := 77) rfl rfl rfl ?_
            refine gd_if_eq (q := 80) (r := 99) rfl rfl rfl (fun c => absurd c (by decide)) (fun _ => ?_)
            refine gd_aload_n (q := 81) rfl rfl rfl ?_
            refine gd_getR (q := 84) (r := 15) rfl rfl rfl (Nat.le_of_ble_eq_true rfl) rfl rfl (gr_0_5 hG) ?_
            refine gd_iload_n (q := 85) rfl rfl rfl ?_
            refine gd_iload_n (q := 86) rfl rfl rfl ?_
            refine gd_iload_n (q := 87) rfl rfl rfl ?_
            refine gd_iload (q := 89) rfl rfl rfl ?_
            refine gd_iload (q := 91) rfl rfl rfl ?_
            refine gd_iload (q := 93) rfl rfl rfl ?_
            refine gd_cVi (q := 96) rfl rfl lk9_132 myX4_addPiece vxX4_addPiece (ct_X4_addPiece f _ _ _ hG _ _ _ _ _ _ hp) rfl (Nat.le_of_ble_eq_true rfl) rfl rfl (Nat.le_of_ble_eq_true rfl) rfl (Nat.le_of_ble_eq_true rfl) ⟨(Nat.le_of_ble_eq_true rfl), (Nat.le_of_ble_eq_true rfl)⟩ ?_
            refine gd_goto (q := 100) rfl rfl ?_
            exact gd_ireturn rfl rfl rfl (Nat.le_refl 0) (Nat.le_refl 0) rfl
theorem ct_X9_piece (f : Nat) (I : am_I) (J : am_J) (Q : am_Q) (hG : Gr Q) (a1 : Int32) (a2 : Int32) (a3 : Int32) (a4 : Int32) (a5 : Int32) (a6 : Int32) (hp : p_X9_piece f I a1 a2 a3 a4 a5 a6) : Cm MX9_piece 2 0 0 92 [.ref 0, .int a1, .int a2, .int a3, .int a4, .int a5, .int a6] I J Q (am_FiI J Q (s_X9_piece f I a1 a2 a3 a4 a5 a6)) := cm_of (by decide) rfl IX9_piece_ok (Nat.le_of_ble_eq_true rfl) (gt_X9_piece f I J Q hG a1 a2 a3 a4 a5 a6 hp)
def s_X0_add (I : am_I) (a1 : Int32) : Int32 × am_I := (if (I 26 2) < 6 then ((((I 26 2) + 1) - 1), (am_w (am_w I 27 (I 26 2).toNatClampNeg a1) 26 2 ((I 26 2) + 1))) else ((-1), I))
def p_X0_add (I : am_I) (a1 : Int32) : Prop := (if (I 26 2) < 6 then vp_in (I 26 2) 6 else True)
set_option maxRecDepth 100000 in
set_option maxHeartbeats 4000000 in
theorem gt_X0_add (f : Nat) (I : am_I) (J : am_J) (Q : am_Q) (hG : Gr Q) (a1 : Int32) (hp : p_X0_add I a1) : Gd MX0_add (am_o 0 0 0 (am_FiI J Q (s_X0_add I a1))) 0 0 92 0 [some (.ref 26), some (.int a1)] [] I J Q := by
  unfold s_X0_add
  unfold p_X0_add at hp
  refine gd_aload_n (q := 1) rfl rfl rfl ?_
  refine gd_getI (q := 4) rfl rfl rfl (Nat.le_of_ble_eq_true rfl) rfl rfl ?_
  refine gd_bipush (v := 6) (q := 6) rfl rfl rfl ?_
  refine gx_icmp_lt (q := 9) (r := 11) rfl rfl rfl hp (fun c_6 hp => ?_) (fun c_6 hp => ?_)
  · refine gd_aload_n (q := 12) rfl rfl rfl ?_
    refine gd_getR (q := 15) (r := 27) rfl rfl rfl (Nat.le_of_ble_eq_true rfl) rfl rfl (gr_26_0 hG) ?_
    refine gd_aload_n (q := 16) rfl rfl rfl ?_
    refine gd_getI (q := 19) rfl rfl rfl (Nat.le_of_ble_eq_true rfl) rfl rfl ?_
    refine gd_iload_n (q := 20) rfl rfl rfl ?_
    refine gd_iast (q := 21) rfl rfl (Nat.le_of_ble_eq_true rfl) rfl hp ?_
    refine gd_aload_n (q := 22) rfl rfl rfl ?_
    refine gd_dup (q := 23) rfl rfl rfl ?_
    refine gd_getI (q := 26) rfl rfl rfl (Nat.le_of_ble_eq_true rfl) rfl rfl ?_
    refine gd_iconst (v := 1) (q := 27) rfl rfl rfl ?_
    refine gd_iadd (q := 28) rfl rfl ?_
    refine gd_putI (q := 31) rfl rfl rfl (Nat.le_of_ble_eq_true rfl) rfl rfl rfl (Or.inl rfl) ?_
    refine gd_aload_n (q := 32) rfl rfl rfl ?_
    refine gd_getI (q := 35) rfl rfl rfl (Nat.le_of_ble_eq_true rfl) rfl rfl ?_
    refine gd_iconst (v := 1) (q := 36) rfl rfl rfl ?_
    refine gd_isub (q := 37) rfl rfl ?_
    exact gd_ireturn rfl rfl rfl (Nat.le_refl 0) (Nat.le_refl 0) rfl
  · refine gd_iconst (v := (-1)) (q := 10) rfl rfl rfl ?_
    exact gd_ireturn rfl rfl rfl (Nat.le_refl 0) (Nat.le_refl 0) rfl
theorem ct_X0_add (f : Nat) (I : am_I) (J : am_J) (Q : am_Q) (hG : Gr Q) (a1 : Int32) (hp : p_X0_add I a1) : Cm MX0_add 0 0 0 92 [.ref 26, .int a1] I J Q (am_FiI J Q (s_X0_add I a1)) := cm_of (by decide) rfl IX0_add_ok (Nat.le_of_ble_eq_true rfl) (gt_X0_add f I J Q hG a1 hp)
def s_X9_asker (I : am_I) (a1 : Int32) : Int32 × am_I := (if (s_X9_isBelow a1 4) = 0 then ((-1), I) else (((s_X0_add I a1).1), ((s_X0_add I a1).2)))
def p_X9_asker (I : am_I) (a1 : Int32) : Prop := (if (s_X9_isBelow a1 4) = 0 then True else (p_X0_add I a1))
set_option maxRecDepth 100000 in
set_option maxHeartbeats 4000000 in
theorem gt_X9_asker (f : Nat) (I : am_I) (J : am_J) (Q : am_Q) (hG : Gr Q) (a1 : Int32) (hp : p_X9_asker I a1) : Gd MX9_asker (am_o 1 0 0 (am_FiI J Q (s_X9_asker I a1))) 0 0 92 0 [some (.ref 0), some (.int a1)] [] I J Q := by
  unfold s_X9_asker
  unfold p_X9_asker at hp
  refine gd_iload_n (q := 1) rfl rfl rfl ?_
  refine gd_iconst (v := 4) (q := 2) rfl rfl rfl ?_
  refine gd_cSi (q := 5) rfl rfl lk9_110 myX9_isBelow sxX9_isBelow (ct_X9_isBelow f _ _ _ hG _ _) rfl rfl (Nat.le_of_ble_eq_true rfl) ⟨(Nat.le_of_ble_eq_true rfl), (Nat.le_of_ble_eq_true rfl)⟩ ?_
  refine gx_if_eq (q := 8) (r := 19) rfl rfl rfl hp (fun c_5 hp => ?_) (fun c_5 hp => ?_)
  · refine gd_iconst (v := (-1)) (q := 20) rfl rfl rfl ?_
    exact gd_ireturn rfl rfl rfl (Nat.le_refl 0) (Nat.le_refl 0) rfl
  · refine gd_aload_n (q := 9) rfl rfl rfl ?_
    refine gd_getR (q := 12) (r := 26) rfl rfl rfl (Nat.le_of_ble_eq_true rfl) rfl rfl (gr_0_6 hG) ?_
    refine gd_iload_n (q := 13) rfl rfl rfl ?_
    refine gd_cVi (q := 16) rfl rfl lk9_136 myX0_add vxX0_add (ct_X0_add f _ _ _ hG _ hp) rfl (Nat.le_of_ble_eq_true rfl) rfl rfl (Nat.le_of_ble_eq_true rfl) rfl (Nat.le_of_ble_eq_true rfl) ⟨(Nat.le_of_ble_eq_true rfl), (Nat.le_of_ble_eq_true rfl)⟩ ?_
    refine gd_goto (q := 20) rfl rfl ?_
    exact gd_ireturn rfl rfl rfl (Nat.le_refl 0) (Nat.le_refl 0) rfl
theorem ct_X9_asker (f : Nat) (I : am_I) (J : am_J) (Q : am_Q) (hG : Gr Q) (a1 : Int32) (hp : p_X9_asker I a1) : Cm MX9_asker 1 0 0 92 [.ref 0, .int a1] I J Q (am_FiI J Q (s_X9_asker I a1)) := cm_of (by decide) rfl IX9_asker_ok (Nat.le_of_ble_eq_true rfl) (gt_X9_asker f I J Q hG a1 hp)
def s_X9_copy (I : am_I) (a1 : Int32) : Int32 × am_I := (if a1 < 0 then ((-1), I) else (if 400 < a1 then ((-1), I) else (if (I 0 9) < 4 then ((((I 0 9) + 1) - 1), (am_w (am_w I 37 (I 0 9).toNatClampNeg a1) 0 9 ((I 0 9) + 1))) else ((-1), I))))
def p_X9_copy (I : am_I) (a1 : Int32) : Prop := (if a1 < 0 then True else (if 400 < a1 then True else (if (I 0 9) < 4 then vp_in (I 0 9) 4 else True)))
set_option maxRecDepth 100000 in
set_option maxHeartbeats 4000000 in
theorem gt_X9_copy (f : Nat) (I : am_I) (J : am_J) (Q : am_Q) (hG : Gr Q) (a1 : Int32) (hp : p_X9_copy I a1) : Gd MX9_copy (am_o 0 0 0 (am_FiI J Q (s_X9_copy I a1))) 0 0 92 0 [some (.ref 0), some (.int a1)] [] I J Q := by
  unfold s_X9_copy
  unfold p_X9_copy at hp
  refine gd_iload_n (q := 1) rfl rfl rfl ?_
  refine gx_if_lt (q := 4) (r := 19) rfl rfl rfl hp (fun c_1 hp => ?_) (fun c_1 hp => ?_)
  · refine gd_iconst (v := (-1)) (q := 20) rfl rfl rfl ?_
    exact gd_ireturn rfl rfl rfl (Nat.le_refl 0) (Nat.le_refl 0) rfl
  · refine gd_iload_n (q := 5) rfl rfl rfl ?_
    refine gd_sipush (v := 400) (q := 8) rfl rfl rfl ?_
    refine gx_icmp_gt (q := 11) (r := 19) rfl rfl rfl hp (fun c_8 hp => ?_) (fun c_8 hp => ?_)
    · refine gd_iconst (v := (-1)) (q := 20) rfl rfl rfl ?_
      exact gd_ireturn rfl rfl rfl (Nat.le_refl 0) (Nat.le_refl 0) rfl
    · refine gd_aload_n (q := 12) rfl rfl rfl ?_
      refine gd_getI (q := 15) rfl rfl rfl (Nat.le_of_ble_eq_true rfl) rfl rfl ?_
      refine gd_iconst (v := 4) (q := 16) rfl rfl rfl ?_
      refine gx_icmp_lt (q := 19) (r := 21) rfl rfl rfl hp (fun c_16 hp => ?_) (fun c_16 hp => ?_)
      · refine gd_aload_n (q := 22) rfl rfl rfl ?_
        refine gd_getR (q := 25) (r := 37) rfl rfl rfl (Nat.le_of_ble_eq_true rfl) rfl rfl (gr_0_8 hG) ?_
        refine gd_aload_n (q := 26) rfl rfl rfl ?_
        refine gd_getI (q := 29) rfl rfl rfl (Nat.le_of_ble_eq_true rfl) rfl rfl ?_
        refine gd_iload_n (q := 30) rfl rfl rfl ?_
        refine gd_iast (q := 31) rfl rfl (Nat.le_of_ble_eq_true rfl) rfl hp ?_
        refine gd_aload_n (q := 32) rfl rfl rfl ?_
        refine gd_dup (q := 33) rfl rfl rfl ?_
        refine gd_getI (q := 36) rfl rfl rfl (Nat.le_of_ble_eq_true rfl) rfl rfl ?_
        refine gd_iconst (v := 1) (q := 37) rfl rfl rfl ?_
        refine gd_iadd (q := 38) rfl rfl ?_
        refine gd_putI (q := 41) rfl rfl rfl (Nat.le_of_ble_eq_true rfl) rfl rfl rfl (Or.inl rfl) ?_
        refine gd_aload_n (q := 42) rfl rfl rfl ?_
        refine gd_getI (q := 45) rfl rfl rfl (Nat.le_of_ble_eq_true rfl) rfl rfl ?_
        refine gd_iconst (v := 1) (q := 46) rfl rfl rfl ?_
        refine gd_isub (q := 47) rfl rfl ?_
        exact gd_ireturn rfl rfl rfl (Nat.le_refl 0) (Nat.le_refl 0) rfl
      · refine gd_iconst (v := (-1)) (q := 20) rfl rfl rfl ?_
        exact gd_ireturn rfl rfl rfl (Nat.le_refl 0) (Nat.le_refl 0) rfl
theorem ct_X9_copy (f : Nat) (I : am_I) (J : am_J) (Q : am_Q) (hG : Gr Q) (a1 : Int32) (hp : p_X9_copy I a1) : Cm MX9_copy 0 0 0 92 [.ref 0, .int a1] I J Q (am_FiI J Q (s_X9_copy I a1)) := cm_of (by decide) rfl IX9_copy_ok (Nat.le_of_ble_eq_true rfl) (gt_X9_copy f I J Q hG a1 hp)
def s_X9_bound (I : am_I) (a1 : Int32) : Int32 × am_I := (if a1 < 1 then (0, I) else (if 12 < a1 then (0, I) else (1, (am_w I 0 10 a1))))
theorem z_X9_bound (I : am_I) (a1 : Int32) : (s_X9_bound I a1).1 = 0 ∨ (s_X9_bound I a1).1 = 1 := by
  unfold s_X9_bound
  repeat' split
  all_goals first | exact Or.inl rfl | exact Or.inr rfl
set_option maxRecDepth 100000 in
set_option maxHeartbeats 4000000 in
theorem gt_X9_bound (f : Nat) (I : am_I) (J : am_J) (Q : am_Q) (hG : Gr Q) (a1 : Int32) : Gd MX9_bound (am_o 0 0 0 (am_FiI J Q (s_X9_bound I a1))) 0 0 92 0 [some (.ref 0), some (.int a1), none] [] I J Q := by
  unfold s_X9_bound
  refine gd_iload_n (q := 1) rfl rfl rfl ?_
  refine gd_iconst (v := 1) (q := 2) rfl rfl rfl ?_
  refine gy_icmp_lt (q := 5) (r := 15) rfl rfl rfl (fun c_2 => ?_) (fun c_2 => ?_)
  · refine gd_iconst (v := 0) (q := 16) rfl rfl rfl ?_
    refine gd_istore_n (q := 17) rfl rfl (Nat.le_of_ble_eq_true rfl) rfl ?_
    refine gd_iload_n (q := 18) rfl rfl rfl ?_
    refine gd_if_eq (q := 21) (r := 26) rfl rfl rfl (fun _ => ?_) (fun c => absurd c (by decide))
    refine gd_iload_n (q := 27) rfl rfl rfl ?_
    exact gd_ireturn rfl rfl rfl (Nat.le_refl 0) (Nat.le_refl 0) rfl
  · refine gd_iload_n (q := 6) rfl rfl rfl ?_
    refine gd_bipush (v := 12) (q := 8) rfl rfl rfl ?_
    refine gy_icmp_gt (q := 11) (r := 15) rfl rfl rfl (fun c_8 => ?_) (fun c_8 => ?_)
    · refine gd_iconst (v := 0) (q := 16) rfl rfl rfl ?_
      refine gd_istore_n (q := 17) rfl rfl (Nat.le_of_ble_eq_true rfl) rfl ?_
      refine gd_iload_n (q := 18) rfl rfl rfl ?_
      refine gd_if_eq (q := 21) (r := 26) rfl rfl rfl (fun _ => ?_) (fun c => absurd c (by decide))
      refine gd_iload_n (q := 27) rfl rfl rfl ?_
      exact gd_ireturn rfl rfl rfl (Nat.le_refl 0) (Nat.le_refl 0) rfl
    · refine gd_iconst (v := 1) (q := 12) rfl rfl rfl ?_
      refine gd_goto (q := 16) rfl rfl ?_
      refine gd_istore_n (q := 17) rfl rfl (Nat.le_of_ble_eq_true rfl) rfl ?_
      refine gd_iload_n (q := 18) rfl rfl rfl ?_
      refine gd_if_eq (q := 21) (r := 26) rfl rfl rfl (fun c => absurd c (by decide)) (fun _ => ?_)
      refine gd_aload_n (q := 22) rfl rfl rfl ?_
      refine gd_iload_n (q := 23) rfl rfl rfl ?_
      refine gd_putI (q := 26) rfl rfl rfl (Nat.le_of_ble_eq_true rfl) rfl rfl rfl (Or.inl rfl) ?_
      refine gd_iload_n (q := 27) rfl rfl rfl ?_
      exact gd_ireturn rfl rfl rfl (Nat.le_refl 0) (Nat.le_refl 0) rfl
theorem ct_X9_bound (f : Nat) (I : am_I) (J : am_J) (Q : am_Q) (hG : Gr Q) (a1 : Int32) : Cm MX9_bound 0 0 0 92 [.ref 0, .int a1] I J Q (am_FiI J Q (s_X9_bound I a1)) := cm_of (by decide) rfl IX9_bound_ok (Nat.le_of_ble_eq_true rfl) (gt_X9_bound f I J Q hG a1)
def s_X8_setDeath (I : am_I) (a1 : Int32) (a2 : Int32) : Int32 × am_I := (if (s_X8_has I a1) = 0 then (0, I) else (if (I 11 a1.toNatClampNeg) = (-1) then (1, (am_w I 11 a1.toNatClampNeg a2)) else (0, I)))
def p_X8_setDeath (I : am_I) (a1 : Int32) (a2 : Int32) : Prop := (if (s_X8_has I a1) = 0 then True else (vp_in a1 12 ∧ (if (I 11 a1.toNatClampNeg) = (-1) then vp_in a1 12 else True)))
theorem z_X8_setDeath (I : am_I) (a1 : Int32) (a2 : Int32) : (s_X8_setDeath I a1 a2).1 = 0 ∨ (s_X8_setDeath I a1 a2).1 = 1 := by
  unfold s_X8_setDeath
  repeat' split
  all_goals first | exact Or.inl rfl | exact Or.inr rfl | exact z_X8_has _ _
set_option maxRecDepth 100000 in
set_option maxHeartbeats 4000000 in
theorem gt_X8_setDeath (f : Nat) (I : am_I) (J : am_J) (Q : am_Q) (hG : Gr Q) (a1 : Int32) (a2 : Int32) (hp : p_X8_setDeath I a1 a2) : Gd MX8_setDeath (am_o 2 0 0 (am_FiI J Q (s_X8_setDeath I a1 a2))) 0 0 92 0 [some (.ref 9), some (.int a1), some (.int a2)] [] I J Q := by
  unfold s_X8_setDeath
  unfold p_X8_setDeath at hp
  refine gd_aload_n (q := 1) rfl rfl rfl ?_
  refine gd_iload_n (q := 2) rfl rfl rfl ?_
  refine gd_cVi (q := 5) rfl rfl lk8_33 myX8_has vxX8_has (ct_X8_has f _ _ _ hG _) rfl (Nat.le_of_ble_eq_true rfl) rfl rfl (Nat.le_of_ble_eq_true rfl) rfl (Nat.le_of_ble_eq_true rfl) ⟨(Nat.le_of_ble_eq_true rfl), (Nat.le_of_ble_eq_true rfl)⟩ ?_
  refine gx_if_eq (q := 8) (r := 18) rfl rfl rfl hp (fun c_5 hp => ?_) (fun c_5 hp => ?_)
  · refine gd_iconst (v := 0) (q := 19) rfl rfl rfl ?_
    exact gd_ireturn rfl rfl rfl (Nat.le_refl 0) (Nat.le_refl 0) rfl
  · refine gd_aload_n (q := 9) rfl rfl rfl ?_
    refine gd_getR (q := 12) (r := 11) rfl rfl rfl (Nat.le_of_ble_eq_true rfl) rfl rfl (gr_9_1 hG) ?_
    refine gd_iload_n (q := 13) rfl rfl rfl ?_
    refine gd_iald (q := 14) rfl rfl (Nat.le_of_ble_eq_true rfl) rfl hp.1 ?_
    replace hp := hp.2
    refine gd_iconst (v := (-1)) (q := 15) rfl rfl rfl ?_
    refine gx_icmp_eq (q := 18) (r := 20) rfl rfl rfl hp (fun c_15 hp => ?_) (fun c_15 hp => ?_)
    · refine gd_aload_n (q := 21) rfl rfl rfl ?_
      refine gd_getR (q := 24) (r := 11) rfl rfl rfl (Nat.le_of_ble_eq_true rfl) rfl rfl (gr_9_1 hG) ?_
      refine gd_iload_n (q := 25) rfl rfl rfl ?_
      refine gd_iload_n (q := 26) rfl rfl rfl ?_
      refine gd_iast (q := 27) rfl rfl (Nat.le_of_ble_eq_true rfl) rfl hp ?_
      refine gd_iconst (v := 1) (q := 28) rfl rfl rfl ?_
      exact gd_ireturn rfl rfl rfl (Nat.le_refl 0) (Nat.le_refl 0) rfl
    · refine gd_iconst (v := 0) (q := 19) rfl rfl rfl ?_
      exact gd_ireturn rfl rfl rfl (Nat.le_refl 0) (Nat.le_refl 0) rfl
theorem ct_X8_setDeath (f : Nat) (I : am_I) (J : am_J) (Q : am_Q) (hG : Gr Q) (a1 : Int32) (a2 : Int32) (hp : p_X8_setDeath I a1 a2) : Cm MX8_setDeath 2 0 0 92 [.ref 9, .int a1, .int a2] I J Q (am_FiI J Q (s_X8_setDeath I a1 a2)) := cm_of (by decide) rfl IX8_setDeath_ok (Nat.le_of_ble_eq_true rfl) (gt_X8_setDeath f I J Q hG a1 a2 hp)
def s_X9_dies (I : am_I) (a1 : Int32) (a2 : Int32) : Int32 × am_I := (if (s_X9_isDay a2) = 0 then (0, I) else (if ((s_X8_setDeath I a1 a2).1) = 0 then (0, ((s_X8_setDeath I a1 a2).2)) else (1, ((s_X8_setDeath I a1 a2).2))))
def p_X9_dies (I : am_I) (a1 : Int32) (a2 : Int32) : Prop := (if (s_X9_isDay a2) = 0 then True else (p_X8_setDeath I a1 a2))
theorem z_X9_dies (I : am_I) (a1 : Int32) (a2 : Int32) : (s_X9_dies I a1 a2).1 = 0 ∨ (s_X9_dies I a1 a2).1 = 1 := by
  unfold s_X9_dies
  repeat' split
  all_goals first | exact Or.inl rfl | exact Or.inr rfl | exact z_X9_isDay _ | exact z_X8_setDeath _ _ _
set_option maxRecDepth 100000 in
set_option maxHeartbeats 4000000 in
theorem gt_X9_dies (f : Nat) (I : am_I) (J : am_J) (Q : am_Q) (hG : Gr Q) (a1 : Int32) (a2 : Int32) (hp : p_X9_dies I a1 a2) : Gd MX9_dies (am_o 3 0 0 (am_FiI J Q (s_X9_dies I a1 a2))) 0 0 92 0 [some (.ref 0), some (.int a1), some (.int a2)] [] I J Q := by
  unfold s_X9_dies
  unfold p_X9_dies at hp
  refine gd_iload_n (q := 1) rfl rfl rfl ?_
  refine gd_cSi (q := 4) rfl rfl lk9_121 myX9_isDay sxX9_isDay (ct_X9_isDay f _ _ _ hG _) rfl rfl (Nat.le_of_ble_eq_true rfl) ⟨(Nat.le_of_ble_eq_true rfl), (Nat.le_of_ble_eq_true rfl)⟩ ?_
  refine gx_if_eq (q := 7) (r := 23) rfl rfl rfl hp (fun c_4 hp => ?_) (fun c_4 hp => ?_)
  · refine gd_iconst (v := 0) (q := 24) rfl rfl rfl ?_
    exact gd_ireturn rfl rfl rfl (Nat.le_refl 0) (Nat.le_refl 0) rfl
  · refine gd_aload_n (q := 8) rfl rfl rfl ?_
    refine gd_getR (q := 11) (r := 9) rfl rfl rfl (Nat.le_of_ble_eq_true rfl) rfl rfl (gr_0_3 hG) ?_
    refine gd_iload_n (q := 12) rfl rfl rfl ?_
    refine gd_iload_n (q := 13) rfl rfl rfl ?_
    refine gd_cVi (q := 16) rfl rfl lk9_140 myX8_setDeath vxX8_setDeath (ct_X8_setDeath f _ _ _ hG _ _ hp) rfl (Nat.le_of_ble_eq_true rfl) rfl rfl (Nat.le_of_ble_eq_true rfl) rfl (Nat.le_of_ble_eq_true rfl) ⟨(Nat.le_of_ble_eq_true rfl), (Nat.le_of_ble_eq_true rfl)⟩ ?_
    refine gy_if_eq (q := 19) (r := 23) rfl rfl rfl (fun c_16 => ?_) (fun c_16 => ?_)
    · refine gd_iconst (v := 0) (q := 24) rfl rfl rfl ?_
      exact gd_ireturn rfl rfl rfl (Nat.le_refl 0) (Nat.le_refl 0) rfl
    · refine gd_iconst (v := 1) (q := 20) rfl rfl rfl ?_
      refine gd_goto (q := 24) rfl rfl ?_
      exact gd_ireturn rfl rfl rfl (Nat.le_refl 0) (Nat.le_refl 0) rfl
theorem ct_X9_dies (f : Nat) (I : am_I) (J : am_J) (Q : am_Q) (hG : Gr Q) (a1 : Int32) (a2 : Int32) (hp : p_X9_dies I a1 a2) : Cm MX9_dies 3 0 0 92 [.ref 0, .int a1, .int a2] I J Q (am_FiI J Q (s_X9_dies I a1 a2)) := cm_of (by decide) rfl IX9_dies_ok (Nat.le_of_ble_eq_true rfl) (gt_X9_dies f I J Q hG a1 a2 hp)
def s_X4_has (I : am_I) (a1 : Int32) : Int32 := (s_X9_isBelow a1 (I 15 11))
theorem z_X4_has (I : am_I) (a1 : Int32) : (s_X4_has I a1) = 0 ∨ (s_X4_has I a1) = 1 := by
  unfold s_X4_has
  repeat' split
  all_goals first | exact Or.inl rfl | exact Or.inr rfl | exact z_X9_isBelow _ _
set_option maxRecDepth 100000 in
set_option maxHeartbeats 4000000 in
theorem gt_X4_has (f : Nat) (I : am_I) (J : am_J) (Q : am_Q) (hG : Gr Q) (a1 : Int32) : Gd MX4_has (am_o 1 0 0 (am_Fi I J Q (s_X4_has I a1))) 0 0 92 0 [some (.ref 15), some (.int a1)] [] I J Q := by
  unfold s_X4_has
  refine gd_iload_n (q := 1) rfl rfl rfl ?_
  refine gd_aload_n (q := 2) rfl rfl rfl ?_
  refine gd_getI (q := 5) rfl rfl rfl (Nat.le_of_ble_eq_true rfl) rfl rfl ?_
  refine gd_cSi (q := 8) rfl rfl lk4_46 myX9_isBelow sxX9_isBelow (ct_X9_isBelow f _ _ _ hG _ _) rfl rfl (Nat.le_of_ble_eq_true rfl) ⟨(Nat.le_of_ble_eq_true rfl), (Nat.le_of_ble_eq_true rfl)⟩ ?_
  exact gd_ireturn rfl rfl (am_zn (z_X9_isBelow a1 (I 15 11))) (Nat.le_refl 0) (Nat.le_refl 0) rfl
theorem ct_X4_has (f : Nat) (I : am_I) (J : am_J) (Q : am_Q) (hG : Gr Q) (a1 : Int32) : Cm MX4_has 1 0 0 92 [.ref 15, .int a1] I J Q (am_Fi I J Q (s_X4_has I a1)) := cm_of (by decide) rfl IX4_has_ok (Nat.le_of_ble_eq_true rfl) (gt_X4_has f I J Q hG a1)
def s_X4_takeBack (I : am_I) (a1 : Int32) (a2 : Int32) : Int32 × am_I := (if (s_X4_has I a1) = 0 then (0, I) else (if (I 25 a1.toNatClampNeg) = (-1) then (1, (am_w I 25 a1.toNatClampNeg a2)) else (0, I)))
def p_X4_takeBack (I : am_I) (a1 : Int32) (a2 : Int32) : Prop := (if (s_X4_has I a1) = 0 then True else (vp_in a1 30 ∧ (if (I 25 a1.toNatClampNeg) = (-1) then vp_in a1 30 else True)))
theorem z_X4_takeBack (I : am_I) (a1 : Int32) (a2 : Int32) : (s_X4_takeBack I a1 a2).1 = 0 ∨ (s_X4_takeBack I a1 a2).1 = 1 := by
  unfold s_X4_takeBack
  repeat' split
  all_goals first | exact Or.inl rfl | exact Or.inr rfl | exact z_X4_has _ _
set_option maxRecDepth 100000 in
set_option maxHeartbeats 4000000 in
theorem gt_X4_takeBack (f : Nat) (I : am_I) (J : am_J) (Q : am_Q) (hG : Gr Q) (a1 : Int32) (a2 : Int32) (hp : p_X4_takeBack I a1 a2) : Gd MX4_takeBack (am_o 2 0 0 (am_FiI J Q (s_X4_takeBack I a1 a2))) 0 0 92 0 [some (.ref 15), some (.int a1), some (.int a2)] [] I J Q := by
  unfold s_X4_takeBack
  unfold p_X4_takeBack at hp
  refine gd_aload_n (q := 1) rfl rfl rfl ?_
  refine gd_iload_n (q := 2) rfl rfl rfl ?_
  refine gd_cVi (q := 5) rfl rfl lk4_53 myX4_has vxX4_has (ct_X4_has f _ _ _ hG _) rfl (Nat.le_of_ble_eq_true rfl) rfl rfl (Nat.le_of_ble_eq_true rfl) rfl (Nat.le_of_ble_eq_true rfl) ⟨(Nat.le_of_ble_eq_true rfl), (Nat.le_of_ble_eq_true rfl)⟩ ?_
  refine gx_if_eq (q := 8) (r := 18) rfl rfl rfl hp (fun c_5 hp => ?_) (fun c_5 hp => ?_)
  · refine gd_iconst (v := 0) (q := 19) rfl rfl rfl ?_
    exact gd_ireturn rfl rfl rfl (Nat.le_refl 0) (Nat.le_refl 0) rfl
  · refine gd_aload_n (q := 9) rfl rfl rfl ?_
    refine gd_getR (q := 12) (r := 25) rfl rfl rfl (Nat.le_of_ble_eq_true rfl) rfl rfl (gr_15_10 hG) ?_
    refine gd_iload_n (q := 13) rfl rfl rfl ?_
    refine gd_iald (q := 14) rfl rfl (Nat.le_of_ble_eq_true rfl) rfl hp.1 ?_
    replace hp := hp.2
    refine gd_iconst (v := (-1)) (q := 15) rfl rfl rfl ?_
    refine gx_icmp_eq (q := 18) (r := 20) rfl rfl rfl hp (fun c_15 hp => ?_) (fun c_15 hp => ?_)
    · refine gd_aload_n (q := 21) rfl rfl rfl ?_
      refine gd_getR (q := 24) (r := 25) rfl rfl rfl (Nat.le_of_ble_eq_true rfl) rfl rfl (gr_15_10 hG) ?_
      refine gd_iload_n (q := 25) rfl rfl rfl ?_
      refine gd_iload_n (q := 26) rfl rfl rfl ?_
      refine gd_iast (q := 27) rfl rfl (Nat.le_of_ble_eq_true rfl) rfl hp ?_
      refine gd_iconst (v := 1) (q := 28) rfl rfl rfl ?_
      exact gd_ireturn rfl rfl rfl (Nat.le_refl 0) (Nat.le_refl 0) rfl
    · refine gd_iconst (v := 0) (q := 19) rfl rfl rfl ?_
      exact gd_ireturn rfl rfl rfl (Nat.le_refl 0) (Nat.le_refl 0) rfl
theorem ct_X4_takeBack (f : Nat) (I : am_I) (J : am_J) (Q : am_Q) (hG : Gr Q) (a1 : Int32) (a2 : Int32) (hp : p_X4_takeBack I a1 a2) : Cm MX4_takeBack 2 0 0 92 [.ref 15, .int a1, .int a2] I J Q (am_FiI J Q (s_X4_takeBack I a1 a2)) := cm_of (by decide) rfl IX4_takeBack_ok (Nat.le_of_ble_eq_true rfl) (gt_X4_takeBack f I J Q hG a1 a2 hp)
def s_X9_takes (I : am_I) (a1 : Int32) (a2 : Int32) : Int32 × am_I := (if (s_X9_isDay a2) = 0 then (0, I) else (if ((s_X4_takeBack I a1 a2).1) = 0 then (0, ((s_X4_takeBack I a1 a2).2)) else (1, ((s_X4_takeBack I a1 a2).2))))
def p_X9_takes (I : am_I) (a1 : Int32) (a2 : Int32) : Prop := (if (s_X9_isDay a2) = 0 then True else (p_X4_takeBack I a1 a2))
theorem z_X9_takes (I : am_I) (a1 : Int32) (a2 : Int32) : (s_X9_takes I a1 a2).1 = 0 ∨ (s_X9_takes I a1 a2).1 = 1 := by
  unfold s_X9_takes
  repeat' split
  all_goals first | exact Or.inl rfl | exact Or.inr rfl | exact z_X9_isDay _ | exact z_X4_takeBack _ _ _
set_option maxRecDepth 100000 in
set_option maxHeartbeats 4000000 in
theorem gt_X9_takes (f : Nat) (I : am_I) (J : am_J) (Q : am_Q) (hG : Gr Q) (a1 : Int32) (a2 : Int32) (hp : p_X9_takes I a1 a2) : Gd MX9_takes (am_o 3 0 0 (am_FiI J Q (s_X9_takes I a1 a2))) 0 0 92 0 [some (.ref 0), some (.int a1), some (.int a2)] [] I J Q := by
  unfold s_X9_takes
  unfold p_X9_takes at hp
  refine gd_iload_n (q := 1) rfl rfl rfl ?_
  refine gd_cSi (q := 4) rfl rfl lk9_121 myX9_isDay sxX9_isDay (ct_X9_isDay f _ _ _ hG _) rfl rfl (Nat.le_of_ble_eq_true rfl) ⟨(Nat.le_of_ble_eq_true rfl), (Nat.le_of_ble_eq_true rfl)⟩ ?_
  refine gx_if_eq (q := 7) (r := 23) rfl rfl rfl hp (fun c_4 hp => ?_) (fun c_4 hp => ?_)
  · refine gd_iconst (v := 0) (q := 24) rfl rfl rfl ?_
    exact gd_ireturn rfl rfl rfl (Nat.le_refl 0) (Nat.le_refl 0) rfl
  · refine gd_aload_n (q := 8) rfl rfl rfl ?_
    refine gd_getR (q := 11) (r := 15) rfl rfl rfl (Nat.le_of_ble_eq_true rfl) rfl rfl (gr_0_5 hG) ?_
    refine gd_iload_n (q := 12) rfl rfl rfl ?_
    refine gd_iload_n (q := 13) rfl rfl rfl ?_
    refine gd_cVi (q := 16) rfl rfl lk9_143 myX4_takeBack vxX4_takeBack (ct_X4_takeBack f _ _ _ hG _ _ hp) rfl (Nat.le_of_ble_eq_true rfl) rfl rfl (Nat.le_of_ble_eq_true rfl) rfl (Nat.le_of_ble_eq_true rfl) ⟨(Nat.le_of_ble_eq_true rfl), (Nat.le_of_ble_eq_true rfl)⟩ ?_
    refine gy_if_eq (q := 19) (r := 23) rfl rfl rfl (fun c_16 => ?_) (fun c_16 => ?_)
    · refine gd_iconst (v := 0) (q := 24) rfl rfl rfl ?_
      exact gd_ireturn rfl rfl rfl (Nat.le_refl 0) (Nat.le_refl 0) rfl
    · refine gd_iconst (v := 1) (q := 20) rfl rfl rfl ?_
      refine gd_goto (q := 24) rfl rfl ?_
      exact gd_ireturn rfl rfl rfl (Nat.le_refl 0) (Nat.le_refl 0) rfl
theorem ct_X9_takes (f : Nat) (I : am_I) (J : am_J) (Q : am_Q) (hG : Gr Q) (a1 : Int32) (a2 : Int32) (hp : p_X9_takes I a1 a2) : Cm MX9_takes 3 0 0 92 [.ref 0, .int a1, .int a2] I J Q (am_FiI J Q (s_X9_takes I a1 a2)) := cm_of (by decide) rfl IX9_takes_ok (Nat.le_of_ble_eq_true rfl) (gt_X9_takes f I J Q hG a1 a2 hp)
def s_X9_isQuestion (I : am_I) (a1 : Int32) (a2 : Int32) (a3 : Int32) (a4 : Int32) : Int32 := (if (s_X4_has I a1) = 0 then 0 else (if (s_X9_isDay a2) = 0 then 0 else (if (s_X9_isBelow a3 4) = 0 then 0 else (if (s_X9_isBelow a4 4) = 0 then 0 else 1))))
theorem z_X9_isQuestion (I : am_I) (a1 : Int32) (a2 : Int32) (a3 : Int32) (a4 : Int32) : (s_X9_isQuestion I a1 a2 a3 a4) = 0 ∨ (s_X9_isQuestion I a1 a2 a3 a4) = 1 := by
  unfold s_X9_isQuestion
  repeat' split
  all_goals first | exact Or.inl rfl | exact Or.inr rfl | exact z_X4_has _ _ | exact z_X9_isDay _ | exact z_X9_isBelow _ _
set_option maxRecDepth 100000 in
set_option maxHeartbeats 4000000 in
theorem gt_X9_isQuestion (f : Nat) (I : am_I) (J : am_J) (Q : am_Q) (hG : Gr Q) (a1 : Int32) (a2 : Int32) (a3 : Int32) (a4 : Int32) : Gd MX9_isQuestion (am_o 2 0 0 (am_Fi I J Q (s_X9_isQuestion I a1 a2 a3 a4))) 0 0 92 0 [some (.ref 0), some (.int a1), some (.int a2), some (.int a3), some (.int a4)] [] I J Q := by
  unfold s_X9_isQuestion
  refine gd_aload_n (q := 1) rfl rfl rfl ?_
  refine gd_getR (q := 4) (r := 15) rfl rfl rfl (Nat.le_of_ble_eq_true rfl) rfl rfl (gr_0_5 hG) ?_
  refine gd_iload_n (q := 5) rfl rfl rfl ?_
  refine gd_cVi (q := 8) rfl rfl lk9_176 myX4_has vxX4_has (ct_X4_has f _ _ _ hG _) rfl (Nat.le_of_ble_eq_true rfl) rfl rfl (Nat.le_of_ble_eq_true rfl) rfl (Nat.le_of_ble_eq_true rfl) ⟨(Nat.le_of_ble_eq_true rfl), (Nat.le_of_ble_eq_true rfl)⟩ ?_
  refine gy_if_eq (q := 11) (r := 39) rfl rfl rfl (fun c_8 => ?_) (fun c_8 => ?_)
  · refine gd_iconst (v := 0) (q := 40) rfl rfl rfl ?_
    exact gd_ireturn rfl rfl rfl (Nat.le_refl 0) (Nat.le_refl 0) rfl
  · refine gd_iload_n (q := 12) rfl rfl rfl ?_
    refine gd_cSi (q := 15) rfl rfl lk9_121 myX9_isDay sxX9_isDay (ct_X9_isDay f _ _ _ hG _) rfl rfl (Nat.le_of_ble_eq_true rfl) ⟨(Nat.le_of_ble_eq_true rfl), (Nat.le_of_ble_eq_true rfl)⟩ ?_
    refine gy_if_eq (q := 18) (r := 39) rfl rfl rfl (fun c_15 => ?_) (fun c_15 => ?_)
    · refine gd_iconst (v := 0) (q := 40) rfl rfl rfl ?_
      exact gd_ireturn rfl rfl rfl (Nat.le_refl 0) (Nat.le_refl 0) rfl
    · refine gd_iload_n (q := 19) rfl rfl rfl ?_
      refine gd_iconst (v := 4) (q := 20) rfl rfl rfl ?_
      refine gd_cSi (q := 23) rfl rfl lk9_110 myX9_isBelow sxX9_isBelow (ct_X9_isBelow f _ _ _ hG _ _) rfl rfl (Nat.le_of_ble_eq_true rfl) ⟨(Nat.le_of_ble_eq_true rfl), (Nat.le_of_ble_eq_true rfl)⟩ ?_
      refine gy_if_eq (q := 26) (r := 39) rfl rfl rfl (fun c_23 => ?_) (fun c_23 => ?_)
      · refine gd_iconst (v := 0) (q := 40) rfl rfl rfl ?_
        exact gd_ireturn rfl rfl rfl (Nat.le_refl 0) (Nat.le_refl 0) rfl
      · refine gd_iload (q := 28) rfl rfl rfl ?_
        refine gd_iconst (v := 4) (q := 29) rfl rfl rfl ?_
        refine gd_cSi (q := 32) rfl rfl lk9_110 myX9_isBelow sxX9_isBelow (ct_X9_isBelow f _ _ _ hG _ _) rfl rfl (Nat.le_of_ble_eq_true rfl) ⟨(Nat.le_of_ble_eq_true rfl), (Nat.le_of_ble_eq_true rfl)⟩ ?_
        refine gy_if_eq (q := 35) (r := 39) rfl rfl rfl (fun c_32 => ?_) (fun c_32 => ?_)
        · refine gd_iconst (v := 0) (q := 40) rfl rfl rfl ?_
          exact gd_ireturn rfl rfl rfl (Nat.le_refl 0) (Nat.le_refl 0) rfl
        · refine gd_iconst (v := 1) (q := 36) rfl rfl rfl ?_
          refine gd_goto (q := 40) rfl rfl ?_
          exact gd_ireturn rfl rfl rfl (Nat.le_refl 0) (Nat.le_refl 0) rfl
theorem ct_X9_isQuestion (f : Nat) (I : am_I) (J : am_J) (Q : am_Q) (hG : Gr Q) (a1 : Int32) (a2 : Int32) (a3 : Int32) (a4 : Int32) : Cm MX9_isQuestion 2 0 0 92 [.ref 0, .int a1, .int a2, .int a3, .int a4] I J Q (am_Fi I J Q (s_X9_isQuestion I a1 a2 a3 a4)) := cm_of (by decide) rfl IX9_isQuestion_ok (Nat.le_of_ble_eq_true rfl) (gt_X9_isQuestion f I J Q hG a1 a2 a3 a4)
def s_X4_speakerOf (I : am_I) (a1 : Int32) : Int32 := (if (s_X4_has I a1) = 0 then (-1) else (if (s_X9_isBelow (I 19 a1.toNatClampNeg) (I 15 3)) = 0 then (-1) else (I 16 (I 19 a1.toNatClampNeg).toNatClampNeg)))
def p_X4_speakerOf (I : am_I) (a1 : Int32) : Prop := (if (s_X4_has I a1) = 0 then True else (vp_in a1 30 ∧ (if (s_X9_isBelow (I 19 a1.toNatClampNeg) (I 15 3)) = 0 then True else (vp_in a1 30 ∧ vp_in (I 19 a1.toNatClampNeg) 6))))
set_option maxRecDepth 100000 in
set_option maxHeartbeats 4000000 in
theorem gt_X4_speakerOf (f : Nat) (I : am_I) (J : am_J) (Q : am_Q) (hG : Gr Q) (a1 : Int32) (hp : p_X4_speakerOf I a1) : Gd MX4_speakerOf (am_o 2 0 0 (am_Fi I J Q (s_X4_speakerOf I a1))) 0 0 92 0 [some (.ref 15), some (.int a1)] [] I J Q := by
  unfold s_X4_speakerOf
  unfold p_X4_speakerOf at hp
  refine gd_aload_n (q := 1) rfl rfl rfl ?_
  refine gd_iload_n (q := 2) rfl rfl rfl ?_
  refine gd_cVi (q := 5) rfl rfl lk4_53 myX4_has vxX4_has (ct_X4_has f _ _ _ hG _) rfl (Nat.le_of_ble_eq_true rfl) rfl rfl (Nat.le_of_ble_eq_true rfl) rfl (Nat.le_of_ble_eq_true rfl) ⟨(Nat.le_of_ble_eq_true rfl), (Nat.le_of_ble_eq_true rfl)⟩ ?_
  refine gx_if_eq (q := 8) (r := 38) rfl rfl rfl hp (fun c_5 hp => ?_) (fun c_5 hp => ?_)
  · refine gd_iconst (v := (-1)) (q := 39) rfl rfl rfl ?_
    exact gd_ireturn rfl rfl rfl (Nat.le_refl 0) (Nat.le_refl 0) rfl
  · refine gd_aload_n (q := 9) rfl rfl rfl ?_
    refine gd_getR (q := 12) (r := 19) rfl rfl rfl (Nat.le_of_ble_eq_true rfl) rfl rfl (gr_15_4 hG) ?_
    refine gd_iload_n (q := 13) rfl rfl rfl ?_
    refine gd_iald (q := 14) rfl rfl (Nat.le_of_ble_eq_true rfl) rfl hp.1 ?_
    replace hp := hp.2
    refine gd_aload_n (q := 15) rfl rfl rfl ?_
    refine gd_getI (q := 18) rfl rfl rfl (Nat.le_of_ble_eq_true rfl) rfl rfl ?_
    refine gd_cSi (q := 21) rfl rfl lk4_46 myX9_isBelow sxX9_isBelow (ct_X9_isBelow f _ _ _ hG _ _) rfl rfl (Nat.le_of_ble_eq_true rfl) ⟨(Nat.le_of_ble_eq_true rfl), (Nat.le_of_ble_eq_true rfl)⟩ ?_
    refine gx_if_eq (q := 24) (r := 38) rfl rfl rfl hp (fun c_21 hp => ?_) (fun c_21 hp => ?_)
    · refine gd_iconst (v := (-1)) (q := 39) rfl rfl rfl ?_
      exact gd_ireturn rfl rfl rfl (Nat.le_refl 0) (Nat.le_refl 0) rfl
    · refine gd_aload_n (q := 25) rfl rfl rfl ?_
      refine gd_getR (q := 28) (r := 16) rfl rfl rfl (Nat.le_of_ble_eq_true rfl) rfl rfl (gr_15_0 hG) ?_
      refine gd_aload_n (q := 29) rfl rfl rfl ?_
      refine gd_getR (q := 32) (r := 19) rfl rfl rfl (Nat.le_of_ble_eq_true rfl) rfl rfl (gr_15_4 hG) ?_
      refine gd_iload_n (q := 33) rfl rfl rfl ?_
      refine gd_iald (q := 34) rfl rfl (Nat.le_of_ble_eq_true rfl) rfl hp.1 ?_
      replace hp := hp.2
      refine gd_iald (q := 35) rfl rfl (Nat.le_of_ble_eq_true rfl) rfl hp ?_
      refine gd_goto (q := 39) rfl rfl ?_
      exact gd_ireturn rfl rfl rfl (Nat.le_refl 0) (Nat.le_refl 0) rfl
theorem ct_X4_speakerOf (f : Nat) (I : am_I) (J : am_J) (Q : am_Q) (hG : Gr Q) (a1 : Int32) (hp : p_X4_speakerOf I a1) : Cm MX4_speakerOf 2 0 0 92 [.ref 15, .int a1] I J Q (am_Fi I J Q (s_X4_speakerOf I a1)) := cm_of (by decide) rfl IX4_speakerOf_ok (Nat.le_of_ble_eq_true rfl) (gt_X4_speakerOf f I J Q hG a1 hp)
def s_X4_madeOn (I : am_I) (a1 : Int32) : Int32 := (if (s_X4_has I a1) = 0 then 0 else (if (s_X9_isBelow (I 19 a1.toNatClampNeg) (I 15 3)) = 0 then 0 else (I 17 (I 19 a1.toNatClampNeg).toNatClampNeg)))
def p_X4_madeOn (I : am_I) (a1 : Int32) : Prop := (if (s_X4_has I a1) = 0 then True else (vp_in a1 30 ∧ (if (s_X9_isBelow (I 19 a1.toNatClampNeg) (I 15 3)) = 0 then True else (vp_in a1 30 ∧ vp_in (I 19 a1.toNatClampNeg) 6))))
set_option maxRecDepth 100000 in
set_option maxHeartbeats 4000000 in
theorem gt_X4_madeOn (f : Nat) (I : am_I) (J : am_J) (Q : am_Q) (hG : Gr Q) (a1 : Int32) (hp : p_X4_madeOn I a1) : Gd MX4_madeOn (am_o 2 0 0 (am_Fi I J Q (s_X4_madeOn I a1))) 0 0 92 0 [some (.ref 15), some (.int a1)] [] I J Q := by
  unfold s_X4_madeOn
  unfold p_X4_madeOn at hp
  refine gd_aload_n (q := 1) rfl rfl rfl ?_
  refine gd_iload_n (q := 2) rfl rfl rfl ?_
  refine gd_cVi (q := 5) rfl rfl lk4_53 myX4_has vxX4_has (ct_X4_has f _ _ _ hG _) rfl (Nat.le_of_ble_eq_true rfl) rfl rfl (Nat.le_of_ble_eq_true rfl) rfl (Nat.le_of_ble_eq_true rfl) ⟨(Nat.le_of_ble_eq_true rfl), (Nat.le_of_ble_eq_true rfl)⟩ ?_
  refine gx_if_eq (q := 8) (r := 38) rfl rfl rfl hp (fun c_5 hp => ?_) (fun c_5 hp => ?_)
  · refine gd_iconst (v := 0) (q := 39) rfl rfl rfl ?_
    exact gd_ireturn rfl rfl rfl (Nat.le_refl 0) (Nat.le_refl 0) rfl
  · refine gd_aload_n (q := 9) rfl rfl rfl ?_
    refine gd_getR (q := 12) (r := 19) rfl rfl rfl (Nat.le_of_ble_eq_true rfl) rfl rfl (gr_15_4 hG) ?_
    refine gd_iload_n (q := 13) rfl rfl rfl ?_
    refine gd_iald (q := 14) rfl rfl (Nat.le_of_ble_eq_true rfl) rfl hp.1 ?_
    replace hp := hp.2
    refine gd_aload_n (q := 15) rfl rfl rfl ?_
    refine gd_getI (q := 18) rfl rfl rfl (Nat.le_of_ble_eq_true rfl) rfl rfl ?_
    refine gd_cSi (q := 21) rfl rfl lk4_46 myX9_isBelow sxX9_isBelow (ct_X9_isBelow f _ _ _ hG _ _) rfl rfl (Nat.le_of_ble_eq_true rfl) ⟨(Nat.le_of_ble_eq_true rfl), (Nat.le_of_ble_eq_true rfl)⟩ ?_
    refine gx_if_eq (q := 24) (r := 38) rfl rfl rfl hp (fun c_21 hp => ?_) (fun c_21 hp => ?_)
    · refine gd_iconst (v := 0) (q := 39) rfl rfl rfl ?_
      exact gd_ireturn rfl rfl rfl (Nat.le_refl 0) (Nat.le_refl 0) rfl
    · refine gd_aload_n (q := 25) rfl rfl rfl ?_
      refine gd_getR (q := 28) (r := 17) rfl rfl rfl (Nat.le_of_ble_eq_true rfl) rfl rfl (gr_15_1 hG) ?_
      refine gd_aload_n (q := 29) rfl rfl rfl ?_
      refine gd_getR (q := 32) (r := 19) rfl rfl rfl (Nat.le_of_ble_eq_true rfl) rfl rfl (gr_15_4 hG) ?_
      refine gd_iload_n (q := 33) rfl rfl rfl ?_
      refine gd_iald (q := 34) rfl rfl (Nat.le_of_ble_eq_true rfl) rfl hp.1 ?_
      replace hp := hp.2
      refine gd_iald (q := 35) rfl rfl (Nat.le_of_ble_eq_true rfl) rfl hp ?_
      refine gd_goto (q := 39) rfl rfl ?_
      exact gd_ireturn rfl rfl rfl (Nat.le_refl 0) (Nat.le_refl 0) rfl
theorem ct_X4_madeOn (f : Nat) (I : am_I) (J : am_J) (Q : am_Q) (hG : Gr Q) (a1 : Int32) (hp : p_X4_madeOn I a1) : Cm MX4_madeOn 2 0 0 92 [.ref 15, .int a1] I J Q (am_Fi I J Q (s_X4_madeOn I a1)) := cm_of (by decide) rfl IX4_madeOn_ok (Nat.le_of_ble_eq_true rfl) (gt_X4_madeOn f I J Q hG a1 hp)
def s_X8_deathOf (I : am_I) (a1 : Int32) : Int32 := (if (s_X8_has I a1) = 0 then (-1) else (I 11 a1.toNatClampNeg))
def p_X8_deathOf (I : am_I) (a1 : Int32) : Prop := (if (s_X8_has I a1) = 0 then True else vp_in a1 12)
set_option maxRecDepth 100000 in
set_option maxHeartbeats 4000000 in
theorem gt_X8_deathOf (f : Nat) (I : am_I) (J : am_J) (Q : am_Q) (hG : Gr Q) (a1 : Int32) (hp : p_X8_deathOf I a1) : Gd MX8_deathOf (am_o 2 0 0 (am_Fi I J Q (s_X8_deathOf I a1))) 0 0 92 0 [some (.ref 9), some (.int a1)] [] I J Q := by
  unfold s_X8_deathOf
  unfold p_X8_deathOf at hp
  refine gd_aload_n (q := 1) rfl rfl rfl ?_
  refine gd_iload_n (q := 2) rfl rfl rfl ?_
  refine gd_cVi (q := 5) rfl rfl lk8_33 myX8_has vxX8_has (ct_X8_has f _ _ _ hG _) rfl (Nat.le_of_ble_eq_true rfl) rfl rfl (Nat.le_of_ble_eq_true rfl) rfl (Nat.le_of_ble_eq_true rfl) ⟨(Nat.le_of_ble_eq_true rfl), (Nat.le_of_ble_eq_true rfl)⟩ ?_
  refine gx_if_eq (q := 8) (r := 17) rfl rfl rfl hp (fun c_5 hp => ?_) (fun c_5 hp => ?_)
  · refine gd_iconst (v := (-1)) (q := 18) rfl rfl rfl ?_
    exact gd_ireturn rfl rfl rfl (Nat.le_refl 0) (Nat.le_refl 0) rfl
  · refine gd_aload_n (q := 9) rfl rfl rfl ?_
    refine gd_getR (q := 12) (r := 11) rfl rfl rfl (Nat.le_of_ble_eq_true rfl) rfl rfl (gr_9_1 hG) ?_
    refine gd_iload_n (q := 13) rfl rfl rfl ?_
    refine gd_iald (q := 14) rfl rfl (Nat.le_of_ble_eq_true rfl) rfl hp ?_
    refine gd_goto (q := 18) rfl rfl ?_
    exact gd_ireturn rfl rfl rfl (Nat.le_refl 0) (Nat.le_refl 0) rfl
theorem ct_X8_deathOf (f : Nat) (I : am_I) (J : am_J) (Q : am_Q) (hG : Gr Q) (a1 : Int32) (hp : p_X8_deathOf I a1) : Cm MX8_deathOf 2 0 0 92 [.ref 9, .int a1] I J Q (am_Fi I J Q (s_X8_deathOf I a1)) := cm_of (by decide) rfl IX8_deathOf_ok (Nat.le_of_ble_eq_true rfl) (gt_X8_deathOf f I J Q hG a1 hp)
def s_J7_fill_031fb_8_L5 (a1 : Int32)  : Nat → Int32 → Int32 → am_I → am_I
  | 0, _, _, I => I
  | g + 1, v2, v3, I => (if v3 ≤ v2 then I else (s_J7_fill_031fb_8_L5 a1 g (v2 + 1) v3 (am_w I 8 v2.toNatClampNeg (vp_nar .byte a1))))
def p_J7_fill_031fb_8_L5 (a1 : Int32)  : Nat → Int32 → Int32 → am_I → Prop
  | 0, _, _, _ => False
  | g + 1, v2, v3, I => (if v3 ≤ v2 then True else (vp_in v2 133 ∧ (p_J7_fill_031fb_8_L5 a1 g (v2 + 1) v3 (am_w I 8 v2.toNatClampNeg (vp_nar .byte a1)))))
def s_J7_fill_031fb_8 (f : Nat) (I : am_I) (a1 : Int32) : am_I := (s_J7_fill_031fb_8_L5 a1 f 0 133 I)
def p_J7_fill_031fb_8 (f : Nat) (I : am_I) (a1 : Int32) : Prop := (p_J7_fill_031fb_8_L5 a1 f 0 133 I)
set_option maxRecDepth 100000 in
set_option maxHeartbeats 4000000 in
theorem gl_J7_fill_031fb_8_L5 (a1 : Int32) (f : Nat) (J : am_J) (Q : am_Q) (hG : Gr Q) : ∀ g : Nat, (∀ (v2 : Int32) (v3 : Int32) (I : am_I), p_J7_fill_031fb_8_L5 a1 g v2 v3 I → Gd MJ7_fill_031fb (am_o 0 0 0 (am_FvI J Q (s_J7_fill_031fb_8_L5 a1 g v2 v3 I))) 0 0 92 5 [some (.ref 8), some (.int a1), some (.int v2), some (.int v3)] [] I J Q) := by
  intro g
  induction g with
  | zero => exact fun _ _ _ hp => False.elim hp
  | succ g ih =>
    have ih_5 := ih
    intro v2 v3 I hp
    rw [s_J7_fill_031fb_8_L5]
    rw [p_J7_fill_031fb_8_L5] at hp
    refine gd_iload_n (q := 6) rfl rfl rfl ?_
    refine gd_iload_n (q := 7) rfl rfl rfl ?_
    refine gx_icmp_ge (q := 10) (r := 20) rfl rfl rfl hp (fun c_7 hp => ?_) (fun c_7 hp => ?_)
    · exact gd_return rfl rfl (Nat.le_refl 0) (Nat.le_refl 0) rfl
    · refine gd_aload_n (q := 11) rfl rfl rfl ?_
      refine gd_iload_n (q := 12) rfl rfl rfl ?_
      refine gd_iload_n (q := 13) rfl rfl rfl ?_
      refine gd_bast (q := 14) rfl rfl (Nat.le_of_ble_eq_true rfl) rfl hp.1 ?_
      replace hp := hp.2
      refine gd_iinc (v := (v2 + 1)) (q := 17) rfl rfl rfl rfl (Nat.le_of_ble_eq_true rfl) rfl ?_
      refine gd_goto (q := 5) rfl rfl ?_
      exact ih_5 _ _ _ hp
theorem gl_J7_fill_031fb_8_5 (a1 : Int32) (f : Nat) (J : am_J) (Q : am_Q) (hG : Gr Q) (g : Nat) : ∀ (v2 : Int32) (v3 : Int32) (I : am_I), p_J7_fill_031fb_8_L5 a1 g v2 v3 I → Gd MJ7_fill_031fb (am_o 0 0 0 (am_FvI J Q (s_J7_fill_031fb_8_L5 a1 g v2 v3 I))) 0 0 92 5 [some (.ref 8), some (.int a1), some (.int v2), some (.int v3)] [] I J Q := (gl_J7_fill_031fb_8_L5 a1 f J Q hG g)
set_option maxRecDepth 100000 in
set_option maxHeartbeats 4000000 in
theorem gt_J7_fill_031fb_8 (f : Nat) (I : am_I) (J : am_J) (Q : am_Q) (hG : Gr Q) (a1 : Int32) (hp : p_J7_fill_031fb_8 f I a1) : Gd MJ7_fill_031fb (am_o 0 0 0 (am_FvI J Q (s_J7_fill_031fb_8 f I a1))) 0 0 92 0 [some (.ref 8), some (.int a1), none, none] [] I J Q := by
  unfold s_J7_fill_031fb_8
  unfold p_J7_fill_031fb_8 at hp
  refine gd_iconst (v := 0) (q := 1) rfl rfl rfl ?_
  refine gd_istore_n (q := 2) rfl rfl (Nat.le_of_ble_eq_true rfl) rfl ?_
  refine gd_aload_n (q := 3) rfl rfl rfl ?_
  refine gd_alen (v := 133) (ty := .byte) (q := 4) rfl rfl (Nat.le_of_ble_eq_true rfl) rfl (fun _ => rfl) rfl ?_
  refine gd_istore_n (q := 5) rfl rfl (Nat.le_of_ble_eq_true rfl) rfl ?_
  exact gl_J7_fill_031fb_8_5 a1 f J Q hG f 0 _ _ hp
theorem ct_J7_fill_031fb_8 (f : Nat) (I : am_I) (J : am_J) (Q : am_Q) (hG : Gr Q) (a1 : Int32) (hp : p_J7_fill_031fb_8 f I a1) : Cm MJ7_fill_031fb 0 0 0 92 [.ref 8, .int a1] I J Q (am_FvI J Q (s_J7_fill_031fb_8 f I a1)) := cm_of (by decide) rfl IJ7_fill_031fb_ok (Nat.le_of_ble_eq_true rfl) (gt_J7_fill_031fb_8 f I J Q hG a1 hp)
def s_X3_begin (f : Nat) (I : am_I) (a1 : Int32) (a2 : Int32) (a3 : Int32) : am_I := (am_w (am_w (am_w (s_J7_fill_031fb_8 f I 0) 5 5 a1) 5 6 a2) 5 4 a3)
def p_X3_begin (f : Nat) (I : am_I) (a1 : Int32) (a2 : Int32) (a3 : Int32) : Prop := (p_J7_fill_031fb_8 f I 0)
set_option maxRecDepth 100000 in
set_option maxHeartbeats 4000000 in
theorem gt_X3_begin (f : Nat) (I : am_I) (J : am_J) (Q : am_Q) (hG : Gr Q) (a1 : Int32) (a2 : Int32) (a3 : Int32) (hp : p_X3_begin f I a1 a2 a3) : Gd MX3_begin (am_o 1 0 0 (am_FvI J Q (s_X3_begin f I a1 a2 a3))) 0 0 92 0 [some (.ref 5), some (.int a1), some (.int a2), some (.int a3)] [] I J Q := by
  unfold s_X3_begin
  unfold p_X3_begin at hp
  refine gd_aload_n (q := 1) rfl rfl rfl ?_
  refine gd_getR (q := 4) (r := 8) rfl rfl rfl (Nat.le_of_ble_eq_true rfl) rfl rfl (gr_5_2 hG) ?_
  refine gd_iconst (v := 0) (q := 5) rfl rfl rfl ?_
  refine gd_cSv (q := 8) rfl rfl lk3_22 myJ7_fill_031fb sxJ7_fill_031fb (ct_J7_fill_031fb_8 f _ _ _ hG _ hp) rfl rfl (Nat.le_of_ble_eq_true rfl) ⟨(Nat.le_of_ble_eq_true rfl), (Nat.le_of_ble_eq_true rfl)⟩ ?_
  refine gd_aload_n (q := 9) rfl rfl rfl ?_
  refine gd_iload_n (q := 10) rfl rfl rfl ?_
  refine gd_putI (q := 13) rfl rfl rfl (Nat.le_of_ble_eq_true rfl) rfl rfl rfl (Or.inl rfl) ?_
  refine gd_aload_n (q := 14) rfl rfl rfl ?_
  refine gd_iload_n (q := 15) rfl rfl rfl ?_
  refine gd_putI (q := 18) rfl rfl rfl (Nat.le_of_ble_eq_true rfl) rfl rfl rfl (Or.inl rfl) ?_
  refine gd_aload_n (q := 19) rfl rfl rfl ?_
  refine gd_iload_n (q := 20) rfl rfl rfl ?_
  refine gd_putI (q := 23) rfl rfl rfl (Nat.le_of_ble_eq_true rfl) rfl rfl rfl (Or.inl rfl) ?_
  exact gd_return rfl rfl (Nat.le_refl 0) (Nat.le_refl 0) rfl
theorem ct_X3_begin (f : Nat) (I : am_I) (J : am_J) (Q : am_Q) (hG : Gr Q) (a1 : Int32) (a2 : Int32) (a3 : Int32) (hp : p_X3_begin f I a1 a2 a3) : Cm MX3_begin 1 0 0 92 [.ref 5, .int a1, .int a2, .int a3] I J Q (am_FvI J Q (s_X3_begin f I a1 a2 a3)) := cm_of (by decide) rfl IX3_begin_ok (Nat.le_of_ble_eq_true rfl) (gt_X3_begin f I J Q hG a1 a2 a3 hp)
def s_X9_isVar  (a0 : Int32) : Int32 := (if a0 < 7 then 0 else (if 13 < a0 then 0 else 1))
theorem z_X9_isVar  (a0 : Int32) : (s_X9_isVar a0) = 0 ∨ (s_X9_isVar a0) = 1 := by
  unfold s_X9_isVar
  repeat' split
  all_goals first | exact Or.inl rfl | exact Or.inr rfl
set_option maxRecDepth 100000 in
set_option maxHeartbeats 4000000 in
theorem gt_X9_isVar (f : Nat) (I : am_I) (J : am_J) (Q : am_Q) (hG : Gr Q) (a0 : Int32) : Gd MX9_isVar (am_o 0 0 0 (am_Fi I J Q (s_X9_isVar a0))) 0 0 92 0 [some (.int a0)] [] I J Q := by
  unfold s_X9_isVar
  refine gd_iload_n (q := 1) rfl rfl rfl ?_
  refine gd_bipush (v := 7) (q := 3) rfl rfl rfl ?_
  refine gy_icmp_lt (q := 6) (r := 16) rfl rfl rfl (fun c_3 => ?_) (fun c_3 => ?_)
  · refine gd_iconst (v := 0) (q := 17) rfl rfl rfl ?_
    exact gd_ireturn rfl rfl rfl (Nat.le_refl 0) (Nat.le_refl 0) rfl
  · refine gd_iload_n (q := 7) rfl rfl rfl ?_
    refine gd_bipush (v := 13) (q := 9) rfl rfl rfl ?_
    refine gy_icmp_gt (q := 12) (r := 16) rfl rfl rfl (fun c_9 => ?_) (fun c_9 => ?_)
    · refine gd_iconst (v := 0) (q := 17) rfl rfl rfl ?_
      exact gd_ireturn rfl rfl rfl (Nat.le_refl 0) (Nat.le_refl 0) rfl
    · refine gd_iconst (v := 1) (q := 13) rfl rfl rfl ?_
      refine gd_goto (q := 17) rfl rfl ?_
      exact gd_ireturn rfl rfl rfl (Nat.le_refl 0) (Nat.le_refl 0) rfl
theorem ct_X9_isVar (f : Nat) (I : am_I) (J : am_J) (Q : am_Q) (hG : Gr Q) (a0 : Int32) : Cm MX9_isVar 0 0 0 92 [.int a0] I J Q (am_Fi I J Q (s_X9_isVar a0)) := cm_of (by decide) rfl IX9_isVar_ok (Nat.le_of_ble_eq_true rfl) (gt_X9_isVar f I J Q hG a0)
def s_X3_give (I : am_I) (a1 : Int32) (a2 : Int32) : am_I := (if (s_X9_isVar a1) = 0 then I else (am_w I 6 (a1 - 7).toNatClampNeg a2))
def p_X3_give  (a1 : Int32) (a2 : Int32) : Prop := (if (s_X9_isVar a1) = 0 then True else vp_in (a1 - 7) 7)
set_option maxRecDepth 100000 in
set_option maxHeartbeats 4000000 in
theorem gt_X3_give (f : Nat) (I : am_I) (J : am_J) (Q : am_Q) (hG : Gr Q) (a1 : Int32) (a2 : Int32) (hp : p_X3_give a1 a2) : Gd MX3_give (am_o 1 0 0 (am_FvI J Q (s_X3_give I a1 a2))) 0 0 92 0 [some (.ref 5), some (.int a1), some (.int a2)] [] I J Q := by
  unfold s_X3_give
  unfold p_X3_give at hp
  refine gd_iload_n (q := 1) rfl rfl rfl ?_
  refine gd_cSi (q := 4) rfl rfl lk3_38 myX9_isVar sxX9_isVar (ct_X9_isVar f _ _ _ hG _) rfl rfl (Nat.le_of_ble_eq_true rfl) ⟨(Nat.le_of_ble_eq_true rfl), (Nat.le_of_ble_eq_true rfl)⟩ ?_
  refine gx_if_eq (q := 7) (r := 17) rfl rfl rfl hp (fun c_4 hp => ?_) (fun c_4 hp => ?_)
  · exact gd_return rfl rfl (Nat.le_refl 0) (Nat.le_refl 0) rfl
  · refine gd_aload_n (q := 8) rfl rfl rfl ?_
    refine gd_getR (q := 11) (r := 6) rfl rfl rfl (Nat.le_of_ble_eq_true rfl) rfl rfl (gr_5_0 hG) ?_
    refine gd_iload_n (q := 12) rfl rfl rfl ?_
    refine gd_bipush (v := 7) (q := 14) rfl rfl rfl ?_
    refine gd_isub (q := 15) rfl rfl ?_
    refine gd_iload_n (q := 16) rfl rfl rfl ?_
    refine gd_iast (q := 17) rfl rfl (Nat.le_of_ble_eq_true rfl) rfl hp ?_
    exact gd_return rfl rfl (Nat.le_refl 0) (Nat.le_refl 0) rfl
theorem ct_X3_give (f : Nat) (I : am_I) (J : am_J) (Q : am_Q) (hG : Gr Q) (a1 : Int32) (a2 : Int32) (hp : p_X3_give a1 a2) : Cm MX3_give 1 0 0 92 [.ref 5, .int a1, .int a2] I J Q (am_FvI J Q (s_X3_give I a1 a2)) := cm_of (by decide) rfl IX3_give_ok (Nat.le_of_ble_eq_true rfl) (gt_X3_give f I J Q hG a1 a2 hp)
def s_X3_turnTo (I : am_I) (a1 : Int32) : am_I := (if ((s_X3_give I 9 (a1 - (I 5 5))) 5 6) = (-1) then (s_X3_give (s_X3_give I 9 (a1 - (I 5 5))) 10 (-1)) else (if a1 < ((s_X3_give I 9 (a1 - (I 5 5))) 5 6) then (s_X3_give (s_X3_give I 9 (a1 - (I 5 5))) 10 (-1)) else (s_X3_give (s_X3_give I 9 (a1 - (I 5 5))) 10 (a1 - ((s_X3_give I 9 (a1 - (I 5 5))) 5 6)))))
def p_X3_turnTo (I : am_I) (a1 : Int32) : Prop := ((p_X3_give 9 (a1 - (I 5 5))) ∧ (if ((s_X3_give I 9 (a1 - (I 5 5))) 5 6) = (-1) then (p_X3_give 10 (-1)) else (if a1 < ((s_X3_give I 9 (a1 - (I 5 5))) 5 6) then (p_X3_give 10 (-1)) else (p_X3_give 10 (a1 - ((s_X3_give I 9 (a1 - (I 5 5))) 5 6))))))
set_option maxRecDepth 100000 in
set_option maxHeartbeats 4000000 in
theorem gt_X3_turnTo (f : Nat) (I : am_I) (J : am_J) (Q : am_Q) (hG : Gr Q) (a1 : Int32) (hp : p_X3_turnTo I a1) : Gd MX3_turnTo (am_o 2 0 0 (am_FvI J Q (s_X3_turnTo I a1))) 0 0 92 0 [some (.ref 5), some (.int a1)] [] I J Q := by
  unfold s_X3_turnTo
  unfold p_X3_turnTo at hp
  refine gd_aload_n (q := 1) rfl rfl rfl ?_
  refine gd_bipush (v := 9) (q := 3) rfl rfl rfl ?_
  refine gd_iload_n (q := 4) rfl rfl rfl ?_
  refine gd_aload_n (q := 5) rfl rfl rfl ?_
  refine gd_getI (q := 8) rfl rfl rfl (Nat.le_of_ble_eq_true rfl) rfl rfl ?_
  refine gd_isub (q := 9) rfl rfl ?_
  refine gd_cVv (q := 12) rfl rfl lk3_42 myX3_give vxX3_give (ct_X3_give f _ _ _ hG _ _ hp.1) rfl (Nat.le_of_ble_eq_true rfl) rfl rfl (Nat.le_of_ble_eq_true rfl) rfl (Nat.le_of_ble_eq_true rfl) ⟨(Nat.le_of_ble_eq_true rfl), (Nat.le_of_ble_eq_true rfl)⟩ ?_
  replace hp := hp.2
  refine gd_aload_n (q := 13) rfl rfl rfl ?_
  refine gd_bipush (v := 10) (q := 15) rfl rfl rfl ?_
  refine gd_aload_n (q := 16) rfl rfl rfl ?_
  refine gd_getI (q := 19) rfl rfl rfl (Nat.le_of_ble_eq_true rfl) rfl rfl ?_
  refine gd_iconst (v := (-1)) (q := 20) rfl rfl rfl ?_
  refine gx_icmp_eq (q := 23) (r := 40) rfl rfl rfl hp (fun c_20 hp => ?_) (fun c_20 hp => ?_)
  · refine gd_iconst (v := (-1)) (q := 41) rfl rfl rfl ?_
    refine gd_cVv (q := 44) rfl rfl lk3_42 myX3_give vxX3_give (ct_X3_give f _ _ _ hG _ _ hp) rfl (Nat.le_of_ble_eq_true rfl) rfl rfl (Nat.le_of_ble_eq_true rfl) rfl (Nat.le_of_ble_eq_true rfl) ⟨(Nat.le_of_ble_eq_true rfl), (Nat.le_of_ble_eq_true rfl)⟩ ?_
    exact gd_return rfl rfl (Nat.le_refl 0) (Nat.le_refl 0) rfl
  · refine gd_aload_n (q := 24) rfl rfl rfl ?_
    refine gd_getI (q := 27) rfl rfl rfl (Nat.le_of_ble_eq_true rfl) rfl rfl ?_
    refine gd_iload_n (q := 28) rfl rfl rfl ?_
    refine gx_icmp_gt (q := 31) (r := 40) rfl rfl rfl hp (fun c_28 hp => ?_) (fun c_28 hp => ?_)
    · refine gd_iconst (v := (-1)) (q := 41) rfl rfl rfl ?_
      refine gd_cVv (q := 44) rfl rfl lk3_42 myX3_give vxX3_give (ct_X3_give f _ _ _ hG _ _ hp) rfl (Nat.le_of_ble_eq_true rfl) rfl rfl (Nat.le_of_ble_eq_true rfl) rfl (Nat.le_of_ble_eq_true rfl) ⟨(Nat.le_of_ble_eq_true rfl), (Nat.le_of_ble_eq_true rfl)⟩ ?_
      exact gd_return rfl rfl (Nat.le_refl 0) (Nat.le_refl 0) rfl
    · refine gd_iload_n (q := 32) rfl rfl rfl ?_
      refine gd_aload_n (q := 33) rfl rfl rfl ?_
      refine gd_getI (q := 36) rfl rfl rfl (Nat.le_of_ble_eq_true rfl) rfl rfl ?_
      refine gd_isub (q := 37) rfl rfl ?_
      refine gd_goto (q := 41) rfl rfl ?_
      refine gd_cVv (q := 44) rfl rfl lk3_42 myX3_give vxX3_give (ct_X3_give f _ _ _ hG _ _ hp) rfl (Nat.le_of_ble_eq_true rfl) rfl rfl (Nat.le_of_ble_eq_true rfl) rfl (Nat.le_of_ble_eq_true rfl) ⟨(Nat.le_of_ble_eq_true rfl), (Nat.le_of_ble_eq_true rfl)⟩ ?_
      exact gd_return rfl rfl (Nat.le_refl 0) (Nat.le_refl 0) rfl
theorem ct_X3_turnTo (f : Nat) (I : am_I) (J : am_J) (Q : am_Q) (hG : Gr Q) (a1 : Int32) (hp : p_X3_turnTo I a1) : Cm MX3_turnTo 2 0 0 92 [.ref 5, .int a1] I J Q (am_FvI J Q (s_X3_turnTo I a1)) := cm_of (by decide) rfl IX3_turnTo_ok (Nat.le_of_ble_eq_true rfl) (gt_X3_turnTo f I J Q hG a1 hp)
def s_X8_consentOf (I : am_I) (a1 : Int32) : Unit := (if (s_X8_has I a1) = 0 then () else ())
def p_X8_consentOf (I : am_I) (Q : am_Q) (a1 : Int32) : Prop := (if (s_X8_has I a1) = 0 then False else (vp_in a1 12 ∧ (Q 12 a1.toNatClampNeg) = some 38))
set_option maxRecDepth 100000 in
set_option maxHeartbeats 4000000 in
theorem gt_X8_consentOf (f : Nat) (I : am_I) (J : am_J) (Q : am_Q) (hG : Gr Q) (a1 : Int32) (hp : p_X8_consentOf I Q a1) : Gd MX8_consentOf (am_o 2 0 0 (am_Fk I J Q (s_X8_consentOf I a1))) 0 0 92 0 [some (.ref 9), some (.int a1)] [] I J Q := by
  unfold s_X8_consentOf
  unfold p_X8_consentOf at hp
  refine gd_aload_n (q := 1) rfl rfl rfl ?_
  refine gd_iload_n (q := 2) rfl rfl rfl ?_
  refine gd_cVi (q := 5) rfl rfl lk8_33 myX8_has vxX8_has (ct_X8_has f _ _ _ hG _) rfl (Nat.le_of_ble_eq_true rfl) rfl rfl (Nat.le_of_ble_eq_true rfl) rfl (Nat.le_of_ble_eq_true rfl) ⟨(Nat.le_of_ble_eq_true rfl), (Nat.le_of_ble_eq_true rfl)⟩ ?_
  refine gx_if_eq (q := 8) (r := 17) rfl rfl rfl hp (fun c_5 hp => ?_) (fun c_5 hp => ?_)
  · refine gd_null (q := 18) rfl rfl ?_
    exact False.elim hp
  · refine gd_aload_n (q := 9) rfl rfl rfl ?_
    refine gd_getR (q := 12) (r := 12) rfl rfl rfl (Nat.le_of_ble_eq_true rfl) rfl rfl (gr_9_2 hG) ?_
    refine gd_iload_n (q := 13) rfl rfl rfl ?_
    refine gd_aald (q := 14) (r := 38) rfl rfl (Nat.le_of_ble_eq_true rfl) rfl hp.1 hp.2 ?_
    refine gd_goto (q := 18) rfl rfl ?_
    exact gd_areturn rfl rfl (Nat.le_refl 0) (Nat.le_refl 0) rfl
theorem ct_X8_consentOf (f : Nat) (I : am_I) (J : am_J) (Q : am_Q) (hG : Gr Q) (a1 : Int32) (hp : p_X8_consentOf I Q a1) : Cm MX8_consentOf 2 0 0 92 [.ref 9, .int a1] I J Q (am_Fk I J Q (s_X8_consentOf I a1)) := cm_of (by decide) rfl IX8_consentOf_ok (Nat.le_of_ble_eq_true rfl) (gt_X8_consentOf f I J Q hG a1 hp)
def s_X9_pose_J121 (a1 : Int32) (a2 : Int32) (a3 : Int32) (a4 : Int32) (Q : am_Q) (v5 : Int32) (t0 : Int32) (t1 : Int32) (I : am_I) : am_I := (s_X3_turnTo (s_X3_give I t0 t1) a2)
def p_X9_pose_J121 (a1 : Int32) (a2 : Int32) (a3 : Int32) (a4 : Int32) (Q : am_Q) (v5 : Int32) (t0 : Int32) (t1 : Int32) (I : am_I) : Prop := ((p_X3_give t0 t1) ∧ ((p_X3_turnTo (s_X3_give I t0 t1) a2) ∧ (p_X8_consentOf (s_X3_turnTo (s_X3_give I t0 t1) a2) Q v5)))
def s_X9_pose (f : Nat) (I : am_I) (Q : am_Q) (a1 : Int32) (a2 : Int32) (a3 : Int32) (a4 : Int32) : am_I := (if (I 23 a1.toNatClampNeg) = (s_X4_speakerOf I a1) then (s_X9_pose_J121 a1 a2 a3 a4 Q (s_X4_speakerOf I a1) 13 1 (s_X3_give (s_X3_give (s_X3_give (s_X3_give (s_X3_begin f I (s_X4_madeOn I a1) (s_X8_deathOf I (s_X4_speakerOf I a1)) (s_X7_lineOf I (I 22 a1.toNatClampNeg))) 7 a3) 8 a4) 11 a1) 12 (I 23 a1.toNatClampNeg))) else (s_X9_pose_J121 a1 a2 a3 a4 Q (s_X4_speakerOf I a1) 13 0 (s_X3_give (s_X3_give (s_X3_give (s_X3_give (s_X3_begin f I (s_X4_madeOn I a1) (s_X8_deathOf I (s_X4_speakerOf I a1)) (s_X7_lineOf I (I 22 a1.toNatClampNeg))) 7 a3) 8 a4) 11 a1) 12 (I 23 a1.toNatClampNeg))))
def p_X9_pose (f : Nat) (I : am_I) (Q : am_Q) (a1 : Int32) (a2 : Int32) (a3 : Int32) (a4 : Int32) : Prop := ((p_X4_speakerOf I a1) ∧ (vp_in a1 30 ∧ ((p_X4_madeOn I a1) ∧ ((p_X8_deathOf I (s_X4_speakerOf I a1)) ∧ (vp_in a1 30 ∧ ((p_X7_lineOf I (I 22 a1.toNatClampNeg)) ∧ ((p_X3_begin f I (s_X4_madeOn I a1) (s_X8_deathOf I (s_X4_speakerOf I a1)) (s_X7_lineOf I (I 22 a1.toNatClampNeg))) ∧ ((p_X3_give 7 a3) ∧ ((p_X3_give 8 a4) ∧ ((p_X3_give 11 a1) ∧ ((p_X3_give 12 (I 23 a1.toNatClampNeg)) ∧ (if (I 23 a1.toNatClampNeg) = (s_X4_speakerOf I a1) then (p_X9_pose_J121 a1 a2 a3 a4 Q (s_X4_speakerOf I a1) 13 1 (s_X3_give (s_X3_give (s_X3_give (s_X3_give (s_X3_begin f I (s_X4_madeOn I a1) (s_X8_deathOf I (s_X4_speakerOf I a1)) (s_X7_lineOf I (I 22 a1.toNatClampNeg))) 7 a3) 8 a4) 11 a1) 12 (I 23 a1.toNatClampNeg))) else (p_X9_pose_J121 a1 a2 a3 a4 Q (s_X4_speakerOf I a1) 13 0 (s_X3_give (s_X3_give (s_X3_give (s_X3_give (s_X3_begin f I (s_X4_madeOn I a1) (s_X8_deathOf I (s_X4_speakerOf I a1)) (s_X7_lineOf I (I 22 a1.toNatClampNeg))) 7 a3) 8 a4) 11 a1) 12 (I 23 a1.toNatClampNeg)))))))))))))))
set_option maxRecDepth 100000 in
set_option maxHeartbeats 4000000 in
theorem gl_X9_pose_121 (a1 : Int32) (a2 : Int32) (a3 : Int32) (a4 : Int32) (f : Nat) (J : am_J) (Q : am_Q) (hG : Gr Q) (v5 : Int32) (t0 : Int32) (t1 : Int32) (I : am_I) : p_X9_pose_J121 a1 a2 a3 a4 Q v5 t0 t1 I → Gd MX9_pose (am_o 3 0 0 (am_FkI J Q (s_X9_pose_J121 a1 a2 a3 a4 Q v5 t0 t1 I))) 0 0 92 121 [some (.ref 0), none, some (.int a2), none, none, some (.int v5), none] [.int t1, .int t0, .ref 5] I J Q := by
  intro hp
  unfold s_X9_pose_J121
  unfold p_X9_pose_J121 at hp
  refine gd_cVv (q := 124) rfl rfl lk9_249 myX3_give vxX3_give (ct_X3_give f _ _ _ hG _ _ hp.1) rfl (Nat.le_of_ble_eq_true rfl) rfl rfl (Nat.le_of_ble_eq_true rfl) rfl (Nat.le_of_ble_eq_true rfl) ⟨(Nat.le_of_ble_eq_true rfl), (Nat.le_of_ble_eq_true rfl)⟩ ?_
  replace hp := hp.2
  refine gd_aload_n (q := 125) rfl rfl rfl ?_
  refine gd_getR (q := 128) (r := 5) rfl rfl rfl (Nat.le_of_ble_eq_true rfl) rfl rfl (gr_0_2 hG) ?_
  refine gd_iload_n (q := 129) rfl rfl rfl ?_
  refine gd_cVv (q := 132) rfl rfl lk9_208 myX3_turnTo vxX3_turnTo (ct_X3_turnTo f _ _ _ hG _ hp.1) rfl (Nat.le_of_ble_eq_true rfl) rfl rfl (Nat.le_of_ble_eq_true rfl) rfl (Nat.le_of_ble_eq_true rfl) ⟨(Nat.le_of_ble_eq_true rfl), (Nat.le_of_ble_eq_true rfl)⟩ ?_
  replace hp := hp.2
  refine gd_aload_n (q := 133) rfl rfl rfl ?_
  refine gd_getR (q := 136) (r := 9) rfl rfl rfl (Nat.le_of_ble_eq_true rfl) rfl rfl (gr_0_3 hG) ?_
  refine gd_iload (q := 138) rfl rfl rfl ?_
  refine gd_cVi (q := 141) rfl rfl lk9_253 myX8_consentOf vxX8_consentOf (ct_X8_consentOf f _ _ _ hG _ hp) rfl (Nat.le_of_ble_eq_true rfl) rfl rfl (Nat.le_of_ble_eq_true rfl) rfl (Nat.le_of_ble_eq_true rfl) ⟨(Nat.le_of_ble_eq_true rfl), (Nat.le_of_ble_eq_true rfl)⟩ ?_
  exact gd_areturn rfl rfl (Nat.le_refl 0) (Nat.le_refl 0) rfl
set_option maxRecDepth 100000 in
set_option maxHeartbeats 4000000 in
theorem gt_X9_pose (f : Nat) (I : am_I) (J : am_J) (Q : am_Q) (hG : Gr Q) (a1 : Int32) (a2 : Int32) (a3 : Int32) (a4 : Int32) (hp : p_X9_pose f I Q a1 a2 a3 a4) : Gd MX9_pose (am_o 3 0 0 (am_FkI J Q (s_X9_pose f I Q a1 a2 a3 a4))) 0 0 92 0 [some (.ref 0), some (.int a1), some (.int a2), some (.int a3), some (.int a4), none, none] [] I J Q := by
  unfold s_X9_pose
  unfold p_X9_pose at hp
  refine gd_aload_n (q := 1) rfl rfl rfl ?_
  refine gd_getR (q := 4) (r := 15) rfl rfl rfl (Nat.le_of_ble_eq_true rfl) rfl rfl (gr_0_5 hG) ?_
  refine gd_iload_n (q := 5) rfl rfl rfl ?_
  refine gd_cVi (q := 8) rfl rfl lk9_237 myX4_speakerOf vxX4_speakerOf (ct_X4_speakerOf f _ _ _ hG _ hp.1) rfl (Nat.le_of_ble_eq_true rfl) rfl rfl (Nat.le_of_ble_eq_true rfl) rfl (Nat.le_of_ble_eq_true rfl) ⟨(Nat.le_of_ble_eq_true rfl), (Nat.le_of_ble_eq_true rfl)⟩ ?_
  replace hp := hp.2
  refine gd_istore (q := 10) rfl rfl (Nat.le_of_ble_eq_true rfl) rfl ?_
  refine gd_aload_n (q := 11) rfl rfl rfl ?_
  refine gd_getR (q := 14) (r := 15) rfl rfl rfl (Nat.le_of_ble_eq_true rfl) rfl rfl (gr_0_5 hG) ?_
  refine gd_getR (q := 17) (r := 23) rfl rfl rfl (Nat.le_of_ble_eq_true rfl) rfl rfl (gr_15_8 hG) ?_
  refine gd_iload_n (q := 18) rfl rfl rfl ?_
  refine gd_iald (q := 19) rfl rfl (Nat.le_of_ble_eq_true rfl) rfl hp.1 ?_
  replace hp := hp.2
  refine gd_istore (q := 21) rfl rfl (Nat.le_of_ble_eq_true rfl) rfl ?_
  refine gd_aload_n (q := 22) rfl rfl rfl ?_
  refine gd_getR (q := 25) (r := 5) rfl rfl rfl (Nat.le_of_ble_eq_true rfl) rfl rfl (gr_0_2 hG) ?_
  refine gd_aload_n (q := 26) rfl rfl rfl ?_
  refine gd_getR (q := 29) (r := 15) rfl rfl rfl (Nat.le_of_ble_eq_true rfl) rfl rfl (gr_0_5 hG) ?_
  refine gd_iload_n (q := 30) rfl rfl rfl ?_
  refine gd_cVi (q := 33) rfl rfl lk9_240 myX4_madeOn vxX4_madeOn (ct_X4_madeOn f _ _ _ hG _ hp.1) rfl (Nat.le_of_ble_eq_true rfl) rfl rfl (Nat.le_of_ble_eq_true rfl) rfl (Nat.le_of_ble_eq_true rfl) ⟨(Nat.le_of_ble_eq_true rfl), (Nat.le_of_ble_eq_true rfl)⟩ ?_
  replace hp := hp.2
  refine gd_aload_n (q := 34) rfl rfl rfl ?_
  refine gd_getR (q := 37) (r := 9) rfl rfl rfl (Nat.le_of_ble_eq_true rfl) rfl rfl (gr_0_3 hG) ?_
  refine gd_iload (q := 39) rfl rfl rfl ?_
  refine gd_cVi (q := 42) rfl rfl lk9_243 myX8_deathOf vxX8_deathOf (ct_X8_deathOf f _ _ _ hG _ hp.1) rfl (Nat.le_of_ble_eq_true rfl) rfl rfl (Nat.le_of_ble_eq_true rfl) rfl (Nat.le_of_ble_eq_true rfl) ⟨(Nat.le_of_ble_eq_true rfl), (Nat.le_of_ble_eq_true rfl)⟩ ?_
  replace hp := hp.2
  refine gd_aload_n (q := 43) rfl rfl rfl ?_
  refine gd_getR (q := 46) (r := 13) rfl rfl rfl (Nat.le_of_ble_eq_true rfl) rfl rfl (gr_0_4 hG) ?_
  refine gd_aload_n (q := 47) rfl rfl rfl ?_
  refine gd_getR (q := 50) (r := 15) rfl rfl rfl (Nat.le_of_ble_eq_true rfl) rfl rfl (gr_0_5 hG) ?_
  refine gd_getR (q := 53) (r := 22) rfl rfl rfl (Nat.le_of_ble_eq_true rfl) rfl rfl (gr_15_7 hG) ?_
  refine gd_iload_n (q := 54) rfl rfl rfl ?_
  refine gd_iald (q := 55) rfl rfl (Nat.le_of_ble_eq_true rfl) rfl hp.1 ?_
  replace hp := hp.2
  refine gd_cVi (q := 58) rfl rfl lk9_195 myX7_lineOf vxX7_lineOf (ct_X7_lineOf f _ _ _ hG _ hp.1) rfl (Nat.le_of_ble_eq_true rfl) rfl rfl (Nat.le_of_ble_eq_true rfl) rfl (Nat.le_of_ble_eq_true rfl) ⟨(Nat.le_of_ble_eq_true rfl), (Nat.le_of_ble_eq_true rfl)⟩ ?_
  replace hp := hp.2
  refine gd_cVv (q := 61) rfl rfl lk9_246 myX3_begin vxX3_begin (ct_X3_begin f _ _ _ hG _ _ _ hp.1) rfl (Nat.le_of_ble_eq_true rfl) rfl rfl (Nat.le_of_ble_eq_true rfl) rfl (Nat.le_of_ble_eq_true rfl) ⟨(Nat.le_of_ble_eq_true rfl), (Nat.le_of_ble_eq_true rfl)⟩ ?_
  replace hp := hp.2
  refine gd_aload_n (q := 62) rfl rfl rfl ?_
  refine gd_getR (q := 65) (r := 5) rfl rfl rfl (Nat.le_of_ble_eq_true rfl) rfl rfl (gr_0_2 hG) ?_
  refine gd_bipush (v := 7) (q := 67) rfl rfl rfl ?_
  refine gd_iload_n (q := 68) rfl rfl rfl ?_
  refine gd_cVv (q := 71) rfl rfl lk9_249 myX3_give vxX3_give (ct_X3_give f _ _ _ hG _ _ hp.1) rfl (Nat.le_of_ble_eq_true rfl) rfl rfl (Nat.le_of_ble_eq_true rfl) rfl (Nat.le_of_ble_eq_true rfl) ⟨(Nat.le_of_ble_eq_true rfl), (Nat.le_of_ble_eq_true rfl)⟩ ?_
  replace hp := hp.2
  refine gd_aload_n (q := 72) rfl rfl rfl ?_
  refine gd_getR (q := 75) (r := 5) rfl rfl rfl (Nat.le_of_ble_eq_true rfl) rfl rfl (gr_0_2 hG) ?_
  refine gd_bipush (v := 8) (q := 77) rfl rfl rfl ?_
  refine gd_iload (q := 79) rfl rfl rfl ?_
  refine gd_cVv (q := 82) rfl rfl lk9_249 myX3_give vxX3_give (ct_X3_give f _ _ _ hG _ _ hp.1) rfl (Nat.le_of_ble_eq_true rfl) rfl rfl (Nat.le_of_ble_eq_true rfl) rfl (Nat.le_of_ble_eq_true rfl) ⟨(Nat.le_of_ble_eq_true rfl), (Nat.le_of_ble_eq_true rfl)⟩ ?_
  replace hp := hp.2
  refine gd_aload_n (q := 83) rfl rfl rfl ?_
  refine gd_getR (q := 86) (r := 5) rfl rfl rfl (Nat.le_of_ble_eq_true rfl) rfl rfl (gr_0_2 hG) ?_
  refine gd_bipush (v := 11) (q := 88) rfl rfl rfl ?_
  refine gd_iload_n (q := 89) rfl rfl rfl ?_
  refine gd_cVv (q := 92) rfl rfl lk9_249 myX3_give vxX3_give (ct_X3_give f _ _ _ hG _ _ hp.1) rfl (Nat.le_of_ble_eq_true rfl) rfl rfl (Nat.le_of_ble_eq_true rfl) rfl (Nat.le_of_ble_eq_true rfl) ⟨(Nat.le_of_ble_eq_true rfl), (Nat.le_of_ble_eq_true rfl)⟩ ?_
  replace hp := hp.2
  refine gd_aload_n (q := 93) rfl rfl rfl ?_
  refine gd_getR (q := 96) (r := 5) rfl rfl rfl (Nat.le_of_ble_eq_true rfl) rfl rfl (gr_0_2 hG) ?_
  refine gd_bipush (v := 12) (q := 98) rfl rfl rfl ?_
  refine gd_iload (q := 100) rfl rfl rfl ?_
  refine gd_cVv (q := 103) rfl rfl lk9_249 myX3_give vxX3_give (ct_X3_give f _ _ _ hG _ _ hp.1) rfl (Nat.le_of_ble_eq_true rfl) rfl rfl (Nat.le_of_ble_eq_true rfl) rfl (Nat.le_of_ble_eq_true rfl) ⟨(Nat.le_of_ble_eq_true rfl), (Nat.le_of_ble_eq_true rfl)⟩ ?_
  replace hp := hp.2
  refine gd_aload_n (q := 104) rfl rfl rfl ?_
  refine gd_getR (q := 107) (r := 5) rfl rfl rfl (Nat.le_of_ble_eq_true rfl) rfl rfl (gr_0_2 hG) ?_
  refine gd_bipush (v := 13) (q := 109) rfl rfl rfl ?_
  refine gd_iload (q := 111) rfl rfl rfl ?_
  refine gd_iload (q := 113) rfl rfl rfl ?_
  refine gx_icmp_ne (q := 116) (r := 120) rfl rfl rfl hp (fun c_113 hp => ?_) (fun c_113 hp => ?_)
  · refine gd_iconst (v := 1) (q := 117) rfl rfl rfl ?_
    refine gd_goto (q := 121) rfl rfl ?_
    refine gd_drop 1 ?_
    refine gd_drop 3 ?_
    refine gd_drop 4 ?_
    refine gd_drop 6 ?_
    exact gl_X9_pose_121 a1 a2 a3 a4 f J Q hG _ _ _ _ hp
  · refine gd_iconst (v := 0) (q := 121) rfl rfl rfl ?_
    refine gd_drop 1 ?_
    refine gd_drop 3 ?_
    refine gd_drop 4 ?_
    refine gd_drop 6 ?_
    exact gl_X9_pose_121 a1 a2 a3 a4 f J Q hG _ _ 0 _ hp
theorem ct_X9_pose (f : Nat) (I : am_I) (J : am_J) (Q : am_Q) (hG : Gr Q) (a1 : Int32) (a2 : Int32) (a3 : Int32) (a4 : Int32) (hp : p_X9_pose f I Q a1 a2 a3 a4) : Cm MX9_pose 3 0 0 92 [.ref 0, .int a1, .int a2, .int a3, .int a4] I J Q (am_FkI J Q (s_X9_pose f I Q a1 a2 a3 a4)) := cm_of (by decide) rfl IX9_pose_ok (Nat.le_of_ble_eq_true rfl) (gt_X9_pose f I J Q hG a1 a2 a3 a4 hp)
def s_X1_firstCell (I : am_I) (a1 : Int32) : Int32 := (if a1 ≤ 0 then 0 else (if 133 < a1 then 0 else (I 42 (a1 - 1).toNatClampNeg)))
def p_X1_firstCell  (a1 : Int32) : Prop := (if a1 ≤ 0 then True else (if 133 < a1 then True else vp_in (a1 - 1) 133))
set_option maxRecDepth 100000 in
set_option maxHeartbeats 4000000 in
theorem gt_X1_firstCell (f : Nat) (I : am_I) (J : am_J) (Q : am_Q) (hG : Gr Q) (a1 : Int32) (hp : p_X1_firstCell a1) : Gd MX1_firstCell (am_o 0 0 0 (am_Fi I J Q (s_X1_firstCell I a1))) 0 0 92 0 [some (.ref 38), some (.int a1)] [] I J Q := by
  unfold s_X1_firstCell
  unfold p_X1_firstCell at hp
  refine gd_iload_n (q := 1) rfl rfl rfl ?_
  refine gx_if_le (q := 4) (r := 22) rfl rfl rfl hp (fun c_1 hp => ?_) (fun c_1 hp => ?_)
  · refine gd_iconst (v := 0) (q := 23) rfl rfl rfl ?_
    exact gd_ireturn rfl rfl rfl (Nat.le_refl 0) (Nat.le_refl 0) rfl
  · refine gd_iload_n (q := 5) rfl rfl rfl ?_
    refine gd_sipush (v := 133) (q := 8) rfl rfl rfl ?_
    refine gx_icmp_gt (q := 11) (r := 22) rfl rfl rfl hp (fun c_8 hp => ?_) (fun c_8 hp => ?_)
    · refine gd_iconst (v := 0) (q := 23) rfl rfl rfl ?_
      exact gd_ireturn rfl rfl rfl (Nat.le_refl 0) (Nat.le_refl 0) rfl
    · refine gd_aload_n (q := 12) rfl rfl rfl ?_
      refine gd_getR (q := 15) (r := 42) rfl rfl rfl (Nat.le_of_ble_eq_true rfl) rfl rfl (gr_38_3 hG) ?_
      refine gd_iload_n (q := 16) rfl rfl rfl ?_
      refine gd_iconst (v := 1) (q := 17) rfl rfl rfl ?_
      refine gd_isub (q := 18) rfl rfl ?_
      refine gd_sald (q := 19) rfl rfl (Nat.le_of_ble_eq_true rfl) rfl hp ?_
      refine gd_goto (q := 23) rfl rfl ?_
      exact gd_ireturn rfl rfl rfl (Nat.le_refl 0) (Nat.le_refl 0) rfl
theorem ct_X1_firstCell (f : Nat) (I : am_I) (J : am_J) (Q : am_Q) (hG : Gr Q) (a1 : Int32) (hp : p_X1_firstCell a1) : Cm MX1_firstCell 0 0 0 92 [.ref 38, .int a1] I J Q (am_Fi I J Q (s_X1_firstCell I a1)) := cm_of (by decide) rfl IX1_firstCell_ok (Nat.le_of_ble_eq_true rfl) (gt_X1_firstCell f I J Q hG a1 hp)
def s_X3_pop (I : am_I)  : Int32 × am_I := (if 0 < (I 5 3) then ((I 7 ((I 5 3) - 1).toNatClampNeg), (am_w I 5 3 ((I 5 3) - 1))) else (0, I))
def p_X3_pop (I : am_I)  : Prop := (if 0 < (I 5 3) then vp_in ((I 5 3) - 1) 21 else True)
set_option maxRecDepth 100000 in
set_option maxHeartbeats 4000000 in
theorem gt_X3_pop (f : Nat) (I : am_I) (J : am_J) (Q : am_Q) (hG : Gr Q)  (hp : p_X3_pop I) : Gd MX3_pop (am_o 0 0 0 (am_FiI J Q (s_X3_pop I))) 0 0 92 0 [some (.ref 5)] [] I J Q := by
  unfold s_X3_pop
  unfold p_X3_pop at hp
  refine gd_aload_n (q := 1) rfl rfl rfl ?_
  refine gd_getI (q := 4) rfl rfl rfl (Nat.le_of_ble_eq_true rfl) rfl rfl ?_
  refine gx_if_gt (q := 7) (r := 9) rfl rfl rfl hp (fun c_4 hp => ?_) (fun c_4 hp => ?_)
  · refine gd_aload_n (q := 10) rfl rfl rfl ?_
    refine gd_dup (q := 11) rfl rfl rfl ?_
    refine gd_getI (q := 14) rfl rfl rfl (Nat.le_of_ble_eq_true rfl) rfl rfl ?_
    refine gd_iconst (v := 1) (q := 15) rfl rfl rfl ?_
    refine gd_isub (q := 16) rfl rfl ?_
    refine gd_putI (q := 19) rfl rfl rfl (Nat.le_of_ble_eq_true rfl) rfl rfl rfl (Or.inl rfl) ?_
    refine gd_aload_n (q := 20) rfl rfl rfl ?_
    refine gd_getR (q := 23) (r := 7) rfl rfl rfl (Nat.le_of_ble_eq_true rfl) rfl rfl (gr_5_1 hG) ?_
    refine gd_aload_n (q := 24) rfl rfl rfl ?_
    refine gd_getI (q := 27) rfl rfl rfl (Nat.le_of_ble_eq_true rfl) rfl rfl ?_
    refine gd_iald (q := 28) rfl rfl (Nat.le_of_ble_eq_true rfl) rfl hp ?_
    exact gd_ireturn rfl rfl rfl (Nat.le_refl 0) (Nat.le_refl 0) rfl
  · refine gd_iconst (v := 0) (q := 8) rfl rfl rfl ?_
    exact gd_ireturn rfl rfl rfl (Nat.le_refl 0) (Nat.le_refl 0) rfl
theorem ct_X3_pop (f : Nat) (I : am_I) (J : am_J) (Q : am_Q) (hG : Gr Q)  (hp : p_X3_pop I) : Cm MX3_pop 0 0 0 92 [.ref 5] I J Q (am_FiI J Q (s_X3_pop I)) := cm_of (by decide) rfl IX3_pop_ok (Nat.le_of_ble_eq_true rfl) (gt_X3_pop f I J Q hG hp)
def s_X3_isInTopic (I : am_I) (a1 : Int32) : Int32 := (if (s_X9_isBelow a1 12) = 0 then 0 else (if (((I 5 4) >>> (a1 &&& 31)) &&& 1) = 1 then 1 else 0))
theorem z_X3_isInTopic (I : am_I) (a1 : Int32) : (s_X3_isInTopic I a1) = 0 ∨ (s_X3_isInTopic I a1) = 1 := by
  unfold s_X3_isInTopic
  repeat' split
  all_goals first | exact Or.inl rfl | exact Or.inr rfl | exact z_X9_isBelow _ _
set_option maxRecDepth 100000 in
set_option maxHeartbeats 4000000 in
theorem gt_X3_isInTopic (f : Nat) (I : am_I) (J : am_J) (Q : am_Q) (hG : Gr Q) (a1 : Int32) : Gd MX3_isInTopic (am_o 1 0 0 (am_Fi I J Q (s_X3_isInTopic I a1))) 0 0 92 0 [some (.ref 5), some (.int a1)] [] I J Q := by
  unfold s_X3_isInTopic
  refine gd_iload_n (q := 1) rfl rfl rfl ?_
  refine gd_bipush (v := 12) (q := 3) rfl rfl rfl ?_
  refine gd_cSi (q := 6) rfl rfl lk3_46 myX9_isBelow sxX9_isBelow (ct_X9_isBelow f _ _ _ hG _ _) rfl rfl (Nat.le_of_ble_eq_true rfl) ⟨(Nat.le_of_ble_eq_true rfl), (Nat.le_of_ble_eq_true rfl)⟩ ?_
  refine gy_if_eq (q := 9) (r := 25) rfl rfl rfl (fun c_6 => ?_) (fun c_6 => ?_)
  · refine gd_iconst (v := 0) (q := 26) rfl rfl rfl ?_
    exact gd_ireturn rfl rfl rfl (Nat.le_refl 0) (Nat.le_refl 0) rfl
  · refine gd_aload_n (q := 10) rfl rfl rfl ?_
    refine gd_getI (q := 13) rfl rfl rfl (Nat.le_of_ble_eq_true rfl) rfl rfl ?_
    refine gd_iload_n (q := 14) rfl rfl rfl ?_
    refine gd_ishr (q := 15) rfl rfl ?_
    refine gd_iconst (v := 1) (q := 16) rfl rfl rfl ?_
    refine gd_iand (q := 17) rfl rfl ?_
    refine gd_iconst (v := 1) (q := 18) rfl rfl rfl ?_
    refine gy_icmp_ne (q := 21) (r := 25) rfl rfl rfl (fun c_18 => ?_) (fun c_18 => ?_)
    · refine gd_iconst (v := 1) (q := 22) rfl rfl rfl ?_
      refine gd_goto (q := 26) rfl rfl ?_
      exact gd_ireturn rfl rfl rfl (Nat.le_refl 0) (Nat.le_refl 0) rfl
    · refine gd_iconst (v := 0) (q := 26) rfl rfl rfl ?_
      exact gd_ireturn rfl rfl rfl (Nat.le_refl 0) (Nat.le_refl 0) rfl
theorem ct_X3_isInTopic (f : Nat) (I : am_I) (J : am_J) (Q : am_Q) (hG : Gr Q) (a1 : Int32) : Cm MX3_isInTopic 1 0 0 92 [.ref 5, .int a1] I J Q (am_Fi I J Q (s_X3_isInTopic I a1)) := cm_of (by decide) rfl IX3_isInTopic_ok (Nat.le_of_ble_eq_true rfl) (gt_X3_isInTopic f I J Q hG a1)
def s_X9_isOperator  (a0 : Int32) : Int32 := (if a0 = 17 then 1 else (if a0 = 18 then 1 else (if a0 = 19 then 1 else 0)))
theorem z_X9_isOperator  (a0 : Int32) : (s_X9_isOperator a0) = 0 ∨ (s_X9_isOperator a0) = 1 := by
  unfold s_X9_isOperator
  repeat' split
  all_goals first | exact Or.inl rfl | exact Or.inr rfl
set_option maxRecDepth 100000 in
set_option maxHeartbeats 4000000 in
theorem gt_X9_isOperator (f : Nat) (I : am_I) (J : am_J) (Q : am_Q) (hG : Gr Q) (a0 : Int32) : Gd MX9_isOperator (am_o 0 0 0 (am_Fi I J Q (s_X9_isOperator a0))) 0 0 92 0 [some (.int a0)] [] I J Q := by
  unfold s_X9_isOperator
  refine gd_iload_n (q := 1) rfl rfl rfl ?_
  refine gd_bipush (v := 17) (q := 3) rfl rfl rfl ?_
  refine gy_icmp_eq (q := 6) (r := 18) rfl rfl rfl (fun c_3 => ?_) (fun c_3 => ?_)
  · refine gd_iconst (v := 1) (q := 19) rfl rfl rfl ?_
    refine gd_goto (q := 23) rfl rfl ?_
    exact gd_ireturn rfl rfl rfl (Nat.le_refl 0) (Nat.le_refl 0) rfl
  · refine gd_iload_n (q := 7) rfl rfl rfl ?_
    refine gd_bipush (v := 18) (q := 9) rfl rfl rfl ?_
    refine gy_icmp_eq (q := 12) (r := 18) rfl rfl rfl (fun c_9 => ?_) (fun c_9 => ?_)
    · refine gd_iconst (v := 1) (q := 19) rfl rfl rfl ?_
      refine gd_goto (q := 23) rfl rfl ?_
      exact gd_ireturn rfl rfl rfl (Nat.le_refl 0) (Nat.le_refl 0) rfl
    · refine gd_iload_n (q := 13) rfl rfl rfl ?_
      refine gd_bipush (v := 19) (q := 15) rfl rfl rfl ?_
      refine gy_icmp_ne (q := 18) (r := 22) rfl rfl rfl (fun c_15 => ?_) (fun c_15 => ?_)
      · refine gd_iconst (v := 1) (q := 19) rfl rfl rfl ?_
        refine gd_goto (q := 23) rfl rfl ?_
        exact gd_ireturn rfl rfl rfl (Nat.le_refl 0) (Nat.le_refl 0) rfl
      · refine gd_iconst (v := 0) (q := 23) rfl rfl rfl ?_
        exact gd_ireturn rfl rfl rfl (Nat.le_refl 0) (Nat.le_refl 0) rfl
theorem ct_X9_isOperator (f : Nat) (I : am_I) (J : am_J) (Q : am_Q) (hG : Gr Q) (a0 : Int32) : Cm MX9_isOperator 0 0 0 92 [.int a0] I J Q (am_Fi I J Q (s_X9_isOperator a0)) := cm_of (by decide) rfl IX9_isOperator_ok (Nat.le_of_ble_eq_true rfl) (gt_X9_isOperator f I J Q hG a0)
def s_X3_push (I : am_I) (a1 : Int32) : am_I := (if 21 ≤ (I 5 3) then I else (am_w (am_w I 7 (I 5 3).toNatClampNeg a1) 5 3 ((I 5 3) + 1)))
def p_X3_push (I : am_I) (a1 : Int32) : Prop := (if 21 ≤ (I 5 3) then True else vp_in (I 5 3) 21)
set_option maxRecDepth 100000 in
set_option maxHeartbeats 4000000 in
theorem gt_X3_push (f : Nat) (I : am_I) (J : am_J) (Q : am_Q) (hG : Gr Q) (a1 : Int32) (hp : p_X3_push I a1) : Gd MX3_push (am_o 0 0 0 (am_FvI J Q (s_X3_push I a1))) 0 0 92 0 [some (.ref 5), some (.int a1)] [] I J Q := by
  unfold s_X3_push
  unfold p_X3_push at hp
  refine gd_aload_n (q := 1) rfl rfl rfl ?_
  refine gd_getI (q := 4) rfl rfl rfl (Nat.le_of_ble_eq_true rfl) rfl rfl ?_
  refine gd_aload_n (q := 5) rfl rfl rfl ?_
  refine gd_getR (q := 8) (r := 7) rfl rfl rfl (Nat.le_of_ble_eq_true rfl) rfl rfl (gr_5_1 hG) ?_
  refine gd_alen (v := 21) (ty := .int) (q := 9) rfl rfl (Nat.le_of_ble_eq_true rfl) rfl (fun _ => rfl) rfl ?_
  refine gx_icmp_ge (q := 12) (r := 32) rfl rfl rfl hp (fun c_9 hp => ?_) (fun c_9 hp => ?_)
  · exact gd_return rfl rfl (Nat.le_refl 0) (Nat.le_refl 0) rfl
  · refine gd_aload_n (q := 13) rfl rfl rfl ?_
    refine gd_getR (q := 16) (r := 7) rfl rfl rfl (Nat.le_of_ble_eq_true rfl) rfl rfl (gr_5_1 hG) ?_
    refine gd_aload_n (q := 17) rfl rfl rfl ?_
    refine gd_getI (q := 20) rfl rfl rfl (Nat.le_of_ble_eq_true rfl) rfl rfl ?_
    refine gd_iload_n (q := 21) rfl rfl rfl ?_
    refine gd_iast (q := 22) rfl rfl (Nat.le_of_ble_eq_true rfl) rfl hp ?_
    refine gd_aload_n (q := 23) rfl rfl rfl ?_
    refine gd_dup (q := 24) rfl rfl rfl ?_
    refine gd_getI (q := 27) rfl rfl rfl (Nat.le_of_ble_eq_true rfl) rfl rfl ?_
    refine gd_iconst (v := 1) (q := 28) rfl rfl rfl ?_
    refine gd_iadd (q := 29) rfl rfl ?_
    refine gd_putI (q := 32) rfl rfl rfl (Nat.le_of_ble_eq_true rfl) rfl rfl rfl (Or.inl rfl) ?_
    exact gd_return rfl rfl (Nat.le_refl 0) (Nat.le_refl 0) rfl
theorem ct_X3_push (f : Nat) (I : am_I) (J : am_J) (Q : am_Q) (hG : Gr Q) (a1 : Int32) (hp : p_X3_push I a1) : Cm MX3_push 0 0 0 92 [.ref 5, .int a1] I J Q (am_FvI J Q (s_X3_push I a1)) := cm_of (by decide) rfl IX3_push_ok (Nat.le_of_ble_eq_true rfl) (gt_X3_push f I J Q hG a1 hp)
def s_X3_takeCell (I : am_I) (a1 : Int32) : am_I := (if (s_X9_isOperator (a1 - 10000)) = 0 then (if (s_X9_isVar (a1 - 10000)) = 0 then (s_X3_push I a1) else (s_X3_push I (I 6 ((a1 - 10000) - 7).toNatClampNeg))) else (if (a1 - 10000) = 17 then (s_X3_push ((s_X3_pop ((s_X3_pop I).2)).2) (((s_X3_pop ((s_X3_pop I).2)).1) + ((s_X3_pop I).1))) else (if (a1 - 10000) = 18 then (s_X3_push ((s_X3_pop ((s_X3_pop I).2)).2) (((s_X3_pop ((s_X3_pop I).2)).1) - ((s_X3_pop I).1))) else (s_X3_push ((s_X3_pop ((s_X3_pop I).2)).2) (((s_X3_pop ((s_X3_pop I).2)).1) * ((s_X3_pop I).1))))))
def p_X3_takeCell (I : am_I) (a1 : Int32) : Prop := (if (s_X9_isOperator (a1 - 10000)) = 0 then (if (s_X9_isVar (a1 - 10000)) = 0 then (p_X3_push I a1) else (vp_in ((a1 - 10000) - 7) 7 ∧ (p_X3_push I (I 6 ((a1 - 10000) - 7).toNatClampNeg)))) else ((p_X3_pop I) ∧ ((p_X3_pop ((s_X3_pop I).2)) ∧ (if (a1 - 10000) = 17 then (p_X3_push ((s_X3_pop ((s_X3_pop I).2)).2) (((s_X3_pop ((s_X3_pop I).2)).1) + ((s_X3_pop I).1))) else (if (a1 - 10000) = 18 then (p_X3_push ((s_X3_pop ((s_X3_pop I).2)).2) (((s_X3_pop ((s_X3_pop I).2)).1) - ((s_X3_pop I).1))) else (p_X3_push ((s_X3_pop ((s_X3_pop I).2)).2) (((s_X3_pop ((s_X3_pop I).2)).1) * ((s_X3_pop I).1))))))))
set_option maxRecDepth 100000 in
set_option maxHeartbeats 4000000 in
theorem gt_X3_takeCell (f : Nat) (I : am_I) (J : am_J) (Q : am_Q) (hG : Gr Q) (a1 : Int32) (hp : p_X3_takeCell I a1) : Gd MX3_takeCell (am_o 1 0 0 (am_FvI J Q (s_X3_takeCell I a1))) 0 0 92 0 [some (.ref 5), some (.int a1), none, none, none] [] I J Q := by
  unfold s_X3_takeCell
  unfold p_X3_takeCell at hp
  refine gd_iload_n (q := 1) rfl rfl rfl ?_
  refine gd_sipush (v := 10000) (q := 4) rfl rfl rfl ?_
  refine gd_isub (q := 5) rfl rfl ?_
  refine gd_istore_n (q := 6) rfl rfl (Nat.le_of_ble_eq_true rfl) rfl ?_
  refine gd_iload_n (q := 7) rfl rfl rfl ?_
  refine gd_cSi (q := 10) rfl rfl lk3_52 myX9_isOperator sxX9_isOperator (ct_X9_isOperator f _ _ _ hG _) rfl rfl (Nat.le_of_ble_eq_true rfl) ⟨(Nat.le_of_ble_eq_true rfl), (Nat.le_of_ble_eq_true rfl)⟩ ?_
  refine gx_if_eq (q := 13) (r := 61) rfl rfl rfl hp (fun c_10 hp => ?_) (fun c_10 hp => ?_)
  · refine gd_aload_n (q := 62) rfl rfl rfl ?_
    refine gd_iload_n (q := 63) rfl rfl rfl ?_
    refine gd_cSi (q := 66) rfl rfl lk3_38 myX9_isVar sxX9_isVar (ct_X9_isVar f _ _ _ hG _) rfl rfl (Nat.le_of_ble_eq_true rfl) ⟨(Nat.le_of_ble_eq_true rfl), (Nat.le_of_ble_eq_true rfl)⟩ ?_
    refine gx_if_eq (q := 69) (r := 81) rfl rfl rfl hp (fun c_66 hp => ?_) (fun c_66 hp => ?_)
    · refine gd_iload_n (q := 82) rfl rfl rfl ?_
      refine gd_cVv (q := 85) rfl rfl lk3_59 myX3_push vxX3_push (ct_X3_push f _ _ _ hG _ hp) rfl (Nat.le_of_ble_eq_true rfl) rfl rfl (Nat.le_of_ble_eq_true rfl) rfl (Nat.le_of_ble_eq_true rfl) ⟨(Nat.le_of_ble_eq_true rfl), (Nat.le_of_ble_eq_true rfl)⟩ ?_
      exact gd_return rfl rfl (Nat.le_refl 0) (Nat.le_refl 0) rfl
    · refine gd_aload_n (q := 70) rfl rfl rfl ?_
      refine gd_getR (q := 73) (r := 6) rfl rfl rfl (Nat.le_of_ble_eq_true rfl) rfl rfl (gr_5_0 hG) ?_
      refine gd_iload_n (q := 74) rfl rfl rfl ?_
      refine gd_bipush (v := 7) (q := 76) rfl rfl rfl ?_
      refine gd_isub (q := 77) rfl rfl ?_
      refine gd_iald (q := 78) rfl rfl (Nat.le_of_ble_eq_true rfl) rfl hp.1 ?_
      replace hp := hp.2
      refine gd_goto (q := 82) rfl rfl ?_
      refine gd_cVv (q := 85) rfl rfl lk3_59 myX3_push vxX3_push (ct_X3_push f _ _ _ hG _ hp) rfl (Nat.le_of_ble_eq_true rfl) rfl rfl (Nat.le_of_ble_eq_true rfl) rfl (Nat.le_of_ble_eq_true rfl) ⟨(Nat.le_of_ble_eq_true rfl), (Nat.le_of_ble_eq_true rfl)⟩ ?_
      exact gd_return rfl rfl (Nat.le_refl 0) (Nat.le_refl 0) rfl
  · refine gd_aload_n (q := 14) rfl rfl rfl ?_
    refine gd_cVi (q := 17) rfl rfl lk3_55 myX3_pop vxX3_pop (ct_X3_pop f _ _ _ hG hp.1) rfl (Nat.le_of_ble_eq_true rfl) rfl rfl (Nat.le_of_ble_eq_true rfl) rfl (Nat.le_of_ble_eq_true rfl) ⟨(Nat.le_of_ble_eq_true rfl), (Nat.le_of_ble_eq_true rfl)⟩ ?_
    replace hp := hp.2
    refine gd_istore_n (q := 18) rfl rfl (Nat.le_of_ble_eq_true rfl) rfl ?_
    refine gd_aload_n (q := 19) rfl rfl rfl ?_
    refine gd_cVi (q := 22) rfl rfl lk3_55 myX3_pop vxX3_pop (ct_X3_pop f _ _ _ hG hp.1) rfl (Nat.le_of_ble_eq_true rfl) rfl rfl (Nat.le_of_ble_eq_true rfl) rfl (Nat.le_of_ble_eq_true rfl) ⟨(Nat.le_of_ble_eq_true rfl), (Nat.le_of_ble_eq_true rfl)⟩ ?_
    replace hp := hp.2
    refine gd_istore (q := 24) rfl rfl (Nat.le_of_ble_eq_true rfl) rfl ?_
    refine gd_aload_n (q := 25) rfl rfl rfl ?_
    refine gd_iload_n (q := 26) rfl rfl rfl ?_
    refine gd_bipush (v := 17) (q := 28) rfl rfl rfl ?_
    refine gx_icmp_ne (q := 31) (r := 38) rfl rfl rfl hp (fun c_28 hp => ?_) (fun c_28 hp => ?_)
    · refine gd_iload (q := 33) rfl rfl rfl ?_
      refine gd_iload_n (q := 34) rfl rfl rfl ?_
      refine gd_iadd (q := 35) rfl rfl ?_
      refine gd_goto (q := 55) rfl rfl ?_
      refine gd_cVv (q := 58) rfl rfl lk3_59 myX3_push vxX3_push (ct_X3_push f _ _ _ hG _ hp) rfl (Nat.le_of_ble_eq_true rfl) rfl rfl (Nat.le_of_ble_eq_true rfl) rfl (Nat.le_of_ble_eq_true rfl) ⟨(Nat.le_of_ble_eq_true rfl), (Nat.le_of_ble_eq_true rfl)⟩ ?_
      refine gd_goto (q := 85) rfl rfl ?_
      exact gd_return rfl rfl (Nat.le_refl 0) (Nat.le_refl 0) rfl
    · refine gd_iload_n (q := 39) rfl rfl rfl ?_
      refine gd_bipush (v := 18) (q := 41) rfl rfl rfl ?_
      refine gx_icmp_ne (q := 44) (r := 51) rfl rfl rfl hp (fun c_41 hp => ?_) (fun c_41 hp => ?_)
      · refine gd_iload (q := 46) rfl rfl rfl ?_
        refine gd_iload_n (q := 47) rfl rfl rfl ?_
        refine gd_isub (q := 48) rfl rfl ?_
        refine gd_goto (q := 55) rfl rfl ?_
        refine gd_cVv (q := 58) rfl rfl lk3_59 myX3_push vxX3_push (ct_X3_push f _ _ _ hG _ hp) rfl (Nat.le_of_ble_eq_true rfl) rfl rfl (Nat.le_of_ble_eq_true rfl) rfl (Nat.le_of_ble_eq_true rfl) ⟨(Nat.le_of_ble_eq_true rfl), (Nat.le_of_ble_eq_true rfl)⟩ ?_
        refine gd_goto (q := 85) rfl rfl ?_
        exact gd_return rfl rfl (Nat.le_refl 0) (Nat.le_refl 0) rfl
      · refine gd_iload (q := 53) rfl rfl rfl ?_
        refine gd_iload_n (q := 54) rfl rfl rfl ?_
        refine gd_imul (q := 55) rfl rfl ?_
        refine gd_cVv (q := 58) rfl rfl lk3_59 myX3_push vxX3_push (ct_X3_push f _ _ _ hG _ hp) rfl (Nat.le_of_ble_eq_true rfl) rfl rfl (Nat.le_of_ble_eq_true rfl) rfl (Nat.le_of_ble_eq_true rfl) ⟨(Nat.le_of_ble_eq_true rfl), (Nat.le_of_ble_eq_true rfl)⟩ ?_
        refine gd_goto (q := 85) rfl rfl ?_
        exact gd_return rfl rfl (Nat.le_refl 0) (Nat.le_refl 0) rfl
theorem ct_X3_takeCell (f : Nat) (I : am_I) (J : am_J) (Q : am_Q) (hG : Gr Q) (a1 : Int32) (hp : p_X3_takeCell I a1) : Cm MX3_takeCell 1 0 0 92 [.ref 5, .int a1] I J Q (am_FvI J Q (s_X3_takeCell I a1)) := cm_of (by decide) rfl IX3_takeCell_ok (Nat.le_of_ble_eq_true rfl) (gt_X3_takeCell f I J Q hG a1 hp)
theorem am_swX1_testHolds_71 {x : Int32} (h0 : ¬ x = 20) (h1 : ¬ x = 21) (h2 : ¬ x = 22) : (x.toInt < 20 ∨ 22 < x.toInt) ∨ (¬ x.toInt < 20 ∧ ¬ 22 < x.toInt ∧ (#[25, 37, 49] : Array Int)[(x.toInt - 20).toNat]? = some 61) := by
  by_cases hlo : x.toInt < 20
  · exact Or.inl (Or.inl hlo)
  by_cases hhi : 22 < x.toInt
  · exact Or.inl (Or.inr hhi)
  refine Or.inr ⟨hlo, hhi, ?_⟩
  have e0 := lv_neT (a := 20) h0 rfl
  have e1 := lv_neT (a := 21) h1 rfl
  have e2 := lv_neT (a := 22) h2 rfl
  exfalso; omega
def s_X1_testHolds_L11 (a1 : Int32)  : Nat → Int32 → am_I → Int32 × am_I
  | 0, _, I => (0, I)
  | g + 1, v3, I => (if (I 42 a1.toNatClampNeg) ≤ v3 then (if (((s_X3_pop I).2) 41 a1.toNatClampNeg) = 6 then ((s_X3_isInTopic ((s_X3_pop I).2) ((s_X3_pop I).1)), ((s_X3_pop I).2)) else (if (((s_X3_pop ((s_X3_pop I).2)).2) 41 a1.toNatClampNeg) = 20 then (if ((s_X3_pop ((s_X3_pop I).2)).1) = ((s_X3_pop I).1) then (1, ((s_X3_pop ((s_X3_pop I).2)).2)) else (0, ((s_X3_pop ((s_X3_pop I).2)).2))) else (if (((s_X3_pop ((s_X3_pop I).2)).2) 41 a1.toNatClampNeg) = 21 then (if ((s_X3_pop ((s_X3_pop I).2)).1) = ((s_X3_pop I).1) then (0, ((s_X3_pop ((s_X3_pop I).2)).2)) else (1, ((s_X3_pop ((s_X3_pop I).2)).2))) else (if (((s_X3_pop ((s_X3_pop I).2)).2) 41 a1.toNatClampNeg) = 22 then (if ((s_X3_pop I).1) ≤ ((s_X3_pop ((s_X3_pop I).2)).1) then (0, ((s_X3_pop ((s_X3_pop I).2)).2)) else (1, ((s_X3_pop ((s_X3_pop I).2)).2))) else (if ((s_X3_pop I).1) < ((s_X3_pop ((s_X3_pop I).2)).1) then (0, ((s_X3_pop ((s_X3_pop I).2)).2)) else (1, ((s_X3_pop ((s_X3_pop I).2)).2))))))) else (s_X1_testHolds_L11 a1 g (v3 + 1) (s_X3_takeCell I (I 45 v3.toNatClampNeg))))
def p_X1_testHolds_L11 (a1 : Int32)  : Nat → Int32 → am_I → Prop
  | 0, _, _ => False
  | g + 1, v3, I => (vp_in a1 133 ∧ (if (I 42 a1.toNatClampNeg) ≤ v3 then ((p_X3_pop I) ∧ (vp_in a1 133 ∧ (if (((s_X3_pop I).2) 41 a1.toNatClampNeg) = 6 then True else ((p_X3_pop ((s_X3_pop I).2)) ∧ vp_in a1 133)))) else (vp_in v3 400 ∧ ((p_X3_takeCell I (I 45 v3.toNatClampNeg)) ∧ (p_X1_testHolds_L11 a1 g (v3 + 1) (s_X3_takeCell I (I 45 v3.toNatClampNeg)))))))
theorem z_X1_testHolds_L11 (a1 : Int32)  : ∀ (g : Nat), (∀ (v3 : Int32) (I : am_I), (s_X1_testHolds_L11 a1 g v3 I).1 = 0 ∨ (s_X1_testHolds_L11 a1 g v3 I).1 = 1) := by
  intro g
  induction g with
  | zero => (intros; exact Or.inl rfl)
  | succ g ih =>
    intro v3 I
    rw [s_X1_testHolds_L11]
    repeat' split
    all_goals first | exact Or.inl rfl | exact Or.inr rfl | exact z_X3_isInTopic _ _ | exact ih _ _
def s_X1_testHolds (f : Nat) (I : am_I) (a1 : Int32) : Int32 × am_I := (s_X1_testHolds_L11 a1 f (s_X1_firstCell (am_w I 5 3 0) a1) (am_w I 5 3 0))
def p_X1_testHolds (f : Nat) (I : am_I) (a1 : Int32) : Prop := ((p_X1_firstCell a1) ∧ (p_X1_testHolds_L11 a1 f (s_X1_firstCell (am_w I 5 3 0) a1) (am_w I 5 3 0)))
theorem z_X1_testHolds (f : Nat) (I : am_I) (a1 : Int32) : (s_X1_testHolds f I a1).1 = 0 ∨ (s_X1_testHolds f I a1).1 = 1 := by
  unfold s_X1_testHolds
  repeat' split
  all_goals first | exact Or.inl rfl | exact Or.inr rfl | exact z_X3_isInTopic _ _ | exact (z_X1_testHolds_L11 _ _) _ _
set_option maxRecDepth 100000 in
set_option maxHeartbeats 4000000 in
theorem gl_X1_testHolds_L11 (a1 : Int32) (f : Nat) (J : am_J) (Q : am_Q) (hG : Gr Q) : ∀ g : Nat, (∀ (v3 : Int32) (I : am_I), p_X1_testHolds_L11 a1 g v3 I → Gd MX1_testHolds (am_o 2 0 0 (am_FiI J Q (s_X1_testHolds_L11 a1 g v3 I))) 0 0 92 11 [some (.ref 38), some (.int a1), some (.ref 5), some (.int v3), none] [] I J Q) := by
  intro g
  induction g with
  | zero => exact fun _ _ hp => False.elim hp
  | succ g ih =>
    have ih_11 := ih
    intro v3 I hp
    rw [s_X1_testHolds_L11]
    rw [p_X1_testHolds_L11] at hp
    refine gd_iload_n (q := 12) rfl rfl rfl ?_
    refine gd_aload_n (q := 13) rfl rfl rfl ?_
    refine gd_getR (q := 16) (r := 42) rfl rfl rfl (Nat.le_of_ble_eq_true rfl) rfl rfl (gr_38_3 hG) ?_
    refine gd_iload_n (q := 17) rfl rfl rfl ?_
    refine gd_sald (q := 18) rfl rfl (Nat.le_of_ble_eq_true rfl) rfl hp.1 ?_
    replace hp := hp.2
    refine gx_icmp_ge (q := 21) (r := 37) rfl rfl rfl hp (fun c_18 hp => ?_) (fun c_18 hp => ?_)
    · refine gd_aload_n (q := 38) rfl rfl rfl ?_
      refine gd_cVi (q := 41) rfl rfl lk1_82 myX3_pop vxX3_pop (ct_X3_pop f _ _ _ hG hp.1) rfl (Nat.le_of_ble_eq_true rfl) rfl rfl (Nat.le_of_ble_eq_true rfl) rfl (Nat.le_of_ble_eq_true rfl) ⟨(Nat.le_of_ble_eq_true rfl), (Nat.le_of_ble_eq_true rfl)⟩ ?_
      replace hp := hp.2
      refine gd_istore_n (q := 42) rfl rfl (Nat.le_of_ble_eq_true rfl) rfl ?_
      refine gd_aload_n (q := 43) rfl rfl rfl ?_
      refine gd_getR (q := 46) (r := 41) rfl rfl rfl (Nat.le_of_ble_eq_true rfl) rfl rfl (gr_38_2 hG) ?_
      refine gd_iload_n (q := 47) rfl rfl rfl ?_
      refine gd_bald (q := 48) rfl rfl (Nat.le_of_ble_eq_true rfl) rfl hp.1 ?_
      replace hp := hp.2
      refine gd_bipush (v := 6) (q := 50) rfl rfl rfl ?_
      refine gx_icmp_ne (q := 53) (r := 59) rfl rfl rfl hp (fun c_50 hp => ?_) (fun c_50 hp => ?_)
      · refine gd_aload_n (q := 54) rfl rfl rfl ?_
        refine gd_iload_n (q := 55) rfl rfl rfl ?_
        refine gd_cVi (q := 58) rfl rfl lk1_86 myX3_isInTopic vxX3_isInTopic (ct_X3_isInTopic f _ _ _ hG _) rfl (Nat.le_of_ble_eq_true rfl) rfl rfl (Nat.le_of_ble_eq_true rfl) rfl (Nat.le_of_ble_eq_true rfl) ⟨(Nat.le_of_ble_eq_true rfl), (Nat.le_of_ble_eq_true rfl)⟩ ?_
        exact gd_ireturn rfl rfl (am_zn (z_X3_isInTopic ((s_X3_pop I).2) ((s_X3_pop I).1))) (Nat.le_refl 0) (Nat.le_refl 0) rfl
      · refine gd_aload_n (q := 60) rfl rfl rfl ?_
        refine gd_cVi (q := 63) rfl rfl lk1_82 myX3_pop vxX3_pop (ct_X3_pop f _ _ _ hG hp.1) rfl (Nat.le_of_ble_eq_true rfl) rfl rfl (Nat.le_of_ble_eq_true rfl) rfl (Nat.le_of_ble_eq_true rfl) ⟨(Nat.le_of_ble_eq_true rfl), (Nat.le_of_ble_eq_true rfl)⟩ ?_
        replace hp := hp.2
        refine gd_istore (q := 65) rfl rfl (Nat.le_of_ble_eq_true rfl) rfl ?_
        refine gd_aload_n (q := 66) rfl rfl rfl ?_
        refine gd_getR (q := 69) (r := 41) rfl rfl rfl (Nat.le_of_ble_eq_true rfl) rfl rfl (gr_38_2 hG) ?_
        refine gd_iload_n (q := 70) rfl rfl rfl ?_
        refine gd_bald (q := 71) rfl rfl (Nat.le_of_ble_eq_true rfl) rfl hp ?_
        refine gy_ite (fun c_71_20 => ?_) (fun c_71_20 => ?_)
        · refine gd_tsIn (q := 96) rfl (by rw [c_71_20]; decide) (by rw [c_71_20]; decide) (by first | (rw [c_71_20]; done) | (rw [c_71_20]; rfl)) rfl ?_
          refine gd_iload (q := 98) rfl rfl rfl ?_
          refine gd_iload_n (q := 99) rfl rfl rfl ?_
          refine gy_icmp_ne (q := 102) (r := 106) rfl rfl rfl (fun c_99 => ?_) (fun c_99 => ?_)
          · refine gd_iconst (v := 1) (q := 103) rfl rfl rfl ?_
            refine gd_goto (q := 107) rfl rfl ?_
            exact gd_ireturn rfl rfl rfl (Nat.le_refl 0) (Nat.le_refl 0) rfl
          · refine gd_iconst (v := 0) (q := 107) rfl rfl rfl ?_
            exact gd_ireturn rfl rfl rfl (Nat.le_refl 0) (Nat.le_refl 0) rfl
        · refine gy_ite (fun c_71_21 => ?_) (fun c_71_21 => ?_)
          · refine gd_tsIn (q := 108) rfl (by rw [c_71_21]; decide) (by rw [c_71_21]; decide) (by first | (rw [c_71_21]; done) | (rw [c_71_21]; rfl)) rfl ?_
            refine gd_iload (q := 110) rfl rfl rfl ?_
            refine gd_iload_n (q := 111) rfl rfl rfl ?_
            refine gy_icmp_eq (q := 114) (r := 118) rfl rfl rfl (fun c_111 => ?_) (fun c_111 => ?_)
            · refine gd_iconst (v := 0) (q := 119) rfl rfl rfl ?_
              exact gd_ireturn rfl rfl rfl (Nat.le_refl 0) (Nat.le_refl 0) rfl
            · refine gd_iconst (v := 1) (q := 115) rfl rfl rfl ?_
              refine gd_goto (q := 119) rfl rfl ?_
              exact gd_ireturn rfl rfl rfl (Nat.le_refl 0) (Nat.le_refl 0) rfl
          · refine gy_ite (fun c_71_22 => ?_) (fun c_71_22 => ?_)
            · refine gd_tsIn (q := 120) rfl (by rw [c_71_22]; decide) (by rw [c_71_22]; decide) (by first | (rw [c_71_22]; done) | (rw [c_71_22]; rfl)) rfl ?_
              refine gd_iload (q := 122) rfl rfl rfl ?_
              refine gd_iload_n (q := 123) rfl rfl rfl ?_
              refine gy_icmp_ge (q := 126) (r := 130) rfl rfl rfl (fun c_123 => ?_) (fun c_123 => ?_)
              · refine gd_iconst (v := 0) (q := 131) rfl rfl rfl ?_
                exact gd_ireturn rfl rfl rfl (Nat.le_refl 0) (Nat.le_refl 0) rfl
              · refine gd_iconst (v := 1) (q := 127) rfl rfl rfl ?_
                refine gd_goto (q := 131) rfl rfl ?_
                exact gd_ireturn rfl rfl rfl (Nat.le_refl 0) (Nat.le_refl 0) rfl
            · refine gd_tsAny (q := 132) rfl (am_swX1_testHolds_71 c_71_20 c_71_21 c_71_22) rfl ?_
              refine gd_iload (q := 134) rfl rfl rfl ?_
              refine gd_iload_n (q := 135) rfl rfl rfl ?_
              refine gy_icmp_gt (q := 138) (r := 142) rfl rfl rfl (fun c_135 => ?_) (fun c_135 => ?_)
              · refine gd_iconst (v := 0) (q := 143) rfl rfl rfl ?_
                exact gd_ireturn rfl rfl rfl (Nat.le_refl 0) (Nat.le_refl 0) rfl
              · refine gd_iconst (v := 1) (q := 139) rfl rfl rfl ?_
                refine gd_goto (q := 143) rfl rfl ?_
                exact gd_ireturn rfl rfl rfl (Nat.le_refl 0) (Nat.le_refl 0) rfl
    · refine gd_aload_n (q := 22) rfl rfl rfl ?_
      refine gd_aload_n (q := 23) rfl rfl rfl ?_
      refine gd_getR (q := 26) (r := 45) rfl rfl rfl (Nat.le_of_ble_eq_true rfl) rfl rfl (gr_38_6 hG) ?_
      refine gd_iload_n (q := 27) rfl rfl rfl ?_
      refine gd_sald (q := 28) rfl rfl (Nat.le_of_ble_eq_true rfl) rfl hp.1 ?_
      replace hp := hp.2
      refine gd_cVv (q := 31) rfl rfl lk1_78 myX3_takeCell vxX3_takeCell (ct_X3_takeCell f _ _ _ hG _ hp.1) rfl (Nat.le_of_ble_eq_true rfl) rfl rfl (Nat.le_of_ble_eq_true rfl) rfl (Nat.le_of_ble_eq_true rfl) ⟨(Nat.le_of_ble_eq_true rfl), (Nat.le_of_ble_eq_true rfl)⟩ ?_
      replace hp := hp.2
      refine gd_iinc (v := (v3 + 1)) (q := 34) rfl rfl rfl rfl (Nat.le_of_ble_eq_true rfl) rfl ?_
      refine gd_goto (q := 11) rfl rfl ?_
      exact ih_11 _ _ hp
theorem gl_X1_testHolds_11 (a1 : Int32) (f : Nat) (J : am_J) (Q : am_Q) (hG : Gr Q) (g : Nat) : ∀ (v3 : Int32) (I : am_I), p_X1_testHolds_L11 a1 g v3 I → Gd MX1_testHolds (am_o 2 0 0 (am_FiI J Q (s_X1_testHolds_L11 a1 g v3 I))) 0 0 92 11 [some (.ref 38), some (.int a1), some (.ref 5), some (.int v3), none] [] I J Q := (gl_X1_testHolds_L11 a1 f J Q hG g)
set_option maxRecDepth 100000 in
set_option maxHeartbeats 4000000 in
theorem gt_X1_testHolds (f : Nat) (I : am_I) (J : am_J) (Q : am_Q) (hG : Gr Q) (a1 : Int32) (hp : p_X1_testHolds f I a1) : Gd MX1_testHolds (am_o 2 0 0 (am_FiI J Q (s_X1_testHolds f I a1))) 0 0 92 0 [some (.ref 38), some (.int a1), some (.ref 5), none, none] [] I J Q := by
  unfold s_X1_testHolds
  unfold p_X1_testHolds at hp
  refine gd_aload_n (q := 1) rfl rfl rfl ?_
  refine gd_iconst (v := 0) (q := 2) rfl rfl rfl ?_
  refine gd_putI (q := 5) rfl rfl rfl (Nat.le_of_ble_eq_true rfl) rfl rfl rfl (Or.inl rfl) ?_
  refine gd_aload_n (q := 6) rfl rfl rfl ?_
  refine gd_iload_n (q := 7) rfl rfl rfl ?_
  refine gd_cVi (q := 10) rfl rfl lk1_49 myX1_firstCell vxX1_firstCell (ct_X1_firstCell f _ _ _ hG _ hp.1) rfl (Nat.le_of_ble_eq_true rfl) rfl rfl (Nat.le_of_ble_eq_true rfl) rfl (Nat.le_of_ble_eq_true rfl) ⟨(Nat.le_of_ble_eq_true rfl), (Nat.le_of_ble_eq_true rfl)⟩ ?_
  replace hp := hp.2
  refine gd_istore_n (q := 11) rfl rfl (Nat.le_of_ble_eq_true rfl) rfl ?_
  exact gl_X1_testHolds_11 a1 f J Q hG f _ _ hp
theorem ct_X1_testHolds (f : Nat) (I : am_I) (J : am_J) (Q : am_Q) (hG : Gr Q) (a1 : Int32) (hp : p_X1_testHolds f I a1) : Cm MX1_testHolds 2 0 0 92 [.ref 38, .int a1, .ref 5] I J Q (am_FiI J Q (s_X1_testHolds f I a1)) := cm_of (by decide) rfl IX1_testHolds_ok (Nat.le_of_ble_eq_true rfl) (gt_X1_testHolds f I J Q hG a1 hp)
