def s_X9_isBelow  (a0 : Int32) (a1 : Int32) : Int32 := (if a0 < 0 then 0 else (if a1 ≤ a0 then 0 else 1))
theorem z_X9_isBelow  (a0 : Int32) (a1 : Int32) : (s_X9_isBelow a0 a1) = 0 ∨ (s_X9_isBelow a0 a1) = 1 := by
  unfold s_X9_isBelow
  repeat' split
  all_goals first | exact Or.inl rfl | exact Or.inr rfl
set_option maxRecDepth 100000 in
set_option maxHeartbeats 4000000 in
theorem gt_X9_isBelow (f : Nat) (I : am_I) (J : am_J) (Q : am_Q) (hG : Gr Q) (a0 : Int32) (a1 : Int32) : Gd MX9_isBelow (am_o 0 0 0 (am_Fi I J Q (s_X9_isBelow a0 a1))) 0 0 92 0 [some (.int a0), some (.int a1)] [] I J Q := by
  unfold s_X9_isBelow
  refine gd_iload_n (q := 1) rfl rfl rfl ?_
  refine gy_if_lt (q := 4) (r := 13) rfl rfl rfl (fun c_1 => ?_) (fun c_1 => ?_)
  · refine gd_iconst (v := 0) (q := 14) rfl rfl rfl ?_
    exact gd_ireturn rfl rfl rfl (Nat.le_refl 0) (Nat.le_refl 0) rfl
  · refine gd_iload_n (q := 5) rfl rfl rfl ?_
    refine gd_iload_n (q := 6) rfl rfl rfl ?_
    refine gy_icmp_ge (q := 9) (r := 13) rfl rfl rfl (fun c_6 => ?_) (fun c_6 => ?_)
    · refine gd_iconst (v := 0) (q := 14) rfl rfl rfl ?_
      exact gd_ireturn rfl rfl rfl (Nat.le_refl 0) (Nat.le_refl 0) rfl
    · refine gd_iconst (v := 1) (q := 10) rfl rfl rfl ?_
      refine gd_goto (q := 14) rfl rfl ?_
      exact gd_ireturn rfl rfl rfl (Nat.le_refl 0) (Nat.le_refl 0) rfl
theorem ct_X9_isBelow (f : Nat) (I : am_I) (J : am_J) (Q : am_Q) (hG : Gr Q) (a0 : Int32) (a1 : Int32) : Cm MX9_isBelow 0 0 0 92 [.int a0, .int a1] I J Q (am_Fi I J Q (s_X9_isBelow a0 a1)) := cm_of (by decide) rfl IX9_isBelow_ok (Nat.le_of_ble_eq_true rfl) (gt_X9_isBelow f I J Q hG a0 a1)
def s_X0_has (I : am_I) (a1 : Int32) : Int32 := (s_X9_isBelow a1 (I 26 2))
theorem z_X0_has (I : am_I) (a1 : Int32) : (s_X0_has I a1) = 0 ∨ (s_X0_has I a1) = 1 := by
  unfold s_X0_has
  repeat' split
  all_goals first | exact Or.inl rfl | exact Or.inr rfl | exact z_X9_isBelow _ _
set_option maxRecDepth 100000 in
set_option maxHeartbeats 4000000 in
theorem gt_X0_has (f : Nat) (I : am_I) (J : am_J) (Q : am_Q) (hG : Gr Q) (a1 : Int32) : Gd MX0_has (am_o 1 0 0 (am_Fi I J Q (s_X0_has I a1))) 0 0 92 0 [some (.ref 26), some (.int a1)] [] I J Q := by
  unfold s_X0_has
  refine gd_iload_n (q := 1) rfl rfl rfl ?_
  refine gd_aload_n (q := 2) rfl rfl rfl ?_
  refine gd_getI (q := 5) rfl rfl rfl (Nat.le_of_ble_eq_true rfl) rfl rfl ?_
  refine gd_cSi (q := 8) rfl rfl lk0_23 myX9_isBelow sxX9_isBelow (ct_X9_isBelow f I J Q hG a1 (I 26 2)) rfl rfl (Nat.le_of_ble_eq_true rfl) ⟨(Nat.le_of_ble_eq_true rfl), (Nat.le_of_ble_eq_true rfl)⟩ ?_
  exact gd_ireturn rfl rfl (am_zn (z_X9_isBelow a1 (I 26 2))) (Nat.le_refl 0) (Nat.le_refl 0) rfl
theorem ct_X0_has (f : Nat) (I : am_I) (J : am_J) (Q : am_Q) (hG : Gr Q) (a1 : Int32) : Cm MX0_has 1 0 0 92 [.ref 26, .int a1] I J Q (am_Fi I J Q (s_X0_has I a1)) := cm_of (by decide) rfl IX0_has_ok (Nat.le_of_ble_eq_true rfl) (gt_X0_has f I J Q hG a1)
def s_X0_add (I : am_I) (a1 : Int32) : Int32 × am_I := (if (I 26 2) < 6 then ((((I 26 2) + 1) - 1), (am_w (am_w I 27 (I 26 2).toNatClampNeg a1) 26 2 ((I 26 2) + 1))) else ((-1), I))
def p_X0_add (I : am_I) (a1 : Int32) : Prop := (if (I 26 2) < 6 then vp_in (I 26 2) 6 else True)
set_option maxRecDepth 100000 in
set_option maxHeartbeats 4000000 in
theorem gt_X0_add (f : Nat) (I : am_I) (J : am_J) (Q : am_Q) (hG : Gr Q) (a1 : Int32) (hp : p_X0_add I a1) : Gd MX0_add (am_o 0 0 0 (am_FiI J Q (s_X0_add I a1))) 0 0 92 0 [some (.ref 26), some (.int a1)] [] I J Q := by
  unfold s_X0_add
  unfold p_X0_add at hp
  refine gd_aload_n (q := 1) rfl rfl rfl ?_
  refine gd_getI (q := 4) rfl rfl rfl (Nat.le_of_ble_eq_true rfl) rfl rfl ?_
  refine gd_bipush (v := 6) (q := 6) rfl rfl rfl ?_
  refine gx_icmp_lt (q := 9) (r := 11) rfl rfl rfl hp (fun c_6 hp => ?_) (fun c_6 hp => ?_)
  · refine gd_aload_n (q := 12) rfl rfl rfl ?_
    refine gd_getR (q := 15) (r := 27) rfl rfl rfl (Nat.le_of_ble_eq_true rfl) rfl rfl (gr_26_0 hG) ?_
    refine gd_aload_n (q := 16) rfl rfl rfl ?_
    refine gd_getI (q := 19) rfl rfl rfl (Nat.le_of_ble_eq_true rfl) rfl rfl ?_
    refine gd_iload_n (q := 20) rfl rfl rfl ?_
    refine gd_iast (q := 21) rfl rfl (Nat.le_of_ble_eq_true rfl) rfl hp ?_
    refine gd_aload_n (q := 22) rfl rfl rfl ?_
    refine gd_dup (q := 23) rfl rfl rfl ?_
    refine gd_getI (q := 26) rfl rfl rfl (Nat.le_of_ble_eq_true rfl) rfl rfl ?_
    refine gd_iconst (v := 1) (q := 27) rfl rfl rfl ?_
    refine gd_iadd (q := 28) rfl rfl ?_
    refine gd_putI (q := 31) rfl rfl rfl (Nat.le_of_ble_eq_true rfl) rfl rfl rfl (Or.inl rfl) ?_
    refine gd_aload_n (q := 32) rfl rfl rfl ?_
    refine gd_getI (q := 35) rfl rfl rfl (Nat.le_of_ble_eq_true rfl) rfl rfl ?_
    refine gd_iconst (v := 1) (q := 36) rfl rfl rfl ?_
    refine gd_isub (q := 37) rfl rfl ?_
    exact gd_ireturn rfl rfl rfl (Nat.le_refl 0) (Nat.le_refl 0) rfl
  · refine gd_iconst (v := (-1)) (q := 10) rfl rfl rfl ?_
    exact gd_ireturn rfl rfl rfl (Nat.le_refl 0) (Nat.le_refl 0) rfl
theorem ct_X0_add (f : Nat) (I : am_I) (J : am_J) (Q : am_Q) (hG : Gr Q) (a1 : Int32) (hp : p_X0_add I a1) : Cm MX0_add 0 0 0 92 [.ref 26, .int a1] I J Q (am_FiI J Q (s_X0_add I a1)) := cm_of (by decide) rfl IX0_add_ok (Nat.le_of_ble_eq_true rfl) (gt_X0_add f I J Q hG a1 hp)
def s_X0_wayOf (I : am_I) (a1 : Int32) (a2 : Int32) : Int32 := (if (s_X0_has I a1) = 0 then 0 else (if (s_X9_isBelow a2 30) = 0 then 0 else (I 28 ((a1 * 30) + a2).toNatClampNeg)))
def p_X0_wayOf (I : am_I) (a1 : Int32) (a2 : Int32) : Prop := (if (s_X0_has I a1) = 0 then True else (if (s_X9_isBelow a2 30) = 0 then True else vp_in ((a1 * 30) + a2) 180))
set_option maxRecDepth 100000 in
set_option maxHeartbeats 4000000 in
theorem gt_X0_wayOf (f : Nat) (I : am_I) (J : am_J) (Q : am_Q) (hG : Gr Q) (a1 : Int32) (a2 : Int32) (hp : p_X0_wayOf I a1 a2) : Gd MX0_wayOf (am_o 2 0 0 (am_Fi I J Q (s_X0_wayOf I a1 a2))) 0 0 92 0 [some (.ref 26), some (.int a1), some (.int a2)] [] I J Q := by
  unfold s_X0_wayOf
  unfold p_X0_wayOf at hp
  refine gd_aload_n (q := 1) rfl rfl rfl ?_
  refine gd_iload_n (q := 2) rfl rfl rfl ?_
  refine gd_cVi (q := 5) rfl rfl lk0_27 myX0_has vxX0_has (ct_X0_has f I J Q hG a1) rfl (Nat.le_of_ble_eq_true rfl) rfl rfl (Nat.le_of_ble_eq_true rfl) rfl (Nat.le_of_ble_eq_true rfl) ⟨(Nat.le_of_ble_eq_true rfl), (Nat.le_of_ble_eq_true rfl)⟩ ?_
  refine gx_if_eq (q := 8) (r := 31) rfl rfl rfl hp (fun c_5 hp => ?_) (fun c_5 hp => ?_)
  · refine gd_iconst (v := 0) (q := 32) rfl rfl rfl ?_
    exact gd_ireturn rfl rfl rfl (Nat.le_refl 0) (Nat.le_refl 0) rfl
  · refine gd_iload_n (q := 9) rfl rfl rfl ?_
    refine gd_bipush (v := 30) (q := 11) rfl rfl rfl ?_
    refine gd_cSi (q := 14) rfl rfl lk0_23 myX9_isBelow sxX9_isBelow (ct_X9_isBelow f I J Q hG a2 30) rfl rfl (Nat.le_of_ble_eq_true rfl) ⟨(Nat.le_of_ble_eq_true rfl), (Nat.le_of_ble_eq_true rfl)⟩ ?_
    refine gx_if_eq (q := 17) (r := 31) rfl rfl rfl hp (fun c_14 hp => ?_) (fun c_14 hp => ?_)
    · refine gd_iconst (v := 0) (q := 32) rfl rfl rfl ?_
      exact gd_ireturn rfl rfl rfl (Nat.le_refl 0) (Nat.le_refl 0) rfl
    · refine gd_aload_n (q := 18) rfl rfl rfl ?_
      refine gd_getR (q := 21) (r := 28) rfl rfl rfl (Nat.le_of_ble_eq_true rfl) rfl rfl (gr_26_1 hG) ?_
      refine gd_iload_n (q := 22) rfl rfl rfl ?_
      refine gd_bipush (v := 30) (q := 24) rfl rfl rfl ?_
      refine gd_imul (q := 25) rfl rfl ?_
      refine gd_iload_n (q := 26) rfl rfl rfl ?_
      refine gd_iadd (q := 27) rfl rfl ?_
      refine gd_bald (q := 28) rfl rfl (Nat.le_of_ble_eq_true rfl) rfl hp ?_
      refine gd_goto (q := 32) rfl rfl ?_
      exact gd_ireturn rfl rfl rfl (Nat.le_refl 0) (Nat.le_refl 0) rfl
theorem ct_X0_wayOf (f : Nat) (I : am_I) (J : am_J) (Q : am_Q) (hG : Gr Q) (a1 : Int32) (a2 : Int32) (hp : p_X0_wayOf I a1 a2) : Cm MX0_wayOf 2 0 0 92 [.ref 26, .int a1, .int a2] I J Q (am_Fi I J Q (s_X0_wayOf I a1 a2)) := cm_of (by decide) rfl IX0_wayOf_ok (Nat.le_of_ble_eq_true rfl) (gt_X0_wayOf f I J Q hG a1 a2 hp)
def s_X0_hear (I : am_I) (a1 : Int32) (a2 : Int32) (a3 : Int32) : am_I := (if (s_X0_has I a1) = 0 then I else (if (s_X9_isBelow a2 30) = 0 then I else (if (s_X0_wayOf I a1 a2) = 2 then I else (am_w I 28 ((a1 * 30) + a2).toNatClampNeg (vp_nar .byte (a3.toInt8.toInt32))))))
def p_X0_hear (I : am_I) (a1 : Int32) (a2 : Int32) (a3 : Int32) : Prop := (if (s_X0_has I a1) = 0 then True else (if (s_X9_isBelow a2 30) = 0 then True else ((p_X0_wayOf I a1 a2) ∧ (if (s_X0_wayOf I a1 a2) = 2 then True else vp_in ((a1 * 30) + a2) 180))))
set_option maxRecDepth 100000 in
set_option maxHeartbeats 4000000 in
theorem gt_X0_hear (f : Nat) (I : am_I) (J : am_J) (Q : am_Q) (hG : Gr Q) (a1 : Int32) (a2 : Int32) (a3 : Int32) (hp : p_X0_hear I a1 a2 a3) : Gd MX0_hear (am_o 3 0 0 (am_FvI J Q (s_X0_hear I a1 a2 a3))) 0 0 92 0 [some (.ref 26), some (.int a1), some (.int a2), some (.int a3), none] [] I J Q := by
  unfold s_X0_hear
  unfold p_X0_hear at hp
  refine gd_aload_n (q := 1) rfl rfl rfl ?_
  refine gd_iload_n (q := 2) rfl rfl rfl ?_
  refine gd_cVi (q := 5) rfl rfl lk0_27 myX0_has vxX0_has (ct_X0_has f I J Q hG a1) rfl (Nat.le_of_ble_eq_true rfl) rfl rfl (Nat.le_of_ble_eq_true rfl) rfl (Nat.le_of_ble_eq_true rfl) ⟨(Nat.le_of_ble_eq_true rfl), (Nat.le_of_ble_eq_true rfl)⟩ ?_
  refine gx_if_eq (q := 8) (r := 21) rfl rfl rfl hp (fun c_5 hp => ?_) (fun c_5 hp => ?_)
  · refine gd_iconst (v := 0) (q := 22) rfl rfl rfl ?_
    refine gd_istore (q := 24) rfl rfl (Nat.le_of_ble_eq_true rfl) rfl ?_
    refine gd_iload (q := 26) rfl rfl rfl ?_
    refine gd_if_eq (q := 29) (r := 52) rfl rfl rfl (fun _ => ?_) (fun c => absurd c (by decide))
    exact gd_return rfl rfl (Nat.le_refl 0) (Nat.le_refl 0) rfl
  · refine gd_iload_n (q := 9) rfl rfl rfl ?_
    refine gd_bipush (v := 30) (q := 11) rfl rfl rfl ?_
    refine gd_cSi (q := 14) rfl rfl lk0_23 myX9_isBelow sxX9_isBelow (ct_X9_isBelow f I J Q hG a2 30) rfl rfl (Nat.le_of_ble_eq_true rfl) ⟨(Nat.le_of_ble_eq_true rfl), (Nat.le_of_ble_eq_true rfl)⟩ ?_
    refine gx_if_eq (q := 17) (r := 21) rfl rfl rfl hp (fun c_14 hp => ?_) (fun c_14 hp => ?_)
    · refine gd_iconst (v := 0) (q := 22) rfl rfl rfl ?_
      refine gd_istore (q := 24) rfl rfl (Nat.le_of_ble_eq_true rfl) rfl ?_
      refine gd_iload (q := 26) rfl rfl rfl ?_
      refine gd_if_eq (q := 29) (r := 52) rfl rfl rfl (fun _ => ?_) (fun c => absurd c (by decide))
      exact gd_return rfl rfl (Nat.le_refl 0) (Nat.le_refl 0) rfl
    · refine gd_iconst (v := 1) (q := 18) rfl rfl rfl ?_
      refine gd_goto (q := 22) rfl rfl ?_
      refine gd_istore (q := 24) rfl rfl (Nat.le_of_ble_eq_true rfl) rfl ?_
      refine gd_iload (q := 26) rfl rfl rfl ?_
      refine gd_if_eq (q := 29) (r := 52) rfl rfl rfl (fun c => absurd c (by decide)) (fun _ => ?_)
      refine gd_aload_n (q := 30) rfl rfl rfl ?_
      refine gd_iload_n (q := 31) rfl rfl rfl ?_
      refine gd_iload_n (q := 32) rfl rfl rfl ?_
      refine gd_cVi (q := 35) rfl rfl lk0_31 myX0_wayOf vxX0_wayOf (ct_X0_wayOf f I J Q hG a1 a2 hp.1) rfl (Nat.le_of_ble_eq_true rfl) rfl rfl (Nat.le_of_ble_eq_true rfl) rfl (Nat.le_of_ble_eq_true rfl) ⟨(Nat.le_of_ble_eq_true rfl), (Nat.le_of_ble_eq_true rfl)⟩ ?_
      replace hp := hp.2
      refine gd_iconst (v := 2) (q := 36) rfl rfl rfl ?_
      refine gx_icmp_eq (q := 39) (r := 52) rfl rfl rfl hp (fun c_36 hp => ?_) (fun c_36 hp => ?_)
      · exact gd_return rfl rfl (Nat.le_refl 0) (Nat.le_refl 0) rfl
      · refine gd_aload_n (q := 40) rfl rfl rfl ?_
        refine gd_getR (q := 43) (r := 28) rfl rfl rfl (Nat.le_of_ble_eq_true rfl) rfl rfl (gr_26_1 hG) ?_
        refine gd_iload_n (q := 44) rfl rfl rfl ?_
        refine gd_bipush (v := 30) (q := 46) rfl rfl rfl ?_
        refine gd_imul (q := 47) rfl rfl ?_
        refine gd_iload_n (q := 48) rfl rfl rfl ?_
        refine gd_iadd (q := 49) rfl rfl ?_
        refine gd_iload_n (q := 50) rfl rfl rfl ?_
        refine gd_i2b (q := 51) rfl rfl ?_
        refine gd_bast (q := 52) rfl rfl (Nat.le_of_ble_eq_true rfl) rfl hp ?_
        exact gd_return rfl rfl (Nat.le_refl 0) (Nat.le_refl 0) rfl
theorem ct_X0_hear (f : Nat) (I : am_I) (J : am_J) (Q : am_Q) (hG : Gr Q) (a1 : Int32) (a2 : Int32) (a3 : Int32) (hp : p_X0_hear I a1 a2 a3) : Cm MX0_hear 3 0 0 92 [.ref 26, .int a1, .int a2, .int a3] I J Q (am_FvI J Q (s_X0_hear I a1 a2 a3)) := cm_of (by decide) rfl IX0_hear_ok (Nat.le_of_ble_eq_true rfl) (gt_X0_hear f I J Q hG a1 a2 a3 hp)
def s_X9_bound (I : am_I) (a1 : Int32) : Int32 × am_I := (if a1 < 1 then (0, I) else (if 12 < a1 then (0, I) else (1, (am_w I 0 10 a1))))
theorem z_X9_bound (I : am_I) (a1 : Int32) : (s_X9_bound I a1).1 = 0 ∨ (s_X9_bound I a1).1 = 1 := by
  unfold s_X9_bound
  repeat' split
  all_goals first | exact Or.inl rfl | exact Or.inr rfl
set_option maxRecDepth 100000 in
set_option maxHeartbeats 4000000 in
theorem gt_X9_bound (f : Nat) (I : am_I) (J : am_J) (Q : am_Q) (hG : Gr Q) (a1 : Int32) : Gd MX9_bound (am_o 0 0 0 (am_FiI J Q (s_X9_bound I a1))) 0 0 92 0 [some (.ref 0), some (.int a1), none] [] I J Q := by
  unfold s_X9_bound
  refine gd_iload_n (q := 1) rfl rfl rfl ?_
  refine gd_iconst (v := 1) (q := 2) rfl rfl rfl ?_
  refine gy_icmp_lt (q := 5) (r := 15) rfl rfl rfl (fun c_2 => ?_) (fun c_2 => ?_)
  · refine gd_iconst (v := 0) (q := 16) rfl rfl rfl ?_
    refine gd_istore_n (q := 17) rfl rfl (Nat.le_of_ble_eq_true rfl) rfl ?_
    refine gd_iload_n (q := 18) rfl rfl rfl ?_
    refine gd_if_eq (q := 21) (r := 26) rfl rfl rfl (fun _ => ?_) (fun c => absurd c (by decide))
    refine gd_iload_n (q := 27) rfl rfl rfl ?_
    exact gd_ireturn rfl rfl rfl (Nat.le_refl 0) (Nat.le_refl 0) rfl
  · refine gd_iload_n (q := 6) rfl rfl rfl ?_
    refine gd_bipush (v := 12) (q := 8) rfl rfl rfl ?_
    refine gy_icmp_gt (q := 11) (r := 15) rfl rfl rfl (fun c_8 => ?_) (fun c_8 => ?_)
    · refine gd_iconst (v := 0) (q := 16) rfl rfl rfl ?_
      refine gd_istore_n (q := 17) rfl rfl (Nat.le_of_ble_eq_true rfl) rfl ?_
      refine gd_iload_n (q := 18) rfl rfl rfl ?_
      refine gd_if_eq (q := 21) (r := 26) rfl rfl rfl (fun _ => ?_) (fun c => absurd c (by decide))
      refine gd_iload_n (q := 27) rfl rfl rfl ?_
      exact gd_ireturn rfl rfl rfl (Nat.le_refl 0) (Nat.le_refl 0) rfl
    · refine gd_iconst (v := 1) (q := 12) rfl rfl rfl ?_
      refine gd_goto (q := 16) rfl rfl ?_
      refine gd_istore_n (q := 17) rfl rfl (Nat.le_of_ble_eq_true rfl) rfl ?_
      refine gd_iload_n (q := 18) rfl rfl rfl ?_
      refine gd_if_eq (q := 21) (r := 26) rfl rfl rfl (fun c => absurd c (by decide)) (fun _ => ?_)
      refine gd_aload_n (q := 22) rfl rfl rfl ?_
      refine gd_iload_n (q := 23) rfl rfl rfl ?_
      refine gd_putI (q := 26) rfl rfl rfl (Nat.le_of_ble_eq_true rfl) rfl rfl rfl (Or.inl rfl) ?_
      refine gd_iload_n (q := 27) rfl rfl rfl ?_
      exact gd_ireturn rfl rfl rfl (Nat.le_refl 0) (Nat.le_refl 0) rfl
theorem ct_X9_bound (f : Nat) (I : am_I) (J : am_J) (Q : am_Q) (hG : Gr Q) (a1 : Int32) : Cm MX9_bound 0 0 0 92 [.ref 0, .int a1] I J Q (am_FiI J Q (s_X9_bound I a1)) := cm_of (by decide) rfl IX9_bound_ok (Nat.le_of_ble_eq_true rfl) (gt_X9_bound f I J Q hG a1)
def s_X8_has (I : am_I) (a1 : Int32) : Int32 := (s_X9_isBelow a1 (I 9 3))
theorem z_X8_has (I : am_I) (a1 : Int32) : (s_X8_has I a1) = 0 ∨ (s_X8_has I a1) = 1 := by
  unfold s_X8_has
  repeat' split
  all_goals first | exact Or.inl rfl | exact Or.inr rfl | exact z_X9_isBelow _ _
set_option maxRecDepth 100000 in
set_option maxHeartbeats 4000000 in
theorem gt_X8_has (f : Nat) (I : am_I) (J : am_J) (Q : am_Q) (hG : Gr Q) (a1 : Int32) : Gd MX8_has (am_o 1 0 0 (am_Fi I J Q (s_X8_has I a1))) 0 0 92 0 [some (.ref 9), some (.int a1)] [] I J Q := by
  unfold s_X8_has
  refine gd_iload_n (q := 1) rfl rfl rfl ?_
  refine gd_aload_n (q := 2) rfl rfl rfl ?_
  refine gd_getI (q := 5) rfl rfl rfl (Nat.le_of_ble_eq_true rfl) rfl rfl ?_
  refine gd_cSi (q := 8) rfl rfl lk8_28 myX9_isBelow sxX9_isBelow (ct_X9_isBelow f I J Q hG a1 (I 9 3)) rfl rfl (Nat.le_of_ble_eq_true rfl) ⟨(Nat.le_of_ble_eq_true rfl), (Nat.le_of_ble_eq_true rfl)⟩ ?_
  exact gd_ireturn rfl rfl (am_zn (z_X9_isBelow a1 (I 9 3))) (Nat.le_refl 0) (Nat.le_refl 0) rfl
theorem ct_X8_has (f : Nat) (I : am_I) (J : am_J) (Q : am_Q) (hG : Gr Q) (a1 : Int32) : Cm MX8_has 1 0 0 92 [.ref 9, .int a1] I J Q (am_Fi I J Q (s_X8_has I a1)) := cm_of (by decide) rfl IX8_has_ok (Nat.le_of_ble_eq_true rfl) (gt_X8_has f I J Q hG a1)
def s_X8_setDeath (I : am_I) (a1 : Int32) (a2 : Int32) : Int32 × am_I := (if (s_X8_has I a1) = 0 then (0, I) else (if (I 11 a1.toNatClampNeg) = (-1) then (1, (am_w I 11 a1.toNatClampNeg a2)) else (0, I)))
def p_X8_setDeath (I : am_I) (a1 : Int32) (a2 : Int32) : Prop := (if (s_X8_has I a1) = 0 then True else (vp_in a1 12 ∧ (if (I 11 a1.toNatClampNeg) = (-1) then vp_in a1 12 else True)))
theorem z_X8_setDeath (I : am_I) (a1 : Int32) (a2 : Int32) : (s_X8_setDeath I a1 a2).1 = 0 ∨ (s_X8_setDeath I a1 a2).1 = 1 := by
  unfold s_X8_setDeath
  repeat' split
  all_goals first | exact Or.inl rfl | exact Or.inr rfl | exact z_X8_has _ _
set_option maxRecDepth 100000 in
set_option maxHeartbeats 4000000 in
theorem gt_X8_setDeath (f : Nat) (I : am_I) (J : am_J) (Q : am_Q) (hG : Gr Q) (a1 : Int32) (a2 : Int32) (hp : p_X8_setDeath I a1 a2) : Gd MX8_setDeath (am_o 2 0 0 (am_FiI J Q (s_X8_setDeath I a1 a2))) 0 0 92 0 [some (.ref 9), some (.int a1), some (.int a2)] [] I J Q := by
  unfold s_X8_setDeath
  unfold p_X8_setDeath at hp
  refine gd_aload_n (q := 1) rfl rfl rfl ?_
  refine gd_iload_n (q := 2) rfl rfl rfl ?_
  refine gd_cVi (q := 5) rfl rfl lk8_33 myX8_has vxX8_has (ct_X8_has f I J Q hG a1) rfl (Nat.le_of_ble_eq_true rfl) rfl rfl (Nat.le_of_ble_eq_true rfl) rfl (Nat.le_of_ble_eq_true rfl) ⟨(Nat.le_of_ble_eq_true rfl), (Nat.le_of_ble_eq_true rfl)⟩ ?_
  refine gx_if_eq (q := 8) (r := 18) rfl rfl rfl hp (fun c_5 hp => ?_) (fun c_5 hp => ?_)
  · refine gd_iconst (v := 0) (q := 19) rfl rfl rfl ?_
    exact gd_ireturn rfl rfl rfl (Nat.le_refl 0) (Nat.le_refl 0) rfl
  · refine gd_aload_n (q := 9) rfl rfl rfl ?_
    refine gd_getR (q := 12) (r := 11) rfl rfl rfl (Nat.le_of_ble_eq_true rfl) rfl rfl (gr_9_1 hG) ?_
    refine gd_iload_n (q := 13) rfl rfl rfl ?_
    refine gd_iald (q := 14) rfl rfl (Nat.le_of_ble_eq_true rfl) rfl hp.1 ?_
    replace hp := hp.2
    refine gd_iconst (v := (-1)) (q := 15) rfl rfl rfl ?_
    refine gx_icmp_eq (q := 18) (r := 20) rfl rfl rfl hp (fun c_15 hp => ?_) (fun c_15 hp => ?_)
    · refine gd_aload_n (q := 21) rfl rfl rfl ?_
      refine gd_getR (q := 24) (r := 11) rfl rfl rfl (Nat.le_of_ble_eq_true rfl) rfl rfl (gr_9_1 hG) ?_
      refine gd_iload_n (q := 25) rfl rfl rfl ?_
      refine gd_iload_n (q := 26) rfl rfl rfl ?_
      refine gd_iast (q := 27) rfl rfl (Nat.le_of_ble_eq_true rfl) rfl hp ?_
      refine gd_iconst (v := 1) (q := 28) rfl rfl rfl ?_
      exact gd_ireturn rfl rfl rfl (Nat.le_refl 0) (Nat.le_refl 0) rfl
    · refine gd_iconst (v := 0) (q := 19) rfl rfl rfl ?_
      exact gd_ireturn rfl rfl rfl (Nat.le_refl 0) (Nat.le_refl 0) rfl
theorem ct_X8_setDeath (f : Nat) (I : am_I) (J : am_J) (Q : am_Q) (hG : Gr Q) (a1 : Int32) (a2 : Int32) (hp : p_X8_setDeath I a1 a2) : Cm MX8_setDeath 2 0 0 92 [.ref 9, .int a1, .int a2] I J Q (am_FiI J Q (s_X8_setDeath I a1 a2)) := cm_of (by decide) rfl IX8_setDeath_ok (Nat.le_of_ble_eq_true rfl) (gt_X8_setDeath f I J Q hG a1 a2 hp)
def s_X6_signOf  (a0 : Int32) (a1 : Int32) : Int32 := (if a0 = 33 then (if a1 = 0 then 27 else 21) else (if a0 = 40 then 24 else (if a0 = 41 then 25 else (if a0 = 42 then 19 else (if a0 = 43 then 17 else (if a0 = 45 then 18 else (if a0 = 59 then 16 else (if a0 = 60 then (if a1 = 0 then 22 else 23) else (if a0 = 61 then (if a1 = 0 then 27 else 20) else 27)))))))))
theorem am_swX6_signOf_1 {x : Int32} (h0 : ¬ x = 33) (h1 : ¬ x = 40) (h2 : ¬ x = 41) (h3 : ¬ x = 42) (h4 : ¬ x = 43) (h5 : ¬ x = 45) (h6 : ¬ x = 59) (h7 : ¬ x = 60) (h8 : ¬ x = 61) : (x.toInt < 33 ∨ 61 < x.toInt) ∨ (¬ x.toInt < 33 ∧ ¬ 61 < x.toInt ∧ (#[161, 185, 185, 185, 185, 185, 185, 143, 146, 140, 134, 185, 137, 185, 185, 185, 185, 185, 185, 185, 185, 185, 185, 185, 185, 185, 131, 173, 149] : Array Int)[(x.toInt - 33).toNat]? = some 185) := by
  by_cases hlo : x.toInt < 33
  · exact Or.inl (Or.inl hlo)
  by_cases hhi : 61 < x.toInt
  · exact Or.inl (Or.inr hhi)
  refine Or.inr ⟨hlo, hhi, ?_⟩
  have e0 := lv_neT (a := 33) h0 rfl
  have e1 := lv_neT (a := 40) h1 rfl
  have e2 := lv_neT (a := 41) h2 rfl
  have e3 := lv_neT (a := 42) h3 rfl
  have e4 := lv_neT (a := 43) h4 rfl
  have e5 := lv_neT (a := 45) h5 rfl
  have e6 := lv_neT (a := 59) h6 rfl
  have e7 := lv_neT (a := 60) h7 rfl
  have e8 := lv_neT (a := 61) h8 rfl
  rcases (show x.toInt = 34 ∨ x.toInt = 35 ∨ x.toInt = 36 ∨ x.toInt = 37 ∨ x.toInt = 38 ∨ x.toInt = 39 ∨ x.toInt = 44 ∨ x.toInt = 46 ∨ x.toInt = 47 ∨ x.toInt = 48 ∨ x.toInt = 49 ∨ x.toInt = 50 ∨ x.toInt = 51 ∨ x.toInt = 52 ∨ x.toInt = 53 ∨ x.toInt = 54 ∨ x.toInt = 55 ∨ x.toInt = 56 ∨ x.toInt = 57 ∨ x.toInt = 58 by omega) with h | h | h | h | h | h | h | h | h | h | h | h | h | h | h | h | h | h | h | h <;> (rw [h]; rfl)
set_option maxRecDepth 100000 in
set_option maxHeartbeats 4000000 in
theorem gt_X6_signOf (f : Nat) (I : am_I) (J : am_J) (Q : am_Q) (hG : Gr Q) (a0 : Int32) (a1 : Int32) : Gd MX6_signOf (am_o 0 0 0 (am_Fi I J Q (s_X6_signOf a0 a1))) 0 0 92 0 [some (.int a0), some (.int a1)] [] I J Q := by
  unfold s_X6_signOf
  refine gd_iload_n (q := 1) rfl rfl rfl ?_
  refine gy_ite (fun c_1_33 => ?_) (fun c_1_33 => ?_)
  · refine gd_tsIn (q := 162) rfl (by rw [c_1_33]; decide) (by rw [c_1_33]; decide) (by first | (rw [c_1_33]; done) | (rw [c_1_33]; rfl)) rfl ?_
    refine gd_iload_n (q := 163) rfl rfl rfl ?_
    refine gy_if_eq (q := 166) (r := 171) rfl rfl rfl (fun c_163 => ?_) (fun c_163 => ?_)
    · refine gd_bipush (v := 27) (q := 173) rfl rfl rfl ?_
      exact gd_ireturn rfl rfl rfl (Nat.le_refl 0) (Nat.le_refl 0) rfl
    · refine gd_bipush (v := 21) (q := 168) rfl rfl rfl ?_
      refine gd_goto (q := 173) rfl rfl ?_
      exact gd_ireturn rfl rfl rfl (Nat.le_refl 0) (Nat.le_refl 0) rfl
  · refine gy_ite (fun c_1_40 => ?_) (fun c_1_40 => ?_)
    · refine gd_tsIn (q := 144) rfl (by rw [c_1_40]; decide) (by rw [c_1_40]; decide) (by first | (rw [c_1_40]; done) | (rw [c_1_40]; rfl)) rfl ?_
      refine gd_bipush (v := 24) (q := 146) rfl rfl rfl ?_
      exact gd_ireturn rfl rfl rfl (Nat.le_refl 0) (Nat.le_refl 0) rfl
    · refine gy_ite (fun c_1_41 => ?_) (fun c_1_41 => ?_)
      · refine gd_tsIn (q := 147) rfl (by rw [c_1_41]; decide) (by rw [c_1_41]; decide) (by first | (rw [c_1_41]; done) | (rw [c_1_41]; rfl)) rfl ?_
        refine gd_bipush (v := 25) (q := 149) rfl rfl rfl ?_
        exact gd_ireturn rfl rfl rfl (Nat.le_refl 0) (Nat.le_refl 0) rfl
      · refine gy_ite (fun c_1_42 => ?_) (fun c_1_42 => ?_)
        · refine gd_tsIn (q := 141) rfl (by rw [c_1_42]; decide) (by rw [c_1_42]; decide) (by first | (rw [c_1_42]; done) | (rw [c_1_42]; rfl)) rfl ?_
          refine gd_bipush (v := 19) (q := 143) rfl rfl rfl ?_
          exact gd_ireturn rfl rfl rfl (Nat.le_refl 0) (Nat.le_refl 0) rfl
        · refine gy_ite (fun c_1_43 => ?_) (fun c_1_43 => ?_)
          · refine gd_tsIn (q := 135) rfl (by rw [c_1_43]; decide) (by rw [c_1_43]; decide) (by first | (rw [c_1_43]; done) | (rw [c_1_43]; rfl)) rfl ?_
            refine gd_bipush (v := 17) (q := 137) rfl rfl rfl ?_
            exact gd_ireturn rfl rfl rfl (Nat.le_refl 0) (Nat.le_refl 0) rfl
          · refine gy_ite (fun c_1_45 => ?_) (fun c_1_45 => ?_)
            · refine gd_tsIn (q := 138) rfl (by rw [c_1_45]; decide) (by rw [c_1_45]; decide) (by first | (rw [c_1_45]; done) | (rw [c_1_45]; rfl)) rfl ?_
              refine gd_bipush (v := 18) (q := 140) rfl rfl rfl ?_
              exact gd_ireturn rfl rfl rfl (Nat.le_refl 0) (Nat.le_refl 0) rfl
            · refine gy_ite (fun c_1_59 => ?_) (fun c_1_59 => ?_)
              · refine gd_tsIn (q := 132) rfl (by rw [c_1_59]; decide) (by rw [c_1_59]; decide) (by first | (rw [c_1_59]; done) | (rw [c_1_59]; rfl)) rfl ?_
                refine gd_bipush (v := 16) (q := 134) rfl rfl rfl ?_
                exact gd_ireturn rfl rfl rfl (Nat.le_refl 0) (Nat.le_refl 0) rfl
              · refine gy_ite (fun c_1_60 => ?_) (fun c_1_60 => ?_)
                · refine gd_tsIn (q := 174) rfl (by rw [c_1_60]; decide) (by rw [c_1_60]; decide) (by first | (rw [c_1_60]; done) | (rw [c_1_60]; rfl)) rfl ?_
                  refine gd_iload_n (q := 175) rfl rfl rfl ?_
                  refine gy_if_eq (q := 178) (r := 183) rfl rfl rfl (fun c_175 => ?_) (fun c_175 => ?_)
                  · refine gd_bipush (v := 22) (q := 185) rfl rfl rfl ?_
                    exact gd_ireturn rfl rfl rfl (Nat.le_refl 0) (Nat.le_refl 0) rfl
                  · refine gd_bipush (v := 23) (q := 180) rfl rfl rfl ?_
                    refine gd_goto (q := 185) rfl rfl ?_
                    exact gd_ireturn rfl rfl rfl (Nat.le_refl 0) (Nat.le_refl 0) rfl
                · refine gy_ite (fun c_1_61 => ?_) (fun c_1_61 => ?_)
                  · refine gd_tsIn (q := 150) rfl (by rw [c_1_61]; decide) (by rw [c_1_61]; decide) (by first | (rw [c_1_61]; done) | (rw [c_1_61]; rfl)) rfl ?_
                    refine gd_iload_n (q := 151) rfl rfl rfl ?_
                    refine gy_if_eq (q := 154) (r := 159) rfl rfl rfl (fun c_151 => ?_) (fun c_151 => ?_)
                    · refine gd_bipush (v := 27) (q := 161) rfl rfl rfl ?_
                      exact gd_ireturn rfl rfl rfl (Nat.le_refl 0) (Nat.le_refl 0) rfl
                    · refine gd_bipush (v := 20) (q := 156) rfl rfl rfl ?_
                      refine gd_goto (q := 161) rfl rfl ?_
                      exact gd_ireturn rfl rfl rfl (Nat.le_refl 0) (Nat.le_refl 0) rfl
                  · refine gd_tsAny (q := 186) rfl (am_swX6_signOf_1 c_1_33 c_1_40 c_1_41 c_1_42 c_1_43 c_1_45 c_1_59 c_1_60 c_1_61) rfl ?_
                    refine gd_bipush (v := 27) (q := 188) rfl rfl rfl ?_
                    exact gd_ireturn rfl rfl rfl (Nat.le_refl 0) (Nat.le_refl 0) rfl
theorem ct_X6_signOf (f : Nat) (I : am_I) (J : am_J) (Q : am_Q) (hG : Gr Q) (a0 : Int32) (a1 : Int32) : Cm MX6_signOf 0 0 0 92 [.int a0, .int a1] I J Q (am_Fi I J Q (s_X6_signOf a0 a1)) := cm_of (by decide) rfl IX6_signOf_ok (Nat.le_of_ble_eq_true rfl) (gt_X6_signOf f I J Q hG a0 a1)
def s_X6_drop (I : am_I) (a1 : Int32) : Int32 × am_I := (if a1 < 0 then ((-1), I) else (if a1 ≤ (I 1 1) then (((I 1 1) - a1), (am_w I 1 1 ((I 1 1) - a1))) else ((-1), I)))
set_option maxRecDepth 100000 in
set_option maxHeartbeats 4000000 in
theorem gt_X6_drop (f : Nat) (I : am_I) (J : am_J) (Q : am_Q) (hG : Gr Q) (a1 : Int32) : Gd MX6_drop (am_o 0 0 0 (am_FiI J Q (s_X6_drop I a1))) 0 0 92 0 [some (.ref 1), some (.int a1)] [] I J Q := by
  unfold s_X6_drop
  refine gd_iload_n (q := 1) rfl rfl rfl ?_
  refine gy_if_lt (q := 4) (r := 12) rfl rfl rfl (fun c_1 => ?_) (fun c_1 => ?_)
  · refine gd_iconst (v := (-1)) (q := 13) rfl rfl rfl ?_
    exact gd_ireturn rfl rfl rfl (Nat.le_refl 0) (Nat.le_refl 0) rfl
  · refine gd_iload_n (q := 5) rfl rfl rfl ?_
    refine gd_aload_n (q := 6) rfl rfl rfl ?_
    refine gd_getI (q := 9) rfl rfl rfl (Nat.le_of_ble_eq_true rfl) rfl rfl ?_
    refine gy_icmp_le (q := 12) (r := 14) rfl rfl rfl (fun c_9 => ?_) (fun c_9 => ?_)
    · refine gd_aload_n (q := 15) rfl rfl rfl ?_
      refine gd_dup (q := 16) rfl rfl rfl ?_
      refine gd_getI (q := 19) rfl rfl rfl (Nat.le_of_ble_eq_true rfl) rfl rfl ?_
      refine gd_iload_n (q := 20) rfl rfl rfl ?_
      refine gd_isub (q := 21) rfl rfl ?_
      refine gd_putI (q := 24) rfl rfl rfl (Nat.le_of_ble_eq_true rfl) rfl rfl rfl (Or.inl rfl) ?_
      refine gd_aload_n (q := 25) rfl rfl rfl ?_
      refine gd_getI (q := 28) rfl rfl rfl (Nat.le_of_ble_eq_true rfl) rfl rfl ?_
      exact gd_ireturn rfl rfl rfl (Nat.le_refl 0) (Nat.le_refl 0) rfl
    · refine gd_iconst (v := (-1)) (q := 13) rfl rfl rfl ?_
      exact gd_ireturn rfl rfl rfl (Nat.le_refl 0) (Nat.le_refl 0) rfl
theorem ct_X6_drop (f : Nat) (I : am_I) (J : am_J) (Q : am_Q) (hG : Gr Q) (a1 : Int32) : Cm MX6_drop 0 0 0 92 [.ref 1, .int a1] I J Q (am_FiI J Q (s_X6_drop I a1)) := cm_of (by decide) rfl IX6_drop_ok (Nat.le_of_ble_eq_true rfl) (gt_X6_drop f I J Q hG a1)
def s_X6_addFour_L (a1 : Int32)  : Nat → Int32 → am_I → am_I
  | 0, _, I => I
  | g + 1, v2, I => (if v2 < 0 then I else (if 2000 ≤ (I 1 1) then I else (s_X6_addFour_L a1 g (v2 + (-8)) (am_w (am_w I 2 (I 1 1).toNatClampNeg (vp_nar .byte ((a1 >>> (v2 &&& 31)).toInt8.toInt32))) 1 1 ((I 1 1) + 1)))))
def p_X6_addFour_L (a1 : Int32)  : Nat → Int32 → am_I → Prop
  | 0, _, _ => False
  | g + 1, v2, I => (if v2 < 0 then True else (if 2000 ≤ (I 1 1) then True else (vp_in (I 1 1) 2000 ∧ (p_X6_addFour_L a1 g (v2 + (-8)) (am_w (am_w I 2 (I 1 1).toNatClampNeg (vp_nar .byte ((a1 >>> (v2 &&& 31)).toInt8.toInt32))) 1 1 ((I 1 1) + 1))))))
def s_X6_addFour (f : Nat) (I : am_I) (a1 : Int32) : am_I := (s_X6_addFour_L a1 f 24 I)
def p_X6_addFour (f : Nat) (I : am_I) (a1 : Int32) : Prop := (p_X6_addFour_L a1 f 24 I)
set_option maxRecDepth 100000 in
set_option maxHeartbeats 4000000 in
theorem gl_X6_addFour (a1 : Int32) (f : Nat) (J : am_J) (Q : am_Q) (hG : Gr Q) : ∀ g : Nat, (∀ (v2 : Int32) (I : am_I), p_X6_addFour_L a1 g v2 I → Gd MX6_addFour (am_o 0 0 0 (am_FvI J Q (s_X6_addFour_L a1 g v2 I))) 0 0 92 3 [some (.ref 1), some (.int a1), some (.int v2)] [] I J Q) := by
  intro g
  induction g with
  | zero => exact fun _ _ hp => False.elim hp
  | succ g ih =>
    have ih_3 := ih
    intro v2 I hp
    rw [s_X6_addFour_L]
    rw [p_X6_addFour_L] at hp
    refine gd_iload_n (q := 4) rfl rfl rfl ?_
    refine gx_if_lt (q := 7) (r := 48) rfl rfl rfl hp (fun c_4 hp => ?_) (fun c_4 hp => ?_)
    · exact gd_return rfl rfl (Nat.le_refl 0) (Nat.le_refl 0) rfl
    · refine gd_aload_n (q := 8) rfl rfl rfl ?_
      refine gd_getI (q := 11) rfl rfl rfl (Nat.le_of_ble_eq_true rfl) rfl rfl ?_
      refine gd_aload_n (q := 12) rfl rfl rfl ?_
      refine gd_getR (q := 15) (r := 2) rfl rfl rfl (Nat.le_of_ble_eq_true rfl) rfl rfl (gr_1_0 hG) ?_
      refine gd_alen (v := 2000) (ty := .byte) (q := 16) rfl rfl (Nat.le_of_ble_eq_true rfl) rfl (fun _ => rfl) rfl ?_
      refine gx_icmp_ge (q := 19) (r := 48) rfl rfl rfl hp (fun c_16 hp => ?_) (fun c_16 hp => ?_)
      · exact gd_return rfl rfl (Nat.le_refl 0) (Nat.le_refl 0) rfl
      · refine gd_aload_n (q := 20) rfl rfl rfl ?_
        refine gd_getR (q := 23) (r := 2) rfl rfl rfl (Nat.le_of_ble_eq_true rfl) rfl rfl (gr_1_0 hG) ?_
        refine gd_aload_n (q := 24) rfl rfl rfl ?_
        refine gd_getI (q := 27) rfl rfl rfl (Nat.le_of_ble_eq_true rfl) rfl rfl ?_
        refine gd_iload_n (q := 28) rfl rfl rfl ?_
        refine gd_iload_n (q := 29) rfl rfl rfl ?_
        refine gd_ishr (q := 30) rfl rfl ?_
        refine gd_i2b (q := 31) rfl rfl ?_
        refine gd_bast (q := 32) rfl rfl (Nat.le_of_ble_eq_true rfl) rfl hp.1 ?_
        replace hp := hp.2
        refine gd_aload_n (q := 33) rfl rfl rfl ?_
        refine gd_dup (q := 34) rfl rfl rfl ?_
        refine gd_getI (q := 37) rfl rfl rfl (Nat.le_of_ble_eq_true rfl) rfl rfl ?_
        refine gd_iconst (v := 1) (q := 38) rfl rfl rfl ?_
        refine gd_iadd (q := 39) rfl rfl ?_
        refine gd_putI (q := 42) rfl rfl rfl (Nat.le_of_ble_eq_true rfl) rfl rfl rfl (Or.inl rfl) ?_
        refine gd_iinc (v := (v2 + (-8))) (q := 45) rfl rfl rfl rfl (Nat.le_of_ble_eq_true rfl) rfl ?_
        refine gd_goto (q := 3) rfl rfl ?_
        exact ih_3 (v2 + (-8)) (am_w (am_w I 2 (I 1 1).toNatClampNeg (vp_nar .byte ((a1 >>> (v2 &&& 31)).toInt8.toInt32))) 1 1 ((I 1 1) + 1)) hp
theorem gl_X6_addFour_3 (a1 : Int32) (f : Nat) (J : am_J) (Q : am_Q) (hG : Gr Q) (g : Nat) : ∀ (v2 : Int32) (I : am_I), p_X6_addFour_L a1 g v2 I → Gd MX6_addFour (am_o 0 0 0 (am_FvI J Q (s_X6_addFour_L a1 g v2 I))) 0 0 92 3 [some (.ref 1), some (.int a1), some (.int v2)] [] I J Q := (gl_X6_addFour a1 f J Q hG g)
set_option maxRecDepth 100000 in
set_option maxHeartbeats 4000000 in
theorem gt_X6_addFour (f : Nat) (I : am_I) (J : am_J) (Q : am_Q) (hG : Gr Q) (a1 : Int32) (hp : p_X6_addFour f I a1) : Gd MX6_addFour (am_o 0 0 0 (am_FvI J Q (s_X6_addFour f I a1))) 0 0 92 0 [some (.ref 1), some (.int a1), none] [] I J Q := by
  unfold s_X6_addFour
  unfold p_X6_addFour at hp
  refine gd_bipush (v := 24) (q := 2) rfl rfl rfl ?_
  refine gd_istore_n (q := 3) rfl rfl (Nat.le_of_ble_eq_true rfl) rfl ?_
  exact gl_X6_addFour_3 a1 f J Q hG f 24 I hp
theorem ct_X6_addFour (f : Nat) (I : am_I) (J : am_J) (Q : am_Q) (hG : Gr Q) (a1 : Int32) (hp : p_X6_addFour f I a1) : Cm MX6_addFour 0 0 0 92 [.ref 1, .int a1] I J Q (am_FvI J Q (s_X6_addFour f I a1)) := cm_of (by decide) rfl IX6_addFour_ok (Nat.le_of_ble_eq_true rfl) (gt_X6_addFour f I J Q hG a1 hp)
def s_X6_addTwenty (f : Nat) (I : am_I) (a1 : Int32) (a2 : Int32) (a3 : Int32) (a4 : Int32) (a5 : Int32) : Int32 × am_I := (if ((I 1 1) + 20) ≤ 2000 then (((s_X6_addFour f (s_X6_addFour f (s_X6_addFour f (s_X6_addFour f (s_X6_addFour f I a1) a2) a3) a4) a5) 1 1), (s_X6_addFour f (s_X6_addFour f (s_X6_addFour f (s_X6_addFour f (s_X6_addFour f I a1) a2) a3) a4) a5)) else ((-1), I))
def p_X6_addTwenty (f : Nat) (I : am_I) (a1 : Int32) (a2 : Int32) (a3 : Int32) (a4 : Int32) (a5 : Int32) : Prop := (if ((I 1 1) + 20) ≤ 2000 then ((p_X6_addFour f I a1) ∧ ((p_X6_addFour f (s_X6_addFour f I a1) a2) ∧ ((p_X6_addFour f (s_X6_addFour f (s_X6_addFour f I a1) a2) a3) ∧ ((p_X6_addFour f (s_X6_addFour f (s_X6_addFour f (s_X6_addFour f I a1) a2) a3) a4) ∧ (p_X6_addFour f (s_X6_addFour f (s_X6_addFour f (s_X6_addFour f (s_X6_addFour f I a1) a2) a3) a4) a5))))) else True)
set_option maxRecDepth 100000 in
set_option maxHeartbeats 4000000 in
theorem gt_X6_addTwenty (f : Nat) (I : am_I) (J : am_J) (Q : am_Q) (hG : Gr Q) (a1 : Int32) (a2 : Int32) (a3 : Int32) (a4 : Int32) (a5 : Int32) (hp : p_X6_addTwenty f I a1 a2 a3 a4 a5) : Gd MX6_addTwenty (am_o 1 0 0 (am_FiI J Q (s_X6_addTwenty f I a1 a2 a3 a4 a5))) 0 0 92 0 [some (.ref 1), some (.int a1), some (.int a2), some (.int a3), some (.int a4), some (.int a5)] [] I J Q := by
  unfold s_X6_addTwenty
  unfold p_X6_addTwenty at hp
  refine gd_aload_n (q := 1) rfl rfl rfl ?_
  refine gd_getI (q := 4) rfl rfl rfl (Nat.le_of_ble_eq_true rfl) rfl rfl ?_
  refine gd_bipush (v := 20) (q := 6) rfl rfl rfl ?_
  refine gd_iadd (q := 7) rfl rfl ?_
  refine gd_sipush (v := 2000) (q := 10) rfl rfl rfl ?_
  refine gx_icmp_le (q := 13) (r := 15) rfl rfl rfl hp (fun c_10 hp => ?_) (fun c_10 hp => ?_)
  · refine gd_aload_n (q := 16) rfl rfl rfl ?_
    refine gd_iload_n (q := 17) rfl rfl rfl ?_
    refine gd_cVv (q := 20) rfl rfl lk6_19 myX6_addFour vxX6_addFour (ct_X6_addFour f I J Q hG a1 hp.1) rfl (Nat.le_of_ble_eq_true rfl) rfl rfl (Nat.le_of_ble_eq_true rfl) rfl (Nat.le_of_ble_eq_true rfl) ⟨(Nat.le_of_ble_eq_true rfl), (Nat.le_of_ble_eq_true rfl)⟩ ?_
    replace hp := hp.2
    refine gd_aload_n (q := 21) rfl rfl rfl ?_
    refine gd_iload_n (q := 22) rfl rfl rfl ?_
    refine gd_cVv (q := 25) rfl rfl lk6_19 myX6_addFour vxX6_addFour (ct_X6_addFour f (s_X6_addFour f I a1) J Q hG a2 hp.1) rfl (Nat.le_of_ble_eq_true rfl) rfl rfl (Nat.le_of_ble_eq_true rfl) rfl (Nat.le_of_ble_eq_true rfl) ⟨(Nat.le_of_ble_eq_true rfl), (Nat.le_of_ble_eq_true rfl)⟩ ?_
    replace hp := hp.2
    refine gd_aload_n (q := 26) rfl rfl rfl ?_
    refine gd_iload_n (q := 27) rfl rfl rfl ?_
    refine gd_cVv (q := 30) rfl rfl lk6_19 myX6_addFour vxX6_addFour (ct_X6_addFour f (s_X6_addFour f (s_X6_addFour f I a1) a2) J Q hG a3 hp.1) rfl (Nat.le_of_ble_eq_true rfl) rfl rfl (Nat.le_of_ble_eq_true rfl) rfl (Nat.le_of_ble_eq_true rfl) ⟨(Nat.le_of_ble_eq_true rfl), (Nat.le_of_ble_eq_true rfl)⟩ ?_
    replace hp := hp.2
    refine gd_aload_n (q := 31) rfl rfl rfl ?_
    refine gd_iload (q := 33) rfl rfl rfl ?_
    refine gd_cVv (q := 36) rfl rfl lk6_19 myX6_addFour vxX6_addFour (ct_X6_addFour f (s_X6_addFour f (s_X6_addFour f (s_X6_addFour f I a1) a2) a3) J Q hG a4 hp.1) rfl (Nat.le_of_ble_eq_true rfl) rfl rfl (Nat.le_of_ble_eq_true rfl) rfl (Nat.le_of_ble_eq_true rfl) ⟨(Nat.le_of_ble_eq_true rfl), (Nat.le_of_ble_eq_true rfl)⟩ ?_
    replace hp := hp.2
    refine gd_aload_n (q := 37) rfl rfl rfl ?_
    refine gd_iload (q := 39) rfl rfl rfl ?_
    refine gd_cVv (q := 42) rfl rfl lk6_19 myX6_addFour vxX6_addFour (ct_X6_addFour f (s_X6_addFour f (s_X6_addFour f (s_X6_addFour f (s_X6_addFour f I a1) a2) a3) a4) J Q hG a5 hp) rfl (Nat.le_of_ble_eq_true rfl) rfl rfl (Nat.le_of_ble_eq_true rfl) rfl (Nat.le_of_ble_eq_true rfl) ⟨(Nat.le_of_ble_eq_true rfl), (Nat.le_of_ble_eq_true rfl)⟩ ?_
    refine gd_aload_n (q := 43) rfl rfl rfl ?_
    refine gd_getI (q := 46) rfl rfl rfl (Nat.le_of_ble_eq_true rfl) rfl rfl ?_
    exact gd_ireturn rfl rfl rfl (Nat.le_refl 0) (Nat.le_refl 0) rfl
  · refine gd_iconst (v := (-1)) (q := 14) rfl rfl rfl ?_
    exact gd_ireturn rfl rfl rfl (Nat.le_refl 0) (Nat.le_refl 0) rfl
theorem ct_X6_addTwenty (f : Nat) (I : am_I) (J : am_J) (Q : am_Q) (hG : Gr Q) (a1 : Int32) (a2 : Int32) (a3 : Int32) (a4 : Int32) (a5 : Int32) (hp : p_X6_addTwenty f I a1 a2 a3 a4 a5) : Cm MX6_addTwenty 1 0 0 92 [.ref 1, .int a1, .int a2, .int a3, .int a4, .int a5] I J Q (am_FiI J Q (s_X6_addTwenty f I a1 a2 a3 a4 a5)) := cm_of (by decide) rfl IX6_addTwenty_ok (Nat.le_of_ble_eq_true rfl) (gt_X6_addTwenty f I J Q hG a1 a2 a3 a4 a5 hp)
def s_X4_isFree_L (a1 : Int32) (a2 : Int32) (a3 : Int32) (I : am_I) : Nat → Int32 → Int32
  | 0, _ => 0
  | g + 1, v4 => (if (I 15 11) ≤ v4 then 1 else (if (I 19 v4.toNatClampNeg) = a1 then (if (I 21 v4.toNatClampNeg) ≤ a2 then (s_X4_isFree_L a1 a2 a3 I g (v4 + 1)) else (if a3 ≤ (I 20 v4.toNatClampNeg) then (s_X4_isFree_L a1 a2 a3 I g (v4 + 1)) else 0)) else (s_X4_isFree_L a1 a2 a3 I g (v4 + 1))))
def p_X4_isFree_L (a1 : Int32) (a2 : Int32) (a3 : Int32) (I : am_I) : Nat → Int32 → Prop
  | 0, _ => False
  | g + 1, v4 => (if (I 15 11) ≤ v4 then True else (vp_in v4 30 ∧ (if (I 19 v4.toNatClampNeg) = a1 then (vp_in v4 30 ∧ (if (I 21 v4.toNatClampNeg) ≤ a2 then (p_X4_isFree_L a1 a2 a3 I g (v4 + 1)) else (vp_in v4 30 ∧ (if a3 ≤ (I 20 v4.toNatClampNeg) then (p_X4_isFree_L a1 a2 a3 I g (v4 + 1)) else True)))) else (p_X4_isFree_L a1 a2 a3 I g (v4 + 1)))))
def s_X4_isFree (f : Nat) (I : am_I) (a1 : Int32) (a2 : Int32) (a3 : Int32) : Int32 := (if (s_X9_isBelow a1 (I 15 3)) = 0 then 0 else (if a2 < 0 then 0 else (if a3 ≤ a2 then 0 else (if a3 ≤ (I 18 a1.toNatClampNeg) then (s_X4_isFree_L a1 a2 a3 I f 0) else 0))))
def p_X4_isFree (f : Nat) (I : am_I) (a1 : Int32) (a2 : Int32) (a3 : Int32) : Prop := (if (s_X9_isBelow a1 (I 15 3)) = 0 then True else (if a2 < 0 then True else (if a3 ≤ a2 then True else (vp_in a1 6 ∧ (if a3 ≤ (I 18 a1.toNatClampNeg) then (p_X4_isFree_L a1 a2 a3 I f 0) else True)))))
theorem z_X4_isFree_L (a1 : Int32) (a2 : Int32) (a3 : Int32) (I : am_I) : ∀ (g : Nat) (v4 : Int32), (s_X4_isFree_L a1 a2 a3 I g v4) = 0 ∨ (s_X4_isFree_L a1 a2 a3 I g v4) = 1 := by
  intro g
  induction g with
  | zero => intros; exact Or.inl rfl
  | succ g ih =>
    intro v4
    rw [s_X4_isFree_L]
    repeat' split
    all_goals first | exact Or.inl rfl | exact Or.inr rfl | exact z_X9_isBelow _ _ | exact ih _
theorem z_X4_isFree (f : Nat) (I : am_I) (a1 : Int32) (a2 : Int32) (a3 : Int32) : (s_X4_isFree f I a1 a2 a3) = 0 ∨ (s_X4_isFree f I a1 a2 a3) = 1 := by
  unfold s_X4_isFree
  repeat' split
  all_goals first | exact Or.inl rfl | exact Or.inr rfl | exact z_X9_isBelow _ _ | exact z_X4_isFree_L _ _ _ _ _ _
set_option maxRecDepth 100000 in
set_option maxHeartbeats 4000000 in
theorem gl_X4_isFree (a1 : Int32) (a2 : Int32) (a3 : Int32) (f : Nat) (I : am_I) (J : am_J) (Q : am_Q) (hG : Gr Q) : ∀ g : Nat, (∀ (v4 : Int32), p_X4_isFree_L a1 a2 a3 I g v4 → Gd MX4_isFree (am_o 1 0 0 (am_Fi I J Q (s_X4_isFree_L a1 a2 a3 I g v4))) 0 0 92 35 [some (.ref 15), some (.int a1), some (.int a2), some (.int a3), some (.int v4)] [] I J Q) := by
  intro g
  induction g with
  | zero => exact fun _ hp => False.elim hp
  | succ g ih =>
    have ih_35 := ih
    intro v4 hp
    rw [s_X4_isFree_L]
    rw [p_X4_isFree_L] at hp
    refine gd_iload (q := 37) rfl rfl rfl ?_
    refine gd_aload_n (q := 38) rfl rfl rfl ?_
    refine gd_getI (q := 41) rfl rfl rfl (Nat.le_of_ble_eq_true rfl) rfl rfl ?_
    refine gx_icmp_ge (q := 44) (r := 85) rfl rfl rfl hp (fun c_41 hp => ?_) (fun c_41 hp => ?_)
    · refine gd_iconst (v := 1) (q := 86) rfl rfl rfl ?_
      exact gd_ireturn rfl rfl rfl (Nat.le_refl 0) (Nat.le_refl 0) rfl
    · refine gd_aload_n (q := 45) rfl rfl rfl ?_
      refine gd_getR (q := 48) (r := 19) rfl rfl rfl (Nat.le_of_ble_eq_true rfl) rfl rfl (gr_15_4 hG) ?_
      refine gd_iload (q := 50) rfl rfl rfl ?_
      refine gd_iald (q := 51) rfl rfl (Nat.le_of_ble_eq_true rfl) rfl hp.1 ?_
      replace hp := hp.2
      refine gd_iload_n (q := 52) rfl rfl rfl ?_
      refine gx_icmp_ne (q := 55) (r := 79) rfl rfl rfl hp (fun c_52 hp => ?_) (fun c_52 hp => ?_)
      · refine gd_iload_n (q := 56) rfl rfl rfl ?_
        refine gd_aload_n (q := 57) rfl rfl rfl ?_
        refine gd_getR (q := 60) (r := 21) rfl rfl rfl (Nat.le_of_ble_eq_true rfl) rfl rfl (gr_15_6 hG) ?_
        refine gd_iload (q := 62) rfl rfl rfl ?_
        refine gd_iald (q := 63) rfl rfl (Nat.le_of_ble_eq_true rfl) rfl hp.1 ?_
        replace hp := hp.2
        refine gx_icmp_ge (q := 66) (r := 79) rfl rfl rfl hp (fun c_63 hp => ?_) (fun c_63 hp => ?_)
        · refine gd_iinc (v := (v4 + 1)) (q := 82) rfl rfl rfl rfl (Nat.le_of_ble_eq_true rfl) rfl ?_
          refine gd_goto (q := 35) rfl rfl ?_
          exact ih_35 (v4 + 1) hp
        · refine gd_aload_n (q := 67) rfl rfl rfl ?_
          refine gd_getR (q := 70) (r := 20) rfl rfl rfl (Nat.le_of_ble_eq_true rfl) rfl rfl (gr_15_5 hG) ?_
          refine gd_iload (q := 72) rfl rfl rfl ?_
          refine gd_iald (q := 73) rfl rfl (Nat.le_of_ble_eq_true rfl) rfl hp.1 ?_
          replace hp := hp.2
          refine gd_iload_n (q := 74) rfl rfl rfl ?_
          refine gx_icmp_ge (q := 77) (r := 79) rfl rfl rfl hp (fun c_74 hp => ?_) (fun c_74 hp => ?_)
          · refine gd_iinc (v := (v4 + 1)) (q := 82) rfl rfl rfl rfl (Nat.le_of_ble_eq_true rfl) rfl ?_
            refine gd_goto (q := 35) rfl rfl ?_
            exact ih_35 (v4 + 1) hp
          · refine gd_iconst (v := 0) (q := 78) rfl rfl rfl ?_
            exact gd_ireturn rfl rfl rfl (Nat.le_refl 0) (Nat.le_refl 0) rfl
      · refine gd_iinc (v := (v4 + 1)) (q := 82) rfl rfl rfl rfl (Nat.le_of_ble_eq_true rfl) rfl ?_
        refine gd_goto (q := 35) rfl rfl ?_
        exact ih_35 (v4 + 1) hp
theorem gl_X4_isFree_35 (a1 : Int32) (a2 : Int32) (a3 : Int32) (f : Nat) (I : am_I) (J : am_J) (Q : am_Q) (hG : Gr Q) (g : Nat) : ∀ (v4 : Int32), p_X4_isFree_L a1 a2 a3 I g v4 → Gd MX4_isFree (am_o 1 0 0 (am_Fi I J Q (s_X4_isFree_L a1 a2 a3 I g v4))) 0 0 92 35 [some (.ref 15), some (.int a1), some (.int a2), some (.int a3), some (.int v4)] [] I J Q := (gl_X4_isFree a1 a2 a3 f I J Q hG g)
set_option maxRecDepth 100000 in
set_option maxHeartbeats 4000000 in
theorem gt_X4_isFree (f : Nat) (I : am_I) (J : am_J) (Q : am_Q) (hG : Gr Q) (a1 : Int32) (a2 : Int32) (a3 : Int32) (hp : p_X4_isFree f I a1 a2 a3) : Gd MX4_isFree (am_o 1 0 0 (am_Fi I J Q (s_X4_isFree f I a1 a2 a3))) 0 0 92 0 [some (.ref 15), some (.int a1), some (.int a2), some (.int a3), none] [] I J Q := by
  unfold s_X4_isFree
  unfold p_X4_isFree at hp
  refine gd_iload_n (q := 1) rfl rfl rfl ?_
  refine gd_aload_n (q := 2) rfl rfl rfl ?_
  refine gd_getI (q := 5) rfl rfl rfl (Nat.le_of_ble_eq_true rfl) rfl rfl ?_
  refine gd_cSi (q := 8) rfl rfl lk4_46 myX9_isBelow sxX9_isBelow (ct_X9_isBelow f I J Q hG a1 (I 15 3)) rfl rfl (Nat.le_of_ble_eq_true rfl) ⟨(Nat.le_of_ble_eq_true rfl), (Nat.le_of_ble_eq_true rfl)⟩ ?_
  refine gx_if_eq (q := 11) (r := 30) rfl rfl rfl hp (fun c_8 hp => ?_) (fun c_8 hp => ?_)
  · refine gd_iconst (v := 0) (q := 31) rfl rfl rfl ?_
    exact gd_ireturn rfl rfl rfl (Nat.le_refl 0) (Nat.le_refl 0) rfl
  · refine gd_iload_n (q := 12) rfl rfl rfl ?_
    refine gx_if_lt (q := 15) (r := 30) rfl rfl rfl hp (fun c_12 hp => ?_) (fun c_12 hp => ?_)
    · refine gd_iconst (v := 0) (q := 31) rfl rfl rfl ?_
      exact gd_ireturn rfl rfl rfl (Nat.le_refl 0) (Nat.le_refl 0) rfl
    · refine gd_iload_n (q := 16) rfl rfl rfl ?_
      refine gd_iload_n (q := 17) rfl rfl rfl ?_
      refine gx_icmp_ge (q := 20) (r := 30) rfl rfl rfl hp (fun c_17 hp => ?_) (fun c_17 hp => ?_)
      · refine gd_iconst (v := 0) (q := 31) rfl rfl rfl ?_
        exact gd_ireturn rfl rfl rfl (Nat.le_refl 0) (Nat.le_refl 0) rfl
      · refine gd_iload_n (q := 21) rfl rfl rfl ?_
        refine gd_aload_n (q := 22) rfl rfl rfl ?_
        refine gd_getR (q := 25) (r := 18) rfl rfl rfl (Nat.le_of_ble_eq_true rfl) rfl rfl (gr_15_2 hG) ?_
        refine gd_iload_n (q := 26) rfl rfl rfl ?_
        refine gd_iald (q := 27) rfl rfl (Nat.le_of_ble_eq_true rfl) rfl hp.1 ?_
        replace hp := hp.2
        refine gx_icmp_le (q := 30) (r := 32) rfl rfl rfl hp (fun c_27 hp => ?_) (fun c_27 hp => ?_)
        · refine gd_iconst (v := 0) (q := 33) rfl rfl rfl ?_
          refine gd_istore (q := 35) rfl rfl (Nat.le_of_ble_eq_true rfl) rfl ?_
          exact gl_X4_isFree_35 a1 a2 a3 f I J Q hG f 0 hp
        · refine gd_iconst (v := 0) (q := 31) rfl rfl rfl ?_
          exact gd_ireturn rfl rfl rfl (Nat.le_refl 0) (Nat.le_refl 0) rfl
theorem ct_X4_isFree (f : Nat) (I : am_I) (J : am_J) (Q : am_Q) (hG : Gr Q) (a1 : Int32) (a2 : Int32) (a3 : Int32) (hp : p_X4_isFree f I a1 a2 a3) : Cm MX4_isFree 1 0 0 92 [.ref 15, .int a1, .int a2, .int a3] I J Q (am_Fi I J Q (s_X4_isFree f I a1 a2 a3)) := cm_of (by decide) rfl IX4_isFree_ok (Nat.le_of_ble_eq_true rfl) (gt_X4_isFree f I J Q hG a1 a2 a3 hp)
def s_X9_count (I : am_I) (a1 : Int32) : Int32 := (if a1 = 0 then (I 9 3) else (if a1 = 1 then (I 13 1) else (if a1 = 2 then (I 15 3) else (if a1 = 3 then (I 15 11) else (if a1 = 4 then (I 26 2) else (if a1 = 5 then (I 0 9) else (if a1 = 6 then (I 29 7) else (if a1 = 7 then (I 1 1) else (if a1 = 8 then (I 0 10) else (-1))))))))))
theorem am_swX9_count_1 {x : Int32} (h0 : ¬ x = 0) (h1 : ¬ x = 1) (h2 : ¬ x = 2) (h3 : ¬ x = 3) (h4 : ¬ x = 4) (h5 : ¬ x = 5) (h6 : ¬ x = 6) (h7 : ¬ x = 7) (h8 : ¬ x = 8) : (x.toInt < 0 ∨ 8 < x.toInt) ∨ (¬ x.toInt < 0 ∧ ¬ 8 < x.toInt ∧ (#[51, 59, 67, 75, 83, 91, 96, 104, 112] : Array Int)[(x.toInt - 0).toNat]? = some 117) := by
  by_cases hlo : x.toInt < 0
  · exact Or.inl (Or.inl hlo)
  by_cases hhi : 8 < x.toInt
  · exact Or.inl (Or.inr hhi)
  refine Or.inr ⟨hlo, hhi, ?_⟩
  have e0 := lv_neT (a := 0) h0 rfl
  have e1 := lv_neT (a := 1) h1 rfl
  have e2 := lv_neT (a := 2) h2 rfl
  have e3 := lv_neT (a := 3) h3 rfl
  have e4 := lv_neT (a := 4) h4 rfl
  have e5 := lv_neT (a := 5) h5 rfl
  have e6 := lv_neT (a := 6) h6 rfl
  have e7 := lv_neT (a := 7) h7 rfl
  have e8 := lv_neT (a := 8) h8 rfl
  exfalso; omega
set_option maxRecDepth 100000 in
set_option maxHeartbeats 4000000 in
theorem gt_X9_count (f : Nat) (I : am_I) (J : am_J) (Q : am_Q) (hG : Gr Q) (a1 : Int32) : Gd MX9_count (am_o 0 0 0 (am_Fi I J Q (s_X9_count I a1))) 0 0 92 0 [some (.ref 0), some (.int a1)] [] I J Q := by
  unfold s_X9_count
  refine gd_iload_n (q := 1) rfl rfl rfl ?_
  refine gy_ite (fun c_1_0 => ?_) (fun c_1_0 => ?_)
  · refine gd_tsIn (q := 52) rfl (by rw [c_1_0]; decide) (by rw [c_1_0]; decide) (by first | (rw [c_1_0]; done) | (rw [c_1_0]; rfl)) rfl ?_
    refine gd_aload_n (q := 53) rfl rfl rfl ?_
    refine gd_getR (q := 56) (r := 9) rfl rfl rfl (Nat.le_of_ble_eq_true rfl) rfl rfl (gr_0_3 hG) ?_
    refine gd_getI (q := 59) rfl rfl rfl (Nat.le_of_ble_eq_true rfl) rfl rfl ?_
    exact gd_ireturn rfl rfl rfl (Nat.le_refl 0) (Nat.le_refl 0) rfl
  · refine gy_ite (fun c_1_1 => ?_) (fun c_1_1 => ?_)
    · refine gd_tsIn (q := 60) rfl (by rw [c_1_1]; decide) (by rw [c_1_1]; decide) (by first | (rw [c_1_1]; done) | (rw [c_1_1]; rfl)) rfl ?_
      refine gd_aload_n (q := 61) rfl rfl rfl ?_
      refine gd_getR (q := 64) (r := 13) rfl rfl rfl (Nat.le_of_ble_eq_true rfl) rfl rfl (gr_0_4 hG) ?_
      refine gd_getI (q := 67) rfl rfl rfl (Nat.le_of_ble_eq_true rfl) rfl rfl ?_
      exact gd_ireturn rfl rfl rfl (Nat.le_refl 0) (Nat.le_refl 0) rfl
    · refine gy_ite (fun c_1_2 => ?_) (fun c_1_2 => ?_)
      · refine gd_tsIn (q := 68) rfl (by rw [c_1_2]; decide) (by rw [c_1_2]; decide) (by first | (rw [c_1_2]; done) | (rw [c_1_2]; rfl)) rfl ?_
        refine gd_aload_n (q := 69) rfl rfl rfl ?_
        refine gd_getR (q := 72) (r := 15) rfl rfl rfl (Nat.le_of_ble_eq_true rfl) rfl rfl (gr_0_5 hG) ?_
        refine gd_getI (q := 75) rfl rfl rfl (Nat.le_of_ble_eq_true rfl) rfl rfl ?_
        exact gd_ireturn rfl rfl rfl (Nat.le_refl 0) (Nat.le_refl 0) rfl
      · refine gy_ite (fun c_1_3 => ?_) (fun c_1_3 => ?_)
        · refine gd_tsIn (q := 76) rfl (by rw [c_1_3]; decide) (by rw [c_1_3]; decide) (by first | (rw [c_1_3]; done) | (rw [c_1_3]; rfl)) rfl ?_
          refine gd_aload_n (q := 77) rfl rfl rfl ?_
          refine gd_getR (q := 80) (r := 15) rfl rfl rfl (Nat.le_of_ble_eq_true rfl) rfl rfl (gr_0_5 hG) ?_
          refine gd_getI (q := 83) rfl rfl rfl (Nat.le_of_ble_eq_true rfl) rfl rfl ?_
          exact gd_ireturn rfl rfl rfl (Nat.le_refl 0) (Nat.le_refl 0) rfl
        · refine gy_ite (fun c_1_4 => ?_) (fun c_1_4 => ?_)
          · refine gd_tsIn (q := 84) rfl (by rw [c_1_4]; decide) (by rw [c_1_4]; decide) (by first | (rw [c_1_4]; done) | (rw [c_1_4]; rfl)) rfl ?_
            refine gd_aload_n (q := 85) rfl rfl rfl ?_
            refine gd_getR (q := 88) (r := 26) rfl rfl rfl (Nat.le_of_ble_eq_true rfl) rfl rfl (gr_0_6 hG) ?_
            refine gd_getI (q := 91) rfl rfl rfl (Nat.le_of_ble_eq_true rfl) rfl rfl ?_
            exact gd_ireturn rfl rfl rfl (Nat.le_refl 0) (Nat.le_refl 0) rfl
          · refine gy_ite (fun c_1_5 => ?_) (fun c_1_5 => ?_)
            · refine gd_tsIn (q := 92) rfl (by rw [c_1_5]; decide) (by rw [c_1_5]; decide) (by first | (rw [c_1_5]; done) | (rw [c_1_5]; rfl)) rfl ?_
              refine gd_aload_n (q := 93) rfl rfl rfl ?_
              refine gd_getI (q := 96) rfl rfl rfl (Nat.le_of_ble_eq_true rfl) rfl rfl ?_
              exact gd_ireturn rfl rfl rfl (Nat.le_refl 0) (Nat.le_refl 0) rfl
            · refine gy_ite (fun c_1_6 => ?_) (fun c_1_6 => ?_)
              · refine gd_tsIn (q := 97) rfl (by rw [c_1_6]; decide) (by rw [c_1_6]; decide) (by first | (rw [c_1_6]; done) | (rw [c_1_6]; rfl)) rfl ?_
                refine gd_aload_n (q := 98) rfl rfl rfl ?_
                refine gd_getR (q := 101) (r := 29) rfl rfl rfl (Nat.le_of_ble_eq_true rfl) rfl rfl (gr_0_7 hG) ?_
                refine gd_getI (q := 104) rfl rfl rfl (Nat.le_of_ble_eq_true rfl) rfl rfl ?_
                exact gd_ireturn rfl rfl rfl (Nat.le_refl 0) (Nat.le_refl 0) rfl
              · refine gy_ite (fun c_1_7 => ?_) (fun c_1_7 => ?_)
                · refine gd_tsIn (q := 105) rfl (by rw [c_1_7]; decide) (by rw [c_1_7]; decide) (by first | (rw [c_1_7]; done) | (rw [c_1_7]; rfl)) rfl ?_
                  refine gd_aload_n (q := 106) rfl rfl rfl ?_
                  refine gd_getR (q := 109) (r := 1) rfl rfl rfl (Nat.le_of_ble_eq_true rfl) rfl rfl (gr_0_0 hG) ?_
                  refine gd_getI (q := 112) rfl rfl rfl (Nat.le_of_ble_eq_true rfl) rfl rfl ?_
                  exact gd_ireturn rfl rfl rfl (Nat.le_refl 0) (Nat.le_refl 0) rfl
                · refine gy_ite (fun c_1_8 => ?_) (fun c_1_8 => ?_)
                  · refine gd_tsIn (q := 113) rfl (by rw [c_1_8]; decide) (by rw [c_1_8]; decide) (by first | (rw [c_1_8]; done) | (rw [c_1_8]; rfl)) rfl ?_
                    refine gd_aload_n (q := 114) rfl rfl rfl ?_
                    refine gd_getI (q := 117) rfl rfl rfl (Nat.le_of_ble_eq_true rfl) rfl rfl ?_
                    exact gd_ireturn rfl rfl rfl (Nat.le_refl 0) (Nat.le_refl 0) rfl
                  · refine gd_tsAny (q := 118) rfl (am_swX9_count_1 c_1_0 c_1_1 c_1_2 c_1_3 c_1_4 c_1_5 c_1_6 c_1_7 c_1_8) rfl ?_
                    refine gd_iconst (v := (-1)) (q := 119) rfl rfl rfl ?_
                    exact gd_ireturn rfl rfl rfl (Nat.le_refl 0) (Nat.le_refl 0) rfl
theorem ct_X9_count (f : Nat) (I : am_I) (J : am_J) (Q : am_Q) (hG : Gr Q) (a1 : Int32) : Cm MX9_count 0 0 0 92 [.ref 0, .int a1] I J Q (am_Fi I J Q (s_X9_count I a1)) := cm_of (by decide) rfl IX9_count_ok (Nat.le_of_ble_eq_true rfl) (gt_X9_count f I J Q hG a1)
def s_J7_fill_53178_36_L (a1 : Int32)  : Nat → Int32 → Int32 → am_I → am_I
  | 0, _, _, I => I
  | g + 1, v2, v3, I => (if v3 ≤ v2 then I else (s_J7_fill_53178_36_L a1 g (v2 + 1) v3 (am_w I 36 v2.toNatClampNeg a1)))
def p_J7_fill_53178_36_L (a1 : Int32)  : Nat → Int32 → Int32 → am_I → Prop
  | 0, _, _, _ => False
  | g + 1, v2, v3, I => (if v3 ≤ v2 then True else (vp_in v2 10 ∧ (p_J7_fill_53178_36_L a1 g (v2 + 1) v3 (am_w I 36 v2.toNatClampNeg a1))))
def s_J7_fill_53178_36 (f : Nat) (I : am_I) (a1 : Int32) : am_I := (s_J7_fill_53178_36_L a1 f 0 10 I)
def p_J7_fill_53178_36 (f : Nat) (I : am_I) (a1 : Int32) : Prop := (p_J7_fill_53178_36_L a1 f 0 10 I)
set_option maxRecDepth 100000 in
set_option maxHeartbeats 4000000 in
theorem gl_J7_fill_53178_36 (a1 : Int32) (f : Nat) (J : am_J) (Q : am_Q) (hG : Gr Q) : ∀ g : Nat, (∀ (v2 : Int32) (v3 : Int32) (I : am_I), p_J7_fill_53178_36_L a1 g v2 v3 I → Gd MJ7_fill_53178 (am_o 0 0 0 (am_FvI J Q (s_J7_fill_53178_36_L a1 g v2 v3 I))) 0 0 92 5 [some (.ref 36), some (.int a1), some (.int v2), some (.int v3)] [] I J Q) := by
  intro g
  induction g with
  | zero => exact fun _ _ _ hp => False.elim hp
  | succ g ih =>
    have ih_5 := ih
    intro v2 v3 I hp
    rw [s_J7_fill_53178_36_L]
    rw [p_J7_fill_53178_36_L] at hp
    refine gd_iload_n (q := 6) rfl rfl rfl ?_
    refine gd_iload_n (q := 7) rfl rfl rfl ?_
    refine gx_icmp_ge (q := 10) (r := 20) rfl rfl rfl hp (fun c_7 hp => ?_) (fun c_7 hp => ?_)
    · exact gd_return rfl rfl (Nat.le_refl 0) (Nat.le_refl 0) rfl
    · refine gd_aload_n (q := 11) rfl rfl rfl ?_
      refine gd_iload_n (q := 12) rfl rfl rfl ?_
      refine gd_iload_n (q := 13) rfl rfl rfl ?_
      refine gd_iast (q := 14) rfl rfl (Nat.le_of_ble_eq_true rfl) rfl hp.1 ?_
      replace hp := hp.2
      refine gd_iinc (v := (v2 + 1)) (q := 17) rfl rfl rfl rfl (Nat.le_of_ble_eq_true rfl) rfl ?_
      refine gd_goto (q := 5) rfl rfl ?_
      exact ih_5 (v2 + 1) v3 (am_w I 36 v2.toNatClampNeg a1) hp
theorem gl_J7_fill_53178_36_5 (a1 : Int32) (f : Nat) (J : am_J) (Q : am_Q) (hG : Gr Q) (g : Nat) : ∀ (v2 : Int32) (v3 : Int32) (I : am_I), p_J7_fill_53178_36_L a1 g v2 v3 I → Gd MJ7_fill_53178 (am_o 0 0 0 (am_FvI J Q (s_J7_fill_53178_36_L a1 g v2 v3 I))) 0 0 92 5 [some (.ref 36), some (.int a1), some (.int v2), some (.int v3)] [] I J Q := (gl_J7_fill_53178_36 a1 f J Q hG g)
set_option maxRecDepth 100000 in
set_option maxHeartbeats 4000000 in
theorem gt_J7_fill_53178_36 (f : Nat) (I : am_I) (J : am_J) (Q : am_Q) (hG : Gr Q) (a1 : Int32) (hp : p_J7_fill_53178_36 f I a1) : Gd MJ7_fill_53178 (am_o 0 0 0 (am_FvI J Q (s_J7_fill_53178_36 f I a1))) 0 0 92 0 [some (.ref 36), some (.int a1), none, none] [] I J Q := by
  unfold s_J7_fill_53178_36
  unfold p_J7_fill_53178_36 at hp
  refine gd_iconst (v := 0) (q := 1) rfl rfl rfl ?_
  refine gd_istore_n (q := 2) rfl rfl (Nat.le_of_ble_eq_true rfl) rfl ?_
  refine gd_aload_n (q := 3) rfl rfl rfl ?_
  refine gd_alen (v := 10) (ty := .int) (q := 4) rfl rfl (Nat.le_of_ble_eq_true rfl) rfl (fun _ => rfl) rfl ?_
  refine gd_istore_n (q := 5) rfl rfl (Nat.le_of_ble_eq_true rfl) rfl ?_
  exact gl_J7_fill_53178_36_5 a1 f J Q hG f 0 10 I hp
theorem ct_J7_fill_53178_36 (f : Nat) (I : am_I) (J : am_J) (Q : am_Q) (hG : Gr Q) (a1 : Int32) (hp : p_J7_fill_53178_36 f I a1) : Cm MJ7_fill_53178 0 0 0 92 [.ref 36, .int a1] I J Q (am_FvI J Q (s_J7_fill_53178_36 f I a1)) := cm_of (by decide) rfl IJ7_fill_53178_ok (Nat.le_of_ble_eq_true rfl) (gt_J7_fill_53178_36 f I J Q hG a1 hp)
def s_X5_areWithin_L (a1 : Int32) (a2 : Int32) (a3 : Int32) (I : am_I) : Nat → Nat → Int32 → Int32
  | 0, _, _ => 0
  | g + 1, 0, v4 => (if 10 ≤ v4 then (s_X5_areWithin_L a1 a2 a3 I g 1 0) else (if (I 36 v4.toNatClampNeg) ≤ 9999 then (s_X5_areWithin_L a1 a2 a3 I g 0 (v4 + 1)) else 0))
  | g + 1, 1, v4 => (if a1 ≤ v4 then 1 else (if a3 = 0 then (if (I 30 v4.toNatClampNeg) = 0 then (if ((a2 >>> (v4 &&& 31)) &&& 1) = 0 then (if (I 36 (I 31 v4.toNatClampNeg).toNatClampNeg) ≤ (I 34 v4.toNatClampNeg) then (s_X5_areWithin_L a1 a2 a3 I g 1 (v4 + 1)) else 0) else (s_X5_areWithin_L a1 a2 a3 I g 1 (v4 + 1))) else (s_X5_areWithin_L a1 a2 a3 I g 1 (v4 + 1))) else (if (I 30 v4.toNatClampNeg) = 0 then (if ((a2 >>> (v4 &&& 31)) &&& 1) = 0 then (if (I 36 (I 31 v4.toNatClampNeg).toNatClampNeg) ≤ (9999 - (I 33 v4.toNatClampNeg)) then (s_X5_areWithin_L a1 a2 a3 I g 1 (v4 + 1)) else 0) else (s_X5_areWithin_L a1 a2 a3 I g 1 (v4 + 1))) else (s_X5_areWithin_L a1 a2 a3 I g 1 (v4 + 1)))))
  | _ + 1, _ + 2, _ => 0
def p_X5_areWithin_L (a1 : Int32) (a2 : Int32) (a3 : Int32) (I : am_I) : Nat → Nat → Int32 → Prop
  | 0, _, _ => False
  | g + 1, 0, v4 => (if 10 ≤ v4 then (p_X5_areWithin_L a1 a2 a3 I g 1 0) else (vp_in v4 10 ∧ (if (I 36 v4.toNatClampNeg) ≤ 9999 then (p_X5_areWithin_L a1 a2 a3 I g 0 (v4 + 1)) else True)))
  | g + 1, 1, v4 => (if a1 ≤ v4 then True else (if a3 = 0 then (vp_in v4 12 ∧ (vp_in v4 12 ∧ (if (I 30 v4.toNatClampNeg) = 0 then (if ((a2 >>> (v4 &&& 31)) &&& 1) = 0 then (vp_in v4 12 ∧ (vp_in (I 31 v4.toNatClampNeg) 10 ∧ (if (I 36 (I 31 v4.toNatClampNeg).toNatClampNeg) ≤ (I 34 v4.toNatClampNeg) then (p_X5_areWithin_L a1 a2 a3 I g 1 (v4 + 1)) else True))) else (p_X5_areWithin_L a1 a2 a3 I g 1 (v4 + 1))) else (p_X5_areWithin_L a1 a2 a3 I g 1 (v4 + 1))))) else (vp_in v4 12 ∧ (vp_in v4 12 ∧ (if (I 30 v4.toNatClampNeg) = 0 then (if ((a2 >>> (v4 &&& 31)) &&& 1) = 0 then (vp_in v4 12 ∧ (vp_in (I 31 v4.toNatClampNeg) 10 ∧ (if (I 36 (I 31 v4.toNatClampNeg).toNatClampNeg) ≤ (9999 - (I 33 v4.toNatClampNeg)) then (p_X5_areWithin_L a1 a2 a3 I g 1 (v4 + 1)) else True))) else (p_X5_areWithin_L a1 a2 a3 I g 1 (v4 + 1))) else (p_X5_areWithin_L a1 a2 a3 I g 1 (v4 + 1)))))))
  | _ + 1, _ + 2, _ => False
def s_X5_areWithin (f : Nat) (I : am_I) (a1 : Int32) (a2 : Int32) (a3 : Int32) : Int32 := (s_X5_areWithin_L a1 a2 a3 I f 0 0)
def p_X5_areWithin (f : Nat) (I : am_I) (a1 : Int32) (a2 : Int32) (a3 : Int32) : Prop := (p_X5_areWithin_L a1 a2 a3 I f 0 0)
set_option maxRecDepth 100000 in
set_option maxHeartbeats 4000000 in
theorem gl_X5_areWithin (a1 : Int32) (a2 : Int32) (a3 : Int32) (f : Nat) (I : am_I) (J : am_J) (Q : am_Q) (hG : Gr Q) : ∀ g : Nat, (∀ (v4 : Int32), p_X5_areWithin_L a1 a2 a3 I g 0 v4 → Gd MX5_areWithin (am_o 0 0 0 (am_Fi I J Q (s_X5_areWithin_L a1 a2 a3 I g 0 v4))) 0 0 92 3 [some (.ref 29), some (.int a1), some (.int a2), some (.int a3), some (.int v4), none] [] I J Q) ∧ (∀ (v4 : Int32), p_X5_areWithin_L a1 a2 a3 I g 1 v4 → Gd MX5_areWithin (am_o 0 0 0 (am_Fi I J Q (s_X5_areWithin_L a1 a2 a3 I g 1 v4))) 0 0 92 34 [some (.ref 29), some (.int a1), some (.int a2), some (.int a3), some (.int v4), none] [] I J Q) := by
  intro g
  induction g with
  | zero => exact ⟨fun _ hp => False.elim hp, fun _ hp => False.elim hp⟩
  | succ g ih =>
    have ih_3 := ih.1
    have ih_34 := ih.2
    refine ⟨?_, ?_⟩
    · intro v4 hp
      rw [s_X5_areWithin_L]
      rw [p_X5_areWithin_L] at hp
      refine gd_iload (q := 5) rfl rfl rfl ?_
      refine gd_bipush (v := 10) (q := 7) rfl rfl rfl ?_
      refine gx_icmp_ge (q := 10) (r := 31) rfl rfl rfl hp (fun c_7 hp => ?_) (fun c_7 hp => ?_)
      · refine gd_iconst (v := 0) (q := 32) rfl rfl rfl ?_
        refine gd_istore (q := 34) rfl rfl (Nat.le_of_ble_eq_true rfl) rfl ?_
        exact ih_34 0 hp
      · refine gd_aload_n (q := 11) rfl rfl rfl ?_
        refine gd_getR (q := 14) (r := 36) rfl rfl rfl (Nat.le_of_ble_eq_true rfl) rfl rfl (gr_29_6 hG) ?_
        refine gd_iload (q := 16) rfl rfl rfl ?_
        refine gd_iald (q := 17) rfl rfl (Nat.le_of_ble_eq_true rfl) rfl hp.1 ?_
        replace hp := hp.2
        refine gd_sipush (v := 9999) (q := 20) rfl rfl rfl ?_
        refine gx_icmp_le (q := 23) (r := 25) rfl rfl rfl hp (fun c_20 hp => ?_) (fun c_20 hp => ?_)
        · refine gd_iinc (v := (v4 + 1)) (q := 28) rfl rfl rfl rfl (Nat.le_of_ble_eq_true rfl) rfl ?_
          refine gd_goto (q := 3) rfl rfl ?_
          exact ih_3 (v4 + 1) hp
        · refine gd_iconst (v := 0) (q := 24) rfl rfl rfl ?_
          exact gd_ireturn rfl rfl rfl (Nat.le_refl 0) (Nat.le_refl 0) rfl
    · intro v4 hp
      rw [s_X5_areWithin_L]
      rw [p_X5_areWithin_L] at hp
      refine gd_iload (q := 36) rfl rfl rfl ?_
      refine gd_iload_n (q := 37) rfl rfl rfl ?_
      refine gx_icmp_ge (q := 40) (r := 111) rfl rfl rfl hp (fun c_37 hp => ?_) (fun c_37 hp => ?_)
      · refine gd_iconst (v := 1) (q := 112) rfl rfl rfl ?_
        exact gd_ireturn rfl rfl rfl (Nat.le_refl 0) (Nat.le_refl 0) rfl
      · refine gd_iload_n (q := 41) rfl rfl rfl ?_
        refine gx_if_eq (q := 44) (r := 58) rfl rfl rfl hp (fun c_41 hp => ?_) (fun c_41 hp => ?_)
        · refine gd_aload_n (q := 59) rfl rfl rfl ?_
          refine gd_getR (q := 62) (r := 34) rfl rfl rfl (Nat.le_of_ble_eq_true rfl) rfl rfl (gr_29_4 hG) ?_
          refine gd_iload (q := 64) rfl rfl rfl ?_
          refine gd_iald (q := 65) rfl rfl (Nat.le_of_ble_eq_true rfl) rfl hp.1 ?_
          replace hp := hp.2
          refine gd_istore (q := 67) rfl rfl (Nat.le_of_ble_eq_true rfl) rfl ?_
          refine gd_aload_n (q := 68) rfl rfl rfl ?_
          refine gd_getR (q := 71) (r := 30) rfl rfl rfl (Nat.le_of_ble_eq_true rfl) rfl rfl (gr_29_0 hG) ?_
          refine gd_iload (q := 73) rfl rfl rfl ?_
          refine gd_iald (q := 74) rfl rfl (Nat.le_of_ble_eq_true rfl) rfl hp.1 ?_
          replace hp := hp.2
          refine gx_if_ne (q := 77) (r := 105) rfl rfl rfl hp (fun c_74 hp => ?_) (fun c_74 hp => ?_)
          · refine gd_iload_n (q := 78) rfl rfl rfl ?_
            refine gd_iload (q := 80) rfl rfl rfl ?_
            refine gd_ishr (q := 81) rfl rfl ?_
            refine gd_iconst (v := 1) (q := 82) rfl rfl rfl ?_
            refine gd_iand (q := 83) rfl rfl ?_
            refine gx_if_ne (q := 86) (r := 105) rfl rfl rfl hp (fun c_83 hp => ?_) (fun c_83 hp => ?_)
            · refine gd_aload_n (q := 87) rfl rfl rfl ?_
              refine gd_getR (q := 90) (r := 36) rfl rfl rfl (Nat.le_of_ble_eq_true rfl) rfl rfl (gr_29_6 hG) ?_
              refine gd_aload_n (q := 91) rfl rfl rfl ?_
              refine gd_getR (q := 94) (r := 31) rfl rfl rfl (Nat.le_of_ble_eq_true rfl) rfl rfl (gr_29_1 hG) ?_
              refine gd_iload (q := 96) rfl rfl rfl ?_
              refine gd_iald (q := 97) rfl rfl (Nat.le_of_ble_eq_true rfl) rfl hp.1 ?_
              replace hp := hp.2
              refine gd_iald (q := 98) rfl rfl (Nat.le_of_ble_eq_true rfl) rfl hp.1 ?_
              replace hp := hp.2
              refine gd_iload (q := 100) rfl rfl rfl ?_
              refine gx_icmp_le (q := 103) (r := 105) rfl rfl rfl hp (fun c_100 hp => ?_) (fun c_100 hp => ?_)
              · refine gd_iinc (v := (v4 + 1)) (q := 108) rfl rfl rfl rfl (Nat.le_of_ble_eq_true rfl) rfl ?_
                refine gd_goto (q := 34) rfl rfl ?_
                refine gd_drop 5 ?_
                exact ih_34 (v4 + 1) hp
              · refine gd_iconst (v := 0) (q := 104) rfl rfl rfl ?_
                exact gd_ireturn rfl rfl rfl (Nat.le_refl 0) (Nat.le_refl 0) rfl
            · refine gd_iinc (v := (v4 + 1)) (q := 108) rfl rfl rfl rfl (Nat.le_of_ble_eq_true rfl) rfl ?_
              refine gd_goto (q := 34) rfl rfl ?_
              refine gd_drop 5 ?_
              exact ih_34 (v4 + 1) hp
          · refine gd_iinc (v := (v4 + 1)) (q := 108) rfl rfl rfl rfl (Nat.le_of_ble_eq_true rfl) rfl ?_
            refine gd_goto (q := 34) rfl rfl ?_
            refine gd_drop 5 ?_
            exact ih_34 (v4 + 1) hp
        · refine gd_sipush (v := 9999) (q := 47) rfl rfl rfl ?_
          refine gd_aload_n (q := 48) rfl rfl rfl ?_
          refine gd_getR (q := 51) (r := 33) rfl rfl rfl (Nat.le_of_ble_eq_true rfl) rfl rfl (gr_29_3 hG) ?_
          refine gd_iload (q := 53) rfl rfl rfl ?_
          refine gd_iald (q := 54) rfl rfl (Nat.le_of_ble_eq_true rfl) rfl hp.1 ?_
          replace hp := hp.2
          refine gd_isub (q := 55) rfl rfl ?_
          refine gd_goto (q := 65) rfl rfl ?_
          refine gd_istore (q := 67) rfl rfl (Nat.le_of_ble_eq_true rfl) rfl ?_
          refine gd_aload_n (q := 68) rfl rfl rfl ?_
          refine gd_getR (q := 71) (r := 30) rfl rfl rfl (Nat.le_of_ble_eq_true rfl) rfl rfl (gr_29_0 hG) ?_
          refine gd_iload (q := 73) rfl rfl rfl ?_
          refine gd_iald (q := 74) rfl rfl (Nat.le_of_ble_eq_true rfl) rfl hp.1 ?_
          replace hp := hp.2
          refine gx_if_ne (q := 77) (r := 105) rfl rfl rfl hp (fun c_74 hp => ?_) (fun c_74 hp => ?_)
          · refine gd_iload_n (q := 78) rfl rfl rfl ?_
            refine gd_iload (q := 80) rfl rfl rfl ?_
            refine gd_ishr (q := 81) rfl rfl ?_
            refine gd_iconst (v := 1) (q := 82) rfl rfl rfl ?_
            refine gd_iand (q := 83) rfl rfl ?_
            refine gx_if_ne (q := 86) (r := 105) rfl rfl rfl hp (fun c_83 hp => ?_) (fun c_83 hp => ?_)
            · refine gd_aload_n (q := 87) rfl rfl rfl ?_
              refine gd_getR (q := 90) (r := 36) rfl rfl rfl (Nat.le_of_ble_eq_true rfl) rfl rfl (gr_29_6 hG) ?_
              refine gd_aload_n (q := 91) rfl rfl rfl ?_
              refine gd_getR (q := 94) (r := 31) rfl rfl rfl (Nat.le_of_ble_eq_true rfl) rfl rfl (gr_29_1 hG) ?_
              refine gd_iload (q := 96) rfl rfl rfl ?_
              refine gd_iald (q := 97) rfl rfl (Nat.le_of_ble_eq_true rfl) rfl hp.1 ?_
              replace hp := hp.2
              refine gd_iald (q := 98) rfl rfl (Nat.le_of_ble_eq_true rfl) rfl hp.1 ?_
              replace hp := hp.2
              refine gd_iload (q := 100) rfl rfl rfl ?_
              refine gx_icmp_le (q := 103) (r := 105) rfl rfl rfl hp (fun c_100 hp => ?_) (fun c_100 hp => ?_)
              · refine gd_iinc (v := (v4 + 1)) (q := 108) rfl rfl rfl rfl (Nat.le_of_ble_eq_true rfl) rfl ?_
                refine gd_goto (q := 34) rfl rfl ?_
                refine gd_drop 5 ?_
                exact ih_34 (v4 + 1) hp
              · refine gd_iconst (v := 0) (q := 104) rfl rfl rfl ?_
                exact gd_ireturn rfl rfl rfl (Nat.le_refl 0) (Nat.le_refl 0) rfl
            · refine gd_iinc (v := (v4 + 1)) (q := 108) rfl rfl rfl rfl (Nat.le_of_ble_eq_true rfl) rfl ?_
              refine gd_goto (q := 34) rfl rfl ?_
              refine gd_drop 5 ?_
              exact ih_34 (v4 + 1) hp
          · refine gd_iinc (v := (v4 + 1)) (q := 108) rfl rfl rfl rfl (Nat.le_of_ble_eq_true rfl) rfl ?_
            refine gd_goto (q := 34) rfl rfl ?_
            refine gd_drop 5 ?_
            exact ih_34 (v4 + 1) hp
theorem gl_X5_areWithin_3 (a1 : Int32) (a2 : Int32) (a3 : Int32) (f : Nat) (I : am_I) (J : am_J) (Q : am_Q) (hG : Gr Q) (g : Nat) : ∀ (v4 : Int32), p_X5_areWithin_L a1 a2 a3 I g 0 v4 → Gd MX5_areWithin (am_o 0 0 0 (am_Fi I J Q (s_X5_areWithin_L a1 a2 a3 I g 0 v4))) 0 0 92 3 [some (.ref 29), some (.int a1), some (.int a2), some (.int a3), some (.int v4), none] [] I J Q := (gl_X5_areWithin a1 a2 a3 f I J Q hG g).1
theorem gl_X5_areWithin_34 (a1 : Int32) (a2 : Int32) (a3 : Int32) (f : Nat) (I : am_I) (J : am_J) (Q : am_Q) (hG : Gr Q) (g : Nat) : ∀ (v4 : Int32), p_X5_areWithin_L a1 a2 a3 I g 1 v4 → Gd MX5_areWithin (am_o 0 0 0 (am_Fi I J Q (s_X5_areWithin_L a1 a2 a3 I g 1 v4))) 0 0 92 34 [some (.ref 29), some (.int a1), some (.int a2), some (.int a3), some (.int v4), none] [] I J Q := (gl_X5_areWithin a1 a2 a3 f I J Q hG g).2
set_option maxRecDepth 100000 in
set_option maxHeartbeats 4000000 in
theorem gt_X5_areWithin (f : Nat) (I : am_I) (J : am_J) (Q : am_Q) (hG : Gr Q) (a1 : Int32) (a2 : Int32) (a3 : Int32) (hp : p_X5_areWithin f I a1 a2 a3) : Gd MX5_areWithin (am_o 0 0 0 (am_Fi I J Q (s_X5_areWithin f I a1 a2 a3))) 0 0 92 0 [some (.ref 29), some (.int a1), some (.int a2), some (.int a3), none, none] [] I J Q := by
  unfold s_X5_areWithin
  unfold p_X5_areWithin at hp
  refine gd_iconst (v := 0) (q := 1) rfl rfl rfl ?_
  refine gd_istore (q := 3) rfl rfl (Nat.le_of_ble_eq_true rfl) rfl ?_
  exact gl_X5_areWithin_3 a1 a2 a3 f I J Q hG f 0 hp
theorem ct_X5_areWithin (f : Nat) (I : am_I) (J : am_J) (Q : am_Q) (hG : Gr Q) (a1 : Int32) (a2 : Int32) (a3 : Int32) (hp : p_X5_areWithin f I a1 a2 a3) : Cm MX5_areWithin 0 0 0 92 [.ref 29, .int a1, .int a2, .int a3] I J Q (am_Fi I J Q (s_X5_areWithin f I a1 a2 a3)) := cm_of (by decide) rfl IX5_areWithin_ok (Nat.le_of_ble_eq_true rfl) (gt_X5_areWithin f I J Q hG a1 a2 a3 hp)
def s_X9_isEvent  (a0 : Int32) : Int32 := (if a0 < 0 then 0 else (if 10 ≤ a0 then 0 else 1))
theorem z_X9_isEvent  (a0 : Int32) : (s_X9_isEvent a0) = 0 ∨ (s_X9_isEvent a0) = 1 := by
  unfold s_X9_isEvent
  repeat' split
  all_goals first | exact Or.inl rfl | exact Or.inr rfl
set_option maxRecDepth 100000 in
set_option maxHeartbeats 4000000 in
theorem gt_X9_isEvent (f : Nat) (I : am_I) (J : am_J) (Q : am_Q) (hG : Gr Q) (a0 : Int32) : Gd MX9_isEvent (am_o 0 0 0 (am_Fi I J Q (s_X9_isEvent a0))) 0 0 92 0 [some (.int a0)] [] I J Q := by
  unfold s_X9_isEvent
  refine gd_iload_n (q := 1) rfl rfl rfl ?_
  refine gy_if_lt (q := 4) (r := 14) rfl rfl rfl (fun c_1 => ?_) (fun c_1 => ?_)
  · refine gd_iconst (v := 0) (q := 15) rfl rfl rfl ?_
    exact gd_ireturn rfl rfl rfl (Nat.le_refl 0) (Nat.le_refl 0) rfl
  · refine gd_iload_n (q := 5) rfl rfl rfl ?_
    refine gd_bipush (v := 10) (q := 7) rfl rfl rfl ?_
    refine gy_icmp_ge (q := 10) (r := 14) rfl rfl rfl (fun c_7 => ?_) (fun c_7 => ?_)
    · refine gd_iconst (v := 0) (q := 15) rfl rfl rfl ?_
      exact gd_ireturn rfl rfl rfl (Nat.le_refl 0) (Nat.le_refl 0) rfl
    · refine gd_iconst (v := 1) (q := 11) rfl rfl rfl ?_
      refine gd_goto (q := 15) rfl rfl ?_
      exact gd_ireturn rfl rfl rfl (Nat.le_refl 0) (Nat.le_refl 0) rfl
theorem ct_X9_isEvent (f : Nat) (I : am_I) (J : am_J) (Q : am_Q) (hG : Gr Q) (a0 : Int32) : Cm MX9_isEvent 0 0 0 92 [.int a0] I J Q (am_Fi I J Q (s_X9_isEvent a0)) := cm_of (by decide) rfl IX9_isEvent_ok (Nat.le_of_ble_eq_true rfl) (gt_X9_isEvent f I J Q hG a0)
def s_X5_pushTo (I : am_I) (a1 : Int32) (a2 : Int32) : Int32 × am_I := (if (s_X9_isEvent a1) = 0 then (0, I) else (if (I 36 a1.toNatClampNeg) < a2 then (1, (am_w I 36 a1.toNatClampNeg a2)) else (0, I)))
def p_X5_pushTo (I : am_I) (a1 : Int32) (a2 : Int32) : Prop := (if (s_X9_isEvent a1) = 0 then True else (vp_in a1 10 ∧ (if (I 36 a1.toNatClampNeg) < a2 then vp_in a1 10 else True)))
theorem z_X5_pushTo (I : am_I) (a1 : Int32) (a2 : Int32) : (s_X5_pushTo I a1 a2).1 = 0 ∨ (s_X5_pushTo I a1 a2).1 = 1 := by
  unfold s_X5_pushTo
  repeat' split
  all_goals first | exact Or.inl rfl | exact Or.inr rfl | exact z_X9_isEvent _
set_option maxRecDepth 100000 in
set_option maxHeartbeats 4000000 in
theorem gt_X5_pushTo (f : Nat) (I : am_I) (J : am_J) (Q : am_Q) (hG : Gr Q) (a1 : Int32) (a2 : Int32) (hp : p_X5_pushTo I a1 a2) : Gd MX5_pushTo (am_o 1 0 0 (am_FiI J Q (s_X5_pushTo I a1 a2))) 0 0 92 0 [some (.ref 29), some (.int a1), some (.int a2)] [] I J Q := by
  unfold s_X5_pushTo
  unfold p_X5_pushTo at hp
  refine gd_iload_n (q := 1) rfl rfl rfl ?_
  refine gd_cSi (q := 4) rfl rfl lk5_41 myX9_isEvent sxX9_isEvent (ct_X9_isEvent f I J Q hG a1) rfl rfl (Nat.le_of_ble_eq_true rfl) ⟨(Nat.le_of_ble_eq_true rfl), (Nat.le_of_ble_eq_true rfl)⟩ ?_
  refine gx_if_eq (q := 7) (r := 17) rfl rfl rfl hp (fun c_4 hp => ?_) (fun c_4 hp => ?_)
  · refine gd_iconst (v := 0) (q := 18) rfl rfl rfl ?_
    exact gd_ireturn rfl rfl rfl (Nat.le_refl 0) (Nat.le_refl 0) rfl
  · refine gd_aload_n (q := 8) rfl rfl rfl ?_
    refine gd_getR (q := 11) (r := 36) rfl rfl rfl (Nat.le_of_ble_eq_true rfl) rfl rfl (gr_29_6 hG) ?_
    refine gd_iload_n (q := 12) rfl rfl rfl ?_
    refine gd_iald (q := 13) rfl rfl (Nat.le_of_ble_eq_true rfl) rfl hp.1 ?_
    replace hp := hp.2
    refine gd_iload_n (q := 14) rfl rfl rfl ?_
    refine gx_icmp_lt (q := 17) (r := 19) rfl rfl rfl hp (fun c_14 hp => ?_) (fun c_14 hp => ?_)
    · refine gd_aload_n (q := 20) rfl rfl rfl ?_
      refine gd_getR (q := 23) (r := 36) rfl rfl rfl (Nat.le_of_ble_eq_true rfl) rfl rfl (gr_29_6 hG) ?_
      refine gd_iload_n (q := 24) rfl rfl rfl ?_
      refine gd_iload_n (q := 25) rfl rfl rfl ?_
      refine gd_iast (q := 26) rfl rfl (Nat.le_of_ble_eq_true rfl) rfl hp ?_
      refine gd_iconst (v := 1) (q := 27) rfl rfl rfl ?_
      exact gd_ireturn rfl rfl rfl (Nat.le_refl 0) (Nat.le_refl 0) rfl
    · refine gd_iconst (v := 0) (q := 18) rfl rfl rfl ?_
      exact gd_ireturn rfl rfl rfl (Nat.le_refl 0) (Nat.le_refl 0) rfl
theorem ct_X5_pushTo (f : Nat) (I : am_I) (J : am_J) (Q : am_Q) (hG : Gr Q) (a1 : Int32) (a2 : Int32) (hp : p_X5_pushTo I a1 a2) : Cm MX5_pushTo 1 0 0 92 [.ref 29, .int a1, .int a2] I J Q (am_FiI J Q (s_X5_pushTo I a1 a2)) := cm_of (by decide) rfl IX5_pushTo_ok (Nat.le_of_ble_eq_true rfl) (gt_X5_pushTo f I J Q hG a1 a2 hp)
def s_X5_pushDays (I : am_I) (a1 : Int32) (a2 : Int32) : Int32 × am_I := (if (I 30 a1.toNatClampNeg) = 0 then (if a2 = 0 then (((s_X5_pushTo I (I 31 a1.toNatClampNeg) (I 33 a1.toNatClampNeg)).1), ((s_X5_pushTo I (I 31 a1.toNatClampNeg) (I 33 a1.toNatClampNeg)).2)) else (((s_X5_pushTo I (I 31 a1.toNatClampNeg) (9999 - (I 34 a1.toNatClampNeg))).1), ((s_X5_pushTo I (I 31 a1.toNatClampNeg) (9999 - (I 34 a1.toNatClampNeg))).2))) else (if (I 30 a1.toNatClampNeg) = 1 then (if a2 = 0 then (((s_X5_pushTo I (I 31 a1.toNatClampNeg) ((I 36 (I 32 a1.toNatClampNeg).toNatClampNeg) + (I 33 a1.toNatClampNeg))).1), ((s_X5_pushTo I (I 31 a1.toNatClampNeg) ((I 36 (I 32 a1.toNatClampNeg).toNatClampNeg) + (I 33 a1.toNatClampNeg))).2)) else (((s_X5_pushTo I (I 32 a1.toNatClampNeg) ((I 36 (I 31 a1.toNatClampNeg).toNatClampNeg) + (I 33 a1.toNatClampNeg))).1), ((s_X5_pushTo I (I 32 a1.toNatClampNeg) ((I 36 (I 31 a1.toNatClampNeg).toNatClampNeg) + (I 33 a1.toNatClampNeg))).2))) else (if ((s_X5_pushTo I (I 31 a1.toNatClampNeg) (I 36 (I 32 a1.toNatClampNeg).toNatClampNeg)).1) = 0 then (if ((s_X5_pushTo ((s_X5_pushTo I (I 31 a1.toNatClampNeg) (I 36 (I 32 a1.toNatClampNeg).toNatClampNeg)).2) (I 32 a1.toNatClampNeg) (((s_X5_pushTo I (I 31 a1.toNatClampNeg) (I 36 (I 32 a1.toNatClampNeg).toNatClampNeg)).2) 36 (I 31 a1.toNatClampNeg).toNatClampNeg)).1) = 0 then (0, ((s_X5_pushTo ((s_X5_pushTo I (I 31 a1.toNatClampNeg) (I 36 (I 32 a1.toNatClampNeg).toNatClampNeg)).2) (I 32 a1.toNatClampNeg) (((s_X5_pushTo I (I 31 a1.toNatClampNeg) (I 36 (I 32 a1.toNatClampNeg).toNatClampNeg)).2) 36 (I 31 a1.toNatClampNeg).toNatClampNeg)).2)) else (1, ((s_X5_pushTo ((s_X5_pushTo I (I 31 a1.toNatClampNeg) (I 36 (I 32 a1.toNatClampNeg).toNatClampNeg)).2) (I 32 a1.toNatClampNeg) (((s_X5_pushTo I (I 31 a1.toNatClampNeg) (I 36 (I 32 a1.toNatClampNeg).toNatClampNeg)).2) 36 (I 31 a1.toNatClampNeg).toNatClampNeg)).2))) else (1, ((s_X5_pushTo ((s_X5_pushTo I (I 31 a1.toNatClampNeg) (I 36 (I 32 a1.toNatClampNeg).toNatClampNeg)).2) (I 32 a1.toNatClampNeg) (((s_X5_pushTo I (I 31 a1.toNatClampNeg) (I 36 (I 32 a1.toNatClampNeg).toNatClampNeg)).2) 36 (I 31 a1.toNatClampNeg).toNatClampNeg)).2)))))
def p_X5_pushDays (I : am_I) (a1 : Int32) (a2 : Int32) : Prop := (vp_in a1 12 ∧ (vp_in a1 12 ∧ (vp_in a1 12 ∧ (if (I 30 a1.toNatClampNeg) = 0 then (if a2 = 0 then (vp_in a1 12 ∧ (p_X5_pushTo I (I 31 a1.toNatClampNeg) (I 33 a1.toNatClampNeg))) else (vp_in a1 12 ∧ (p_X5_pushTo I (I 31 a1.toNatClampNeg) (9999 - (I 34 a1.toNatClampNeg))))) else (if (I 30 a1.toNatClampNeg) = 1 then (if a2 = 0 then (vp_in (I 32 a1.toNatClampNeg) 10 ∧ (vp_in a1 12 ∧ (p_X5_pushTo I (I 31 a1.toNatClampNeg) ((I 36 (I 32 a1.toNatClampNeg).toNatClampNeg) + (I 33 a1.toNatClampNeg))))) else (vp_in (I 31 a1.toNatClampNeg) 10 ∧ (vp_in a1 12 ∧ (p_X5_pushTo I (I 32 a1.toNatClampNeg) ((I 36 (I 31 a1.toNatClampNeg).toNatClampNeg) + (I 33 a1.toNatClampNeg)))))) else (vp_in (I 32 a1.toNatClampNeg) 10 ∧ ((p_X5_pushTo I (I 31 a1.toNatClampNeg) (I 36 (I 32 a1.toNatClampNeg).toNatClampNeg)) ∧ (vp_in (I 31 a1.toNatClampNeg) 10 ∧ (p_X5_pushTo ((s_X5_pushTo I (I 31 a1.toNatClampNeg) (I 36 (I 32 a1.toNatClampNeg).toNatClampNeg)).2) (I 32 a1.toNatClampNeg) (((s_X5_pushTo I (I 31 a1.toNatClampNeg) (I 36 (I 32 a1.toNatClampNeg).toNatClampNeg)).2) 36 (I 31 a1.toNatClampNeg).toNatClampNeg))))))))))
theorem z_X5_pushDays (I : am_I) (a1 : Int32) (a2 : Int32) : (s_X5_pushDays I a1 a2).1 = 0 ∨ (s_X5_pushDays I a1 a2).1 = 1 := by
  unfold s_X5_pushDays
  repeat' split
  all_goals first | exact Or.inl rfl | exact Or.inr rfl | exact z_X5_pushTo _ _ _
set_option maxRecDepth 100000 in
set_option maxHeartbeats 4000000 in
theorem gt_X5_pushDays (f : Nat) (I : am_I) (J : am_J) (Q : am_Q) (hG : Gr Q) (a1 : Int32) (a2 : Int32) (hp : p_X5_pushDays I a1 a2) : Gd MX5_pushDays (am_o 2 0 0 (am_FiI J Q (s_X5_pushDays I a1 a2))) 0 0 92 0 [some (.ref 29), some (.int a1), some (.int a2), none, none, none, none] [] I J Q := by
  unfold s_X5_pushDays
  unfold p_X5_pushDays at hp
  refine gd_aload_n (q := 1) rfl rfl rfl ?_
  refine gd_getR (q := 4) (r := 31) rfl rfl rfl (Nat.le_of_ble_eq_true rfl) rfl rfl (gr_29_1 hG) ?_
  refine gd_iload_n (q := 5) rfl rfl rfl ?_
  refine gd_iald (q := 6) rfl rfl (Nat.le_of_ble_eq_true rfl) rfl hp.1 ?_
  replace hp := hp.2
  refine gd_istore_n (q := 7) rfl rfl (Nat.le_of_ble_eq_true rfl) rfl ?_
  refine gd_aload_n (q := 8) rfl rfl rfl ?_
  refine gd_getR (q := 11) (r := 32) rfl rfl rfl (Nat.le_of_ble_eq_true rfl) rfl rfl (gr_29_2 hG) ?_
  refine gd_iload_n (q := 12) rfl rfl rfl ?_
  refine gd_iald (q := 13) rfl rfl (Nat.le_of_ble_eq_true rfl) rfl hp.1 ?_
  replace hp := hp.2
  refine gd_istore (q := 15) rfl rfl (Nat.le_of_ble_eq_true rfl) rfl ?_
  refine gd_aload_n (q := 16) rfl rfl rfl ?_
  refine gd_getR (q := 19) (r := 30) rfl rfl rfl (Nat.le_of_ble_eq_true rfl) rfl rfl (gr_29_0 hG) ?_
  refine gd_iload_n (q := 20) rfl rfl rfl ?_
  refine gd_iald (q := 21) rfl rfl (Nat.le_of_ble_eq_true rfl) rfl hp.1 ?_
  replace hp := hp.2
  refine gx_ite hp (fun c_21_0 hp => ?_) (fun c_21_0 hp => ?_)
  · refine gd_lookup (q := 48) rfl (by decide) (by first | (rw [c_21_0]; done) | (rw [c_21_0]; rfl)) rfl ?_
    refine gd_aload_n (q := 49) rfl rfl rfl ?_
    refine gd_iload_n (q := 50) rfl rfl rfl ?_
    refine gd_iload_n (q := 51) rfl rfl rfl ?_
    refine gx_if_eq (q := 54) (r := 67) rfl rfl rfl hp (fun c_51 hp => ?_) (fun c_51 hp => ?_)
    · refine gd_aload_n (q := 68) rfl rfl rfl ?_
      refine gd_getR (q := 71) (r := 33) rfl rfl rfl (Nat.le_of_ble_eq_true rfl) rfl rfl (gr_29_3 hG) ?_
      refine gd_iload_n (q := 72) rfl rfl rfl ?_
      refine gd_iald (q := 73) rfl rfl (Nat.le_of_ble_eq_true rfl) rfl hp.1 ?_
      replace hp := hp.2
      refine gd_cVi (q := 76) rfl rfl lk5_68 myX5_pushTo vxX5_pushTo (ct_X5_pushTo f I J Q hG (I 31 a1.toNatClampNeg) (I 33 a1.toNatClampNeg) hp) rfl (Nat.le_of_ble_eq_true rfl) rfl rfl (Nat.le_of_ble_eq_true rfl) rfl (Nat.le_of_ble_eq_true rfl) ⟨(Nat.le_of_ble_eq_true rfl), (Nat.le_of_ble_eq_true rfl)⟩ ?_
      exact gd_ireturn rfl rfl (am_zn (z_X5_pushTo I (I 31 a1.toNatClampNeg) (I 33 a1.toNatClampNeg))) (Nat.le_refl 0) (Nat.le_refl 0) rfl
    · refine gd_sipush (v := 9999) (q := 57) rfl rfl rfl ?_
      refine gd_aload_n (q := 58) rfl rfl rfl ?_
      refine gd_getR (q := 61) (r := 34) rfl rfl rfl (Nat.le_of_ble_eq_true rfl) rfl rfl (gr_29_4 hG) ?_
      refine gd_iload_n (q := 62) rfl rfl rfl ?_
      refine gd_iald (q := 63) rfl rfl (Nat.le_of_ble_eq_true rfl) rfl hp.1 ?_
      replace hp := hp.2
      refine gd_isub (q := 64) rfl rfl ?_
      refine gd_goto (q := 73) rfl rfl ?_
      refine gd_cVi (q := 76) rfl rfl lk5_68 myX5_pushTo vxX5_pushTo (ct_X5_pushTo f I J Q hG (I 31 a1.toNatClampNeg) (9999 - (I 34 a1.toNatClampNeg)) hp) rfl (Nat.le_of_ble_eq_true rfl) rfl rfl (Nat.le_of_ble_eq_true rfl) rfl (Nat.le_of_ble_eq_true rfl) ⟨(Nat.le_of_ble_eq_true rfl), (Nat.le_of_ble_eq_true rfl)⟩ ?_
      exact gd_ireturn rfl rfl (am_zn (z_X5_pushTo I (I 31 a1.toNatClampNeg) (9999 - (I 34 a1.toNatClampNeg)))) (Nat.le_refl 0) (Nat.le_refl 0) rfl
  · refine gx_ite hp (fun c_21_1 hp => ?_) (fun c_21_1 hp => ?_)
    · refine gd_lookup (q := 77) rfl (by decide) (by first | (rw [c_21_1]; done) | (rw [c_21_1]; rfl)) rfl ?_
      refine gd_iload_n (q := 78) rfl rfl rfl ?_
      refine gx_if_eq (q := 81) (r := 103) rfl rfl rfl hp (fun c_78 hp => ?_) (fun c_78 hp => ?_)
      · refine gd_aload_n (q := 104) rfl rfl rfl ?_
        refine gd_iload_n (q := 105) rfl rfl rfl ?_
        refine gd_aload_n (q := 106) rfl rfl rfl ?_
        refine gd_getR (q := 109) (r := 36) rfl rfl rfl (Nat.le_of_ble_eq_true rfl) rfl rfl (gr_29_6 hG) ?_
        refine gd_iload (q := 111) rfl rfl rfl ?_
        refine gd_iald (q := 112) rfl rfl (Nat.le_of_ble_eq_true rfl) rfl hp.1 ?_
        replace hp := hp.2
        refine gd_aload_n (q := 113) rfl rfl rfl ?_
        refine gd_getR (q := 116) (r := 33) rfl rfl rfl (Nat.le_of_ble_eq_true rfl) rfl rfl (gr_29_3 hG) ?_
        refine gd_iload_n (q := 117) rfl rfl rfl ?_
        refine gd_iald (q := 118) rfl rfl (Nat.le_of_ble_eq_true rfl) rfl hp.1 ?_
        replace hp := hp.2
        refine gd_iadd (q := 119) rfl rfl ?_
        refine gd_cVi (q := 122) rfl rfl lk5_68 myX5_pushTo vxX5_pushTo (ct_X5_pushTo f I J Q hG (I 31 a1.toNatClampNeg) ((I 36 (I 32 a1.toNatClampNeg).toNatClampNeg) + (I 33 a1.toNatClampNeg)) hp) rfl (Nat.le_of_ble_eq_true rfl) rfl rfl (Nat.le_of_ble_eq_true rfl) rfl (Nat.le_of_ble_eq_true rfl) ⟨(Nat.le_of_ble_eq_true rfl), (Nat.le_of_ble_eq_true rfl)⟩ ?_
        exact gd_ireturn rfl rfl (am_zn (z_X5_pushTo I (I 31 a1.toNatClampNeg) ((I 36 (I 32 a1.toNatClampNeg).toNatClampNeg) + (I 33 a1.toNatClampNeg)))) (Nat.le_refl 0) (Nat.le_refl 0) rfl
      · refine gd_aload_n (q := 82) rfl rfl rfl ?_
        refine gd_iload (q := 84) rfl rfl rfl ?_
        refine gd_aload_n (q := 85) rfl rfl rfl ?_
        refine gd_getR (q := 88) (r := 36) rfl rfl rfl (Nat.le_of_ble_eq_true rfl) rfl rfl (gr_29_6 hG) ?_
        refine gd_iload_n (q := 89) rfl rfl rfl ?_
        refine gd_iald (q := 90) rfl rfl (Nat.le_of_ble_eq_true rfl) rfl hp.1 ?_
        replace hp := hp.2
        refine gd_aload_n (q := 91) rfl rfl rfl ?_
        refine gd_getR (q := 94) (r := 33) rfl rfl rfl (Nat.le_of_ble_eq_true rfl) rfl rfl (gr_29_3 hG) ?_
        refine gd_iload_n (q := 95) rfl rfl rfl ?_
        refine gd_iald (q := 96) rfl rfl (Nat.le_of_ble_eq_true rfl) rfl hp.1 ?_
        replace hp := hp.2
        refine gd_iadd (q := 97) rfl rfl ?_
        refine gd_cVi (q := 100) rfl rfl lk5_68 myX5_pushTo vxX5_pushTo (ct_X5_pushTo f I J Q hG (I 32 a1.toNatClampNeg) ((I 36 (I 31 a1.toNatClampNeg).toNatClampNeg) + (I 33 a1.toNatClampNeg)) hp) rfl (Nat.le_of_ble_eq_true rfl) rfl rfl (Nat.le_of_ble_eq_true rfl) rfl (Nat.le_of_ble_eq_true rfl) ⟨(Nat.le_of_ble_eq_true rfl), (Nat.le_of_ble_eq_true rfl)⟩ ?_
        refine gd_goto (q := 122) rfl rfl ?_
        exact gd_ireturn rfl rfl (am_zn (z_X5_pushTo I (I 32 a1.toNatClampNeg) ((I 36 (I 31 a1.toNatClampNeg).toNatClampNeg) + (I 33 a1.toNatClampNeg)))) (Nat.le_refl 0) (Nat.le_refl 0) rfl
    · refine gd_lookup (off := 102) (q := 123) rfl (by decide) (by show Op.lookupswitch.offset [(0, 27), (1, 56)] 102 _ = _; rw [lv_osw c_21_0 rfl]; rw [lv_osw c_21_1 rfl]; first | done | rfl) rfl ?_
      refine gd_aload_n (q := 124) rfl rfl rfl ?_
      refine gd_iload_n (q := 125) rfl rfl rfl ?_
      refine gd_aload_n (q := 126) rfl rfl rfl ?_
      refine gd_getR (q := 129) (r := 36) rfl rfl rfl (Nat.le_of_ble_eq_true rfl) rfl rfl (gr_29_6 hG) ?_
      refine gd_iload (q := 131) rfl rfl rfl ?_
      refine gd_iald (q := 132) rfl rfl (Nat.le_of_ble_eq_true rfl) rfl hp.1 ?_
      replace hp := hp.2
      refine gd_cVi (q := 135) rfl rfl lk5_68 myX5_pushTo vxX5_pushTo (ct_X5_pushTo f I J Q hG (I 31 a1.toNatClampNeg) (I 36 (I 32 a1.toNatClampNeg).toNatClampNeg) hp.1) rfl (Nat.le_of_ble_eq_true rfl) rfl rfl (Nat.le_of_ble_eq_true rfl) rfl (Nat.le_of_ble_eq_true rfl) ⟨(Nat.le_of_ble_eq_true rfl), (Nat.le_of_ble_eq_true rfl)⟩ ?_
      replace hp := hp.2
      refine gd_istore (q := 137) rfl rfl (Nat.le_of_ble_eq_true rfl) rfl ?_
      refine gd_aload_n (q := 138) rfl rfl rfl ?_
      refine gd_iload (q := 140) rfl rfl rfl ?_
      refine gd_aload_n (q := 141) rfl rfl rfl ?_
      refine gd_getR (q := 144) (r := 36) rfl rfl rfl (Nat.le_of_ble_eq_true rfl) rfl rfl (gr_29_6 hG) ?_
      refine gd_iload_n (q := 145) rfl rfl rfl ?_
      refine gd_iald (q := 146) rfl rfl (Nat.le_of_ble_eq_true rfl) rfl hp.1 ?_
      replace hp := hp.2
      refine gd_cVi (q := 149) rfl rfl lk5_68 myX5_pushTo vxX5_pushTo (ct_X5_pushTo f ((s_X5_pushTo I (I 31 a1.toNatClampNeg) (I 36 (I 32 a1.toNatClampNeg).toNatClampNeg)).2) J Q hG (I 32 a1.toNatClampNeg) (((s_X5_pushTo I (I 31 a1.toNatClampNeg) (I 36 (I 32 a1.toNatClampNeg).toNatClampNeg)).2) 36 (I 31 a1.toNatClampNeg).toNatClampNeg) hp) rfl (Nat.le_of_ble_eq_true rfl) rfl rfl (Nat.le_of_ble_eq_true rfl) rfl (Nat.le_of_ble_eq_true rfl) ⟨(Nat.le_of_ble_eq_true rfl), (Nat.le_of_ble_eq_true rfl)⟩ ?_
      refine gd_istore (q := 151) rfl rfl (Nat.le_of_ble_eq_true rfl) rfl ?_
      refine gd_iload (q := 153) rfl rfl rfl ?_
      refine gy_if_ne (q := 156) (r := 161) rfl rfl rfl (fun c_153 => ?_) (fun c_153 => ?_)
      · refine gd_iload (q := 158) rfl rfl rfl ?_
        refine gy_if_eq (q := 161) (r := 165) rfl rfl rfl (fun c_158 => ?_) (fun c_158 => ?_)
        · refine gd_iconst (v := 0) (q := 166) rfl rfl rfl ?_
          exact gd_ireturn rfl rfl rfl (Nat.le_refl 0) (Nat.le_refl 0) rfl
        · refine gd_iconst (v := 1) (q := 162) rfl rfl rfl ?_
          refine gd_goto (q := 166) rfl rfl ?_
          exact gd_ireturn rfl rfl rfl (Nat.le_refl 0) (Nat.le_refl 0) rfl
      · refine gd_iconst (v := 1) (q := 162) rfl rfl rfl ?_
        refine gd_goto (q := 166) rfl rfl ?_
        exact gd_ireturn rfl rfl rfl (Nat.le_refl 0) (Nat.le_refl 0) rfl
theorem ct_X5_pushDays (f : Nat) (I : am_I) (J : am_J) (Q : am_Q) (hG : Gr Q) (a1 : Int32) (a2 : Int32) (hp : p_X5_pushDays I a1 a2) : Cm MX5_pushDays 2 0 0 92 [.ref 29, .int a1, .int a2] I J Q (am_FiI J Q (s_X5_pushDays I a1 a2)) := cm_of (by decide) rfl IX5_pushDays_ok (Nat.le_of_ble_eq_true rfl) (gt_X5_pushDays f I J Q hG a1 a2 hp)
def s_X5_settle_L (a1 : Int32) (a2 : Int32) (a3 : Int32) (f : Nat) : Nat → Nat → Int32 → Int32 → Int32 → am_I → Int32 × am_I
  | 0, _, _, _, _, I => (0, I)
  | g + 1, 0, v4, v5, v6, I => (if 10 < v4 then (0, I) else (s_X5_settle_L a1 a2 a3 f g 1 v4 0 0 I))
  | g + 1, 1, v4, v5, v6, I => (if a1 ≤ v6 then (if v5 = 0 then ((s_X5_areWithin f I a1 a2 a3), I) else (s_X5_settle_L a1 a2 a3 f g 0 (v4 + 1) 0 0 I)) else (if ((a2 >>> (v6 &&& 31)) &&& 1) = 0 then (if ((s_X5_pushDays I v6 a3).1) = 0 then (s_X5_settle_L a1 a2 a3 f g 1 v4 v5 (v6 + 1) ((s_X5_pushDays I v6 a3).2)) else (s_X5_settle_L a1 a2 a3 f g 1 v4 1 (v6 + 1) ((s_X5_pushDays I v6 a3).2))) else (s_X5_settle_L a1 a2 a3 f g 1 v4 v5 (v6 + 1) I)))
  | _ + 1, _ + 2, _, _, _, I => (0, I)
def p_X5_settle_L (a1 : Int32) (a2 : Int32) (a3 : Int32) (f : Nat) : Nat → Nat → Int32 → Int32 → Int32 → am_I → Prop
  | 0, _, _, _, _, _ => False
  | g + 1, 0, v4, v5, v6, I => (if 10 < v4 then True else (p_X5_settle_L a1 a2 a3 f g 1 v4 0 0 I))
  | g + 1, 1, v4, v5, v6, I => (if a1 ≤ v6 then (if v5 = 0 then ((p_X5_areWithin f I a1 a2 a3) ∧ ((s_X5_areWithin f I a1 a2 a3) = 0 ∨ (s_X5_areWithin f I a1 a2 a3) = 1)) else (p_X5_settle_L a1 a2 a3 f g 0 (v4 + 1) 0 0 I)) else (if ((a2 >>> (v6 &&& 31)) &&& 1) = 0 then ((p_X5_pushDays I v6 a3) ∧ (if ((s_X5_pushDays I v6 a3).1) = 0 then (p_X5_settle_L a1 a2 a3 f g 1 v4 v5 (v6 + 1) ((s_X5_pushDays I v6 a3).2)) else (p_X5_settle_L a1 a2 a3 f g 1 v4 1 (v6 + 1) ((s_X5_pushDays I v6 a3).2)))) else (p_X5_settle_L a1 a2 a3 f g 1 v4 v5 (v6 + 1) I)))
  | _ + 1, _ + 2, _, _, _, _ => False
def s_X5_settle (f : Nat) (I : am_I) (a1 : Int32) (a2 : Int32) (a3 : Int32) : Int32 × am_I := (s_X5_settle_L a1 a2 a3 f f 0 0 0 0 (s_J7_fill_53178_36 f I 0))
def p_X5_settle (f : Nat) (I : am_I) (a1 : Int32) (a2 : Int32) (a3 : Int32) : Prop := ((p_J7_fill_53178_36 f I 0) ∧ (p_X5_settle_L a1 a2 a3 f f 0 0 0 0 (s_J7_fill_53178_36 f I 0)))
set_option maxRecDepth 100000 in
set_option maxHeartbeats 4000000 in
theorem gl_X5_settle (a1 : Int32) (a2 : Int32) (a3 : Int32) (f : Nat) (J : am_J) (Q : am_Q) (hG : Gr Q) : ∀ g : Nat, (∀ (v4 : Int32) (v5 : Int32) (v6 : Int32) (I : am_I), p_X5_settle_L a1 a2 a3 f g 0 v4 0 0 I → Gd MX5_settle (am_o 3 0 0 (am_FiI J Q (s_X5_settle_L a1 a2 a3 f g 0 v4 0 0 I))) 0 0 92 11 [some (.ref 29), some (.int a1), some (.int a2), some (.int a3), some (.int v4), none, none] [] I J Q) ∧ (∀ (v4 : Int32) (v5 : Int32) (v6 : Int32) (I : am_I), p_X5_settle_L a1 a2 a3 f g 1 v4 v5 v6 I → Gd MX5_settle (am_o 3 0 0 (am_FiI J Q (s_X5_settle_L a1 a2 a3 f g 1 v4 v5 v6 I))) 0 0 92 24 [some (.ref 29), some (.int a1), some (.int a2), some (.int a3), some (.int v4), some (.int v5), some (.int v6)] [] I J Q) := by
  intro g
  induction g with
  | zero => exact ⟨fun _ _ _ _ hp => False.elim hp, fun _ _ _ _ hp => False.elim hp⟩
  | succ g ih =>
    have ih_11 := ih.1
    have ih_24 := ih.2
    refine ⟨?_, ?_⟩
    · intro v4 v5 v6 I hp
      rw [s_X5_settle_L]
      rw [p_X5_settle_L] at hp
      refine gd_iload (q := 13) rfl rfl rfl ?_
      refine gd_bipush (v := 10) (q := 15) rfl rfl rfl ?_
      refine gx_icmp_gt (q := 18) (r := 77) rfl rfl rfl hp (fun c_15 hp => ?_) (fun c_15 hp => ?_)
      · refine gd_iconst (v := 0) (q := 78) rfl rfl rfl ?_
        exact gd_ireturn rfl rfl rfl (Nat.le_refl 0) (Nat.le_refl 0) rfl
      · refine gd_iconst (v := 0) (q := 19) rfl rfl rfl ?_
        refine gd_istore (q := 21) rfl rfl (Nat.le_of_ble_eq_true rfl) rfl ?_
        refine gd_iconst (v := 0) (q := 22) rfl rfl rfl ?_
        refine gd_istore (q := 24) rfl rfl (Nat.le_of_ble_eq_true rfl) rfl ?_
        exact ih_24 v4 0 0 I hp
    · intro v4 v5 v6 I hp
      rw [s_X5_settle_L]
      rw [p_X5_settle_L] at hp
      refine gd_iload (q := 26) rfl rfl rfl ?_
      refine gd_iload_n (q := 27) rfl rfl rfl ?_
      refine gx_icmp_ge (q := 30) (r := 58) rfl rfl rfl hp (fun c_27 hp => ?_) (fun c_27 hp => ?_)
      · refine gd_iload (q := 60) rfl rfl rfl ?_
        refine gx_if_ne (q := 63) (r := 71) rfl rfl rfl hp (fun c_60 hp => ?_) (fun c_60 hp => ?_)
        · refine gd_aload_n (q := 64) rfl rfl rfl ?_
          refine gd_iload_n (q := 65) rfl rfl rfl ?_
          refine gd_iload_n (q := 66) rfl rfl rfl ?_
          refine gd_iload_n (q := 67) rfl rfl rfl ?_
          refine gd_cVi (q := 70) rfl rfl lk5_65 myX5_areWithin vxX5_areWithin (ct_X5_areWithin f I J Q hG a1 a2 a3 hp.1) rfl (Nat.le_of_ble_eq_true rfl) rfl rfl (Nat.le_of_ble_eq_true rfl) rfl (Nat.le_of_ble_eq_true rfl) ⟨(Nat.le_of_ble_eq_true rfl), (Nat.le_of_ble_eq_true rfl)⟩ ?_
          replace hp := hp.2
          exact gd_ireturn rfl rfl (am_zn hp) (Nat.le_refl 0) (Nat.le_refl 0) rfl
        · refine gd_iinc (v := (v4 + 1)) (q := 74) rfl rfl rfl rfl (Nat.le_of_ble_eq_true rfl) rfl ?_
          refine gd_goto (q := 11) rfl rfl ?_
          refine gd_drop 5 ?_
          refine gd_drop 6 ?_
          exact ih_11 (v4 + 1) 0 0 I hp
      · refine gd_iload_n (q := 31) rfl rfl rfl ?_
        refine gd_iload (q := 33) rfl rfl rfl ?_
        refine gd_ishr (q := 34) rfl rfl ?_
        refine gd_iconst (v := 1) (q := 35) rfl rfl rfl ?_
        refine gd_iand (q := 36) rfl rfl ?_
        refine gx_if_ne (q := 39) (r := 52) rfl rfl rfl hp (fun c_36 hp => ?_) (fun c_36 hp => ?_)
        · refine gd_aload_n (q := 40) rfl rfl rfl ?_
          refine gd_iload (q := 42) rfl rfl rfl ?_
          refine gd_iload_n (q := 43) rfl rfl rfl ?_
          refine gd_cVi (q := 46) rfl rfl lk5_61 myX5_pushDays vxX5_pushDays (ct_X5_pushDays f I J Q hG v6 a3 hp.1) rfl (Nat.le_of_ble_eq_true rfl) rfl rfl (Nat.le_of_ble_eq_true rfl) rfl (Nat.le_of_ble_eq_true rfl) ⟨(Nat.le_of_ble_eq_true rfl), (Nat.le_of_ble_eq_true rfl)⟩ ?_
          replace hp := hp.2
          refine gx_if_eq (q := 49) (r := 52) rfl rfl rfl hp (fun c_46 hp => ?_) (fun c_46 hp => ?_)
          · refine gd_iinc (v := (v6 + 1)) (q := 55) rfl rfl rfl rfl (Nat.le_of_ble_eq_true rfl) rfl ?_
            refine gd_goto (q := 24) rfl rfl ?_
            exact ih_24 v4 v5 (v6 + 1) ((s_X5_pushDays I v6 a3).2) hp
          · refine gd_iconst (v := 1) (q := 50) rfl rfl rfl ?_
            refine gd_istore (q := 52) rfl rfl (Nat.le_of_ble_eq_true rfl) rfl ?_
            refine gd_iinc (v := (v6 + 1)) (q := 55) rfl rfl rfl rfl (Nat.le_of_ble_eq_true rfl) rfl ?_
            refine gd_goto (q := 24) rfl rfl ?_
            exact ih_24 v4 1 (v6 + 1) ((s_X5_pushDays I v6 a3).2) hp
        · refine gd_iinc (v := (v6 + 1)) (q := 55) rfl rfl rfl rfl (Nat.le_of_ble_eq_true rfl) rfl ?_
          refine gd_goto (q := 24) rfl rfl ?_
          exact ih_24 v4 v5 (v6 + 1) I hp
theorem gl_X5_settle_11 (a1 : Int32) (a2 : Int32) (a3 : Int32) (f : Nat) (J : am_J) (Q : am_Q) (hG : Gr Q) (g : Nat) : ∀ (v4 : Int32) (v5 : Int32) (v6 : Int32) (I : am_I), p_X5_settle_L a1 a2 a3 f g 0 v4 0 0 I → Gd MX5_settle (am_o 3 0 0 (am_FiI J Q (s_X5_settle_L a1 a2 a3 f g 0 v4 0 0 I))) 0 0 92 11 [some (.ref 29), some (.int a1), some (.int a2), some (.int a3), some (.int v4), none, none] [] I J Q := (gl_X5_settle a1 a2 a3 f J Q hG g).1
theorem gl_X5_settle_24 (a1 : Int32) (a2 : Int32) (a3 : Int32) (f : Nat) (J : am_J) (Q : am_Q) (hG : Gr Q) (g : Nat) : ∀ (v4 : Int32) (v5 : Int32) (v6 : Int32) (I : am_I), p_X5_settle_L a1 a2 a3 f g 1 v4 v5 v6 I → Gd MX5_settle (am_o 3 0 0 (am_FiI J Q (s_X5_settle_L a1 a2 a3 f g 1 v4 v5 v6 I))) 0 0 92 24 [some (.ref 29), some (.int a1), some (.int a2), some (.int a3), some (.int v4), some (.int v5), some (.int v6)] [] I J Q := (gl_X5_settle a1 a2 a3 f J Q hG g).2
set_option maxRecDepth 100000 in
set_option maxHeartbeats 4000000 in
theorem gt_X5_settle (f : Nat) (I : am_I) (J : am_J) (Q : am_Q) (hG : Gr Q) (a1 : Int32) (a2 : Int32) (a3 : Int32) (hp : p_X5_settle f I a1 a2 a3) : Gd MX5_settle (am_o 3 0 0 (am_FiI J Q (s_X5_settle f I a1 a2 a3))) 0 0 92 0 [some (.ref 29), some (.int a1), some (.int a2), some (.int a3), none, none, none] [] I J Q := by
  unfold s_X5_settle
  unfold p_X5_settle at hp
  refine gd_aload_n (q := 1) rfl rfl rfl ?_
  refine gd_getR (q := 4) (r := 36) rfl rfl rfl (Nat.le_of_ble_eq_true rfl) rfl rfl (gr_29_6 hG) ?_
  refine gd_iconst (v := 0) (q := 5) rfl rfl rfl ?_
  refine gd_cSv (q := 8) rfl rfl lk5_55 myJ7_fill_53178 sxJ7_fill_53178 (ct_J7_fill_53178_36 f I J Q hG 0 hp.1) rfl rfl (Nat.le_of_ble_eq_true rfl) ⟨(Nat.le_of_ble_eq_true rfl), (Nat.le_of_ble_eq_true rfl)⟩ ?_
  replace hp := hp.2
  refine gd_iconst (v := 0) (q := 9) rfl rfl rfl ?_
  refine gd_istore (q := 11) rfl rfl (Nat.le_of_ble_eq_true rfl) rfl ?_
  exact gl_X5_settle_11 a1 a2 a3 f J Q hG f 0 0 0 (s_J7_fill_53178_36 f I 0) hp
theorem ct_X5_settle (f : Nat) (I : am_I) (J : am_J) (Q : am_Q) (hG : Gr Q) (a1 : Int32) (a2 : Int32) (a3 : Int32) (hp : p_X5_settle f I a1 a2 a3) : Cm MX5_settle 3 0 0 92 [.ref 29, .int a1, .int a2, .int a3] I J Q (am_FiI J Q (s_X5_settle f I a1 a2 a3)) := cm_of (by decide) rfl IX5_settle_ok (Nat.le_of_ble_eq_true rfl) (gt_X5_settle f I J Q hG a1 a2 a3 hp)
