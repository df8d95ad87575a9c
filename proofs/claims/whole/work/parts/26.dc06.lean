def s_X4_pieceAt_L2 (a1 : Int32) (a2 : Int32) (I : am_I) : Nat → Int32 → Int32
  | 0, _ => 0
  | g + 1, v3 => (if (I 15 11) ≤ v3 then (-1) else (if (I 19 v3.toNatClampNeg) = a1 then (if a2 < (I 20 v3.toNatClampNeg) then (s_X4_pieceAt_L2 a1 a2 I g (v3 + 1)) else (if (I 21 v3.toNatClampNeg) ≤ a2 then (s_X4_pieceAt_L2 a1 a2 I g (v3 + 1)) else v3)) else (s_X4_pieceAt_L2 a1 a2 I g (v3 + 1))))
def p_X4_pieceAt_L2 (a1 : Int32) (a2 : Int32) (I : am_I) : Nat → Int32 → Prop
  | 0, _ => False
  | g + 1, v3 => (if (I 15 11) ≤ v3 then True else (vp_in v3 30 ∧ (if (I 19 v3.toNatClampNeg) = a1 then (vp_in v3 30 ∧ (if a2 < (I 20 v3.toNatClampNeg) then (p_X4_pieceAt_L2 a1 a2 I g (v3 + 1)) else (vp_in v3 30 ∧ (if (I 21 v3.toNatClampNeg) ≤ a2 then (p_X4_pieceAt_L2 a1 a2 I g (v3 + 1)) else True)))) else (p_X4_pieceAt_L2 a1 a2 I g (v3 + 1)))))
def s_X4_pieceAt (f : Nat) (I : am_I) (a1 : Int32) (a2 : Int32) : Int32 := (s_X4_pieceAt_L2 a1 a2 I f 0)
def p_X4_pieceAt (f : Nat) (I : am_I) (a1 : Int32) (a2 : Int32) : Prop := (p_X4_pieceAt_L2 a1 a2 I f 0)
set_option maxRecDepth 100000 in
set_option maxHeartbeats 4000000 in
theorem gl_X4_pieceAt_L2 (a1 : Int32) (a2 : Int32) (f : Nat) (I : am_I) (J : am_J) (Q : am_Q) (hG : Gr Q) : ∀ g : Nat, (∀ (v3 : Int32), p_X4_pieceAt_L2 a1 a2 I g v3 → Gd MX4_pieceAt (am_o 0 0 0 (am_Fi I J Q (s_X4_pieceAt_L2 a1 a2 I g v3))) 0 0 92 2 [some (.ref 15), some (.int a1), some (.int a2), some (.int v3)] [] I J Q) := by
  intro g
  induction g with
  | zero => exact fun _ hp => False.elim hp
  | succ g ih =>
    have ih_2 := ih
    intro v3 hp
    rw [s_X4_pieceAt_L2]
    rw [p_X4_pieceAt_L2] at hp
    refine gd_iload_n (q := 3) rfl rfl rfl ?_
    refine gd_aload_n (q := 4) rfl rfl rfl ?_
    refine gd_getI (q := 7) rfl rfl rfl (Nat.le_of_ble_eq_true rfl) rfl rfl ?_
    refine gx_icmp_ge (q := 10) (r := 48) rfl rfl rfl hp (fun c_7 hp => ?_) (fun c_7 hp => ?_)
    · refine gd_iconst (v := (-1)) (q := 49) rfl rfl rfl ?_
      exact gd_ireturn rfl rfl rfl (Nat.le_refl 0) (Nat.le_refl 0) rfl
    · refine gd_aload_n (q := 11) rfl rfl rfl ?_
      refine gd_getR (q := 14) (r := 19) rfl rfl rfl (Nat.le_of_ble_eq_true rfl) rfl rfl (gr_15_4 hG) ?_
      refine gd_iload_n (q := 15) rfl rfl rfl ?_
      refine gd_iald (q := 16) rfl rfl (Nat.le_of_ble_eq_true rfl) rfl hp.1 ?_
      replace hp := hp.2
      refine gd_iload_n (q := 17) rfl rfl rfl ?_
      refine gx_icmp_ne (q := 20) (r := 42) rfl rfl rfl hp (fun c_17 hp => ?_) (fun c_17 hp => ?_)
      · refine gd_iload_n (q := 21) rfl rfl rfl ?_
        refine gd_aload_n (q := 22) rfl rfl rfl ?_
        refine gd_getR (q := 25) (r := 20) rfl rfl rfl (Nat.le_of_ble_eq_true rfl) rfl rfl (gr_15_5 hG) ?_
        refine gd_iload_n (q := 26) rfl rfl rfl ?_
        refine gd_iald (q := 27) rfl rfl (Nat.le_of_ble_eq_true rfl) rfl hp.1 ?_
        replace hp := hp.2
        refine gx_icmp_lt (q := 30) (r := 42) rfl rfl rfl hp (fun c_27 hp => ?_) (fun c_27 hp => ?_)
        · refine gd_iinc (v := (v3 + 1)) (q := 45) rfl rfl rfl rfl (Nat.le_of_ble_eq_true rfl) rfl ?_
          refine gd_goto (q := 2) rfl rfl ?_
          exact ih_2 _ hp
        · refine gd_iload_n (q := 31) rfl rfl rfl ?_
          refine gd_aload_n (q := 32) rfl rfl rfl ?_
          refine gd_getR (q := 35) (r := 21) rfl rfl rfl (Nat.le_of_ble_eq_true rfl) rfl rfl (gr_15_6 hG) ?_
          refine gd_iload_n (q := 36) rfl rfl rfl ?_
          refine gd_iald (q := 37) rfl rfl (Nat.le_of_ble_eq_true rfl) rfl hp.1 ?_
          replace hp := hp.2
          refine gx_icmp_ge (q := 40) (r := 42) rfl rfl rfl hp (fun c_37 hp => ?_) (fun c_37 hp => ?_)
          · refine gd_iinc (v := (v3 + 1)) (q := 45) rfl rfl rfl rfl (Nat.le_of_ble_eq_true rfl) rfl ?_
            refine gd_goto (q := 2) rfl rfl ?_
            exact ih_2 _ hp
          · refine gd_iload_n (q := 41) rfl rfl rfl ?_
            exact gd_ireturn rfl rfl rfl (Nat.le_refl 0) (Nat.le_refl 0) rfl
      · refine gd_iinc (v := (v3 + 1)) (q := 45) rfl rfl rfl rfl (Nat.le_of_ble_eq_true rfl) rfl ?_
        refine gd_goto (q := 2) rfl rfl ?_
        exact ih_2 _ hp
theorem gl_X4_pieceAt_2 (a1 : Int32) (a2 : Int32) (f : Nat) (I : am_I) (J : am_J) (Q : am_Q) (hG : Gr Q) (g : Nat) : ∀ (v3 : Int32), p_X4_pieceAt_L2 a1 a2 I g v3 → Gd MX4_pieceAt (am_o 0 0 0 (am_Fi I J Q (s_X4_pieceAt_L2 a1 a2 I g v3))) 0 0 92 2 [some (.ref 15), some (.int a1), some (.int a2), some (.int v3)] [] I J Q := (gl_X4_pieceAt_L2 a1 a2 f I J Q hG g)
set_option maxRecDepth 100000 in
set_option maxHeartbeats 4000000 in
theorem gt_X4_pieceAt (f : Nat) (I : am_I) (J : am_J) (Q : am_Q) (hG : Gr Q) (a1 : Int32) (a2 : Int32) (hp : p_X4_pieceAt f I a1 a2) : Gd MX4_pieceAt (am_o 0 0 0 (am_Fi I J Q (s_X4_pieceAt f I a1 a2))) 0 0 92 0 [some (.ref 15), some (.int a1), some (.int a2), none] [] I J Q := by
  unfold s_X4_pieceAt
  unfold p_X4_pieceAt at hp
  refine gd_iconst (v := 0) (q := 1) rfl rfl rfl ?_
  refine gd_istore_n (q := 2) rfl rfl (Nat.le_of_ble_eq_true rfl) rfl ?_
  exact gl_X4_pieceAt_2 a1 a2 f I J Q hG f 0 hp
theorem ct_X4_pieceAt (f : Nat) (I : am_I) (J : am_J) (Q : am_Q) (hG : Gr Q) (a1 : Int32) (a2 : Int32) (hp : p_X4_pieceAt f I a1 a2) : Cm MX4_pieceAt 0 0 0 92 [.ref 15, .int a1, .int a2] I J Q (am_Fi I J Q (s_X4_pieceAt f I a1 a2)) := cm_of (by decide) rfl IX4_pieceAt_ok (Nat.le_of_ble_eq_true rfl) (gt_X4_pieceAt f I J Q hG a1 a2 hp)
def s_X9_at (f : Nat) (I : am_I) (a1 : Int32) (a2 : Int32) : Int32 := (s_X4_pieceAt f I a1 a2)
def p_X9_at (f : Nat) (I : am_I) (a1 : Int32) (a2 : Int32) : Prop := (p_X4_pieceAt f I a1 a2)
set_option maxRecDepth 100000 in
set_option maxHeartbeats 4000000 in
theorem gt_X9_at (f : Nat) (I : am_I) (J : am_J) (Q : am_Q) (hG : Gr Q) (a1 : Int32) (a2 : Int32) (hp : p_X9_at f I a1 a2) : Gd MX9_at (am_o 1 0 0 (am_Fi I J Q (s_X9_at f I a1 a2))) 0 0 92 0 [some (.ref 0), some (.int a1), some (.int a2)] [] I J Q := by
  unfold s_X9_at
  unfold p_X9_at at hp
  refine gd_aload_n (q := 1) rfl rfl rfl ?_
  refine gd_getR (q := 4) (r := 15) rfl rfl rfl (Nat.le_of_ble_eq_true rfl) rfl rfl (gr_0_5 hG) ?_
  refine gd_iload_n (q := 5) rfl rfl rfl ?_
  refine gd_iload_n (q := 6) rfl rfl rfl ?_
  refine gd_cVi (q := 9) rfl rfl lk9_212 myX4_pieceAt vxX4_pieceAt (ct_X4_pieceAt f _ _ _ hG _ _ hp) rfl (Nat.le_of_ble_eq_true rfl) rfl rfl (Nat.le_of_ble_eq_true rfl) rfl (Nat.le_of_ble_eq_true rfl) ⟨(Nat.le_of_ble_eq_true rfl), (Nat.le_of_ble_eq_true rfl)⟩ ?_
  exact gd_ireturn rfl rfl rfl (Nat.le_refl 0) (Nat.le_refl 0) rfl
theorem ct_X9_at (f : Nat) (I : am_I) (J : am_J) (Q : am_Q) (hG : Gr Q) (a1 : Int32) (a2 : Int32) (hp : p_X9_at f I a1 a2) : Cm MX9_at 1 0 0 92 [.ref 0, .int a1, .int a2] I J Q (am_Fi I J Q (s_X9_at f I a1 a2)) := cm_of (by decide) rfl IX9_at_ok (Nat.le_of_ble_eq_true rfl) (gt_X9_at f I J Q hG a1 a2 hp)
def s_X9_isEvent  (a0 : Int32) : Int32 := (if a0 < 0 then 0 else (if 10 ≤ a0 then 0 else 1))
theorem z_X9_isEvent  (a0 : Int32) : (s_X9_isEvent a0) = 0 ∨ (s_X9_isEvent a0) = 1 := by
  unfold s_X9_isEvent
  repeat' split
  all_goals first | exact Or.inl rfl | exact Or.inr rfl
set_option maxRecDepth 100000 in
set_option maxHeartbeats 4000000 in
theorem gt_X9_isEvent (f : Nat) (I : am_I) (J : am_J) (Q : am_Q) (hG : Gr Q) (a0 : Int32) : Gd MX9_isEvent (am_o 0 0 0 (am_Fi I J Q (s_X9_isEvent a0))) 0 0 92 0 [some (.int a0)] [] I J Q := by
  unfold s_X9_isEvent
  refine gd_iload_n (q := 1) rfl rfl rfl ?_
  refine gy_if_lt (q := 4) (r := 14) rfl rfl rfl (fun c_1 => ?_) (fun c_1 => ?_)
  · refine gd_iconst (v := 0) (q := 15) rfl rfl rfl ?_
    exact gd_ireturn rfl rfl rfl (Nat.le_refl 0) (Nat.le_refl 0) rfl
  · refine gd_iload_n (q := 5) rfl rfl rfl ?_
    refine gd_bipush (v := 10) (q := 7) rfl rfl rfl ?_
    refine gy_icmp_ge (q := 10) (r := 14) rfl rfl rfl (fun c_7 => ?_) (fun c_7 => ?_)
    · refine gd_iconst (v := 0) (q := 15) rfl rfl rfl ?_
      exact gd_ireturn rfl rfl rfl (Nat.le_refl 0) (Nat.le_refl 0) rfl
    · refine gd_iconst (v := 1) (q := 11) rfl rfl rfl ?_
      refine gd_goto (q := 15) rfl rfl ?_
      exact gd_ireturn rfl rfl rfl (Nat.le_refl 0) (Nat.le_refl 0) rfl
theorem ct_X9_isEvent (f : Nat) (I : am_I) (J : am_J) (Q : am_Q) (hG : Gr Q) (a0 : Int32) : Cm MX9_isEvent 0 0 0 92 [.int a0] I J Q (am_Fi I J Q (s_X9_isEvent a0)) := cm_of (by decide) rfl IX9_isEvent_ok (Nat.le_of_ble_eq_true rfl) (gt_X9_isEvent f I J Q hG a0)
def s_J6_bitCount_0f7a4  (a0 : Int32) : Int32 := ((((((((a0 - ((a0.toUInt32 >>> ((1 : Int32).toUInt32 &&& Int32.toUInt32 31)).toInt32 &&& 1431655765)) &&& 858993459) + (((a0 - ((a0.toUInt32 >>> ((1 : Int32).toUInt32 &&& Int32.toUInt32 31)).toInt32 &&& 1431655765)).toUInt32 >>> ((2 : Int32).toUInt32 &&& Int32.toUInt32 31)).toInt32 &&& 858993459)) + ((((a0 - ((a0.toUInt32 >>> ((1 : Int32).toUInt32 &&& Int32.toUInt32 31)).toInt32 &&& 1431655765)) &&& 858993459) + (((a0 - ((a0.toUInt32 >>> ((1 : Int32).toUInt32 &&& Int32.toUInt32 31)).toInt32 &&& 1431655765)).toUInt32 >>> ((2 : Int32).toUInt32 &&& Int32.toUInt32 31)).toInt32 &&& 858993459)).toUInt32 >>> ((4 : Int32).toUInt32 &&& Int32.toUInt32 31)).toInt32) &&& 252645135) + ((((((a0 - ((a0.toUInt32 >>> ((1 : Int32).toUInt32 &&& Int32.toUInt32 31)).toInt32 &&& 1431655765)) &&& 858993459) + (((a0 - ((a0.toUInt32 >>> ((1 : Int32).toUInt32 &&& Int32.toUInt32 31)).toInt32 &&& 1431655765)).toUInt32 >>> ((2 : Int32).toUInt32 &&& Int32.toUInt32 31)).toInt32 &&& 858993459)) + ((((a0 - ((a0.toUInt32 >>> ((1 : Int32).toUInt32 &&& Int32.toUInt32 31)).toInt32 &&& 1431655765)) &&& 858993459) + (((a0 - ((a0.toUInt32 >>> ((1 : Int32).toUInt32 &&& Int32.toUInt32 31)).toInt32 &&& 1431655765)).toUInt32 >>> ((2 : Int32).toUInt32 &&& Int32.toUInt32 31)).toInt32 &&& 858993459)).toUInt32 >>> ((4 : Int32).toUInt32 &&& Int32.toUInt32 31)).toInt32) &&& 252645135).toUInt32 >>> ((8 : Int32).toUInt32 &&& Int32.toUInt32 31)).toInt32) + (((((((a0 - ((a0.toUInt32 >>> ((1 : Int32).toUInt32 &&& Int32.toUInt32 31)).toInt32 &&& 1431655765)) &&& 858993459) + (((a0 - ((a0.toUInt32 >>> ((1 : Int32).toUInt32 &&& Int32.toUInt32 31)).toInt32 &&& 1431655765)).toUInt32 >>> ((2 : Int32).toUInt32 &&& Int32.toUInt32 31)).toInt32 &&& 858993459)) + ((((a0 - ((a0.toUInt32 >>> ((1 : Int32).toUInt32 &&& Int32.toUInt32 31)).toInt32 &&& 1431655765)) &&& 858993459) + (((a0 - ((a0.toUInt32 >>> ((1 : Int32).toUInt32 &&& Int32.toUInt32 31)).toInt32 &&& 1431655765)).toUInt32 >>> ((2 : Int32).toUInt32 &&& Int32.toUInt32 31)).toInt32 &&& 858993459)).toUInt32 >>> ((4 : Int32).toUInt32 &&& Int32.toUInt32 31)).toInt32) &&& 252645135) + ((((((a0 - ((a0.toUInt32 >>> ((1 : Int32).toUInt32 &&& Int32.toUInt32 31)).toInt32 &&& 1431655765)) &&& 858993459) + (((a0 - ((a0.toUInt32 >>> ((1 : Int32).toUInt32 &&& Int32.toUInt32 31)).toInt32 &&& 1431655765)).toUInt32 >>> ((2 : Int32).toUInt32 &&& Int32.toUInt32 31)).toInt32 &&& 858993459)) + ((((a0 - ((a0.toUInt32 >>> ((1 : Int32).toUInt32 &&& Int32.toUInt32 31)).toInt32 &&& 1431655765)) &&& 858993459) + (((a0 - ((a0.toUInt32 >>> ((1 : Int32).toUInt32 &&& Int32.toUInt32 31)).toInt32 &&& 1431655765)).toUInt32 >>> ((2 : Int32).toUInt32 &&& Int32.toUInt32 31)).toInt32 &&& 858993459)).toUInt32 >>> ((4 : Int32).toUInt32 &&& Int32.toUInt32 31)).toInt32) &&& 252645135).toUInt32 >>> ((8 : Int32).toUInt32 &&& Int32.toUInt32 31)).toInt32).toUInt32 >>> ((16 : Int32).toUInt32 &&& Int32.toUInt32 31)).toInt32) &&& 63)
set_option maxRecDepth 100000 in
set_option maxHeartbeats 4000000 in
theorem gt_J6_bitCount_0f7a4 (f : Nat) (I : am_I) (J : am_J) (Q : am_Q) (hG : Gr Q) (a0 : Int32) : Gd MJ6_bitCount_0f7a4 (am_o 0 0 0 (am_Fi I J Q (s_J6_bitCount_0f7a4 a0))) 0 0 92 0 [some (.int a0)] [] I J Q := by
  unfold s_J6_bitCount_0f7a4
  refine gd_iload_n (q := 1) rfl rfl rfl ?_
  refine gd_iload_n (q := 2) rfl rfl rfl ?_
  refine gd_iconst (v := 1) (q := 3) rfl rfl rfl ?_
  refine gd_iushr (q := 4) rfl rfl ?_
  refine gd_ldcw (v := 1431655765) (q := 7) rfl rfl (List.mem_of_getElem? (i := 901) (by decide +kernel)) ?_
  refine gd_iand (q := 8) rfl rfl ?_
  refine gd_isub (q := 9) rfl rfl ?_
  refine gd_istore_n (q := 10) rfl rfl (Nat.le_of_ble_eq_true rfl) rfl ?_
  refine gd_iload_n (q := 11) rfl rfl rfl ?_
  refine gd_ldcw (v := 858993459) (q := 14) rfl rfl (List.mem_of_getElem? (i := 902) (by decide +kernel)) ?_
  refine gd_iand (q := 15) rfl rfl ?_
  refine gd_iload_n (q := 16) rfl rfl rfl ?_
  refine gd_iconst (v := 2) (q := 17) rfl rfl rfl ?_
  refine gd_iushr (q := 18) rfl rfl ?_
  refine gd_ldcw (v := 858993459) (q := 21) rfl rfl (List.mem_of_getElem? (i := 902) (by decide +kernel)) ?_
  refine gd_iand (q := 22) rfl rfl ?_
  refine gd_iadd (q := 23) rfl rfl ?_
  refine gd_istore_n (q := 24) rfl rfl (Nat.le_of_ble_eq_true rfl) rfl ?_
  refine gd_iload_n (q := 25) rfl rfl rfl ?_
  refine gd_iload_n (q := 26) rfl rfl rfl ?_
  refine gd_iconst (v := 4) (q := 27) rfl rfl rfl ?_
  refine gd_iushr (q := 28) rfl rfl ?_
  refine gd_iadd (q := 29) rfl rfl ?_
  refine gd_ldcw (v := 252645135) (q := 32) rfl rfl (List.mem_of_getElem? (i := 903) (by decide +kernel)) ?_
  refine gd_iand (q := 33) rfl rfl ?_
  refine gd_istore_n (q := 34) rfl rfl (Nat.le_of_ble_eq_true rfl) rfl ?_
  refine gd_iload_n (q := 35) rfl rfl rfl ?_
  refine gd_iload_n (q := 36) rfl rfl rfl ?_
  refine gd_bipush (v := 8) (q := 38) rfl rfl rfl ?_
  refine gd_iushr (q := 39) rfl rfl ?_
  refine gd_iadd (q := 40) rfl rfl ?_
  refine gd_istore_n (q := 41) rfl rfl (Nat.le_of_ble_eq_true rfl) rfl ?_
  refine gd_iload_n (q := 42) rfl rfl rfl ?_
  refine gd_iload_n (q := 43) rfl rfl rfl ?_
  refine gd_bipush (v := 16) (q := 45) rfl rfl rfl ?_
  refine gd_iushr (q := 46) rfl rfl ?_
  refine gd_iadd (q := 47) rfl rfl ?_
  refine gd_istore_n (q := 48) rfl rfl (Nat.le_of_ble_eq_true rfl) rfl ?_
  refine gd_iload_n (q := 49) rfl rfl rfl ?_
  refine gd_bipush (v := 63) (q := 51) rfl rfl rfl ?_
  refine gd_iand (q := 52) rfl rfl ?_
  exact gd_ireturn rfl rfl rfl (Nat.le_refl 0) (Nat.le_refl 0) rfl
theorem ct_J6_bitCount_0f7a4 (f : Nat) (I : am_I) (J : am_J) (Q : am_Q) (hG : Gr Q) (a0 : Int32) : Cm MJ6_bitCount_0f7a4 0 0 0 92 [.int a0] I J Q (am_Fi I J Q (s_J6_bitCount_0f7a4 a0)) := cm_of (by decide) rfl IJ6_bitCount_0f7a4_ok (Nat.le_of_ble_eq_true rfl) (gt_J6_bitCount_0f7a4 f I J Q hG a0)
def s_J7_fill_53178_36_L5 (a1 : Int32)  : Nat → Int32 → Int32 → am_I → am_I
  | 0, _, _, I => I
  | g + 1, v2, v3, I => (if v3 ≤ v2 then I else (s_J7_fill_53178_36_L5 a1 g (v2 + 1) v3 (am_w I 36 v2.toNatClampNeg a1)))
def p_J7_fill_53178_36_L5 (a1 : Int32)  : Nat → Int32 → Int32 → am_I → Prop
  | 0, _, _, _ => False
  | g + 1, v2, v3, I => (if v3 ≤ v2 then True else (vp_in v2 10 ∧ (p_J7_fill_53178_36_L5 a1 g (v2 + 1) v3 (am_w I 36 v2.toNatClampNeg a1))))
def s_J7_fill_53178_36 (f : Nat) (I : am_I) (a1 : Int32) : am_I := (s_J7_fill_53178_36_L5 a1 f 0 10 I)
def p_J7_fill_53178_36 (f : Nat) (I : am_I) (a1 : Int32) : Prop := (p_J7_fill_53178_36_L5 a1 f 0 10 I)
set_option maxRecDepth 100000 in
set_option maxHeartbeats 4000000 in
theorem gl_J7_fill_53178_36_L5 (a1 : Int32) (f : Nat) (J : am_J) (Q : am_Q) (hG : Gr Q) : ∀ g : Nat, (∀ (v2 : Int32) (v3 : Int32) (I : am_I), p_J7_fill_53178_36_L5 a1 g v2 v3 I → Gd MJ7_fill_53178 (am_o 0 0 0 (am_FvI J Q (s_J7_fill_53178_36_L5 a1 g v2 v3 I))) 0 0 92 5 [some (.ref 36), some (.int a1), some (.int v2), some (.int v3)] [] I J Q) := by
  intro g
  induction g with
  | zero => exact fun _ _ _ hp => False.elim hp
  | succ g ih =>
    have ih_5 := ih
    intro v2 v3 I hp
    rw [s_J7_fill_53178_36_L5]
    rw [p_J7_fill_53178_36_L5] at hp
    refine gd_iload_n (q := 6) rfl rfl rfl ?_
    refine gd_iload_n (q := 7) rfl rfl rfl ?_
    refine gx_icmp_ge (q := 10) (r := 20) rfl rfl rfl hp (fun c_7 hp => ?_) (fun c_7 hp => ?_)
    · exact gd_return rfl rfl (Nat.le_refl 0) (Nat.le_refl 0) rfl
    · refine gd_aload_n (q := 11) rfl rfl rfl ?_
      refine gd_iload_n (q := 12) rfl rfl rfl ?_
      refine gd_iload_n (q := 13) rfl rfl rfl ?_
      refine gd_iast (q := 14) rfl rfl (Nat.le_of_ble_eq_true rfl) rfl hp.1 ?_
      replace hp := hp.2
      refine gd_iinc (v := (v2 + 1)) (q := 17) rfl rfl rfl rfl (Nat.le_of_ble_eq_true rfl) rfl ?_
      refine gd_goto (q := 5) rfl rfl ?_
      exact ih_5 _ _ _ hp
theorem gl_J7_fill_53178_36_5 (a1 : Int32) (f : Nat) (J : am_J) (Q : am_Q) (hG : Gr Q) (g : Nat) : ∀ (v2 : Int32) (v3 : Int32) (I : am_I), p_J7_fill_53178_36_L5 a1 g v2 v3 I → Gd MJ7_fill_53178 (am_o 0 0 0 (am_FvI J Q (s_J7_fill_53178_36_L5 a1 g v2 v3 I))) 0 0 92 5 [some (.ref 36), some (.int a1), some (.int v2), some (.int v3)] [] I J Q := (gl_J7_fill_53178_36_L5 a1 f J Q hG g)
set_option maxRecDepth 100000 in
set_option maxHeartbeats 4000000 in
theorem gt_J7_fill_53178_36 (f : Nat) (I : am_I) (J : am_J) (Q : am_Q) (hG : Gr Q) (a1 : Int32) (hp : p_J7_fill_53178_36 f I a1) : Gd MJ7_fill_53178 (am_o 0 0 0 (am_FvI J Q (s_J7_fill_53178_36 f I a1))) 0 0 92 0 [some (.ref 36), some (.int a1), none, none] [] I J Q := by
  unfold s_J7_fill_53178_36
  unfold p_J7_fill_53178_36 at hp
  refine gd_iconst (v := 0) (q := 1) rfl rfl rfl ?_
  refine gd_istore_n (q := 2) rfl rfl (Nat.le_of_ble_eq_true rfl) rfl ?_
  refine gd_aload_n (q := 3) rfl rfl rfl ?_
  refine gd_alen (v := 10) (ty := .int) (q := 4) rfl rfl (Nat.le_of_ble_eq_true rfl) rfl (fun _ => rfl) rfl ?_
  refine gd_istore_n (q := 5) rfl rfl (Nat.le_of_ble_eq_true rfl) rfl ?_
  exact gl_J7_fill_53178_36_5 a1 f J Q hG f 0 _ _ hp
theorem ct_J7_fill_53178_36 (f : Nat) (I : am_I) (J : am_J) (Q : am_Q) (hG : Gr Q) (a1 : Int32) (hp : p_J7_fill_53178_36 f I a1) : Cm MJ7_fill_53178 0 0 0 92 [.ref 36, .int a1] I J Q (am_FvI J Q (s_J7_fill_53178_36 f I a1)) := cm_of (by decide) rfl IJ7_fill_53178_ok (Nat.le_of_ble_eq_true rfl) (gt_J7_fill_53178_36 f I J Q hG a1 hp)
def s_X5_areWithin_L34 (a1 : Int32) (a2 : Int32) (a3 : Int32) (I : am_I) : Nat → Nat → Int32 → Int32 → Int32
  | 0, _, _, _ => 0
  | g + 1, 0, v4, t0 => (if a1 ≤ v4 then 1 else (if a3 = 0 then (s_X5_areWithin_L34 a1 a2 a3 I g 1 v4 (I 34 v4.toNatClampNeg)) else (s_X5_areWithin_L34 a1 a2 a3 I g 1 v4 (9999 - (I 33 v4.toNatClampNeg)))))
  | g + 1, 1, v4, t0 => (if (I 30 v4.toNatClampNeg) = 0 then (if ((a2 >>> (v4 &&& 31)) &&& 1) = 0 then (if (I 36 (I 31 v4.toNatClampNeg).toNatClampNeg) ≤ t0 then (s_X5_areWithin_L34 a1 a2 a3 I g 0 (v4 + 1) 0) else 0) else (s_X5_areWithin_L34 a1 a2 a3 I g 0 (v4 + 1) 0)) else (s_X5_areWithin_L34 a1 a2 a3 I g 0 (v4 + 1) 0))
  | _ + 1, _ + 2, _, _ => 0
def p_X5_areWithin_L34 (a1 : Int32) (a2 : Int32) (a3 : Int32) (I : am_I) : Nat → Nat → Int32 → Int32 → Prop
  | 0, _, _, _ => False
  | g + 1, 0, v4, t0 => (if a1 ≤ v4 then True else (if a3 = 0 then (vp_in v4 12 ∧ (p_X5_areWithin_L34 a1 a2 a3 I g 1 v4 (I 34 v4.toNatClampNeg))) else (vp_in v4 12 ∧ (p_X5_areWithin_L34 a1 a2 a3 I g 1 v4 (9999 - (I 33 v4.toNatClampNeg))))))
  | g + 1, 1, v4, t0 => (vp_in v4 12 ∧ (if (I 30 v4.toNatClampNeg) = 0 then (if ((a2 >>> (v4 &&& 31)) &&& 1) = 0 then (vp_in v4 12 ∧ (vp_in (I 31 v4.toNatClampNeg) 10 ∧ (if (I 36 (I 31 v4.toNatClampNeg).toNatClampNeg) ≤ t0 then (p_X5_areWithin_L34 a1 a2 a3 I g 0 (v4 + 1) 0) else True))) else (p_X5_areWithin_L34 a1 a2 a3 I g 0 (v4 + 1) 0)) else (p_X5_areWithin_L34 a1 a2 a3 I g 0 (v4 + 1) 0)))
  | _ + 1, _ + 2, _, _ => False
theorem z_X5_areWithin_L34 (a1 : Int32) (a2 : Int32) (a3 : Int32) (I : am_I) : ∀ (g : Nat), (∀ (v4 : Int32) (t0 : Int32), (s_X5_areWithin_L34 a1 a2 a3 I g 0 v4 t0) = 0 ∨ (s_X5_areWithin_L34 a1 a2 a3 I g 0 v4 t0) = 1) ∧ (∀ (v4 : Int32) (t0 : Int32), (s_X5_areWithin_L34 a1 a2 a3 I g 1 v4 t0) = 0 ∨ (s_X5_areWithin_L34 a1 a2 a3 I g 1 v4 t0) = 1) := by
  intro g
  induction g with
  | zero => refine ⟨?_, ?_⟩ <;> (intros; exact Or.inl rfl)
  | succ g ih =>
    refine ⟨?_, ?_⟩
    · intro v4 t0
      rw [s_X5_areWithin_L34]
      repeat' split
      all_goals first | exact Or.inl rfl | exact Or.inr rfl | exact ih.1 _ _ | exact ih.2 _ _
    · intro v4 t0
      rw [s_X5_areWithin_L34]
      repeat' split
      all_goals first | exact Or.inl rfl | exact Or.inr rfl | exact ih.1 _ _ | exact ih.2 _ _
def s_X5_areWithin_L3 (a1 : Int32) (a2 : Int32) (a3 : Int32) (f : Nat) (I : am_I) : Nat → Int32 → Int32
  | 0, _ => 0
  | g + 1, v4 => (if 10 ≤ v4 then (s_X5_areWithin_L34 a1 a2 a3 I f 0 0 0) else (if (I 36 v4.toNatClampNeg) ≤ 9999 then (s_X5_areWithin_L3 a1 a2 a3 f I g (v4 + 1)) else 0))
def p_X5_areWithin_L3 (a1 : Int32) (a2 : Int32) (a3 : Int32) (f : Nat) (I : am_I) : Nat → Int32 → Prop
  | 0, _ => False
  | g + 1, v4 => (if 10 ≤ v4 then (p_X5_areWithin_L34 a1 a2 a3 I f 0 0 0) else (vp_in v4 10 ∧ (if (I 36 v4.toNatClampNeg) ≤ 9999 then (p_X5_areWithin_L3 a1 a2 a3 f I g (v4 + 1)) else True)))
theorem z_X5_areWithin_L3 (a1 : Int32) (a2 : Int32) (a3 : Int32) (f : Nat) (I : am_I) : ∀ (g : Nat), (∀ (v4 : Int32), (s_X5_areWithin_L3 a1 a2 a3 f I g v4) = 0 ∨ (s_X5_areWithin_L3 a1 a2 a3 f I g v4) = 1) := by
  intro g
  induction g with
  | zero => (intros; exact Or.inl rfl)
  | succ g ih =>
    intro v4
    rw [s_X5_areWithin_L3]
    repeat' split
    all_goals first | exact Or.inl rfl | exact Or.inr rfl | exact (z_X5_areWithin_L34 _ _ _ _ _).1 _ _ | exact (z_X5_areWithin_L34 _ _ _ _ _).2 _ _ | exact ih _
def s_X5_areWithin (f : Nat) (I : am_I) (a1 : Int32) (a2 : Int32) (a3 : Int32) : Int32 := (s_X5_areWithin_L3 a1 a2 a3 f I f 0)
def p_X5_areWithin (f : Nat) (I : am_I) (a1 : Int32) (a2 : Int32) (a3 : Int32) : Prop := (p_X5_areWithin_L3 a1 a2 a3 f I f 0)
theorem z_X5_areWithin (f : Nat) (I : am_I) (a1 : Int32) (a2 : Int32) (a3 : Int32) : (s_X5_areWithin f I a1 a2 a3) = 0 ∨ (s_X5_areWithin f I a1 a2 a3) = 1 := by
  unfold s_X5_areWithin
  repeat' split
  all_goals first | exact Or.inl rfl | exact Or.inr rfl | exact (z_X5_areWithin_L34 _ _ _ _ _).1 _ _ | exact (z_X5_areWithin_L34 _ _ _ _ _).2 _ _ | exact (z_X5_areWithin_L3 _ _ _ _ _ _) _
set_option maxRecDepth 100000 in
set_option maxHeartbeats 4000000 in
theorem gl_X5_areWithin_L34 (a1 : Int32) (a2 : Int32) (a3 : Int32) (f : Nat) (I : am_I) (J : am_J) (Q : am_Q) (hG : Gr Q) : ∀ g : Nat, (∀ (v4 : Int32) (t0 : Int32), p_X5_areWithin_L34 a1 a2 a3 I g 0 v4 0 → Gd MX5_areWithin (am_o 0 0 0 (am_Fi I J Q (s_X5_areWithin_L34 a1 a2 a3 I g 0 v4 0))) 0 0 92 34 [some (.ref 29), some (.int a1), some (.int a2), some (.int a3), some (.int v4), none] [] I J Q) ∧ (∀ (v4 : Int32) (t0 : Int32), p_X5_areWithin_L34 a1 a2 a3 I g 1 v4 t0 → Gd MX5_areWithin (am_o 0 0 0 (am_Fi I J Q (s_X5_areWithin_L34 a1 a2 a3 I g 1 v4 t0))) 0 0 92 65 [some (.ref 29), some (.int a1), some (.int a2), some (.int a3), some (.int v4), none] [.int t0] I J Q) := by
  intro g
  induction g with
  | zero => exact ⟨fun _ _ hp => False.elim hp, fun _ _ hp => False.elim hp⟩
  | succ g ih =>
    have ih_34 := ih.1
    have ih_65 := ih.2
    refine ⟨?_, ?_⟩
    · intro v4 t0 hp
      rw [s_X5_areWithin_L34]
      rw [p_X5_areWithin_L34] at hp
      refine gd_iload (q := 36) rfl rfl rfl ?_
      refine gd_iload_n (q := 37) rfl rfl rfl ?_
      refine gx_icmp_ge (q := 40) (r := 111) rfl rfl rfl hp (fun c_37 hp => ?_) (fun c_37 hp => ?_)
      · refine gd_iconst (v := 1) (q := 112) rfl rfl rfl ?_
        exact gd_ireturn rfl rfl rfl (Nat.le_refl 0) (Nat.le_refl 0) rfl
      · refine gd_iload_n (q := 41) rfl rfl rfl ?_
        refine gx_if_eq (q := 44) (r := 58) rfl rfl rfl hp (fun c_41 hp => ?_) (fun c_41 hp => ?_)
        · refine gd_aload_n (q := 59) rfl rfl rfl ?_
          refine gd_getR (q := 62) (r := 34) rfl rfl rfl (Nat.le_of_ble_eq_true rfl) rfl rfl (gr_29_4 hG) ?_
          refine gd_iload (q := 64) rfl rfl rfl ?_
          refine gd_iald (q := 65) rfl rfl (Nat.le_of_ble_eq_true rfl) rfl hp.1 ?_
          replace hp := hp.2
          exact ih_65 _ _ hp
        · refine gd_sipush (v := 9999) (q := 47) rfl rfl rfl ?_
          refine gd_aload_n (q := 48) rfl rfl rfl ?_
          refine gd_getR (q := 51) (r := 33) rfl rfl rfl (Nat.le_of_ble_eq_true rfl) rfl rfl (gr_29_3 hG) ?_
          refine gd_iload (q := 53) rfl rfl rfl ?_
          refine gd_iald (q := 54) rfl rfl (Nat.le_of_ble_eq_true rfl) rfl hp.1 ?_
          replace hp := hp.2
          refine gd_isub (q := 55) rfl rfl ?_
          refine gd_goto (q := 65) rfl rfl ?_
          exact ih_65 _ _ hp
    · intro v4 t0 hp
      rw [s_X5_areWithin_L34]
      rw [p_X5_areWithin_L34] at hp
      refine gd_istore (q := 67) rfl rfl (Nat.le_of_ble_eq_true rfl) rfl ?_
      refine gd_aload_n (q := 68) rfl rfl rfl ?_
      refine gd_getR (q := 71) (r := 30) rfl rfl rfl (Nat.le_of_ble_eq_true rfl) rfl rfl (gr_29_0 hG) ?_
      refine gd_iload (q := 73) rfl rfl rfl ?_
      refine gd_iald (q := 74) rfl rfl (Nat.le_of_ble_eq_true rfl) rfl hp.1 ?_
      replace hp := hp.2
      refine gx_if_ne (q := 77) (r := 105) rfl rfl rfl hp (fun c_74 hp => ?_) (fun c_74 hp => ?_)
      · refine gd_iload_n (q := 78) rfl rfl rfl ?_
        refine gd_iload (q := 80) rfl rfl rfl ?_
        refine gd_ishr (q := 81) rfl rfl ?_
        refine gd_iconst (v := 1) (q := 82) rfl rfl rfl ?_
        refine gd_iand (q := 83) rfl rfl ?_
        refine gx_if_ne (q := 86) (r := 105) rfl rfl rfl hp (fun c_83 hp => ?_) (fun c_83 hp => ?_)
        · refine gd_aload_n (q := 87) rfl rfl rfl ?_
          refine gd_getR (q := 90) (r := 36) rfl rfl rfl (Nat.le_of_ble_eq_true rfl) rfl rfl (gr_29_6 hG) ?_
          refine gd_aload_n (q := 91) rfl rfl rfl ?_
          refine gd_getR (q := 94) (r := 31) rfl rfl rfl (Nat.le_of_ble_eq_true rfl) rfl rfl (gr_29_1 hG) ?_
          refine gd_iload (q := 96) rfl rfl rfl ?_
          refine gd_iald (q := 97) rfl rfl (Nat.le_of_ble_eq_true rfl) rfl hp.1 ?_
          replace hp := hp.2
          refine gd_iald (q := 98) rfl rfl (Nat.le_of_ble_eq_true rfl) rfl hp.1 ?_
          replace hp := hp.2
          refine gd_iload (q := 100) rfl rfl rfl ?_
          refine gx_icmp_le (q := 103) (r := 105) rfl rfl rfl hp (fun c_100 hp => ?_) (fun c_100 hp => ?_)
          · refine gd_iinc (v := (v4 + 1)) (q := 108) rfl rfl rfl rfl (Nat.le_of_ble_eq_true rfl) rfl ?_
            refine gd_goto (q := 34) rfl rfl ?_
            refine gd_drop 5 ?_
            exact ih_34 _ 0 hp
          · refine gd_iconst (v := 0) (q := 104) rfl rfl rfl ?_
            exact gd_ireturn rfl rfl rfl (Nat.le_refl 0) (Nat.le_refl 0) rfl
        · refine gd_iinc (v := (v4 + 1)) (q := 108) rfl rfl rfl rfl (Nat.le_of_ble_eq_true rfl) rfl ?_
          refine gd_goto (q := 34) rfl rfl ?_
          refine gd_drop 5 ?_
          exact ih_34 _ 0 hp
      · refine gd_iinc (v := (v4 + 1)) (q := 108) rfl rfl rfl rfl (Nat.le_of_ble_eq_true rfl) rfl ?_
        refine gd_goto (q := 34) rfl rfl ?_
        refine gd_drop 5 ?_
        exact ih_34 _ 0 hp
theorem gl_X5_areWithin_34 (a1 : Int32) (a2 : Int32) (a3 : Int32) (f : Nat) (I : am_I) (J : am_J) (Q : am_Q) (hG : Gr Q) (g : Nat) : ∀ (v4 : Int32) (t0 : Int32), p_X5_areWithin_L34 a1 a2 a3 I g 0 v4 0 → Gd MX5_areWithin (am_o 0 0 0 (am_Fi I J Q (s_X5_areWithin_L34 a1 a2 a3 I g 0 v4 0))) 0 0 92 34 [some (.ref 29), some (.int a1), some (.int a2), some (.int a3), some (.int v4), none] [] I J Q := (gl_X5_areWithin_L34 a1 a2 a3 f I J Q hG g).1
theorem gl_X5_areWithin_65 (a1 : Int32) (a2 : Int32) (a3 : Int32) (f : Nat) (I : am_I) (J : am_J) (Q : am_Q) (hG : Gr Q) (g : Nat) : ∀ (v4 : Int32) (t0 : Int32), p_X5_areWithin_L34 a1 a2 a3 I g 1 v4 t0 → Gd MX5_areWithin (am_o 0 0 0 (am_Fi I J Q (s_X5_areWithin_L34 a1 a2 a3 I g 1 v4 t0))) 0 0 92 65 [some (.ref 29), some (.int a1), some (.int a2), some (.int a3), some (.int v4), none] [.int t0] I J Q := (gl_X5_areWithin_L34 a1 a2 a3 f I J Q hG g).2
set_option maxRecDepth 100000 in
set_option maxHeartbeats 4000000 in
theorem gl_X5_areWithin_L3 (a1 : Int32) (a2 : Int32) (a3 : Int32) (f : Nat) (I : am_I) (J : am_J) (Q : am_Q) (hG : Gr Q) : ∀ g : Nat, (∀ (v4 : Int32), p_X5_areWithin_L3 a1 a2 a3 f I g v4 → Gd MX5_areWithin (am_o 0 0 0 (am_Fi I J Q (s_X5_areWithin_L3 a1 a2 a3 f I g v4))) 0 0 92 3 [some (.ref 29), some (.int a1), some (.int a2), some (.int a3), some (.int v4), none] [] I J Q) := by
  intro g
  induction g with
  | zero => exact fun _ hp => False.elim hp
  | succ g ih =>
    have ih_3 := ih
    intro v4 hp
    rw [s_X5_areWithin_L3]
    rw [p_X5_areWithin_L3] at hp
    refine gd_iload (q := 5) rfl rfl rfl ?_
    refine gd_bipush (v := 10) (q := 7) rfl rfl rfl ?_
    refine gx_icmp_ge (q := 10) (r := 31) rfl rfl rfl hp (fun c_7 hp => ?_) (fun c_7 hp => ?_)
    · refine gd_iconst (v := 0) (q := 32) rfl rfl rfl ?_
      refine gd_istore (q := 34) rfl rfl (Nat.le_of_ble_eq_true rfl) rfl ?_
      exact gl_X5_areWithin_34 a1 a2 a3 f I J Q hG f 0 0 hp
    · refine gd_aload_n (q := 11) rfl rfl rfl ?_
      refine gd_getR (q := 14) (r := 36) rfl rfl rfl (Nat.le_of_ble_eq_true rfl) rfl rfl (gr_29_6 hG) ?_
      refine gd_iload (q := 16) rfl rfl rfl ?_
      refine gd_iald (q := 17) rfl rfl (Nat.le_of_ble_eq_true rfl) rfl hp.1 ?_
      replace hp := hp.2
      refine gd_sipush (v := 9999) (q := 20) rfl rfl rfl ?_
      refine gx_icmp_le (q := 23) (r := 25) rfl rfl rfl hp (fun c_20 hp => ?_) (fun c_20 hp => ?_)
      · refine gd_iinc (v := (v4 + 1)) (q := 28) rfl rfl rfl rfl (Nat.le_of_ble_eq_true rfl) rfl ?_
        refine gd_goto (q := 3) rfl rfl ?_
        exact ih_3 _ hp
      · refine gd_iconst (v := 0) (q := 24) rfl rfl rfl ?_
        exact gd_ireturn rfl rfl rfl (Nat.le_refl 0) (Nat.le_refl 0) rfl
theorem gl_X5_areWithin_3 (a1 : Int32) (a2 : Int32) (a3 : Int32) (f : Nat) (I : am_I) (J : am_J) (Q : am_Q) (hG : Gr Q) (g : Nat) : ∀ (v4 : Int32), p_X5_areWithin_L3 a1 a2 a3 f I g v4 → Gd MX5_areWithin (am_o 0 0 0 (am_Fi I J Q (s_X5_areWithin_L3 a1 a2 a3 f I g v4))) 0 0 92 3 [some (.ref 29), some (.int a1), some (.int a2), some (.int a3), some (.int v4), none] [] I J Q := (gl_X5_areWithin_L3 a1 a2 a3 f I J Q hG g)
set_option maxRecDepth 100000 in
set_option maxHeartbeats 4000000 in
theorem gt_X5_areWithin (f : Nat) (I : am_I) (J : am_J) (Q : am_Q) (hG : Gr Q) (a1 : Int32) (a2 : Int32) (a3 : Int32) (hp : p_X5_areWithin f I a1 a2 a3) : Gd MX5_areWithin (am_o 0 0 0 (am_Fi I J Q (s_X5_areWithin f I a1 a2 a3))) 0 0 92 0 [some (.ref 29), some (.int a1), some (.int a2), some (.int a3), none, none] [] I J Q := by
  unfold s_X5_areWithin
  unfold p_X5_areWithin at hp
  refine gd_iconst (v := 0) (q := 1) rfl rfl rfl ?_
  refine gd_istore (q := 3) rfl rfl (Nat.le_of_ble_eq_true rfl) rfl ?_
  exact gl_X5_areWithin_3 a1 a2 a3 f I J Q hG f 0 hp
theorem ct_X5_areWithin (f : Nat) (I : am_I) (J : am_J) (Q : am_Q) (hG : Gr Q) (a1 : Int32) (a2 : Int32) (a3 : Int32) (hp : p_X5_areWithin f I a1 a2 a3) : Cm MX5_areWithin 0 0 0 92 [.ref 29, .int a1, .int a2, .int a3] I J Q (am_Fi I J Q (s_X5_areWithin f I a1 a2 a3)) := cm_of (by decide) rfl IX5_areWithin_ok (Nat.le_of_ble_eq_true rfl) (gt_X5_areWithin f I J Q hG a1 a2 a3 hp)
def s_X5_pushTo (I : am_I) (a1 : Int32) (a2 : Int32) : Int32 × am_I := (if (s_X9_isEvent a1) = 0 then (0, I) else (if (I 36 a1.toNatClampNeg) < a2 then (1, (am_w I 36 a1.toNatClampNeg a2)) else (0, I)))
def p_X5_pushTo (I : am_I) (a1 : Int32) (a2 : Int32) : Prop := (if (s_X9_isEvent a1) = 0 then True else (vp_in a1 10 ∧ (if (I 36 a1.toNatClampNeg) < a2 then vp_in a1 10 else True)))
theorem z_X5_pushTo (I : am_I) (a1 : Int32) (a2 : Int32) : (s_X5_pushTo I a1 a2).1 = 0 ∨ (s_X5_pushTo I a1 a2).1 = 1 := by
  unfold s_X5_pushTo
  repeat' split
  all_goals first | exact Or.inl rfl | exact Or.inr rfl | exact z_X9_isEvent _
set_option maxRecDepth 100000 in
set_option maxHeartbeats 4000000 in
theorem gt_X5_pushTo (f : Nat) (I : am_I) (J : am_J) (Q : am_Q) (hG : Gr Q) (a1 : Int32) (a2 : Int32) (hp : p_X5_pushTo I a1 a2) : Gd MX5_pushTo (am_o 1 0 0 (am_FiI J Q (s_X5_pushTo I a1 a2))) 0 0 92 0 [some (.ref 29), some (.int a1), some (.int a2)] [] I J Q := by
  unfold s_X5_pushTo
  unfold p_X5_pushTo at hp
  refine gd_iload_n (q := 1) rfl rfl rfl ?_
  refine gd_cSi (q := 4) rfl rfl lk5_41 myX9_isEvent sxX9_isEvent (ct_X9_isEvent f _ _ _ hG _) rfl rfl (Nat.le_of_ble_eq_true rfl) ⟨(Nat.le_of_ble_eq_true rfl), (Nat.le_of_ble_eq_true rfl)⟩ ?_
  refine gx_if_eq (q := 7) (r := 17) rfl rfl rfl hp (fun c_4 hp => ?_) (fun c_4 hp => ?_)
  · refine gd_iconst (v := 0) (q := 18) rfl rfl rfl ?_
    exact gd_ireturn rfl rfl rfl (Nat.le_refl 0) (Nat.le_refl 0) rfl
  · refine gd_aload_n (q := 8) rfl rfl rfl ?_
    refine gd_getR (q := 11) (r := 36) rfl rfl rfl (Nat.le_of_ble_eq_true rfl) rfl rfl (gr_29_6 hG) ?_
    refine gd_iload_n (q := 12) rfl rfl rfl ?_
    refine gd_iald (q := 13) rfl rfl (Nat.le_of_ble_eq_true rfl) rfl hp.1 ?_
    replace hp := hp.2
    refine gd_iload_n (q := 14) rfl rfl rfl ?_
    refine gx_icmp_lt (q := 17) (r := 19) rfl rfl rfl hp (fun c_14 hp => ?_) (fun c_14 hp => ?_)
    · refine gd_aload_n (q := 20) rfl rfl rfl ?_
      refine gd_getR (q := 23) (r := 36) rfl rfl rfl (Nat.le_of_ble_eq_true rfl) rfl rfl (gr_29_6 hG) ?_
      refine gd_iload_n (q := 24) rfl rfl rfl ?_
      refine gd_iload_n (q := 25) rfl rfl rfl ?_
      refine gd_iast (q := 26) rfl rfl (Nat.le_of_ble_eq_true rfl) rfl hp ?_
      refine gd_iconst (v := 1) (q := 27) rfl rfl rfl ?_
      exact gd_ireturn rfl rfl rfl (Nat.le_refl 0) (Nat.le_refl 0) rfl
    · refine gd_iconst (v := 0) (q := 18) rfl rfl rfl ?_
      exact gd_ireturn rfl rfl rfl (Nat.le_refl 0) (Nat.le_refl 0) rfl
theorem ct_X5_pushTo (f : Nat) (I : am_I) (J : am_J) (Q : am_Q) (hG : Gr Q) (a1 : Int32) (a2 : Int32) (hp : p_X5_pushTo I a1 a2) : Cm MX5_pushTo 1 0 0 92 [.ref 29, .int a1, .int a2] I J Q (am_FiI J Q (s_X5_pushTo I a1 a2)) := cm_of (by decide) rfl IX5_pushTo_ok (Nat.le_of_ble_eq_true rfl) (gt_X5_pushTo f I J Q hG a1 a2 hp)
def s_X5_pushDays (I : am_I) (a1 : Int32) (a2 : Int32) : Int32 × am_I := (if (I 30 a1.toNatClampNeg) = 0 then (if a2 = 0 then (((s_X5_pushTo I (I 31 a1.toNatClampNeg) (I 33 a1.toNatClampNeg)).1), ((s_X5_pushTo I (I 31 a1.toNatClampNeg) (I 33 a1.toNatClampNeg)).2)) else (((s_X5_pushTo I (I 31 a1.toNatClampNeg) (9999 - (I 34 a1.toNatClampNeg))).1), ((s_X5_pushTo I (I 31 a1.toNatClampNeg) (9999 - (I 34 a1.toNatClampNeg))).2))) else (if (I 30 a1.toNatClampNeg) = 1 then (if a2 = 0 then (((s_X5_pushTo I (I 31 a1.toNatClampNeg) ((I 36 (I 32 a1.toNatClampNeg).toNatClampNeg) + (I 33 a1.toNatClampNeg))).1), ((s_X5_pushTo I (I 31 a1.toNatClampNeg) ((I 36 (I 32 a1.toNatClampNeg).toNatClampNeg) + (I 33 a1.toNatClampNeg))).2)) else (((s_X5_pushTo I (I 32 a1.toNatClampNeg) ((I 36 (I 31 a1.toNatClampNeg).toNatClampNeg) + (I 33 a1.toNatClampNeg))).1), ((s_X5_pushTo I (I 32 a1.toNatClampNeg) ((I 36 (I 31 a1.toNatClampNeg).toNatClampNeg) + (I 33 a1.toNatClampNeg))).2))) else (if ((s_X5_pushTo I (I 31 a1.toNatClampNeg) (I 36 (I 32 a1.toNatClampNeg).toNatClampNeg)).1) = 0 then (if ((s_X5_pushTo ((s_X5_pushTo I (I 31 a1.toNatClampNeg) (I 36 (I 32 a1.toNatClampNeg).toNatClampNeg)).2) (I 32 a1.toNatClampNeg) (((s_X5_pushTo I (I 31 a1.toNatClampNeg) (I 36 (I 32 a1.toNatClampNeg).toNatClampNeg)).2) 36 (I 31 a1.toNatClampNeg).toNatClampNeg)).1) = 0 then (0, ((s_X5_pushTo ((s_X5_pushTo I (I 31 a1.toNatClampNeg) (I 36 (I 32 a1.toNatClampNeg).toNatClampNeg)).2) (I 32 a1.toNatClampNeg) (((s_X5_pushTo I (I 31 a1.toNatClampNeg) (I 36 (I 32 a1.toNatClampNeg).toNatClampNeg)).2) 36 (I 31 a1.toNatClampNeg).toNatClampNeg)).2)) else (1, ((s_X5_pushTo ((s_X5_pushTo I (I 31 a1.toNatClampNeg) (I 36 (I 32 a1.toNatClampNeg).toNatClampNeg)).2) (I 32 a1.toNatClampNeg) (((s_X5_pushTo I (I 31 a1.toNatClampNeg) (I 36 (I 32 a1.toNatClampNeg).toNatClampNeg)).2) 36 (I 31 a1.toNatClampNeg).toNatClampNeg)).2))) else (1, ((s_X5_pushTo ((s_X5_pushTo I (I 31 a1.toNatClampNeg) (I 36 (I 32 a1.toNatClampNeg).toNatClampNeg)).2) (I 32 a1.toNatClampNeg) (((s_X5_pushTo I (I 31 a1.toNatClampNeg) (I 36 (I 32 a1.toNatClampNeg).toNatClampNeg)).2) 36 (I 31 a1.toNatClampNeg).toNatClampNeg)).2)))))
def p_X5_pushDays (I : am_I) (a1 : Int32) (a2 : Int32) : Prop := (vp_in a1 12 ∧ (vp_in a1 12 ∧ (vp_in a1 12 ∧ (if (I 30 a1.toNatClampNeg) = 0 then (if a2 = 0 then (vp_in a1 12 ∧ (p_X5_pushTo I (I 31 a1.toNatClampNeg) (I 33 a1.toNatClampNeg))) else (vp_in a1 12 ∧ (p_X5_pushTo I (I 31 a1.toNatClampNeg) (9999 - (I 34 a1.toNatClampNeg))))) else (if (I 30 a1.toNatClampNeg) = 1 then (if a2 = 0 then (vp_in (I 32 a1.toNatClampNeg) 10 ∧ (vp_in a1 12 ∧ (p_X5_pushTo I (I 31 a1.toNatClampNeg) ((I 36 (I 32 a1.toNatClampNeg).toNatClampNeg) + (I 33 a1.toNatClampNeg))))) else (vp_in (I 31 a1.toNatClampNeg) 10 ∧ (vp_in a1 12 ∧ (p_X5_pushTo I (I 32 a1.toNatClampNeg) ((I 36 (I 31 a1.toNatClampNeg).toNatClampNeg) + (I 33 a1.toNatClampNeg)))))) else (vp_in (I 32 a1.toNatClampNeg) 10 ∧ ((p_X5_pushTo I (I 31 a1.toNatClampNeg) (I 36 (I 32 a1.toNatClampNeg).toNatClampNeg)) ∧ (vp_in (I 31 a1.toNatClampNeg) 10 ∧ (p_X5_pushTo ((s_X5_pushTo I (I 31 a1.toNatClampNeg) (I 36 (I 32 a1.toNatClampNeg).toNatClampNeg)).2) (I 32 a1.toNatClampNeg) (((s_X5_pushTo I (I 31 a1.toNatClampNeg) (I 36 (I 32 a1.toNatClampNeg).toNatClampNeg)).2) 36 (I 31 a1.toNatClampNeg).toNatClampNeg))))))))))
theorem z_X5_pushDays (I : am_I) (a1 : Int32) (a2 : Int32) : (s_X5_pushDays I a1 a2).1 = 0 ∨ (s_X5_pushDays I a1 a2).1 = 1 := by
  unfold s_X5_pushDays
  repeat' split
  all_goals first | exact Or.inl rfl | exact Or.inr rfl | exact z_X5_pushTo _ _ _
set_option maxRecDepth 100000 in
set_option maxHeartbeats 4000000 in
theorem gt_X5_pushDays (f : Nat) (I : am_I) (J : am_J) (Q : am_Q) (hG : Gr Q) (a1 : Int32) (a2 : Int32) (hp : p_X5_pushDays I a1 a2) : Gd MX5_pushDays (am_o 2 0 0 (am_FiI J Q (s_X5_pushDays I a1 a2))) 0 0 92 0 [some (.ref 29), some (.int a1), some (.int a2), none, none, none, none] [] I J Q := by
  unfold s_X5_pushDays
  unfold p_X5_pushDays at hp
  refine gd_aload_n (q := 1) rfl rfl rfl ?_
  refine gd_getR (q := 4) (r := 31) rfl rfl rfl (Nat.le_of_ble_eq_true rfl) rfl rfl (gr_29_1 hG) ?_
  refine gd_iload_n (q := 5) rfl rfl rfl ?_
  refine gd_iald (q := 6) rfl rfl (Nat.le_of_ble_eq_true rfl) rfl hp.1 ?_
  replace hp := hp.2
  refine gd_istore_n (q := 7) rfl rfl (Nat.le_of_ble_eq_true rfl) rfl ?_
  refine gd_aload_n (q := 8) rfl rfl rfl ?_
  refine gd_getR (q := 11) (r := 32) rfl rfl rfl (Nat.le_of_ble_eq_true rfl) rfl rfl (gr_29_2 hG) ?_
  refine gd_iload_n (q := 12) rfl rfl rfl ?_
  refine gd_iald (q := 13) rfl rfl (Nat.le_of_ble_eq_true rfl) rfl hp.1 ?_
  replace hp := hp.2
  refine gd_istore (q := 15) rfl rfl (Nat.le_of_ble_eq_true rfl) rfl ?_
  refine gd_aload_n (q := 16) rfl rfl rfl ?_
  refine gd_getR (q := 19) (r := 30) rfl rfl rfl (Nat.le_of_ble_eq_true rfl) rfl rfl (gr_29_0 hG) ?_
  refine gd_iload_n (q := 20) rfl rfl rfl ?_
  refine gd_iald (q := 21) rfl rfl (Nat.le_of_ble_eq_true rfl) rfl hp.1 ?_
  replace hp := hp.2
  refine gx_ite hp (fun c_21_0 hp => ?_) (fun c_21_0 hp => ?_)
  · refine gd_lookup (q := 48) rfl (by decide) (by first | (rw [c_21_0]; done) | (rw [c_21_0]; rfl)) rfl ?_
    refine gd_aload_n (q := 49) rfl rfl rfl ?_
    refine gd_iload_n (q := 50) rfl rfl rfl ?_
    refine gd_iload_n (q := 51) rfl rfl rfl ?_
    refine gx_if_eq (q := 54) (r := 67) rfl rfl rfl hp (fun c_51 hp => ?_) (fun c_51 hp => ?_)
    · refine gd_aload_n (q := 68) rfl rfl rfl ?_
      refine gd_getR (q := 71) (r := 33) rfl rfl rfl (Nat.le_of_ble_eq_true rfl) rfl rfl (gr_29_3 hG) ?_
      refine gd_iload_n (q := 72) rfl rfl rfl ?_
      refine gd_iald (q := 73) rfl rfl (Nat.le_of_ble_eq_true rfl) rfl hp.1 ?_
      replace hp := hp.2
      refine gd_cVi (q := 76) rfl rfl lk5_68 myX5_pushTo vxX5_pushTo (ct_X5_pushTo f _ _ _ hG _ _ hp) rfl (Nat.le_of_ble_eq_true rfl) rfl rfl (Nat.le_of_ble_eq_true rfl) rfl (Nat.le_of_ble_eq_true rfl) ⟨(Nat.le_of_ble_eq_true rfl), (Nat.le_of_ble_eq_true rfl)⟩ ?_
      exact gd_ireturn rfl rfl (am_zn (z_X5_pushTo I (I 31 a1.toNatClampNeg) (I 33 a1.toNatClampNeg))) (Nat.le_refl 0) (Nat.le_refl 0) rfl
    · refine gd_sipush (v := 9999) (q := 57) rfl rfl rfl ?_
      refine gd_aload_n (q := 58) rfl rfl rfl ?_
      refine gd_getR (q := 61) (r := 34) rfl rfl rfl (Nat.le_of_ble_eq_true rfl) rfl rfl (gr_29_4 hG) ?_
      refine gd_iload_n (q := 62) rfl rfl rfl ?_
      refine gd_iald (q := 63) rfl rfl (Nat.le_of_ble_eq_true rfl) rfl hp.1 ?_
      replace hp := hp.2
      refine gd_isub (q := 64) rfl rfl ?_
      refine gd_goto (q := 73) rfl rfl ?_
      refine gd_cVi (q := 76) rfl rfl lk5_68 myX5_pushTo vxX5_pushTo (ct_X5_pushTo f _ _ _ hG _ _ hp) rfl (Nat.le_of_ble_eq_true rfl) rfl rfl (Nat.le_of_ble_eq_true rfl) rfl (Nat.le_of_ble_eq_true rfl) ⟨(Nat.le_of_ble_eq_true rfl), (Nat.le_of_ble_eq_true rfl)⟩ ?_
      exact gd_ireturn rfl rfl (am_zn (z_X5_pushTo I (I 31 a1.toNatClampNeg) (9999 - (I 34 a1.toNatClampNeg)))) (Nat.le_refl 0) (Nat.le_refl 0) rfl
  · refine gx_ite hp (fun c_21_1 hp => ?_) (fun c_21_1 hp => ?_)
    · refine gd_lookup (q := 77) rfl (by decide) (by first | (rw [c_21_1]; done) | (rw [c_21_1]; rfl)) rfl ?_
      refine gd_iload_n (q := 78) rfl rfl rfl ?_
      refine gx_if_eq (q := 81) (r := 103) rfl rfl rfl hp (fun c_78 hp => ?_) (fun c_78 hp => ?_)
      · refine gd_aload_n (q := 104) rfl rfl rfl ?_
        refine gd_iload_n (q := 105) rfl rfl rfl ?_
        refine gd_aload_n (q := 106) rfl rfl rfl ?_
        refine gd_getR (q := 109) (r := 36) rfl rfl rfl (Nat.le_of_ble_eq_true rfl) rfl rfl (gr_29_6 hG) ?_
        refine gd_iload (q := 111) rfl rfl rfl ?_
        refine gd_iald (q := 112) rfl rfl (Nat.le_of_ble_eq_true rfl) rfl hp.1 ?_
        replace hp := hp.2
        refine gd_aload_n (q := 113) rfl rfl rfl ?_
        refine gd_getR (q := 116) (r := 33) rfl rfl rfl (Nat.le_of_ble_eq_true rfl) rfl rfl (gr_29_3 hG) ?_
        refine gd_iload_n (q := 117) rfl rfl rfl ?_
        refine gd_iald (q := 118) rfl rfl (Nat.le_of_ble_eq_true rfl) rfl hp.1 ?_
        replace hp := hp.2
        refine gd_iadd (q := 119) rfl rfl ?_
        refine gd_cVi (q := 122) rfl rfl lk5_68 myX5_pushTo vxX5_pushTo (ct_X5_pushTo f _ _ _ hG _ _ hp) rfl (Nat.le_of_ble_eq_true rfl) rfl rfl (Nat.le_of_ble_eq_true rfl) rfl (Nat.le_of_ble_eq_true rfl) ⟨(Nat.le_of_ble_eq_true rfl), (Nat.le_of_ble_eq_true rfl)⟩ ?_
        exact gd_ireturn rfl rfl (am_zn (z_X5_pushTo I (I 31 a1.toNatClampNeg) ((I 36 (I 32 a1.toNatClampNeg).toNatClampNeg) + (I 33 a1.toNatClampNeg)))) (Nat.le_refl 0) (Nat.le_refl 0) rfl
      · refine gd_aload_n (q := 82) rfl rfl rfl ?_
        refine gd_iload (q := 84) rfl rfl rfl ?_
        refine gd_aload_n (q := 85) rfl rfl rfl ?_
        refine gd_getR (q := 88) (r := 36) rfl rfl rfl (Nat.le_of_ble_eq_true rfl) rfl rfl (gr_29_6 hG) ?_
        refine gd_iload_n (q := 89) rfl rfl rfl ?_
        refine gd_iald (q := 90) rfl rfl (Nat.le_of_ble_eq_true rfl) rfl hp.1 ?_
        replace hp := hp.2
        refine gd_aload_n (q := 91) rfl rfl rfl ?_
        refine gd_getR (q := 94) (r := 33) rfl rfl rfl (Nat.le_of_ble_eq_true rfl) rfl rfl (gr_29_3 hG) ?_
        refine gd_iload_n (q := 95) rfl rfl rfl ?_
        refine gd_iald (q := 96) rfl rfl (Nat.le_of_ble_eq_true rfl) rfl hp.1 ?_
        replace hp := hp.2
        refine gd_iadd (q := 97) rfl rfl ?_
        refine gd_cVi (q := 100) rfl rfl lk5_68 myX5_pushTo vxX5_pushTo (ct_X5_pushTo f _ _ _ hG _ _ hp) rfl (Nat.le_of_ble_eq_true rfl) rfl rfl (Nat.le_of_ble_eq_true rfl) rfl (Nat.le_of_ble_eq_true rfl) ⟨(Nat.le_of_ble_eq_true rfl), (Nat.le_of_ble_eq_true rfl)⟩ ?_
        refine gd_goto (q := 122) rfl rfl ?_
        exact gd_ireturn rfl rfl (am_zn (z_X5_pushTo I (I 32 a1.toNatClampNeg) ((I 36 (I 31 a1.toNatClampNeg).toNatClampNeg) + (I 33 a1.toNatClampNeg)))) (Nat.le_refl 0) (Nat.le_refl 0) rfl
    · refine gd_lookup (off := 102) (q := 123) rfl (by decide) (by show Op.lookupswitch.offset [(0, 27), (1, 56)] 102 _ = _; rw [lv_osw (a := 0) c_21_0 rfl]; rw [lv_osw (a := 1) c_21_1 rfl]; first | done | rfl) rfl ?_
      refine gd_aload_n (q := 124) rfl rfl rfl ?_
      refine gd_iload_n (q := 125) rfl rfl rfl ?_
      refine gd_aload_n (q := 126) rfl rfl rfl ?_
      refine gd_getR (q := 129) (r := 36) rfl rfl rfl (Nat.le_of_ble_eq_true rfl) rfl rfl (gr_29_6 hG) ?_
      refine gd_iload (q := 131) rfl rfl rfl ?_
      refine gd_iald (q := 132) rfl rfl (Nat.le_of_ble_eq_true rfl) rfl hp.1 ?_
      replace hp := hp.2
      refine gd_cVi (q := 135) rfl rfl lk5_68 myX5_pushTo vxX5_pushTo (ct_X5_pushTo f _ _ _ hG _ _ hp.1) rfl (Nat.le_of_ble_eq_true rfl) rfl rfl (Nat.le_of_ble_eq_true rfl) rfl (Nat.le_of_ble_eq_true rfl) ⟨(Nat.le_of_ble_eq_true rfl), (Nat.le_of_ble_eq_true rfl)⟩ ?_
      replace hp := hp.2
      refine gd_istore (q := 137) rfl rfl (Nat.le_of_ble_eq_true rfl) rfl ?_
      refine gd_aload_n (q := 138) rfl rfl rfl ?_
      refine gd_iload (q := 140) rfl rfl rfl ?_
      refine gd_aload_n (q := 141) rfl rfl rfl ?_
      refine gd_getR (q := 144) (r := 36) rfl rfl rfl (Nat.le_of_ble_eq_true rfl) rfl rfl (gr_29_6 hG) ?_
      refine gd_iload_n (q := 145) rfl rfl rfl ?_
      refine gd_iald (q := 146) rfl rfl (Nat.le_of_ble_eq_true rfl) rfl hp.1 ?_
      replace hp := hp.2
      refine gd_cVi (q := 149) rfl rfl lk5_68 myX5_pushTo vxX5_pushTo (ct_X5_pushTo f _ _ _ hG _ _ hp) rfl (Nat.le_of_ble_eq_true rfl) rfl rfl (Nat.le_of_ble_eq_true rfl) rfl (Nat.le_of_ble_eq_true rfl) ⟨(Nat.le_of_ble_eq_true rfl), (Nat.le_of_ble_eq_true rfl)⟩ ?_
      refine gd_istore (q := 151) rfl rfl (Nat.le_of_ble_eq_true rfl) rfl ?_
      refine gd_iload (q := 153) rfl rfl rfl ?_
      refine gy_if_ne (q := 156) (r := 161) rfl rfl rfl (fun c_153 => ?_) (fun c_153 => ?_)
      · refine gd_iload (q := 158) rfl rfl rfl ?_
        refine gy_if_eq (q := 161) (r := 165) rfl rfl rfl (fun c_158 => ?_) (fun c_158 => ?_)
        · refine gd_iconst (v := 0) (q := 166) rfl rfl rfl ?_
          exact gd_ireturn rfl rfl rfl (Nat.le_refl 0) (Nat.le_refl 0) rfl
        · refine gd_iconst (v := 1) (q := 162) rfl rfl rfl ?_
          refine gd_goto (q := 166) rfl rfl ?_
          exact gd_ireturn rfl rfl rfl (Nat.le_refl 0) (Nat.le_refl 0) rfl
      · refine gd_iconst (v := 1) (q := 162) rfl rfl rfl ?_
        refine gd_goto (q := 166) rfl rfl ?_
        exact gd_ireturn rfl rfl rfl (Nat.le_refl 0) (Nat.le_refl 0) rfl
theorem ct_X5_pushDays (f : Nat) (I : am_I) (J : am_J) (Q : am_Q) (hG : Gr Q) (a1 : Int32) (a2 : Int32) (hp : p_X5_pushDays I a1 a2) : Cm MX5_pushDays 2 0 0 92 [.ref 29, .int a1, .int a2] I J Q (am_FiI J Q (s_X5_pushDays I a1 a2)) := cm_of (by decide) rfl IX5_pushDays_ok (Nat.le_of_ble_eq_true rfl) (gt_X5_pushDays f I J Q hG a1 a2 hp)
def s_X5_settle_L11 (a1 : Int32) (a2 : Int32) (a3 : Int32) (f : Nat) : Nat → Nat → Int32 → Int32 → Int32 → am_I → Int32 × am_I
  | 0, _, _, _, _, I => (0, I)
  | g + 1, 0, v4, v5, v6, I => (if 10 < v4 then (0, I) else (s_X5_settle_L11 a1 a2 a3 f g 1 v4 0 0 I))
  | g + 1, 1, v4, v5, v6, I => (if a1 ≤ v6 then (if v5 = 0 then ((s_X5_areWithin f I a1 a2 a3), I) else (s_X5_settle_L11 a1 a2 a3 f g 0 (v4 + 1) 0 0 I)) else (if ((a2 >>> (v6 &&& 31)) &&& 1) = 0 then (if ((s_X5_pushDays I v6 a3).1) = 0 then (s_X5_settle_L11 a1 a2 a3 f g 1 v4 v5 (v6 + 1) ((s_X5_pushDays I v6 a3).2)) else (s_X5_settle_L11 a1 a2 a3 f g 1 v4 1 (v6 + 1) ((s_X5_pushDays I v6 a3).2))) else (s_X5_settle_L11 a1 a2 a3 f g 1 v4 v5 (v6 + 1) I)))
  | _ + 1, _ + 2, _, _, _, I => (0, I)
def p_X5_settle_L11 (a1 : Int32) (a2 : Int32) (a3 : Int32) (f : Nat) : Nat → Nat → Int32 → Int32 → Int32 → am_I → Prop
  | 0, _, _, _, _, _ => False
  | g + 1, 0, v4, v5, v6, I => (if 10 < v4 then True else (p_X5_settle_L11 a1 a2 a3 f g 1 v4 0 0 I))
  | g + 1, 1, v4, v5, v6, I => (if a1 ≤ v6 then (if v5 = 0 then (p_X5_areWithin f I a1 a2 a3) else (p_X5_settle_L11 a1 a2 a3 f g 0 (v4 + 1) 0 0 I)) else (if ((a2 >>> (v6 &&& 31)) &&& 1) = 0 then ((p_X5_pushDays I v6 a3) ∧ (if ((s_X5_pushDays I v6 a3).1) = 0 then (p_X5_settle_L11 a1 a2 a3 f g 1 v4 v5 (v6 + 1) ((s_X5_pushDays I v6 a3).2)) else (p_X5_settle_L11 a1 a2 a3 f g 1 v4 1 (v6 + 1) ((s_X5_pushDays I v6 a3).2)))) else (p_X5_settle_L11 a1 a2 a3 f g 1 v4 v5 (v6 + 1) I)))
  | _ + 1, _ + 2, _, _, _, _ => False
theorem z_X5_settle_L11 (a1 : Int32) (a2 : Int32) (a3 : Int32) (f : Nat) : ∀ (g : Nat), (∀ (v4 : Int32) (v5 : Int32) (v6 : Int32) (I : am_I), (s_X5_settle_L11 a1 a2 a3 f g 0 v4 v5 v6 I).1 = 0 ∨ (s_X5_settle_L11 a1 a2 a3 f g 0 v4 v5 v6 I).1 = 1) ∧ (∀ (v4 : Int32) (v5 : Int32) (v6 : Int32) (I : am_I), (s_X5_settle_L11 a1 a2 a3 f g 1 v4 v5 v6 I).1 = 0 ∨ (s_X5_settle_L11 a1 a2 a3 f g 1 v4 v5 v6 I).1 = 1) := by
  intro g
  induction g with
  | zero => refine ⟨?_, ?_⟩ <;> (intros; exact Or.inl rfl)
  | succ g ih =>
    refine ⟨?_, ?_⟩
    · intro v4 v5 v6 I
      rw [s_X5_settle_L11]
      repeat' split
      all_goals first | exact Or.inl rfl | exact Or.inr rfl | exact z_X5_areWithin _ _ _ _ _ | exact z_X5_pushDays _ _ _ | exact ih.1 _ _ _ _ | exact ih.2 _ _ _ _
    · intro v4 v5 v6 I
      rw [s_X5_settle_L11]
      repeat' split
      all_goals first | exact Or.inl rfl | exact Or.inr rfl | exact z_X5_areWithin _ _ _ _ _ | exact z_X5_pushDays _ _ _ | exact ih.1 _ _ _ _ | exact ih.2 _ _ _ _
def s_X5_settle (f : Nat) (I : am_I) (a1 : Int32) (a2 : Int32) (a3 : Int32) : Int32 × am_I := (s_X5_settle_L11 a1 a2 a3 f f 0 0 0 0 (s_J7_fill_53178_36 f I 0))
def p_X5_settle (f : Nat) (I : am_I) (a1 : Int32) (a2 : Int32) (a3 : Int32) : Prop := ((p_J7_fill_53178_36 f I 0) ∧ (p_X5_settle_L11 a1 a2 a3 f f 0 0 0 0 (s_J7_fill_53178_36 f I 0)))
theorem z_X5_settle (f : Nat) (I : am_I) (a1 : Int32) (a2 : Int32) (a3 : Int32) : (s_X5_settle f I a1 a2 a3).1 = 0 ∨ (s_X5_settle f I a1 a2 a3).1 = 1 := by
  unfold s_X5_settle
  repeat' split
  all_goals first | exact Or.inl rfl | exact Or.inr rfl | exact z_X5_areWithin _ _ _ _ _ | exact z_X5_pushDays _ _ _ | exact (z_X5_settle_L11 _ _ _ _ _).1 _ _ _ _ | exact (z_X5_settle_L11 _ _ _ _ _).2 _ _ _ _
set_option maxRecDepth 100000 in
set_option maxHeartbeats 4000000 in
theorem gl_X5_settle_L11 (a1 : Int32) (a2 : Int32) (a3 : Int32) (f : Nat) (J : am_J) (Q : am_Q) (hG : Gr Q) : ∀ g : Nat, (∀ (v4 : Int32) (v5 : Int32) (v6 : Int32) (I : am_I), p_X5_settle_L11 a1 a2 a3 f g 0 v4 0 0 I → Gd MX5_settle (am_o 3 0 0 (am_FiI J Q (s_X5_settle_L11 a1 a2 a3 f g 0 v4 0 0 I))) 0 0 92 11 [some (.ref 29), some (.int a1), some (.int a2), some (.int a3), some (.int v4), none, none] [] I J Q) ∧ (∀ (v4 : Int32) (v5 : Int32) (v6 : Int32) (I : am_I), p_X5_settle_L11 a1 a2 a3 f g 1 v4 v5 v6 I → Gd MX5_settle (am_o 3 0 0 (am_FiI J Q (s_X5_settle_L11 a1 a2 a3 f g 1 v4 v5 v6 I))) 0 0 92 24 [some (.ref 29), some (.int a1), some (.int a2), some (.int a3), some (.int v4), some (.int v5), some (.int v6)] [] I J Q) := by
  intro g
  induction g with
  | zero => exact ⟨fun _ _ _ _ hp => False.elim hp, fun _ _ _ _ hp => False.elim hp⟩
  | succ g ih =>
    have ih_11 := ih.1
    have ih_24 := ih.2
    refine ⟨?_, ?_⟩
    · intro v4 v5 v6 I hp
      rw [s_X5_settle_L11]
      rw [p_X5_settle_L11] at hp
      refine gd_iload (q := 13) rfl rfl rfl ?_
      refine gd_bipush (v := 10) (q := 15) rfl rfl rfl ?_
      refine gx_icmp_gt (q := 18) (r := 77) rfl rfl rfl hp (fun c_15 hp => ?_) (fun c_15 hp => ?_)
      · refine gd_iconst (v := 0) (q := 78) rfl rfl rfl ?_
        exact gd_ireturn rfl rfl rfl (Nat.le_refl 0) (Nat.le_refl 0) rfl
      · refine gd_iconst (v := 0) (q := 19) rfl rfl rfl ?_
        refine gd_istore (q := 21) rfl rfl (Nat.le_of_ble_eq_true rfl) rfl ?_
        refine gd_iconst (v := 0) (q := 22) rfl rfl rfl ?_
        refine gd_istore (q := 24) rfl rfl (Nat.le_of_ble_eq_true rfl) rfl ?_
        exact ih_24 _ 0 0 _ hp
    · intro v4 v5 v6 I hp
      rw [s_X5_settle_L11]
      rw [p_X5_settle_L11] at hp
      refine gd_iload (q := 26) rfl rfl rfl ?_
      refine gd_iload_n (q := 27) rfl rfl rfl ?_
      refine gx_icmp_ge (q := 30) (r := 58) rfl rfl rfl hp (fun c_27 hp => ?_) (fun c_27 hp => ?_)
      · refine gd_iload (q := 60) rfl rfl rfl ?_
        refine gx_if_ne (q := 63) (r := 71) rfl rfl rfl hp (fun c_60 hp => ?_) (fun c_60 hp => ?_)
        · refine gd_aload_n (q := 64) rfl rfl rfl ?_
          refine gd_iload_n (q := 65) rfl rfl rfl ?_
          refine gd_iload_n (q := 66) rfl rfl rfl ?_
          refine gd_iload_n (q := 67) rfl rfl rfl ?_
          refine gd_cVi (q := 70) rfl rfl lk5_65 myX5_areWithin vxX5_areWithin (ct_X5_areWithin f _ _ _ hG _ _ _ hp) rfl (Nat.le_of_ble_eq_true rfl) rfl rfl (Nat.le_of_ble_eq_true rfl) rfl (Nat.le_of_ble_eq_true rfl) ⟨(Nat.le_of_ble_eq_true rfl), (Nat.le_of_ble_eq_true rfl)⟩ ?_
          exact gd_ireturn rfl rfl (am_zn (z_X5_areWithin f I a1 a2 a3)) (Nat.le_refl 0) (Nat.le_refl 0) rfl
        · refine gd_iinc (v := (v4 + 1)) (q := 74) rfl rfl rfl rfl (Nat.le_of_ble_eq_true rfl) rfl ?_
          refine gd_goto (q := 11) rfl rfl ?_
          refine gd_drop 5 ?_
          refine gd_drop 6 ?_
          exact ih_11 _ 0 0 _ hp
      · refine gd_iload_n (q := 31) rfl rfl rfl ?_
        refine gd_iload (q := 33) rfl rfl rfl ?_
        refine gd_ishr (q := 34) rfl rfl ?_
        refine gd_iconst (v := 1) (q := 35) rfl rfl rfl ?_
        refine gd_iand (q := 36) rfl rfl ?_
        refine gx_if_ne (q := 39) (r := 52) rfl rfl rfl hp (fun c_36 hp => ?_) (fun c_36 hp => ?_)
        · refine gd_aload_n (q := 40) rfl rfl rfl ?_
          refine gd_iload (q := 42) rfl rfl rfl ?_
          refine gd_iload_n (q := 43) rfl rfl rfl ?_
          refine gd_cVi (q := 46) rfl rfl lk5_61 myX5_pushDays vxX5_pushDays (ct_X5_pushDays f _ _ _ hG _ _ hp.1) rfl (Nat.le_of_ble_eq_true rfl) rfl rfl (Nat.le_of_ble_eq_true rfl) rfl (Nat.le_of_ble_eq_true rfl) ⟨(Nat.le_of_ble_eq_true rfl), (Nat.le_of_ble_eq_true rfl)⟩ ?_
          replace hp := hp.2
          refine gx_if_eq (q := 49) (r := 52) rfl rfl rfl hp (fun c_46 hp => ?_) (fun c_46 hp => ?_)
          · refine gd_iinc (v := (v6 + 1)) (q := 55) rfl rfl rfl rfl (Nat.le_of_ble_eq_true rfl) rfl ?_
            refine gd_goto (q := 24) rfl rfl ?_
            exact ih_24 _ _ _ _ hp
          · refine gd_iconst (v := 1) (q := 50) rfl rfl rfl ?_
            refine gd_istore (q := 52) rfl rfl (Nat.le_of_ble_eq_true rfl) rfl ?_
            refine gd_iinc (v := (v6 + 1)) (q := 55) rfl rfl rfl rfl (Nat.le_of_ble_eq_true rfl) rfl ?_
            refine gd_goto (q := 24) rfl rfl ?_
            exact ih_24 _ _ _ _ hp
        · refine gd_iinc (v := (v6 + 1)) (q := 55) rfl rfl rfl rfl (Nat.le_of_ble_eq_true rfl) rfl ?_
          refine gd_goto (q := 24) rfl rfl ?_
          exact ih_24 _ _ _ _ hp
theorem gl_X5_settle_11 (a1 : Int32) (a2 : Int32) (a3 : Int32) (f : Nat) (J : am_J) (Q : am_Q) (hG : Gr Q) (g : Nat) : ∀ (v4 : Int32) (v5 : Int32) (v6 : Int32) (I : am_I), p_X5_settle_L11 a1 a2 a3 f g 0 v4 0 0 I → Gd MX5_settle (am_o 3 0 0 (am_FiI J Q (s_X5_settle_L11 a1 a2 a3 f g 0 v4 0 0 I))) 0 0 92 11 [some (.ref 29), some (.int a1), some (.int a2), some (.int a3), some (.int v4), none, none] [] I J Q := (gl_X5_settle_L11 a1 a2 a3 f J Q hG g).1
theorem gl_X5_settle_24 (a1 : Int32) (a2 : Int32) (a3 : Int32) (f : Nat) (J : am_J) (Q : am_Q) (hG : Gr Q) (g : Nat) : ∀ (v4 : Int32) (v5 : Int32) (v6 : Int32) (I : am_I), p_X5_settle_L11 a1 a2 a3 f g 1 v4 v5 v6 I → Gd MX5_settle (am_o 3 0 0 (am_FiI J Q (s_X5_settle_L11 a1 a2 a3 f g 1 v4 v5 v6 I))) 0 0 92 24 [some (.ref 29), some (.int a1), some (.int a2), some (.int a3), some (.int v4), some (.int v5), some (.int v6)] [] I J Q := (gl_X5_settle_L11 a1 a2 a3 f J Q hG g).2
set_option maxRecDepth 100000 in
set_option maxHeartbeats 4000000 in
theorem gt_X5_settle (f : Nat) (I : am_I) (J : am_J) (Q : am_Q) (hG : Gr Q) (a1 : Int32) (a2 : Int32) (a3 : Int32) (hp : p_X5_settle f I a1 a2 a3) : Gd MX5_settle (am_o 3 0 0 (am_FiI J Q (s_X5_settle f I a1 a2 a3))) 0 0 92 0 [some (.ref 29), some (.int a1), some (.int a2), some (.int a3), none, none, none] [] I J Q := by
  unfold s_X5_settle
  unfold p_X5_settle at hp
  refine gd_aload_n (q := 1) rfl rfl rfl ?_
  refine gd_getR (q := 4) (r := 36) rfl rfl rfl (Nat.le_of_ble_eq_true rfl) rfl rfl (gr_29_6 hG) ?_
  refine gd_iconst (v := 0) (q := 5) rfl rfl rfl ?_
  refine gd_cSv (q := 8) rfl rfl lk5_55 myJ7_fill_53178 sxJ7_fill_53178 (ct_J7_fill_53178_36 f _ _ _ hG _ hp.1) rfl rfl (Nat.le_of_ble_eq_true rfl) ⟨(Nat.le_of_ble_eq_true rfl), (Nat.le_of_ble_eq_true rfl)⟩ ?_
  replace hp := hp.2
  refine gd_iconst (v := 0) (q := 9) rfl rfl rfl ?_
  refine gd_istore (q := 11) rfl rfl (Nat.le_of_ble_eq_true rfl) rfl ?_
  exact gl_X5_settle_11 a1 a2 a3 f J Q hG f 0 0 0 _ hp
theorem ct_X5_settle (f : Nat) (I : am_I) (J : am_J) (Q : am_Q) (hG : Gr Q) (a1 : Int32) (a2 : Int32) (a3 : Int32) (hp : p_X5_settle f I a1 a2 a3) : Cm MX5_settle 3 0 0 92 [.ref 29, .int a1, .int a2, .int a3] I J Q (am_FiI J Q (s_X5_settle f I a1 a2 a3)) := cm_of (by decide) rfl IX5_settle_ok (Nat.le_of_ble_eq_true rfl) (gt_X5_settle f I J Q hG a1 a2 a3 hp)
def s_X5_findLeftOut_L19  (f : Nat) : Nat → Int32 → Int32 → Int32 → am_I → Int32 × am_I
  | 0, _, _, _, I => (0, I)
  | g + 1, v1, v2, v3, I => (if v3 < 0 then ((v1 ||| (1 <<< (((I 29 7) - 1) &&& 31))), I) else (if (s_J6_bitCount_0f7a4 v3) = v2 then (if ((s_X5_settle f I (I 29 7) v3 0).1) = 0 then (s_X5_findLeftOut_L19 f g v1 v2 (v3 + (-1)) ((s_X5_settle f I (I 29 7) v3 0).2)) else (v3, ((s_X5_settle f I (I 29 7) v3 0).2))) else (s_X5_findLeftOut_L19 f g v1 v2 (v3 + (-1)) I)))
def p_X5_findLeftOut_L19  (f : Nat) : Nat → Int32 → Int32 → Int32 → am_I → Prop
  | 0, _, _, _, _ => False
  | g + 1, v1, v2, v3, I => (if v3 < 0 then True else (if (s_J6_bitCount_0f7a4 v3) = v2 then ((p_X5_settle f I (I 29 7) v3 0) ∧ (if ((s_X5_settle f I (I 29 7) v3 0).1) = 0 then (p_X5_findLeftOut_L19 f g v1 v2 (v3 + (-1)) ((s_X5_settle f I (I 29 7) v3 0).2)) else True)) else (p_X5_findLeftOut_L19 f g v1 v2 (v3 + (-1)) I)))
def s_X5_findLeftOut (f : Nat) (I : am_I)  : Int32 × am_I := (s_X5_findLeftOut_L19 f f (I 35 ((I 29 7) - 1).toNatClampNeg) (s_J6_bitCount_0f7a4 (I 35 ((I 29 7) - 1).toNatClampNeg)) (I 35 ((I 29 7) - 1).toNatClampNeg) I)
def p_X5_findLeftOut (f : Nat) (I : am_I)  : Prop := (vp_in ((I 29 7) - 1) 13 ∧ (p_X5_findLeftOut_L19 f f (I 35 ((I 29 7) - 1).toNatClampNeg) (s_J6_bitCount_0f7a4 (I 35 ((I 29 7) - 1).toNatClampNeg)) (I 35 ((I 29 7) - 1).toNatClampNeg) I))
set_option maxRecDepth 100000 in
set_option maxHeartbeats 4000000 in
theorem gl_X5_findLeftOut_L19  (f : Nat) (J : am_J) (Q : am_Q) (hG : Gr Q) : ∀ g : Nat, (∀ (v1 : Int32) (v2 : Int32) (v3 : Int32) (I : am_I), p_X5_findLeftOut_L19 f g v1 v2 v3 I → Gd MX5_findLeftOut (am_o 4 0 0 (am_FiI J Q (s_X5_findLeftOut_L19 f g v1 v2 v3 I))) 0 0 92 19 [some (.ref 29), some (.int v1), some (.int v2), some (.int v3)] [] I J Q) := by
  intro g
  induction g with
  | zero => exact fun _ _ _ _ hp => False.elim hp
  | succ g ih =>
    have ih_19 := ih
    intro v1 v2 v3 I hp
    rw [s_X5_findLeftOut_L19]
    rw [p_X5_findLeftOut_L19] at hp
    refine gd_iload_n (q := 20) rfl rfl rfl ?_
    refine gx_if_lt (q := 23) (r := 52) rfl rfl rfl hp (fun c_20 hp => ?_) (fun c_20 hp => ?_)
    · refine gd_iload_n (q := 53) rfl rfl rfl ?_
      refine gd_iconst (v := 1) (q := 54) rfl rfl rfl ?_
      refine gd_aload_n (q := 55) rfl rfl rfl ?_
      refine gd_getI (q := 58) rfl rfl rfl (Nat.le_of_ble_eq_true rfl) rfl rfl ?_
      refine gd_iconst (v := 1) (q := 59) rfl rfl rfl ?_
      refine gd_isub (q := 60) rfl rfl ?_
      refine gd_ishl (q := 61) rfl rfl ?_
      refine gd_ior (q := 62) rfl rfl ?_
      exact gd_ireturn rfl rfl rfl (Nat.le_refl 0) (Nat.le_refl 0) rfl
    · refine gd_iload_n (q := 24) rfl rfl rfl ?_
      refine gd_cSi (q := 27) rfl rfl lk5_49 myJ6_bitCount_0f7a4 sxJ6_bitCount_0f7a4 (ct_J6_bitCount_0f7a4 f _ _ _ hG _) rfl rfl (Nat.le_of_ble_eq_true rfl) ⟨(Nat.le_of_ble_eq_true rfl), (Nat.le_of_ble_eq_true rfl)⟩ ?_
      refine gd_iload_n (q := 28) rfl rfl rfl ?_
      refine gx_icmp_ne (q := 31) (r := 46) rfl rfl rfl hp (fun c_28 hp => ?_) (fun c_28 hp => ?_)
      · refine gd_aload_n (q := 32) rfl rfl rfl ?_
        refine gd_aload_n (q := 33) rfl rfl rfl ?_
        refine gd_getI (q := 36) rfl rfl rfl (Nat.le_of_ble_eq_true rfl) rfl rfl ?_
        refine gd_iload_n (q := 37) rfl rfl rfl ?_
        refine gd_iconst (v := 0) (q := 38) rfl rfl rfl ?_
        refine gd_cVi (q := 41) rfl rfl lk5_45 myX5_settle vxX5_settle (ct_X5_settle f _ _ _ hG _ _ _ hp.1) rfl (Nat.le_of_ble_eq_true rfl) rfl rfl (Nat.le_of_ble_eq_true rfl) rfl (Nat.le_of_ble_eq_true rfl) ⟨(Nat.le_of_ble_eq_true rfl), (Nat.le_of_ble_eq_true rfl)⟩ ?_
        replace hp := hp.2
        refine gx_if_eq (q := 44) (r := 46) rfl rfl rfl hp (fun c_41 hp => ?_) (fun c_41 hp => ?_)
        · refine gd_iinc (v := (v3 + (-1))) (q := 49) rfl rfl rfl rfl (Nat.le_of_ble_eq_true rfl) rfl ?_
          refine gd_goto (q := 19) rfl rfl ?_
          exact ih_19 _ _ _ _ hp
        · refine gd_iload_n (q := 45) rfl rfl rfl ?_
          exact gd_ireturn rfl rfl rfl (Nat.le_refl 0) (Nat.le_refl 0) rfl
      · refine gd_iinc (v := (v3 + (-1))) (q := 49) rfl rfl rfl rfl (Nat.le_of_ble_eq_true rfl) rfl ?_
        refine gd_goto (q := 19) rfl rfl ?_
        exact ih_19 _ _ _ _ hp
theorem gl_X5_findLeftOut_19  (f : Nat) (J : am_J) (Q : am_Q) (hG : Gr Q) (g : Nat) : ∀ (v1 : Int32) (v2 : Int32) (v3 : Int32) (I : am_I), p_X5_findLeftOut_L19 f g v1 v2 v3 I → Gd MX5_findLeftOut (am_o 4 0 0 (am_FiI J Q (s_X5_findLeftOut_L19 f g v1 v2 v3 I))) 0 0 92 19 [some (.ref 29), some (.int v1), some (.int v2), some (.int v3)] [] I J Q := (gl_X5_findLeftOut_L19 f J Q hG g)
set_option maxRecDepth 100000 in
set_option maxHeartbeats 4000000 in
theorem gt_X5_findLeftOut (f : Nat) (I : am_I) (J : am_J) (Q : am_Q) (hG : Gr Q)  (hp : p_X5_findLeftOut f I) : Gd MX5_findLeftOut (am_o 4 0 0 (am_FiI J Q (s_X5_findLeftOut f I))) 0 0 92 0 [some (.ref 29), none, none, none] [] I J Q := by
  unfold s_X5_findLeftOut
  unfold p_X5_findLeftOut at hp
  refine gd_aload_n (q := 1) rfl rfl rfl ?_
  refine gd_getR (q := 4) (r := 35) rfl rfl rfl (Nat.le_of_ble_eq_true rfl) rfl rfl (gr_29_5 hG) ?_
  refine gd_aload_n (q := 5) rfl rfl rfl ?_
  refine gd_getI (q := 8) rfl rfl rfl (Nat.le_of_ble_eq_true rfl) rfl rfl ?_
  refine gd_iconst (v := 1) (q := 9) rfl rfl rfl ?_
  refine gd_isub (q := 10) rfl rfl ?_
  refine gd_iald (q := 11) rfl rfl (Nat.le_of_ble_eq_true rfl) rfl hp.1 ?_
  replace hp := hp.2
  refine gd_istore_n (q := 12) rfl rfl (Nat.le_of_ble_eq_true rfl) rfl ?_
  refine gd_iload_n (q := 13) rfl rfl rfl ?_
  refine gd_cSi (q := 16) rfl rfl lk5_49 myJ6_bitCount_0f7a4 sxJ6_bitCount_0f7a4 (ct_J6_bitCount_0f7a4 f _ _ _ hG _) rfl rfl (Nat.le_of_ble_eq_true rfl) ⟨(Nat.le_of_ble_eq_true rfl), (Nat.le_of_ble_eq_true rfl)⟩ ?_
  refine gd_istore_n (q := 17) rfl rfl (Nat.le_of_ble_eq_true rfl) rfl ?_
  refine gd_iload_n (q := 18) rfl rfl rfl ?_
  refine gd_istore_n (q := 19) rfl rfl (Nat.le_of_ble_eq_true rfl) rfl ?_
  exact gl_X5_findLeftOut_19 f J Q hG f _ _ _ _ hp
theorem ct_X5_findLeftOut (f : Nat) (I : am_I) (J : am_J) (Q : am_Q) (hG : Gr Q)  (hp : p_X5_findLeftOut f I) : Cm MX5_findLeftOut 4 0 0 92 [.ref 29] I J Q (am_FiI J Q (s_X5_findLeftOut f I)) := cm_of (by decide) rfl IX5_findLeftOut_ok (Nat.le_of_ble_eq_true rfl) (gt_X5_findLeftOut f I J Q hG hp)
def s_X5_add (f : Nat) (I : am_I) (a1 : Int32) (a2 : Int32) (a3 : Int32) (a4 : Int32) (a5 : Int32) : Int32 × am_I := (if (I 29 7) < 12 then (((((s_X5_findLeftOut f (am_w (am_w (am_w (am_w (am_w (am_w I 30 (I 29 7).toNatClampNeg a1) 31 (I 29 7).toNatClampNeg a2) 32 (I 29 7).toNatClampNeg a3) 33 (I 29 7).toNatClampNeg a4) 34 (I 29 7).toNatClampNeg a5) 29 7 ((I 29 7) + 1))).2) 29 7) - 1), (am_w ((s_X5_findLeftOut f (am_w (am_w (am_w (am_w (am_w (am_w I 30 (I 29 7).toNatClampNeg a1) 31 (I 29 7).toNatClampNeg a2) 32 (I 29 7).toNatClampNeg a3) 33 (I 29 7).toNatClampNeg a4) 34 (I 29 7).toNatClampNeg a5) 29 7 ((I 29 7) + 1))).2) 35 ((I 29 7) + 1).toNatClampNeg ((s_X5_findLeftOut f (am_w (am_w (am_w (am_w (am_w (am_w I 30 (I 29 7).toNatClampNeg a1) 31 (I 29 7).toNatClampNeg a2) 32 (I 29 7).toNatClampNeg a3) 33 (I 29 7).toNatClampNeg a4) 34 (I 29 7).toNatClampNeg a5) 29 7 ((I 29 7) + 1))).1))) else ((-1), I))
def p_X5_add (f : Nat) (I : am_I) (a1 : Int32) (a2 : Int32) (a3 : Int32) (a4 : Int32) (a5 : Int32) : Prop := (if (I 29 7) < 12 then (vp_in (I 29 7) 12 ∧ (vp_in (I 29 7) 12 ∧ (vp_in (I 29 7) 12 ∧ (vp_in (I 29 7) 12 ∧ (vp_in (I 29 7) 12 ∧ ((p_X5_findLeftOut f (am_w (am_w (am_w (am_w (am_w (am_w I 30 (I 29 7).toNatClampNeg a1) 31 (I 29 7).toNatClampNeg a2) 32 (I 29 7).toNatClampNeg a3) 33 (I 29 7).toNatClampNeg a4) 34 (I 29 7).toNatClampNeg a5) 29 7 ((I 29 7) + 1))) ∧ vp_in ((I 29 7) + 1) 13)))))) else True)
set_option maxRecDepth 100000 in
set_option maxHeartbeats 4000000 in
theorem gt_X5_add (f : Nat) (I : am_I) (J : am_J) (Q : am_Q) (hG : Gr Q) (a1 : Int32) (a2 : Int32) (a3 : Int32) (a4 : Int32) (a5 : Int32) (hp : p_X5_add f I a1 a2 a3 a4 a5) : Gd MX5_add (am_o 5 0 0 (am_FiI J Q (s_X5_add f I a1 a2 a3 a4 a5))) 0 0 92 0 [some (.ref 29), some (.int a1), some (.int a2), some (.int a3), some (.int a4), some (.int a5)] [] I J Q := by
  unfold s_X5_add
  unfold p_X5_add at hp
  refine gd_aload_n (q := 1) rfl rfl rfl ?_
  refine gd_getI (q := 4) rfl rfl rfl (Nat.le_of_ble_eq_true rfl) rfl rfl ?_
  refine gd_bipush (v := 12) (q := 6) rfl rfl rfl ?_
  refine gx_icmp_lt (q := 9) (r := 11) rfl rfl rfl hp (fun c_6 hp => ?_) (fun c_6 hp => ?_)
  · refine gd_aload_n (q := 12) rfl rfl rfl ?_
    refine gd_getR (q := 15) (r := 30) rfl rfl rfl (Nat.le_of_ble_eq_true rfl) rfl rfl (gr_29_0 hG) ?_
    refine gd_aload_n (q := 16) rfl rfl rfl ?_
    refine gd_getI (q := 19) rfl rfl rfl (Nat.le_of_ble_eq_true rfl) rfl rfl ?_
    refine gd_iload_n (q := 20) rfl rfl rfl ?_
    refine gd_iast (q := 21) rfl rfl (Nat.le_of_ble_eq_true rfl) rfl hp.1 ?_
    replace hp := hp.2
    refine gd_aload_n (q := 22) rfl rfl rfl ?_
    refine gd_getR (q := 25) (r := 31) rfl rfl rfl (Nat.le_of_ble_eq_true rfl) rfl rfl (gr_29_1 hG) ?_
    refine gd_aload_n (q := 26) rfl rfl rfl ?_
    refine gd_getI (q := 29) rfl rfl rfl (Nat.le_of_ble_eq_true rfl) rfl rfl ?_
    refine gd_iload_n (q := 30) rfl rfl rfl ?_
    refine gd_iast (q := 31) rfl rfl (Nat.le_of_ble_eq_true rfl) rfl hp.1 ?_
    replace hp := hp.2
    refine gd_aload_n (q := 32) rfl rfl rfl ?_
    refine gd_getR (q := 35) (r := 32) rfl rfl rfl (Nat.le_of_ble_eq_true rfl) rfl rfl (gr_29_2 hG) ?_
    refine gd_aload_n (q := 36) rfl rfl rfl ?_
    refine gd_getI (q := 39) rfl rfl rfl (Nat.le_of_ble_eq_true rfl) rfl rfl ?_
    refine gd_iload_n (q := 40) rfl rfl rfl ?_
    refine gd_iast (q := 41) rfl rfl (Nat.le_of_ble_eq_true rfl) rfl hp.1 ?_
    replace hp := hp.2
    refine gd_aload_n (q := 42) rfl rfl rfl ?_
    refine gd_getR (q := 45) (r := 33) rfl rfl rfl (Nat.le_of_ble_eq_true rfl) rfl rfl (gr_29_3 hG) ?_
    refine gd_aload_n (q := 46) rfl rfl rfl ?_
    refine gd_getI (q := 49) rfl rfl rfl (Nat.le_of_ble_eq_true rfl) rfl rfl ?_
    refine gd_iload (q := 51) rfl rfl rfl ?_
    refine gd_iast (q := 52) rfl rfl (Nat.le_of_ble_eq_true rfl) rfl hp.1 ?_
    replace hp := hp.2
    refine gd_aload_n (q := 53) rfl rfl rfl ?_
    refine gd_getR (q := 56) (r := 34) rfl rfl rfl (Nat.le_of_ble_eq_true rfl) rfl rfl (gr_29_4 hG) ?_
    refine gd_aload_n (q := 57) rfl rfl rfl ?_
    refine gd_getI (q := 60) rfl rfl rfl (Nat.le_of_ble_eq_true rfl) rfl rfl ?_
    refine gd_iload (q := 62) rfl rfl rfl ?_
    refine gd_iast (q := 63) rfl rfl (Nat.le_of_ble_eq_true rfl) rfl hp.1 ?_
    replace hp := hp.2
    refine gd_aload_n (q := 64) rfl rfl rfl ?_
    refine gd_dup (q := 65) rfl rfl rfl ?_
    refine gd_getI (q := 68) rfl rfl rfl (Nat.le_of_ble_eq_true rfl) rfl rfl ?_
    refine gd_iconst (v := 1) (q := 69) rfl rfl rfl ?_
    refine gd_iadd (q := 70) rfl rfl ?_
    refine gd_putI (q := 73) rfl rfl rfl (Nat.le_of_ble_eq_true rfl) rfl rfl rfl (Or.inl rfl) ?_
    refine gd_aload_n (q := 74) rfl rfl rfl ?_
    refine gd_getR (q := 77) (r := 35) rfl rfl rfl (Nat.le_of_ble_eq_true rfl) rfl rfl (gr_29_5 hG) ?_
    refine gd_aload_n (q := 78) rfl rfl rfl ?_
    refine gd_getI (q := 81) rfl rfl rfl (Nat.le_of_ble_eq_true rfl) rfl rfl ?_
    refine gd_aload_n (q := 82) rfl rfl rfl ?_
    refine gd_cVi (q := 85) rfl rfl lk5_37 myX5_findLeftOut vxX5_findLeftOut (ct_X5_findLeftOut f _ _ _ hG hp.1) rfl (Nat.le_of_ble_eq_true rfl) rfl rfl (Nat.le_of_ble_eq_true rfl) rfl (Nat.le_of_ble_eq_true rfl) ⟨(Nat.le_of_ble_eq_true rfl), (Nat.le_of_ble_eq_true rfl)⟩ ?_
    replace hp := hp.2
    refine gd_iast (q := 86) rfl rfl (Nat.le_of_ble_eq_true rfl) rfl hp ?_
    refine gd_aload_n (q := 87) rfl rfl rfl ?_
    refine gd_getI (q := 90) rfl rfl rfl (Nat.le_of_ble_eq_true rfl) rfl rfl ?_
    refine gd_iconst (v := 1) (q := 91) rfl rfl rfl ?_
    refine gd_isub (q := 92) rfl rfl ?_
    exact gd_ireturn rfl rfl rfl (Nat.le_refl 0) (Nat.le_refl 0) rfl
  · refine gd_iconst (v := (-1)) (q := 10) rfl rfl rfl ?_
    exact gd_ireturn rfl rfl rfl (Nat.le_refl 0) (Nat.le_refl 0) rfl
theorem ct_X5_add (f : Nat) (I : am_I) (J : am_J) (Q : am_Q) (hG : Gr Q) (a1 : Int32) (a2 : Int32) (a3 : Int32) (a4 : Int32) (a5 : Int32) (hp : p_X5_add f I a1 a2 a3 a4 a5) : Cm MX5_add 5 0 0 92 [.ref 29, .int a1, .int a2, .int a3, .int a4, .int a5] I J Q (am_FiI J Q (s_X5_add f I a1 a2 a3 a4 a5)) := cm_of (by decide) rfl IX5_add_ok (Nat.le_of_ble_eq_true rfl) (gt_X5_add f I J Q hG a1 a2 a3 a4 a5 hp)
def s_X9_span (f : Nat) (I : am_I) (a1 : Int32) (a2 : Int32) (a3 : Int32) : Int32 × am_I := (if (s_X9_isEvent a1) = 0 then ((-1), I) else (if (s_X9_isDay a2) = 0 then ((-1), I) else (if (s_X9_isDay a3) = 0 then ((-1), I) else (if a3 < a2 then ((-1), I) else (((s_X5_add f I 0 a1 a1 a2 a3).1), ((s_X5_add f I 0 a1 a1 a2 a3).2))))))
def p_X9_span (f : Nat) (I : am_I) (a1 : Int32) (a2 : Int32) (a3 : Int32) : Prop := (if (s_X9_isEvent a1) = 0 then True else (if (s_X9_isDay a2) = 0 then True else (if (s_X9_isDay a3) = 0 then True else (if a3 < a2 then True else (p_X5_add f I 0 a1 a1 a2 a3)))))
set_option maxRecDepth 100000 in
set_option maxHeartbeats 4000000 in
theorem gt_X9_span (f : Nat) (I : am_I) (J : am_J) (Q : am_Q) (hG : Gr Q) (a1 : Int32) (a2 : Int32) (a3 : Int32) (hp : p_X9_span f I a1 a2 a3) : Gd MX9_span (am_o 6 0 0 (am_FiI J Q (s_X9_span f I a1 a2 a3))) 0 0 92 0 [some (.ref 0), some (.int a1), some (.int a2), some (.int a3)] [] I J Q := by
  unfold s_X9_span
  unfold p_X9_span at hp
  refine gd_iload_n (q := 1) rfl rfl rfl ?_
  refine gd_cSi (q := 4) rfl rfl lk9_215 myX9_isEvent sxX9_isEvent (ct_X9_isEvent f _ _ _ hG _) rfl rfl (Nat.le_of_ble_eq_true rfl) ⟨(Nat.le_of_ble_eq_true rfl), (Nat.le_of_ble_eq_true rfl)⟩ ?_
  refine gx_if_eq (q := 7) (r := 41) rfl rfl rfl hp (fun c_4 hp => ?_) (fun c_4 hp => ?_)
  · refine gd_iconst (v := (-1)) (q := 42) rfl rfl rfl ?_
    exact gd_ireturn rfl rfl rfl (Nat.le_refl 0) (Nat.le_refl 0) rfl
  · refine gd_iload_n (q := 8) rfl rfl rfl ?_
    refine gd_cSi (q := 11) rfl rfl lk9_121 myX9_isDay sxX9_isDay (ct_X9_isDay f _ _ _ hG _) rfl rfl (Nat.le_of_ble_eq_true rfl) ⟨(Nat.le_of_ble_eq_true rfl), (Nat.le_of_ble_eq_true rfl)⟩ ?_
    refine gx_if_eq (q := 14) (r := 41) rfl rfl rfl hp (fun c_11 hp => ?_) (fun c_11 hp => ?_)
    · refine gd_iconst (v := (-1)) (q := 42) rfl rfl rfl ?_
      exact gd_ireturn rfl rfl rfl (Nat.le_refl 0) (Nat.le_refl 0) rfl
    · refine gd_iload_n (q := 15) rfl rfl rfl ?_
      refine gd_cSi (q := 18) rfl rfl lk9_121 myX9_isDay sxX9_isDay (ct_X9_isDay f _ _ _ hG _) rfl rfl (Nat.le_of_ble_eq_true rfl) ⟨(Nat.le_of_ble_eq_true rfl), (Nat.le_of_ble_eq_true rfl)⟩ ?_
      refine gx_if_eq (q := 21) (r := 41) rfl rfl rfl hp (fun c_18 hp => ?_) (fun c_18 hp => ?_)
      · refine gd_iconst (v := (-1)) (q := 42) rfl rfl rfl ?_
        exact gd_ireturn rfl rfl rfl (Nat.le_refl 0) (Nat.le_refl 0) rfl
      · refine gd_iload_n (q := 22) rfl rfl rfl ?_
        refine gd_iload_n (q := 23) rfl rfl rfl ?_
        refine gx_icmp_gt (q := 26) (r := 41) rfl rfl rfl hp (fun c_23 hp => ?_) (fun c_23 hp => ?_)
        · refine gd_iconst (v := (-1)) (q := 42) rfl rfl rfl ?_
          exact gd_ireturn rfl rfl rfl (Nat.le_refl 0) (Nat.le_refl 0) rfl
        · refine gd_aload_n (q := 27) rfl rfl rfl ?_
          refine gd_getR (q := 30) (r := 29) rfl rfl rfl (Nat.le_of_ble_eq_true rfl) rfl rfl (gr_0_7 hG) ?_
          refine gd_iconst (v := 0) (q := 31) rfl rfl rfl ?_
          refine gd_iload_n (q := 32) rfl rfl rfl ?_
          refine gd_iload_n (q := 33) rfl rfl rfl ?_
          refine gd_iload_n (q := 34) rfl rfl rfl ?_
          refine gd_iload_n (q := 35) rfl rfl rfl ?_
          refine gd_cVi (q := 38) rfl rfl lk9_218 myX5_add vxX5_add (ct_X5_add f _ _ _ hG _ _ _ _ _ hp) rfl (Nat.le_of_ble_eq_true rfl) rfl rfl (Nat.le_of_ble_eq_true rfl) rfl (Nat.le_of_ble_eq_true rfl) ⟨(Nat.le_of_ble_eq_true rfl), (Nat.le_of_ble_eq_true rfl)⟩ ?_
          refine gd_goto (q := 42) rfl rfl ?_
          exact gd_ireturn rfl rfl rfl (Nat.le_refl 0) (Nat.le_refl 0) rfl
theorem ct_X9_span (f : Nat) (I : am_I) (J : am_J) (Q : am_Q) (hG : Gr Q) (a1 : Int32) (a2 : Int32) (a3 : Int32) (hp : p_X9_span f I a1 a2 a3) : Cm MX9_span 6 0 0 92 [.ref 0, .int a1, .int a2, .int a3] I J Q (am_FiI J Q (s_X9_span f I a1 a2 a3)) := cm_of (by decide) rfl IX9_span_ok (Nat.le_of_ble_eq_true rfl) (gt_X9_span f I J Q hG a1 a2 a3 hp)
def s_X9_areTwoEvents  (a0 : Int32) (a1 : Int32) : Int32 := (if (s_X9_isEvent a0) = 0 then 0 else (if (s_X9_isEvent a1) = 0 then 0 else (if a0 = a1 then 0 else 1)))
theorem z_X9_areTwoEvents  (a0 : Int32) (a1 : Int32) : (s_X9_areTwoEvents a0 a1) = 0 ∨ (s_X9_areTwoEvents a0 a1) = 1 := by
  unfold s_X9_areTwoEvents
  repeat' split
  all_goals first | exact Or.inl rfl | exact Or.inr rfl | exact z_X9_isEvent _
set_option maxRecDepth 100000 in
set_option maxHeartbeats 4000000 in
theorem gt_X9_areTwoEvents (f : Nat) (I : am_I) (J : am_J) (Q : am_Q) (hG : Gr Q) (a0 : Int32) (a1 : Int32) : Gd MX9_areTwoEvents (am_o 1 0 0 (am_Fi I J Q (s_X9_areTwoEvents a0 a1))) 0 0 92 0 [some (.int a0), some (.int a1)] [] I J Q := by
  unfold s_X9_areTwoEvents
  refine gd_iload_n (q := 1) rfl rfl rfl ?_
  refine gd_cSi (q := 4) rfl rfl lk9_215 myX9_isEvent sxX9_isEvent (ct_X9_isEvent f _ _ _ hG _) rfl rfl (Nat.le_of_ble_eq_true rfl) ⟨(Nat.le_of_ble_eq_true rfl), (Nat.le_of_ble_eq_true rfl)⟩ ?_
  refine gy_if_eq (q := 7) (r := 23) rfl rfl rfl (fun c_4 => ?_) (fun c_4 => ?_)
  · refine gd_iconst (v := 0) (q := 24) rfl rfl rfl ?_
    exact gd_ireturn rfl rfl rfl (Nat.le_refl 0) (Nat.le_refl 0) rfl
  · refine gd_iload_n (q := 8) rfl rfl rfl ?_
    refine gd_cSi (q := 11) rfl rfl lk9_215 myX9_isEvent sxX9_isEvent (ct_X9_isEvent f _ _ _ hG _) rfl rfl (Nat.le_of_ble_eq_true rfl) ⟨(Nat.le_of_ble_eq_true rfl), (Nat.le_of_ble_eq_true rfl)⟩ ?_
    refine gy_if_eq (q := 14) (r := 23) rfl rfl rfl (fun c_11 => ?_) (fun c_11 => ?_)
    · refine gd_iconst (v := 0) (q := 24) rfl rfl rfl ?_
      exact gd_ireturn rfl rfl rfl (Nat.le_refl 0) (Nat.le_refl 0) rfl
    · refine gd_iload_n (q := 15) rfl rfl rfl ?_
      refine gd_iload_n (q := 16) rfl rfl rfl ?_
      refine gy_icmp_eq (q := 19) (r := 23) rfl rfl rfl (fun c_16 => ?_) (fun c_16 => ?_)
      · refine gd_iconst (v := 0) (q := 24) rfl rfl rfl ?_
        exact gd_ireturn rfl rfl rfl (Nat.le_refl 0) (Nat.le_refl 0) rfl
      · refine gd_iconst (v := 1) (q := 20) rfl rfl rfl ?_
        refine gd_goto (q := 24) rfl rfl ?_
        exact gd_ireturn rfl rfl rfl (Nat.le_refl 0) (Nat.le_refl 0) rfl
theorem ct_X9_areTwoEvents (f : Nat) (I : am_I) (J : am_J) (Q : am_Q) (hG : Gr Q) (a0 : Int32) (a1 : Int32) : Cm MX9_areTwoEvents 1 0 0 92 [.int a0, .int a1] I J Q (am_Fi I J Q (s_X9_areTwoEvents a0 a1)) := cm_of (by decide) rfl IX9_areTwoEvents_ok (Nat.le_of_ble_eq_true rfl) (gt_X9_areTwoEvents f I J Q hG a0 a1)
def s_X9_behind_J19 (a1 : Int32) (a2 : Int32) (a3 : Int32) (f : Nat) (t0 : Int32) (I : am_I) : Int32 × am_I := (if (s_X9_areTwoEvents a1 a2) = 0 then ((-1), I) else (if t0 = 0 then ((-1), I) else (((s_X5_add f I 1 a1 a2 a3 0).1), ((s_X5_add f I 1 a1 a2 a3 0).2))))
def p_X9_behind_J19 (a1 : Int32) (a2 : Int32) (a3 : Int32) (f : Nat) (t0 : Int32) (I : am_I) : Prop := (if (s_X9_areTwoEvents a1 a2) = 0 then True else (if t0 = 0 then True else (p_X5_add f I 1 a1 a2 a3 0)))
def s_X9_behind (f : Nat) (I : am_I) (a1 : Int32) (a2 : Int32) (a3 : Int32) : Int32 × am_I := (if a3 < (-9999) then (s_X9_behind_J19 a1 a2 a3 f 0 I) else (if 9999 < a3 then (s_X9_behind_J19 a1 a2 a3 f 0 I) else (s_X9_behind_J19 a1 a2 a3 f 1 I)))
def p_X9_behind (f : Nat) (I : am_I) (a1 : Int32) (a2 : Int32) (a3 : Int32) : Prop := (if a3 < (-9999) then (p_X9_behind_J19 a1 a2 a3 f 0 I) else (if 9999 < a3 then (p_X9_behind_J19 a1 a2 a3 f 0 I) else (p_X9_behind_J19 a1 a2 a3 f 1 I)))
set_option maxRecDepth 100000 in
set_option maxHeartbeats 4000000 in
theorem gl_X9_behind_19 (a1 : Int32) (a2 : Int32) (a3 : Int32) (f : Nat) (J : am_J) (Q : am_Q) (hG : Gr Q) (t0 : Int32) (I : am_I) : p_X9_behind_J19 a1 a2 a3 f t0 I → Gd MX9_behind (am_o 6 0 0 (am_FiI J Q (s_X9_behind_J19 a1 a2 a3 f t0 I))) 0 0 92 19 [some (.ref 0), some (.int a1), some (.int a2), some (.int a3), none] [.int t0] I J Q := by
  intro hp
  unfold s_X9_behind_J19
  unfold p_X9_behind_J19 at hp
  refine gd_istore (q := 21) rfl rfl (Nat.le_of_ble_eq_true rfl) rfl ?_
  refine gd_iload_n (q := 22) rfl rfl rfl ?_
  refine gd_iload_n (q := 23) rfl rfl rfl ?_
  refine gd_cSi (q := 26) rfl rfl lk9_220 myX9_areTwoEvents sxX9_areTwoEvents (ct_X9_areTwoEvents f _ _ _ hG _ _) rfl rfl (Nat.le_of_ble_eq_true rfl) ⟨(Nat.le_of_ble_eq_true rfl), (Nat.le_of_ble_eq_true rfl)⟩ ?_
  refine gx_if_eq (q := 29) (r := 49) rfl rfl rfl hp (fun c_26 hp => ?_) (fun c_26 hp => ?_)
  · refine gd_iconst (v := (-1)) (q := 50) rfl rfl rfl ?_
    exact gd_ireturn rfl rfl rfl (Nat.le_refl 0) (Nat.le_refl 0) rfl
  · refine gd_iload (q := 31) rfl rfl rfl ?_
    refine gx_if_eq (q := 34) (r := 49) rfl rfl rfl hp (fun c_31 hp => ?_) (fun c_31 hp => ?_)
    · refine gd_iconst (v := (-1)) (q := 50) rfl rfl rfl ?_
      exact gd_ireturn rfl rfl rfl (Nat.le_refl 0) (Nat.le_refl 0) rfl
    · refine gd_aload_n (q := 35) rfl rfl rfl ?_
      refine gd_getR (q := 38) (r := 29) rfl rfl rfl (Nat.le_of_ble_eq_true rfl) rfl rfl (gr_0_7 hG) ?_
      refine gd_iconst (v := 1) (q := 39) rfl rfl rfl ?_
      refine gd_iload_n (q := 40) rfl rfl rfl ?_
      refine gd_iload_n (q := 41) rfl rfl rfl ?_
      refine gd_iload_n (q := 42) rfl rfl rfl ?_
      refine gd_iconst (v := 0) (q := 43) rfl rfl rfl ?_
      refine gd_cVi (q := 46) rfl rfl lk9_218 myX5_add vxX5_add (ct_X5_add f _ _ _ hG _ _ _ _ _ hp) rfl (Nat.le_of_ble_eq_true rfl) rfl rfl (Nat.le_of_ble_eq_true rfl) rfl (Nat.le_of_ble_eq_true rfl) ⟨(Nat.le_of_ble_eq_true rfl), (Nat.le_of_ble_eq_true rfl)⟩ ?_
      refine gd_goto (q := 50) rfl rfl ?_
      exact gd_ireturn rfl rfl rfl (Nat.le_refl 0) (Nat.le_refl 0) rfl
set_option maxRecDepth 100000 in
set_option maxHeartbeats 4000000 in
theorem gt_X9_behind (f : Nat) (I : am_I) (J : am_J) (Q : am_Q) (hG : Gr Q) (a1 : Int32) (a2 : Int32) (a3 : Int32) (hp : p_X9_behind f I a1 a2 a3) : Gd MX9_behind (am_o 6 0 0 (am_FiI J Q (s_X9_behind f I a1 a2 a3))) 0 0 92 0 [some (.ref 0), some (.int a1), some (.int a2), some (.int a3), none] [] I J Q := by
  unfold s_X9_behind
  unfold p_X9_behind at hp
  refine gd_iload_n (q := 1) rfl rfl rfl ?_
  refine gd_sipush (v := (-9999)) (q := 4) rfl rfl rfl ?_
  refine gx_icmp_lt (q := 7) (r := 18) rfl rfl rfl hp (fun c_4 hp => ?_) (fun c_4 hp => ?_)
  · refine gd_iconst (v := 0) (q := 19) rfl rfl rfl ?_
    exact gl_X9_behind_19 a1 a2 a3 f J Q hG 0 _ hp
  · refine gd_iload_n (q := 8) rfl rfl rfl ?_
    refine gd_sipush (v := 9999) (q := 11) rfl rfl rfl ?_
    refine gx_icmp_gt (q := 14) (r := 18) rfl rfl rfl hp (fun c_11 hp => ?_) (fun c_11 hp => ?_)
    · refine gd_iconst (v := 0) (q := 19) rfl rfl rfl ?_
      exact gl_X9_behind_19 a1 a2 a3 f J Q hG 0 _ hp
    · refine gd_iconst (v := 1) (q := 15) rfl rfl rfl ?_
      refine gd_goto (q := 19) rfl rfl ?_
      exact gl_X9_behind_19 a1 a2 a3 f J Q hG _ _ hp
theorem ct_X9_behind (f : Nat) (I : am_I) (J : am_J) (Q : am_Q) (hG : Gr Q) (a1 : Int32) (a2 : Int32) (a3 : Int32) (hp : p_X9_behind f I a1 a2 a3) : Cm MX9_behind 6 0 0 92 [.ref 0, .int a1, .int a2, .int a3] I J Q (am_FiI J Q (s_X9_behind f I a1 a2 a3)) := cm_of (by decide) rfl IX9_behind_ok (Nat.le_of_ble_eq_true rfl) (gt_X9_behind f I J Q hG a1 a2 a3 hp)
def s_X9_same (f : Nat) (I : am_I) (a1 : Int32) (a2 : Int32) : Int32 × am_I := (if (s_X9_areTwoEvents a1 a2) = 0 then ((-1), I) else (((s_X5_add f I 2 a1 a2 0 0).1), ((s_X5_add f I 2 a1 a2 0 0).2)))
def p_X9_same (f : Nat) (I : am_I) (a1 : Int32) (a2 : Int32) : Prop := (if (s_X9_areTwoEvents a1 a2) = 0 then True else (p_X5_add f I 2 a1 a2 0 0))
set_option maxRecDepth 100000 in
set_option maxHeartbeats 4000000 in
theorem gt_X9_same (f : Nat) (I : am_I) (J : am_J) (Q : am_Q) (hG : Gr Q) (a1 : Int32) (a2 : Int32) (hp : p_X9_same f I a1 a2) : Gd MX9_same (am_o 6 0 0 (am_FiI J Q (s_X9_same f I a1 a2))) 0 0 92 0 [some (.ref 0), some (.int a1), some (.int a2)] [] I J Q := by
  unfold s_X9_same
  unfold p_X9_same at hp
  refine gd_iload_n (q := 1) rfl rfl rfl ?_
  refine gd_iload_n (q := 2) rfl rfl rfl ?_
  refine gd_cSi (q := 5) rfl rfl lk9_220 myX9_areTwoEvents sxX9_areTwoEvents (ct_X9_areTwoEvents f _ _ _ hG _ _) rfl rfl (Nat.le_of_ble_eq_true rfl) ⟨(Nat.le_of_ble_eq_true rfl), (Nat.le_of_ble_eq_true rfl)⟩ ?_
  refine gx_if_eq (q := 8) (r := 23) rfl rfl rfl hp (fun c_5 hp => ?_) (fun c_5 hp => ?_)
  · refine gd_iconst (v := (-1)) (q := 24) rfl rfl rfl ?_
    exact gd_ireturn rfl rfl rfl (Nat.le_refl 0) (Nat.le_refl 0) rfl
  · refine gd_aload_n (q := 9) rfl rfl rfl ?_
    refine gd_getR (q := 12) (r := 29) rfl rfl rfl (Nat.le_of_ble_eq_true rfl) rfl rfl (gr_0_7 hG) ?_
    refine gd_iconst (v := 2) (q := 13) rfl rfl rfl ?_
    refine gd_iload_n (q := 14) rfl rfl rfl ?_
    refine gd_iload_n (q := 15) rfl rfl rfl ?_
    refine gd_iconst (v := 0) (q := 16) rfl rfl rfl ?_
    refine gd_iconst (v := 0) (q := 17) rfl rfl rfl ?_
    refine gd_cVi (q := 20) rfl rfl lk9_218 myX5_add vxX5_add (ct_X5_add f _ _ _ hG _ _ _ _ _ hp) rfl (Nat.le_of_ble_eq_true rfl) rfl rfl (Nat.le_of_ble_eq_true rfl) rfl (Nat.le_of_ble_eq_true rfl) ⟨(Nat.le_of_ble_eq_true rfl), (Nat.le_of_ble_eq_true rfl)⟩ ?_
    refine gd_goto (q := 24) rfl rfl ?_
    exact gd_ireturn rfl rfl rfl (Nat.le_refl 0) (Nat.le_refl 0) rfl
theorem ct_X9_same (f : Nat) (I : am_I) (J : am_J) (Q : am_Q) (hG : Gr Q) (a1 : Int32) (a2 : Int32) (hp : p_X9_same f I a1 a2) : Cm MX9_same 6 0 0 92 [.ref 0, .int a1, .int a2] I J Q (am_FiI J Q (s_X9_same f I a1 a2)) := cm_of (by decide) rfl IX9_same_ok (Nat.le_of_ble_eq_true rfl) (gt_X9_same f I J Q hG a1 a2 hp)
def s_X5_leftOut (I : am_I) (a1 : Int32) : Int32 := (if a1 < 0 then (-1) else (if (I 29 7) < a1 then (-1) else (I 35 a1.toNatClampNeg)))
def p_X5_leftOut (I : am_I) (a1 : Int32) : Prop := (if a1 < 0 then True else (if (I 29 7) < a1 then True else vp_in a1 13))
set_option maxRecDepth 100000 in
set_option maxHeartbeats 4000000 in
theorem gt_X5_leftOut (f : Nat) (I : am_I) (J : am_J) (Q : am_Q) (hG : Gr Q) (a1 : Int32) (hp : p_X5_leftOut I a1) : Gd MX5_leftOut (am_o 0 0 0 (am_Fi I J Q (s_X5_leftOut I a1))) 0 0 92 0 [some (.ref 29), some (.int a1)] [] I J Q := by
  unfold s_X5_leftOut
  unfold p_X5_leftOut at hp
  refine gd_iload_n (q := 1) rfl rfl rfl ?_
  refine gx_if_lt (q := 4) (r := 21) rfl rfl rfl hp (fun c_1 hp => ?_) (fun c_1 hp => ?_)
  · refine gd_iconst (v := (-1)) (q := 22) rfl rfl rfl ?_
    exact gd_ireturn rfl rfl rfl (Nat.le_refl 0) (Nat.le_refl 0) rfl
  · refine gd_iload_n (q := 5) rfl rfl rfl ?_
    refine gd_aload_n (q := 6) rfl rfl rfl ?_
    refine gd_getI (q := 9) rfl rfl rfl (Nat.le_of_ble_eq_true rfl) rfl rfl ?_
    refine gx_icmp_gt (q := 12) (r := 21) rfl rfl rfl hp (fun c_9 hp => ?_) (fun c_9 hp => ?_)
    · refine gd_iconst (v := (-1)) (q := 22) rfl rfl rfl ?_
      exact gd_ireturn rfl rfl rfl (Nat.le_refl 0) (Nat.le_refl 0) rfl
    · refine gd_aload_n (q := 13) rfl rfl rfl ?_
      refine gd_getR (q := 16) (r := 35) rfl rfl rfl (Nat.le_of_ble_eq_true rfl) rfl rfl (gr_29_5 hG) ?_
      refine gd_iload_n (q := 17) rfl rfl rfl ?_
      refine gd_iald (q := 18) rfl rfl (Nat.le_of_ble_eq_true rfl) rfl hp ?_
      refine gd_goto (q := 22) rfl rfl ?_
      exact gd_ireturn rfl rfl rfl (Nat.le_refl 0) (Nat.le_refl 0) rfl
theorem ct_X5_leftOut (f : Nat) (I : am_I) (J : am_J) (Q : am_Q) (hG : Gr Q) (a1 : Int32) (hp : p_X5_leftOut I a1) : Cm MX5_leftOut 0 0 0 92 [.ref 29, .int a1] I J Q (am_Fi I J Q (s_X5_leftOut I a1)) := cm_of (by decide) rfl IX5_leftOut_ok (Nat.le_of_ble_eq_true rfl) (gt_X5_leftOut f I J Q hG a1 hp)
def s_X9_left (I : am_I) (a1 : Int32) : Int32 := (s_X5_leftOut I a1)
def p_X9_left (I : am_I) (a1 : Int32) : Prop := (p_X5_leftOut I a1)
set_option maxRecDepth 100000 in
set_option maxHeartbeats 4000000 in
theorem gt_X9_left (f : Nat) (I : am_I) (J : am_J) (Q : am_Q) (hG : Gr Q) (a1 : Int32) (hp : p_X9_left I a1) : Gd MX9_left (am_o 1 0 0 (am_Fi I J Q (s_X9_left I a1))) 0 0 92 0 [some (.ref 0), some (.int a1)] [] I J Q := by
  unfold s_X9_left
  unfold p_X9_left at hp
  refine gd_aload_n (q := 1) rfl rfl rfl ?_
  refine gd_getR (q := 4) (r := 29) rfl rfl rfl (Nat.le_of_ble_eq_true rfl) rfl rfl (gr_0_7 hG) ?_
  refine gd_iload_n (q := 5) rfl rfl rfl ?_
  refine gd_cVi (q := 8) rfl rfl lk9_223 myX5_leftOut vxX5_leftOut (ct_X5_leftOut f _ _ _ hG _ hp) rfl (Nat.le_of_ble_eq_true rfl) rfl rfl (Nat.le_of_ble_eq_true rfl) rfl (Nat.le_of_ble_eq_true rfl) ⟨(Nat.le_of_ble_eq_true rfl), (Nat.le_of_ble_eq_true rfl)⟩ ?_
  exact gd_ireturn rfl rfl rfl (Nat.le_refl 0) (Nat.le_refl 0) rfl
theorem ct_X9_left (f : Nat) (I : am_I) (J : am_J) (Q : am_Q) (hG : Gr Q) (a1 : Int32) (hp : p_X9_left I a1) : Cm MX9_left 1 0 0 92 [.ref 0, .int a1] I J Q (am_Fi I J Q (s_X9_left I a1)) := cm_of (by decide) rfl IX9_left_ok (Nat.le_of_ble_eq_true rfl) (gt_X9_left f I J Q hG a1 hp)
def s_X5_dayOf (f : Nat) (I : am_I) (a1 : Int32) (a2 : Int32) (a3 : Int32) : Int32 × am_I := (if a2 < 0 then ((-1), I) else (if (I 29 7) < a2 then ((-1), I) else (if (s_X9_isEvent a1) = 0 then ((-1), I) else (if a3 = 0 then ((((s_X5_settle f I a2 (I 35 a2.toNatClampNeg) a3).2) 36 a1.toNatClampNeg), ((s_X5_settle f I a2 (I 35 a2.toNatClampNeg) a3).2)) else ((9999 - (((s_X5_settle f I a2 (I 35 a2.toNatClampNeg) a3).2) 36 a1.toNatClampNeg)), ((s_X5_settle f I a2 (I 35 a2.toNatClampNeg) a3).2))))))
def p_X5_dayOf (f : Nat) (I : am_I) (a1 : Int32) (a2 : Int32) (a3 : Int32) : Prop := (if a2 < 0 then True else (if (I 29 7) < a2 then True else (if (s_X9_isEvent a1) = 0 then True else (vp_in a2 13 ∧ ((p_X5_settle f I a2 (I 35 a2.toNatClampNeg) a3) ∧ (if a3 = 0 then vp_in a1 10 else vp_in a1 10))))))
set_option maxRecDepth 100000 in
set_option maxHeartbeats 4000000 in
theorem gt_X5_dayOf (f : Nat) (I : am_I) (J : am_J) (Q : am_Q) (hG : Gr Q) (a1 : Int32) (a2 : Int32) (a3 : Int32) (hp : p_X5_dayOf f I a1 a2 a3) : Gd MX5_dayOf (am_o 4 0 0 (am_FiI J Q (s_X5_dayOf f I a1 a2 a3))) 0 0 92 0 [some (.ref 29), some (.int a1), some (.int a2), some (.int a3)] [] I J Q := by
  unfold s_X5_dayOf
  unfold p_X5_dayOf at hp
  refine gd_iload_n (q := 1) rfl rfl rfl ?_
  refine gx_if_lt (q := 4) (r := 19) rfl rfl rfl hp (fun c_1 hp => ?_) (fun c_1 hp => ?_)
  · refine gd_iconst (v := (-1)) (q := 20) rfl rfl rfl ?_
    exact gd_ireturn rfl rfl rfl (Nat.le_refl 0) (Nat.le_refl 0) rfl
  · refine gd_iload_n (q := 5) rfl rfl rfl ?_
    refine gd_aload_n (q := 6) rfl rfl rfl ?_
    refine gd_getI (q := 9) rfl rfl rfl (Nat.le_of_ble_eq_true rfl) rfl rfl ?_
    refine gx_icmp_gt (q := 12) (r := 19) rfl rfl rfl hp (fun c_9 hp => ?_) (fun c_9 hp => ?_)
    · refine gd_iconst (v := (-1)) (q := 20) rfl rfl rfl ?_
      exact gd_ireturn rfl rfl rfl (Nat.le_refl 0) (Nat.le_refl 0) rfl
    · refine gd_iload_n (q := 13) rfl rfl rfl ?_
      refine gd_cSi (q := 16) rfl rfl lk5_41 myX9_isEvent sxX9_isEvent (ct_X9_isEvent f _ _ _ hG _) rfl rfl (Nat.le_of_ble_eq_true rfl) ⟨(Nat.le_of_ble_eq_true rfl), (Nat.le_of_ble_eq_true rfl)⟩ ?_
      refine gx_if_ne (q := 19) (r := 21) rfl rfl rfl hp (fun c_16 hp => ?_) (fun c_16 hp => ?_)
      · refine gd_iconst (v := (-1)) (q := 20) rfl rfl rfl ?_
        exact gd_ireturn rfl rfl rfl (Nat.le_refl 0) (Nat.le_refl 0) rfl
      · refine gd_aload_n (q := 22) rfl rfl rfl ?_
        refine gd_iload_n (q := 23) rfl rfl rfl ?_
        refine gd_aload_n (q := 24) rfl rfl rfl ?_
        refine gd_getR (q := 27) (r := 35) rfl rfl rfl (Nat.le_of_ble_eq_true rfl) rfl rfl (gr_29_5 hG) ?_
        refine gd_iload_n (q := 28) rfl rfl rfl ?_
        refine gd_iald (q := 29) rfl rfl (Nat.le_of_ble_eq_true rfl) rfl hp.1 ?_
        replace hp := hp.2
        refine gd_iload_n (q := 30) rfl rfl rfl ?_
        refine gd_cVi (q := 33) rfl rfl lk5_45 myX5_settle vxX5_settle (ct_X5_settle f _ _ _ hG _ _ _ hp.1) rfl (Nat.le_of_ble_eq_true rfl) rfl rfl (Nat.le_of_ble_eq_true rfl) rfl (Nat.le_of_ble_eq_true rfl) ⟨(Nat.le_of_ble_eq_true rfl), (Nat.le_of_ble_eq_true rfl)⟩ ?_
        replace hp := hp.2
        refine gd_pop (q := 34) rfl rfl rfl ?_
        refine gd_iload_n (q := 35) rfl rfl rfl ?_
        refine gx_if_eq (q := 38) (r := 51) rfl rfl rfl hp (fun c_35 hp => ?_) (fun c_35 hp => ?_)
        · refine gd_aload_n (q := 52) rfl rfl rfl ?_
          refine gd_getR (q := 55) (r := 36) rfl rfl rfl (Nat.le_of_ble_eq_true rfl) rfl rfl (gr_29_6 hG) ?_
          refine gd_iload_n (q := 56) rfl rfl rfl ?_
          refine gd_iald (q := 57) rfl rfl (Nat.le_of_ble_eq_true rfl) rfl hp ?_
          exact gd_ireturn rfl rfl rfl (Nat.le_refl 0) (Nat.le_refl 0) rfl
        · refine gd_sipush (v := 9999) (q := 41) rfl rfl rfl ?_
          refine gd_aload_n (q := 42) rfl rfl rfl ?_
          refine gd_getR (q := 45) (r := 36) rfl rfl rfl (Nat.le_of_ble_eq_true rfl) rfl rfl (gr_29_6 hG) ?_
          refine gd_iload_n (q := 46) rfl rfl rfl ?_
          refine gd_iald (q := 47) rfl rfl (Nat.le_of_ble_eq_true rfl) rfl hp ?_
          refine gd_isub (q := 48) rfl rfl ?_
          refine gd_goto (q := 57) rfl rfl ?_
          exact gd_ireturn rfl rfl rfl (Nat.le_refl 0) (Nat.le_refl 0) rfl
theorem ct_X5_dayOf (f : Nat) (I : am_I) (J : am_J) (Q : am_Q) (hG : Gr Q) (a1 : Int32) (a2 : Int32) (a3 : Int32) (hp : p_X5_dayOf f I a1 a2 a3) : Cm MX5_dayOf 4 0 0 92 [.ref 29, .int a1, .int a2, .int a3] I J Q (am_FiI J Q (s_X5_dayOf f I a1 a2 a3)) := cm_of (by decide) rfl IX5_dayOf_ok (Nat.le_of_ble_eq_true rfl) (gt_X5_dayOf f I J Q hG a1 a2 a3 hp)
def s_X9_when (f : Nat) (I : am_I) (a1 : Int32) (a2 : Int32) (a3 : Int32) : Int32 × am_I := (if (s_X9_isEvent a1) = 0 then ((-1), I) else (if a3 < 0 then ((-1), I) else (if a3 ≤ 1 then (if a3 = 1 then (((s_X5_dayOf f I a1 a2 1).1), ((s_X5_dayOf f I a1 a2 1).2)) else (((s_X5_dayOf f I a1 a2 0).1), ((s_X5_dayOf f I a1 a2 0).2))) else ((-1), I))))
def p_X9_when (f : Nat) (I : am_I) (a1 : Int32) (a2 : Int32) (a3 : Int32) : Prop := (if (s_X9_isEvent a1) = 0 then True else (if a3 < 0 then True else (if a3 ≤ 1 then (if a3 = 1 then (p_X5_dayOf f I a1 a2 1) else (p_X5_dayOf f I a1 a2 0)) else True)))
set_option maxRecDepth 100000 in
set_option maxHeartbeats 4000000 in
theorem gt_X9_when (f : Nat) (I : am_I) (J : am_J) (Q : am_Q) (hG : Gr Q) (a1 : Int32) (a2 : Int32) (a3 : Int32) (hp : p_X9_when f I a1 a2 a3) : Gd MX9_when (am_o 5 0 0 (am_FiI J Q (s_X9_when f I a1 a2 a3))) 0 0 92 0 [some (.ref 0), some (.int a1), some (.int a2), some (.int a3)] [] I J Q := by
  unfold s_X9_when
  unfold p_X9_when at hp
  refine gd_iload_n (q := 1) rfl rfl rfl ?_
  refine gd_cSi (q := 4) rfl rfl lk9_215 myX9_isEvent sxX9_isEvent (ct_X9_isEvent f _ _ _ hG _) rfl rfl (Nat.le_of_ble_eq_true rfl) ⟨(Nat.le_of_ble_eq_true rfl), (Nat.le_of_ble_eq_true rfl)⟩ ?_
  refine gx_if_eq (q := 7) (r := 16) rfl rfl rfl hp (fun c_4 hp => ?_) (fun c_4 hp => ?_)
  · refine gd_iconst (v := (-1)) (q := 17) rfl rfl rfl ?_
    exact gd_ireturn rfl rfl rfl (Nat.le_refl 0) (Nat.le_refl 0) rfl
  · refine gd_iload_n (q := 8) rfl rfl rfl ?_
    refine gx_if_lt (q := 11) (r := 16) rfl rfl rfl hp (fun c_8 hp => ?_) (fun c_8 hp => ?_)
    · refine gd_iconst (v := (-1)) (q := 17) rfl rfl rfl ?_
      exact gd_ireturn rfl rfl rfl (Nat.le_refl 0) (Nat.le_refl 0) rfl
    · refine gd_iload_n (q := 12) rfl rfl rfl ?_
      refine gd_iconst (v := 1) (q := 13) rfl rfl rfl ?_
      refine gx_icmp_le (q := 16) (r := 18) rfl rfl rfl hp (fun c_13 hp => ?_) (fun c_13 hp => ?_)
      · refine gd_aload_n (q := 19) rfl rfl rfl ?_
        refine gd_getR (q := 22) (r := 29) rfl rfl rfl (Nat.le_of_ble_eq_true rfl) rfl rfl (gr_0_7 hG) ?_
        refine gd_iload_n (q := 23) rfl rfl rfl ?_
        refine gd_iload_n (q := 24) rfl rfl rfl ?_
        refine gd_iload_n (q := 25) rfl rfl rfl ?_
        refine gd_iconst (v := 1) (q := 26) rfl rfl rfl ?_
        refine gx_icmp_ne (q := 29) (r := 33) rfl rfl rfl hp (fun c_26 hp => ?_) (fun c_26 hp => ?_)
        · refine gd_iconst (v := 1) (q := 30) rfl rfl rfl ?_
          refine gd_goto (q := 34) rfl rfl ?_
          refine gd_cVi (q := 37) rfl rfl lk9_226 myX5_dayOf vxX5_dayOf (ct_X5_dayOf f _ _ _ hG _ _ _ hp) rfl (Nat.le_of_ble_eq_true rfl) rfl rfl (Nat.le_of_ble_eq_true rfl) rfl (Nat.le_of_ble_eq_true rfl) ⟨(Nat.le_of_ble_eq_true rfl), (Nat.le_of_ble_eq_true rfl)⟩ ?_
          exact gd_ireturn rfl rfl rfl (Nat.le_refl 0) (Nat.le_refl 0) rfl
        · refine gd_iconst (v := 0) (q := 34) rfl rfl rfl ?_
          refine gd_cVi (q := 37) rfl rfl lk9_226 myX5_dayOf vxX5_dayOf (ct_X5_dayOf f _ _ _ hG _ _ _ hp) rfl (Nat.le_of_ble_eq_true rfl) rfl rfl (Nat.le_of_ble_eq_true rfl) rfl (Nat.le_of_ble_eq_true rfl) ⟨(Nat.le_of_ble_eq_true rfl), (Nat.le_of_ble_eq_true rfl)⟩ ?_
          exact gd_ireturn rfl rfl rfl (Nat.le_refl 0) (Nat.le_refl 0) rfl
      · refine gd_iconst (v := (-1)) (q := 17) rfl rfl rfl ?_
        exact gd_ireturn rfl rfl rfl (Nat.le_refl 0) (Nat.le_refl 0) rfl
theorem ct_X9_when (f : Nat) (I : am_I) (J : am_J) (Q : am_Q) (hG : Gr Q) (a1 : Int32) (a2 : Int32) (a3 : Int32) (hp : p_X9_when f I a1 a2 a3) : Cm MX9_when 5 0 0 92 [.ref 0, .int a1, .int a2, .int a3] I J Q (am_FiI J Q (s_X9_when f I a1 a2 a3)) := cm_of (by decide) rfl IX9_when_ok (Nat.le_of_ble_eq_true rfl) (gt_X9_when f I J Q hG a1 a2 a3 hp)
theorem am_swX9_count_1 {x : Int32} (h0 : ¬ x = 0) (h1 : ¬ x = 1) (h2 : ¬ x = 2) (h3 : ¬ x = 3) (h4 : ¬ x = 4) (h5 : ¬ x = 5) (h6 : ¬ x = 6) (h7 : ¬ x = 7) (h8 : ¬ x = 8) : (x.toInt < 0 ∨ 8 < x.toInt) ∨ (¬ x.toInt < 0 ∧ ¬ 8 < x.toInt ∧ (#[51, 59, 67, 75, 83, 91, 96, 104, 112] : Array Int)[(x.toInt - 0).toNat]? = some 117) := by
  by_cases hlo : x.toInt < 0
  · exact Or.inl (Or.inl hlo)
  by_cases hhi : 8 < x.toInt
  · exact Or.inl (Or.inr hhi)
  refine Or.inr ⟨hlo, hhi, ?_⟩
  have e0 := lv_neT (a := 0) h0 rfl
  have e1 := lv_neT (a := 1) h1 rfl
  have e2 := lv_neT (a := 2) h2 rfl
  have e3 := lv_neT (a := 3) h3 rfl
  have e4 := lv_neT (a := 4) h4 rfl
  have e5 := lv_neT (a := 5) h5 rfl
  have e6 := lv_neT (a := 6) h6 rfl
  have e7 := lv_neT (a := 7) h7 rfl
  have e8 := lv_neT (a := 8) h8 rfl
  exfalso; omega
def s_X9_count (I : am_I) (a1 : Int32) : Int32 := (if a1 = 0 then (I 9 3) else (if a1 = 1 then (I 13 1) else (if a1 = 2 then (I 15 3) else (if a1 = 3 then (I 15 11) else (if a1 = 4 then (I 26 2) else (if a1 = 5 then (I 0 9) else (if a1 = 6 then (I 29 7) else (if a1 = 7 then (I 1 1) else (if a1 = 8 then (I 0 10) else (-1))))))))))
set_option maxRecDepth 100000 in
set_option maxHeartbeats 4000000 in
theorem gt_X9_count (f : Nat) (I : am_I) (J : am_J) (Q : am_Q) (hG : Gr Q) (a1 : Int32) : Gd MX9_count (am_o 0 0 0 (am_Fi I J Q (s_X9_count I a1))) 0 0 92 0 [some (.ref 0), some (.int a1)] [] I J Q := by
  unfold s_X9_count
  refine gd_iload_n (q := 1) rfl rfl rfl ?_
  refine gy_ite (fun c_1_0 => ?_) (fun c_1_0 => ?_)
  · refine gd_tsIn (q := 52) rfl (by rw [c_1_0]; decide) (by rw [c_1_0]; decide) (by first | (rw [c_1_0]; done) | (rw [c_1_0]; rfl)) rfl ?_
    refine gd_aload_n (q := 53) rfl rfl rfl ?_
    refine gd_getR (q := 56) (r := 9) rfl rfl rfl (Nat.le_of_ble_eq_true rfl) rfl rfl (gr_0_3 hG) ?_
    refine gd_getI (q := 59) rfl rfl rfl (Nat.le_of_ble_eq_true rfl) rfl rfl ?_
    exact gd_ireturn rfl rfl rfl (Nat.le_refl 0) (Nat.le_refl 0) rfl
  · refine gy_ite (fun c_1_1 => ?_) (fun c_1_1 => ?_)
    · refine gd_tsIn (q := 60) rfl (by rw [c_1_1]; decide) (by rw [c_1_1]; decide) (by first | (rw [c_1_1]; done) | (rw [c_1_1]; rfl)) rfl ?_
      refine gd_aload_n (q := 61) rfl rfl rfl ?_
      refine gd_getR (q := 64) (r := 13) rfl rfl rfl (Nat.le_of_ble_eq_true rfl) rfl rfl (gr_0_4 hG) ?_
      refine gd_getI (q := 67) rfl rfl rfl (Nat.le_of_ble_eq_true rfl) rfl rfl ?_
      exact gd_ireturn rfl rfl rfl (Nat.le_refl 0) (Nat.le_refl 0) rfl
    · refine gy_ite (fun c_1_2 => ?_) (fun c_1_2 => ?_)
      · refine gd_tsIn (q := 68) rfl (by rw [c_1_2]; decide) (by rw [c_1_2]; decide) (by first | (rw [c_1_2]; done) | (rw [c_1_2]; rfl)) rfl ?_
        refine gd_aload_n (q := 69) rfl rfl rfl ?_
        refine gd_getR (q := 72) (r := 15) rfl rfl rfl (Nat.le_of_ble_eq_true rfl) rfl rfl (gr_0_5 hG) ?_
        refine gd_getI (q := 75) rfl rfl rfl (Nat.le_of_ble_eq_true rfl) rfl rfl ?_
        exact gd_ireturn rfl rfl rfl (Nat.le_refl 0) (Nat.le_refl 0) rfl
      · refine gy_ite (fun c_1_3 => ?_) (fun c_1_3 => ?_)
        · refine gd_tsIn (q := 76) rfl (by rw [c_1_3]; decide) (by rw [c_1_3]; decide) (by first | (rw [c_1_3]; done) | (rw [c_1_3]; rfl)) rfl ?_
          refine gd_aload_n (q := 77) rfl rfl rfl ?_
          refine gd_getR (q := 80) (r := 15) rfl rfl rfl (Nat.le_of_ble_eq_true rfl) rfl rfl (gr_0_5 hG) ?_
          refine gd_getI (q := 83) rfl rfl rfl (Nat.le_of_ble_eq_true rfl) rfl rfl ?_
          exact gd_ireturn rfl rfl rfl (Nat.le_refl 0) (Nat.le_refl 0) rfl
        · refine gy_ite (fun c_1_4 => ?_) (fun c_1_4 => ?_)
          · refine gd_tsIn (q := 84) rfl (by rw [c_1_4]; decide) (by rw [c_1_4]; decide) (by first | (rw [c_1_4]; done) | (rw [c_1_4]; rfl)) rfl ?_
            refine gd_aload_n (q := 85) rfl rfl rfl ?_
            refine gd_getR (q := 88) (r := 26) rfl rfl rfl (Nat.le_of_ble_eq_true rfl) rfl rfl (gr_0_6 hG) ?_
            refine gd_getI (q := 91) rfl rfl rfl (Nat.le_of_ble_eq_true rfl) rfl rfl ?_
            exact gd_ireturn rfl rfl rfl (Nat.le_refl 0) (Nat.le_refl 0) rfl
          · refine gy_ite (fun c_1_5 => ?_) (fun c_1_5 => ?_)
            · refine gd_tsIn (q := 92) rfl (by rw [c_1_5]; decide) (by rw [c_1_5]; decide) (by first | (rw [c_1_5]; done) | (rw [c_1_5]; rfl)) rfl ?_
              refine gd_aload_n (q := 93) rfl rfl rfl ?_
              refine gd_getI (q := 96) rfl rfl rfl (Nat.le_of_ble_eq_true rfl) rfl rfl ?_
              exact gd_ireturn rfl rfl rfl (Nat.le_refl 0) (Nat.le_refl 0) rfl
            · refine gy_ite (fun c_1_6 => ?_) (fun c_1_6 => ?_)
              · refine gd_tsIn (q := 97) rfl (by rw [c_1_6]; decide) (by rw [c_1_6]; decide) (by first | (rw [c_1_6]; done) | (rw [c_1_6]; rfl)) rfl ?_
                refine gd_aload_n (q := 98) rfl rfl rfl ?_
                refine gd_getR (q := 101) (r := 29) rfl rfl rfl (Nat.le_of_ble_eq_true rfl) rfl rfl (gr_0_7 hG) ?_
                refine gd_getI (q := 104) rfl rfl rfl (Nat.le_of_ble_eq_true rfl) rfl rfl ?_
                exact gd_ireturn rfl rfl rfl (Nat.le_refl 0) (Nat.le_refl 0) rfl
              · refine gy_ite (fun c_1_7 => ?_) (fun c_1_7 => ?_)
                · refine gd_tsIn (q := 105) rfl (by rw [c_1_7]; decide) (by rw [c_1_7]; decide) (by first | (rw [c_1_7]; done) | (rw [c_1_7]; rfl)) rfl ?_
                  refine gd_aload_n (q := 106) rfl rfl rfl ?_
                  refine gd_getR (q := 109) (r := 1) rfl rfl rfl (Nat.le_of_ble_eq_true rfl) rfl rfl (gr_0_0 hG) ?_
                  refine gd_getI (q := 112) rfl rfl rfl (Nat.le_of_ble_eq_true rfl) rfl rfl ?_
                  exact gd_ireturn rfl rfl rfl (Nat.le_refl 0) (Nat.le_refl 0) rfl
                · refine gy_ite (fun c_1_8 => ?_) (fun c_1_8 => ?_)
                  · refine gd_tsIn (q := 113) rfl (by rw [c_1_8]; decide) (by rw [c_1_8]; decide) (by first | (rw [c_1_8]; done) | (rw [c_1_8]; rfl)) rfl ?_
                    refine gd_aload_n (q := 114) rfl rfl rfl ?_
                    refine gd_getI (q := 117) rfl rfl rfl (Nat.le_of_ble_eq_true rfl) rfl rfl ?_
                    exact gd_ireturn rfl rfl rfl (Nat.le_refl 0) (Nat.le_refl 0) rfl
                  · refine gd_tsAny (q := 118) rfl (am_swX9_count_1 c_1_0 c_1_1 c_1_2 c_1_3 c_1_4 c_1_5 c_1_6 c_1_7 c_1_8) rfl ?_
                    refine gd_iconst (v := (-1)) (q := 119) rfl rfl rfl ?_
                    exact gd_ireturn rfl rfl rfl (Nat.le_refl 0) (Nat.le_refl 0) rfl
theorem ct_X9_count (f : Nat) (I : am_I) (J : am_J) (Q : am_Q) (hG : Gr Q) (a1 : Int32) : Cm MX9_count 0 0 0 92 [.ref 0, .int a1] I J Q (am_Fi I J Q (s_X9_count I a1)) := cm_of (by decide) rfl IX9_count_ok (Nat.le_of_ble_eq_true rfl) (gt_X9_count f I J Q hG a1)
