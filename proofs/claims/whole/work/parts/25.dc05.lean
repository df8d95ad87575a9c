def s_X1_literalHolds (f : Nat) (I : am_I) (a1 : Int32) : Int32 × am_I := (if (I 44 a1.toNatClampNeg) = 0 then (if (I 8 a1.toNatClampNeg) = 0 then (if ((s_X1_testHolds f I a1).1) = 0 then (if ((am_w ((s_X1_testHolds f I a1).2) 8 a1.toNatClampNeg (vp_nar .byte ((1 : Int32).toInt8.toInt32))) 8 a1.toNatClampNeg) = 2 then (1, (am_w ((s_X1_testHolds f I a1).2) 8 a1.toNatClampNeg (vp_nar .byte ((1 : Int32).toInt8.toInt32)))) else (0, (am_w ((s_X1_testHolds f I a1).2) 8 a1.toNatClampNeg (vp_nar .byte ((1 : Int32).toInt8.toInt32))))) else (if ((am_w ((s_X1_testHolds f I a1).2) 8 a1.toNatClampNeg (vp_nar .byte ((2 : Int32).toInt8.toInt32))) 8 a1.toNatClampNeg) = 2 then (1, (am_w ((s_X1_testHolds f I a1).2) 8 a1.toNatClampNeg (vp_nar .byte ((2 : Int32).toInt8.toInt32)))) else (0, (am_w ((s_X1_testHolds f I a1).2) 8 a1.toNatClampNeg (vp_nar .byte ((2 : Int32).toInt8.toInt32)))))) else (if (I 8 a1.toNatClampNeg) = 2 then (1, I) else (0, I))) else (((s_X1_testHolds f I a1).1), ((s_X1_testHolds f I a1).2)))
def p_X1_literalHolds (f : Nat) (I : am_I) (a1 : Int32) : Prop := (vp_in a1 133 ∧ (if (I 44 a1.toNatClampNeg) = 0 then (vp_in a1 133 ∧ (if (I 8 a1.toNatClampNeg) = 0 then ((p_X1_testHolds f I a1) ∧ (if ((s_X1_testHolds f I a1).1) = 0 then (vp_in a1 133 ∧ vp_in a1 133) else (vp_in a1 133 ∧ vp_in a1 133))) else vp_in a1 133)) else (p_X1_testHolds f I a1)))
theorem z_X1_literalHolds (f : Nat) (I : am_I) (a1 : Int32) : (s_X1_literalHolds f I a1).1 = 0 ∨ (s_X1_literalHolds f I a1).1 = 1 := by
  unfold s_X1_literalHolds
  repeat' split
  all_goals first | exact Or.inl rfl | exact Or.inr rfl | exact z_X1_testHolds _ _ _
set_option maxRecDepth 100000 in
set_option maxHeartbeats 4000000 in
theorem gt_X1_literalHolds (f : Nat) (I : am_I) (J : am_J) (Q : am_Q) (hG : Gr Q) (a1 : Int32) (hp : p_X1_literalHolds f I a1) : Gd MX1_literalHolds (am_o 3 0 0 (am_FiI J Q (s_X1_literalHolds f I a1))) 0 0 92 0 [some (.ref 38), some (.int a1), some (.ref 5), none] [] I J Q := by
  unfold s_X1_literalHolds
  unfold p_X1_literalHolds at hp
  refine gd_aload_n (q := 1) rfl rfl rfl ?_
  refine gd_getR (q := 4) (r := 44) rfl rfl rfl (Nat.le_of_ble_eq_true rfl) rfl rfl (gr_38_5 hG) ?_
  refine gd_iload_n (q := 5) rfl rfl rfl ?_
  refine gd_zald (q := 6) rfl rfl (Nat.le_of_ble_eq_true rfl) rfl hp.1 ?_
  replace hp := hp.2
  refine gx_if_eq (q := 9) (r := 16) rfl rfl rfl hp (fun c_6 hp => ?_) (fun c_6 hp => ?_)
  · refine gd_aload_n (q := 17) rfl rfl rfl ?_
    refine gd_getR (q := 20) (r := 8) rfl rfl rfl (Nat.le_of_ble_eq_true rfl) rfl rfl (gr_5_2 hG) ?_
    refine gd_iload_n (q := 21) rfl rfl rfl ?_
    refine gd_bald (q := 22) rfl rfl (Nat.le_of_ble_eq_true rfl) rfl hp.1 ?_
    replace hp := hp.2
    refine gx_if_ne (q := 25) (r := 48) rfl rfl rfl hp (fun c_22 hp => ?_) (fun c_22 hp => ?_)
    · refine gd_aload_n (q := 26) rfl rfl rfl ?_
      refine gd_iload_n (q := 27) rfl rfl rfl ?_
      refine gd_aload_n (q := 28) rfl rfl rfl ?_
      refine gd_cVi (q := 31) rfl rfl lk1_67 myX1_testHolds vxX1_testHolds (ct_X1_testHolds f _ _ _ hG _ hp.1) rfl (Nat.le_of_ble_eq_true rfl) rfl rfl (Nat.le_of_ble_eq_true rfl) rfl (Nat.le_of_ble_eq_true rfl) ⟨(Nat.le_of_ble_eq_true rfl), (Nat.le_of_ble_eq_true rfl)⟩ ?_
      replace hp := hp.2
      refine gx_if_eq (q := 34) (r := 38) rfl rfl rfl hp (fun c_31 hp => ?_) (fun c_31 hp => ?_)
      · refine gd_iconst (v := 1) (q := 39) rfl rfl rfl ?_
        refine gd_istore_n (q := 40) rfl rfl (Nat.le_of_ble_eq_true rfl) rfl ?_
        refine gd_aload_n (q := 41) rfl rfl rfl ?_
        refine gd_getR (q := 44) (r := 8) rfl rfl rfl (Nat.le_of_ble_eq_true rfl) rfl rfl (gr_5_2 hG) ?_
        refine gd_iload_n (q := 45) rfl rfl rfl ?_
        refine gd_iload_n (q := 46) rfl rfl rfl ?_
        refine gd_i2b (q := 47) rfl rfl ?_
        refine gd_bast (q := 48) rfl rfl (Nat.le_of_ble_eq_true rfl) rfl hp.1 ?_
        replace hp := hp.2
        refine gd_aload_n (q := 49) rfl rfl rfl ?_
        refine gd_getR (q := 52) (r := 8) rfl rfl rfl (Nat.le_of_ble_eq_true rfl) rfl rfl (gr_5_2 hG) ?_
        refine gd_iload_n (q := 53) rfl rfl rfl ?_
        refine gd_bald (q := 54) rfl rfl (Nat.le_of_ble_eq_true rfl) rfl hp ?_
        refine gd_iconst (v := 2) (q := 55) rfl rfl rfl ?_
        refine gy_icmp_ne (q := 58) (r := 62) rfl rfl rfl (fun c_55 => ?_) (fun c_55 => ?_)
        · refine gd_iconst (v := 1) (q := 59) rfl rfl rfl ?_
          refine gd_goto (q := 63) rfl rfl ?_
          exact gd_ireturn rfl rfl rfl (Nat.le_refl 0) (Nat.le_refl 0) rfl
        · refine gd_iconst (v := 0) (q := 63) rfl rfl rfl ?_
          exact gd_ireturn rfl rfl rfl (Nat.le_refl 0) (Nat.le_refl 0) rfl
      · refine gd_iconst (v := 2) (q := 35) rfl rfl rfl ?_
        refine gd_goto (q := 39) rfl rfl ?_
        refine gd_istore_n (q := 40) rfl rfl (Nat.le_of_ble_eq_true rfl) rfl ?_
        refine gd_aload_n (q := 41) rfl rfl rfl ?_
        refine gd_getR (q := 44) (r := 8) rfl rfl rfl (Nat.le_of_ble_eq_true rfl) rfl rfl (gr_5_2 hG) ?_
        refine gd_iload_n (q := 45) rfl rfl rfl ?_
        refine gd_iload_n (q := 46) rfl rfl rfl ?_
        refine gd_i2b (q := 47) rfl rfl ?_
        refine gd_bast (q := 48) rfl rfl (Nat.le_of_ble_eq_true rfl) rfl hp.1 ?_
        replace hp := hp.2
        refine gd_aload_n (q := 49) rfl rfl rfl ?_
        refine gd_getR (q := 52) (r := 8) rfl rfl rfl (Nat.le_of_ble_eq_true rfl) rfl rfl (gr_5_2 hG) ?_
        refine gd_iload_n (q := 53) rfl rfl rfl ?_
        refine gd_bald (q := 54) rfl rfl (Nat.le_of_ble_eq_true rfl) rfl hp ?_
        refine gd_iconst (v := 2) (q := 55) rfl rfl rfl ?_
        refine gy_icmp_ne (q := 58) (r := 62) rfl rfl rfl (fun c_55 => ?_) (fun c_55 => ?_)
        · refine gd_iconst (v := 1) (q := 59) rfl rfl rfl ?_
          refine gd_goto (q := 63) rfl rfl ?_
          exact gd_ireturn rfl rfl rfl (Nat.le_refl 0) (Nat.le_refl 0) rfl
        · refine gd_iconst (v := 0) (q := 63) rfl rfl rfl ?_
          exact gd_ireturn rfl rfl rfl (Nat.le_refl 0) (Nat.le_refl 0) rfl
    · refine gd_aload_n (q := 49) rfl rfl rfl ?_
      refine gd_getR (q := 52) (r := 8) rfl rfl rfl (Nat.le_of_ble_eq_true rfl) rfl rfl (gr_5_2 hG) ?_
      refine gd_iload_n (q := 53) rfl rfl rfl ?_
      refine gd_bald (q := 54) rfl rfl (Nat.le_of_ble_eq_true rfl) rfl hp ?_
      refine gd_iconst (v := 2) (q := 55) rfl rfl rfl ?_
      refine gy_icmp_ne (q := 58) (r := 62) rfl rfl rfl (fun c_55 => ?_) (fun c_55 => ?_)
      · refine gd_iconst (v := 1) (q := 59) rfl rfl rfl ?_
        refine gd_goto (q := 63) rfl rfl ?_
        exact gd_ireturn rfl rfl rfl (Nat.le_refl 0) (Nat.le_refl 0) rfl
      · refine gd_iconst (v := 0) (q := 63) rfl rfl rfl ?_
        exact gd_ireturn rfl rfl rfl (Nat.le_refl 0) (Nat.le_refl 0) rfl
  · refine gd_aload_n (q := 10) rfl rfl rfl ?_
    refine gd_iload_n (q := 11) rfl rfl rfl ?_
    refine gd_aload_n (q := 12) rfl rfl rfl ?_
    refine gd_cVi (q := 15) rfl rfl lk1_67 myX1_testHolds vxX1_testHolds (ct_X1_testHolds f _ _ _ hG _ hp) rfl (Nat.le_of_ble_eq_true rfl) rfl rfl (Nat.le_of_ble_eq_true rfl) rfl (Nat.le_of_ble_eq_true rfl) ⟨(Nat.le_of_ble_eq_true rfl), (Nat.le_of_ble_eq_true rfl)⟩ ?_
    exact gd_ireturn rfl rfl (am_zn (z_X1_testHolds f I a1)) (Nat.le_refl 0) (Nat.le_refl 0) rfl
theorem ct_X1_literalHolds (f : Nat) (I : am_I) (J : am_J) (Q : am_Q) (hG : Gr Q) (a1 : Int32) (hp : p_X1_literalHolds f I a1) : Cm MX1_literalHolds 3 0 0 92 [.ref 38, .int a1, .ref 5] I J Q (am_FiI J Q (s_X1_literalHolds f I a1)) := cm_of (by decide) rfl IX1_literalHolds_ok (Nat.le_of_ble_eq_true rfl) (gt_X1_literalHolds f I J Q hG a1 hp)
def s_X1_holds_L23 (a1 : Int32) (f : Nat) : Nat → Int32 → Int32 → Int32 → am_I → Int32 × am_I
  | 0, _, _, _, I => (0, I)
  | g + 1, v3, v4, v5, I => (if (I 40 a1.toNatClampNeg) ≤ v5 then (v4, I) else (if (I 43 v5.toNatClampNeg) = 0 then (if v4 = 0 then (s_X1_holds_L23 a1 f g v3 0 (v5 + 1) I) else (if ((s_X1_literalHolds f I v5).1) = 0 then (s_X1_holds_L23 a1 f g v3 0 (v5 + 1) ((s_X1_literalHolds f I v5).2)) else (s_X1_holds_L23 a1 f g v3 1 (v5 + 1) ((s_X1_literalHolds f I v5).2)))) else (if v5 ≤ v3 then (if v4 = 0 then (s_X1_holds_L23 a1 f g v3 0 (v5 + 1) I) else (if ((s_X1_literalHolds f I v5).1) = 0 then (s_X1_holds_L23 a1 f g v3 0 (v5 + 1) ((s_X1_literalHolds f I v5).2)) else (s_X1_holds_L23 a1 f g v3 1 (v5 + 1) ((s_X1_literalHolds f I v5).2)))) else (if v4 = 0 then (if ((s_X1_literalHolds f I v5).1) = 0 then (s_X1_holds_L23 a1 f g v3 0 (v5 + 1) ((s_X1_literalHolds f I v5).2)) else (s_X1_holds_L23 a1 f g v3 1 (v5 + 1) ((s_X1_literalHolds f I v5).2))) else (1, I)))))
def p_X1_holds_L23 (a1 : Int32) (f : Nat) : Nat → Int32 → Int32 → Int32 → am_I → Prop
  | 0, _, _, _, _ => False
  | g + 1, v3, v4, v5, I => (vp_in a1 16 ∧ (if (I 40 a1.toNatClampNeg) ≤ v5 then (v4 = 0 ∨ v4 = 1) else (vp_in v5 133 ∧ (if (I 43 v5.toNatClampNeg) = 0 then (if v4 = 0 then (p_X1_holds_L23 a1 f g v3 0 (v5 + 1) I) else ((p_X1_literalHolds f I v5) ∧ (if ((s_X1_literalHolds f I v5).1) = 0 then (p_X1_holds_L23 a1 f g v3 0 (v5 + 1) ((s_X1_literalHolds f I v5).2)) else (p_X1_holds_L23 a1 f g v3 1 (v5 + 1) ((s_X1_literalHolds f I v5).2))))) else (if v5 ≤ v3 then (if v4 = 0 then (p_X1_holds_L23 a1 f g v3 0 (v5 + 1) I) else ((p_X1_literalHolds f I v5) ∧ (if ((s_X1_literalHolds f I v5).1) = 0 then (p_X1_holds_L23 a1 f g v3 0 (v5 + 1) ((s_X1_literalHolds f I v5).2)) else (p_X1_holds_L23 a1 f g v3 1 (v5 + 1) ((s_X1_literalHolds f I v5).2))))) else (if v4 = 0 then ((p_X1_literalHolds f I v5) ∧ (if ((s_X1_literalHolds f I v5).1) = 0 then (p_X1_holds_L23 a1 f g v3 0 (v5 + 1) ((s_X1_literalHolds f I v5).2)) else (p_X1_holds_L23 a1 f g v3 1 (v5 + 1) ((s_X1_literalHolds f I v5).2)))) else True))))))
def s_X1_holds (f : Nat) (I : am_I) (a1 : Int32) : Int32 × am_I := (if a1 ≤ 0 then (s_X1_holds_L23 a1 f f 0 1 0 I) else (s_X1_holds_L23 a1 f f (I 40 (a1 - 1).toNatClampNeg) 1 (I 40 (a1 - 1).toNatClampNeg) I))
def p_X1_holds (f : Nat) (I : am_I) (a1 : Int32) : Prop := (if a1 ≤ 0 then (p_X1_holds_L23 a1 f f 0 1 0 I) else (vp_in (a1 - 1) 16 ∧ (p_X1_holds_L23 a1 f f (I 40 (a1 - 1).toNatClampNeg) 1 (I 40 (a1 - 1).toNatClampNeg) I)))
set_option maxRecDepth 100000 in
set_option maxHeartbeats 4000000 in
theorem gl_X1_holds_L23 (a1 : Int32) (f : Nat) (J : am_J) (Q : am_Q) (hG : Gr Q) : ∀ g : Nat, (∀ (v3 : Int32) (v4 : Int32) (v5 : Int32) (I : am_I), p_X1_holds_L23 a1 f g v3 v4 v5 I → Gd MX1_holds (am_o 4 0 0 (am_FiI J Q (s_X1_holds_L23 a1 f g v3 v4 v5 I))) 0 0 92 23 [some (.ref 38), some (.int a1), some (.ref 5), some (.int v3), some (.int v4), some (.int v5)] [] I J Q) := by
  intro g
  induction g with
  | zero => exact fun _ _ _ _ hp => False.elim hp
  | succ g ih =>
    have ih_23 := ih
    intro v3 v4 v5 I hp
    rw [s_X1_holds_L23]
    rw [p_X1_holds_L23] at hp
    refine gd_iload (q := 25) rfl rfl rfl ?_
    refine gd_aload_n (q := 26) rfl rfl rfl ?_
    refine gd_getR (q := 29) (r := 40) rfl rfl rfl (Nat.le_of_ble_eq_true rfl) rfl rfl (gr_38_1 hG) ?_
    refine gd_iload_n (q := 30) rfl rfl rfl ?_
    refine gd_sald (q := 31) rfl rfl (Nat.le_of_ble_eq_true rfl) rfl hp.1 ?_
    replace hp := hp.2
    refine gx_icmp_ge (q := 34) (r := 88) rfl rfl rfl hp (fun c_31 hp => ?_) (fun c_31 hp => ?_)
    · refine gd_iload (q := 90) rfl rfl rfl ?_
      exact gd_ireturn rfl rfl (am_zn hp) (Nat.le_refl 0) (Nat.le_refl 0) rfl
    · refine gd_aload_n (q := 35) rfl rfl rfl ?_
      refine gd_getR (q := 38) (r := 43) rfl rfl rfl (Nat.le_of_ble_eq_true rfl) rfl rfl (gr_38_4 hG) ?_
      refine gd_iload (q := 40) rfl rfl rfl ?_
      refine gd_zald (q := 41) rfl rfl (Nat.le_of_ble_eq_true rfl) rfl hp.1 ?_
      replace hp := hp.2
      refine gx_if_eq (q := 44) (r := 60) rfl rfl rfl hp (fun c_41 hp => ?_) (fun c_41 hp => ?_)
      · refine gd_iload (q := 62) rfl rfl rfl ?_
        refine gx_if_eq (q := 65) (r := 79) rfl rfl rfl hp (fun c_62 hp => ?_) (fun c_62 hp => ?_)
        · refine gd_iconst (v := 0) (q := 80) rfl rfl rfl ?_
          refine gd_istore (q := 82) rfl rfl (Nat.le_of_ble_eq_true rfl) rfl ?_
          refine gd_iinc (v := (v5 + 1)) (q := 85) rfl rfl rfl rfl (Nat.le_of_ble_eq_true rfl) rfl ?_
          refine gd_goto (q := 23) rfl rfl ?_
          exact ih_23 _ 0 _ _ hp
        · refine gd_aload_n (q := 66) rfl rfl rfl ?_
          refine gd_iload (q := 68) rfl rfl rfl ?_
          refine gd_aload_n (q := 69) rfl rfl rfl ?_
          refine gd_cVi (q := 72) rfl rfl lk1_64 myX1_literalHolds vxX1_literalHolds (ct_X1_literalHolds f _ _ _ hG _ hp.1) rfl (Nat.le_of_ble_eq_true rfl) rfl rfl (Nat.le_of_ble_eq_true rfl) rfl (Nat.le_of_ble_eq_true rfl) ⟨(Nat.le_of_ble_eq_true rfl), (Nat.le_of_ble_eq_true rfl)⟩ ?_
          replace hp := hp.2
          refine gx_if_eq (q := 75) (r := 79) rfl rfl rfl hp (fun c_72 hp => ?_) (fun c_72 hp => ?_)
          · refine gd_iconst (v := 0) (q := 80) rfl rfl rfl ?_
            refine gd_istore (q := 82) rfl rfl (Nat.le_of_ble_eq_true rfl) rfl ?_
            refine gd_iinc (v := (v5 + 1)) (q := 85) rfl rfl rfl rfl (Nat.le_of_ble_eq_true rfl) rfl ?_
            refine gd_goto (q := 23) rfl rfl ?_
            exact ih_23 _ 0 _ _ hp
          · refine gd_iconst (v := 1) (q := 76) rfl rfl rfl ?_
            refine gd_goto (q := 80) rfl rfl ?_
            refine gd_istore (q := 82) rfl rfl (Nat.le_of_ble_eq_true rfl) rfl ?_
            refine gd_iinc (v := (v5 + 1)) (q := 85) rfl rfl rfl rfl (Nat.le_of_ble_eq_true rfl) rfl ?_
            refine gd_goto (q := 23) rfl rfl ?_
            exact ih_23 _ _ _ _ hp
      · refine gd_iload (q := 46) rfl rfl rfl ?_
        refine gd_iload_n (q := 47) rfl rfl rfl ?_
        refine gx_icmp_le (q := 50) (r := 60) rfl rfl rfl hp (fun c_47 hp => ?_) (fun c_47 hp => ?_)
        · refine gd_iload (q := 62) rfl rfl rfl ?_
          refine gx_if_eq (q := 65) (r := 79) rfl rfl rfl hp (fun c_62 hp => ?_) (fun c_62 hp => ?_)
          · refine gd_iconst (v := 0) (q := 80) rfl rfl rfl ?_
            refine gd_istore (q := 82) rfl rfl (Nat.le_of_ble_eq_true rfl) rfl ?_
            refine gd_iinc (v := (v5 + 1)) (q := 85) rfl rfl rfl rfl (Nat.le_of_ble_eq_true rfl) rfl ?_
            refine gd_goto (q := 23) rfl rfl ?_
            exact ih_23 _ 0 _ _ hp
          · refine gd_aload_n (q := 66) rfl rfl rfl ?_
            refine gd_iload (q := 68) rfl rfl rfl ?_
            refine gd_aload_n (q := 69) rfl rfl rfl ?_
            refine gd_cVi (q := 72) rfl rfl lk1_64 myX1_literalHolds vxX1_literalHolds (ct_X1_literalHolds f _ _ _ hG _ hp.1) rfl (Nat.le_of_ble_eq_true rfl) rfl rfl (Nat.le_of_ble_eq_true rfl) rfl (Nat.le_of_ble_eq_true rfl) ⟨(Nat.le_of_ble_eq_true rfl), (Nat.le_of_ble_eq_true rfl)⟩ ?_
            replace hp := hp.2
            refine gx_if_eq (q := 75) (r := 79) rfl rfl rfl hp (fun c_72 hp => ?_) (fun c_72 hp => ?_)
            · refine gd_iconst (v := 0) (q := 80) rfl rfl rfl ?_
              refine gd_istore (q := 82) rfl rfl (Nat.le_of_ble_eq_true rfl) rfl ?_
              refine gd_iinc (v := (v5 + 1)) (q := 85) rfl rfl rfl rfl (Nat.le_of_ble_eq_true rfl) rfl ?_
              refine gd_goto (q := 23) rfl rfl ?_
              exact ih_23 _ 0 _ _ hp
            · refine gd_iconst (v := 1) (q := 76) rfl rfl rfl ?_
              refine gd_goto (q := 80) rfl rfl ?_
              refine gd_istore (q := 82) rfl rfl (Nat.le_of_ble_eq_true rfl) rfl ?_
              refine gd_iinc (v := (v5 + 1)) (q := 85) rfl rfl rfl rfl (Nat.le_of_ble_eq_true rfl) rfl ?_
              refine gd_goto (q := 23) rfl rfl ?_
              exact ih_23 _ _ _ _ hp
        · refine gd_iload (q := 52) rfl rfl rfl ?_
          refine gx_if_eq (q := 55) (r := 57) rfl rfl rfl hp (fun c_52 hp => ?_) (fun c_52 hp => ?_)
          · refine gd_iconst (v := 1) (q := 58) rfl rfl rfl ?_
            refine gd_istore (q := 60) rfl rfl (Nat.le_of_ble_eq_true rfl) rfl ?_
            refine gd_iload (q := 62) rfl rfl rfl ?_
            refine gd_if_eq (q := 65) (r := 79) rfl rfl rfl (fun c => absurd c (by decide)) (fun _ => ?_)
            refine gd_aload_n (q := 66) rfl rfl rfl ?_
            refine gd_iload (q := 68) rfl rfl rfl ?_
            refine gd_aload_n (q := 69) rfl rfl rfl ?_
            refine gd_cVi (q := 72) rfl rfl lk1_64 myX1_literalHolds vxX1_literalHolds (ct_X1_literalHolds f _ _ _ hG _ hp.1) rfl (Nat.le_of_ble_eq_true rfl) rfl rfl (Nat.le_of_ble_eq_true rfl) rfl (Nat.le_of_ble_eq_true rfl) ⟨(Nat.le_of_ble_eq_true rfl), (Nat.le_of_ble_eq_true rfl)⟩ ?_
            replace hp := hp.2
            refine gx_if_eq (q := 75) (r := 79) rfl rfl rfl hp (fun c_72 hp => ?_) (fun c_72 hp => ?_)
            · refine gd_iconst (v := 0) (q := 80) rfl rfl rfl ?_
              refine gd_istore (q := 82) rfl rfl (Nat.le_of_ble_eq_true rfl) rfl ?_
              refine gd_iinc (v := (v5 + 1)) (q := 85) rfl rfl rfl rfl (Nat.le_of_ble_eq_true rfl) rfl ?_
              refine gd_goto (q := 23) rfl rfl ?_
              exact ih_23 _ 0 _ _ hp
            · refine gd_iconst (v := 1) (q := 76) rfl rfl rfl ?_
              refine gd_goto (q := 80) rfl rfl ?_
              refine gd_istore (q := 82) rfl rfl (Nat.le_of_ble_eq_true rfl) rfl ?_
              refine gd_iinc (v := (v5 + 1)) (q := 85) rfl rfl rfl rfl (Nat.le_of_ble_eq_true rfl) rfl ?_
              refine gd_goto (q := 23) rfl rfl ?_
              exact ih_23 _ _ _ _ hp
          · refine gd_iconst (v := 1) (q := 56) rfl rfl rfl ?_
            exact gd_ireturn rfl rfl rfl (Nat.le_refl 0) (Nat.le_refl 0) rfl
theorem gl_X1_holds_23 (a1 : Int32) (f : Nat) (J : am_J) (Q : am_Q) (hG : Gr Q) (g : Nat) : ∀ (v3 : Int32) (v4 : Int32) (v5 : Int32) (I : am_I), p_X1_holds_L23 a1 f g v3 v4 v5 I → Gd MX1_holds (am_o 4 0 0 (am_FiI J Q (s_X1_holds_L23 a1 f g v3 v4 v5 I))) 0 0 92 23 [some (.ref 38), some (.int a1), some (.ref 5), some (.int v3), some (.int v4), some (.int v5)] [] I J Q := (gl_X1_holds_L23 a1 f J Q hG g)
set_option maxRecDepth 100000 in
set_option maxHeartbeats 4000000 in
theorem gt_X1_holds (f : Nat) (I : am_I) (J : am_J) (Q : am_Q) (hG : Gr Q) (a1 : Int32) (hp : p_X1_holds f I a1) : Gd MX1_holds (am_o 4 0 0 (am_FiI J Q (s_X1_holds f I a1))) 0 0 92 0 [some (.ref 38), some (.int a1), some (.ref 5), none, none, none] [] I J Q := by
  unfold s_X1_holds
  unfold p_X1_holds at hp
  refine gd_iload_n (q := 1) rfl rfl rfl ?_
  refine gx_if_le (q := 4) (r := 15) rfl rfl rfl hp (fun c_1 hp => ?_) (fun c_1 hp => ?_)
  · refine gd_iconst (v := 0) (q := 16) rfl rfl rfl ?_
    refine gd_istore_n (q := 17) rfl rfl (Nat.le_of_ble_eq_true rfl) rfl ?_
    refine gd_iconst (v := 1) (q := 18) rfl rfl rfl ?_
    refine gd_istore (q := 20) rfl rfl (Nat.le_of_ble_eq_true rfl) rfl ?_
    refine gd_iload_n (q := 21) rfl rfl rfl ?_
    refine gd_istore (q := 23) rfl rfl (Nat.le_of_ble_eq_true rfl) rfl ?_
    exact gl_X1_holds_23 a1 f J Q hG f 0 _ 0 _ hp
  · refine gd_aload_n (q := 5) rfl rfl rfl ?_
    refine gd_getR (q := 8) (r := 40) rfl rfl rfl (Nat.le_of_ble_eq_true rfl) rfl rfl (gr_38_1 hG) ?_
    refine gd_iload_n (q := 9) rfl rfl rfl ?_
    refine gd_iconst (v := 1) (q := 10) rfl rfl rfl ?_
    refine gd_isub (q := 11) rfl rfl ?_
    refine gd_sald (q := 12) rfl rfl (Nat.le_of_ble_eq_true rfl) rfl hp.1 ?_
    replace hp := hp.2
    refine gd_goto (q := 16) rfl rfl ?_
    refine gd_istore_n (q := 17) rfl rfl (Nat.le_of_ble_eq_true rfl) rfl ?_
    refine gd_iconst (v := 1) (q := 18) rfl rfl rfl ?_
    refine gd_istore (q := 20) rfl rfl (Nat.le_of_ble_eq_true rfl) rfl ?_
    refine gd_iload_n (q := 21) rfl rfl rfl ?_
    refine gd_istore (q := 23) rfl rfl (Nat.le_of_ble_eq_true rfl) rfl ?_
    exact gl_X1_holds_23 a1 f J Q hG f _ _ _ _ hp
theorem ct_X1_holds (f : Nat) (I : am_I) (J : am_J) (Q : am_Q) (hG : Gr Q) (a1 : Int32) (hp : p_X1_holds f I a1) : Cm MX1_holds 4 0 0 92 [.ref 38, .int a1, .ref 5] I J Q (am_FiI J Q (s_X1_holds f I a1)) := cm_of (by decide) rfl IX1_holds_ok (Nat.le_of_ble_eq_true rfl) (gt_X1_holds f I J Q hG a1 hp)
def s_X1_letBy_L2  (f : Nat) : Nat → Int32 → am_I → Int32 × am_I
  | 0, _, I => (0, I)
  | g + 1, v2, I => (if (I 38 7) ≤ v2 then ((-3), I) else (if (I 39 v2.toNatClampNeg) = 2 then (s_X1_letBy_L2 f g (v2 + 1) I) else (if ((s_X1_holds f I v2).1) = 0 then (s_X1_letBy_L2 f g (v2 + 1) ((s_X1_holds f I v2).2)) else (if (((s_X1_holds f I v2).2) 39 v2.toNatClampNeg) = 0 then (v2, ((s_X1_holds f I v2).2)) else ((-2), ((s_X1_holds f I v2).2))))))
def p_X1_letBy_L2  (f : Nat) : Nat → Int32 → am_I → Prop
  | 0, _, _ => False
  | g + 1, v2, I => (if (I 38 7) ≤ v2 then True else (vp_in v2 16 ∧ (if (I 39 v2.toNatClampNeg) = 2 then (p_X1_letBy_L2 f g (v2 + 1) I) else ((p_X1_holds f I v2) ∧ (if ((s_X1_holds f I v2).1) = 0 then (p_X1_letBy_L2 f g (v2 + 1) ((s_X1_holds f I v2).2)) else vp_in v2 16)))))
def s_X1_letBy (f : Nat) (I : am_I)  : Int32 × am_I := (s_X1_letBy_L2 f f 0 I)
def p_X1_letBy (f : Nat) (I : am_I)  : Prop := (p_X1_letBy_L2 f f 0 I)
set_option maxRecDepth 100000 in
set_option maxHeartbeats 4000000 in
theorem gl_X1_letBy_L2  (f : Nat) (J : am_J) (Q : am_Q) (hG : Gr Q) : ∀ g : Nat, (∀ (v2 : Int32) (I : am_I), p_X1_letBy_L2 f g v2 I → Gd MX1_letBy (am_o 5 0 0 (am_FiI J Q (s_X1_letBy_L2 f g v2 I))) 0 0 92 2 [some (.ref 38), some (.ref 5), some (.int v2)] [] I J Q) := by
  intro g
  induction g with
  | zero => exact fun _ _ hp => False.elim hp
  | succ g ih =>
    have ih_2 := ih
    intro v2 I hp
    rw [s_X1_letBy_L2]
    rw [p_X1_letBy_L2] at hp
    refine gd_iload_n (q := 3) rfl rfl rfl ?_
    refine gd_aload_n (q := 4) rfl rfl rfl ?_
    refine gd_getI (q := 7) rfl rfl rfl (Nat.le_of_ble_eq_true rfl) rfl rfl ?_
    refine gx_icmp_ge (q := 10) (r := 51) rfl rfl rfl hp (fun c_7 hp => ?_) (fun c_7 hp => ?_)
    · refine gd_bipush (v := (-3)) (q := 53) rfl rfl rfl ?_
      exact gd_ireturn rfl rfl rfl (Nat.le_refl 0) (Nat.le_refl 0) rfl
    · refine gd_aload_n (q := 11) rfl rfl rfl ?_
      refine gd_getR (q := 14) (r := 39) rfl rfl rfl (Nat.le_of_ble_eq_true rfl) rfl rfl (gr_38_0 hG) ?_
      refine gd_iload_n (q := 15) rfl rfl rfl ?_
      refine gd_bald (q := 16) rfl rfl (Nat.le_of_ble_eq_true rfl) rfl hp.1 ?_
      replace hp := hp.2
      refine gd_iconst (v := 2) (q := 17) rfl rfl rfl ?_
      refine gx_icmp_eq (q := 20) (r := 45) rfl rfl rfl hp (fun c_17 hp => ?_) (fun c_17 hp => ?_)
      · refine gd_iinc (v := (v2 + 1)) (q := 48) rfl rfl rfl rfl (Nat.le_of_ble_eq_true rfl) rfl ?_
        refine gd_goto (q := 2) rfl rfl ?_
        exact ih_2 _ _ hp
      · refine gd_aload_n (q := 21) rfl rfl rfl ?_
        refine gd_iload_n (q := 22) rfl rfl rfl ?_
        refine gd_aload_n (q := 23) rfl rfl rfl ?_
        refine gd_cVi (q := 26) rfl rfl lk1_60 myX1_holds vxX1_holds (ct_X1_holds f _ _ _ hG _ hp.1) rfl (Nat.le_of_ble_eq_true rfl) rfl rfl (Nat.le_of_ble_eq_true rfl) rfl (Nat.le_of_ble_eq_true rfl) ⟨(Nat.le_of_ble_eq_true rfl), (Nat.le_of_ble_eq_true rfl)⟩ ?_
        replace hp := hp.2
        refine gx_if_eq (q := 29) (r := 45) rfl rfl rfl hp (fun c_26 hp => ?_) (fun c_26 hp => ?_)
        · refine gd_iinc (v := (v2 + 1)) (q := 48) rfl rfl rfl rfl (Nat.le_of_ble_eq_true rfl) rfl ?_
          refine gd_goto (q := 2) rfl rfl ?_
          exact ih_2 _ _ hp
        · refine gd_aload_n (q := 30) rfl rfl rfl ?_
          refine gd_getR (q := 33) (r := 39) rfl rfl rfl (Nat.le_of_ble_eq_true rfl) rfl rfl (gr_38_0 hG) ?_
          refine gd_iload_n (q := 34) rfl rfl rfl ?_
          refine gd_bald (q := 35) rfl rfl (Nat.le_of_ble_eq_true rfl) rfl hp ?_
          refine gy_if_ne (q := 38) (r := 42) rfl rfl rfl (fun c_35 => ?_) (fun c_35 => ?_)
          · refine gd_iload_n (q := 39) rfl rfl rfl ?_
            refine gd_goto (q := 44) rfl rfl ?_
            exact gd_ireturn rfl rfl rfl (Nat.le_refl 0) (Nat.le_refl 0) rfl
          · refine gd_bipush (v := (-2)) (q := 44) rfl rfl rfl ?_
            exact gd_ireturn rfl rfl rfl (Nat.le_refl 0) (Nat.le_refl 0) rfl
theorem gl_X1_letBy_2  (f : Nat) (J : am_J) (Q : am_Q) (hG : Gr Q) (g : Nat) : ∀ (v2 : Int32) (I : am_I), p_X1_letBy_L2 f g v2 I → Gd MX1_letBy (am_o 5 0 0 (am_FiI J Q (s_X1_letBy_L2 f g v2 I))) 0 0 92 2 [some (.ref 38), some (.ref 5), some (.int v2)] [] I J Q := (gl_X1_letBy_L2 f J Q hG g)
set_option maxRecDepth 100000 in
set_option maxHeartbeats 4000000 in
theorem gt_X1_letBy (f : Nat) (I : am_I) (J : am_J) (Q : am_Q) (hG : Gr Q)  (hp : p_X1_letBy f I) : Gd MX1_letBy (am_o 5 0 0 (am_FiI J Q (s_X1_letBy f I))) 0 0 92 0 [some (.ref 38), some (.ref 5), none] [] I J Q := by
  unfold s_X1_letBy
  unfold p_X1_letBy at hp
  refine gd_iconst (v := 0) (q := 1) rfl rfl rfl ?_
  refine gd_istore_n (q := 2) rfl rfl (Nat.le_of_ble_eq_true rfl) rfl ?_
  exact gl_X1_letBy_2 f J Q hG f 0 _ hp
theorem ct_X1_letBy (f : Nat) (I : am_I) (J : am_J) (Q : am_Q) (hG : Gr Q)  (hp : p_X1_letBy f I) : Cm MX1_letBy 5 0 0 92 [.ref 38, .ref 5] I J Q (am_FiI J Q (s_X1_letBy f I)) := cm_of (by decide) rfl IX1_letBy_ok (Nat.le_of_ble_eq_true rfl) (gt_X1_letBy f I J Q hG hp)
def s_X9_let (f : Nat) (I : am_I) (Q : am_Q) (a1 : Int32) (a2 : Int32) (a3 : Int32) (a4 : Int32) : Int32 × am_I := (if (s_X9_isQuestion I a1 a2 a3 a4) = 0 then ((-1), I) else (((s_X1_letBy f (s_X9_pose f I Q a1 a2 a3 a4)).1), ((s_X1_letBy f (s_X9_pose f I Q a1 a2 a3 a4)).2)))
def p_X9_let (f : Nat) (I : am_I) (Q : am_Q) (a1 : Int32) (a2 : Int32) (a3 : Int32) (a4 : Int32) : Prop := (if (s_X9_isQuestion I a1 a2 a3 a4) = 0 then True else ((p_X9_pose f I Q a1 a2 a3 a4) ∧ (p_X1_letBy f (s_X9_pose f I Q a1 a2 a3 a4))))
set_option maxRecDepth 100000 in
set_option maxHeartbeats 4000000 in
theorem gt_X9_let (f : Nat) (I : am_I) (J : am_J) (Q : am_Q) (hG : Gr Q) (a1 : Int32) (a2 : Int32) (a3 : Int32) (a4 : Int32) (hp : p_X9_let f I Q a1 a2 a3 a4) : Gd MX9_let (am_o 6 0 0 (am_FiI J Q (s_X9_let f I Q a1 a2 a3 a4))) 0 0 92 0 [some (.ref 0), some (.int a1), some (.int a2), some (.int a3), some (.int a4), none] [] I J Q := by
  unfold s_X9_let
  unfold p_X9_let at hp
  refine gd_aload_n (q := 1) rfl rfl rfl ?_
  refine gd_iload_n (q := 2) rfl rfl rfl ?_
  refine gd_iload_n (q := 3) rfl rfl rfl ?_
  refine gd_iload_n (q := 4) rfl rfl rfl ?_
  refine gd_iload (q := 6) rfl rfl rfl ?_
  refine gd_cVi (q := 9) rfl rfl lk9_146 myX9_isQuestion vxX9_isQuestion (ct_X9_isQuestion f _ _ _ hG _ _ _ _) rfl (Nat.le_of_ble_eq_true rfl) rfl rfl (Nat.le_of_ble_eq_true rfl) rfl (Nat.le_of_ble_eq_true rfl) ⟨(Nat.le_of_ble_eq_true rfl), (Nat.le_of_ble_eq_true rfl)⟩ ?_
  refine gx_if_ne (q := 12) (r := 14) rfl rfl rfl hp (fun c_9 hp => ?_) (fun c_9 hp => ?_)
  · refine gd_iconst (v := (-1)) (q := 13) rfl rfl rfl ?_
    exact gd_ireturn rfl rfl rfl (Nat.le_refl 0) (Nat.le_refl 0) rfl
  · refine gd_aload_n (q := 15) rfl rfl rfl ?_
    refine gd_iload_n (q := 16) rfl rfl rfl ?_
    refine gd_iload_n (q := 17) rfl rfl rfl ?_
    refine gd_iload_n (q := 18) rfl rfl rfl ?_
    refine gd_iload (q := 20) rfl rfl rfl ?_
    refine gd_cVi (q := 23) rfl rfl lk9_150 myX9_pose vxX9_pose (ct_X9_pose f _ _ _ hG _ _ _ _ hp.1) rfl (Nat.le_of_ble_eq_true rfl) rfl rfl (Nat.le_of_ble_eq_true rfl) rfl (Nat.le_of_ble_eq_true rfl) ⟨(Nat.le_of_ble_eq_true rfl), (Nat.le_of_ble_eq_true rfl)⟩ ?_
    replace hp := hp.2
    refine gd_astore (q := 25) rfl rfl (Nat.le_of_ble_eq_true rfl) rfl ?_
    refine gd_aload (q := 27) rfl rfl rfl ?_
    refine gd_ifnonnull (q := 35) rfl rfl ?_
    refine gd_aload (q := 37) rfl rfl rfl ?_
    refine gd_aload_n (q := 38) rfl rfl rfl ?_
    refine gd_getR (q := 41) (r := 5) rfl rfl rfl (Nat.le_of_ble_eq_true rfl) rfl rfl (gr_0_2 hG) ?_
    refine gd_cVi (q := 44) rfl rfl lk9_154 myX1_letBy vxX1_letBy (ct_X1_letBy f _ _ _ hG hp) rfl (Nat.le_of_ble_eq_true rfl) rfl rfl (Nat.le_of_ble_eq_true rfl) rfl (Nat.le_of_ble_eq_true rfl) ⟨(Nat.le_of_ble_eq_true rfl), (Nat.le_of_ble_eq_true rfl)⟩ ?_
    exact gd_ireturn rfl rfl rfl (Nat.le_refl 0) (Nat.le_refl 0) rfl
theorem ct_X9_let (f : Nat) (I : am_I) (J : am_J) (Q : am_Q) (hG : Gr Q) (a1 : Int32) (a2 : Int32) (a3 : Int32) (a4 : Int32) (hp : p_X9_let f I Q a1 a2 a3 a4) : Cm MX9_let 6 0 0 92 [.ref 0, .int a1, .int a2, .int a3, .int a4] I J Q (am_FiI J Q (s_X9_let f I Q a1 a2 a3 a4)) := cm_of (by decide) rfl IX9_let_ok (Nat.le_of_ble_eq_true rfl) (gt_X9_let f I J Q hG a1 a2 a3 a4 hp)
def s_X1_maskedBy_L2  (f : Nat) : Nat → Int32 → am_I → Int32 × am_I
  | 0, _, I => (0, I)
  | g + 1, v2, I => (if (I 38 7) ≤ v2 then ((-1), I) else (if (I 39 v2.toNatClampNeg) = 2 then (if ((s_X1_holds f I v2).1) = 0 then (s_X1_maskedBy_L2 f g (v2 + 1) ((s_X1_holds f I v2).2)) else (v2, ((s_X1_holds f I v2).2))) else (s_X1_maskedBy_L2 f g (v2 + 1) I)))
def p_X1_maskedBy_L2  (f : Nat) : Nat → Int32 → am_I → Prop
  | 0, _, _ => False
  | g + 1, v2, I => (if (I 38 7) ≤ v2 then True else (vp_in v2 16 ∧ (if (I 39 v2.toNatClampNeg) = 2 then ((p_X1_holds f I v2) ∧ (if ((s_X1_holds f I v2).1) = 0 then (p_X1_maskedBy_L2 f g (v2 + 1) ((s_X1_holds f I v2).2)) else True)) else (p_X1_maskedBy_L2 f g (v2 + 1) I))))
def s_X1_maskedBy (f : Nat) (I : am_I)  : Int32 × am_I := (s_X1_maskedBy_L2 f f 0 I)
def p_X1_maskedBy (f : Nat) (I : am_I)  : Prop := (p_X1_maskedBy_L2 f f 0 I)
set_option maxRecDepth 100000 in
set_option maxHeartbeats 4000000 in
theorem gl_X1_maskedBy_L2  (f : Nat) (J : am_J) (Q : am_Q) (hG : Gr Q) : ∀ g : Nat, (∀ (v2 : Int32) (I : am_I), p_X1_maskedBy_L2 f g v2 I → Gd MX1_maskedBy (am_o 5 0 0 (am_FiI J Q (s_X1_maskedBy_L2 f g v2 I))) 0 0 92 2 [some (.ref 38), some (.ref 5), some (.int v2)] [] I J Q) := by
  intro g
  induction g with
  | zero => exact fun _ _ hp => False.elim hp
  | succ g ih =>
    have ih_2 := ih
    intro v2 I hp
    rw [s_X1_maskedBy_L2]
    rw [p_X1_maskedBy_L2] at hp
    refine gd_iload_n (q := 3) rfl rfl rfl ?_
    refine gd_aload_n (q := 4) rfl rfl rfl ?_
    refine gd_getI (q := 7) rfl rfl rfl (Nat.le_of_ble_eq_true rfl) rfl rfl ?_
    refine gx_icmp_ge (q := 10) (r := 37) rfl rfl rfl hp (fun c_7 hp => ?_) (fun c_7 hp => ?_)
    · refine gd_iconst (v := (-1)) (q := 38) rfl rfl rfl ?_
      exact gd_ireturn rfl rfl rfl (Nat.le_refl 0) (Nat.le_refl 0) rfl
    · refine gd_aload_n (q := 11) rfl rfl rfl ?_
      refine gd_getR (q := 14) (r := 39) rfl rfl rfl (Nat.le_of_ble_eq_true rfl) rfl rfl (gr_38_0 hG) ?_
      refine gd_iload_n (q := 15) rfl rfl rfl ?_
      refine gd_bald (q := 16) rfl rfl (Nat.le_of_ble_eq_true rfl) rfl hp.1 ?_
      replace hp := hp.2
      refine gd_iconst (v := 2) (q := 17) rfl rfl rfl ?_
      refine gx_icmp_ne (q := 20) (r := 31) rfl rfl rfl hp (fun c_17 hp => ?_) (fun c_17 hp => ?_)
      · refine gd_aload_n (q := 21) rfl rfl rfl ?_
        refine gd_iload_n (q := 22) rfl rfl rfl ?_
        refine gd_aload_n (q := 23) rfl rfl rfl ?_
        refine gd_cVi (q := 26) rfl rfl lk1_60 myX1_holds vxX1_holds (ct_X1_holds f _ _ _ hG _ hp.1) rfl (Nat.le_of_ble_eq_true rfl) rfl rfl (Nat.le_of_ble_eq_true rfl) rfl (Nat.le_of_ble_eq_true rfl) ⟨(Nat.le_of_ble_eq_true rfl), (Nat.le_of_ble_eq_true rfl)⟩ ?_
        replace hp := hp.2
        refine gx_if_eq (q := 29) (r := 31) rfl rfl rfl hp (fun c_26 hp => ?_) (fun c_26 hp => ?_)
        · refine gd_iinc (v := (v2 + 1)) (q := 34) rfl rfl rfl rfl (Nat.le_of_ble_eq_true rfl) rfl ?_
          refine gd_goto (q := 2) rfl rfl ?_
          exact ih_2 _ _ hp
        · refine gd_iload_n (q := 30) rfl rfl rfl ?_
          exact gd_ireturn rfl rfl rfl (Nat.le_refl 0) (Nat.le_refl 0) rfl
      · refine gd_iinc (v := (v2 + 1)) (q := 34) rfl rfl rfl rfl (Nat.le_of_ble_eq_true rfl) rfl ?_
        refine gd_goto (q := 2) rfl rfl ?_
        exact ih_2 _ _ hp
theorem gl_X1_maskedBy_2  (f : Nat) (J : am_J) (Q : am_Q) (hG : Gr Q) (g : Nat) : ∀ (v2 : Int32) (I : am_I), p_X1_maskedBy_L2 f g v2 I → Gd MX1_maskedBy (am_o 5 0 0 (am_FiI J Q (s_X1_maskedBy_L2 f g v2 I))) 0 0 92 2 [some (.ref 38), some (.ref 5), some (.int v2)] [] I J Q := (gl_X1_maskedBy_L2 f J Q hG g)
set_option maxRecDepth 100000 in
set_option maxHeartbeats 4000000 in
theorem gt_X1_maskedBy (f : Nat) (I : am_I) (J : am_J) (Q : am_Q) (hG : Gr Q)  (hp : p_X1_maskedBy f I) : Gd MX1_maskedBy (am_o 5 0 0 (am_FiI J Q (s_X1_maskedBy f I))) 0 0 92 0 [some (.ref 38), some (.ref 5), none] [] I J Q := by
  unfold s_X1_maskedBy
  unfold p_X1_maskedBy at hp
  refine gd_iconst (v := 0) (q := 1) rfl rfl rfl ?_
  refine gd_istore_n (q := 2) rfl rfl (Nat.le_of_ble_eq_true rfl) rfl ?_
  exact gl_X1_maskedBy_2 f J Q hG f 0 _ hp
theorem ct_X1_maskedBy (f : Nat) (I : am_I) (J : am_J) (Q : am_Q) (hG : Gr Q)  (hp : p_X1_maskedBy f I) : Cm MX1_maskedBy 5 0 0 92 [.ref 38, .ref 5] I J Q (am_FiI J Q (s_X1_maskedBy f I)) := cm_of (by decide) rfl IX1_maskedBy_ok (Nat.le_of_ble_eq_true rfl) (gt_X1_maskedBy f I J Q hG hp)
def s_X9_mask (f : Nat) (I : am_I) (Q : am_Q) (a1 : Int32) (a2 : Int32) (a3 : Int32) (a4 : Int32) : Int32 × am_I := (if (s_X9_isQuestion I a1 a2 a3 a4) = 0 then ((-1), I) else (if (I 23 a1.toNatClampNeg) = (-1) then ((-1), I) else (((s_X1_maskedBy f (s_X9_pose f I Q a1 a2 a3 a4)).1), ((s_X1_maskedBy f (s_X9_pose f I Q a1 a2 a3 a4)).2))))
def p_X9_mask (f : Nat) (I : am_I) (Q : am_Q) (a1 : Int32) (a2 : Int32) (a3 : Int32) (a4 : Int32) : Prop := (if (s_X9_isQuestion I a1 a2 a3 a4) = 0 then True else (vp_in a1 30 ∧ (if (I 23 a1.toNatClampNeg) = (-1) then True else ((p_X9_pose f I Q a1 a2 a3 a4) ∧ (p_X1_maskedBy f (s_X9_pose f I Q a1 a2 a3 a4))))))
set_option maxRecDepth 100000 in
set_option maxHeartbeats 4000000 in
theorem gt_X9_mask (f : Nat) (I : am_I) (J : am_J) (Q : am_Q) (hG : Gr Q) (a1 : Int32) (a2 : Int32) (a3 : Int32) (a4 : Int32) (hp : p_X9_mask f I Q a1 a2 a3 a4) : Gd MX9_mask (am_o 6 0 0 (am_FiI J Q (s_X9_mask f I Q a1 a2 a3 a4))) 0 0 92 0 [some (.ref 0), some (.int a1), some (.int a2), some (.int a3), some (.int a4), none] [] I J Q := by
  unfold s_X9_mask
  unfold p_X9_mask at hp
  refine gd_aload_n (q := 1) rfl rfl rfl ?_
  refine gd_iload_n (q := 2) rfl rfl rfl ?_
  refine gd_iload_n (q := 3) rfl rfl rfl ?_
  refine gd_iload_n (q := 4) rfl rfl rfl ?_
  refine gd_iload (q := 6) rfl rfl rfl ?_
  refine gd_cVi (q := 9) rfl rfl lk9_146 myX9_isQuestion vxX9_isQuestion (ct_X9_isQuestion f _ _ _ hG _ _ _ _) rfl (Nat.le_of_ble_eq_true rfl) rfl rfl (Nat.le_of_ble_eq_true rfl) rfl (Nat.le_of_ble_eq_true rfl) ⟨(Nat.le_of_ble_eq_true rfl), (Nat.le_of_ble_eq_true rfl)⟩ ?_
  refine gx_if_eq (q := 12) (r := 25) rfl rfl rfl hp (fun c_9 hp => ?_) (fun c_9 hp => ?_)
  · refine gd_iconst (v := (-1)) (q := 26) rfl rfl rfl ?_
    exact gd_ireturn rfl rfl rfl (Nat.le_refl 0) (Nat.le_refl 0) rfl
  · refine gd_aload_n (q := 13) rfl rfl rfl ?_
    refine gd_getR (q := 16) (r := 15) rfl rfl rfl (Nat.le_of_ble_eq_true rfl) rfl rfl (gr_0_5 hG) ?_
    refine gd_getR (q := 19) (r := 23) rfl rfl rfl (Nat.le_of_ble_eq_true rfl) rfl rfl (gr_15_8 hG) ?_
    refine gd_iload_n (q := 20) rfl rfl rfl ?_
    refine gd_iald (q := 21) rfl rfl (Nat.le_of_ble_eq_true rfl) rfl hp.1 ?_
    replace hp := hp.2
    refine gd_iconst (v := (-1)) (q := 22) rfl rfl rfl ?_
    refine gx_icmp_ne (q := 25) (r := 27) rfl rfl rfl hp (fun c_22 hp => ?_) (fun c_22 hp => ?_)
    · refine gd_iconst (v := (-1)) (q := 26) rfl rfl rfl ?_
      exact gd_ireturn rfl rfl rfl (Nat.le_refl 0) (Nat.le_refl 0) rfl
    · refine gd_aload_n (q := 28) rfl rfl rfl ?_
      refine gd_iload_n (q := 29) rfl rfl rfl ?_
      refine gd_iload_n (q := 30) rfl rfl rfl ?_
      refine gd_iload_n (q := 31) rfl rfl rfl ?_
      refine gd_iload (q := 33) rfl rfl rfl ?_
      refine gd_cVi (q := 36) rfl rfl lk9_150 myX9_pose vxX9_pose (ct_X9_pose f _ _ _ hG _ _ _ _ hp.1) rfl (Nat.le_of_ble_eq_true rfl) rfl rfl (Nat.le_of_ble_eq_true rfl) rfl (Nat.le_of_ble_eq_true rfl) ⟨(Nat.le_of_ble_eq_true rfl), (Nat.le_of_ble_eq_true rfl)⟩ ?_
      replace hp := hp.2
      refine gd_astore (q := 38) rfl rfl (Nat.le_of_ble_eq_true rfl) rfl ?_
      refine gd_aload (q := 40) rfl rfl rfl ?_
      refine gd_ifnonnull (q := 47) rfl rfl ?_
      refine gd_aload (q := 49) rfl rfl rfl ?_
      refine gd_aload_n (q := 50) rfl rfl rfl ?_
      refine gd_getR (q := 53) (r := 5) rfl rfl rfl (Nat.le_of_ble_eq_true rfl) rfl rfl (gr_0_2 hG) ?_
      refine gd_cVi (q := 56) rfl rfl lk9_161 myX1_maskedBy vxX1_maskedBy (ct_X1_maskedBy f _ _ _ hG hp) rfl (Nat.le_of_ble_eq_true rfl) rfl rfl (Nat.le_of_ble_eq_true rfl) rfl (Nat.le_of_ble_eq_true rfl) ⟨(Nat.le_of_ble_eq_true rfl), (Nat.le_of_ble_eq_true rfl)⟩ ?_
      exact gd_ireturn rfl rfl rfl (Nat.le_refl 0) (Nat.le_refl 0) rfl
theorem ct_X9_mask (f : Nat) (I : am_I) (J : am_J) (Q : am_Q) (hG : Gr Q) (a1 : Int32) (a2 : Int32) (a3 : Int32) (a4 : Int32) (hp : p_X9_mask f I Q a1 a2 a3 a4) : Cm MX9_mask 6 0 0 92 [.ref 0, .int a1, .int a2, .int a3, .int a4] I J Q (am_FiI J Q (s_X9_mask f I Q a1 a2 a3 a4)) := cm_of (by decide) rfl IX9_mask_ok (Nat.le_of_ble_eq_true rfl) (gt_X9_mask f I J Q hG a1 a2 a3 a4 hp)
def s_X0_has (I : am_I) (a1 : Int32) : Int32 := (s_X9_isBelow a1 (I 26 2))
theorem z_X0_has (I : am_I) (a1 : Int32) : (s_X0_has I a1) = 0 ∨ (s_X0_has I a1) = 1 := by
  unfold s_X0_has
  repeat' split
  all_goals first | exact Or.inl rfl | exact Or.inr rfl | exact z_X9_isBelow _ _
set_option maxRecDepth 100000 in
set_option maxHeartbeats 4000000 in
theorem gt_X0_has (f : Nat) (I : am_I) (J : am_J) (Q : am_Q) (hG : Gr Q) (a1 : Int32) : Gd MX0_has (am_o 1 0 0 (am_Fi I J Q (s_X0_has I a1))) 0 0 92 0 [some (.ref 26), some (.int a1)] [] I J Q := by
  unfold s_X0_has
  refine gd_iload_n (q := 1) rfl rfl rfl ?_
  refine gd_aload_n (q := 2) rfl rfl rfl ?_
  refine gd_getI (q := 5) rfl rfl rfl (Nat.le_of_ble_eq_true rfl) rfl rfl ?_
  refine gd_cSi (q := 8) rfl rfl lk0_23 myX9_isBelow sxX9_isBelow (ct_X9_isBelow f _ _ _ hG _ _) rfl rfl (Nat.le_of_ble_eq_true rfl) ⟨(Nat.le_of_ble_eq_true rfl), (Nat.le_of_ble_eq_true rfl)⟩ ?_
  exact gd_ireturn rfl rfl (am_zn (z_X9_isBelow a1 (I 26 2))) (Nat.le_refl 0) (Nat.le_refl 0) rfl
theorem ct_X0_has (f : Nat) (I : am_I) (J : am_J) (Q : am_Q) (hG : Gr Q) (a1 : Int32) : Cm MX0_has 1 0 0 92 [.ref 26, .int a1] I J Q (am_Fi I J Q (s_X0_has I a1)) := cm_of (by decide) rfl IX0_has_ok (Nat.le_of_ble_eq_true rfl) (gt_X0_has f I J Q hG a1)
def s_X9_isAsking_J21 (a1 : Int32) (a2 : Int32) (a3 : Int32) (a4 : Int32) (a5 : Int32) (I : am_I) (t0 : Int32) : Int32 := (if (s_X0_has I a1) = 0 then 0 else (if (s_X4_has I a2) = 0 then 0 else (if t0 = 0 then 0 else (if (s_X9_isDay a4) = 0 then 0 else (if (s_X9_isBelow a5 4) = 0 then 0 else 1)))))
theorem z_X9_isAsking_J21 (a1 : Int32) (a2 : Int32) (a3 : Int32) (a4 : Int32) (a5 : Int32) (I : am_I) (t0 : Int32) : (s_X9_isAsking_J21 a1 a2 a3 a4 a5 I t0) = 0 ∨ (s_X9_isAsking_J21 a1 a2 a3 a4 a5 I t0) = 1 := by
  unfold s_X9_isAsking_J21
  repeat' split
  all_goals first | exact Or.inl rfl | exact Or.inr rfl | exact z_X0_has _ _ | exact z_X4_has _ _ | exact z_X9_isDay _ | exact z_X9_isBelow _ _
def s_X9_isAsking (I : am_I) (a1 : Int32) (a2 : Int32) (a3 : Int32) (a4 : Int32) (a5 : Int32) : Int32 := (if a3 = (-1) then (s_X9_isAsking_J21 a1 a2 a3 a4 a5 I 1) else (if (s_X9_isBelow a3 (I 0 9)) = 0 then (s_X9_isAsking_J21 a1 a2 a3 a4 a5 I 0) else (s_X9_isAsking_J21 a1 a2 a3 a4 a5 I 1)))
theorem z_X9_isAsking (I : am_I) (a1 : Int32) (a2 : Int32) (a3 : Int32) (a4 : Int32) (a5 : Int32) : (s_X9_isAsking I a1 a2 a3 a4 a5) = 0 ∨ (s_X9_isAsking I a1 a2 a3 a4 a5) = 1 := by
  unfold s_X9_isAsking
  repeat' split
  all_goals first | exact Or.inl rfl | exact Or.inr rfl | exact z_X0_has _ _ | exact z_X4_has _ _ | exact z_X9_isDay _ | exact z_X9_isBelow _ _ | exact z_X9_isAsking_J21 _ _ _ _ _ _ _
set_option maxRecDepth 100000 in
set_option maxHeartbeats 4000000 in
theorem gl_X9_isAsking_21 (a1 : Int32) (a2 : Int32) (a3 : Int32) (a4 : Int32) (a5 : Int32) (f : Nat) (I : am_I) (J : am_J) (Q : am_Q) (hG : Gr Q) (t0 : Int32) : Gd MX9_isAsking (am_o 2 0 0 (am_Fi I J Q (s_X9_isAsking_J21 a1 a2 a3 a4 a5 I t0))) 0 0 92 21 [some (.ref 0), some (.int a1), some (.int a2), none, some (.int a4), some (.int a5), none] [.int t0] I J Q := by
  unfold s_X9_isAsking_J21
  refine gd_istore (q := 23) rfl rfl (Nat.le_of_ble_eq_true rfl) rfl ?_
  refine gd_aload_n (q := 24) rfl rfl rfl ?_
  refine gd_getR (q := 27) (r := 26) rfl rfl rfl (Nat.le_of_ble_eq_true rfl) rfl rfl (gr_0_6 hG) ?_
  refine gd_iload_n (q := 28) rfl rfl rfl ?_
  refine gd_cVi (q := 31) rfl rfl lk9_175 myX0_has vxX0_has (ct_X0_has f _ _ _ hG _) rfl (Nat.le_of_ble_eq_true rfl) rfl rfl (Nat.le_of_ble_eq_true rfl) rfl (Nat.le_of_ble_eq_true rfl) ⟨(Nat.le_of_ble_eq_true rfl), (Nat.le_of_ble_eq_true rfl)⟩ ?_
  refine gy_if_eq (q := 34) (r := 71) rfl rfl rfl (fun c_31 => ?_) (fun c_31 => ?_)
  · refine gd_iconst (v := 0) (q := 72) rfl rfl rfl ?_
    exact gd_ireturn rfl rfl rfl (Nat.le_refl 0) (Nat.le_refl 0) rfl
  · refine gd_aload_n (q := 35) rfl rfl rfl ?_
    refine gd_getR (q := 38) (r := 15) rfl rfl rfl (Nat.le_of_ble_eq_true rfl) rfl rfl (gr_0_5 hG) ?_
    refine gd_iload_n (q := 39) rfl rfl rfl ?_
    refine gd_cVi (q := 42) rfl rfl lk9_176 myX4_has vxX4_has (ct_X4_has f _ _ _ hG _) rfl (Nat.le_of_ble_eq_true rfl) rfl rfl (Nat.le_of_ble_eq_true rfl) rfl (Nat.le_of_ble_eq_true rfl) ⟨(Nat.le_of_ble_eq_true rfl), (Nat.le_of_ble_eq_true rfl)⟩ ?_
    refine gy_if_eq (q := 45) (r := 71) rfl rfl rfl (fun c_42 => ?_) (fun c_42 => ?_)
    · refine gd_iconst (v := 0) (q := 72) rfl rfl rfl ?_
      exact gd_ireturn rfl rfl rfl (Nat.le_refl 0) (Nat.le_refl 0) rfl
    · refine gd_iload (q := 47) rfl rfl rfl ?_
      refine gy_if_eq (q := 50) (r := 71) rfl rfl rfl (fun c_47 => ?_) (fun c_47 => ?_)
      · refine gd_iconst (v := 0) (q := 72) rfl rfl rfl ?_
        exact gd_ireturn rfl rfl rfl (Nat.le_refl 0) (Nat.le_refl 0) rfl
      · refine gd_iload (q := 52) rfl rfl rfl ?_
        refine gd_cSi (q := 55) rfl rfl lk9_121 myX9_isDay sxX9_isDay (ct_X9_isDay f _ _ _ hG _) rfl rfl (Nat.le_of_ble_eq_true rfl) ⟨(Nat.le_of_ble_eq_true rfl), (Nat.le_of_ble_eq_true rfl)⟩ ?_
        refine gy_if_eq (q := 58) (r := 71) rfl rfl rfl (fun c_55 => ?_) (fun c_55 => ?_)
        · refine gd_iconst (v := 0) (q := 72) rfl rfl rfl ?_
          exact gd_ireturn rfl rfl rfl (Nat.le_refl 0) (Nat.le_refl 0) rfl
        · refine gd_iload (q := 60) rfl rfl rfl ?_
          refine gd_iconst (v := 4) (q := 61) rfl rfl rfl ?_
          refine gd_cSi (q := 64) rfl rfl lk9_110 myX9_isBelow sxX9_isBelow (ct_X9_isBelow f _ _ _ hG _ _) rfl rfl (Nat.le_of_ble_eq_true rfl) ⟨(Nat.le_of_ble_eq_true rfl), (Nat.le_of_ble_eq_true rfl)⟩ ?_
          refine gy_if_eq (q := 67) (r := 71) rfl rfl rfl (fun c_64 => ?_) (fun c_64 => ?_)
          · refine gd_iconst (v := 0) (q := 72) rfl rfl rfl ?_
            exact gd_ireturn rfl rfl rfl (Nat.le_refl 0) (Nat.le_refl 0) rfl
          · refine gd_iconst (v := 1) (q := 68) rfl rfl rfl ?_
            refine gd_goto (q := 72) rfl rfl ?_
            exact gd_ireturn rfl rfl rfl (Nat.le_refl 0) (Nat.le_refl 0) rfl
set_option maxRecDepth 100000 in
set_option maxHeartbeats 4000000 in
theorem gt_X9_isAsking (f : Nat) (I : am_I) (J : am_J) (Q : am_Q) (hG : Gr Q) (a1 : Int32) (a2 : Int32) (a3 : Int32) (a4 : Int32) (a5 : Int32) : Gd MX9_isAsking (am_o 2 0 0 (am_Fi I J Q (s_X9_isAsking I a1 a2 a3 a4 a5))) 0 0 92 0 [some (.ref 0), some (.int a1), some (.int a2), some (.int a3), some (.int a4), some (.int a5), none] [] I J Q := by
  unfold s_X9_isAsking
  refine gd_iload_n (q := 1) rfl rfl rfl ?_
  refine gd_iconst (v := (-1)) (q := 2) rfl rfl rfl ?_
  refine gy_icmp_eq (q := 5) (r := 16) rfl rfl rfl (fun c_2 => ?_) (fun c_2 => ?_)
  · refine gd_iconst (v := 1) (q := 17) rfl rfl rfl ?_
    refine gd_goto (q := 21) rfl rfl ?_
    refine gd_drop 3 ?_
    exact gl_X9_isAsking_21 a1 a2 a3 a4 a5 f I J Q hG _
  · refine gd_iload_n (q := 6) rfl rfl rfl ?_
    refine gd_aload_n (q := 7) rfl rfl rfl ?_
    refine gd_getI (q := 10) rfl rfl rfl (Nat.le_of_ble_eq_true rfl) rfl rfl ?_
    refine gd_cSi (q := 13) rfl rfl lk9_110 myX9_isBelow sxX9_isBelow (ct_X9_isBelow f _ _ _ hG _ _) rfl rfl (Nat.le_of_ble_eq_true rfl) ⟨(Nat.le_of_ble_eq_true rfl), (Nat.le_of_ble_eq_true rfl)⟩ ?_
    refine gy_if_eq (q := 16) (r := 20) rfl rfl rfl (fun c_13 => ?_) (fun c_13 => ?_)
    · refine gd_iconst (v := 0) (q := 21) rfl rfl rfl ?_
      refine gd_drop 3 ?_
      exact gl_X9_isAsking_21 a1 a2 a3 a4 a5 f I J Q hG 0
    · refine gd_iconst (v := 1) (q := 17) rfl rfl rfl ?_
      refine gd_goto (q := 21) rfl rfl ?_
      refine gd_drop 3 ?_
      exact gl_X9_isAsking_21 a1 a2 a3 a4 a5 f I J Q hG _
theorem ct_X9_isAsking (f : Nat) (I : am_I) (J : am_J) (Q : am_Q) (hG : Gr Q) (a1 : Int32) (a2 : Int32) (a3 : Int32) (a4 : Int32) (a5 : Int32) : Cm MX9_isAsking 2 0 0 92 [.ref 0, .int a1, .int a2, .int a3, .int a4, .int a5] I J Q (am_Fi I J Q (s_X9_isAsking I a1 a2 a3 a4 a5)) := cm_of (by decide) rfl IX9_isAsking_ok (Nat.le_of_ble_eq_true rfl) (gt_X9_isAsking f I J Q hG a1 a2 a3 a4 a5)
def s_X0_kindOf (I : am_I) (a1 : Int32) : Int32 := (if (s_X0_has I a1) = 0 then (-1) else (I 27 a1.toNatClampNeg))
def p_X0_kindOf (I : am_I) (a1 : Int32) : Prop := (if (s_X0_has I a1) = 0 then True else vp_in a1 6)
set_option maxRecDepth 100000 in
set_option maxHeartbeats 4000000 in
theorem gt_X0_kindOf (f : Nat) (I : am_I) (J : am_J) (Q : am_Q) (hG : Gr Q) (a1 : Int32) (hp : p_X0_kindOf I a1) : Gd MX0_kindOf (am_o 2 0 0 (am_Fi I J Q (s_X0_kindOf I a1))) 0 0 92 0 [some (.ref 26), some (.int a1)] [] I J Q := by
  unfold s_X0_kindOf
  unfold p_X0_kindOf at hp
  refine gd_aload_n (q := 1) rfl rfl rfl ?_
  refine gd_iload_n (q := 2) rfl rfl rfl ?_
  refine gd_cVi (q := 5) rfl rfl lk0_27 myX0_has vxX0_has (ct_X0_has f _ _ _ hG _) rfl (Nat.le_of_ble_eq_true rfl) rfl rfl (Nat.le_of_ble_eq_true rfl) rfl (Nat.le_of_ble_eq_true rfl) ⟨(Nat.le_of_ble_eq_true rfl), (Nat.le_of_ble_eq_true rfl)⟩ ?_
  refine gx_if_eq (q := 8) (r := 17) rfl rfl rfl hp (fun c_5 hp => ?_) (fun c_5 hp => ?_)
  · refine gd_iconst (v := (-1)) (q := 18) rfl rfl rfl ?_
    exact gd_ireturn rfl rfl rfl (Nat.le_refl 0) (Nat.le_refl 0) rfl
  · refine gd_aload_n (q := 9) rfl rfl rfl ?_
    refine gd_getR (q := 12) (r := 27) rfl rfl rfl (Nat.le_of_ble_eq_true rfl) rfl rfl (gr_26_0 hG) ?_
    refine gd_iload_n (q := 13) rfl rfl rfl ?_
    refine gd_iald (q := 14) rfl rfl (Nat.le_of_ble_eq_true rfl) rfl hp ?_
    refine gd_goto (q := 18) rfl rfl ?_
    exact gd_ireturn rfl rfl rfl (Nat.le_refl 0) (Nat.le_refl 0) rfl
theorem ct_X0_kindOf (f : Nat) (I : am_I) (J : am_J) (Q : am_Q) (hG : Gr Q) (a1 : Int32) (hp : p_X0_kindOf I a1) : Cm MX0_kindOf 2 0 0 92 [.ref 26, .int a1] I J Q (am_Fi I J Q (s_X0_kindOf I a1)) := cm_of (by decide) rfl IX0_kindOf_ok (Nat.le_of_ble_eq_true rfl) (gt_X0_kindOf f I J Q hG a1 hp)
def s_X0_wayOf (I : am_I) (a1 : Int32) (a2 : Int32) : Int32 := (if (s_X0_has I a1) = 0 then 0 else (if (s_X9_isBelow a2 30) = 0 then 0 else (I 28 ((a1 * 30) + a2).toNatClampNeg)))
def p_X0_wayOf (I : am_I) (a1 : Int32) (a2 : Int32) : Prop := (if (s_X0_has I a1) = 0 then True else (if (s_X9_isBelow a2 30) = 0 then True else vp_in ((a1 * 30) + a2) 180))
set_option maxRecDepth 100000 in
set_option maxHeartbeats 4000000 in
theorem gt_X0_wayOf (f : Nat) (I : am_I) (J : am_J) (Q : am_Q) (hG : Gr Q) (a1 : Int32) (a2 : Int32) (hp : p_X0_wayOf I a1 a2) : Gd MX0_wayOf (am_o 2 0 0 (am_Fi I J Q (s_X0_wayOf I a1 a2))) 0 0 92 0 [some (.ref 26), some (.int a1), some (.int a2)] [] I J Q := by
  unfold s_X0_wayOf
  unfold p_X0_wayOf at hp
  refine gd_aload_n (q := 1) rfl rfl rfl ?_
  refine gd_iload_n (q := 2) rfl rfl rfl ?_
  refine gd_cVi (q := 5) rfl rfl lk0_27 myX0_has vxX0_has (ct_X0_has f _ _ _ hG _) rfl (Nat.le_of_ble_eq_true rfl) rfl rfl (Nat.le_of_ble_eq_true rfl) rfl (Nat.le_of_ble_eq_true rfl) ⟨(Nat.le_of_ble_eq_true rfl), (Nat.le_of_ble_eq_true rfl)⟩ ?_
  refine gx_if_eq (q := 8) (r := 31) rfl rfl rfl hp (fun c_5 hp => ?_) (fun c_5 hp => ?_)
  · refine gd_iconst (v := 0) (q := 32) rfl rfl rfl ?_
    exact gd_ireturn rfl rfl rfl (Nat.le_refl 0) (Nat.le_refl 0) rfl
  · refine gd_iload_n (q := 9) rfl rfl rfl ?_
    refine gd_bipush (v := 30) (q := 11) rfl rfl rfl ?_
    refine gd_cSi (q := 14) rfl rfl lk0_23 myX9_isBelow sxX9_isBelow (ct_X9_isBelow f _ _ _ hG _ _) rfl rfl (Nat.le_of_ble_eq_true rfl) ⟨(Nat.le_of_ble_eq_true rfl), (Nat.le_of_ble_eq_true rfl)⟩ ?_
    refine gx_if_eq (q := 17) (r := 31) rfl rfl rfl hp (fun c_14 hp => ?_) (fun c_14 hp => ?_)
    · refine gd_iconst (v := 0) (q := 32) rfl rfl rfl ?_
      exact gd_ireturn rfl rfl rfl (Nat.le_refl 0) (Nat.le_refl 0) rfl
    · refine gd_aload_n (q := 18) rfl rfl rfl ?_
      refine gd_getR (q := 21) (r := 28) rfl rfl rfl (Nat.le_of_ble_eq_true rfl) rfl rfl (gr_26_1 hG) ?_
      refine gd_iload_n (q := 22) rfl rfl rfl ?_
      refine gd_bipush (v := 30) (q := 24) rfl rfl rfl ?_
      refine gd_imul (q := 25) rfl rfl ?_
      refine gd_iload_n (q := 26) rfl rfl rfl ?_
      refine gd_iadd (q := 27) rfl rfl ?_
      refine gd_bald (q := 28) rfl rfl (Nat.le_of_ble_eq_true rfl) rfl hp ?_
      refine gd_goto (q := 32) rfl rfl ?_
      exact gd_ireturn rfl rfl rfl (Nat.le_refl 0) (Nat.le_refl 0) rfl
theorem ct_X0_wayOf (f : Nat) (I : am_I) (J : am_J) (Q : am_Q) (hG : Gr Q) (a1 : Int32) (a2 : Int32) (hp : p_X0_wayOf I a1 a2) : Cm MX0_wayOf 2 0 0 92 [.ref 26, .int a1, .int a2] I J Q (am_Fi I J Q (s_X0_wayOf I a1 a2)) := cm_of (by decide) rfl IX0_wayOf_ok (Nat.le_of_ble_eq_true rfl) (gt_X0_wayOf f I J Q hG a1 a2 hp)
def s_X9_knownTraits_L5 (a1 : Int32) (a2 : Int32) (I : am_I) : Nat → Int32 → Int32 → Int32
  | 0, _, _ => 0
  | g + 1, v3, v4 => (if (I 15 11) ≤ v4 then v3 else (if (I 23 v4.toNatClampNeg) = a2 then (if (s_X0_wayOf I a1 v4) = 3 then (s_X9_knownTraits_L5 a1 a2 I g (v3 ||| (I 24 v4.toNatClampNeg)) (v4 + 1)) else (s_X9_knownTraits_L5 a1 a2 I g v3 (v4 + 1))) else (s_X9_knownTraits_L5 a1 a2 I g v3 (v4 + 1))))
def p_X9_knownTraits_L5 (a1 : Int32) (a2 : Int32) (I : am_I) : Nat → Int32 → Int32 → Prop
  | 0, _, _ => False
  | g + 1, v3, v4 => (if (I 15 11) ≤ v4 then True else (vp_in v4 30 ∧ (if (I 23 v4.toNatClampNeg) = a2 then ((p_X0_wayOf I a1 v4) ∧ (if (s_X0_wayOf I a1 v4) = 3 then (vp_in v4 30 ∧ (p_X9_knownTraits_L5 a1 a2 I g (v3 ||| (I 24 v4.toNatClampNeg)) (v4 + 1))) else (p_X9_knownTraits_L5 a1 a2 I g v3 (v4 + 1)))) else (p_X9_knownTraits_L5 a1 a2 I g v3 (v4 + 1)))))
def s_X9_knownTraits (f : Nat) (I : am_I) (a1 : Int32) (a2 : Int32) : Int32 := (s_X9_knownTraits_L5 a1 a2 I f 0 0)
def p_X9_knownTraits (f : Nat) (I : am_I) (a1 : Int32) (a2 : Int32) : Prop := (p_X9_knownTraits_L5 a1 a2 I f 0 0)
set_option maxRecDepth 100000 in
set_option maxHeartbeats 4000000 in
theorem gl_X9_knownTraits_L5 (a1 : Int32) (a2 : Int32) (f : Nat) (I : am_I) (J : am_J) (Q : am_Q) (hG : Gr Q) : ∀ g : Nat, (∀ (v3 : Int32) (v4 : Int32), p_X9_knownTraits_L5 a1 a2 I g v3 v4 → Gd MX9_knownTraits (am_o 3 0 0 (am_Fi I J Q (s_X9_knownTraits_L5 a1 a2 I g v3 v4))) 0 0 92 5 [some (.ref 0), some (.int a1), some (.int a2), some (.int v3), some (.int v4)] [] I J Q) := by
  intro g
  induction g with
  | zero => exact fun _ _ hp => False.elim hp
  | succ g ih =>
    have ih_5 := ih
    intro v3 v4 hp
    rw [s_X9_knownTraits_L5]
    rw [p_X9_knownTraits_L5] at hp
    refine gd_iload (q := 7) rfl rfl rfl ?_
    refine gd_aload_n (q := 8) rfl rfl rfl ?_
    refine gd_getR (q := 11) (r := 15) rfl rfl rfl (Nat.le_of_ble_eq_true rfl) rfl rfl (gr_0_5 hG) ?_
    refine gd_getI (q := 14) rfl rfl rfl (Nat.le_of_ble_eq_true rfl) rfl rfl ?_
    refine gx_icmp_ge (q := 17) (r := 64) rfl rfl rfl hp (fun c_14 hp => ?_) (fun c_14 hp => ?_)
    · refine gd_iload_n (q := 65) rfl rfl rfl ?_
      exact gd_ireturn rfl rfl rfl (Nat.le_refl 0) (Nat.le_refl 0) rfl
    · refine gd_aload_n (q := 18) rfl rfl rfl ?_
      refine gd_getR (q := 21) (r := 15) rfl rfl rfl (Nat.le_of_ble_eq_true rfl) rfl rfl (gr_0_5 hG) ?_
      refine gd_getR (q := 24) (r := 23) rfl rfl rfl (Nat.le_of_ble_eq_true rfl) rfl rfl (gr_15_8 hG) ?_
      refine gd_iload (q := 26) rfl rfl rfl ?_
      refine gd_iald (q := 27) rfl rfl (Nat.le_of_ble_eq_true rfl) rfl hp.1 ?_
      replace hp := hp.2
      refine gd_iload_n (q := 28) rfl rfl rfl ?_
      refine gx_icmp_ne (q := 31) (r := 58) rfl rfl rfl hp (fun c_28 hp => ?_) (fun c_28 hp => ?_)
      · refine gd_aload_n (q := 32) rfl rfl rfl ?_
        refine gd_getR (q := 35) (r := 26) rfl rfl rfl (Nat.le_of_ble_eq_true rfl) rfl rfl (gr_0_6 hG) ?_
        refine gd_iload_n (q := 36) rfl rfl rfl ?_
        refine gd_iload (q := 38) rfl rfl rfl ?_
        refine gd_cVi (q := 41) rfl rfl lk9_177 myX0_wayOf vxX0_wayOf (ct_X0_wayOf f _ _ _ hG _ _ hp.1) rfl (Nat.le_of_ble_eq_true rfl) rfl rfl (Nat.le_of_ble_eq_true rfl) rfl (Nat.le_of_ble_eq_true rfl) ⟨(Nat.le_of_ble_eq_true rfl), (Nat.le_of_ble_eq_true rfl)⟩ ?_
        replace hp := hp.2
        refine gd_iconst (v := 3) (q := 42) rfl rfl rfl ?_
        refine gx_icmp_ne (q := 45) (r := 58) rfl rfl rfl hp (fun c_42 hp => ?_) (fun c_42 hp => ?_)
        · refine gd_iload_n (q := 46) rfl rfl rfl ?_
          refine gd_aload_n (q := 47) rfl rfl rfl ?_
          refine gd_getR (q := 50) (r := 15) rfl rfl rfl (Nat.le_of_ble_eq_true rfl) rfl rfl (gr_0_5 hG) ?_
          refine gd_getR (q := 53) (r := 24) rfl rfl rfl (Nat.le_of_ble_eq_true rfl) rfl rfl (gr_15_9 hG) ?_
          refine gd_iload (q := 55) rfl rfl rfl ?_
          refine gd_iald (q := 56) rfl rfl (Nat.le_of_ble_eq_true rfl) rfl hp.1 ?_
          replace hp := hp.2
          refine gd_ior (q := 57) rfl rfl ?_
          refine gd_istore_n (q := 58) rfl rfl (Nat.le_of_ble_eq_true rfl) rfl ?_
          refine gd_iinc (v := (v4 + 1)) (q := 61) rfl rfl rfl rfl (Nat.le_of_ble_eq_true rfl) rfl ?_
          refine gd_goto (q := 5) rfl rfl ?_
          exact ih_5 _ _ hp
        · refine gd_iinc (v := (v4 + 1)) (q := 61) rfl rfl rfl rfl (Nat.le_of_ble_eq_true rfl) rfl ?_
          refine gd_goto (q := 5) rfl rfl ?_
          exact ih_5 _ _ hp
      · refine gd_iinc (v := (v4 + 1)) (q := 61) rfl rfl rfl rfl (Nat.le_of_ble_eq_true rfl) rfl ?_
        refine gd_goto (q := 5) rfl rfl ?_
        exact ih_5 _ _ hp
theorem gl_X9_knownTraits_5 (a1 : Int32) (a2 : Int32) (f : Nat) (I : am_I) (J : am_J) (Q : am_Q) (hG : Gr Q) (g : Nat) : ∀ (v3 : Int32) (v4 : Int32), p_X9_knownTraits_L5 a1 a2 I g v3 v4 → Gd MX9_knownTraits (am_o 3 0 0 (am_Fi I J Q (s_X9_knownTraits_L5 a1 a2 I g v3 v4))) 0 0 92 5 [some (.ref 0), some (.int a1), some (.int a2), some (.int v3), some (.int v4)] [] I J Q := (gl_X9_knownTraits_L5 a1 a2 f I J Q hG g)
set_option maxRecDepth 100000 in
set_option maxHeartbeats 4000000 in
theorem gt_X9_knownTraits (f : Nat) (I : am_I) (J : am_J) (Q : am_Q) (hG : Gr Q) (a1 : Int32) (a2 : Int32) (hp : p_X9_knownTraits f I a1 a2) : Gd MX9_knownTraits (am_o 3 0 0 (am_Fi I J Q (s_X9_knownTraits f I a1 a2))) 0 0 92 0 [some (.ref 0), some (.int a1), some (.int a2), none, none] [] I J Q := by
  unfold s_X9_knownTraits
  unfold p_X9_knownTraits at hp
  refine gd_iconst (v := 0) (q := 1) rfl rfl rfl ?_
  refine gd_istore_n (q := 2) rfl rfl (Nat.le_of_ble_eq_true rfl) rfl ?_
  refine gd_iconst (v := 0) (q := 3) rfl rfl rfl ?_
  refine gd_istore (q := 5) rfl rfl (Nat.le_of_ble_eq_true rfl) rfl ?_
  exact gl_X9_knownTraits_5 a1 a2 f I J Q hG f 0 0 hp
theorem ct_X9_knownTraits (f : Nat) (I : am_I) (J : am_J) (Q : am_Q) (hG : Gr Q) (a1 : Int32) (a2 : Int32) (hp : p_X9_knownTraits f I a1 a2) : Cm MX9_knownTraits 3 0 0 92 [.ref 0, .int a1, .int a2] I J Q (am_Fi I J Q (s_X9_knownTraits f I a1 a2)) := cm_of (by decide) rfl IX9_knownTraits_ok (Nat.le_of_ble_eq_true rfl) (gt_X9_knownTraits f I J Q hG a1 a2 hp)
def s_X8_areAlike_L21 (a1 : Int32) (a2 : Int32) (a3 : Int32) (I : am_I) : Nat → Int32 → Int32
  | 0, _ => 0
  | g + 1, v4 => (if 4 ≤ v4 then 1 else (if ((a3 >>> (v4 &&& 31)) &&& 1) = 1 then (if (I 10 ((a1 * 4) + v4).toNatClampNeg) = (I 10 ((a2 * 4) + v4).toNatClampNeg) then (s_X8_areAlike_L21 a1 a2 a3 I g (v4 + 1)) else 0) else (s_X8_areAlike_L21 a1 a2 a3 I g (v4 + 1))))
def p_X8_areAlike_L21 (a1 : Int32) (a2 : Int32) (a3 : Int32) (I : am_I) : Nat → Int32 → Prop
  | 0, _ => False
  | g + 1, v4 => (if 4 ≤ v4 then True else (if ((a3 >>> (v4 &&& 31)) &&& 1) = 1 then (vp_in ((a1 * 4) + v4) 48 ∧ (vp_in ((a2 * 4) + v4) 48 ∧ (if (I 10 ((a1 * 4) + v4).toNatClampNeg) = (I 10 ((a2 * 4) + v4).toNatClampNeg) then (p_X8_areAlike_L21 a1 a2 a3 I g (v4 + 1)) else True))) else (p_X8_areAlike_L21 a1 a2 a3 I g (v4 + 1))))
theorem z_X8_areAlike_L21 (a1 : Int32) (a2 : Int32) (a3 : Int32) (I : am_I) : ∀ (g : Nat), (∀ (v4 : Int32), (s_X8_areAlike_L21 a1 a2 a3 I g v4) = 0 ∨ (s_X8_areAlike_L21 a1 a2 a3 I g v4) = 1) := by
  intro g
  induction g with
  | zero => (intros; exact Or.inl rfl)
  | succ g ih =>
    intro v4
    rw [s_X8_areAlike_L21]
    repeat' split
    all_goals first | exact Or.inl rfl | exact Or.inr rfl | exact z_X8_has _ _ | exact ih _
def s_X8_areAlike (f : Nat) (I : am_I) (a1 : Int32) (a2 : Int32) (a3 : Int32) : Int32 := (if (s_X8_has I a1) = 0 then 0 else (if (s_X8_has I a2) = 0 then 0 else (s_X8_areAlike_L21 a1 a2 a3 I f 0)))
def p_X8_areAlike (f : Nat) (I : am_I) (a1 : Int32) (a2 : Int32) (a3 : Int32) : Prop := (if (s_X8_has I a1) = 0 then True else (if (s_X8_has I a2) = 0 then True else (p_X8_areAlike_L21 a1 a2 a3 I f 0)))
theorem z_X8_areAlike (f : Nat) (I : am_I) (a1 : Int32) (a2 : Int32) (a3 : Int32) : (s_X8_areAlike f I a1 a2 a3) = 0 ∨ (s_X8_areAlike f I a1 a2 a3) = 1 := by
  unfold s_X8_areAlike
  repeat' split
  all_goals first | exact Or.inl rfl | exact Or.inr rfl | exact z_X8_has _ _ | exact (z_X8_areAlike_L21 _ _ _ _ _) _
set_option maxRecDepth 100000 in
set_option maxHeartbeats 4000000 in
theorem gl_X8_areAlike_L21 (a1 : Int32) (a2 : Int32) (a3 : Int32) (f : Nat) (I : am_I) (J : am_J) (Q : am_Q) (hG : Gr Q) : ∀ g : Nat, (∀ (v4 : Int32), p_X8_areAlike_L21 a1 a2 a3 I g v4 → Gd MX8_areAlike (am_o 2 0 0 (am_Fi I J Q (s_X8_areAlike_L21 a1 a2 a3 I g v4))) 0 0 92 21 [some (.ref 9), some (.int a1), some (.int a2), some (.int a3), some (.int v4), none] [] I J Q) := by
  intro g
  induction g with
  | zero => exact fun _ hp => False.elim hp
  | succ g ih =>
    have ih_21 := ih
    intro v4 hp
    rw [s_X8_areAlike_L21]
    rw [p_X8_areAlike_L21] at hp
    refine gd_iload (q := 23) rfl rfl rfl ?_
    refine gd_iconst (v := 4) (q := 24) rfl rfl rfl ?_
    refine gx_icmp_ge (q := 27) (r := 82) rfl rfl rfl hp (fun c_24 hp => ?_) (fun c_24 hp => ?_)
    · refine gd_iconst (v := 1) (q := 83) rfl rfl rfl ?_
      exact gd_ireturn rfl rfl rfl (Nat.le_refl 0) (Nat.le_refl 0) rfl
    · refine gd_iload_n (q := 28) rfl rfl rfl ?_
      refine gd_iload (q := 30) rfl rfl rfl ?_
      refine gd_ishr (q := 31) rfl rfl ?_
      refine gd_iconst (v := 1) (q := 32) rfl rfl rfl ?_
      refine gd_iand (q := 33) rfl rfl ?_
      refine gd_iconst (v := 1) (q := 34) rfl rfl rfl ?_
      refine gx_icmp_ne (q := 37) (r := 41) rfl rfl rfl hp (fun c_34 hp => ?_) (fun c_34 hp => ?_)
      · refine gd_iconst (v := 1) (q := 38) rfl rfl rfl ?_
        refine gd_goto (q := 42) rfl rfl ?_
        refine gd_istore (q := 44) rfl rfl (Nat.le_of_ble_eq_true rfl) rfl ?_
        refine gd_iload (q := 46) rfl rfl rfl ?_
        refine gd_if_eq (q := 49) (r := 76) rfl rfl rfl (fun c => absurd c (by decide)) (fun _ => ?_)
        refine gd_aload_n (q := 50) rfl rfl rfl ?_
        refine gd_getR (q := 53) (r := 10) rfl rfl rfl (Nat.le_of_ble_eq_true rfl) rfl rfl (gr_9_0 hG) ?_
        refine gd_iload_n (q := 54) rfl rfl rfl ?_
        refine gd_iconst (v := 4) (q := 55) rfl rfl rfl ?_
        refine gd_imul (q := 56) rfl rfl ?_
        refine gd_iload (q := 58) rfl rfl rfl ?_
        refine gd_iadd (q := 59) rfl rfl ?_
        refine gd_iald (q := 60) rfl rfl (Nat.le_of_ble_eq_true rfl) rfl hp.1 ?_
        replace hp := hp.2
        refine gd_aload_n (q := 61) rfl rfl rfl ?_
        refine gd_getR (q := 64) (r := 10) rfl rfl rfl (Nat.le_of_ble_eq_true rfl) rfl rfl (gr_9_0 hG) ?_
        refine gd_iload_n (q := 65) rfl rfl rfl ?_
        refine gd_iconst (v := 4) (q := 66) rfl rfl rfl ?_
        refine gd_imul (q := 67) rfl rfl ?_
        refine gd_iload (q := 69) rfl rfl rfl ?_
        refine gd_iadd (q := 70) rfl rfl ?_
        refine gd_iald (q := 71) rfl rfl (Nat.le_of_ble_eq_true rfl) rfl hp.1 ?_
        replace hp := hp.2
        refine gx_icmp_eq (q := 74) (r := 76) rfl rfl rfl hp (fun c_71 hp => ?_) (fun c_71 hp => ?_)
        · refine gd_iinc (v := (v4 + 1)) (q := 79) rfl rfl rfl rfl (Nat.le_of_ble_eq_true rfl) rfl ?_
          refine gd_goto (q := 21) rfl rfl ?_
          refine gd_drop 5 ?_
          exact ih_21 _ hp
        · refine gd_iconst (v := 0) (q := 75) rfl rfl rfl ?_
          exact gd_ireturn rfl rfl rfl (Nat.le_refl 0) (Nat.le_refl 0) rfl
      · refine gd_iconst (v := 0) (q := 42) rfl rfl rfl ?_
        refine gd_istore (q := 44) rfl rfl (Nat.le_of_ble_eq_true rfl) rfl ?_
        refine gd_iload (q := 46) rfl rfl rfl ?_
        refine gd_if_eq (q := 49) (r := 76) rfl rfl rfl (fun _ => ?_) (fun c => absurd c (by decide))
        refine gd_iinc (v := (v4 + 1)) (q := 79) rfl rfl rfl rfl (Nat.le_of_ble_eq_true rfl) rfl ?_
        refine gd_goto (q := 21) rfl rfl ?_
        refine gd_drop 5 ?_
        exact ih_21 _ hp
theorem gl_X8_areAlike_21 (a1 : Int32) (a2 : Int32) (a3 : Int32) (f : Nat) (I : am_I) (J : am_J) (Q : am_Q) (hG : Gr Q) (g : Nat) : ∀ (v4 : Int32), p_X8_areAlike_L21 a1 a2 a3 I g v4 → Gd MX8_areAlike (am_o 2 0 0 (am_Fi I J Q (s_X8_areAlike_L21 a1 a2 a3 I g v4))) 0 0 92 21 [some (.ref 9), some (.int a1), some (.int a2), some (.int a3), some (.int v4), none] [] I J Q := (gl_X8_areAlike_L21 a1 a2 a3 f I J Q hG g)
set_option maxRecDepth 100000 in
set_option maxHeartbeats 4000000 in
theorem gt_X8_areAlike (f : Nat) (I : am_I) (J : am_J) (Q : am_Q) (hG : Gr Q) (a1 : Int32) (a2 : Int32) (a3 : Int32) (hp : p_X8_areAlike f I a1 a2 a3) : Gd MX8_areAlike (am_o 2 0 0 (am_Fi I J Q (s_X8_areAlike f I a1 a2 a3))) 0 0 92 0 [some (.ref 9), some (.int a1), some (.int a2), some (.int a3), none, none] [] I J Q := by
  unfold s_X8_areAlike
  unfold p_X8_areAlike at hp
  refine gd_aload_n (q := 1) rfl rfl rfl ?_
  refine gd_iload_n (q := 2) rfl rfl rfl ?_
  refine gd_cVi (q := 5) rfl rfl lk8_33 myX8_has vxX8_has (ct_X8_has f _ _ _ hG _) rfl (Nat.le_of_ble_eq_true rfl) rfl rfl (Nat.le_of_ble_eq_true rfl) rfl (Nat.le_of_ble_eq_true rfl) ⟨(Nat.le_of_ble_eq_true rfl), (Nat.le_of_ble_eq_true rfl)⟩ ?_
  refine gx_if_eq (q := 8) (r := 16) rfl rfl rfl hp (fun c_5 hp => ?_) (fun c_5 hp => ?_)
  · refine gd_iconst (v := 0) (q := 17) rfl rfl rfl ?_
    exact gd_ireturn rfl rfl rfl (Nat.le_refl 0) (Nat.le_refl 0) rfl
  · refine gd_aload_n (q := 9) rfl rfl rfl ?_
    refine gd_iload_n (q := 10) rfl rfl rfl ?_
    refine gd_cVi (q := 13) rfl rfl lk8_33 myX8_has vxX8_has (ct_X8_has f _ _ _ hG _) rfl (Nat.le_of_ble_eq_true rfl) rfl rfl (Nat.le_of_ble_eq_true rfl) rfl (Nat.le_of_ble_eq_true rfl) ⟨(Nat.le_of_ble_eq_true rfl), (Nat.le_of_ble_eq_true rfl)⟩ ?_
    refine gx_if_ne (q := 16) (r := 18) rfl rfl rfl hp (fun c_13 hp => ?_) (fun c_13 hp => ?_)
    · refine gd_iconst (v := 0) (q := 17) rfl rfl rfl ?_
      exact gd_ireturn rfl rfl rfl (Nat.le_refl 0) (Nat.le_refl 0) rfl
    · refine gd_iconst (v := 0) (q := 19) rfl rfl rfl ?_
      refine gd_istore (q := 21) rfl rfl (Nat.le_of_ble_eq_true rfl) rfl ?_
      exact gl_X8_areAlike_21 a1 a2 a3 f I J Q hG f 0 hp
theorem ct_X8_areAlike (f : Nat) (I : am_I) (J : am_J) (Q : am_Q) (hG : Gr Q) (a1 : Int32) (a2 : Int32) (a3 : Int32) (hp : p_X8_areAlike f I a1 a2 a3) : Cm MX8_areAlike 2 0 0 92 [.ref 9, .int a1, .int a2, .int a3] I J Q (am_Fi I J Q (s_X8_areAlike f I a1 a2 a3)) := cm_of (by decide) rfl IX8_areAlike_ok (Nat.le_of_ble_eq_true rfl) (gt_X8_areAlike f I J Q hG a1 a2 a3 hp)
def s_X8_alikeTo_L5 (a1 : Int32) (a2 : Int32) (f : Nat) (I : am_I) : Nat → Int32 → Int32 → Int32
  | 0, _, _ => 0
  | g + 1, v3, v4 => (if (I 9 3) ≤ v4 then v3 else (if (s_X8_areAlike f I a1 v4 a2) = 0 then (s_X8_alikeTo_L5 a1 a2 f I g v3 (v4 + 1)) else (s_X8_alikeTo_L5 a1 a2 f I g (v3 + 1) (v4 + 1))))
def p_X8_alikeTo_L5 (a1 : Int32) (a2 : Int32) (f : Nat) (I : am_I) : Nat → Int32 → Int32 → Prop
  | 0, _, _ => False
  | g + 1, v3, v4 => (if (I 9 3) ≤ v4 then True else ((p_X8_areAlike f I a1 v4 a2) ∧ (if (s_X8_areAlike f I a1 v4 a2) = 0 then (p_X8_alikeTo_L5 a1 a2 f I g v3 (v4 + 1)) else (p_X8_alikeTo_L5 a1 a2 f I g (v3 + 1) (v4 + 1)))))
def s_X8_alikeTo (f : Nat) (I : am_I) (a1 : Int32) (a2 : Int32) : Int32 := (s_X8_alikeTo_L5 a1 a2 f I f 0 0)
def p_X8_alikeTo (f : Nat) (I : am_I) (a1 : Int32) (a2 : Int32) : Prop := (p_X8_alikeTo_L5 a1 a2 f I f 0 0)
set_option maxRecDepth 100000 in
set_option maxHeartbeats 4000000 in
theorem gl_X8_alikeTo_L5 (a1 : Int32) (a2 : Int32) (f : Nat) (I : am_I) (J : am_J) (Q : am_Q) (hG : Gr Q) : ∀ g : Nat, (∀ (v3 : Int32) (v4 : Int32), p_X8_alikeTo_L5 a1 a2 f I g v3 v4 → Gd MX8_alikeTo (am_o 3 0 0 (am_Fi I J Q (s_X8_alikeTo_L5 a1 a2 f I g v3 v4))) 0 0 92 5 [some (.ref 9), some (.int a1), some (.int a2), some (.int v3), some (.int v4)] [] I J Q) := by
  intro g
  induction g with
  | zero => exact fun _ _ hp => False.elim hp
  | succ g ih =>
    have ih_5 := ih
    intro v3 v4 hp
    rw [s_X8_alikeTo_L5]
    rw [p_X8_alikeTo_L5] at hp
    refine gd_iload (q := 7) rfl rfl rfl ?_
    refine gd_aload_n (q := 8) rfl rfl rfl ?_
    refine gd_getI (q := 11) rfl rfl rfl (Nat.le_of_ble_eq_true rfl) rfl rfl ?_
    refine gx_icmp_ge (q := 14) (r := 34) rfl rfl rfl hp (fun c_11 hp => ?_) (fun c_11 hp => ?_)
    · refine gd_iload_n (q := 35) rfl rfl rfl ?_
      exact gd_ireturn rfl rfl rfl (Nat.le_refl 0) (Nat.le_refl 0) rfl
    · refine gd_aload_n (q := 15) rfl rfl rfl ?_
      refine gd_iload_n (q := 16) rfl rfl rfl ?_
      refine gd_iload (q := 18) rfl rfl rfl ?_
      refine gd_iload_n (q := 19) rfl rfl rfl ?_
      refine gd_cVi (q := 22) rfl rfl lk8_37 myX8_areAlike vxX8_areAlike (ct_X8_areAlike f _ _ _ hG _ _ _ hp.1) rfl (Nat.le_of_ble_eq_true rfl) rfl rfl (Nat.le_of_ble_eq_true rfl) rfl (Nat.le_of_ble_eq_true rfl) ⟨(Nat.le_of_ble_eq_true rfl), (Nat.le_of_ble_eq_true rfl)⟩ ?_
      replace hp := hp.2
      refine gx_if_eq (q := 25) (r := 28) rfl rfl rfl hp (fun c_22 hp => ?_) (fun c_22 hp => ?_)
      · refine gd_iinc (v := (v4 + 1)) (q := 31) rfl rfl rfl rfl (Nat.le_of_ble_eq_true rfl) rfl ?_
        refine gd_goto (q := 5) rfl rfl ?_
        exact ih_5 _ _ hp
      · refine gd_iinc (v := (v3 + 1)) (q := 28) rfl rfl rfl rfl (Nat.le_of_ble_eq_true rfl) rfl ?_
        refine gd_iinc (v := (v4 + 1)) (q := 31) rfl rfl rfl rfl (Nat.le_of_ble_eq_true rfl) rfl ?_
        refine gd_goto (q := 5) rfl rfl ?_
        exact ih_5 _ _ hp
theorem gl_X8_alikeTo_5 (a1 : Int32) (a2 : Int32) (f : Nat) (I : am_I) (J : am_J) (Q : am_Q) (hG : Gr Q) (g : Nat) : ∀ (v3 : Int32) (v4 : Int32), p_X8_alikeTo_L5 a1 a2 f I g v3 v4 → Gd MX8_alikeTo (am_o 3 0 0 (am_Fi I J Q (s_X8_alikeTo_L5 a1 a2 f I g v3 v4))) 0 0 92 5 [some (.ref 9), some (.int a1), some (.int a2), some (.int v3), some (.int v4)] [] I J Q := (gl_X8_alikeTo_L5 a1 a2 f I J Q hG g)
set_option maxRecDepth 100000 in
set_option maxHeartbeats 4000000 in
theorem gt_X8_alikeTo (f : Nat) (I : am_I) (J : am_J) (Q : am_Q) (hG : Gr Q) (a1 : Int32) (a2 : Int32) (hp : p_X8_alikeTo f I a1 a2) : Gd MX8_alikeTo (am_o 3 0 0 (am_Fi I J Q (s_X8_alikeTo f I a1 a2))) 0 0 92 0 [some (.ref 9), some (.int a1), some (.int a2), none, none] [] I J Q := by
  unfold s_X8_alikeTo
  unfold p_X8_alikeTo at hp
  refine gd_iconst (v := 0) (q := 1) rfl rfl rfl ?_
  refine gd_istore_n (q := 2) rfl rfl (Nat.le_of_ble_eq_true rfl) rfl ?_
  refine gd_iconst (v := 0) (q := 3) rfl rfl rfl ?_
  refine gd_istore (q := 5) rfl rfl (Nat.le_of_ble_eq_true rfl) rfl ?_
  exact gl_X8_alikeTo_5 a1 a2 f I J Q hG f 0 0 hp
theorem ct_X8_alikeTo (f : Nat) (I : am_I) (J : am_J) (Q : am_Q) (hG : Gr Q) (a1 : Int32) (a2 : Int32) (hp : p_X8_alikeTo f I a1 a2) : Cm MX8_alikeTo 3 0 0 92 [.ref 9, .int a1, .int a2] I J Q (am_Fi I J Q (s_X8_alikeTo f I a1 a2)) := cm_of (by decide) rfl IX8_alikeTo_ok (Nat.le_of_ble_eq_true rfl) (gt_X8_alikeTo f I J Q hG a1 a2 hp)
def s_X9_knowsByName_L2 (a1 : Int32) (a2 : Int32) (I : am_I) : Nat → Int32 → Int32
  | 0, _ => 0
  | g + 1, v3 => (if (I 15 11) ≤ v3 then 0 else (if (I 23 v3.toNatClampNeg) = a2 then (if (s_X0_wayOf I a1 v3) = 2 then 1 else (s_X9_knowsByName_L2 a1 a2 I g (v3 + 1))) else (s_X9_knowsByName_L2 a1 a2 I g (v3 + 1))))
def p_X9_knowsByName_L2 (a1 : Int32) (a2 : Int32) (I : am_I) : Nat → Int32 → Prop
  | 0, _ => False
  | g + 1, v3 => (if (I 15 11) ≤ v3 then True else (vp_in v3 30 ∧ (if (I 23 v3.toNatClampNeg) = a2 then ((p_X0_wayOf I a1 v3) ∧ (if (s_X0_wayOf I a1 v3) = 2 then True else (p_X9_knowsByName_L2 a1 a2 I g (v3 + 1)))) else (p_X9_knowsByName_L2 a1 a2 I g (v3 + 1)))))
theorem z_X9_knowsByName_L2 (a1 : Int32) (a2 : Int32) (I : am_I) : ∀ (g : Nat), (∀ (v3 : Int32), (s_X9_knowsByName_L2 a1 a2 I g v3) = 0 ∨ (s_X9_knowsByName_L2 a1 a2 I g v3) = 1) := by
  intro g
  induction g with
  | zero => (intros; exact Or.inl rfl)
  | succ g ih =>
    intro v3
    rw [s_X9_knowsByName_L2]
    repeat' split
    all_goals first | exact Or.inl rfl | exact Or.inr rfl | exact ih _
def s_X9_knowsByName (f : Nat) (I : am_I) (a1 : Int32) (a2 : Int32) : Int32 := (s_X9_knowsByName_L2 a1 a2 I f 0)
def p_X9_knowsByName (f : Nat) (I : am_I) (a1 : Int32) (a2 : Int32) : Prop := (p_X9_knowsByName_L2 a1 a2 I f 0)
theorem z_X9_knowsByName (f : Nat) (I : am_I) (a1 : Int32) (a2 : Int32) : (s_X9_knowsByName f I a1 a2) = 0 ∨ (s_X9_knowsByName f I a1 a2) = 1 := by
  unfold s_X9_knowsByName
  repeat' split
  all_goals first | exact Or.inl rfl | exact Or.inr rfl | exact (z_X9_knowsByName_L2 _ _ _ _) _
set_option maxRecDepth 100000 in
set_option maxHeartbeats 4000000 in
theorem gl_X9_knowsByName_L2 (a1 : Int32) (a2 : Int32) (f : Nat) (I : am_I) (J : am_J) (Q : am_Q) (hG : Gr Q) : ∀ g : Nat, (∀ (v3 : Int32), p_X9_knowsByName_L2 a1 a2 I g v3 → Gd MX9_knowsByName (am_o 3 0 0 (am_Fi I J Q (s_X9_knowsByName_L2 a1 a2 I g v3))) 0 0 92 2 [some (.ref 0), some (.int a1), some (.int a2), some (.int v3)] [] I J Q) := by
  intro g
  induction g with
  | zero => exact fun _ hp => False.elim hp
  | succ g ih =>
    have ih_2 := ih
    intro v3 hp
    rw [s_X9_knowsByName_L2]
    rw [p_X9_knowsByName_L2] at hp
    refine gd_iload_n (q := 3) rfl rfl rfl ?_
    refine gd_aload_n (q := 4) rfl rfl rfl ?_
    refine gd_getR (q := 7) (r := 15) rfl rfl rfl (Nat.le_of_ble_eq_true rfl) rfl rfl (gr_0_5 hG) ?_
    refine gd_getI (q := 10) rfl rfl rfl (Nat.le_of_ble_eq_true rfl) rfl rfl ?_
    refine gx_icmp_ge (q := 13) (r := 47) rfl rfl rfl hp (fun c_10 hp => ?_) (fun c_10 hp => ?_)
    · refine gd_iconst (v := 0) (q := 48) rfl rfl rfl ?_
      exact gd_ireturn rfl rfl rfl (Nat.le_refl 0) (Nat.le_refl 0) rfl
    · refine gd_aload_n (q := 14) rfl rfl rfl ?_
      refine gd_getR (q := 17) (r := 15) rfl rfl rfl (Nat.le_of_ble_eq_true rfl) rfl rfl (gr_0_5 hG) ?_
      refine gd_getR (q := 20) (r := 23) rfl rfl rfl (Nat.le_of_ble_eq_true rfl) rfl rfl (gr_15_8 hG) ?_
      refine gd_iload_n (q := 21) rfl rfl rfl ?_
      refine gd_iald (q := 22) rfl rfl (Nat.le_of_ble_eq_true rfl) rfl hp.1 ?_
      replace hp := hp.2
      refine gd_iload_n (q := 23) rfl rfl rfl ?_
      refine gx_icmp_ne (q := 26) (r := 41) rfl rfl rfl hp (fun c_23 hp => ?_) (fun c_23 hp => ?_)
      · refine gd_aload_n (q := 27) rfl rfl rfl ?_
        refine gd_getR (q := 30) (r := 26) rfl rfl rfl (Nat.le_of_ble_eq_true rfl) rfl rfl (gr_0_6 hG) ?_
        refine gd_iload_n (q := 31) rfl rfl rfl ?_
        refine gd_iload_n (q := 32) rfl rfl rfl ?_
        refine gd_cVi (q := 35) rfl rfl lk9_177 myX0_wayOf vxX0_wayOf (ct_X0_wayOf f _ _ _ hG _ _ hp.1) rfl (Nat.le_of_ble_eq_true rfl) rfl rfl (Nat.le_of_ble_eq_true rfl) rfl (Nat.le_of_ble_eq_true rfl) ⟨(Nat.le_of_ble_eq_true rfl), (Nat.le_of_ble_eq_true rfl)⟩ ?_
        replace hp := hp.2
        refine gd_iconst (v := 2) (q := 36) rfl rfl rfl ?_
        refine gx_icmp_ne (q := 39) (r := 41) rfl rfl rfl hp (fun c_36 hp => ?_) (fun c_36 hp => ?_)
        · refine gd_iconst (v := 1) (q := 40) rfl rfl rfl ?_
          exact gd_ireturn rfl rfl rfl (Nat.le_refl 0) (Nat.le_refl 0) rfl
        · refine gd_iinc (v := (v3 + 1)) (q := 44) rfl rfl rfl rfl (Nat.le_of_ble_eq_true rfl) rfl ?_
          refine gd_goto (q := 2) rfl rfl ?_
          exact ih_2 _ hp
      · refine gd_iinc (v := (v3 + 1)) (q := 44) rfl rfl rfl rfl (Nat.le_of_ble_eq_true rfl) rfl ?_
        refine gd_goto (q := 2) rfl rfl ?_
        exact ih_2 _ hp
theorem gl_X9_knowsByName_2 (a1 : Int32) (a2 : Int32) (f : Nat) (I : am_I) (J : am_J) (Q : am_Q) (hG : Gr Q) (g : Nat) : ∀ (v3 : Int32), p_X9_knowsByName_L2 a1 a2 I g v3 → Gd MX9_knowsByName (am_o 3 0 0 (am_Fi I J Q (s_X9_knowsByName_L2 a1 a2 I g v3))) 0 0 92 2 [some (.ref 0), some (.int a1), some (.int a2), some (.int v3)] [] I J Q := (gl_X9_knowsByName_L2 a1 a2 f I J Q hG g)
set_option maxRecDepth 100000 in
set_option maxHeartbeats 4000000 in
theorem gt_X9_knowsByName (f : Nat) (I : am_I) (J : am_J) (Q : am_Q) (hG : Gr Q) (a1 : Int32) (a2 : Int32) (hp : p_X9_knowsByName f I a1 a2) : Gd MX9_knowsByName (am_o 3 0 0 (am_Fi I J Q (s_X9_knowsByName f I a1 a2))) 0 0 92 0 [some (.ref 0), some (.int a1), some (.int a2), none] [] I J Q := by
  unfold s_X9_knowsByName
  unfold p_X9_knowsByName at hp
  refine gd_iconst (v := 0) (q := 1) rfl rfl rfl ?_
  refine gd_istore_n (q := 2) rfl rfl (Nat.le_of_ble_eq_true rfl) rfl ?_
  exact gl_X9_knowsByName_2 a1 a2 f I J Q hG f 0 hp
theorem ct_X9_knowsByName (f : Nat) (I : am_I) (J : am_J) (Q : am_Q) (hG : Gr Q) (a1 : Int32) (a2 : Int32) (hp : p_X9_knowsByName f I a1 a2) : Cm MX9_knowsByName 3 0 0 92 [.ref 0, .int a1, .int a2] I J Q (am_Fi I J Q (s_X9_knowsByName f I a1 a2)) := cm_of (by decide) rfl IX9_knowsByName_ok (Nat.le_of_ble_eq_true rfl) (gt_X9_knowsByName f I J Q hG a1 a2 hp)
def s_X9_wouldUnmask (f : Nat) (I : am_I) (a1 : Int32) (a2 : Int32) : Int32 := (if (I 0 10) ≤ (s_X8_alikeTo f I (I 23 a2.toNatClampNeg) ((s_X9_knownTraits f I a1 (I 23 a2.toNatClampNeg)) ||| (I 24 a2.toNatClampNeg))) then 0 else (if (s_X9_knowsByName f I a1 (I 23 a2.toNatClampNeg)) = 0 then 1 else 0))
def p_X9_wouldUnmask (f : Nat) (I : am_I) (a1 : Int32) (a2 : Int32) : Prop := (vp_in a2 30 ∧ ((p_X9_knownTraits f I a1 (I 23 a2.toNatClampNeg)) ∧ (vp_in a2 30 ∧ ((p_X8_alikeTo f I (I 23 a2.toNatClampNeg) ((s_X9_knownTraits f I a1 (I 23 a2.toNatClampNeg)) ||| (I 24 a2.toNatClampNeg))) ∧ (if (I 0 10) ≤ (s_X8_alikeTo f I (I 23 a2.toNatClampNeg) ((s_X9_knownTraits f I a1 (I 23 a2.toNatClampNeg)) ||| (I 24 a2.toNatClampNeg))) then True else (p_X9_knowsByName f I a1 (I 23 a2.toNatClampNeg)))))))
theorem z_X9_wouldUnmask (f : Nat) (I : am_I) (a1 : Int32) (a2 : Int32) : (s_X9_wouldUnmask f I a1 a2) = 0 ∨ (s_X9_wouldUnmask f I a1 a2) = 1 := by
  unfold s_X9_wouldUnmask
  repeat' split
  all_goals first | exact Or.inl rfl | exact Or.inr rfl | exact z_X9_knowsByName _ _ _ _
set_option maxRecDepth 100000 in
set_option maxHeartbeats 4000000 in
theorem gt_X9_wouldUnmask (f : Nat) (I : am_I) (J : am_J) (Q : am_Q) (hG : Gr Q) (a1 : Int32) (a2 : Int32) (hp : p_X9_wouldUnmask f I a1 a2) : Gd MX9_wouldUnmask (am_o 4 0 0 (am_Fi I J Q (s_X9_wouldUnmask f I a1 a2))) 0 0 92 0 [some (.ref 0), some (.int a1), some (.int a2), none, none] [] I J Q := by
  unfold s_X9_wouldUnmask
  unfold p_X9_wouldUnmask at hp
  refine gd_aload_n (q := 1) rfl rfl rfl ?_
  refine gd_getR (q := 4) (r := 15) rfl rfl rfl (Nat.le_of_ble_eq_true rfl) rfl rfl (gr_0_5 hG) ?_
  refine gd_getR (q := 7) (r := 23) rfl rfl rfl (Nat.le_of_ble_eq_true rfl) rfl rfl (gr_15_8 hG) ?_
  refine gd_iload_n (q := 8) rfl rfl rfl ?_
  refine gd_iald (q := 9) rfl rfl (Nat.le_of_ble_eq_true rfl) rfl hp.1 ?_
  replace hp := hp.2
  refine gd_istore_n (q := 10) rfl rfl (Nat.le_of_ble_eq_true rfl) rfl ?_
  refine gd_aload_n (q := 11) rfl rfl rfl ?_
  refine gd_iload_n (q := 12) rfl rfl rfl ?_
  refine gd_iload_n (q := 13) rfl rfl rfl ?_
  refine gd_cVi (q := 16) rfl rfl lk9_184 myX9_knownTraits vxX9_knownTraits (ct_X9_knownTraits f _ _ _ hG _ _ hp.1) rfl (Nat.le_of_ble_eq_true rfl) rfl rfl (Nat.le_of_ble_eq_true rfl) rfl (Nat.le_of_ble_eq_true rfl) ⟨(Nat.le_of_ble_eq_true rfl), (Nat.le_of_ble_eq_true rfl)⟩ ?_
  replace hp := hp.2
  refine gd_aload_n (q := 17) rfl rfl rfl ?_
  refine gd_getR (q := 20) (r := 15) rfl rfl rfl (Nat.le_of_ble_eq_true rfl) rfl rfl (gr_0_5 hG) ?_
  refine gd_getR (q := 23) (r := 24) rfl rfl rfl (Nat.le_of_ble_eq_true rfl) rfl rfl (gr_15_9 hG) ?_
  refine gd_iload_n (q := 24) rfl rfl rfl ?_
  refine gd_iald (q := 25) rfl rfl (Nat.le_of_ble_eq_true rfl) rfl hp.1 ?_
  replace hp := hp.2
  refine gd_ior (q := 26) rfl rfl ?_
  refine gd_istore (q := 28) rfl rfl (Nat.le_of_ble_eq_true rfl) rfl ?_
  refine gd_aload_n (q := 29) rfl rfl rfl ?_
  refine gd_getR (q := 32) (r := 9) rfl rfl rfl (Nat.le_of_ble_eq_true rfl) rfl rfl (gr_0_3 hG) ?_
  refine gd_iload_n (q := 33) rfl rfl rfl ?_
  refine gd_iload (q := 35) rfl rfl rfl ?_
  refine gd_cVi (q := 38) rfl rfl lk9_187 myX8_alikeTo vxX8_alikeTo (ct_X8_alikeTo f _ _ _ hG _ _ hp.1) rfl (Nat.le_of_ble_eq_true rfl) rfl rfl (Nat.le_of_ble_eq_true rfl) rfl (Nat.le_of_ble_eq_true rfl) ⟨(Nat.le_of_ble_eq_true rfl), (Nat.le_of_ble_eq_true rfl)⟩ ?_
  replace hp := hp.2
  refine gd_aload_n (q := 39) rfl rfl rfl ?_
  refine gd_getI (q := 42) rfl rfl rfl (Nat.le_of_ble_eq_true rfl) rfl rfl ?_
  refine gx_icmp_ge (q := 45) (r := 58) rfl rfl rfl hp (fun c_42 hp => ?_) (fun c_42 hp => ?_)
  · refine gd_iconst (v := 0) (q := 59) rfl rfl rfl ?_
    exact gd_ireturn rfl rfl rfl (Nat.le_refl 0) (Nat.le_refl 0) rfl
  · refine gd_aload_n (q := 46) rfl rfl rfl ?_
    refine gd_iload_n (q := 47) rfl rfl rfl ?_
    refine gd_iload_n (q := 48) rfl rfl rfl ?_
    refine gd_cVi (q := 51) rfl rfl lk9_181 myX9_knowsByName vxX9_knowsByName (ct_X9_knowsByName f _ _ _ hG _ _ hp) rfl (Nat.le_of_ble_eq_true rfl) rfl rfl (Nat.le_of_ble_eq_true rfl) rfl (Nat.le_of_ble_eq_true rfl) ⟨(Nat.le_of_ble_eq_true rfl), (Nat.le_of_ble_eq_true rfl)⟩ ?_
    refine gy_if_ne (q := 54) (r := 58) rfl rfl rfl (fun c_51 => ?_) (fun c_51 => ?_)
    · refine gd_iconst (v := 1) (q := 55) rfl rfl rfl ?_
      refine gd_goto (q := 59) rfl rfl ?_
      exact gd_ireturn rfl rfl rfl (Nat.le_refl 0) (Nat.le_refl 0) rfl
    · refine gd_iconst (v := 0) (q := 59) rfl rfl rfl ?_
      exact gd_ireturn rfl rfl rfl (Nat.le_refl 0) (Nat.le_refl 0) rfl
theorem ct_X9_wouldUnmask (f : Nat) (I : am_I) (J : am_J) (Q : am_Q) (hG : Gr Q) (a1 : Int32) (a2 : Int32) (hp : p_X9_wouldUnmask f I a1 a2) : Cm MX9_wouldUnmask 4 0 0 92 [.ref 0, .int a1, .int a2] I J Q (am_Fi I J Q (s_X9_wouldUnmask f I a1 a2)) := cm_of (by decide) rfl IX9_wouldUnmask_ok (Nat.le_of_ble_eq_true rfl) (gt_X9_wouldUnmask f I J Q hG a1 a2 hp)
def s_X9_answerTo_J52 (a1 : Int32) (a2 : Int32) (a3 : Int32) (a4 : Int32) (a5 : Int32) (f : Nat) (Q : am_Q) (I : am_I) : Int32 × am_I := (if 0 ≤ ((s_X1_letBy f (s_X9_pose f I Q a2 a4 (s_X0_kindOf I a1) a5)).1) then (if (((s_X1_letBy f (s_X9_pose f I Q a2 a4 (s_X0_kindOf I a1) a5)).2) 23 a2.toNatClampNeg) = (-1) then (2, ((s_X1_letBy f (s_X9_pose f I Q a2 a4 (s_X0_kindOf I a1) a5)).2)) else (if ((s_X1_maskedBy f ((s_X1_letBy f (s_X9_pose f I Q a2 a4 (s_X0_kindOf I a1) a5)).2)).1) = (-1) then (2, ((s_X1_maskedBy f ((s_X1_letBy f (s_X9_pose f I Q a2 a4 (s_X0_kindOf I a1) a5)).2)).2)) else (if (s_X9_wouldUnmask f ((s_X1_maskedBy f ((s_X1_letBy f (s_X9_pose f I Q a2 a4 (s_X0_kindOf I a1) a5)).2)).2) a1 a2) = 0 then (3, ((s_X1_maskedBy f ((s_X1_letBy f (s_X9_pose f I Q a2 a4 (s_X0_kindOf I a1) a5)).2)).2)) else (4, ((s_X1_maskedBy f ((s_X1_letBy f (s_X9_pose f I Q a2 a4 (s_X0_kindOf I a1) a5)).2)).2))))) else (1, ((s_X1_letBy f (s_X9_pose f I Q a2 a4 (s_X0_kindOf I a1) a5)).2)))
def p_X9_answerTo_J52 (a1 : Int32) (a2 : Int32) (a3 : Int32) (a4 : Int32) (a5 : Int32) (f : Nat) (Q : am_Q) (I : am_I) : Prop := ((p_X0_kindOf I a1) ∧ ((p_X9_pose f I Q a2 a4 (s_X0_kindOf I a1) a5) ∧ ((p_X1_letBy f (s_X9_pose f I Q a2 a4 (s_X0_kindOf I a1) a5)) ∧ (if 0 ≤ ((s_X1_letBy f (s_X9_pose f I Q a2 a4 (s_X0_kindOf I a1) a5)).1) then (vp_in a2 30 ∧ (if (((s_X1_letBy f (s_X9_pose f I Q a2 a4 (s_X0_kindOf I a1) a5)).2) 23 a2.toNatClampNeg) = (-1) then True else ((p_X1_maskedBy f ((s_X1_letBy f (s_X9_pose f I Q a2 a4 (s_X0_kindOf I a1) a5)).2)) ∧ (if ((s_X1_maskedBy f ((s_X1_letBy f (s_X9_pose f I Q a2 a4 (s_X0_kindOf I a1) a5)).2)).1) = (-1) then True else (p_X9_wouldUnmask f ((s_X1_maskedBy f ((s_X1_letBy f (s_X9_pose f I Q a2 a4 (s_X0_kindOf I a1) a5)).2)).2) a1 a2))))) else True))))
def s_X9_answerTo (f : Nat) (I : am_I) (Q : am_Q) (a1 : Int32) (a2 : Int32) (a3 : Int32) (a4 : Int32) (a5 : Int32) : Int32 × am_I := (if (s_X9_isBelow a3 (I 0 9)) = 0 then (if (I 25 a2.toNatClampNeg) = (-1) then (s_X9_answerTo_J52 a1 a2 a3 a4 a5 f Q I) else (if a4 < ((I 25 a2.toNatClampNeg) + 0) then (s_X9_answerTo_J52 a1 a2 a3 a4 a5 f Q I) else (0, I))) else (if (I 25 a2.toNatClampNeg) = (-1) then (s_X9_answerTo_J52 a1 a2 a3 a4 a5 f Q I) else (if a4 < ((I 25 a2.toNatClampNeg) + (I 37 a3.toNatClampNeg)) then (s_X9_answerTo_J52 a1 a2 a3 a4 a5 f Q I) else (0, I))))
def p_X9_answerTo (f : Nat) (I : am_I) (Q : am_Q) (a1 : Int32) (a2 : Int32) (a3 : Int32) (a4 : Int32) (a5 : Int32) : Prop := (if (s_X9_isBelow a3 (I 0 9)) = 0 then (vp_in a2 30 ∧ (if (I 25 a2.toNatClampNeg) = (-1) then (p_X9_answerTo_J52 a1 a2 a3 a4 a5 f Q I) else (if a4 < ((I 25 a2.toNatClampNeg) + 0) then (p_X9_answerTo_J52 a1 a2 a3 a4 a5 f Q I) else True))) else (vp_in a3 4 ∧ (vp_in a2 30 ∧ (if (I 25 a2.toNatClampNeg) = (-1) then (p_X9_answerTo_J52 a1 a2 a3 a4 a5 f Q I) else (if a4 < ((I 25 a2.toNatClampNeg) + (I 37 a3.toNatClampNeg)) then (p_X9_answerTo_J52 a1 a2 a3 a4 a5 f Q I) else True)))))
set_option maxRecDepth 100000 in
set_option maxHeartbeats 4000000 in
theorem gl_X9_answerTo_52 (a1 : Int32) (a2 : Int32) (a3 : Int32) (a4 : Int32) (a5 : Int32) (f : Nat) (J : am_J) (Q : am_Q) (hG : Gr Q) (I : am_I) : p_X9_answerTo_J52 a1 a2 a3 a4 a5 f Q I → Gd MX9_answerTo (am_o 6 0 0 (am_FiI J Q (s_X9_answerTo_J52 a1 a2 a3 a4 a5 f Q I))) 0 0 92 52 [some (.ref 0), some (.int a1), some (.int a2), none, some (.int a4), some (.int a5), none, none, none] [] I J Q := by
  intro hp
  unfold s_X9_answerTo_J52
  unfold p_X9_answerTo_J52 at hp
  refine gd_aload_n (q := 53) rfl rfl rfl ?_
  refine gd_iload_n (q := 54) rfl rfl rfl ?_
  refine gd_iload (q := 56) rfl rfl rfl ?_
  refine gd_aload_n (q := 57) rfl rfl rfl ?_
  refine gd_getR (q := 60) (r := 26) rfl rfl rfl (Nat.le_of_ble_eq_true rfl) rfl rfl (gr_0_6 hG) ?_
  refine gd_iload_n (q := 61) rfl rfl rfl ?_
  refine gd_cVi (q := 64) rfl rfl lk9_260 myX0_kindOf vxX0_kindOf (ct_X0_kindOf f _ _ _ hG _ hp.1) rfl (Nat.le_of_ble_eq_true rfl) rfl rfl (Nat.le_of_ble_eq_true rfl) rfl (Nat.le_of_ble_eq_true rfl) ⟨(Nat.le_of_ble_eq_true rfl), (Nat.le_of_ble_eq_true rfl)⟩ ?_
  replace hp := hp.2
  refine gd_iload (q := 66) rfl rfl rfl ?_
  refine gd_cVi (q := 69) rfl rfl lk9_150 myX9_pose vxX9_pose (ct_X9_pose f _ _ _ hG _ _ _ _ hp.1) rfl (Nat.le_of_ble_eq_true rfl) rfl rfl (Nat.le_of_ble_eq_true rfl) rfl (Nat.le_of_ble_eq_true rfl) ⟨(Nat.le_of_ble_eq_true rfl), (Nat.le_of_ble_eq_true rfl)⟩ ?_
  replace hp := hp.2
  refine gd_astore (q := 71) rfl rfl (Nat.le_of_ble_eq_true rfl) rfl ?_
  refine gd_aload (q := 73) rfl rfl rfl ?_
  refine gd_ifnull (q := 76) rfl rfl ?_
  refine gd_aload (q := 78) rfl rfl rfl ?_
  refine gd_aload_n (q := 79) rfl rfl rfl ?_
  refine gd_getR (q := 82) (r := 5) rfl rfl rfl (Nat.le_of_ble_eq_true rfl) rfl rfl (gr_0_2 hG) ?_
  refine gd_cVi (q := 85) rfl rfl lk9_154 myX1_letBy vxX1_letBy (ct_X1_letBy f _ _ _ hG hp.1) rfl (Nat.le_of_ble_eq_true rfl) rfl rfl (Nat.le_of_ble_eq_true rfl) rfl (Nat.le_of_ble_eq_true rfl) ⟨(Nat.le_of_ble_eq_true rfl), (Nat.le_of_ble_eq_true rfl)⟩ ?_
  replace hp := hp.2
  refine gx_if_ge (q := 88) (r := 90) rfl rfl rfl hp (fun c_85 hp => ?_) (fun c_85 hp => ?_)
  · refine gd_aload_n (q := 91) rfl rfl rfl ?_
    refine gd_getR (q := 94) (r := 15) rfl rfl rfl (Nat.le_of_ble_eq_true rfl) rfl rfl (gr_0_5 hG) ?_
    refine gd_getR (q := 97) (r := 23) rfl rfl rfl (Nat.le_of_ble_eq_true rfl) rfl rfl (gr_15_8 hG) ?_
    refine gd_iload_n (q := 98) rfl rfl rfl ?_
    refine gd_iald (q := 99) rfl rfl (Nat.le_of_ble_eq_true rfl) rfl hp.1 ?_
    replace hp := hp.2
    refine gd_iconst (v := (-1)) (q := 100) rfl rfl rfl ?_
    refine gx_icmp_eq (q := 103) (r := 116) rfl rfl rfl hp (fun c_100 hp => ?_) (fun c_100 hp => ?_)
    · refine gd_iconst (v := 2) (q := 117) rfl rfl rfl ?_
      exact gd_ireturn rfl rfl rfl (Nat.le_refl 0) (Nat.le_refl 0) rfl
    · refine gd_aload (q := 105) rfl rfl rfl ?_
      refine gd_aload_n (q := 106) rfl rfl rfl ?_
      refine gd_getR (q := 109) (r := 5) rfl rfl rfl (Nat.le_of_ble_eq_true rfl) rfl rfl (gr_0_2 hG) ?_
      refine gd_cVi (q := 112) rfl rfl lk9_161 myX1_maskedBy vxX1_maskedBy (ct_X1_maskedBy f _ _ _ hG hp.1) rfl (Nat.le_of_ble_eq_true rfl) rfl rfl (Nat.le_of_ble_eq_true rfl) rfl (Nat.le_of_ble_eq_true rfl) ⟨(Nat.le_of_ble_eq_true rfl), (Nat.le_of_ble_eq_true rfl)⟩ ?_
      replace hp := hp.2
      refine gd_iconst (v := (-1)) (q := 113) rfl rfl rfl ?_
      refine gx_icmp_ne (q := 116) (r := 118) rfl rfl rfl hp (fun c_113 hp => ?_) (fun c_113 hp => ?_)
      · refine gd_iconst (v := 2) (q := 117) rfl rfl rfl ?_
        exact gd_ireturn rfl rfl rfl (Nat.le_refl 0) (Nat.le_refl 0) rfl
      · refine gd_aload_n (q := 119) rfl rfl rfl ?_
        refine gd_iload_n (q := 120) rfl rfl rfl ?_
        refine gd_iload_n (q := 121) rfl rfl rfl ?_
        refine gd_cVi (q := 124) rfl rfl lk9_263 myX9_wouldUnmask vxX9_wouldUnmask (ct_X9_wouldUnmask f _ _ _ hG _ _ hp) rfl (Nat.le_of_ble_eq_true rfl) rfl rfl (Nat.le_of_ble_eq_true rfl) rfl (Nat.le_of_ble_eq_true rfl) ⟨(Nat.le_of_ble_eq_true rfl), (Nat.le_of_ble_eq_true rfl)⟩ ?_
        refine gy_if_eq (q := 127) (r := 131) rfl rfl rfl (fun c_124 => ?_) (fun c_124 => ?_)
        · refine gd_iconst (v := 3) (q := 132) rfl rfl rfl ?_
          exact gd_ireturn rfl rfl rfl (Nat.le_refl 0) (Nat.le_refl 0) rfl
        · refine gd_iconst (v := 4) (q := 128) rfl rfl rfl ?_
          refine gd_goto (q := 132) rfl rfl ?_
          exact gd_ireturn rfl rfl rfl (Nat.le_refl 0) (Nat.le_refl 0) rfl
  · refine gd_iconst (v := 1) (q := 89) rfl rfl rfl ?_
    exact gd_ireturn rfl rfl rfl (Nat.le_refl 0) (Nat.le_refl 0) rfl
set_option maxRecDepth 100000 in
set_option maxHeartbeats 4000000 in
theorem gt_X9_answerTo (f : Nat) (I : am_I) (J : am_J) (Q : am_Q) (hG : Gr Q) (a1 : Int32) (a2 : Int32) (a3 : Int32) (a4 : Int32) (a5 : Int32) (hp : p_X9_answerTo f I Q a1 a2 a3 a4 a5) : Gd MX9_answerTo (am_o 6 0 0 (am_FiI J Q (s_X9_answerTo f I Q a1 a2 a3 a4 a5))) 0 0 92 0 [some (.ref 0), some (.int a1), some (.int a2), some (.int a3), some (.int a4), some (.int a5), none, none, none] [] I J Q := by
  unfold s_X9_answerTo
  unfold p_X9_answerTo at hp
  refine gd_iload_n (q := 1) rfl rfl rfl ?_
  refine gd_aload_n (q := 2) rfl rfl rfl ?_
  refine gd_getI (q := 5) rfl rfl rfl (Nat.le_of_ble_eq_true rfl) rfl rfl ?_
  refine gd_cSi (q := 8) rfl rfl lk9_110 myX9_isBelow sxX9_isBelow (ct_X9_isBelow f _ _ _ hG _ _) rfl rfl (Nat.le_of_ble_eq_true rfl) ⟨(Nat.le_of_ble_eq_true rfl), (Nat.le_of_ble_eq_true rfl)⟩ ?_
  refine gx_if_eq (q := 11) (r := 20) rfl rfl rfl hp (fun c_8 hp => ?_) (fun c_8 hp => ?_)
  · refine gd_iconst (v := 0) (q := 21) rfl rfl rfl ?_
    refine gd_istore (q := 23) rfl rfl (Nat.le_of_ble_eq_true rfl) rfl ?_
    refine gd_aload_n (q := 24) rfl rfl rfl ?_
    refine gd_getR (q := 27) (r := 15) rfl rfl rfl (Nat.le_of_ble_eq_true rfl) rfl rfl (gr_0_5 hG) ?_
    refine gd_getR (q := 30) (r := 25) rfl rfl rfl (Nat.le_of_ble_eq_true rfl) rfl rfl (gr_15_10 hG) ?_
    refine gd_iload_n (q := 31) rfl rfl rfl ?_
    refine gd_iald (q := 32) rfl rfl (Nat.le_of_ble_eq_true rfl) rfl hp.1 ?_
    replace hp := hp.2
    refine gd_istore (q := 34) rfl rfl (Nat.le_of_ble_eq_true rfl) rfl ?_
    refine gd_iload (q := 36) rfl rfl rfl ?_
    refine gd_iconst (v := (-1)) (q := 37) rfl rfl rfl ?_
    refine gx_icmp_eq (q := 40) (r := 52) rfl rfl rfl hp (fun c_37 hp => ?_) (fun c_37 hp => ?_)
    · refine gd_drop 3 ?_
      refine gd_drop 6 ?_
      refine gd_drop 7 ?_
      exact gl_X9_answerTo_52 a1 a2 a3 a4 a5 f J Q hG _ hp
    · refine gd_iload (q := 42) rfl rfl rfl ?_
      refine gd_iload (q := 44) rfl rfl rfl ?_
      refine gd_iadd (q := 45) rfl rfl ?_
      refine gd_iload (q := 47) rfl rfl rfl ?_
      refine gx_icmp_gt (q := 50) (r := 52) rfl rfl rfl hp (fun c_47 hp => ?_) (fun c_47 hp => ?_)
      · refine gd_drop 3 ?_
        refine gd_drop 6 ?_
        refine gd_drop 7 ?_
        exact gl_X9_answerTo_52 a1 a2 a3 a4 a5 f J Q hG _ hp
      · refine gd_iconst (v := 0) (q := 51) rfl rfl rfl ?_
        exact gd_ireturn rfl rfl rfl (Nat.le_refl 0) (Nat.le_refl 0) rfl
  · refine gd_aload_n (q := 12) rfl rfl rfl ?_
    refine gd_getR (q := 15) (r := 37) rfl rfl rfl (Nat.le_of_ble_eq_true rfl) rfl rfl (gr_0_8 hG) ?_
    refine gd_iload_n (q := 16) rfl rfl rfl ?_
    refine gd_iald (q := 17) rfl rfl (Nat.le_of_ble_eq_true rfl) rfl hp.1 ?_
    replace hp := hp.2
    refine gd_goto (q := 21) rfl rfl ?_
    refine gd_istore (q := 23) rfl rfl (Nat.le_of_ble_eq_true rfl) rfl ?_
    refine gd_aload_n (q := 24) rfl rfl rfl ?_
    refine gd_getR (q := 27) (r := 15) rfl rfl rfl (Nat.le_of_ble_eq_true rfl) rfl rfl (gr_0_5 hG) ?_
    refine gd_getR (q := 30) (r := 25) rfl rfl rfl (Nat.le_of_ble_eq_true rfl) rfl rfl (gr_15_10 hG) ?_
    refine gd_iload_n (q := 31) rfl rfl rfl ?_
    refine gd_iald (q := 32) rfl rfl (Nat.le_of_ble_eq_true rfl) rfl hp.1 ?_
    replace hp := hp.2
    refine gd_istore (q := 34) rfl rfl (Nat.le_of_ble_eq_true rfl) rfl ?_
    refine gd_iload (q := 36) rfl rfl rfl ?_
    refine gd_iconst (v := (-1)) (q := 37) rfl rfl rfl ?_
    refine gx_icmp_eq (q := 40) (r := 52) rfl rfl rfl hp (fun c_37 hp => ?_) (fun c_37 hp => ?_)
    · refine gd_drop 3 ?_
      refine gd_drop 6 ?_
      refine gd_drop 7 ?_
      exact gl_X9_answerTo_52 a1 a2 a3 a4 a5 f J Q hG _ hp
    · refine gd_iload (q := 42) rfl rfl rfl ?_
      refine gd_iload (q := 44) rfl rfl rfl ?_
      refine gd_iadd (q := 45) rfl rfl ?_
      refine gd_iload (q := 47) rfl rfl rfl ?_
      refine gx_icmp_gt (q := 50) (r := 52) rfl rfl rfl hp (fun c_47 hp => ?_) (fun c_47 hp => ?_)
      · refine gd_drop 3 ?_
        refine gd_drop 6 ?_
        refine gd_drop 7 ?_
        exact gl_X9_answerTo_52 a1 a2 a3 a4 a5 f J Q hG _ hp
      · refine gd_iconst (v := 0) (q := 51) rfl rfl rfl ?_
        exact gd_ireturn rfl rfl rfl (Nat.le_refl 0) (Nat.le_refl 0) rfl
theorem ct_X9_answerTo (f : Nat) (I : am_I) (J : am_J) (Q : am_Q) (hG : Gr Q) (a1 : Int32) (a2 : Int32) (a3 : Int32) (a4 : Int32) (a5 : Int32) (hp : p_X9_answerTo f I Q a1 a2 a3 a4 a5) : Cm MX9_answerTo 6 0 0 92 [.ref 0, .int a1, .int a2, .int a3, .int a4, .int a5] I J Q (am_FiI J Q (s_X9_answerTo f I Q a1 a2 a3 a4 a5)) := cm_of (by decide) rfl IX9_answerTo_ok (Nat.le_of_ble_eq_true rfl) (gt_X9_answerTo f I J Q hG a1 a2 a3 a4 a5 hp)
def s_X9_would (f : Nat) (I : am_I) (Q : am_Q) (a1 : Int32) (a2 : Int32) (a3 : Int32) (a4 : Int32) (a5 : Int32) : Int32 × am_I := (if (s_X9_isAsking I a1 a2 a3 a4 a5) = 0 then ((-1), I) else (((s_X9_answerTo f I Q a1 a2 a3 a4 a5).1), ((s_X9_answerTo f I Q a1 a2 a3 a4 a5).2)))
def p_X9_would (f : Nat) (I : am_I) (Q : am_Q) (a1 : Int32) (a2 : Int32) (a3 : Int32) (a4 : Int32) (a5 : Int32) : Prop := (if (s_X9_isAsking I a1 a2 a3 a4 a5) = 0 then True else (p_X9_answerTo f I Q a1 a2 a3 a4 a5))
set_option maxRecDepth 100000 in
set_option maxHeartbeats 4000000 in
theorem gt_X9_would (f : Nat) (I : am_I) (J : am_J) (Q : am_Q) (hG : Gr Q) (a1 : Int32) (a2 : Int32) (a3 : Int32) (a4 : Int32) (a5 : Int32) (hp : p_X9_would f I Q a1 a2 a3 a4 a5) : Gd MX9_would (am_o 7 0 0 (am_FiI J Q (s_X9_would f I Q a1 a2 a3 a4 a5))) 0 0 92 0 [some (.ref 0), some (.int a1), some (.int a2), some (.int a3), some (.int a4), some (.int a5)] [] I J Q := by
  unfold s_X9_would
  unfold p_X9_would at hp
  refine gd_aload_n (q := 1) rfl rfl rfl ?_
  refine gd_iload_n (q := 2) rfl rfl rfl ?_
  refine gd_iload_n (q := 3) rfl rfl rfl ?_
  refine gd_iload_n (q := 4) rfl rfl rfl ?_
  refine gd_iload (q := 6) rfl rfl rfl ?_
  refine gd_iload (q := 8) rfl rfl rfl ?_
  refine gd_cVi (q := 11) rfl rfl lk9_164 myX9_isAsking vxX9_isAsking (ct_X9_isAsking f _ _ _ hG _ _ _ _ _) rfl (Nat.le_of_ble_eq_true rfl) rfl rfl (Nat.le_of_ble_eq_true rfl) rfl (Nat.le_of_ble_eq_true rfl) ⟨(Nat.le_of_ble_eq_true rfl), (Nat.le_of_ble_eq_true rfl)⟩ ?_
  refine gx_if_eq (q := 14) (r := 28) rfl rfl rfl hp (fun c_11 hp => ?_) (fun c_11 hp => ?_)
  · refine gd_iconst (v := (-1)) (q := 29) rfl rfl rfl ?_
    exact gd_ireturn rfl rfl rfl (Nat.le_refl 0) (Nat.le_refl 0) rfl
  · refine gd_aload_n (q := 15) rfl rfl rfl ?_
    refine gd_iload_n (q := 16) rfl rfl rfl ?_
    refine gd_iload_n (q := 17) rfl rfl rfl ?_
    refine gd_iload_n (q := 18) rfl rfl rfl ?_
    refine gd_iload (q := 20) rfl rfl rfl ?_
    refine gd_iload (q := 22) rfl rfl rfl ?_
    refine gd_cVi (q := 25) rfl rfl lk9_168 myX9_answerTo vxX9_answerTo (ct_X9_answerTo f _ _ _ hG _ _ _ _ _ hp) rfl (Nat.le_of_ble_eq_true rfl) rfl rfl (Nat.le_of_ble_eq_true rfl) rfl (Nat.le_of_ble_eq_true rfl) ⟨(Nat.le_of_ble_eq_true rfl), (Nat.le_of_ble_eq_true rfl)⟩ ?_
    refine gd_goto (q := 29) rfl rfl ?_
    exact gd_ireturn rfl rfl rfl (Nat.le_refl 0) (Nat.le_refl 0) rfl
theorem ct_X9_would (f : Nat) (I : am_I) (J : am_J) (Q : am_Q) (hG : Gr Q) (a1 : Int32) (a2 : Int32) (a3 : Int32) (a4 : Int32) (a5 : Int32) (hp : p_X9_would f I Q a1 a2 a3 a4 a5) : Cm MX9_would 7 0 0 92 [.ref 0, .int a1, .int a2, .int a3, .int a4, .int a5] I J Q (am_FiI J Q (s_X9_would f I Q a1 a2 a3 a4 a5)) := cm_of (by decide) rfl IX9_would_ok (Nat.le_of_ble_eq_true rfl) (gt_X9_would f I J Q hG a1 a2 a3 a4 a5 hp)
def s_X0_hear_J22 (a1 : Int32) (a2 : Int32) (a3 : Int32)  (t0 : Int32) (I : am_I) : am_I := (if t0 = 0 then I else (if (s_X0_wayOf I a1 a2) = 2 then I else (am_w I 28 ((a1 * 30) + a2).toNatClampNeg (vp_nar .byte (a3.toInt8.toInt32)))))
def p_X0_hear_J22 (a1 : Int32) (a2 : Int32) (a3 : Int32)  (t0 : Int32) (I : am_I) : Prop := (if t0 = 0 then True else ((p_X0_wayOf I a1 a2) ∧ (if (s_X0_wayOf I a1 a2) = 2 then True else vp_in ((a1 * 30) + a2) 180)))
def s_X0_hear (I : am_I) (a1 : Int32) (a2 : Int32) (a3 : Int32) : am_I := (if (s_X0_has I a1) = 0 then (s_X0_hear_J22 a1 a2 a3 0 I) else (if (s_X9_isBelow a2 30) = 0 then (s_X0_hear_J22 a1 a2 a3 0 I) else (s_X0_hear_J22 a1 a2 a3 1 I)))
def p_X0_hear (I : am_I) (a1 : Int32) (a2 : Int32) (a3 : Int32) : Prop := (if (s_X0_has I a1) = 0 then (p_X0_hear_J22 a1 a2 a3 0 I) else (if (s_X9_isBelow a2 30) = 0 then (p_X0_hear_J22 a1 a2 a3 0 I) else (p_X0_hear_J22 a1 a2 a3 1 I)))
set_option maxRecDepth 100000 in
set_option maxHeartbeats 4000000 in
theorem gl_X0_hear_22 (a1 : Int32) (a2 : Int32) (a3 : Int32) (f : Nat) (J : am_J) (Q : am_Q) (hG : Gr Q) (t0 : Int32) (I : am_I) : p_X0_hear_J22 a1 a2 a3 t0 I → Gd MX0_hear (am_o 3 0 0 (am_FvI J Q (s_X0_hear_J22 a1 a2 a3 t0 I))) 0 0 92 22 [some (.ref 26), some (.int a1), some (.int a2), some (.int a3), none] [.int t0] I J Q := by
  intro hp
  unfold s_X0_hear_J22
  unfold p_X0_hear_J22 at hp
  refine gd_istore (q := 24) rfl rfl (Nat.le_of_ble_eq_true rfl) rfl ?_
  refine gd_iload (q := 26) rfl rfl rfl ?_
  refine gx_if_eq (q := 29) (r := 52) rfl rfl rfl hp (fun c_26 hp => ?_) (fun c_26 hp => ?_)
  · exact gd_return rfl rfl (Nat.le_refl 0) (Nat.le_refl 0) rfl
  · refine gd_aload_n (q := 30) rfl rfl rfl ?_
    refine gd_iload_n (q := 31) rfl rfl rfl ?_
    refine gd_iload_n (q := 32) rfl rfl rfl ?_
    refine gd_cVi (q := 35) rfl rfl lk0_31 myX0_wayOf vxX0_wayOf (ct_X0_wayOf f _ _ _ hG _ _ hp.1) rfl (Nat.le_of_ble_eq_true rfl) rfl rfl (Nat.le_of_ble_eq_true rfl) rfl (Nat.le_of_ble_eq_true rfl) ⟨(Nat.le_of_ble_eq_true rfl), (Nat.le_of_ble_eq_true rfl)⟩ ?_
    replace hp := hp.2
    refine gd_iconst (v := 2) (q := 36) rfl rfl rfl ?_
    refine gx_icmp_eq (q := 39) (r := 52) rfl rfl rfl hp (fun c_36 hp => ?_) (fun c_36 hp => ?_)
    · exact gd_return rfl rfl (Nat.le_refl 0) (Nat.le_refl 0) rfl
    · refine gd_aload_n (q := 40) rfl rfl rfl ?_
      refine gd_getR (q := 43) (r := 28) rfl rfl rfl (Nat.le_of_ble_eq_true rfl) rfl rfl (gr_26_1 hG) ?_
      refine gd_iload_n (q := 44) rfl rfl rfl ?_
      refine gd_bipush (v := 30) (q := 46) rfl rfl rfl ?_
      refine gd_imul (q := 47) rfl rfl ?_
      refine gd_iload_n (q := 48) rfl rfl rfl ?_
      refine gd_iadd (q := 49) rfl rfl ?_
      refine gd_iload_n (q := 50) rfl rfl rfl ?_
      refine gd_i2b (q := 51) rfl rfl ?_
      refine gd_bast (q := 52) rfl rfl (Nat.le_of_ble_eq_true rfl) rfl hp ?_
      exact gd_return rfl rfl (Nat.le_refl 0) (Nat.le_refl 0) rfl
set_option maxRecDepth 100000 in
set_option maxHeartbeats 4000000 in
theorem gt_X0_hear (f : Nat) (I : am_I) (J : am_J) (Q : am_Q) (hG : Gr Q) (a1 : Int32) (a2 : Int32) (a3 : Int32) (hp : p_X0_hear I a1 a2 a3) : Gd MX0_hear (am_o 3 0 0 (am_FvI J Q (s_X0_hear I a1 a2 a3))) 0 0 92 0 [some (.ref 26), some (.int a1), some (.int a2), some (.int a3), none] [] I J Q := by
  unfold s_X0_hear
  unfold p_X0_hear at hp
  refine gd_aload_n (q := 1) rfl rfl rfl ?_
  refine gd_iload_n (q := 2) rfl rfl rfl ?_
  refine gd_cVi (q := 5) rfl rfl lk0_27 myX0_has vxX0_has (ct_X0_has f _ _ _ hG _) rfl (Nat.le_of_ble_eq_true rfl) rfl rfl (Nat.le_of_ble_eq_true rfl) rfl (Nat.le_of_ble_eq_true rfl) ⟨(Nat.le_of_ble_eq_true rfl), (Nat.le_of_ble_eq_true rfl)⟩ ?_
  refine gx_if_eq (q := 8) (r := 21) rfl rfl rfl hp (fun c_5 hp => ?_) (fun c_5 hp => ?_)
  · refine gd_iconst (v := 0) (q := 22) rfl rfl rfl ?_
    exact gl_X0_hear_22 a1 a2 a3 f J Q hG 0 _ hp
  · refine gd_iload_n (q := 9) rfl rfl rfl ?_
    refine gd_bipush (v := 30) (q := 11) rfl rfl rfl ?_
    refine gd_cSi (q := 14) rfl rfl lk0_23 myX9_isBelow sxX9_isBelow (ct_X9_isBelow f _ _ _ hG _ _) rfl rfl (Nat.le_of_ble_eq_true rfl) ⟨(Nat.le_of_ble_eq_true rfl), (Nat.le_of_ble_eq_true rfl)⟩ ?_
    refine gx_if_eq (q := 17) (r := 21) rfl rfl rfl hp (fun c_14 hp => ?_) (fun c_14 hp => ?_)
    · refine gd_iconst (v := 0) (q := 22) rfl rfl rfl ?_
      exact gl_X0_hear_22 a1 a2 a3 f J Q hG 0 _ hp
    · refine gd_iconst (v := 1) (q := 18) rfl rfl rfl ?_
      refine gd_goto (q := 22) rfl rfl ?_
      exact gl_X0_hear_22 a1 a2 a3 f J Q hG _ _ hp
theorem ct_X0_hear (f : Nat) (I : am_I) (J : am_J) (Q : am_Q) (hG : Gr Q) (a1 : Int32) (a2 : Int32) (a3 : Int32) (hp : p_X0_hear I a1 a2 a3) : Cm MX0_hear 3 0 0 92 [.ref 26, .int a1, .int a2, .int a3] I J Q (am_FvI J Q (s_X0_hear I a1 a2 a3)) := cm_of (by decide) rfl IX0_hear_ok (Nat.le_of_ble_eq_true rfl) (gt_X0_hear f I J Q hG a1 a2 a3 hp)
def s_X9_ask (f : Nat) (I : am_I) (Q : am_Q) (a1 : Int32) (a2 : Int32) (a3 : Int32) (a4 : Int32) (a5 : Int32) : Int32 × am_I := (if (s_X9_isAsking I a1 a2 a3 a4 a5) = 0 then ((-1), I) else (if ((s_X9_answerTo f I Q a1 a2 a3 a4 a5).1) = 2 then (((s_X9_answerTo f I Q a1 a2 a3 a4 a5).1), (s_X0_hear ((s_X9_answerTo f I Q a1 a2 a3 a4 a5).2) a1 a2 ((s_X9_answerTo f I Q a1 a2 a3 a4 a5).1))) else (if ((s_X9_answerTo f I Q a1 a2 a3 a4 a5).1) = 3 then (((s_X9_answerTo f I Q a1 a2 a3 a4 a5).1), (s_X0_hear ((s_X9_answerTo f I Q a1 a2 a3 a4 a5).2) a1 a2 ((s_X9_answerTo f I Q a1 a2 a3 a4 a5).1))) else (((s_X9_answerTo f I Q a1 a2 a3 a4 a5).1), ((s_X9_answerTo f I Q a1 a2 a3 a4 a5).2)))))
def p_X9_ask (f : Nat) (I : am_I) (Q : am_Q) (a1 : Int32) (a2 : Int32) (a3 : Int32) (a4 : Int32) (a5 : Int32) : Prop := (if (s_X9_isAsking I a1 a2 a3 a4 a5) = 0 then True else ((p_X9_answerTo f I Q a1 a2 a3 a4 a5) ∧ (if ((s_X9_answerTo f I Q a1 a2 a3 a4 a5).1) = 2 then (p_X0_hear ((s_X9_answerTo f I Q a1 a2 a3 a4 a5).2) a1 a2 ((s_X9_answerTo f I Q a1 a2 a3 a4 a5).1)) else (if ((s_X9_answerTo f I Q a1 a2 a3 a4 a5).1) = 3 then (p_X0_hear ((s_X9_answerTo f I Q a1 a2 a3 a4 a5).2) a1 a2 ((s_X9_answerTo f I Q a1 a2 a3 a4 a5).1)) else True))))
set_option maxRecDepth 100000 in
set_option maxHeartbeats 4000000 in
theorem gt_X9_ask (f : Nat) (I : am_I) (J : am_J) (Q : am_Q) (hG : Gr Q) (a1 : Int32) (a2 : Int32) (a3 : Int32) (a4 : Int32) (a5 : Int32) (hp : p_X9_ask f I Q a1 a2 a3 a4 a5) : Gd MX9_ask (am_o 7 0 0 (am_FiI J Q (s_X9_ask f I Q a1 a2 a3 a4 a5))) 0 0 92 0 [some (.ref 0), some (.int a1), some (.int a2), some (.int a3), some (.int a4), some (.int a5), none] [] I J Q := by
  unfold s_X9_ask
  unfold p_X9_ask at hp
  refine gd_aload_n (q := 1) rfl rfl rfl ?_
  refine gd_iload_n (q := 2) rfl rfl rfl ?_
  refine gd_iload_n (q := 3) rfl rfl rfl ?_
  refine gd_iload_n (q := 4) rfl rfl rfl ?_
  refine gd_iload (q := 6) rfl rfl rfl ?_
  refine gd_iload (q := 8) rfl rfl rfl ?_
  refine gd_cVi (q := 11) rfl rfl lk9_164 myX9_isAsking vxX9_isAsking (ct_X9_isAsking f _ _ _ hG _ _ _ _ _) rfl (Nat.le_of_ble_eq_true rfl) rfl rfl (Nat.le_of_ble_eq_true rfl) rfl (Nat.le_of_ble_eq_true rfl) ⟨(Nat.le_of_ble_eq_true rfl), (Nat.le_of_ble_eq_true rfl)⟩ ?_
  refine gx_if_ne (q := 14) (r := 16) rfl rfl rfl hp (fun c_11 hp => ?_) (fun c_11 hp => ?_)
  · refine gd_iconst (v := (-1)) (q := 15) rfl rfl rfl ?_
    exact gd_ireturn rfl rfl rfl (Nat.le_refl 0) (Nat.le_refl 0) rfl
  · refine gd_aload_n (q := 17) rfl rfl rfl ?_
    refine gd_iload_n (q := 18) rfl rfl rfl ?_
    refine gd_iload_n (q := 19) rfl rfl rfl ?_
    refine gd_iload_n (q := 20) rfl rfl rfl ?_
    refine gd_iload (q := 22) rfl rfl rfl ?_
    refine gd_iload (q := 24) rfl rfl rfl ?_
    refine gd_cVi (q := 27) rfl rfl lk9_168 myX9_answerTo vxX9_answerTo (ct_X9_answerTo f _ _ _ hG _ _ _ _ _ hp.1) rfl (Nat.le_of_ble_eq_true rfl) rfl rfl (Nat.le_of_ble_eq_true rfl) rfl (Nat.le_of_ble_eq_true rfl) ⟨(Nat.le_of_ble_eq_true rfl), (Nat.le_of_ble_eq_true rfl)⟩ ?_
    replace hp := hp.2
    refine gd_istore (q := 29) rfl rfl (Nat.le_of_ble_eq_true rfl) rfl ?_
    refine gd_iload (q := 31) rfl rfl rfl ?_
    refine gd_iconst (v := 2) (q := 32) rfl rfl rfl ?_
    refine gx_icmp_eq (q := 35) (r := 41) rfl rfl rfl hp (fun c_32 hp => ?_) (fun c_32 hp => ?_)
    · refine gd_aload_n (q := 42) rfl rfl rfl ?_
      refine gd_getR (q := 45) (r := 26) rfl rfl rfl (Nat.le_of_ble_eq_true rfl) rfl rfl (gr_0_6 hG) ?_
      refine gd_iload_n (q := 46) rfl rfl rfl ?_
      refine gd_iload_n (q := 47) rfl rfl rfl ?_
      refine gd_iload (q := 49) rfl rfl rfl ?_
      refine gd_cVv (q := 52) rfl rfl lk9_171 myX0_hear vxX0_hear (ct_X0_hear f _ _ _ hG _ _ _ hp) rfl (Nat.le_of_ble_eq_true rfl) rfl rfl (Nat.le_of_ble_eq_true rfl) rfl (Nat.le_of_ble_eq_true rfl) ⟨(Nat.le_of_ble_eq_true rfl), (Nat.le_of_ble_eq_true rfl)⟩ ?_
      refine gd_iload (q := 54) rfl rfl rfl ?_
      exact gd_ireturn rfl rfl rfl (Nat.le_refl 0) (Nat.le_refl 0) rfl
    · refine gd_iload (q := 37) rfl rfl rfl ?_
      refine gd_iconst (v := 3) (q := 38) rfl rfl rfl ?_
      refine gx_icmp_ne (q := 41) (r := 52) rfl rfl rfl hp (fun c_38 hp => ?_) (fun c_38 hp => ?_)
      · refine gd_aload_n (q := 42) rfl rfl rfl ?_
        refine gd_getR (q := 45) (r := 26) rfl rfl rfl (Nat.le_of_ble_eq_true rfl) rfl rfl (gr_0_6 hG) ?_
        refine gd_iload_n (q := 46) rfl rfl rfl ?_
        refine gd_iload_n (q := 47) rfl rfl rfl ?_
        refine gd_iload (q := 49) rfl rfl rfl ?_
        refine gd_cVv (q := 52) rfl rfl lk9_171 myX0_hear vxX0_hear (ct_X0_hear f _ _ _ hG _ _ _ hp) rfl (Nat.le_of_ble_eq_true rfl) rfl rfl (Nat.le_of_ble_eq_true rfl) rfl (Nat.le_of_ble_eq_true rfl) ⟨(Nat.le_of_ble_eq_true rfl), (Nat.le_of_ble_eq_true rfl)⟩ ?_
        refine gd_iload (q := 54) rfl rfl rfl ?_
        exact gd_ireturn rfl rfl rfl (Nat.le_refl 0) (Nat.le_refl 0) rfl
      · refine gd_iload (q := 54) rfl rfl rfl ?_
        exact gd_ireturn rfl rfl rfl (Nat.le_refl 0) (Nat.le_refl 0) rfl
theorem ct_X9_ask (f : Nat) (I : am_I) (J : am_J) (Q : am_Q) (hG : Gr Q) (a1 : Int32) (a2 : Int32) (a3 : Int32) (a4 : Int32) (a5 : Int32) (hp : p_X9_ask f I Q a1 a2 a3 a4 a5) : Cm MX9_ask 7 0 0 92 [.ref 0, .int a1, .int a2, .int a3, .int a4, .int a5] I J Q (am_FiI J Q (s_X9_ask f I Q a1 a2 a3 a4 a5)) := cm_of (by decide) rfl IX9_ask_ok (Nat.le_of_ble_eq_true rfl) (gt_X9_ask f I J Q hG a1 a2 a3 a4 a5 hp)
def s_X9_heard (I : am_I) (a1 : Int32) (a2 : Int32) : Int32 := (if (s_X0_has I a1) = 0 then (-1) else (if (s_X4_has I a2) = 0 then (-1) else (s_X0_wayOf I a1 a2)))
def p_X9_heard (I : am_I) (a1 : Int32) (a2 : Int32) : Prop := (if (s_X0_has I a1) = 0 then True else (if (s_X4_has I a2) = 0 then True else (p_X0_wayOf I a1 a2)))
set_option maxRecDepth 100000 in
set_option maxHeartbeats 4000000 in
theorem gt_X9_heard (f : Nat) (I : am_I) (J : am_J) (Q : am_Q) (hG : Gr Q) (a1 : Int32) (a2 : Int32) (hp : p_X9_heard I a1 a2) : Gd MX9_heard (am_o 3 0 0 (am_Fi I J Q (s_X9_heard I a1 a2))) 0 0 92 0 [some (.ref 0), some (.int a1), some (.int a2)] [] I J Q := by
  unfold s_X9_heard
  unfold p_X9_heard at hp
  refine gd_aload_n (q := 1) rfl rfl rfl ?_
  refine gd_getR (q := 4) (r := 26) rfl rfl rfl (Nat.le_of_ble_eq_true rfl) rfl rfl (gr_0_6 hG) ?_
  refine gd_iload_n (q := 5) rfl rfl rfl ?_
  refine gd_cVi (q := 8) rfl rfl lk9_175 myX0_has vxX0_has (ct_X0_has f _ _ _ hG _) rfl (Nat.le_of_ble_eq_true rfl) rfl rfl (Nat.le_of_ble_eq_true rfl) rfl (Nat.le_of_ble_eq_true rfl) ⟨(Nat.le_of_ble_eq_true rfl), (Nat.le_of_ble_eq_true rfl)⟩ ?_
  refine gx_if_eq (q := 11) (r := 34) rfl rfl rfl hp (fun c_8 hp => ?_) (fun c_8 hp => ?_)
  · refine gd_iconst (v := (-1)) (q := 35) rfl rfl rfl ?_
    exact gd_ireturn rfl rfl rfl (Nat.le_refl 0) (Nat.le_refl 0) rfl
  · refine gd_aload_n (q := 12) rfl rfl rfl ?_
    refine gd_getR (q := 15) (r := 15) rfl rfl rfl (Nat.le_of_ble_eq_true rfl) rfl rfl (gr_0_5 hG) ?_
    refine gd_iload_n (q := 16) rfl rfl rfl ?_
    refine gd_cVi (q := 19) rfl rfl lk9_176 myX4_has vxX4_has (ct_X4_has f _ _ _ hG _) rfl (Nat.le_of_ble_eq_true rfl) rfl rfl (Nat.le_of_ble_eq_true rfl) rfl (Nat.le_of_ble_eq_true rfl) ⟨(Nat.le_of_ble_eq_true rfl), (Nat.le_of_ble_eq_true rfl)⟩ ?_
    refine gx_if_eq (q := 22) (r := 34) rfl rfl rfl hp (fun c_19 hp => ?_) (fun c_19 hp => ?_)
    · refine gd_iconst (v := (-1)) (q := 35) rfl rfl rfl ?_
      exact gd_ireturn rfl rfl rfl (Nat.le_refl 0) (Nat.le_refl 0) rfl
    · refine gd_aload_n (q := 23) rfl rfl rfl ?_
      refine gd_getR (q := 26) (r := 26) rfl rfl rfl (Nat.le_of_ble_eq_true rfl) rfl rfl (gr_0_6 hG) ?_
      refine gd_iload_n (q := 27) rfl rfl rfl ?_
      refine gd_iload_n (q := 28) rfl rfl rfl ?_
      refine gd_cVi (q := 31) rfl rfl lk9_177 myX0_wayOf vxX0_wayOf (ct_X0_wayOf f _ _ _ hG _ _ hp) rfl (Nat.le_of_ble_eq_true rfl) rfl rfl (Nat.le_of_ble_eq_true rfl) rfl (Nat.le_of_ble_eq_true rfl) ⟨(Nat.le_of_ble_eq_true rfl), (Nat.le_of_ble_eq_true rfl)⟩ ?_
      refine gd_goto (q := 35) rfl rfl ?_
      exact gd_ireturn rfl rfl rfl (Nat.le_refl 0) (Nat.le_refl 0) rfl
theorem ct_X9_heard (f : Nat) (I : am_I) (J : am_J) (Q : am_Q) (hG : Gr Q) (a1 : Int32) (a2 : Int32) (hp : p_X9_heard I a1 a2) : Cm MX9_heard 3 0 0 92 [.ref 0, .int a1, .int a2] I J Q (am_Fi I J Q (s_X9_heard I a1 a2)) := cm_of (by decide) rfl IX9_heard_ok (Nat.le_of_ble_eq_true rfl) (gt_X9_heard f I J Q hG a1 a2 hp)
def s_X9_could (f : Nat) (I : am_I) (a1 : Int32) (a2 : Int32) : Int32 := (if (s_X0_has I a1) = 0 then (-1) else (if (s_X8_has I a2) = 0 then (-1) else (if (s_X9_knowsByName f I a1 a2) = 0 then (s_X8_alikeTo f I a2 (s_X9_knownTraits f I a1 a2)) else 1)))
def p_X9_could (f : Nat) (I : am_I) (a1 : Int32) (a2 : Int32) : Prop := (if (s_X0_has I a1) = 0 then True else (if (s_X8_has I a2) = 0 then True else ((p_X9_knowsByName f I a1 a2) ∧ (if (s_X9_knowsByName f I a1 a2) = 0 then ((p_X9_knownTraits f I a1 a2) ∧ (p_X8_alikeTo f I a2 (s_X9_knownTraits f I a1 a2))) else True))))
set_option maxRecDepth 100000 in
set_option maxHeartbeats 4000000 in
theorem gt_X9_could (f : Nat) (I : am_I) (J : am_J) (Q : am_Q) (hG : Gr Q) (a1 : Int32) (a2 : Int32) (hp : p_X9_could f I a1 a2) : Gd MX9_could (am_o 4 0 0 (am_Fi I J Q (s_X9_could f I a1 a2))) 0 0 92 0 [some (.ref 0), some (.int a1), some (.int a2)] [] I J Q := by
  unfold s_X9_could
  unfold p_X9_could at hp
  refine gd_aload_n (q := 1) rfl rfl rfl ?_
  refine gd_getR (q := 4) (r := 26) rfl rfl rfl (Nat.le_of_ble_eq_true rfl) rfl rfl (gr_0_6 hG) ?_
  refine gd_iload_n (q := 5) rfl rfl rfl ?_
  refine gd_cVi (q := 8) rfl rfl lk9_175 myX0_has vxX0_has (ct_X0_has f _ _ _ hG _) rfl (Nat.le_of_ble_eq_true rfl) rfl rfl (Nat.le_of_ble_eq_true rfl) rfl (Nat.le_of_ble_eq_true rfl) ⟨(Nat.le_of_ble_eq_true rfl), (Nat.le_of_ble_eq_true rfl)⟩ ?_
  refine gx_if_eq (q := 11) (r := 22) rfl rfl rfl hp (fun c_8 hp => ?_) (fun c_8 hp => ?_)
  · refine gd_iconst (v := (-1)) (q := 23) rfl rfl rfl ?_
    exact gd_ireturn rfl rfl rfl (Nat.le_refl 0) (Nat.le_refl 0) rfl
  · refine gd_aload_n (q := 12) rfl rfl rfl ?_
    refine gd_getR (q := 15) (r := 9) rfl rfl rfl (Nat.le_of_ble_eq_true rfl) rfl rfl (gr_0_3 hG) ?_
    refine gd_iload_n (q := 16) rfl rfl rfl ?_
    refine gd_cVi (q := 19) rfl rfl lk9_91 myX8_has vxX8_has (ct_X8_has f _ _ _ hG _) rfl (Nat.le_of_ble_eq_true rfl) rfl rfl (Nat.le_of_ble_eq_true rfl) rfl (Nat.le_of_ble_eq_true rfl) ⟨(Nat.le_of_ble_eq_true rfl), (Nat.le_of_ble_eq_true rfl)⟩ ?_
    refine gx_if_ne (q := 22) (r := 24) rfl rfl rfl hp (fun c_19 hp => ?_) (fun c_19 hp => ?_)
    · refine gd_iconst (v := (-1)) (q := 23) rfl rfl rfl ?_
      exact gd_ireturn rfl rfl rfl (Nat.le_refl 0) (Nat.le_refl 0) rfl
    · refine gd_aload_n (q := 25) rfl rfl rfl ?_
      refine gd_iload_n (q := 26) rfl rfl rfl ?_
      refine gd_iload_n (q := 27) rfl rfl rfl ?_
      refine gd_cVi (q := 30) rfl rfl lk9_181 myX9_knowsByName vxX9_knowsByName (ct_X9_knowsByName f _ _ _ hG _ _ hp.1) rfl (Nat.le_of_ble_eq_true rfl) rfl rfl (Nat.le_of_ble_eq_true rfl) rfl (Nat.le_of_ble_eq_true rfl) ⟨(Nat.le_of_ble_eq_true rfl), (Nat.le_of_ble_eq_true rfl)⟩ ?_
      replace hp := hp.2
      refine gx_if_eq (q := 33) (r := 35) rfl rfl rfl hp (fun c_30 hp => ?_) (fun c_30 hp => ?_)
      · refine gd_aload_n (q := 36) rfl rfl rfl ?_
        refine gd_getR (q := 39) (r := 9) rfl rfl rfl (Nat.le_of_ble_eq_true rfl) rfl rfl (gr_0_3 hG) ?_
        refine gd_iload_n (q := 40) rfl rfl rfl ?_
        refine gd_aload_n (q := 41) rfl rfl rfl ?_
        refine gd_iload_n (q := 42) rfl rfl rfl ?_
        refine gd_iload_n (q := 43) rfl rfl rfl ?_
        refine gd_cVi (q := 46) rfl rfl lk9_184 myX9_knownTraits vxX9_knownTraits (ct_X9_knownTraits f _ _ _ hG _ _ hp.1) rfl (Nat.le_of_ble_eq_true rfl) rfl rfl (Nat.le_of_ble_eq_true rfl) rfl (Nat.le_of_ble_eq_true rfl) ⟨(Nat.le_of_ble_eq_true rfl), (Nat.le_of_ble_eq_true rfl)⟩ ?_
        replace hp := hp.2
        refine gd_cVi (q := 49) rfl rfl lk9_187 myX8_alikeTo vxX8_alikeTo (ct_X8_alikeTo f _ _ _ hG _ _ hp) rfl (Nat.le_of_ble_eq_true rfl) rfl rfl (Nat.le_of_ble_eq_true rfl) rfl (Nat.le_of_ble_eq_true rfl) ⟨(Nat.le_of_ble_eq_true rfl), (Nat.le_of_ble_eq_true rfl)⟩ ?_
        exact gd_ireturn rfl rfl rfl (Nat.le_refl 0) (Nat.le_refl 0) rfl
      · refine gd_iconst (v := 1) (q := 34) rfl rfl rfl ?_
        exact gd_ireturn rfl rfl rfl (Nat.le_refl 0) (Nat.le_refl 0) rfl
theorem ct_X9_could (f : Nat) (I : am_I) (J : am_J) (Q : am_Q) (hG : Gr Q) (a1 : Int32) (a2 : Int32) (hp : p_X9_could f I a1 a2) : Cm MX9_could 4 0 0 92 [.ref 0, .int a1, .int a2] I J Q (am_Fi I J Q (s_X9_could f I a1 a2)) := cm_of (by decide) rfl IX9_could_ok (Nat.le_of_ble_eq_true rfl) (gt_X9_could f I J Q hG a1 a2 hp)
def s_X9_seconds_L34 (a1 : Int32) (a2 : Int32) (I : am_I) : Nat → Nat → Int32 → Int32 → Int32 → Int32
  | 0, _, _, _, _ => 0
  | g + 1, 0, v3, v4, t0 => (if (I 15 11) ≤ v4 then v3 else (if a2 = (-1) then (s_X9_seconds_L34 a1 a2 I g 1 v3 v4 1) else (if (s_X0_wayOf I a2 v4) = 0 then (s_X9_seconds_L34 a1 a2 I g 1 v3 v4 0) else (s_X9_seconds_L34 a1 a2 I g 1 v3 v4 1))))
  | g + 1, 1, v3, v4, t0 => (if t0 = 0 then (s_X9_seconds_L34 a1 a2 I g 0 v3 (v4 + 1) 0) else (if (((s_X7_lineOf I (I 22 v4.toNatClampNeg)) >>> (a1 &&& 31)) &&& 1) = 1 then (s_X9_seconds_L34 a1 a2 I g 0 (v3 + ((I 21 v4.toNatClampNeg) - (I 20 v4.toNatClampNeg))) (v4 + 1) 0) else (s_X9_seconds_L34 a1 a2 I g 0 v3 (v4 + 1) 0)))
  | _ + 1, _ + 2, _, _, _ => 0
def p_X9_seconds_L34 (a1 : Int32) (a2 : Int32) (I : am_I) : Nat → Nat → Int32 → Int32 → Int32 → Prop
  | 0, _, _, _, _ => False
  | g + 1, 0, v3, v4, t0 => (if (I 15 11) ≤ v4 then True else (if a2 = (-1) then (p_X9_seconds_L34 a1 a2 I g 1 v3 v4 1) else ((p_X0_wayOf I a2 v4) ∧ (if (s_X0_wayOf I a2 v4) = 0 then (p_X9_seconds_L34 a1 a2 I g 1 v3 v4 0) else (p_X9_seconds_L34 a1 a2 I g 1 v3 v4 1)))))
  | g + 1, 1, v3, v4, t0 => (if t0 = 0 then (p_X9_seconds_L34 a1 a2 I g 0 v3 (v4 + 1) 0) else (vp_in v4 30 ∧ ((p_X7_lineOf I (I 22 v4.toNatClampNeg)) ∧ (if (((s_X7_lineOf I (I 22 v4.toNatClampNeg)) >>> (a1 &&& 31)) &&& 1) = 1 then (vp_in v4 30 ∧ (vp_in v4 30 ∧ (p_X9_seconds_L34 a1 a2 I g 0 (v3 + ((I 21 v4.toNatClampNeg) - (I 20 v4.toNatClampNeg))) (v4 + 1) 0))) else (p_X9_seconds_L34 a1 a2 I g 0 v3 (v4 + 1) 0)))))
  | _ + 1, _ + 2, _, _, _ => False
def s_X9_seconds (f : Nat) (I : am_I) (a1 : Int32) (a2 : Int32) : Int32 := (if (s_X7_has I a1) = 0 then (-1) else (if a2 = (-1) then (s_X9_seconds_L34 a1 a2 I f 0 0 0 0) else (if (s_X0_has I a2) = 0 then (-1) else (s_X9_seconds_L34 a1 a2 I f 0 0 0 0))))
def p_X9_seconds (f : Nat) (I : am_I) (a1 : Int32) (a2 : Int32) : Prop := (if (s_X7_has I a1) = 0 then True else (if a2 = (-1) then (p_X9_seconds_L34 a1 a2 I f 0 0 0 0) else (if (s_X0_has I a2) = 0 then True else (p_X9_seconds_L34 a1 a2 I f 0 0 0 0))))
set_option maxRecDepth 100000 in
set_option maxHeartbeats 4000000 in
theorem gl_X9_seconds_L34 (a1 : Int32) (a2 : Int32) (f : Nat) (I : am_I) (J : am_J) (Q : am_Q) (hG : Gr Q) : ∀ g : Nat, (∀ (v3 : Int32) (v4 : Int32) (t0 : Int32), p_X9_seconds_L34 a1 a2 I g 0 v3 v4 0 → Gd MX9_seconds (am_o 3 0 0 (am_Fi I J Q (s_X9_seconds_L34 a1 a2 I g 0 v3 v4 0))) 0 0 92 34 [some (.ref 0), some (.int a1), some (.int a2), some (.int v3), some (.int v4), none] [] I J Q) ∧ (∀ (v3 : Int32) (v4 : Int32) (t0 : Int32), p_X9_seconds_L34 a1 a2 I g 1 v3 v4 t0 → Gd MX9_seconds (am_o 3 0 0 (am_Fi I J Q (s_X9_seconds_L34 a1 a2 I g 1 v3 v4 t0))) 0 0 92 69 [some (.ref 0), some (.int a1), some (.int a2), some (.int v3), some (.int v4), none] [.int t0] I J Q) := by
  intro g
  induction g with
  | zero => exact ⟨fun _ _ _ hp => False.elim hp, fun _ _ _ hp => False.elim hp⟩
  | succ g ih =>
    have ih_34 := ih.1
    have ih_69 := ih.2
    refine ⟨?_, ?_⟩
    · intro v3 v4 t0 hp
      rw [s_X9_seconds_L34]
      rw [p_X9_seconds_L34] at hp
      refine gd_iload (q := 36) rfl rfl rfl ?_
      refine gd_aload_n (q := 37) rfl rfl rfl ?_
      refine gd_getR (q := 40) (r := 15) rfl rfl rfl (Nat.le_of_ble_eq_true rfl) rfl rfl (gr_0_5 hG) ?_
      refine gd_getI (q := 43) rfl rfl rfl (Nat.le_of_ble_eq_true rfl) rfl rfl ?_
      refine gx_icmp_ge (q := 46) (r := 131) rfl rfl rfl hp (fun c_43 hp => ?_) (fun c_43 hp => ?_)
      · refine gd_iload_n (q := 132) rfl rfl rfl ?_
        exact gd_ireturn rfl rfl rfl (Nat.le_refl 0) (Nat.le_refl 0) rfl
      · refine gd_iload_n (q := 47) rfl rfl rfl ?_
        refine gd_iconst (v := (-1)) (q := 48) rfl rfl rfl ?_
        refine gx_icmp_eq (q := 51) (r := 64) rfl rfl rfl hp (fun c_48 hp => ?_) (fun c_48 hp => ?_)
        · refine gd_iconst (v := 1) (q := 65) rfl rfl rfl ?_
          refine gd_goto (q := 69) rfl rfl ?_
          exact ih_69 _ _ _ hp
        · refine gd_aload_n (q := 52) rfl rfl rfl ?_
          refine gd_getR (q := 55) (r := 26) rfl rfl rfl (Nat.le_of_ble_eq_true rfl) rfl rfl (gr_0_6 hG) ?_
          refine gd_iload_n (q := 56) rfl rfl rfl ?_
          refine gd_iload (q := 58) rfl rfl rfl ?_
          refine gd_cVi (q := 61) rfl rfl lk9_177 myX0_wayOf vxX0_wayOf (ct_X0_wayOf f _ _ _ hG _ _ hp.1) rfl (Nat.le_of_ble_eq_true rfl) rfl rfl (Nat.le_of_ble_eq_true rfl) rfl (Nat.le_of_ble_eq_true rfl) ⟨(Nat.le_of_ble_eq_true rfl), (Nat.le_of_ble_eq_true rfl)⟩ ?_
          replace hp := hp.2
          refine gx_if_eq (q := 64) (r := 68) rfl rfl rfl hp (fun c_61 hp => ?_) (fun c_61 hp => ?_)
          · refine gd_iconst (v := 0) (q := 69) rfl rfl rfl ?_
            exact ih_69 _ _ 0 hp
          · refine gd_iconst (v := 1) (q := 65) rfl rfl rfl ?_
            refine gd_goto (q := 69) rfl rfl ?_
            exact ih_69 _ _ _ hp
    · intro v3 v4 t0 hp
      rw [s_X9_seconds_L34]
      rw [p_X9_seconds_L34] at hp
      refine gd_istore (q := 71) rfl rfl (Nat.le_of_ble_eq_true rfl) rfl ?_
      refine gd_iload (q := 73) rfl rfl rfl ?_
      refine gx_if_eq (q := 76) (r := 125) rfl rfl rfl hp (fun c_73 hp => ?_) (fun c_73 hp => ?_)
      · refine gd_iinc (v := (v4 + 1)) (q := 128) rfl rfl rfl rfl (Nat.le_of_ble_eq_true rfl) rfl ?_
        refine gd_goto (q := 34) rfl rfl ?_
        refine gd_drop 5 ?_
        exact ih_34 _ _ 0 hp
      · refine gd_aload_n (q := 77) rfl rfl rfl ?_
        refine gd_getR (q := 80) (r := 13) rfl rfl rfl (Nat.le_of_ble_eq_true rfl) rfl rfl (gr_0_4 hG) ?_
        refine gd_aload_n (q := 81) rfl rfl rfl ?_
        refine gd_getR (q := 84) (r := 15) rfl rfl rfl (Nat.le_of_ble_eq_true rfl) rfl rfl (gr_0_5 hG) ?_
        refine gd_getR (q := 87) (r := 22) rfl rfl rfl (Nat.le_of_ble_eq_true rfl) rfl rfl (gr_15_7 hG) ?_
        refine gd_iload (q := 89) rfl rfl rfl ?_
        refine gd_iald (q := 90) rfl rfl (Nat.le_of_ble_eq_true rfl) rfl hp.1 ?_
        replace hp := hp.2
        refine gd_cVi (q := 93) rfl rfl lk9_195 myX7_lineOf vxX7_lineOf (ct_X7_lineOf f _ _ _ hG _ hp.1) rfl (Nat.le_of_ble_eq_true rfl) rfl rfl (Nat.le_of_ble_eq_true rfl) rfl (Nat.le_of_ble_eq_true rfl) ⟨(Nat.le_of_ble_eq_true rfl), (Nat.le_of_ble_eq_true rfl)⟩ ?_
        replace hp := hp.2
        refine gd_iload_n (q := 94) rfl rfl rfl ?_
        refine gd_ishr (q := 95) rfl rfl ?_
        refine gd_iconst (v := 1) (q := 96) rfl rfl rfl ?_
        refine gd_iand (q := 97) rfl rfl ?_
        refine gd_iconst (v := 1) (q := 98) rfl rfl rfl ?_
        refine gx_icmp_ne (q := 101) (r := 125) rfl rfl rfl hp (fun c_98 hp => ?_) (fun c_98 hp => ?_)
        · refine gd_iload_n (q := 102) rfl rfl rfl ?_
          refine gd_aload_n (q := 103) rfl rfl rfl ?_
          refine gd_getR (q := 106) (r := 15) rfl rfl rfl (Nat.le_of_ble_eq_true rfl) rfl rfl (gr_0_5 hG) ?_
          refine gd_getR (q := 109) (r := 21) rfl rfl rfl (Nat.le_of_ble_eq_true rfl) rfl rfl (gr_15_6 hG) ?_
          refine gd_iload (q := 111) rfl rfl rfl ?_
          refine gd_iald (q := 112) rfl rfl (Nat.le_of_ble_eq_true rfl) rfl hp.1 ?_
          replace hp := hp.2
          refine gd_aload_n (q := 113) rfl rfl rfl ?_
          refine gd_getR (q := 116) (r := 15) rfl rfl rfl (Nat.le_of_ble_eq_true rfl) rfl rfl (gr_0_5 hG) ?_
          refine gd_getR (q := 119) (r := 20) rfl rfl rfl (Nat.le_of_ble_eq_true rfl) rfl rfl (gr_15_5 hG) ?_
          refine gd_iload (q := 121) rfl rfl rfl ?_
          refine gd_iald (q := 122) rfl rfl (Nat.le_of_ble_eq_true rfl) rfl hp.1 ?_
          replace hp := hp.2
          refine gd_isub (q := 123) rfl rfl ?_
          refine gd_iadd (q := 124) rfl rfl ?_
          refine gd_istore_n (q := 125) rfl rfl (Nat.le_of_ble_eq_true rfl) rfl ?_
          refine gd_iinc (v := (v4 + 1)) (q := 128) rfl rfl rfl rfl (Nat.le_of_ble_eq_true rfl) rfl ?_
          refine gd_goto (q := 34) rfl rfl ?_
          refine gd_drop 5 ?_
          exact ih_34 _ _ 0 hp
        · refine gd_iinc (v := (v4 + 1)) (q := 128) rfl rfl rfl rfl (Nat.le_of_ble_eq_true rfl) rfl ?_
          refine gd_goto (q := 34) rfl rfl ?_
          refine gd_drop 5 ?_
          exact ih_34 _ _ 0 hp
theorem gl_X9_seconds_34 (a1 : Int32) (a2 : Int32) (f : Nat) (I : am_I) (J : am_J) (Q : am_Q) (hG : Gr Q) (g : Nat) : ∀ (v3 : Int32) (v4 : Int32) (t0 : Int32), p_X9_seconds_L34 a1 a2 I g 0 v3 v4 0 → Gd MX9_seconds (am_o 3 0 0 (am_Fi I J Q (s_X9_seconds_L34 a1 a2 I g 0 v3 v4 0))) 0 0 92 34 [some (.ref 0), some (.int a1), some (.int a2), some (.int v3), some (.int v4), none] [] I J Q := (gl_X9_seconds_L34 a1 a2 f I J Q hG g).1
theorem gl_X9_seconds_69 (a1 : Int32) (a2 : Int32) (f : Nat) (I : am_I) (J : am_J) (Q : am_Q) (hG : Gr Q) (g : Nat) : ∀ (v3 : Int32) (v4 : Int32) (t0 : Int32), p_X9_seconds_L34 a1 a2 I g 1 v3 v4 t0 → Gd MX9_seconds (am_o 3 0 0 (am_Fi I J Q (s_X9_seconds_L34 a1 a2 I g 1 v3 v4 t0))) 0 0 92 69 [some (.ref 0), some (.int a1), some (.int a2), some (.int v3), some (.int v4), none] [.int t0] I J Q := (gl_X9_seconds_L34 a1 a2 f I J Q hG g).2
set_option maxRecDepth 100000 in
set_option maxHeartbeats 4000000 in
theorem gt_X9_seconds (f : Nat) (I : am_I) (J : am_J) (Q : am_Q) (hG : Gr Q) (a1 : Int32) (a2 : Int32) (hp : p_X9_seconds f I a1 a2) : Gd MX9_seconds (am_o 3 0 0 (am_Fi I J Q (s_X9_seconds f I a1 a2))) 0 0 92 0 [some (.ref 0), some (.int a1), some (.int a2), none, none, none] [] I J Q := by
  unfold s_X9_seconds
  unfold p_X9_seconds at hp
  refine gd_aload_n (q := 1) rfl rfl rfl ?_
  refine gd_getR (q := 4) (r := 13) rfl rfl rfl (Nat.le_of_ble_eq_true rfl) rfl rfl (gr_0_4 hG) ?_
  refine gd_iload_n (q := 5) rfl rfl rfl ?_
  refine gd_cVi (q := 8) rfl rfl lk9_118 myX7_has vxX7_has (ct_X7_has f _ _ _ hG _) rfl (Nat.le_of_ble_eq_true rfl) rfl rfl (Nat.le_of_ble_eq_true rfl) rfl (Nat.le_of_ble_eq_true rfl) ⟨(Nat.le_of_ble_eq_true rfl), (Nat.le_of_ble_eq_true rfl)⟩ ?_
  refine gx_if_eq (q := 11) (r := 27) rfl rfl rfl hp (fun c_8 hp => ?_) (fun c_8 hp => ?_)
  · refine gd_iconst (v := (-1)) (q := 28) rfl rfl rfl ?_
    exact gd_ireturn rfl rfl rfl (Nat.le_refl 0) (Nat.le_refl 0) rfl
  · refine gd_iload_n (q := 12) rfl rfl rfl ?_
    refine gd_iconst (v := (-1)) (q := 13) rfl rfl rfl ?_
    refine gx_icmp_eq (q := 16) (r := 29) rfl rfl rfl hp (fun c_13 hp => ?_) (fun c_13 hp => ?_)
    · refine gd_iconst (v := 0) (q := 30) rfl rfl rfl ?_
      refine gd_istore_n (q := 31) rfl rfl (Nat.le_of_ble_eq_true rfl) rfl ?_
      refine gd_iconst (v := 0) (q := 32) rfl rfl rfl ?_
      refine gd_istore (q := 34) rfl rfl (Nat.le_of_ble_eq_true rfl) rfl ?_
      exact gl_X9_seconds_34 a1 a2 f I J Q hG f 0 0 0 hp
    · refine gd_aload_n (q := 17) rfl rfl rfl ?_
      refine gd_getR (q := 20) (r := 26) rfl rfl rfl (Nat.le_of_ble_eq_true rfl) rfl rfl (gr_0_6 hG) ?_
      refine gd_iload_n (q := 21) rfl rfl rfl ?_
      refine gd_cVi (q := 24) rfl rfl lk9_175 myX0_has vxX0_has (ct_X0_has f _ _ _ hG _) rfl (Nat.le_of_ble_eq_true rfl) rfl rfl (Nat.le_of_ble_eq_true rfl) rfl (Nat.le_of_ble_eq_true rfl) ⟨(Nat.le_of_ble_eq_true rfl), (Nat.le_of_ble_eq_true rfl)⟩ ?_
      refine gx_if_ne (q := 27) (r := 29) rfl rfl rfl hp (fun c_24 hp => ?_) (fun c_24 hp => ?_)
      · refine gd_iconst (v := (-1)) (q := 28) rfl rfl rfl ?_
        exact gd_ireturn rfl rfl rfl (Nat.le_refl 0) (Nat.le_refl 0) rfl
      · refine gd_iconst (v := 0) (q := 30) rfl rfl rfl ?_
        refine gd_istore_n (q := 31) rfl rfl (Nat.le_of_ble_eq_true rfl) rfl ?_
        refine gd_iconst (v := 0) (q := 32) rfl rfl rfl ?_
        refine gd_istore (q := 34) rfl rfl (Nat.le_of_ble_eq_true rfl) rfl ?_
        exact gl_X9_seconds_34 a1 a2 f I J Q hG f 0 0 0 hp
theorem ct_X9_seconds (f : Nat) (I : am_I) (J : am_J) (Q : am_Q) (hG : Gr Q) (a1 : Int32) (a2 : Int32) (hp : p_X9_seconds f I a1 a2) : Cm MX9_seconds 3 0 0 92 [.ref 0, .int a1, .int a2] I J Q (am_Fi I J Q (s_X9_seconds f I a1 a2)) := cm_of (by decide) rfl IX9_seconds_ok (Nat.le_of_ble_eq_true rfl) (gt_X9_seconds f I J Q hG a1 a2 hp)
def s_X9_opens_L52 (a1 : Int32) (a2 : Int32) (a3 : Int32) (a4 : Int32) (f : Nat) : Nat → Int32 → Int32 → am_I → Int32 × am_I
  | 0, _, _, I => (0, I)
  | g + 1, v6, v7, I => (if v6 < v7 then ((-1), I) else (if ((s_X1_letBy f (s_X3_turnTo I v7)).1) < 0 then (s_X9_opens_L52 a1 a2 a3 a4 f g v6 (v7 + 1) ((s_X1_letBy f (s_X3_turnTo I v7)).2)) else (v7, ((s_X1_letBy f (s_X3_turnTo I v7)).2))))
def p_X9_opens_L52 (a1 : Int32) (a2 : Int32) (a3 : Int32) (a4 : Int32) (f : Nat) : Nat → Int32 → Int32 → am_I → Prop
  | 0, _, _, _ => False
  | g + 1, v6, v7, I => (if v6 < v7 then True else ((p_X3_turnTo I v7) ∧ ((p_X1_letBy f (s_X3_turnTo I v7)) ∧ (if ((s_X1_letBy f (s_X3_turnTo I v7)).1) < 0 then (p_X9_opens_L52 a1 a2 a3 a4 f g v6 (v7 + 1) ((s_X1_letBy f (s_X3_turnTo I v7)).2)) else True))))
def s_X9_opens (f : Nat) (I : am_I) (Q : am_Q) (a1 : Int32) (a2 : Int32) (a3 : Int32) (a4 : Int32) : Int32 × am_I := (if (s_X9_isQuestion I a1 a2 a3 a4) = 0 then ((-1), I) else (if ((s_X9_pose f I Q a1 a2 a3 a4) 38 10) = 0 then (s_X9_opens_L52 a1 a2 a3 a4 f f a2 a2 (s_X9_pose f I Q a1 a2 a3 a4)) else (s_X9_opens_L52 a1 a2 a3 a4 f f 9999 a2 (s_X9_pose f I Q a1 a2 a3 a4))))
def p_X9_opens (f : Nat) (I : am_I) (Q : am_Q) (a1 : Int32) (a2 : Int32) (a3 : Int32) (a4 : Int32) : Prop := (if (s_X9_isQuestion I a1 a2 a3 a4) = 0 then True else ((p_X9_pose f I Q a1 a2 a3 a4) ∧ (if ((s_X9_pose f I Q a1 a2 a3 a4) 38 10) = 0 then (p_X9_opens_L52 a1 a2 a3 a4 f f a2 a2 (s_X9_pose f I Q a1 a2 a3 a4)) else (p_X9_opens_L52 a1 a2 a3 a4 f f 9999 a2 (s_X9_pose f I Q a1 a2 a3 a4)))))
set_option maxRecDepth 100000 in
set_option maxHeartbeats 4000000 in
theorem gl_X9_opens_L52 (a1 : Int32) (a2 : Int32) (a3 : Int32) (a4 : Int32) (f : Nat) (J : am_J) (Q : am_Q) (hG : Gr Q) : ∀ g : Nat, (∀ (v6 : Int32) (v7 : Int32) (I : am_I), p_X9_opens_L52 a1 a2 a3 a4 f g v6 v7 I → Gd MX9_opens (am_o 6 0 0 (am_FiI J Q (s_X9_opens_L52 a1 a2 a3 a4 f g v6 v7 I))) 0 0 92 52 [some (.ref 0), none, none, none, none, some (.ref 38), some (.int v6), some (.int v7)] [] I J Q) := by
  intro g
  induction g with
  | zero => exact fun _ _ _ hp => False.elim hp
  | succ g ih =>
    have ih_52 := ih
    intro v6 v7 I hp
    rw [s_X9_opens_L52]
    rw [p_X9_opens_L52] at hp
    refine gd_iload (q := 54) rfl rfl rfl ?_
    refine gd_iload (q := 56) rfl rfl rfl ?_
    refine gx_icmp_gt (q := 59) (r := 89) rfl rfl rfl hp (fun c_56 hp => ?_) (fun c_56 hp => ?_)
    · refine gd_iconst (v := (-1)) (q := 90) rfl rfl rfl ?_
      exact gd_ireturn rfl rfl rfl (Nat.le_refl 0) (Nat.le_refl 0) rfl
    · refine gd_aload_n (q := 60) rfl rfl rfl ?_
      refine gd_getR (q := 63) (r := 5) rfl rfl rfl (Nat.le_of_ble_eq_true rfl) rfl rfl (gr_0_2 hG) ?_
      refine gd_iload (q := 65) rfl rfl rfl ?_
      refine gd_cVv (q := 68) rfl rfl lk9_208 myX3_turnTo vxX3_turnTo (ct_X3_turnTo f _ _ _ hG _ hp.1) rfl (Nat.le_of_ble_eq_true rfl) rfl rfl (Nat.le_of_ble_eq_true rfl) rfl (Nat.le_of_ble_eq_true rfl) ⟨(Nat.le_of_ble_eq_true rfl), (Nat.le_of_ble_eq_true rfl)⟩ ?_
      replace hp := hp.2
      refine gd_aload (q := 70) rfl rfl rfl ?_
      refine gd_aload_n (q := 71) rfl rfl rfl ?_
      refine gd_getR (q := 74) (r := 5) rfl rfl rfl (Nat.le_of_ble_eq_true rfl) rfl rfl (gr_0_2 hG) ?_
      refine gd_cVi (q := 77) rfl rfl lk9_154 myX1_letBy vxX1_letBy (ct_X1_letBy f _ _ _ hG hp.1) rfl (Nat.le_of_ble_eq_true rfl) rfl rfl (Nat.le_of_ble_eq_true rfl) rfl (Nat.le_of_ble_eq_true rfl) ⟨(Nat.le_of_ble_eq_true rfl), (Nat.le_of_ble_eq_true rfl)⟩ ?_
      replace hp := hp.2
      refine gx_if_lt (q := 80) (r := 83) rfl rfl rfl hp (fun c_77 hp => ?_) (fun c_77 hp => ?_)
      · refine gd_iinc (v := (v7 + 1)) (q := 86) rfl rfl rfl rfl (Nat.le_of_ble_eq_true rfl) rfl ?_
        refine gd_goto (q := 52) rfl rfl ?_
        exact ih_52 _ _ _ hp
      · refine gd_iload (q := 82) rfl rfl rfl ?_
        exact gd_ireturn rfl rfl rfl (Nat.le_refl 0) (Nat.le_refl 0) rfl
theorem gl_X9_opens_52 (a1 : Int32) (a2 : Int32) (a3 : Int32) (a4 : Int32) (f : Nat) (J : am_J) (Q : am_Q) (hG : Gr Q) (g : Nat) : ∀ (v6 : Int32) (v7 : Int32) (I : am_I), p_X9_opens_L52 a1 a2 a3 a4 f g v6 v7 I → Gd MX9_opens (am_o 6 0 0 (am_FiI J Q (s_X9_opens_L52 a1 a2 a3 a4 f g v6 v7 I))) 0 0 92 52 [some (.ref 0), none, none, none, none, some (.ref 38), some (.int v6), some (.int v7)] [] I J Q := (gl_X9_opens_L52 a1 a2 a3 a4 f J Q hG g)
set_option maxRecDepth 100000 in
set_option maxHeartbeats 4000000 in
theorem gt_X9_opens (f : Nat) (I : am_I) (J : am_J) (Q : am_Q) (hG : Gr Q) (a1 : Int32) (a2 : Int32) (a3 : Int32) (a4 : Int32) (hp : p_X9_opens f I Q a1 a2 a3 a4) : Gd MX9_opens (am_o 6 0 0 (am_FiI J Q (s_X9_opens f I Q a1 a2 a3 a4))) 0 0 92 0 [some (.ref 0), some (.int a1), some (.int a2), some (.int a3), some (.int a4), none, none, none] [] I J Q := by
  unfold s_X9_opens
  unfold p_X9_opens at hp
  refine gd_aload_n (q := 1) rfl rfl rfl ?_
  refine gd_iload_n (q := 2) rfl rfl rfl ?_
  refine gd_iload_n (q := 3) rfl rfl rfl ?_
  refine gd_iload_n (q := 4) rfl rfl rfl ?_
  refine gd_iload (q := 6) rfl rfl rfl ?_
  refine gd_cVi (q := 9) rfl rfl lk9_146 myX9_isQuestion vxX9_isQuestion (ct_X9_isQuestion f _ _ _ hG _ _ _ _) rfl (Nat.le_of_ble_eq_true rfl) rfl rfl (Nat.le_of_ble_eq_true rfl) rfl (Nat.le_of_ble_eq_true rfl) ⟨(Nat.le_of_ble_eq_true rfl), (Nat.le_of_ble_eq_true rfl)⟩ ?_
  refine gx_if_ne (q := 12) (r := 14) rfl rfl rfl hp (fun c_9 hp => ?_) (fun c_9 hp => ?_)
  · refine gd_iconst (v := (-1)) (q := 13) rfl rfl rfl ?_
    exact gd_ireturn rfl rfl rfl (Nat.le_refl 0) (Nat.le_refl 0) rfl
  · refine gd_aload_n (q := 15) rfl rfl rfl ?_
    refine gd_iload_n (q := 16) rfl rfl rfl ?_
    refine gd_iload_n (q := 17) rfl rfl rfl ?_
    refine gd_iload_n (q := 18) rfl rfl rfl ?_
    refine gd_iload (q := 20) rfl rfl rfl ?_
    refine gd_cVi (q := 23) rfl rfl lk9_150 myX9_pose vxX9_pose (ct_X9_pose f _ _ _ hG _ _ _ _ hp.1) rfl (Nat.le_of_ble_eq_true rfl) rfl rfl (Nat.le_of_ble_eq_true rfl) rfl (Nat.le_of_ble_eq_true rfl) ⟨(Nat.le_of_ble_eq_true rfl), (Nat.le_of_ble_eq_true rfl)⟩ ?_
    replace hp := hp.2
    refine gd_astore (q := 25) rfl rfl (Nat.le_of_ble_eq_true rfl) rfl ?_
    refine gd_aload (q := 27) rfl rfl rfl ?_
    refine gd_ifnonnull (q := 32) rfl rfl ?_
    refine gd_aload (q := 34) rfl rfl rfl ?_
    refine gd_getI (q := 37) rfl rfl rfl (Nat.le_of_ble_eq_true rfl) rfl rfl ?_
    refine gx_if_eq (q := 40) (r := 46) rfl rfl rfl hp (fun c_37 hp => ?_) (fun c_37 hp => ?_)
    · refine gd_iload_n (q := 47) rfl rfl rfl ?_
      refine gd_istore (q := 49) rfl rfl (Nat.le_of_ble_eq_true rfl) rfl ?_
      refine gd_iload_n (q := 50) rfl rfl rfl ?_
      refine gd_istore (q := 52) rfl rfl (Nat.le_of_ble_eq_true rfl) rfl ?_
      refine gd_drop 1 ?_
      refine gd_drop 2 ?_
      refine gd_drop 3 ?_
      refine gd_drop 4 ?_
      exact gl_X9_opens_52 a1 a2 a3 a4 f J Q hG f _ _ _ hp
    · refine gd_sipush (v := 9999) (q := 43) rfl rfl rfl ?_
      refine gd_goto (q := 47) rfl rfl ?_
      refine gd_istore (q := 49) rfl rfl (Nat.le_of_ble_eq_true rfl) rfl ?_
      refine gd_iload_n (q := 50) rfl rfl rfl ?_
      refine gd_istore (q := 52) rfl rfl (Nat.le_of_ble_eq_true rfl) rfl ?_
      refine gd_drop 1 ?_
      refine gd_drop 2 ?_
      refine gd_drop 3 ?_
      refine gd_drop 4 ?_
      exact gl_X9_opens_52 a1 a2 a3 a4 f J Q hG f _ _ _ hp
theorem ct_X9_opens (f : Nat) (I : am_I) (J : am_J) (Q : am_Q) (hG : Gr Q) (a1 : Int32) (a2 : Int32) (a3 : Int32) (a4 : Int32) (hp : p_X9_opens f I Q a1 a2 a3 a4) : Cm MX9_opens 6 0 0 92 [.ref 0, .int a1, .int a2, .int a3, .int a4] I J Q (am_FiI J Q (s_X9_opens f I Q a1 a2 a3 a4)) := cm_of (by decide) rfl IX9_opens_ok (Nat.le_of_ble_eq_true rfl) (gt_X9_opens f I J Q hG a1 a2 a3 a4 hp)
