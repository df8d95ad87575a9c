def s_X1_addLiteral (f : Nat) (I : am_I) (a1 : Int32) (a2 : Int32) : am_I := (if (I 38 7) < 1 then I else (if 16 < (I 38 7) then I else (if (I 38 8) < 133 then (if (I 38 10) = 0 then (if ((am_w (am_w (am_w (am_w I 41 (I 38 8).toNatClampNeg (vp_nar .byte (a1.toInt8.toInt32))) 43 (I 38 8).toNatClampNeg (vp_nar .boolean a2)) 42 (I 38 8).toNatClampNeg (vp_nar .short ((I 38 9).toInt16.toInt32))) 44 (I 38 8).toNatClampNeg (vp_nar .boolean (s_X1_hasDay f (am_w (am_w (am_w I 41 (I 38 8).toNatClampNeg (vp_nar .byte (a1.toInt8.toInt32))) 43 (I 38 8).toNatClampNeg (vp_nar .boolean a2)) 42 (I 38 8).toNatClampNeg (vp_nar .short ((I 38 9).toInt16.toInt32))) (s_X1_firstCell (am_w (am_w (am_w I 41 (I 38 8).toNatClampNeg (vp_nar .byte (a1.toInt8.toInt32))) 43 (I 38 8).toNatClampNeg (vp_nar .boolean a2)) 42 (I 38 8).toNatClampNeg (vp_nar .short ((I 38 9).toInt16.toInt32))) (I 38 8)) (I 38 9)))) 44 (I 38 8).toNatClampNeg) = 0 then (am_w (am_w (am_w (am_w (am_w (am_w (am_w I 41 (I 38 8).toNatClampNeg (vp_nar .byte (a1.toInt8.toInt32))) 43 (I 38 8).toNatClampNeg (vp_nar .boolean a2)) 42 (I 38 8).toNatClampNeg (vp_nar .short ((I 38 9).toInt16.toInt32))) 44 (I 38 8).toNatClampNeg (vp_nar .boolean (s_X1_hasDay f (am_w (am_w (am_w I 41 (I 38 8).toNatClampNeg (vp_nar .byte (a1.toInt8.toInt32))) 43 (I 38 8).toNatClampNeg (vp_nar .boolean a2)) 42 (I 38 8).toNatClampNeg (vp_nar .short ((I 38 9).toInt16.toInt32))) (s_X1_firstCell (am_w (am_w (am_w I 41 (I 38 8).toNatClampNeg (vp_nar .byte (a1.toInt8.toInt32))) 43 (I 38 8).toNatClampNeg (vp_nar .boolean a2)) 42 (I 38 8).toNatClampNeg (vp_nar .short ((I 38 9).toInt16.toInt32))) (I 38 8)) (I 38 9)))) 38 10 0) 38 8 ((I 38 8) + 1)) 40 ((I 38 7) - 1).toNatClampNeg (vp_nar .short (((I 38 8) + 1).toInt16.toInt32))) else (if (I 39 ((I 38 7) - 1).toNatClampNeg) = 2 then (am_w (am_w (am_w (am_w (am_w (am_w (am_w I 41 (I 38 8).toNatClampNeg (vp_nar .byte (a1.toInt8.toInt32))) 43 (I 38 8).toNatClampNeg (vp_nar .boolean a2)) 42 (I 38 8).toNatClampNeg (vp_nar .short ((I 38 9).toInt16.toInt32))) 44 (I 38 8).toNatClampNeg (vp_nar .boolean (s_X1_hasDay f (am_w (am_w (am_w I 41 (I 38 8).toNatClampNeg (vp_nar .byte (a1.toInt8.toInt32))) 43 (I 38 8).toNatClampNeg (vp_nar .boolean a2)) 42 (I 38 8).toNatClampNeg (vp_nar .short ((I 38 9).toInt16.toInt32))) (s_X1_firstCell (am_w (am_w (am_w I 41 (I 38 8).toNatClampNeg (vp_nar .byte (a1.toInt8.toInt32))) 43 (I 38 8).toNatClampNeg (vp_nar .boolean a2)) 42 (I 38 8).toNatClampNeg (vp_nar .short ((I 38 9).toInt16.toInt32))) (I 38 8)) (I 38 9)))) 38 10 0) 38 8 ((I 38 8) + 1)) 40 ((I 38 7) - 1).toNatClampNeg (vp_nar .short (((I 38 8) + 1).toInt16.toInt32))) else (am_w (am_w (am_w (am_w (am_w (am_w (am_w I 41 (I 38 8).toNatClampNeg (vp_nar .byte (a1.toInt8.toInt32))) 43 (I 38 8).toNatClampNeg (vp_nar .boolean a2)) 42 (I 38 8).toNatClampNeg (vp_nar .short ((I 38 9).toInt16.toInt32))) 44 (I 38 8).toNatClampNeg (vp_nar .boolean (s_X1_hasDay f (am_w (am_w (am_w I 41 (I 38 8).toNatClampNeg (vp_nar .byte (a1.toInt8.toInt32))) 43 (I 38 8).toNatClampNeg (vp_nar .boolean a2)) 42 (I 38 8).toNatClampNeg (vp_nar .short ((I 38 9).toInt16.toInt32))) (s_X1_firstCell (am_w (am_w (am_w I 41 (I 38 8).toNatClampNeg (vp_nar .byte (a1.toInt8.toInt32))) 43 (I 38 8).toNatClampNeg (vp_nar .boolean a2)) 42 (I 38 8).toNatClampNeg (vp_nar .short ((I 38 9).toInt16.toInt32))) (I 38 8)) (I 38 9)))) 38 10 1) 38 8 ((I 38 8) + 1)) 40 ((I 38 7) - 1).toNatClampNeg (vp_nar .short (((I 38 8) + 1).toInt16.toInt32))))) else (am_w (am_w (am_w (am_w (am_w (am_w (am_w I 41 (I 38 8).toNatClampNeg (vp_nar .byte (a1.toInt8.toInt32))) 43 (I 38 8).toNatClampNeg (vp_nar .boolean a2)) 42 (I 38 8).toNatClampNeg (vp_nar .short ((I 38 9).toInt16.toInt32))) 44 (I 38 8).toNatClampNeg (vp_nar .boolean (s_X1_hasDay f (am_w (am_w (am_w I 41 (I 38 8).toNatClampNeg (vp_nar .byte (a1.toInt8.toInt32))) 43 (I 38 8).toNatClampNeg (vp_nar .boolean a2)) 42 (I 38 8).toNatClampNeg (vp_nar .short ((I 38 9).toInt16.toInt32))) (s_X1_firstCell (am_w (am_w (am_w I 41 (I 38 8).toNatClampNeg (vp_nar .byte (a1.toInt8.toInt32))) 43 (I 38 8).toNatClampNeg (vp_nar .boolean a2)) 42 (I 38 8).toNatClampNeg (vp_nar .short ((I 38 9).toInt16.toInt32))) (I 38 8)) (I 38 9)))) 38 10 1) 38 8 ((I 38 8) + 1)) 40 ((I 38 7) - 1).toNatClampNeg (vp_nar .short (((I 38 8) + 1).toInt16.toInt32)))) else I)))
def p_X1_addLiteral (f : Nat) (I : am_I) (a1 : Int32) (a2 : Int32) : Prop := (if (I 38 7) < 1 then True else (if 16 < (I 38 7) then True else (if (I 38 8) < 133 then (vp_in (I 38 8) 133 ∧ (vp_in (I 38 8) 133 ∧ (vp_in (I 38 8) 133 ∧ ((p_X1_firstCell (I 38 8)) ∧ ((p_X1_hasDay f (am_w (am_w (am_w I 41 (I 38 8).toNatClampNeg (vp_nar .byte (a1.toInt8.toInt32))) 43 (I 38 8).toNatClampNeg (vp_nar .boolean a2)) 42 (I 38 8).toNatClampNeg (vp_nar .short ((I 38 9).toInt16.toInt32))) (s_X1_firstCell (am_w (am_w (am_w I 41 (I 38 8).toNatClampNeg (vp_nar .byte (a1.toInt8.toInt32))) 43 (I 38 8).toNatClampNeg (vp_nar .boolean a2)) 42 (I 38 8).toNatClampNeg (vp_nar .short ((I 38 9).toInt16.toInt32))) (I 38 8)) (I 38 9)) ∧ (vp_in (I 38 8) 133 ∧ (if (I 38 10) = 0 then (vp_in (I 38 8) 133 ∧ (if ((am_w (am_w (am_w (am_w I 41 (I 38 8).toNatClampNeg (vp_nar .byte (a1.toInt8.toInt32))) 43 (I 38 8).toNatClampNeg (vp_nar .boolean a2)) 42 (I 38 8).toNatClampNeg (vp_nar .short ((I 38 9).toInt16.toInt32))) 44 (I 38 8).toNatClampNeg (vp_nar .boolean (s_X1_hasDay f (am_w (am_w (am_w I 41 (I 38 8).toNatClampNeg (vp_nar .byte (a1.toInt8.toInt32))) 43 (I 38 8).toNatClampNeg (vp_nar .boolean a2)) 42 (I 38 8).toNatClampNeg (vp_nar .short ((I 38 9).toInt16.toInt32))) (s_X1_firstCell (am_w (am_w (am_w I 41 (I 38 8).toNatClampNeg (vp_nar .byte (a1.toInt8.toInt32))) 43 (I 38 8).toNatClampNeg (vp_nar .boolean a2)) 42 (I 38 8).toNatClampNeg (vp_nar .short ((I 38 9).toInt16.toInt32))) (I 38 8)) (I 38 9)))) 44 (I 38 8).toNatClampNeg) = 0 then vp_in ((I 38 7) - 1) 16 else (vp_in ((I 38 7) - 1) 16 ∧ (if (I 39 ((I 38 7) - 1).toNatClampNeg) = 2 then vp_in ((I 38 7) - 1) 16 else vp_in ((I 38 7) - 1) 16)))) else vp_in ((I 38 7) - 1) 16))))))) else True)))
set_option maxRecDepth 100000 in
set_option maxHeartbeats 4000000 in
theorem gt_X1_addLiteral (f : Nat) (I : am_I) (J : am_J) (Q : am_Q) (hG : Gr Q) (a1 : Int32) (a2 : Int32) (hp : p_X1_addLiteral f I a1 a2) : Gd MX1_addLiteral (am_o 2 0 0 (am_FvI J Q (s_X1_addLiteral f I a1 a2))) 0 0 92 0 [some (.ref 38), some (.int a1), some (.int a2)] [] I J Q := by
  unfold s_X1_addLiteral
  unfold p_X1_addLiteral at hp
  refine gd_aload_n (q := 1) rfl rfl rfl ?_
  refine gd_getI (q := 4) rfl rfl rfl (Nat.le_of_ble_eq_true rfl) rfl rfl ?_
  refine gd_iconst (v := 1) (q := 5) rfl rfl rfl ?_
  refine gx_icmp_lt (q := 8) (r := 27) rfl rfl rfl hp (fun c_5 hp => ?_) (fun c_5 hp => ?_)
  · exact gd_return rfl rfl (Nat.le_refl 0) (Nat.le_refl 0) rfl
  · refine gd_aload_n (q := 9) rfl rfl rfl ?_
    refine gd_getI (q := 12) rfl rfl rfl (Nat.le_of_ble_eq_true rfl) rfl rfl ?_
    refine gd_bipush (v := 16) (q := 14) rfl rfl rfl ?_
    refine gx_icmp_gt (q := 17) (r := 27) rfl rfl rfl hp (fun c_14 hp => ?_) (fun c_14 hp => ?_)
    · exact gd_return rfl rfl (Nat.le_refl 0) (Nat.le_refl 0) rfl
    · refine gd_aload_n (q := 18) rfl rfl rfl ?_
      refine gd_getI (q := 21) rfl rfl rfl (Nat.le_of_ble_eq_true rfl) rfl rfl ?_
      refine gd_sipush (v := 133) (q := 24) rfl rfl rfl ?_
      refine gx_icmp_lt (q := 27) (r := 28) rfl rfl rfl hp (fun c_24 hp => ?_) (fun c_24 hp => ?_)
      · refine gd_aload_n (q := 29) rfl rfl rfl ?_
        refine gd_getR (q := 32) (r := 41) rfl rfl rfl (Nat.le_of_ble_eq_true rfl) rfl rfl (gr_38_2 hG) ?_
        refine gd_aload_n (q := 33) rfl rfl rfl ?_
        refine gd_getI (q := 36) rfl rfl rfl (Nat.le_of_ble_eq_true rfl) rfl rfl ?_
        refine gd_iload_n (q := 37) rfl rfl rfl ?_
        refine gd_i2b (q := 38) rfl rfl ?_
        refine gd_bast (q := 39) rfl rfl (Nat.le_of_ble_eq_true rfl) rfl hp.1 ?_
        replace hp := hp.2
        refine gd_aload_n (q := 40) rfl rfl rfl ?_
        refine gd_getR (q := 43) (r := 43) rfl rfl rfl (Nat.le_of_ble_eq_true rfl) rfl rfl (gr_38_4 hG) ?_
        refine gd_aload_n (q := 44) rfl rfl rfl ?_
        refine gd_getI (q := 47) rfl rfl rfl (Nat.le_of_ble_eq_true rfl) rfl rfl ?_
        refine gd_iload_n (q := 48) rfl rfl rfl ?_
        refine gd_zast (q := 49) rfl rfl (Nat.le_of_ble_eq_true rfl) rfl hp.1 ?_
        replace hp := hp.2
        refine gd_aload_n (q := 50) rfl rfl rfl ?_
        refine gd_getR (q := 53) (r := 42) rfl rfl rfl (Nat.le_of_ble_eq_true rfl) rfl rfl (gr_38_3 hG) ?_
        refine gd_aload_n (q := 54) rfl rfl rfl ?_
        refine gd_getI (q := 57) rfl rfl rfl (Nat.le_of_ble_eq_true rfl) rfl rfl ?_
        refine gd_aload_n (q := 58) rfl rfl rfl ?_
        refine gd_getI (q := 61) rfl rfl rfl (Nat.le_of_ble_eq_true rfl) rfl rfl ?_
        refine gd_i2s (q := 62) rfl rfl ?_
        refine gd_sast (q := 63) rfl rfl (Nat.le_of_ble_eq_true rfl) rfl hp.1 ?_
        replace hp := hp.2
        refine gd_aload_n (q := 64) rfl rfl rfl ?_
        refine gd_getR (q := 67) (r := 44) rfl rfl rfl (Nat.le_of_ble_eq_true rfl) rfl rfl (gr_38_5 hG) ?_
        refine gd_aload_n (q := 68) rfl rfl rfl ?_
        refine gd_getI (q := 71) rfl rfl rfl (Nat.le_of_ble_eq_true rfl) rfl rfl ?_
        refine gd_aload_n (q := 72) rfl rfl rfl ?_
        refine gd_aload_n (q := 73) rfl rfl rfl ?_
        refine gd_aload_n (q := 74) rfl rfl rfl ?_
        refine gd_getI (q := 77) rfl rfl rfl (Nat.le_of_ble_eq_true rfl) rfl rfl ?_
        refine gd_cVi (q := 80) rfl rfl lk1_49 myX1_firstCell vxX1_firstCell (ct_X1_firstCell f _ _ _ hG _ hp.1) rfl (Nat.le_of_ble_eq_true rfl) rfl rfl (Nat.le_of_ble_eq_true rfl) rfl (Nat.le_of_ble_eq_true rfl) ⟨(Nat.le_of_ble_eq_true rfl), (Nat.le_of_ble_eq_true rfl)⟩ ?_
        replace hp := hp.2
        refine gd_aload_n (q := 81) rfl rfl rfl ?_
        refine gd_getI (q := 84) rfl rfl rfl (Nat.le_of_ble_eq_true rfl) rfl rfl ?_
        refine gd_cVi (q := 87) rfl rfl lk1_53 myX1_hasDay vxX1_hasDay (ct_X1_hasDay f _ _ _ hG _ _ hp.1) rfl (Nat.le_of_ble_eq_true rfl) rfl rfl (Nat.le_of_ble_eq_true rfl) rfl (Nat.le_of_ble_eq_true rfl) ⟨(Nat.le_of_ble_eq_true rfl), (Nat.le_of_ble_eq_true rfl)⟩ ?_
        replace hp := hp.2
        refine gd_zast (q := 88) rfl rfl (Nat.le_of_ble_eq_true rfl) rfl hp.1 ?_
        replace hp := hp.2
        refine gd_aload_n (q := 89) rfl rfl rfl ?_
        refine gd_aload_n (q := 90) rfl rfl rfl ?_
        refine gd_getI (q := 93) rfl rfl rfl (Nat.le_of_ble_eq_true rfl) rfl rfl ?_
        refine gx_if_ne (q := 96) (r := 123) rfl rfl rfl hp (fun c_93 hp => ?_) (fun c_93 hp => ?_)
        · refine gd_aload_n (q := 97) rfl rfl rfl ?_
          refine gd_getR (q := 100) (r := 44) rfl rfl rfl (Nat.le_of_ble_eq_true rfl) rfl rfl (gr_38_5 hG) ?_
          refine gd_aload_n (q := 101) rfl rfl rfl ?_
          refine gd_getI (q := 104) rfl rfl rfl (Nat.le_of_ble_eq_true rfl) rfl rfl ?_
          refine gd_zald (q := 105) rfl rfl (Nat.le_of_ble_eq_true rfl) rfl hp.1 ?_
          replace hp := hp.2
          refine gx_if_eq (q := 108) (r := 127) rfl rfl rfl hp (fun c_105 hp => ?_) (fun c_105 hp => ?_)
          · refine gd_iconst (v := 0) (q := 128) rfl rfl rfl ?_
            refine gd_putZ (q := 131) rfl rfl rfl (Nat.le_of_ble_eq_true rfl) rfl rfl rfl (by decide) rfl ?_
            refine gd_aload_n (q := 132) rfl rfl rfl ?_
            refine gd_dup (q := 133) rfl rfl rfl ?_
            refine gd_getI (q := 136) rfl rfl rfl (Nat.le_of_ble_eq_true rfl) rfl rfl ?_
            refine gd_iconst (v := 1) (q := 137) rfl rfl rfl ?_
            refine gd_iadd (q := 138) rfl rfl ?_
            refine gd_putI (q := 141) rfl rfl rfl (Nat.le_of_ble_eq_true rfl) rfl rfl rfl (Or.inl rfl) ?_
            refine gd_aload_n (q := 142) rfl rfl rfl ?_
            refine gd_getR (q := 145) (r := 40) rfl rfl rfl (Nat.le_of_ble_eq_true rfl) rfl rfl (gr_38_1 hG) ?_
            refine gd_aload_n (q := 146) rfl rfl rfl ?_
            refine gd_getI (q := 149) rfl rfl rfl (Nat.le_of_ble_eq_true rfl) rfl rfl ?_
            refine gd_iconst (v := 1) (q := 150) rfl rfl rfl ?_
            refine gd_isub (q := 151) rfl rfl ?_
            refine gd_aload_n (q := 152) rfl rfl rfl ?_
            refine gd_getI (q := 155) rfl rfl rfl (Nat.le_of_ble_eq_true rfl) rfl rfl ?_
            refine gd_i2s (q := 156) rfl rfl ?_
            refine gd_sast (q := 157) rfl rfl (Nat.le_of_ble_eq_true rfl) rfl hp ?_
            exact gd_return rfl rfl (Nat.le_refl 0) (Nat.le_refl 0) rfl
          · refine gd_aload_n (q := 109) rfl rfl rfl ?_
            refine gd_getR (q := 112) (r := 39) rfl rfl rfl (Nat.le_of_ble_eq_true rfl) rfl rfl (gr_38_0 hG) ?_
            refine gd_aload_n (q := 113) rfl rfl rfl ?_
            refine gd_getI (q := 116) rfl rfl rfl (Nat.le_of_ble_eq_true rfl) rfl rfl ?_
            refine gd_iconst (v := 1) (q := 117) rfl rfl rfl ?_
            refine gd_isub (q := 118) rfl rfl ?_
            refine gd_bald (q := 119) rfl rfl (Nat.le_of_ble_eq_true rfl) rfl hp.1 ?_
            replace hp := hp.2
            refine gd_iconst (v := 2) (q := 120) rfl rfl rfl ?_
            refine gx_icmp_eq (q := 123) (r := 127) rfl rfl rfl hp (fun c_120 hp => ?_) (fun c_120 hp => ?_)
            · refine gd_iconst (v := 0) (q := 128) rfl rfl rfl ?_
              refine gd_putZ (q := 131) rfl rfl rfl (Nat.le_of_ble_eq_true rfl) rfl rfl rfl (by decide) rfl ?_
              refine gd_aload_n (q := 132) rfl rfl rfl ?_
              refine gd_dup (q := 133) rfl rfl rfl ?_
              refine gd_getI (q := 136) rfl rfl rfl (Nat.le_of_ble_eq_true rfl) rfl rfl ?_
              refine gd_iconst (v := 1) (q := 137) rfl rfl rfl ?_
              refine gd_iadd (q := 138) rfl rfl ?_
              refine gd_putI (q := 141) rfl rfl rfl (Nat.le_of_ble_eq_true rfl) rfl rfl rfl (Or.inl rfl) ?_
              refine gd_aload_n (q := 142) rfl rfl rfl ?_
              refine gd_getR (q := 145) (r := 40) rfl rfl rfl (Nat.le_of_ble_eq_true rfl) rfl rfl (gr_38_1 hG) ?_
              refine gd_aload_n (q := 146) rfl rfl rfl ?_
              refine gd_getI (q := 149) rfl rfl rfl (Nat.le_of_ble_eq_true rfl) rfl rfl ?_
              refine gd_iconst (v := 1) (q := 150) rfl rfl rfl ?_
              refine gd_isub (q := 151) rfl rfl ?_
              refine gd_aload_n (q := 152) rfl rfl rfl ?_
              refine gd_getI (q := 155) rfl rfl rfl (Nat.le_of_ble_eq_true rfl) rfl rfl ?_
              refine gd_i2s (q := 156) rfl rfl ?_
              refine gd_sast (q := 157) rfl rfl (Nat.le_of_ble_eq_true rfl) rfl hp ?_
              exact gd_return rfl rfl (Nat.le_refl 0) (Nat.le_refl 0) rfl
            · refine gd_iconst (v := 1) (q := 124) rfl rfl rfl ?_
              refine gd_goto (q := 128) rfl rfl ?_
              refine gd_putZ (q := 131) rfl rfl rfl (Nat.le_of_ble_eq_true rfl) rfl rfl rfl (by decide) rfl ?_
              refine gd_aload_n (q := 132) rfl rfl rfl ?_
              refine gd_dup (q := 133) rfl rfl rfl ?_
              refine gd_getI (q := 136) rfl rfl rfl (Nat.le_of_ble_eq_true rfl) rfl rfl ?_
              refine gd_iconst (v := 1) (q := 137) rfl rfl rfl ?_
              refine gd_iadd (q := 138) rfl rfl ?_
              refine gd_putI (q := 141) rfl rfl rfl (Nat.le_of_ble_eq_true rfl) rfl rfl rfl (Or.inl rfl) ?_
              refine gd_aload_n (q := 142) rfl rfl rfl ?_
              refine gd_getR (q := 145) (r := 40) rfl rfl rfl (Nat.le_of_ble_eq_true rfl) rfl rfl (gr_38_1 hG) ?_
              refine gd_aload_n (q := 146) rfl rfl rfl ?_
              refine gd_getI (q := 149) rfl rfl rfl (Nat.le_of_ble_eq_true rfl) rfl rfl ?_
              refine gd_iconst (v := 1) (q := 150) rfl rfl rfl ?_
              refine gd_isub (q := 151) rfl rfl ?_
              refine gd_aload_n (q := 152) rfl rfl rfl ?_
              refine gd_getI (q := 155) rfl rfl rfl (Nat.le_of_ble_eq_true rfl) rfl rfl ?_
              refine gd_i2s (q := 156) rfl rfl ?_
              refine gd_sast (q := 157) rfl rfl (Nat.le_of_ble_eq_true rfl) rfl hp ?_
              exact gd_return rfl rfl (Nat.le_refl 0) (Nat.le_refl 0) rfl
        · refine gd_iconst (v := 1) (q := 124) rfl rfl rfl ?_
          refine gd_goto (q := 128) rfl rfl ?_
          refine gd_putZ (q := 131) rfl rfl rfl (Nat.le_of_ble_eq_true rfl) rfl rfl rfl (by decide) rfl ?_
          refine gd_aload_n (q := 132) rfl rfl rfl ?_
          refine gd_dup (q := 133) rfl rfl rfl ?_
          refine gd_getI (q := 136) rfl rfl rfl (Nat.le_of_ble_eq_true rfl) rfl rfl ?_
          refine gd_iconst (v := 1) (q := 137) rfl rfl rfl ?_
          refine gd_iadd (q := 138) rfl rfl ?_
          refine gd_putI (q := 141) rfl rfl rfl (Nat.le_of_ble_eq_true rfl) rfl rfl rfl (Or.inl rfl) ?_
          refine gd_aload_n (q := 142) rfl rfl rfl ?_
          refine gd_getR (q := 145) (r := 40) rfl rfl rfl (Nat.le_of_ble_eq_true rfl) rfl rfl (gr_38_1 hG) ?_
          refine gd_aload_n (q := 146) rfl rfl rfl ?_
          refine gd_getI (q := 149) rfl rfl rfl (Nat.le_of_ble_eq_true rfl) rfl rfl ?_
          refine gd_iconst (v := 1) (q := 150) rfl rfl rfl ?_
          refine gd_isub (q := 151) rfl rfl ?_
          refine gd_aload_n (q := 152) rfl rfl rfl ?_
          refine gd_getI (q := 155) rfl rfl rfl (Nat.le_of_ble_eq_true rfl) rfl rfl ?_
          refine gd_i2s (q := 156) rfl rfl ?_
          refine gd_sast (q := 157) rfl rfl (Nat.le_of_ble_eq_true rfl) rfl hp ?_
          exact gd_return rfl rfl (Nat.le_refl 0) (Nat.le_refl 0) rfl
      · exact gd_return rfl rfl (Nat.le_refl 0) (Nat.le_refl 0) rfl
theorem ct_X1_addLiteral (f : Nat) (I : am_I) (J : am_J) (Q : am_Q) (hG : Gr Q) (a1 : Int32) (a2 : Int32) (hp : p_X1_addLiteral f I a1 a2) : Cm MX1_addLiteral 2 0 0 92 [.ref 38, .int a1, .int a2] I J Q (am_FvI J Q (s_X1_addLiteral f I a1 a2)) := cm_of (by decide) rfl IX1_addLiteral_ok (Nat.le_of_ble_eq_true rfl) (gt_X1_addLiteral f I J Q hG a1 a2 hp)
def s_X2_takeLiteralEnd (f : Nat) (I : am_I) (a1 : Int32) : am_I := (if (I 3 4) = (-1) then (if a1 = 4 then (if a1 = 16 then (am_w (am_w I 3 5 1) 3 3 0) else (am_w (am_w I 3 5 1) 3 3 2)) else (if a1 = 16 then (am_w (am_w I 3 5 0) 3 3 0) else (am_w (am_w I 3 5 0) 3 3 2))) else (if a1 = 4 then (if a1 = 16 then (am_w (am_w (am_w (s_X1_addLiteral f (s_X2_unload f I 17) ((s_X2_unload f I 17) 3 4) ((s_X2_unload f I 17) 3 5)) 3 4 (-1)) 3 5 1) 3 3 0) else (am_w (am_w (am_w (s_X1_addLiteral f (s_X2_unload f I 17) ((s_X2_unload f I 17) 3 4) ((s_X2_unload f I 17) 3 5)) 3 4 (-1)) 3 5 1) 3 3 2)) else (if a1 = 16 then (am_w (am_w (am_w (s_X1_addLiteral f (s_X2_unload f I 17) ((s_X2_unload f I 17) 3 4) ((s_X2_unload f I 17) 3 5)) 3 4 (-1)) 3 5 0) 3 3 0) else (am_w (am_w (am_w (s_X1_addLiteral f (s_X2_unload f I 17) ((s_X2_unload f I 17) 3 4) ((s_X2_unload f I 17) 3 5)) 3 4 (-1)) 3 5 0) 3 3 2))))
def p_X2_takeLiteralEnd (f : Nat) (I : am_I) (a1 : Int32) : Prop := (if (I 3 4) = (-1) then True else ((p_X2_unload f I 17) ∧ (p_X1_addLiteral f (s_X2_unload f I 17) ((s_X2_unload f I 17) 3 4) ((s_X2_unload f I 17) 3 5))))
set_option maxRecDepth 100000 in
set_option maxHeartbeats 4000000 in
theorem gt_X2_takeLiteralEnd (f : Nat) (I : am_I) (J : am_J) (Q : am_Q) (hG : Gr Q) (a1 : Int32) (hp : p_X2_takeLiteralEnd f I a1) : Gd MX2_takeLiteralEnd (am_o 3 0 0 (am_FvI J Q (s_X2_takeLiteralEnd f I a1))) 0 0 92 0 [some (.ref 3), some (.int a1), some (.ref 38)] [] I J Q := by
  unfold s_X2_takeLiteralEnd
  unfold p_X2_takeLiteralEnd at hp
  refine gd_aload_n (q := 1) rfl rfl rfl ?_
  refine gd_getI (q := 4) rfl rfl rfl (Nat.le_of_ble_eq_true rfl) rfl rfl ?_
  refine gd_iconst (v := (-1)) (q := 5) rfl rfl rfl ?_
  refine gx_icmp_eq (q := 8) (r := 32) rfl rfl rfl hp (fun c_5 hp => ?_) (fun c_5 hp => ?_)
  · refine gd_aload_n (q := 33) rfl rfl rfl ?_
    refine gd_iload_n (q := 34) rfl rfl rfl ?_
    refine gd_iconst (v := 4) (q := 35) rfl rfl rfl ?_
    refine gy_icmp_ne (q := 38) (r := 42) rfl rfl rfl (fun c_35 => ?_) (fun c_35 => ?_)
    · refine gd_iconst (v := 1) (q := 39) rfl rfl rfl ?_
      refine gd_goto (q := 43) rfl rfl ?_
      refine gd_putZ (q := 46) rfl rfl rfl (Nat.le_of_ble_eq_true rfl) rfl rfl rfl (by decide) rfl ?_
      refine gd_aload_n (q := 47) rfl rfl rfl ?_
      refine gd_iload_n (q := 48) rfl rfl rfl ?_
      refine gd_bipush (v := 16) (q := 50) rfl rfl rfl ?_
      refine gy_icmp_ne (q := 53) (r := 57) rfl rfl rfl (fun c_50 => ?_) (fun c_50 => ?_)
      · refine gd_iconst (v := 0) (q := 54) rfl rfl rfl ?_
        refine gd_goto (q := 58) rfl rfl ?_
        refine gd_putI (q := 61) rfl rfl rfl (Nat.le_of_ble_eq_true rfl) rfl rfl rfl (Or.inl rfl) ?_
        exact gd_return rfl rfl (Nat.le_refl 0) (Nat.le_refl 0) rfl
      · refine gd_iconst (v := 2) (q := 58) rfl rfl rfl ?_
        refine gd_putI (q := 61) rfl rfl rfl (Nat.le_of_ble_eq_true rfl) rfl rfl rfl (Or.inl rfl) ?_
        exact gd_return rfl rfl (Nat.le_refl 0) (Nat.le_refl 0) rfl
    · refine gd_iconst (v := 0) (q := 43) rfl rfl rfl ?_
      refine gd_putZ (q := 46) rfl rfl rfl (Nat.le_of_ble_eq_true rfl) rfl rfl rfl (by decide) rfl ?_
      refine gd_aload_n (q := 47) rfl rfl rfl ?_
      refine gd_iload_n (q := 48) rfl rfl rfl ?_
      refine gd_bipush (v := 16) (q := 50) rfl rfl rfl ?_
      refine gy_icmp_ne (q := 53) (r := 57) rfl rfl rfl (fun c_50 => ?_) (fun c_50 => ?_)
      · refine gd_iconst (v := 0) (q := 54) rfl rfl rfl ?_
        refine gd_goto (q := 58) rfl rfl ?_
        refine gd_putI (q := 61) rfl rfl rfl (Nat.le_of_ble_eq_true rfl) rfl rfl rfl (Or.inl rfl) ?_
        exact gd_return rfl rfl (Nat.le_refl 0) (Nat.le_refl 0) rfl
      · refine gd_iconst (v := 2) (q := 58) rfl rfl rfl ?_
        refine gd_putI (q := 61) rfl rfl rfl (Nat.le_of_ble_eq_true rfl) rfl rfl rfl (Or.inl rfl) ?_
        exact gd_return rfl rfl (Nat.le_refl 0) (Nat.le_refl 0) rfl
  · refine gd_aload_n (q := 9) rfl rfl rfl ?_
    refine gd_aload_n (q := 10) rfl rfl rfl ?_
    refine gd_bipush (v := 17) (q := 12) rfl rfl rfl ?_
    refine gd_cVv (q := 15) rfl rfl lk2_117 myX2_unload vxX2_unload (ct_X2_unload f _ _ _ hG _ hp.1) rfl (Nat.le_of_ble_eq_true rfl) rfl rfl (Nat.le_of_ble_eq_true rfl) rfl (Nat.le_of_ble_eq_true rfl) ⟨(Nat.le_of_ble_eq_true rfl), (Nat.le_of_ble_eq_true rfl)⟩ ?_
    replace hp := hp.2
    refine gd_aload_n (q := 16) rfl rfl rfl ?_
    refine gd_aload_n (q := 17) rfl rfl rfl ?_
    refine gd_getI (q := 20) rfl rfl rfl (Nat.le_of_ble_eq_true rfl) rfl rfl ?_
    refine gd_aload_n (q := 21) rfl rfl rfl ?_
    refine gd_getI (q := 24) rfl rfl rfl (Nat.le_of_ble_eq_true rfl) rfl rfl ?_
    refine gd_cVv (q := 27) rfl rfl lk2_127 myX1_addLiteral vxX1_addLiteral (ct_X1_addLiteral f _ _ _ hG _ _ hp) rfl (Nat.le_of_ble_eq_true rfl) rfl rfl (Nat.le_of_ble_eq_true rfl) rfl (Nat.le_of_ble_eq_true rfl) ⟨(Nat.le_of_ble_eq_true rfl), (Nat.le_of_ble_eq_true rfl)⟩ ?_
    refine gd_aload_n (q := 28) rfl rfl rfl ?_
    refine gd_iconst (v := (-1)) (q := 29) rfl rfl rfl ?_
    refine gd_putI (q := 32) rfl rfl rfl (Nat.le_of_ble_eq_true rfl) rfl rfl rfl (Or.inl rfl) ?_
    refine gd_aload_n (q := 33) rfl rfl rfl ?_
    refine gd_iload_n (q := 34) rfl rfl rfl ?_
    refine gd_iconst (v := 4) (q := 35) rfl rfl rfl ?_
    refine gy_icmp_ne (q := 38) (r := 42) rfl rfl rfl (fun c_35 => ?_) (fun c_35 => ?_)
    · refine gd_iconst (v := 1) (q := 39) rfl rfl rfl ?_
      refine gd_goto (q := 43) rfl rfl ?_
      refine gd_putZ (q := 46) rfl rfl rfl (Nat.le_of_ble_eq_true rfl) rfl rfl rfl (by decide) rfl ?_
      refine gd_aload_n (q := 47) rfl rfl rfl ?_
      refine gd_iload_n (q := 48) rfl rfl rfl ?_
      refine gd_bipush (v := 16) (q := 50) rfl rfl rfl ?_
      refine gy_icmp_ne (q := 53) (r := 57) rfl rfl rfl (fun c_50 => ?_) (fun c_50 => ?_)
      · refine gd_iconst (v := 0) (q := 54) rfl rfl rfl ?_
        refine gd_goto (q := 58) rfl rfl ?_
        refine gd_putI (q := 61) rfl rfl rfl (Nat.le_of_ble_eq_true rfl) rfl rfl rfl (Or.inl rfl) ?_
        exact gd_return rfl rfl (Nat.le_refl 0) (Nat.le_refl 0) rfl
      · refine gd_iconst (v := 2) (q := 58) rfl rfl rfl ?_
        refine gd_putI (q := 61) rfl rfl rfl (Nat.le_of_ble_eq_true rfl) rfl rfl rfl (Or.inl rfl) ?_
        exact gd_return rfl rfl (Nat.le_refl 0) (Nat.le_refl 0) rfl
    · refine gd_iconst (v := 0) (q := 43) rfl rfl rfl ?_
      refine gd_putZ (q := 46) rfl rfl rfl (Nat.le_of_ble_eq_true rfl) rfl rfl rfl (by decide) rfl ?_
      refine gd_aload_n (q := 47) rfl rfl rfl ?_
      refine gd_iload_n (q := 48) rfl rfl rfl ?_
      refine gd_bipush (v := 16) (q := 50) rfl rfl rfl ?_
      refine gy_icmp_ne (q := 53) (r := 57) rfl rfl rfl (fun c_50 => ?_) (fun c_50 => ?_)
      · refine gd_iconst (v := 0) (q := 54) rfl rfl rfl ?_
        refine gd_goto (q := 58) rfl rfl ?_
        refine gd_putI (q := 61) rfl rfl rfl (Nat.le_of_ble_eq_true rfl) rfl rfl rfl (Or.inl rfl) ?_
        exact gd_return rfl rfl (Nat.le_refl 0) (Nat.le_refl 0) rfl
      · refine gd_iconst (v := 2) (q := 58) rfl rfl rfl ?_
        refine gd_putI (q := 61) rfl rfl rfl (Nat.le_of_ble_eq_true rfl) rfl rfl rfl (Or.inl rfl) ?_
        exact gd_return rfl rfl (Nat.le_refl 0) (Nat.le_refl 0) rfl
theorem ct_X2_takeLiteralEnd (f : Nat) (I : am_I) (J : am_J) (Q : am_Q) (hG : Gr Q) (a1 : Int32) (hp : p_X2_takeLiteralEnd f I a1) : Cm MX2_takeLiteralEnd 3 0 0 92 [.ref 3, .int a1, .ref 38] I J Q (am_FvI J Q (s_X2_takeLiteralEnd f I a1)) := cm_of (by decide) rfl IX2_takeLiteralEnd_ok (Nat.le_of_ble_eq_true rfl) (gt_X2_takeLiteralEnd f I J Q hG a1 hp)
def s_X2_takeTopic_J24 (a3 : Int32) (f : Nat) (I : am_I) : am_I := (am_w (s_X1_addLiteral f (s_X1_addCell I (I 1 5)) 6 ((s_X1_addCell I (I 1 5)) 3 5)) 3 3 4)
def p_X2_takeTopic_J24 (a3 : Int32) (f : Nat) (I : am_I) : Prop := ((p_X1_addCell I (I 1 5)) ∧ (p_X1_addLiteral f (s_X1_addCell I (I 1 5)) 6 ((s_X1_addCell I (I 1 5)) 3 5)))
def s_X2_takeTopic (f : Nat) (I : am_I) (a3 : Int32) : am_I := (if (I 1 5) < a3 then (s_X2_takeTopic_J24 a3 f I) else (if (I 3 6) = (-1) then (s_X2_takeTopic_J24 a3 f (am_w I 3 6 (I 1 4))) else (s_X2_takeTopic_J24 a3 f I)))
def p_X2_takeTopic (f : Nat) (I : am_I) (a3 : Int32) : Prop := (if (I 1 5) < a3 then (p_X2_takeTopic_J24 a3 f I) else (if (I 3 6) = (-1) then (p_X2_takeTopic_J24 a3 f (am_w I 3 6 (I 1 4))) else (p_X2_takeTopic_J24 a3 f I)))
set_option maxRecDepth 100000 in
set_option maxHeartbeats 4000000 in
theorem gl_X2_takeTopic_24 (a3 : Int32) (f : Nat) (J : am_J) (Q : am_Q) (hG : Gr Q) (I : am_I) : p_X2_takeTopic_J24 a3 f I → Gd MX2_takeTopic (am_o 3 0 0 (am_FvI J Q (s_X2_takeTopic_J24 a3 f I))) 0 0 92 24 [some (.ref 3), some (.ref 1), some (.ref 38), none] [] I J Q := by
  intro hp
  unfold s_X2_takeTopic_J24
  unfold p_X2_takeTopic_J24 at hp
  refine gd_aload_n (q := 25) rfl rfl rfl ?_
  refine gd_aload_n (q := 26) rfl rfl rfl ?_
  refine gd_getI (q := 29) rfl rfl rfl (Nat.le_of_ble_eq_true rfl) rfl rfl ?_
  refine gd_cVv (q := 32) rfl rfl lk2_110 myX1_addCell vxX1_addCell (ct_X1_addCell f _ _ _ hG _ hp.1) rfl (Nat.le_of_ble_eq_true rfl) rfl rfl (Nat.le_of_ble_eq_true rfl) rfl (Nat.le_of_ble_eq_true rfl) ⟨(Nat.le_of_ble_eq_true rfl), (Nat.le_of_ble_eq_true rfl)⟩ ?_
  replace hp := hp.2
  refine gd_aload_n (q := 33) rfl rfl rfl ?_
  refine gd_bipush (v := 6) (q := 35) rfl rfl rfl ?_
  refine gd_aload_n (q := 36) rfl rfl rfl ?_
  refine gd_getI (q := 39) rfl rfl rfl (Nat.le_of_ble_eq_true rfl) rfl rfl ?_
  refine gd_cVv (q := 42) rfl rfl lk2_127 myX1_addLiteral vxX1_addLiteral (ct_X1_addLiteral f _ _ _ hG _ _ hp) rfl (Nat.le_of_ble_eq_true rfl) rfl rfl (Nat.le_of_ble_eq_true rfl) rfl (Nat.le_of_ble_eq_true rfl) ⟨(Nat.le_of_ble_eq_true rfl), (Nat.le_of_ble_eq_true rfl)⟩ ?_
  refine gd_aload_n (q := 43) rfl rfl rfl ?_
  refine gd_iconst (v := 4) (q := 44) rfl rfl rfl ?_
  refine gd_putI (q := 47) rfl rfl rfl (Nat.le_of_ble_eq_true rfl) rfl rfl rfl (Or.inl rfl) ?_
  exact gd_return rfl rfl (Nat.le_refl 0) (Nat.le_refl 0) rfl
set_option maxRecDepth 100000 in
set_option maxHeartbeats 4000000 in
theorem gt_X2_takeTopic (f : Nat) (I : am_I) (J : am_J) (Q : am_Q) (hG : Gr Q) (a3 : Int32) (hp : p_X2_takeTopic f I a3) : Gd MX2_takeTopic (am_o 3 0 0 (am_FvI J Q (s_X2_takeTopic f I a3))) 0 0 92 0 [some (.ref 3), some (.ref 1), some (.ref 38), some (.int a3)] [] I J Q := by
  unfold s_X2_takeTopic
  unfold p_X2_takeTopic at hp
  refine gd_aload_n (q := 1) rfl rfl rfl ?_
  refine gd_getI (q := 4) rfl rfl rfl (Nat.le_of_ble_eq_true rfl) rfl rfl ?_
  refine gd_iload_n (q := 5) rfl rfl rfl ?_
  refine gx_icmp_lt (q := 8) (r := 24) rfl rfl rfl hp (fun c_5 hp => ?_) (fun c_5 hp => ?_)
  · refine gd_drop 3 ?_
    exact gl_X2_takeTopic_24 a3 f J Q hG _ hp
  · refine gd_aload_n (q := 9) rfl rfl rfl ?_
    refine gd_getI (q := 12) rfl rfl rfl (Nat.le_of_ble_eq_true rfl) rfl rfl ?_
    refine gd_iconst (v := (-1)) (q := 13) rfl rfl rfl ?_
    refine gx_icmp_ne (q := 16) (r := 24) rfl rfl rfl hp (fun c_13 hp => ?_) (fun c_13 hp => ?_)
    · refine gd_aload_n (q := 17) rfl rfl rfl ?_
      refine gd_aload_n (q := 18) rfl rfl rfl ?_
      refine gd_getI (q := 21) rfl rfl rfl (Nat.le_of_ble_eq_true rfl) rfl rfl ?_
      refine gd_putI (q := 24) rfl rfl rfl (Nat.le_of_ble_eq_true rfl) rfl rfl rfl (Or.inl rfl) ?_
      refine gd_drop 3 ?_
      exact gl_X2_takeTopic_24 a3 f J Q hG _ hp
    · refine gd_drop 3 ?_
      exact gl_X2_takeTopic_24 a3 f J Q hG _ hp
theorem ct_X2_takeTopic (f : Nat) (I : am_I) (J : am_J) (Q : am_Q) (hG : Gr Q) (a3 : Int32) (hp : p_X2_takeTopic f I a3) : Cm MX2_takeTopic 3 0 0 92 [.ref 3, .ref 1, .ref 38, .int a3] I J Q (am_FvI J Q (s_X2_takeTopic f I a3)) := cm_of (by decide) rfl IX2_takeTopic_ok (Nat.le_of_ble_eq_true rfl) (gt_X2_takeTopic f I J Q hG a3 hp)
def s_X1_addRule (I : am_I) (a1 : Int32) : am_I := (if 16 ≤ (I 38 7) then I else (am_w (am_w (am_w I 39 (I 38 7).toNatClampNeg (vp_nar .byte (a1.toInt8.toInt32))) 40 (I 38 7).toNatClampNeg (vp_nar .short ((I 38 8).toInt16.toInt32))) 38 7 ((I 38 7) + 1)))
def p_X1_addRule (I : am_I) (a1 : Int32) : Prop := (if 16 ≤ (I 38 7) then True else (vp_in (I 38 7) 16 ∧ vp_in (I 38 7) 16))
set_option maxRecDepth 100000 in
set_option maxHeartbeats 4000000 in
theorem gt_X1_addRule (f : Nat) (I : am_I) (J : am_J) (Q : am_Q) (hG : Gr Q) (a1 : Int32) (hp : p_X1_addRule I a1) : Gd MX1_addRule (am_o 0 0 0 (am_FvI J Q (s_X1_addRule I a1))) 0 0 92 0 [some (.ref 38), some (.int a1)] [] I J Q := by
  unfold s_X1_addRule
  unfold p_X1_addRule at hp
  refine gd_aload_n (q := 1) rfl rfl rfl ?_
  refine gd_getI (q := 4) rfl rfl rfl (Nat.le_of_ble_eq_true rfl) rfl rfl ?_
  refine gd_bipush (v := 16) (q := 6) rfl rfl rfl ?_
  refine gx_icmp_ge (q := 9) (r := 44) rfl rfl rfl hp (fun c_6 hp => ?_) (fun c_6 hp => ?_)
  · exact gd_return rfl rfl (Nat.le_refl 0) (Nat.le_refl 0) rfl
  · refine gd_aload_n (q := 10) rfl rfl rfl ?_
    refine gd_getR (q := 13) (r := 39) rfl rfl rfl (Nat.le_of_ble_eq_true rfl) rfl rfl (gr_38_0 hG) ?_
    refine gd_aload_n (q := 14) rfl rfl rfl ?_
    refine gd_getI (q := 17) rfl rfl rfl (Nat.le_of_ble_eq_true rfl) rfl rfl ?_
    refine gd_iload_n (q := 18) rfl rfl rfl ?_
    refine gd_i2b (q := 19) rfl rfl ?_
    refine gd_bast (q := 20) rfl rfl (Nat.le_of_ble_eq_true rfl) rfl hp.1 ?_
    replace hp := hp.2
    refine gd_aload_n (q := 21) rfl rfl rfl ?_
    refine gd_getR (q := 24) (r := 40) rfl rfl rfl (Nat.le_of_ble_eq_true rfl) rfl rfl (gr_38_1 hG) ?_
    refine gd_aload_n (q := 25) rfl rfl rfl ?_
    refine gd_getI (q := 28) rfl rfl rfl (Nat.le_of_ble_eq_true rfl) rfl rfl ?_
    refine gd_aload_n (q := 29) rfl rfl rfl ?_
    refine gd_getI (q := 32) rfl rfl rfl (Nat.le_of_ble_eq_true rfl) rfl rfl ?_
    refine gd_i2s (q := 33) rfl rfl ?_
    refine gd_sast (q := 34) rfl rfl (Nat.le_of_ble_eq_true rfl) rfl hp ?_
    refine gd_aload_n (q := 35) rfl rfl rfl ?_
    refine gd_dup (q := 36) rfl rfl rfl ?_
    refine gd_getI (q := 39) rfl rfl rfl (Nat.le_of_ble_eq_true rfl) rfl rfl ?_
    refine gd_iconst (v := 1) (q := 40) rfl rfl rfl ?_
    refine gd_iadd (q := 41) rfl rfl ?_
    refine gd_putI (q := 44) rfl rfl rfl (Nat.le_of_ble_eq_true rfl) rfl rfl rfl (Or.inl rfl) ?_
    exact gd_return rfl rfl (Nat.le_refl 0) (Nat.le_refl 0) rfl
theorem ct_X1_addRule (f : Nat) (I : am_I) (J : am_J) (Q : am_Q) (hG : Gr Q) (a1 : Int32) (hp : p_X1_addRule I a1) : Cm MX1_addRule 0 0 0 92 [.ref 38, .int a1] I J Q (am_FvI J Q (s_X1_addRule I a1)) := cm_of (by decide) rfl IX1_addRule_ok (Nat.le_of_ble_eq_true rfl) (gt_X1_addRule f I J Q hG a1 hp)
def s_X2_take_J95 (a3 : Int32)  (v4 : Int32) (I : am_I) : am_I := (if v4 = 15 then (am_w (s_X1_addCell I (I 1 5)) 3 3 6) else (am_w (s_X1_addCell I (s_X1_codeOf v4)) 3 3 6))
def p_X2_take_J95 (a3 : Int32)  (v4 : Int32) (I : am_I) : Prop := (if v4 = 15 then (p_X1_addCell I (I 1 5)) else (p_X1_addCell I (s_X1_codeOf v4)))
def s_X2_take (f : Nat) (I : am_I) (a3 : Int32) : am_I := (if (s_X2_isHead (I 1 3)) = 0 then (if (I 1 3) = 3 then (am_w (am_w I 3 5 1) 3 3 2) else (if (I 1 3) = 6 then (am_w I 3 3 3) else (if (I 3 3) = 3 then (s_X2_takeTopic f I a3) else (if (I 1 3) = 15 then (s_X2_take_J95 a3 (I 1 3) I) else (if (s_X9_isVar (I 1 3)) = 0 then (if (I 1 3) = 24 then (s_X2_takeBracket f I (I 1 3)) else (if (I 1 3) = 25 then (s_X2_takeBracket f I (I 1 3)) else (if (s_X9_isOperator (I 1 3)) = 0 then (if (s_X2_isComparison (I 1 3)) = 0 then (s_X2_takeLiteralEnd f I (I 1 3)) else (am_w (am_w (s_X2_unload f I 17) 3 4 (I 1 3)) 3 3 5)) else (if (I 1 3) = 19 then (am_w (s_X2_hold (s_X2_unload f I 19) (I 1 3)) 3 3 5) else (am_w (s_X2_hold (s_X2_unload f I 17) (I 1 3)) 3 3 5))))) else (s_X2_take_J95 a3 (I 1 3) I)))))) else (am_w (s_X1_addRule I (I 1 3)) 3 3 1))
def p_X2_take (f : Nat) (I : am_I) (a3 : Int32) : Prop := (if (s_X2_isHead (I 1 3)) = 0 then (if (I 1 3) = 3 then True else (if (I 1 3) = 6 then True else (if (I 3 3) = 3 then (p_X2_takeTopic f I a3) else (if (I 1 3) = 15 then (p_X2_take_J95 a3 (I 1 3) I) else (if (s_X9_isVar (I 1 3)) = 0 then (if (I 1 3) = 24 then (p_X2_takeBracket f I (I 1 3)) else (if (I 1 3) = 25 then (p_X2_takeBracket f I (I 1 3)) else (if (s_X9_isOperator (I 1 3)) = 0 then (if (s_X2_isComparison (I 1 3)) = 0 then (p_X2_takeLiteralEnd f I (I 1 3)) else (p_X2_unload f I 17)) else (if (I 1 3) = 19 then ((p_X2_unload f I 19) ∧ (p_X2_hold (s_X2_unload f I 19) (I 1 3))) else ((p_X2_unload f I 17) ∧ (p_X2_hold (s_X2_unload f I 17) (I 1 3))))))) else (p_X2_take_J95 a3 (I 1 3) I)))))) else (p_X1_addRule I (I 1 3)))
set_option maxRecDepth 100000 in
set_option maxHeartbeats 4000000 in
theorem gl_X2_take_95 (a3 : Int32) (f : Nat) (J : am_J) (Q : am_Q) (hG : Gr Q) (v4 : Int32) (I : am_I) : p_X2_take_J95 a3 v4 I → Gd MX2_take (am_o 4 0 0 (am_FvI J Q (s_X2_take_J95 a3 v4 I))) 0 0 92 95 [some (.ref 3), some (.ref 1), some (.ref 38), none, some (.int v4)] [] I J Q := by
  intro hp
  unfold s_X2_take_J95
  unfold p_X2_take_J95 at hp
  refine gd_aload_n (q := 96) rfl rfl rfl ?_
  refine gd_iload (q := 98) rfl rfl rfl ?_
  refine gd_bipush (v := 15) (q := 100) rfl rfl rfl ?_
  refine gx_icmp_ne (q := 103) (r := 110) rfl rfl rfl hp (fun c_100 hp => ?_) (fun c_100 hp => ?_)
  · refine gd_aload_n (q := 104) rfl rfl rfl ?_
    refine gd_getI (q := 107) rfl rfl rfl (Nat.le_of_ble_eq_true rfl) rfl rfl ?_
    refine gd_goto (q := 115) rfl rfl ?_
    refine gd_cVv (q := 118) rfl rfl lk2_110 myX1_addCell vxX1_addCell (ct_X1_addCell f _ _ _ hG _ hp) rfl (Nat.le_of_ble_eq_true rfl) rfl rfl (Nat.le_of_ble_eq_true rfl) rfl (Nat.le_of_ble_eq_true rfl) ⟨(Nat.le_of_ble_eq_true rfl), (Nat.le_of_ble_eq_true rfl)⟩ ?_
    refine gd_aload_n (q := 119) rfl rfl rfl ?_
    refine gd_bipush (v := 6) (q := 121) rfl rfl rfl ?_
    refine gd_putI (q := 124) rfl rfl rfl (Nat.le_of_ble_eq_true rfl) rfl rfl rfl (Or.inl rfl) ?_
    refine gd_goto (q := 228) rfl rfl ?_
    exact gd_return rfl rfl (Nat.le_refl 0) (Nat.le_refl 0) rfl
  · refine gd_iload (q := 112) rfl rfl rfl ?_
    refine gd_cSi (q := 115) rfl rfl lk2_106 myX1_codeOf sxX1_codeOf (ct_X1_codeOf f _ _ _ hG _) rfl rfl (Nat.le_of_ble_eq_true rfl) ⟨(Nat.le_of_ble_eq_true rfl), (Nat.le_of_ble_eq_true rfl)⟩ ?_
    refine gd_cVv (q := 118) rfl rfl lk2_110 myX1_addCell vxX1_addCell (ct_X1_addCell f _ _ _ hG _ hp) rfl (Nat.le_of_ble_eq_true rfl) rfl rfl (Nat.le_of_ble_eq_true rfl) rfl (Nat.le_of_ble_eq_true rfl) ⟨(Nat.le_of_ble_eq_true rfl), (Nat.le_of_ble_eq_true rfl)⟩ ?_
    refine gd_aload_n (q := 119) rfl rfl rfl ?_
    refine gd_bipush (v := 6) (q := 121) rfl rfl rfl ?_
    refine gd_putI (q := 124) rfl rfl rfl (Nat.le_of_ble_eq_true rfl) rfl rfl rfl (Or.inl rfl) ?_
    refine gd_goto (q := 228) rfl rfl ?_
    exact gd_return rfl rfl (Nat.le_refl 0) (Nat.le_refl 0) rfl
set_option maxRecDepth 100000 in
set_option maxHeartbeats 4000000 in
theorem gt_X2_take (f : Nat) (I : am_I) (J : am_J) (Q : am_Q) (hG : Gr Q) (a3 : Int32) (hp : p_X2_take f I a3) : Gd MX2_take (am_o 4 0 0 (am_FvI J Q (s_X2_take f I a3))) 0 0 92 0 [some (.ref 3), some (.ref 1), some (.ref 38), some (.int a3), none] [] I J Q := by
  unfold s_X2_take
  unfold p_X2_take at hp
  refine gd_aload_n (q := 1) rfl rfl rfl ?_
  refine gd_getI (q := 4) rfl rfl rfl (Nat.le_of_ble_eq_true rfl) rfl rfl ?_
  refine gd_istore (q := 6) rfl rfl (Nat.le_of_ble_eq_true rfl) rfl ?_
  refine gd_iload (q := 8) rfl rfl rfl ?_
  refine gd_cSi (q := 11) rfl rfl lk2_75 myX2_isHead sxX2_isHead (ct_X2_isHead f _ _ _ hG _) rfl rfl (Nat.le_of_ble_eq_true rfl) ⟨(Nat.le_of_ble_eq_true rfl), (Nat.le_of_ble_eq_true rfl)⟩ ?_
  refine gx_if_eq (q := 14) (r := 28) rfl rfl rfl hp (fun c_11 hp => ?_) (fun c_11 hp => ?_)
  · refine gd_iload (q := 30) rfl rfl rfl ?_
    refine gd_iconst (v := 3) (q := 31) rfl rfl rfl ?_
    refine gx_icmp_ne (q := 34) (r := 47) rfl rfl rfl hp (fun c_31 hp => ?_) (fun c_31 hp => ?_)
    · refine gd_aload_n (q := 35) rfl rfl rfl ?_
      refine gd_iconst (v := 1) (q := 36) rfl rfl rfl ?_
      refine gd_putZ (q := 39) rfl rfl rfl (Nat.le_of_ble_eq_true rfl) rfl rfl rfl (by decide) rfl ?_
      refine gd_aload_n (q := 40) rfl rfl rfl ?_
      refine gd_iconst (v := 2) (q := 41) rfl rfl rfl ?_
      refine gd_putI (q := 44) rfl rfl rfl (Nat.le_of_ble_eq_true rfl) rfl rfl rfl (Or.inl rfl) ?_
      refine gd_goto (q := 228) rfl rfl ?_
      exact gd_return rfl rfl (Nat.le_refl 0) (Nat.le_refl 0) rfl
    · refine gd_iload (q := 49) rfl rfl rfl ?_
      refine gd_bipush (v := 6) (q := 51) rfl rfl rfl ?_
      refine gx_icmp_ne (q := 54) (r := 62) rfl rfl rfl hp (fun c_51 hp => ?_) (fun c_51 hp => ?_)
      · refine gd_aload_n (q := 55) rfl rfl rfl ?_
        refine gd_iconst (v := 3) (q := 56) rfl rfl rfl ?_
        refine gd_putI (q := 59) rfl rfl rfl (Nat.le_of_ble_eq_true rfl) rfl rfl rfl (Or.inl rfl) ?_
        refine gd_goto (q := 228) rfl rfl ?_
        exact gd_return rfl rfl (Nat.le_refl 0) (Nat.le_refl 0) rfl
      · refine gd_aload_n (q := 63) rfl rfl rfl ?_
        refine gd_getI (q := 66) rfl rfl rfl (Nat.le_of_ble_eq_true rfl) rfl rfl ?_
        refine gd_iconst (v := 3) (q := 67) rfl rfl rfl ?_
        refine gx_icmp_ne (q := 70) (r := 80) rfl rfl rfl hp (fun c_67 hp => ?_) (fun c_67 hp => ?_)
        · refine gd_aload_n (q := 71) rfl rfl rfl ?_
          refine gd_aload_n (q := 72) rfl rfl rfl ?_
          refine gd_aload_n (q := 73) rfl rfl rfl ?_
          refine gd_iload_n (q := 74) rfl rfl rfl ?_
          refine gd_cVv (q := 77) rfl rfl lk2_100 myX2_takeTopic vxX2_takeTopic (ct_X2_takeTopic f _ _ _ hG _ hp) rfl (Nat.le_of_ble_eq_true rfl) rfl rfl (Nat.le_of_ble_eq_true rfl) rfl (Nat.le_of_ble_eq_true rfl) ⟨(Nat.le_of_ble_eq_true rfl), (Nat.le_of_ble_eq_true rfl)⟩ ?_
          refine gd_goto (q := 228) rfl rfl ?_
          exact gd_return rfl rfl (Nat.le_refl 0) (Nat.le_refl 0) rfl
        · refine gd_iload (q := 82) rfl rfl rfl ?_
          refine gd_bipush (v := 15) (q := 84) rfl rfl rfl ?_
          refine gx_icmp_eq (q := 87) (r := 95) rfl rfl rfl hp (fun c_84 hp => ?_) (fun c_84 hp => ?_)
          · refine gd_drop 3 ?_
            exact gl_X2_take_95 a3 f J Q hG _ _ hp
          · refine gd_iload (q := 89) rfl rfl rfl ?_
            refine gd_cSi (q := 92) rfl rfl lk2_93 myX9_isVar sxX9_isVar (ct_X9_isVar f _ _ _ hG _) rfl rfl (Nat.le_of_ble_eq_true rfl) ⟨(Nat.le_of_ble_eq_true rfl), (Nat.le_of_ble_eq_true rfl)⟩ ?_
            refine gx_if_eq (q := 95) (r := 127) rfl rfl rfl hp (fun c_92 hp => ?_) (fun c_92 hp => ?_)
            · refine gd_iload (q := 129) rfl rfl rfl ?_
              refine gd_bipush (v := 24) (q := 131) rfl rfl rfl ?_
              refine gx_icmp_eq (q := 134) (r := 141) rfl rfl rfl hp (fun c_131 hp => ?_) (fun c_131 hp => ?_)
              · refine gd_aload_n (q := 142) rfl rfl rfl ?_
                refine gd_iload (q := 144) rfl rfl rfl ?_
                refine gd_aload_n (q := 145) rfl rfl rfl ?_
                refine gd_cVv (q := 148) rfl rfl lk2_113 myX2_takeBracket vxX2_takeBracket (ct_X2_takeBracket f _ _ _ hG _ hp) rfl (Nat.le_of_ble_eq_true rfl) rfl rfl (Nat.le_of_ble_eq_true rfl) rfl (Nat.le_of_ble_eq_true rfl) ⟨(Nat.le_of_ble_eq_true rfl), (Nat.le_of_ble_eq_true rfl)⟩ ?_
                refine gd_goto (q := 228) rfl rfl ?_
                exact gd_return rfl rfl (Nat.le_refl 0) (Nat.le_refl 0) rfl
              · refine gd_iload (q := 136) rfl rfl rfl ?_
                refine gd_bipush (v := 25) (q := 138) rfl rfl rfl ?_
                refine gx_icmp_ne (q := 141) (r := 151) rfl rfl rfl hp (fun c_138 hp => ?_) (fun c_138 hp => ?_)
                · refine gd_aload_n (q := 142) rfl rfl rfl ?_
                  refine gd_iload (q := 144) rfl rfl rfl ?_
                  refine gd_aload_n (q := 145) rfl rfl rfl ?_
                  refine gd_cVv (q := 148) rfl rfl lk2_113 myX2_takeBracket vxX2_takeBracket (ct_X2_takeBracket f _ _ _ hG _ hp) rfl (Nat.le_of_ble_eq_true rfl) rfl rfl (Nat.le_of_ble_eq_true rfl) rfl (Nat.le_of_ble_eq_true rfl) ⟨(Nat.le_of_ble_eq_true rfl), (Nat.le_of_ble_eq_true rfl)⟩ ?_
                  refine gd_goto (q := 228) rfl rfl ?_
                  exact gd_return rfl rfl (Nat.le_refl 0) (Nat.le_refl 0) rfl
                · refine gd_iload (q := 153) rfl rfl rfl ?_
                  refine gd_cSi (q := 156) rfl rfl lk2_84 myX9_isOperator sxX9_isOperator (ct_X9_isOperator f _ _ _ hG _) rfl rfl (Nat.le_of_ble_eq_true rfl) ⟨(Nat.le_of_ble_eq_true rfl), (Nat.le_of_ble_eq_true rfl)⟩ ?_
                  refine gx_if_eq (q := 159) (r := 192) rfl rfl rfl hp (fun c_156 hp => ?_) (fun c_156 hp => ?_)
                  · refine gd_iload (q := 194) rfl rfl rfl ?_
                    refine gd_cSi (q := 197) rfl rfl lk2_90 myX2_isComparison sxX2_isComparison (ct_X2_isComparison f _ _ _ hG _) rfl rfl (Nat.le_of_ble_eq_true rfl) ⟨(Nat.le_of_ble_eq_true rfl), (Nat.le_of_ble_eq_true rfl)⟩ ?_
                    refine gx_if_eq (q := 200) (r := 221) rfl rfl rfl hp (fun c_197 hp => ?_) (fun c_197 hp => ?_)
                    · refine gd_aload_n (q := 222) rfl rfl rfl ?_
                      refine gd_iload (q := 224) rfl rfl rfl ?_
                      refine gd_aload_n (q := 225) rfl rfl rfl ?_
                      refine gd_cVv (q := 228) rfl rfl lk2_124 myX2_takeLiteralEnd vxX2_takeLiteralEnd (ct_X2_takeLiteralEnd f _ _ _ hG _ hp) rfl (Nat.le_of_ble_eq_true rfl) rfl rfl (Nat.le_of_ble_eq_true rfl) rfl (Nat.le_of_ble_eq_true rfl) ⟨(Nat.le_of_ble_eq_true rfl), (Nat.le_of_ble_eq_true rfl)⟩ ?_
                      exact gd_return rfl rfl (Nat.le_refl 0) (Nat.le_refl 0) rfl
                    · refine gd_aload_n (q := 201) rfl rfl rfl ?_
                      refine gd_aload_n (q := 202) rfl rfl rfl ?_
                      refine gd_bipush (v := 17) (q := 204) rfl rfl rfl ?_
                      refine gd_cVv (q := 207) rfl rfl lk2_117 myX2_unload vxX2_unload (ct_X2_unload f _ _ _ hG _ hp) rfl (Nat.le_of_ble_eq_true rfl) rfl rfl (Nat.le_of_ble_eq_true rfl) rfl (Nat.le_of_ble_eq_true rfl) ⟨(Nat.le_of_ble_eq_true rfl), (Nat.le_of_ble_eq_true rfl)⟩ ?_
                      refine gd_aload_n (q := 208) rfl rfl rfl ?_
                      refine gd_iload (q := 210) rfl rfl rfl ?_
                      refine gd_putI (q := 213) rfl rfl rfl (Nat.le_of_ble_eq_true rfl) rfl rfl rfl (Or.inl rfl) ?_
                      refine gd_aload_n (q := 214) rfl rfl rfl ?_
                      refine gd_iconst (v := 5) (q := 215) rfl rfl rfl ?_
                      refine gd_putI (q := 218) rfl rfl rfl (Nat.le_of_ble_eq_true rfl) rfl rfl rfl (Or.inl rfl) ?_
                      refine gd_goto (q := 228) rfl rfl ?_
                      exact gd_return rfl rfl (Nat.le_refl 0) (Nat.le_refl 0) rfl
                  · refine gd_aload_n (q := 160) rfl rfl rfl ?_
                    refine gd_aload_n (q := 161) rfl rfl rfl ?_
                    refine gd_iload (q := 163) rfl rfl rfl ?_
                    refine gd_bipush (v := 19) (q := 165) rfl rfl rfl ?_
                    refine gx_icmp_ne (q := 168) (r := 173) rfl rfl rfl hp (fun c_165 hp => ?_) (fun c_165 hp => ?_)
                    · refine gd_bipush (v := 19) (q := 170) rfl rfl rfl ?_
                      refine gd_goto (q := 175) rfl rfl ?_
                      refine gd_cVv (q := 178) rfl rfl lk2_117 myX2_unload vxX2_unload (ct_X2_unload f _ _ _ hG _ hp.1) rfl (Nat.le_of_ble_eq_true rfl) rfl rfl (Nat.le_of_ble_eq_true rfl) rfl (Nat.le_of_ble_eq_true rfl) ⟨(Nat.le_of_ble_eq_true rfl), (Nat.le_of_ble_eq_true rfl)⟩ ?_
                      replace hp := hp.2
                      refine gd_aload_n (q := 179) rfl rfl rfl ?_
                      refine gd_iload (q := 181) rfl rfl rfl ?_
                      refine gd_cVv (q := 184) rfl rfl lk2_121 myX2_hold vxX2_hold (ct_X2_hold f _ _ _ hG _ hp) rfl (Nat.le_of_ble_eq_true rfl) rfl rfl (Nat.le_of_ble_eq_true rfl) rfl (Nat.le_of_ble_eq_true rfl) ⟨(Nat.le_of_ble_eq_true rfl), (Nat.le_of_ble_eq_true rfl)⟩ ?_
                      refine gd_aload_n (q := 185) rfl rfl rfl ?_
                      refine gd_iconst (v := 5) (q := 186) rfl rfl rfl ?_
                      refine gd_putI (q := 189) rfl rfl rfl (Nat.le_of_ble_eq_true rfl) rfl rfl rfl (Or.inl rfl) ?_
                      refine gd_goto (q := 228) rfl rfl ?_
                      exact gd_return rfl rfl (Nat.le_refl 0) (Nat.le_refl 0) rfl
                    · refine gd_bipush (v := 17) (q := 175) rfl rfl rfl ?_
                      refine gd_cVv (q := 178) rfl rfl lk2_117 myX2_unload vxX2_unload (ct_X2_unload f _ _ _ hG _ hp.1) rfl (Nat.le_of_ble_eq_true rfl) rfl rfl (Nat.le_of_ble_eq_true rfl) rfl (Nat.le_of_ble_eq_true rfl) ⟨(Nat.le_of_ble_eq_true rfl), (Nat.le_of_ble_eq_true rfl)⟩ ?_
                      replace hp := hp.2
                      refine gd_aload_n (q := 179) rfl rfl rfl ?_
                      refine gd_iload (q := 181) rfl rfl rfl ?_
                      refine gd_cVv (q := 184) rfl rfl lk2_121 myX2_hold vxX2_hold (ct_X2_hold f _ _ _ hG _ hp) rfl (Nat.le_of_ble_eq_true rfl) rfl rfl (Nat.le_of_ble_eq_true rfl) rfl (Nat.le_of_ble_eq_true rfl) ⟨(Nat.le_of_ble_eq_true rfl), (Nat.le_of_ble_eq_true rfl)⟩ ?_
                      refine gd_aload_n (q := 185) rfl rfl rfl ?_
                      refine gd_iconst (v := 5) (q := 186) rfl rfl rfl ?_
                      refine gd_putI (q := 189) rfl rfl rfl (Nat.le_of_ble_eq_true rfl) rfl rfl rfl (Or.inl rfl) ?_
                      refine gd_goto (q := 228) rfl rfl ?_
                      exact gd_return rfl rfl (Nat.le_refl 0) (Nat.le_refl 0) rfl
            · refine gd_drop 3 ?_
              exact gl_X2_take_95 a3 f J Q hG _ _ hp
  · refine gd_aload_n (q := 15) rfl rfl rfl ?_
    refine gd_iload (q := 17) rfl rfl rfl ?_
    refine gd_cVv (q := 20) rfl rfl lk2_96 myX1_addRule vxX1_addRule (ct_X1_addRule f _ _ _ hG _ hp) rfl (Nat.le_of_ble_eq_true rfl) rfl rfl (Nat.le_of_ble_eq_true rfl) rfl (Nat.le_of_ble_eq_true rfl) ⟨(Nat.le_of_ble_eq_true rfl), (Nat.le_of_ble_eq_true rfl)⟩ ?_
    refine gd_aload_n (q := 21) rfl rfl rfl ?_
    refine gd_iconst (v := 1) (q := 22) rfl rfl rfl ?_
    refine gd_putI (q := 25) rfl rfl rfl (Nat.le_of_ble_eq_true rfl) rfl rfl rfl (Or.inl rfl) ?_
    refine gd_goto (q := 228) rfl rfl ?_
    exact gd_return rfl rfl (Nat.le_refl 0) (Nat.le_refl 0) rfl
theorem ct_X2_take (f : Nat) (I : am_I) (J : am_J) (Q : am_Q) (hG : Gr Q) (a3 : Int32) (hp : p_X2_take f I a3) : Cm MX2_take 4 0 0 92 [.ref 3, .ref 1, .ref 38, .int a3] I J Q (am_FvI J Q (s_X2_take f I a3)) := cm_of (by decide) rfl IX2_take_ok (Nat.le_of_ble_eq_true rfl) (gt_X2_take f I J Q hG a3 hp)
def s_X2_parse_L21 (a3 : Int32) (f : Nat) : Nat → Int32 → Int32 → Int32 → am_I → Int32 × am_I
  | 0, _, _, _, I => (0, I)
  | g + 1, v4, v5, v6, I => (if v5 = 0 then (if v4 = 0 then (if (I 3 6) = (-1) then (v4, I) else (4, (am_w I 3 7 (I 3 6)))) else (v4, (am_w I 3 7 (I 1 4)))) else (if 400 < v6 then (if v4 = 0 then (if (I 3 6) = (-1) then (v4, I) else (4, (am_w I 3 7 (I 3 6)))) else (v4, (am_w I 3 7 (I 1 4)))) else (if (s_X2_faultOf (s_X6_advance f I) ((s_X6_advance f I) 1 3) v6 ((s_X6_advance f I) 38 7)) = 0 then (if ((s_X6_advance f I) 1 3) = 26 then (s_X2_parse_L21 a3 f g (s_X2_faultOf (s_X6_advance f I) ((s_X6_advance f I) 1 3) v6 ((s_X6_advance f I) 38 7)) 0 (v6 + 1) (s_X6_advance f I)) else (s_X2_parse_L21 a3 f g (s_X2_faultOf (s_X6_advance f I) ((s_X6_advance f I) 1 3) v6 ((s_X6_advance f I) 38 7)) 1 (v6 + 1) (s_X2_take f (s_X6_advance f I) a3))) else (s_X2_parse_L21 a3 f g (s_X2_faultOf (s_X6_advance f I) ((s_X6_advance f I) 1 3) v6 ((s_X6_advance f I) 38 7)) 0 (v6 + 1) (s_X6_advance f I)))))
def p_X2_parse_L21 (a3 : Int32) (f : Nat) : Nat → Int32 → Int32 → Int32 → am_I → Prop
  | 0, _, _, _, _ => False
  | g + 1, v4, v5, v6, I => (if v5 = 0 then True else (if 400 < v6 then True else ((p_X6_advance f I) ∧ (if (s_X2_faultOf (s_X6_advance f I) ((s_X6_advance f I) 1 3) v6 ((s_X6_advance f I) 38 7)) = 0 then (if ((s_X6_advance f I) 1 3) = 26 then (p_X2_parse_L21 a3 f g (s_X2_faultOf (s_X6_advance f I) ((s_X6_advance f I) 1 3) v6 ((s_X6_advance f I) 38 7)) 0 (v6 + 1) (s_X6_advance f I)) else ((p_X2_take f (s_X6_advance f I) a3) ∧ (p_X2_parse_L21 a3 f g (s_X2_faultOf (s_X6_advance f I) ((s_X6_advance f I) 1 3) v6 ((s_X6_advance f I) 38 7)) 1 (v6 + 1) (s_X2_take f (s_X6_advance f I) a3)))) else (p_X2_parse_L21 a3 f g (s_X2_faultOf (s_X6_advance f I) ((s_X6_advance f I) 1 3) v6 ((s_X6_advance f I) 38 7)) 0 (v6 + 1) (s_X6_advance f I))))))
def s_X2_parse (f : Nat) (I : am_I) (a3 : Int32) : Int32 × am_I := (s_X2_parse_L21 a3 f f 0 1 0 (s_X1_clear (s_X6_rewind (s_X2_begin I))))
def p_X2_parse (f : Nat) (I : am_I) (a3 : Int32) : Prop := (p_X2_parse_L21 a3 f f 0 1 0 (s_X1_clear (s_X6_rewind (s_X2_begin I))))
set_option maxRecDepth 100000 in
set_option maxHeartbeats 4000000 in
theorem gl_X2_parse_L21 (a3 : Int32) (f : Nat) (J : am_J) (Q : am_Q) (hG : Gr Q) : ∀ g : Nat, (∀ (v4 : Int32) (v5 : Int32) (v6 : Int32) (I : am_I), p_X2_parse_L21 a3 f g v4 v5 v6 I → Gd MX2_parse (am_o 8 0 0 (am_FiI J Q (s_X2_parse_L21 a3 f g v4 v5 v6 I))) 0 0 92 21 [some (.ref 3), some (.ref 1), some (.ref 38), some (.int a3), some (.int v4), some (.int v5), some (.int v6)] [] I J Q) := by
  intro g
  induction g with
  | zero => exact fun _ _ _ _ hp => False.elim hp
  | succ g ih =>
    have ih_21 := ih
    intro v4 v5 v6 I hp
    rw [s_X2_parse_L21]
    rw [p_X2_parse_L21] at hp
    refine gd_iload (q := 23) rfl rfl rfl ?_
    refine gx_if_eq (q := 26) (r := 93) rfl rfl rfl hp (fun c_23 hp => ?_) (fun c_23 hp => ?_)
    · refine gd_iload (q := 95) rfl rfl rfl ?_
      refine gy_if_eq (q := 98) (r := 109) rfl rfl rfl (fun c_95 => ?_) (fun c_95 => ?_)
      · refine gd_aload_n (q := 110) rfl rfl rfl ?_
        refine gd_getI (q := 113) rfl rfl rfl (Nat.le_of_ble_eq_true rfl) rfl rfl ?_
        refine gd_iconst (v := (-1)) (q := 114) rfl rfl rfl ?_
        refine gy_icmp_eq (q := 117) (r := 128) rfl rfl rfl (fun c_114 => ?_) (fun c_114 => ?_)
        · refine gd_iload (q := 130) rfl rfl rfl ?_
          exact gd_ireturn rfl rfl rfl (Nat.le_refl 0) (Nat.le_refl 0) rfl
        · refine gd_iconst (v := 4) (q := 118) rfl rfl rfl ?_
          refine gd_istore (q := 120) rfl rfl (Nat.le_of_ble_eq_true rfl) rfl ?_
          refine gd_aload_n (q := 121) rfl rfl rfl ?_
          refine gd_aload_n (q := 122) rfl rfl rfl ?_
          refine gd_getI (q := 125) rfl rfl rfl (Nat.le_of_ble_eq_true rfl) rfl rfl ?_
          refine gd_putI (q := 128) rfl rfl rfl (Nat.le_of_ble_eq_true rfl) rfl rfl rfl (Or.inl rfl) ?_
          refine gd_iload (q := 130) rfl rfl rfl ?_
          exact gd_ireturn rfl rfl rfl (Nat.le_refl 0) (Nat.le_refl 0) rfl
      · refine gd_aload_n (q := 99) rfl rfl rfl ?_
        refine gd_aload_n (q := 100) rfl rfl rfl ?_
        refine gd_getI (q := 103) rfl rfl rfl (Nat.le_of_ble_eq_true rfl) rfl rfl ?_
        refine gd_putI (q := 106) rfl rfl rfl (Nat.le_of_ble_eq_true rfl) rfl rfl rfl (Or.inl rfl) ?_
        refine gd_goto (q := 128) rfl rfl ?_
        refine gd_iload (q := 130) rfl rfl rfl ?_
        exact gd_ireturn rfl rfl rfl (Nat.le_refl 0) (Nat.le_refl 0) rfl
    · refine gd_iload (q := 28) rfl rfl rfl ?_
      refine gd_sipush (v := 400) (q := 31) rfl rfl rfl ?_
      refine gx_icmp_gt (q := 34) (r := 93) rfl rfl rfl hp (fun c_31 hp => ?_) (fun c_31 hp => ?_)
      · refine gd_iload (q := 95) rfl rfl rfl ?_
        refine gy_if_eq (q := 98) (r := 109) rfl rfl rfl (fun c_95 => ?_) (fun c_95 => ?_)
        · refine gd_aload_n (q := 110) rfl rfl rfl ?_
          refine gd_getI (q := 113) rfl rfl rfl (Nat.le_of_ble_eq_true rfl) rfl rfl ?_
          refine gd_iconst (v := (-1)) (q := 114) rfl rfl rfl ?_
          refine gy_icmp_eq (q := 117) (r := 128) rfl rfl rfl (fun c_114 => ?_) (fun c_114 => ?_)
          · refine gd_iload (q := 130) rfl rfl rfl ?_
            exact gd_ireturn rfl rfl rfl (Nat.le_refl 0) (Nat.le_refl 0) rfl
          · refine gd_iconst (v := 4) (q := 118) rfl rfl rfl ?_
            refine gd_istore (q := 120) rfl rfl (Nat.le_of_ble_eq_true rfl) rfl ?_
            refine gd_aload_n (q := 121) rfl rfl rfl ?_
            refine gd_aload_n (q := 122) rfl rfl rfl ?_
            refine gd_getI (q := 125) rfl rfl rfl (Nat.le_of_ble_eq_true rfl) rfl rfl ?_
            refine gd_putI (q := 128) rfl rfl rfl (Nat.le_of_ble_eq_true rfl) rfl rfl rfl (Or.inl rfl) ?_
            refine gd_iload (q := 130) rfl rfl rfl ?_
            exact gd_ireturn rfl rfl rfl (Nat.le_refl 0) (Nat.le_refl 0) rfl
        · refine gd_aload_n (q := 99) rfl rfl rfl ?_
          refine gd_aload_n (q := 100) rfl rfl rfl ?_
          refine gd_getI (q := 103) rfl rfl rfl (Nat.le_of_ble_eq_true rfl) rfl rfl ?_
          refine gd_putI (q := 106) rfl rfl rfl (Nat.le_of_ble_eq_true rfl) rfl rfl rfl (Or.inl rfl) ?_
          refine gd_goto (q := 128) rfl rfl ?_
          refine gd_iload (q := 130) rfl rfl rfl ?_
          exact gd_ireturn rfl rfl rfl (Nat.le_refl 0) (Nat.le_refl 0) rfl
      · refine gd_aload_n (q := 35) rfl rfl rfl ?_
        refine gd_cVv (q := 38) rfl rfl lk2_28 myX6_advance vxX6_advance (ct_X6_advance f _ _ _ hG hp.1) rfl (Nat.le_of_ble_eq_true rfl) rfl rfl (Nat.le_of_ble_eq_true rfl) rfl (Nat.le_of_ble_eq_true rfl) ⟨(Nat.le_of_ble_eq_true rfl), (Nat.le_of_ble_eq_true rfl)⟩ ?_
        replace hp := hp.2
        refine gd_aload_n (q := 39) rfl rfl rfl ?_
        refine gd_aload_n (q := 40) rfl rfl rfl ?_
        refine gd_getI (q := 43) rfl rfl rfl (Nat.le_of_ble_eq_true rfl) rfl rfl ?_
        refine gd_iload (q := 45) rfl rfl rfl ?_
        refine gd_aload_n (q := 46) rfl rfl rfl ?_
        refine gd_getI (q := 49) rfl rfl rfl (Nat.le_of_ble_eq_true rfl) rfl rfl ?_
        refine gd_cVi (q := 52) rfl rfl lk2_38 myX2_faultOf vxX2_faultOf (ct_X2_faultOf f _ _ _ hG _ _ _) rfl (Nat.le_of_ble_eq_true rfl) rfl rfl (Nat.le_of_ble_eq_true rfl) rfl (Nat.le_of_ble_eq_true rfl) ⟨(Nat.le_of_ble_eq_true rfl), (Nat.le_of_ble_eq_true rfl)⟩ ?_
        refine gd_istore (q := 54) rfl rfl (Nat.le_of_ble_eq_true rfl) rfl ?_
        refine gd_iload (q := 56) rfl rfl rfl ?_
        refine gx_if_ne (q := 59) (r := 72) rfl rfl rfl hp (fun c_56 hp => ?_) (fun c_56 hp => ?_)
        · refine gd_aload_n (q := 60) rfl rfl rfl ?_
          refine gd_getI (q := 63) rfl rfl rfl (Nat.le_of_ble_eq_true rfl) rfl rfl ?_
          refine gd_bipush (v := 26) (q := 65) rfl rfl rfl ?_
          refine gx_icmp_eq (q := 68) (r := 72) rfl rfl rfl hp (fun c_65 hp => ?_) (fun c_65 hp => ?_)
          · refine gd_iconst (v := 0) (q := 73) rfl rfl rfl ?_
            refine gd_istore (q := 75) rfl rfl (Nat.le_of_ble_eq_true rfl) rfl ?_
            refine gd_iload (q := 77) rfl rfl rfl ?_
            refine gd_if_eq (q := 80) (r := 87) rfl rfl rfl (fun _ => ?_) (fun c => absurd c (by decide))
            refine gd_iinc (v := (v6 + 1)) (q := 90) rfl rfl rfl rfl (Nat.le_of_ble_eq_true rfl) rfl ?_
            refine gd_goto (q := 21) rfl rfl ?_
            exact ih_21 _ 0 _ _ hp
          · refine gd_iconst (v := 1) (q := 69) rfl rfl rfl ?_
            refine gd_goto (q := 73) rfl rfl ?_
            refine gd_istore (q := 75) rfl rfl (Nat.le_of_ble_eq_true rfl) rfl ?_
            refine gd_iload (q := 77) rfl rfl rfl ?_
            refine gd_if_eq (q := 80) (r := 87) rfl rfl rfl (fun c => absurd c (by decide)) (fun _ => ?_)
            refine gd_aload_n (q := 81) rfl rfl rfl ?_
            refine gd_aload_n (q := 82) rfl rfl rfl ?_
            refine gd_aload_n (q := 83) rfl rfl rfl ?_
            refine gd_iload_n (q := 84) rfl rfl rfl ?_
            refine gd_cVv (q := 87) rfl rfl lk2_42 myX2_take vxX2_take (ct_X2_take f _ _ _ hG _ hp.1) rfl (Nat.le_of_ble_eq_true rfl) rfl rfl (Nat.le_of_ble_eq_true rfl) rfl (Nat.le_of_ble_eq_true rfl) ⟨(Nat.le_of_ble_eq_true rfl), (Nat.le_of_ble_eq_true rfl)⟩ ?_
            replace hp := hp.2
            refine gd_iinc (v := (v6 + 1)) (q := 90) rfl rfl rfl rfl (Nat.le_of_ble_eq_true rfl) rfl ?_
            refine gd_goto (q := 21) rfl rfl ?_
            exact ih_21 _ _ _ _ hp
        · refine gd_iconst (v := 0) (q := 73) rfl rfl rfl ?_
          refine gd_istore (q := 75) rfl rfl (Nat.le_of_ble_eq_true rfl) rfl ?_
          refine gd_iload (q := 77) rfl rfl rfl ?_
          refine gd_if_eq (q := 80) (r := 87) rfl rfl rfl (fun _ => ?_) (fun c => absurd c (by decide))
          refine gd_iinc (v := (v6 + 1)) (q := 90) rfl rfl rfl rfl (Nat.le_of_ble_eq_true rfl) rfl ?_
          refine gd_goto (q := 21) rfl rfl ?_
          exact ih_21 _ 0 _ _ hp
theorem gl_X2_parse_21 (a3 : Int32) (f : Nat) (J : am_J) (Q : am_Q) (hG : Gr Q) (g : Nat) : ∀ (v4 : Int32) (v5 : Int32) (v6 : Int32) (I : am_I), p_X2_parse_L21 a3 f g v4 v5 v6 I → Gd MX2_parse (am_o 8 0 0 (am_FiI J Q (s_X2_parse_L21 a3 f g v4 v5 v6 I))) 0 0 92 21 [some (.ref 3), some (.ref 1), some (.ref 38), some (.int a3), some (.int v4), some (.int v5), some (.int v6)] [] I J Q := (gl_X2_parse_L21 a3 f J Q hG g)
set_option maxRecDepth 100000 in
set_option maxHeartbeats 4000000 in
theorem gt_X2_parse (f : Nat) (I : am_I) (J : am_J) (Q : am_Q) (hG : Gr Q) (a3 : Int32) (hp : p_X2_parse f I a3) : Gd MX2_parse (am_o 8 0 0 (am_FiI J Q (s_X2_parse f I a3))) 0 0 92 0 [some (.ref 3), some (.ref 1), some (.ref 38), some (.int a3), none, none, none] [] I J Q := by
  unfold s_X2_parse
  unfold p_X2_parse at hp
  refine gd_aload_n (q := 1) rfl rfl rfl ?_
  refine gd_cVv (q := 4) rfl rfl lk2_15 myX2_begin vxX2_begin (ct_X2_begin f _ _ _ hG) rfl (Nat.le_of_ble_eq_true rfl) rfl rfl (Nat.le_of_ble_eq_true rfl) rfl (Nat.le_of_ble_eq_true rfl) ⟨(Nat.le_of_ble_eq_true rfl), (Nat.le_of_ble_eq_true rfl)⟩ ?_
  refine gd_aload_n (q := 5) rfl rfl rfl ?_
  refine gd_cVv (q := 8) rfl rfl lk2_18 myX6_rewind vxX6_rewind (ct_X6_rewind f _ _ _ hG) rfl (Nat.le_of_ble_eq_true rfl) rfl rfl (Nat.le_of_ble_eq_true rfl) rfl (Nat.le_of_ble_eq_true rfl) ⟨(Nat.le_of_ble_eq_true rfl), (Nat.le_of_ble_eq_true rfl)⟩ ?_
  refine gd_aload_n (q := 9) rfl rfl rfl ?_
  refine gd_cVv (q := 12) rfl rfl lk2_23 myX1_clear vxX1_clear (ct_X1_clear f _ _ _ hG) rfl (Nat.le_of_ble_eq_true rfl) rfl rfl (Nat.le_of_ble_eq_true rfl) rfl (Nat.le_of_ble_eq_true rfl) ⟨(Nat.le_of_ble_eq_true rfl), (Nat.le_of_ble_eq_true rfl)⟩ ?_
  refine gd_iconst (v := 0) (q := 13) rfl rfl rfl ?_
  refine gd_istore (q := 15) rfl rfl (Nat.le_of_ble_eq_true rfl) rfl ?_
  refine gd_iconst (v := 1) (q := 16) rfl rfl rfl ?_
  refine gd_istore (q := 18) rfl rfl (Nat.le_of_ble_eq_true rfl) rfl ?_
  refine gd_iconst (v := 0) (q := 19) rfl rfl rfl ?_
  refine gd_istore (q := 21) rfl rfl (Nat.le_of_ble_eq_true rfl) rfl ?_
  exact gl_X2_parse_21 a3 f J Q hG f 0 _ 0 _ hp
theorem ct_X2_parse (f : Nat) (I : am_I) (J : am_J) (Q : am_Q) (hG : Gr Q) (a3 : Int32) (hp : p_X2_parse f I a3) : Cm MX2_parse 8 0 0 92 [.ref 3, .ref 1, .ref 38, .int a3] I J Q (am_FiI J Q (s_X2_parse f I a3)) := cm_of (by decide) rfl IX2_parse_ok (Nat.le_of_ble_eq_true rfl) (gt_X2_parse f I J Q hG a3 hp)
def s_X6_clear (I : am_I)  : am_I := (am_w I 1 1 0)
set_option maxRecDepth 100000 in
set_option maxHeartbeats 4000000 in
theorem gt_X6_clear (f : Nat) (I : am_I) (J : am_J) (Q : am_Q) (hG : Gr Q)  : Gd MX6_clear (am_o 0 0 0 (am_FvI J Q (s_X6_clear I))) 0 0 92 0 [some (.ref 1)] [] I J Q := by
  unfold s_X6_clear
  refine gd_aload_n (q := 1) rfl rfl rfl ?_
  refine gd_iconst (v := 0) (q := 2) rfl rfl rfl ?_
  refine gd_putI (q := 5) rfl rfl rfl (Nat.le_of_ble_eq_true rfl) rfl rfl rfl (Or.inl rfl) ?_
  exact gd_return rfl rfl (Nat.le_refl 0) (Nat.le_refl 0) rfl
theorem ct_X6_clear (f : Nat) (I : am_I) (J : am_J) (Q : am_Q) (hG : Gr Q)  : Cm MX6_clear 0 0 0 92 [.ref 1] I J Q (am_FvI J Q (s_X6_clear I)) := cm_of (by decide) rfl IX6_clear_ok (Nat.le_of_ble_eq_true rfl) (gt_X6_clear f I J Q hG)
def s_X8_exchangeConsent (I : am_I) (Q : am_Q) (a1 : Int32) (rr : Nat) : Nat × am_Q := (if (s_X8_has I a1) = 0 then (38, Q) else (rr, (am_w Q 12 a1.toNatClampNeg (some 38))))
def p_X8_exchangeConsent (I : am_I) (Q : am_Q) (a1 : Int32) (rr : Nat) : Prop := (if (s_X8_has I a1) = 0 then True else ((vp_in a1 12 ∧ (Q 12 a1.toNatClampNeg) = some rr) ∧ ((vp_in a1 12 ∧ (Q 12 a1.toNatClampNeg) = some rr) ∧ vp_in a1 12)))
theorem q_X8_exchangeConsent (I : am_I) (Q : am_Q) (a1 : Int32) (rr : Nat) (hG : Gr Q) : Gr ((s_X8_exchangeConsent I Q a1 rr).2) := by
  unfold s_X8_exchangeConsent
  repeat' split
  all_goals first | exact hG | exact gr_w12 hG | exact gr_w0_12 hG
set_option maxRecDepth 100000 in
set_option maxHeartbeats 4000000 in
theorem gt_X8_exchangeConsent (f : Nat) (I : am_I) (J : am_J) (Q : am_Q) (hG : Gr Q) (a1 : Int32) (rr : Nat) (hp : p_X8_exchangeConsent I Q a1 rr) : Gd MX8_exchangeConsent (am_o 2 0 0 (am_FrQ I J (s_X8_exchangeConsent I Q a1 rr))) 0 0 92 0 [some (.ref 9), some (.int a1), some (.ref 38), none] [] I J Q := by
  unfold s_X8_exchangeConsent
  unfold p_X8_exchangeConsent at hp
  refine gd_aload_n (q := 1) rfl rfl rfl ?_
  refine gd_iload_n (q := 2) rfl rfl rfl ?_
  refine gd_cVi (q := 5) rfl rfl lk8_33 myX8_has vxX8_has (ct_X8_has f _ _ _ hG _) rfl (Nat.le_of_ble_eq_true rfl) rfl rfl (Nat.le_of_ble_eq_true rfl) rfl (Nat.le_of_ble_eq_true rfl) ⟨(Nat.le_of_ble_eq_true rfl), (Nat.le_of_ble_eq_true rfl)⟩ ?_
  refine gx_if_eq (q := 8) (r := 17) rfl rfl rfl hp (fun c_5 hp => ?_) (fun c_5 hp => ?_)
  · refine gd_aload_n (q := 18) rfl rfl rfl ?_
    exact gd_areturn rfl rfl (Nat.le_refl 0) (Nat.le_refl 0) rfl
  · refine gd_aload_n (q := 9) rfl rfl rfl ?_
    refine gd_getR (q := 12) (r := 12) rfl rfl rfl (Nat.le_of_ble_eq_true rfl) rfl rfl (gr_9_2 hG) ?_
    refine gd_iload_n (q := 13) rfl rfl rfl ?_
    refine gd_aald (q := 14) (r := rr) rfl rfl (Nat.le_of_ble_eq_true rfl) rfl hp.1.1 hp.1.2 ?_
    replace hp := hp.2
    refine gd_ifnonnull (q := 19) rfl rfl ?_
    refine gd_aload_n (q := 20) rfl rfl rfl ?_
    refine gd_getR (q := 23) (r := 12) rfl rfl rfl (Nat.le_of_ble_eq_true rfl) rfl rfl (gr_9_2 hG) ?_
    refine gd_iload_n (q := 24) rfl rfl rfl ?_
    refine gd_aald (q := 25) (r := rr) rfl rfl (Nat.le_of_ble_eq_true rfl) rfl hp.1.1 hp.1.2 ?_
    replace hp := hp.2
    refine gd_astore_n (q := 26) rfl rfl (Nat.le_of_ble_eq_true rfl) rfl ?_
    refine gd_aload_n (q := 27) rfl rfl rfl ?_
    refine gd_getR (q := 30) (r := 12) rfl rfl rfl (Nat.le_of_ble_eq_true rfl) rfl rfl (gr_9_2 hG) ?_
    refine gd_iload_n (q := 31) rfl rfl rfl ?_
    refine gd_aload_n (q := 32) rfl rfl rfl ?_
    refine gd_aast (q := 33) rfl rfl (Nat.le_of_ble_eq_true rfl) rfl hp (Nat.le_of_ble_eq_true rfl) rfl ?_
    refine gd_aload_n (q := 34) rfl rfl rfl ?_
    exact gd_areturn rfl rfl (Nat.le_refl 0) (Nat.le_refl 0) rfl
theorem ct_X8_exchangeConsent (f : Nat) (I : am_I) (J : am_J) (Q : am_Q) (hG : Gr Q) (a1 : Int32) (rr : Nat) (hp : p_X8_exchangeConsent I Q a1 rr) : Cm MX8_exchangeConsent 2 0 0 92 [.ref 9, .int a1, .ref 38] I J Q (am_FrQ I J (s_X8_exchangeConsent I Q a1 rr)) := cm_of (by decide) rfl IX8_exchangeConsent_ok (Nat.le_of_ble_eq_true rfl) (gt_X8_exchangeConsent f I J Q hG a1 rr hp)
def s_X9_read (f : Nat) (I : am_I) (Q : am_Q) (a1 : Int32) (rr : Nat) : Int32 × am_I × am_Q := (if (s_X8_has I a1) = 0 then ((-1), I, Q) else (if ((s_X2_parse f I (I 13 1)).1) = 0 then (((s_X2_parse f I (I 13 1)).1), (s_X6_clear (am_w ((s_X2_parse f I (I 13 1)).2) 0 11 (((s_X2_parse f I (I 13 1)).2) 3 7))), (am_w ((s_X8_exchangeConsent (am_w ((s_X2_parse f I (I 13 1)).2) 0 11 (((s_X2_parse f I (I 13 1)).2) 3 7)) Q a1 rr).2) 0 12 (some ((s_X8_exchangeConsent (am_w ((s_X2_parse f I (I 13 1)).2) 0 11 (((s_X2_parse f I (I 13 1)).2) 3 7)) Q a1 rr).1)))) else (((s_X2_parse f I (I 13 1)).1), (s_X6_clear (am_w ((s_X2_parse f I (I 13 1)).2) 0 11 (((s_X2_parse f I (I 13 1)).2) 3 7))), Q)))
def p_X9_read (f : Nat) (I : am_I) (Q : am_Q) (a1 : Int32) (rr : Nat) : Prop := (if (s_X8_has I a1) = 0 then True else ((Q 0 12) = some 38 ∧ ((p_X2_parse f I (I 13 1)) ∧ (if ((s_X2_parse f I (I 13 1)).1) = 0 then ((Q 0 12) = some 38 ∧ (p_X8_exchangeConsent (am_w ((s_X2_parse f I (I 13 1)).2) 0 11 (((s_X2_parse f I (I 13 1)).2) 3 7)) Q a1 rr)) else True))))
theorem q_X9_read (f : Nat) (I : am_I) (Q : am_Q) (a1 : Int32) (rr : Nat) (hG : Gr Q) : Gr ((s_X9_read f I Q a1 rr).2.2) := by
  unfold s_X9_read
  repeat' split
  all_goals first | exact hG | exact gr_w12 hG | exact gr_w0_12 hG | exact gr_w0_12 (q_X8_exchangeConsent _ _ _ _ hG)
set_option maxRecDepth 100000 in
set_option maxHeartbeats 4000000 in
theorem gt_X9_read (f : Nat) (I : am_I) (J : am_J) (Q : am_Q) (hG : Gr Q) (a1 : Int32) (rr : Nat) (hp : p_X9_read f I Q a1 rr) : Gd MX9_read (am_o 9 0 0 (am_FiIQ J (s_X9_read f I Q a1 rr))) 0 0 92 0 [some (.ref 0), some (.int a1), none] [] I J Q := by
  unfold s_X9_read
  unfold p_X9_read at hp
  refine gd_aload_n (q := 1) rfl rfl rfl ?_
  refine gd_getR (q := 4) (r := 9) rfl rfl rfl (Nat.le_of_ble_eq_true rfl) rfl rfl (gr_0_3 hG) ?_
  refine gd_iload_n (q := 5) rfl rfl rfl ?_
  refine gd_cVi (q := 8) rfl rfl lk9_91 myX8_has vxX8_has (ct_X8_has f _ _ _ hG _) rfl (Nat.le_of_ble_eq_true rfl) rfl rfl (Nat.le_of_ble_eq_true rfl) rfl (Nat.le_of_ble_eq_true rfl) ⟨(Nat.le_of_ble_eq_true rfl), (Nat.le_of_ble_eq_true rfl)⟩ ?_
  refine gx_if_ne (q := 11) (r := 13) rfl rfl rfl hp (fun c_8 hp => ?_) (fun c_8 hp => ?_)
  · refine gd_iconst (v := (-1)) (q := 12) rfl rfl rfl ?_
    exact gd_ireturn rfl rfl rfl (Nat.le_refl 0) (Nat.le_refl 0) rfl
  · refine gd_aload_n (q := 14) rfl rfl rfl ?_
    refine gd_getR (q := 17) (r := 3) rfl rfl rfl (Nat.le_of_ble_eq_true rfl) rfl rfl (gr_0_1 hG) ?_
    refine gd_aload_n (q := 18) rfl rfl rfl ?_
    refine gd_getR (q := 21) (r := 1) rfl rfl rfl (Nat.le_of_ble_eq_true rfl) rfl rfl (gr_0_0 hG) ?_
    refine gd_aload_n (q := 22) rfl rfl rfl ?_
    refine gd_getR (q := 25) (r := 38) rfl rfl rfl (Nat.le_of_ble_eq_true rfl) rfl rfl hp.1 ?_
    replace hp := hp.2
    refine gd_aload_n (q := 26) rfl rfl rfl ?_
    refine gd_getR (q := 29) (r := 13) rfl rfl rfl (Nat.le_of_ble_eq_true rfl) rfl rfl (gr_0_4 hG) ?_
    refine gd_getI (q := 32) rfl rfl rfl (Nat.le_of_ble_eq_true rfl) rfl rfl ?_
    refine gd_cVi (q := 35) rfl rfl lk9_98 myX2_parse vxX2_parse (ct_X2_parse f _ _ _ hG _ hp.1) rfl (Nat.le_of_ble_eq_true rfl) rfl rfl (Nat.le_of_ble_eq_true rfl) rfl (Nat.le_of_ble_eq_true rfl) ⟨(Nat.le_of_ble_eq_true rfl), (Nat.le_of_ble_eq_true rfl)⟩ ?_
    replace hp := hp.2
    refine gd_istore_n (q := 36) rfl rfl (Nat.le_of_ble_eq_true rfl) rfl ?_
    refine gd_aload_n (q := 37) rfl rfl rfl ?_
    refine gd_aload_n (q := 38) rfl rfl rfl ?_
    refine gd_getR (q := 41) (r := 3) rfl rfl rfl (Nat.le_of_ble_eq_true rfl) rfl rfl (gr_0_1 hG) ?_
    refine gd_getI (q := 44) rfl rfl rfl (Nat.le_of_ble_eq_true rfl) rfl rfl ?_
    refine gd_putI (q := 47) rfl rfl rfl (Nat.le_of_ble_eq_true rfl) rfl rfl rfl (Or.inl rfl) ?_
    refine gd_iload_n (q := 48) rfl rfl rfl ?_
    refine gx_if_ne (q := 51) (r := 67) rfl rfl rfl hp (fun c_48 hp => ?_) (fun c_48 hp => ?_)
    · refine gd_aload_n (q := 52) rfl rfl rfl ?_
      refine gd_aload_n (q := 53) rfl rfl rfl ?_
      refine gd_getR (q := 56) (r := 9) rfl rfl rfl (Nat.le_of_ble_eq_true rfl) rfl rfl (gr_0_3 hG) ?_
      refine gd_iload_n (q := 57) rfl rfl rfl ?_
      refine gd_aload_n (q := 58) rfl rfl rfl ?_
      refine gd_getR (q := 61) (r := 38) rfl rfl rfl (Nat.le_of_ble_eq_true rfl) rfl rfl hp.1 ?_
      replace hp := hp.2
      refine gd_cVi (q := 64) rfl rfl lk9_103 myX8_exchangeConsent vxX8_exchangeConsent (ct_X8_exchangeConsent f _ _ _ hG _ rr hp) rfl (Nat.le_of_ble_eq_true rfl) rfl rfl (Nat.le_of_ble_eq_true rfl) rfl (Nat.le_of_ble_eq_true rfl) ⟨(Nat.le_of_ble_eq_true rfl), (Nat.le_of_ble_eq_true rfl)⟩ ?_
      refine gd_putR (q := 67) rfl rfl rfl (Nat.le_of_ble_eq_true rfl) rfl rfl (fun _ => ⟨rfl, rfl⟩) (Or.inl rfl) ?_
      refine gd_aload_n (q := 68) rfl rfl rfl ?_
      refine gd_getR (q := 71) (r := 1) rfl rfl rfl (Nat.le_of_ble_eq_true rfl) rfl rfl (gr_0_0 (gr_w0_12 (q_X8_exchangeConsent _ _ _ rr hG))) ?_
      refine gd_cVv (q := 74) rfl rfl lk9_107 myX6_clear vxX6_clear (ct_X6_clear f _ _ _ (gr_w0_12 (q_X8_exchangeConsent _ _ _ rr hG))) rfl (Nat.le_of_ble_eq_true rfl) rfl rfl (Nat.le_of_ble_eq_true rfl) rfl (Nat.le_of_ble_eq_true rfl) ⟨(Nat.le_of_ble_eq_true rfl), (Nat.le_of_ble_eq_true rfl)⟩ ?_
      refine gd_iload_n (q := 75) rfl rfl rfl ?_
      exact gd_ireturn rfl rfl rfl (Nat.le_refl 0) (Nat.le_refl 0) rfl
    · refine gd_aload_n (q := 68) rfl rfl rfl ?_
      refine gd_getR (q := 71) (r := 1) rfl rfl rfl (Nat.le_of_ble_eq_true rfl) rfl rfl (gr_0_0 hG) ?_
      refine gd_cVv (q := 74) rfl rfl lk9_107 myX6_clear vxX6_clear (ct_X6_clear f _ _ _ hG) rfl (Nat.le_of_ble_eq_true rfl) rfl rfl (Nat.le_of_ble_eq_true rfl) rfl (Nat.le_of_ble_eq_true rfl) ⟨(Nat.le_of_ble_eq_true rfl), (Nat.le_of_ble_eq_true rfl)⟩ ?_
      refine gd_iload_n (q := 75) rfl rfl rfl ?_
      exact gd_ireturn rfl rfl rfl (Nat.le_refl 0) (Nat.le_refl 0) rfl
theorem ct_X9_read (f : Nat) (I : am_I) (J : am_J) (Q : am_Q) (hG : Gr Q) (a1 : Int32) (rr : Nat) (hp : p_X9_read f I Q a1 rr) : Cm MX9_read 9 0 0 92 [.ref 0, .int a1] I J Q (am_FiIQ J (s_X9_read f I Q a1 rr)) := cm_of (by decide) rfl IX9_read_ok (Nat.le_of_ble_eq_true rfl) (gt_X9_read f I J Q hG a1 rr hp)
