def s_X10_heard (I : am_I) (a1 : Int32) (a2 : Int32) : Int32 := (if (s_X10_isAsker I a1) = 0 then (-1) else (if (s_X10_isPiece I a2) = 0 then (-1) else (I 85 ((30 * a1) + a2).toNatClampNeg)))
def p_X10_heard (I : am_I) (a1 : Int32) (a2 : Int32) : Prop := (if (s_X10_isAsker I a1) = 0 then True else (if (s_X10_isPiece I a2) = 0 then True else vp_in ((30 * a1) + a2) 180))
set_option maxRecDepth 100000 in
set_option maxHeartbeats 4000000 in
theorem gt_X10_heard (f : Nat) (I : am_I) (J : am_J) (Q : am_Q) (hG : Gr Q) (a1 : Int32) (a2 : Int32) (hp : p_X10_heard I a1 a2) : Gd MX10_heard (am_o 1 0 0 (am_Fi I J Q (s_X10_heard I a1 a2))) 0 0 92 0 [some (.ref 46), some (.int a1), some (.int a2)] [] I J Q := by
  unfold s_X10_heard
  unfold p_X10_heard at hp
  refine gd_aload_n (q := 1) rfl rfl rfl ?_
  refine gd_iload_n (q := 2) rfl rfl rfl ?_
  refine gd_cVi (q := 5) rfl rfl lk10_321 myX10_isAsker vxX10_isAsker (ct_X10_isAsker f _ _ _ hG _) rfl (Nat.le_of_ble_eq_true rfl) rfl rfl (Nat.le_of_ble_eq_true rfl) rfl (Nat.le_of_ble_eq_true rfl) ⟨(Nat.le_of_ble_eq_true rfl), (Nat.le_of_ble_eq_true rfl)⟩ ?_
  refine gx_if_eq (q := 8) (r := 30) rfl rfl rfl hp (fun c_5 hp => ?_) (fun c_5 hp => ?_)
  · refine gd_iconst (v := (-1)) (q := 31) rfl rfl rfl ?_
    exact gd_ireturn rfl rfl rfl (Nat.le_refl 0) (Nat.le_refl 0) rfl
  · refine gd_aload_n (q := 9) rfl rfl rfl ?_
    refine gd_iload_n (q := 10) rfl rfl rfl ?_
    refine gd_cVi (q := 13) rfl rfl lk10_289 myX10_isPiece vxX10_isPiece (ct_X10_isPiece f _ _ _ hG _) rfl (Nat.le_of_ble_eq_true rfl) rfl rfl (Nat.le_of_ble_eq_true rfl) rfl (Nat.le_of_ble_eq_true rfl) ⟨(Nat.le_of_ble_eq_true rfl), (Nat.le_of_ble_eq_true rfl)⟩ ?_
    refine gx_if_eq (q := 16) (r := 30) rfl rfl rfl hp (fun c_13 hp => ?_) (fun c_13 hp => ?_)
    · refine gd_iconst (v := (-1)) (q := 31) rfl rfl rfl ?_
      exact gd_ireturn rfl rfl rfl (Nat.le_refl 0) (Nat.le_refl 0) rfl
    · refine gd_aload_n (q := 17) rfl rfl rfl ?_
      refine gd_getR (q := 20) (r := 85) rfl rfl rfl (Nat.le_of_ble_eq_true rfl) rfl rfl (gr_46_60 hG) ?_
      refine gd_bipush (v := 30) (q := 22) rfl rfl rfl ?_
      refine gd_iload_n (q := 23) rfl rfl rfl ?_
      refine gd_imul (q := 24) rfl rfl ?_
      refine gd_iload_n (q := 25) rfl rfl rfl ?_
      refine gd_iadd (q := 26) rfl rfl ?_
      refine gd_iald (q := 27) rfl rfl (Nat.le_of_ble_eq_true rfl) rfl hp ?_
      refine gd_goto (q := 31) rfl rfl ?_
      exact gd_ireturn rfl rfl rfl (Nat.le_refl 0) (Nat.le_refl 0) rfl
theorem ct_X10_heard (f : Nat) (I : am_I) (J : am_J) (Q : am_Q) (hG : Gr Q) (a1 : Int32) (a2 : Int32) (hp : p_X10_heard I a1 a2) : Cm MX10_heard 1 0 0 92 [.ref 46, .int a1, .int a2] I J Q (am_Fi I J Q (s_X10_heard I a1 a2)) := cm_of (by decide) rfl IX10_heard_ok (Nat.le_of_ble_eq_true rfl) (gt_X10_heard f I J Q hG a1 a2 hp)
def s_X10_could (f : Nat) (I : am_I) (a1 : Int32) (a2 : Int32) : Int32 := (if (s_X10_isAsker I a1) = 0 then (-1) else (if (s_X10_isPerson I a2) = 0 then (-1) else (if (s_X10_hasName f I a1 a2) = 0 then (s_X10_alike f I a2 (s_X10_traitsHeard f I a1 a2)) else 1)))
def p_X10_could (f : Nat) (I : am_I) (a1 : Int32) (a2 : Int32) : Prop := (if (s_X10_isAsker I a1) = 0 then True else (if (s_X10_isPerson I a2) = 0 then True else ((p_X10_hasName f I a1 a2) ∧ (if (s_X10_hasName f I a1 a2) = 0 then ((p_X10_traitsHeard f I a1 a2) ∧ (p_X10_alike f I a2 (s_X10_traitsHeard f I a1 a2))) else True))))
set_option maxRecDepth 100000 in
set_option maxHeartbeats 4000000 in
theorem gt_X10_could (f : Nat) (I : am_I) (J : am_J) (Q : am_Q) (hG : Gr Q) (a1 : Int32) (a2 : Int32) (hp : p_X10_could f I a1 a2) : Gd MX10_could (am_o 1 0 0 (am_Fi I J Q (s_X10_could f I a1 a2))) 0 0 92 0 [some (.ref 46), some (.int a1), some (.int a2)] [] I J Q := by
  unfold s_X10_could
  unfold p_X10_could at hp
  refine gd_aload_n (q := 1) rfl rfl rfl ?_
  refine gd_iload_n (q := 2) rfl rfl rfl ?_
  refine gd_cVi (q := 5) rfl rfl lk10_321 myX10_isAsker vxX10_isAsker (ct_X10_isAsker f _ _ _ hG _) rfl (Nat.le_of_ble_eq_true rfl) rfl rfl (Nat.le_of_ble_eq_true rfl) rfl (Nat.le_of_ble_eq_true rfl) ⟨(Nat.le_of_ble_eq_true rfl), (Nat.le_of_ble_eq_true rfl)⟩ ?_
  refine gx_if_eq (q := 8) (r := 16) rfl rfl rfl hp (fun c_5 hp => ?_) (fun c_5 hp => ?_)
  · refine gd_iconst (v := (-1)) (q := 17) rfl rfl rfl ?_
    exact gd_ireturn rfl rfl rfl (Nat.le_refl 0) (Nat.le_refl 0) rfl
  · refine gd_aload_n (q := 9) rfl rfl rfl ?_
    refine gd_iload_n (q := 10) rfl rfl rfl ?_
    refine gd_cVi (q := 13) rfl rfl lk10_224 myX10_isPerson vxX10_isPerson (ct_X10_isPerson f _ _ _ hG _) rfl (Nat.le_of_ble_eq_true rfl) rfl rfl (Nat.le_of_ble_eq_true rfl) rfl (Nat.le_of_ble_eq_true rfl) ⟨(Nat.le_of_ble_eq_true rfl), (Nat.le_of_ble_eq_true rfl)⟩ ?_
    refine gx_if_ne (q := 16) (r := 18) rfl rfl rfl hp (fun c_13 hp => ?_) (fun c_13 hp => ?_)
    · refine gd_iconst (v := (-1)) (q := 17) rfl rfl rfl ?_
      exact gd_ireturn rfl rfl rfl (Nat.le_refl 0) (Nat.le_refl 0) rfl
    · refine gd_aload_n (q := 19) rfl rfl rfl ?_
      refine gd_iload_n (q := 20) rfl rfl rfl ?_
      refine gd_iload_n (q := 21) rfl rfl rfl ?_
      refine gd_cVi (q := 24) rfl rfl lk10_324 myX10_hasName vxX10_hasName (ct_X10_hasName f _ _ _ hG _ _ hp.1) rfl (Nat.le_of_ble_eq_true rfl) rfl rfl (Nat.le_of_ble_eq_true rfl) rfl (Nat.le_of_ble_eq_true rfl) ⟨(Nat.le_of_ble_eq_true rfl), (Nat.le_of_ble_eq_true rfl)⟩ ?_
      replace hp := hp.2
      refine gx_if_eq (q := 27) (r := 31) rfl rfl rfl hp (fun c_24 hp => ?_) (fun c_24 hp => ?_)
      · refine gd_aload_n (q := 32) rfl rfl rfl ?_
        refine gd_iload_n (q := 33) rfl rfl rfl ?_
        refine gd_aload_n (q := 34) rfl rfl rfl ?_
        refine gd_iload_n (q := 35) rfl rfl rfl ?_
        refine gd_iload_n (q := 36) rfl rfl rfl ?_
        refine gd_cVi (q := 39) rfl rfl lk10_327 myX10_traitsHeard vxX10_traitsHeard (ct_X10_traitsHeard f _ _ _ hG _ _ hp.1) rfl (Nat.le_of_ble_eq_true rfl) rfl rfl (Nat.le_of_ble_eq_true rfl) rfl (Nat.le_of_ble_eq_true rfl) ⟨(Nat.le_of_ble_eq_true rfl), (Nat.le_of_ble_eq_true rfl)⟩ ?_
        replace hp := hp.2
        refine gd_cVi (q := 42) rfl rfl lk10_330 myX10_alike vxX10_alike (ct_X10_alike f _ _ _ hG _ _ hp) rfl (Nat.le_of_ble_eq_true rfl) rfl rfl (Nat.le_of_ble_eq_true rfl) rfl (Nat.le_of_ble_eq_true rfl) ⟨(Nat.le_of_ble_eq_true rfl), (Nat.le_of_ble_eq_true rfl)⟩ ?_
        exact gd_ireturn rfl rfl rfl (Nat.le_refl 0) (Nat.le_refl 0) rfl
      · refine gd_iconst (v := 1) (q := 28) rfl rfl rfl ?_
        refine gd_goto (q := 42) rfl rfl ?_
        exact gd_ireturn rfl rfl rfl (Nat.le_refl 0) (Nat.le_refl 0) rfl
theorem ct_X10_could (f : Nat) (I : am_I) (J : am_J) (Q : am_Q) (hG : Gr Q) (a1 : Int32) (a2 : Int32) (hp : p_X10_could f I a1 a2) : Cm MX10_could 1 0 0 92 [.ref 46, .int a1, .int a2] I J Q (am_Fi I J Q (s_X10_could f I a1 a2)) := cm_of (by decide) rfl IX10_could_ok (Nat.le_of_ble_eq_true rfl) (gt_X10_could f I J Q hG a1 a2 hp)
def s_X10_seconds_L32 (a1 : Int32) (a2 : Int32) (I : am_I) : Nat → Int32 → Int32 → Int32
  | 0, _, _ => 0
  | g + 1, v3, v4 => (if (I 46 44) ≤ v4 then v3 else (if (((I 70 (I 77 v4.toNatClampNeg).toNatClampNeg) >>> (a1 &&& 31)) &&& 1) = 1 then (if a2 = (-1) then (s_X10_seconds_L32 a1 a2 I g (v3 + ((I 76 v4.toNatClampNeg) - (I 75 v4.toNatClampNeg))) (v4 + 1)) else (if (I 85 ((30 * a2) + v4).toNatClampNeg) = 0 then (s_X10_seconds_L32 a1 a2 I g v3 (v4 + 1)) else (s_X10_seconds_L32 a1 a2 I g (v3 + ((I 76 v4.toNatClampNeg) - (I 75 v4.toNatClampNeg))) (v4 + 1)))) else (s_X10_seconds_L32 a1 a2 I g v3 (v4 + 1))))
def p_X10_seconds_L32 (a1 : Int32) (a2 : Int32) (I : am_I) : Nat → Int32 → Int32 → Prop
  | 0, _, _ => False
  | g + 1, v3, v4 => (if (I 46 44) ≤ v4 then True else (vp_in v4 30 ∧ (vp_in (I 77 v4.toNatClampNeg) 12 ∧ (if (((I 70 (I 77 v4.toNatClampNeg).toNatClampNeg) >>> (a1 &&& 31)) &&& 1) = 1 then (if a2 = (-1) then (vp_in v4 30 ∧ (vp_in v4 30 ∧ (p_X10_seconds_L32 a1 a2 I g (v3 + ((I 76 v4.toNatClampNeg) - (I 75 v4.toNatClampNeg))) (v4 + 1)))) else (vp_in ((30 * a2) + v4) 180 ∧ (if (I 85 ((30 * a2) + v4).toNatClampNeg) = 0 then (p_X10_seconds_L32 a1 a2 I g v3 (v4 + 1)) else (vp_in v4 30 ∧ (vp_in v4 30 ∧ (p_X10_seconds_L32 a1 a2 I g (v3 + ((I 76 v4.toNatClampNeg) - (I 75 v4.toNatClampNeg))) (v4 + 1))))))) else (p_X10_seconds_L32 a1 a2 I g v3 (v4 + 1))))))
def s_X10_seconds (f : Nat) (I : am_I) (a1 : Int32) (a2 : Int32) : Int32 := (if a1 < 0 then (-1) else (if (I 46 38) ≤ a1 then (-1) else (if a2 = (-1) then (s_X10_seconds_L32 a1 a2 I f 0 0) else (if (s_X10_isAsker I a2) = 0 then (-1) else (s_X10_seconds_L32 a1 a2 I f 0 0)))))
def p_X10_seconds (f : Nat) (I : am_I) (a1 : Int32) (a2 : Int32) : Prop := (if a1 < 0 then True else (if (I 46 38) ≤ a1 then True else (if a2 = (-1) then (p_X10_seconds_L32 a1 a2 I f 0 0) else (if (s_X10_isAsker I a2) = 0 then True else (p_X10_seconds_L32 a1 a2 I f 0 0)))))
set_option maxRecDepth 100000 in
set_option maxHeartbeats 4000000 in
theorem gl_X10_seconds_L32 (a1 : Int32) (a2 : Int32) (f : Nat) (I : am_I) (J : am_J) (Q : am_Q) (hG : Gr Q) : ∀ g : Nat, (∀ (v3 : Int32) (v4 : Int32), p_X10_seconds_L32 a1 a2 I g v3 v4 → Gd MX10_seconds (am_o 1 0 0 (am_Fi I J Q (s_X10_seconds_L32 a1 a2 I g v3 v4))) 0 0 92 32 [some (.ref 46), some (.int a1), some (.int a2), some (.int v3), some (.int v4)] [] I J Q) := by
  intro g
  induction g with
  | zero => exact fun _ _ hp => False.elim hp
  | succ g ih =>
    have ih_32 := ih
    intro v3 v4 hp
    rw [s_X10_seconds_L32]
    rw [p_X10_seconds_L32] at hp
    refine gd_iload (q := 34) rfl rfl rfl ?_
    refine gd_aload_n (q := 35) rfl rfl rfl ?_
    refine gd_getI (q := 38) rfl rfl rfl (Nat.le_of_ble_eq_true rfl) rfl rfl ?_
    refine gx_icmp_ge (q := 41) (r := 105) rfl rfl rfl hp (fun c_38 hp => ?_) (fun c_38 hp => ?_)
    · refine gd_iload_n (q := 106) rfl rfl rfl ?_
      exact gd_ireturn rfl rfl rfl (Nat.le_refl 0) (Nat.le_refl 0) rfl
    · refine gd_aload_n (q := 42) rfl rfl rfl ?_
      refine gd_getR (q := 45) (r := 70) rfl rfl rfl (Nat.le_of_ble_eq_true rfl) rfl rfl (gr_46_39 hG) ?_
      refine gd_aload_n (q := 46) rfl rfl rfl ?_
      refine gd_getR (q := 49) (r := 77) rfl rfl rfl (Nat.le_of_ble_eq_true rfl) rfl rfl (gr_46_48 hG) ?_
      refine gd_iload (q := 51) rfl rfl rfl ?_
      refine gd_iald (q := 52) rfl rfl (Nat.le_of_ble_eq_true rfl) rfl hp.1 ?_
      replace hp := hp.2
      refine gd_iald (q := 53) rfl rfl (Nat.le_of_ble_eq_true rfl) rfl hp.1 ?_
      replace hp := hp.2
      refine gd_iload_n (q := 54) rfl rfl rfl ?_
      refine gd_ishr (q := 55) rfl rfl ?_
      refine gd_iconst (v := 1) (q := 56) rfl rfl rfl ?_
      refine gd_iand (q := 57) rfl rfl ?_
      refine gd_iconst (v := 1) (q := 58) rfl rfl rfl ?_
      refine gx_icmp_ne (q := 61) (r := 99) rfl rfl rfl hp (fun c_58 hp => ?_) (fun c_58 hp => ?_)
      · refine gd_iload_n (q := 62) rfl rfl rfl ?_
        refine gd_iconst (v := (-1)) (q := 63) rfl rfl rfl ?_
        refine gx_icmp_eq (q := 66) (r := 81) rfl rfl rfl hp (fun c_63 hp => ?_) (fun c_63 hp => ?_)
        · refine gd_iload_n (q := 82) rfl rfl rfl ?_
          refine gd_aload_n (q := 83) rfl rfl rfl ?_
          refine gd_getR (q := 86) (r := 76) rfl rfl rfl (Nat.le_of_ble_eq_true rfl) rfl rfl (gr_46_47 hG) ?_
          refine gd_iload (q := 88) rfl rfl rfl ?_
          refine gd_iald (q := 89) rfl rfl (Nat.le_of_ble_eq_true rfl) rfl hp.1 ?_
          replace hp := hp.2
          refine gd_aload_n (q := 90) rfl rfl rfl ?_
          refine gd_getR (q := 93) (r := 75) rfl rfl rfl (Nat.le_of_ble_eq_true rfl) rfl rfl (gr_46_46 hG) ?_
          refine gd_iload (q := 95) rfl rfl rfl ?_
          refine gd_iald (q := 96) rfl rfl (Nat.le_of_ble_eq_true rfl) rfl hp.1 ?_
          replace hp := hp.2
          refine gd_isub (q := 97) rfl rfl ?_
          refine gd_iadd (q := 98) rfl rfl ?_
          refine gd_istore_n (q := 99) rfl rfl (Nat.le_of_ble_eq_true rfl) rfl ?_
          refine gd_iinc (v := (v4 + 1)) (q := 102) rfl rfl rfl rfl (Nat.le_of_ble_eq_true rfl) rfl ?_
          refine gd_goto (q := 32) rfl rfl ?_
          exact ih_32 _ _ hp
        · refine gd_aload_n (q := 67) rfl rfl rfl ?_
          refine gd_getR (q := 70) (r := 85) rfl rfl rfl (Nat.le_of_ble_eq_true rfl) rfl rfl (gr_46_60 hG) ?_
          refine gd_bipush (v := 30) (q := 72) rfl rfl rfl ?_
          refine gd_iload_n (q := 73) rfl rfl rfl ?_
          refine gd_imul (q := 74) rfl rfl ?_
          refine gd_iload (q := 76) rfl rfl rfl ?_
          refine gd_iadd (q := 77) rfl rfl ?_
          refine gd_iald (q := 78) rfl rfl (Nat.le_of_ble_eq_true rfl) rfl hp.1 ?_
          replace hp := hp.2
          refine gx_if_eq (q := 81) (r := 99) rfl rfl rfl hp (fun c_78 hp => ?_) (fun c_78 hp => ?_)
          · refine gd_iinc (v := (v4 + 1)) (q := 102) rfl rfl rfl rfl (Nat.le_of_ble_eq_true rfl) rfl ?_
            refine gd_goto (q := 32) rfl rfl ?_
            exact ih_32 _ _ hp
          · refine gd_iload_n (q := 82) rfl rfl rfl ?_
            refine gd_aload_n (q := 83) rfl rfl rfl ?_
            refine gd_getR (q := 86) (r := 76) rfl rfl rfl (Nat.le_of_ble_eq_true rfl) rfl rfl (gr_46_47 hG) ?_
            refine gd_iload (q := 88) rfl rfl rfl ?_
            refine gd_iald (q := 89) rfl rfl (Nat.le_of_ble_eq_true rfl) rfl hp.1 ?_
            replace hp := hp.2
            refine gd_aload_n (q := 90) rfl rfl rfl ?_
            refine gd_getR (q := 93) (r := 75) rfl rfl rfl (Nat.le_of_ble_eq_true rfl) rfl rfl (gr_46_46 hG) ?_
            refine gd_iload (q := 95) rfl rfl rfl ?_
            refine gd_iald (q := 96) rfl rfl (Nat.le_of_ble_eq_true rfl) rfl hp.1 ?_
            replace hp := hp.2
            refine gd_isub (q := 97) rfl rfl ?_
            refine gd_iadd (q := 98) rfl rfl ?_
            refine gd_istore_n (q := 99) rfl rfl (Nat.le_of_ble_eq_true rfl) rfl ?_
            refine gd_iinc (v := (v4 + 1)) (q := 102) rfl rfl rfl rfl (Nat.le_of_ble_eq_true rfl) rfl ?_
            refine gd_goto (q := 32) rfl rfl ?_
            exact ih_32 _ _ hp
      · refine gd_iinc (v := (v4 + 1)) (q := 102) rfl rfl rfl rfl (Nat.le_of_ble_eq_true rfl) rfl ?_
        refine gd_goto (q := 32) rfl rfl ?_
        exact ih_32 _ _ hp
theorem gl_X10_seconds_32 (a1 : Int32) (a2 : Int32) (f : Nat) (I : am_I) (J : am_J) (Q : am_Q) (hG : Gr Q) (g : Nat) : ∀ (v3 : Int32) (v4 : Int32), p_X10_seconds_L32 a1 a2 I g v3 v4 → Gd MX10_seconds (am_o 1 0 0 (am_Fi I J Q (s_X10_seconds_L32 a1 a2 I g v3 v4))) 0 0 92 32 [some (.ref 46), some (.int a1), some (.int a2), some (.int v3), some (.int v4)] [] I J Q := (gl_X10_seconds_L32 a1 a2 f I J Q hG g)
set_option maxRecDepth 100000 in
set_option maxHeartbeats 4000000 in
theorem gt_X10_seconds (f : Nat) (I : am_I) (J : am_J) (Q : am_Q) (hG : Gr Q) (a1 : Int32) (a2 : Int32) (hp : p_X10_seconds f I a1 a2) : Gd MX10_seconds (am_o 1 0 0 (am_Fi I J Q (s_X10_seconds f I a1 a2))) 0 0 92 0 [some (.ref 46), some (.int a1), some (.int a2), none, none] [] I J Q := by
  unfold s_X10_seconds
  unfold p_X10_seconds at hp
  refine gd_iload_n (q := 1) rfl rfl rfl ?_
  refine gx_if_lt (q := 4) (r := 25) rfl rfl rfl hp (fun c_1 hp => ?_) (fun c_1 hp => ?_)
  · refine gd_iconst (v := (-1)) (q := 26) rfl rfl rfl ?_
    exact gd_ireturn rfl rfl rfl (Nat.le_refl 0) (Nat.le_refl 0) rfl
  · refine gd_iload_n (q := 5) rfl rfl rfl ?_
    refine gd_aload_n (q := 6) rfl rfl rfl ?_
    refine gd_getI (q := 9) rfl rfl rfl (Nat.le_of_ble_eq_true rfl) rfl rfl ?_
    refine gx_icmp_ge (q := 12) (r := 25) rfl rfl rfl hp (fun c_9 hp => ?_) (fun c_9 hp => ?_)
    · refine gd_iconst (v := (-1)) (q := 26) rfl rfl rfl ?_
      exact gd_ireturn rfl rfl rfl (Nat.le_refl 0) (Nat.le_refl 0) rfl
    · refine gd_iload_n (q := 13) rfl rfl rfl ?_
      refine gd_iconst (v := (-1)) (q := 14) rfl rfl rfl ?_
      refine gx_icmp_eq (q := 17) (r := 27) rfl rfl rfl hp (fun c_14 hp => ?_) (fun c_14 hp => ?_)
      · refine gd_iconst (v := 0) (q := 28) rfl rfl rfl ?_
        refine gd_istore_n (q := 29) rfl rfl (Nat.le_of_ble_eq_true rfl) rfl ?_
        refine gd_iconst (v := 0) (q := 30) rfl rfl rfl ?_
        refine gd_istore (q := 32) rfl rfl (Nat.le_of_ble_eq_true rfl) rfl ?_
        exact gl_X10_seconds_32 a1 a2 f I J Q hG f 0 0 hp
      · refine gd_aload_n (q := 18) rfl rfl rfl ?_
        refine gd_iload_n (q := 19) rfl rfl rfl ?_
        refine gd_cVi (q := 22) rfl rfl lk10_321 myX10_isAsker vxX10_isAsker (ct_X10_isAsker f _ _ _ hG _) rfl (Nat.le_of_ble_eq_true rfl) rfl rfl (Nat.le_of_ble_eq_true rfl) rfl (Nat.le_of_ble_eq_true rfl) ⟨(Nat.le_of_ble_eq_true rfl), (Nat.le_of_ble_eq_true rfl)⟩ ?_
        refine gx_if_ne (q := 25) (r := 27) rfl rfl rfl hp (fun c_22 hp => ?_) (fun c_22 hp => ?_)
        · refine gd_iconst (v := (-1)) (q := 26) rfl rfl rfl ?_
          exact gd_ireturn rfl rfl rfl (Nat.le_refl 0) (Nat.le_refl 0) rfl
        · refine gd_iconst (v := 0) (q := 28) rfl rfl rfl ?_
          refine gd_istore_n (q := 29) rfl rfl (Nat.le_of_ble_eq_true rfl) rfl ?_
          refine gd_iconst (v := 0) (q := 30) rfl rfl rfl ?_
          refine gd_istore (q := 32) rfl rfl (Nat.le_of_ble_eq_true rfl) rfl ?_
          exact gl_X10_seconds_32 a1 a2 f I J Q hG f 0 0 hp
theorem ct_X10_seconds (f : Nat) (I : am_I) (J : am_J) (Q : am_Q) (hG : Gr Q) (a1 : Int32) (a2 : Int32) (hp : p_X10_seconds f I a1 a2) : Cm MX10_seconds 1 0 0 92 [.ref 46, .int a1, .int a2] I J Q (am_Fi I J Q (s_X10_seconds f I a1 a2)) := cm_of (by decide) rfl IX10_seconds_ok (Nat.le_of_ble_eq_true rfl) (gt_X10_seconds f I J Q hG a1 a2 hp)
def s_X10_opens_L17 (a1 : Int32) (a2 : Int32) (a3 : Int32) (a4 : Int32) (f : Nat) : Nat → Int32 → am_I → Int32 × am_I
  | 0, _, I => (0, I)
  | g + 1, v5, I => (if 9999 < v5 then ((-1), I) else (if ((s_X10_letBy f I a1 v5 a3 a4).1) < 0 then (s_X10_opens_L17 a1 a2 a3 a4 f g (v5 + 1) ((s_X10_letBy f I a1 v5 a3 a4).2)) else (v5, ((s_X10_letBy f I a1 v5 a3 a4).2))))
def p_X10_opens_L17 (a1 : Int32) (a2 : Int32) (a3 : Int32) (a4 : Int32) (f : Nat) : Nat → Int32 → am_I → Prop
  | 0, _, _ => False
  | g + 1, v5, I => (if 9999 < v5 then True else ((p_X10_letBy f I a1 v5 a3 a4) ∧ (if ((s_X10_letBy f I a1 v5 a3 a4).1) < 0 then (p_X10_opens_L17 a1 a2 a3 a4 f g (v5 + 1) ((s_X10_letBy f I a1 v5 a3 a4).2)) else True)))
def s_X10_opens (f : Nat) (I : am_I) (a1 : Int32) (a2 : Int32) (a3 : Int32) (a4 : Int32) : Int32 × am_I := (if (s_X10_isAsked I a1 a2 a3 a4) = 0 then ((-1), I) else (s_X10_opens_L17 a1 a2 a3 a4 f f a2 I))
def p_X10_opens (f : Nat) (I : am_I) (a1 : Int32) (a2 : Int32) (a3 : Int32) (a4 : Int32) : Prop := (if (s_X10_isAsked I a1 a2 a3 a4) = 0 then True else (p_X10_opens_L17 a1 a2 a3 a4 f f a2 I))
set_option maxRecDepth 100000 in
set_option maxHeartbeats 4000000 in
theorem gl_X10_opens_L17 (a1 : Int32) (a2 : Int32) (a3 : Int32) (a4 : Int32) (f : Nat) (J : am_J) (Q : am_Q) (hG : Gr Q) : ∀ g : Nat, (∀ (v5 : Int32) (I : am_I), p_X10_opens_L17 a1 a2 a3 a4 f g v5 I → Gd MX10_opens (am_o 4 0 0 (am_FiI J Q (s_X10_opens_L17 a1 a2 a3 a4 f g v5 I))) 0 0 92 17 [some (.ref 46), some (.int a1), none, some (.int a3), some (.int a4), some (.int v5)] [] I J Q) := by
  intro g
  induction g with
  | zero => exact fun _ _ hp => False.elim hp
  | succ g ih =>
    have ih_17 := ih
    intro v5 I hp
    rw [s_X10_opens_L17]
    rw [p_X10_opens_L17] at hp
    refine gd_iload (q := 19) rfl rfl rfl ?_
    refine gd_sipush (v := 9999) (q := 22) rfl rfl rfl ?_
    refine gx_icmp_gt (q := 25) (r := 47) rfl rfl rfl hp (fun c_22 hp => ?_) (fun c_22 hp => ?_)
    · refine gd_iconst (v := (-1)) (q := 48) rfl rfl rfl ?_
      exact gd_ireturn rfl rfl rfl (Nat.le_refl 0) (Nat.le_refl 0) rfl
    · refine gd_aload_n (q := 26) rfl rfl rfl ?_
      refine gd_iload_n (q := 27) rfl rfl rfl ?_
      refine gd_iload (q := 29) rfl rfl rfl ?_
      refine gd_iload_n (q := 30) rfl rfl rfl ?_
      refine gd_iload (q := 32) rfl rfl rfl ?_
      refine gd_cVi (q := 35) rfl rfl lk10_314 myX10_letBy vxX10_letBy (ct_X10_letBy f _ _ _ hG _ _ _ _ hp.1) rfl (Nat.le_of_ble_eq_true rfl) rfl rfl (Nat.le_of_ble_eq_true rfl) rfl (Nat.le_of_ble_eq_true rfl) ⟨(Nat.le_of_ble_eq_true rfl), (Nat.le_of_ble_eq_true rfl)⟩ ?_
      replace hp := hp.2
      refine gx_if_lt (q := 38) (r := 41) rfl rfl rfl hp (fun c_35 hp => ?_) (fun c_35 hp => ?_)
      · refine gd_iinc (v := (v5 + 1)) (q := 44) rfl rfl rfl rfl (Nat.le_of_ble_eq_true rfl) rfl ?_
        refine gd_goto (q := 17) rfl rfl ?_
        exact ih_17 _ _ hp
      · refine gd_iload (q := 40) rfl rfl rfl ?_
        exact gd_ireturn rfl rfl rfl (Nat.le_refl 0) (Nat.le_refl 0) rfl
theorem gl_X10_opens_17 (a1 : Int32) (a2 : Int32) (a3 : Int32) (a4 : Int32) (f : Nat) (J : am_J) (Q : am_Q) (hG : Gr Q) (g : Nat) : ∀ (v5 : Int32) (I : am_I), p_X10_opens_L17 a1 a2 a3 a4 f g v5 I → Gd MX10_opens (am_o 4 0 0 (am_FiI J Q (s_X10_opens_L17 a1 a2 a3 a4 f g v5 I))) 0 0 92 17 [some (.ref 46), some (.int a1), none, some (.int a3), some (.int a4), some (.int v5)] [] I J Q := (gl_X10_opens_L17 a1 a2 a3 a4 f J Q hG g)
set_option maxRecDepth 100000 in
set_option maxHeartbeats 4000000 in
theorem gt_X10_opens (f : Nat) (I : am_I) (J : am_J) (Q : am_Q) (hG : Gr Q) (a1 : Int32) (a2 : Int32) (a3 : Int32) (a4 : Int32) (hp : p_X10_opens f I a1 a2 a3 a4) : Gd MX10_opens (am_o 4 0 0 (am_FiI J Q (s_X10_opens f I a1 a2 a3 a4))) 0 0 92 0 [some (.ref 46), some (.int a1), some (.int a2), some (.int a3), some (.int a4), none] [] I J Q := by
  unfold s_X10_opens
  unfold p_X10_opens at hp
  refine gd_aload_n (q := 1) rfl rfl rfl ?_
  refine gd_iload_n (q := 2) rfl rfl rfl ?_
  refine gd_iload_n (q := 3) rfl rfl rfl ?_
  refine gd_iload_n (q := 4) rfl rfl rfl ?_
  refine gd_iload (q := 6) rfl rfl rfl ?_
  refine gd_cVi (q := 9) rfl rfl lk10_310 myX10_isAsked vxX10_isAsked (ct_X10_isAsked f _ _ _ hG _ _ _ _) rfl (Nat.le_of_ble_eq_true rfl) rfl rfl (Nat.le_of_ble_eq_true rfl) rfl (Nat.le_of_ble_eq_true rfl) ⟨(Nat.le_of_ble_eq_true rfl), (Nat.le_of_ble_eq_true rfl)⟩ ?_
  refine gx_if_ne (q := 12) (r := 14) rfl rfl rfl hp (fun c_9 hp => ?_) (fun c_9 hp => ?_)
  · refine gd_iconst (v := (-1)) (q := 13) rfl rfl rfl ?_
    exact gd_ireturn rfl rfl rfl (Nat.le_refl 0) (Nat.le_refl 0) rfl
  · refine gd_iload_n (q := 15) rfl rfl rfl ?_
    refine gd_istore (q := 17) rfl rfl (Nat.le_of_ble_eq_true rfl) rfl ?_
    refine gd_drop 2 ?_
    exact gl_X10_opens_17 a1 a2 a3 a4 f J Q hG f _ _ hp
theorem ct_X10_opens (f : Nat) (I : am_I) (J : am_J) (Q : am_Q) (hG : Gr Q) (a1 : Int32) (a2 : Int32) (a3 : Int32) (a4 : Int32) (hp : p_X10_opens f I a1 a2 a3 a4) : Cm MX10_opens 4 0 0 92 [.ref 46, .int a1, .int a2, .int a3, .int a4] I J Q (am_FiI J Q (s_X10_opens f I a1 a2 a3 a4)) := cm_of (by decide) rfl IX10_opens_ok (Nat.le_of_ble_eq_true rfl) (gt_X10_opens f I J Q hG a1 a2 a3 a4 hp)
def s_X10_at__L2 (a1 : Int32) (a2 : Int32) (I : am_I) : Nat → Int32 → Int32
  | 0, _ => 0
  | g + 1, v3 => (if (I 46 44) ≤ v3 then (-1) else (if (I 74 v3.toNatClampNeg) = a1 then (if a2 < (I 75 v3.toNatClampNeg) then (s_X10_at__L2 a1 a2 I g (v3 + 1)) else (if (I 76 v3.toNatClampNeg) ≤ a2 then (s_X10_at__L2 a1 a2 I g (v3 + 1)) else v3)) else (s_X10_at__L2 a1 a2 I g (v3 + 1))))
def p_X10_at__L2 (a1 : Int32) (a2 : Int32) (I : am_I) : Nat → Int32 → Prop
  | 0, _ => False
  | g + 1, v3 => (if (I 46 44) ≤ v3 then True else (vp_in v3 30 ∧ (if (I 74 v3.toNatClampNeg) = a1 then (vp_in v3 30 ∧ (if a2 < (I 75 v3.toNatClampNeg) then (p_X10_at__L2 a1 a2 I g (v3 + 1)) else (vp_in v3 30 ∧ (if (I 76 v3.toNatClampNeg) ≤ a2 then (p_X10_at__L2 a1 a2 I g (v3 + 1)) else True)))) else (p_X10_at__L2 a1 a2 I g (v3 + 1)))))
def s_X10_at_ (f : Nat) (I : am_I) (a1 : Int32) (a2 : Int32) : Int32 := (s_X10_at__L2 a1 a2 I f 0)
def p_X10_at_ (f : Nat) (I : am_I) (a1 : Int32) (a2 : Int32) : Prop := (p_X10_at__L2 a1 a2 I f 0)
set_option maxRecDepth 100000 in
set_option maxHeartbeats 4000000 in
theorem gl_X10_at__L2 (a1 : Int32) (a2 : Int32) (f : Nat) (I : am_I) (J : am_J) (Q : am_Q) (hG : Gr Q) : ∀ g : Nat, (∀ (v3 : Int32), p_X10_at__L2 a1 a2 I g v3 → Gd MX10_at_ (am_o 0 0 0 (am_Fi I J Q (s_X10_at__L2 a1 a2 I g v3))) 0 0 92 2 [some (.ref 46), some (.int a1), some (.int a2), some (.int v3)] [] I J Q) := by
  intro g
  induction g with
  | zero => exact fun _ hp => False.elim hp
  | succ g ih =>
    have ih_2 := ih
    intro v3 hp
    rw [s_X10_at__L2]
    rw [p_X10_at__L2] at hp
    refine gd_iload_n (q := 3) rfl rfl rfl ?_
    refine gd_aload_n (q := 4) rfl rfl rfl ?_
    refine gd_getI (q := 7) rfl rfl rfl (Nat.le_of_ble_eq_true rfl) rfl rfl ?_
    refine gx_icmp_ge (q := 10) (r := 48) rfl rfl rfl hp (fun c_7 hp => ?_) (fun c_7 hp => ?_)
    · refine gd_iconst (v := (-1)) (q := 49) rfl rfl rfl ?_
      exact gd_ireturn rfl rfl rfl (Nat.le_refl 0) (Nat.le_refl 0) rfl
    · refine gd_aload_n (q := 11) rfl rfl rfl ?_
      refine gd_getR (q := 14) (r := 74) rfl rfl rfl (Nat.le_of_ble_eq_true rfl) rfl rfl (gr_46_45 hG) ?_
      refine gd_iload_n (q := 15) rfl rfl rfl ?_
      refine gd_iald (q := 16) rfl rfl (Nat.le_of_ble_eq_true rfl) rfl hp.1 ?_
      replace hp := hp.2
      refine gd_iload_n (q := 17) rfl rfl rfl ?_
      refine gx_icmp_ne (q := 20) (r := 42) rfl rfl rfl hp (fun c_17 hp => ?_) (fun c_17 hp => ?_)
      · refine gd_aload_n (q := 21) rfl rfl rfl ?_
        refine gd_getR (q := 24) (r := 75) rfl rfl rfl (Nat.le_of_ble_eq_true rfl) rfl rfl (gr_46_46 hG) ?_
        refine gd_iload_n (q := 25) rfl rfl rfl ?_
        refine gd_iald (q := 26) rfl rfl (Nat.le_of_ble_eq_true rfl) rfl hp.1 ?_
        replace hp := hp.2
        refine gd_iload_n (q := 27) rfl rfl rfl ?_
        refine gx_icmp_gt (q := 30) (r := 42) rfl rfl rfl hp (fun c_27 hp => ?_) (fun c_27 hp => ?_)
        · refine gd_iinc (v := (v3 + 1)) (q := 45) rfl rfl rfl rfl (Nat.le_of_ble_eq_true rfl) rfl ?_
          refine gd_goto (q := 2) rfl rfl ?_
          exact ih_2 _ hp
        · refine gd_iload_n (q := 31) rfl rfl rfl ?_
          refine gd_aload_n (q := 32) rfl rfl rfl ?_
          refine gd_getR (q := 35) (r := 76) rfl rfl rfl (Nat.le_of_ble_eq_true rfl) rfl rfl (gr_46_47 hG) ?_
          refine gd_iload_n (q := 36) rfl rfl rfl ?_
          refine gd_iald (q := 37) rfl rfl (Nat.le_of_ble_eq_true rfl) rfl hp.1 ?_
          replace hp := hp.2
          refine gx_icmp_ge (q := 40) (r := 42) rfl rfl rfl hp (fun c_37 hp => ?_) (fun c_37 hp => ?_)
          · refine gd_iinc (v := (v3 + 1)) (q := 45) rfl rfl rfl rfl (Nat.le_of_ble_eq_true rfl) rfl ?_
            refine gd_goto (q := 2) rfl rfl ?_
            exact ih_2 _ hp
          · refine gd_iload_n (q := 41) rfl rfl rfl ?_
            exact gd_ireturn rfl rfl rfl (Nat.le_refl 0) (Nat.le_refl 0) rfl
      · refine gd_iinc (v := (v3 + 1)) (q := 45) rfl rfl rfl rfl (Nat.le_of_ble_eq_true rfl) rfl ?_
        refine gd_goto (q := 2) rfl rfl ?_
        exact ih_2 _ hp
theorem gl_X10_at__2 (a1 : Int32) (a2 : Int32) (f : Nat) (I : am_I) (J : am_J) (Q : am_Q) (hG : Gr Q) (g : Nat) : ∀ (v3 : Int32), p_X10_at__L2 a1 a2 I g v3 → Gd MX10_at_ (am_o 0 0 0 (am_Fi I J Q (s_X10_at__L2 a1 a2 I g v3))) 0 0 92 2 [some (.ref 46), some (.int a1), some (.int a2), some (.int v3)] [] I J Q := (gl_X10_at__L2 a1 a2 f I J Q hG g)
set_option maxRecDepth 100000 in
set_option maxHeartbeats 4000000 in
theorem gt_X10_at_ (f : Nat) (I : am_I) (J : am_J) (Q : am_Q) (hG : Gr Q) (a1 : Int32) (a2 : Int32) (hp : p_X10_at_ f I a1 a2) : Gd MX10_at_ (am_o 0 0 0 (am_Fi I J Q (s_X10_at_ f I a1 a2))) 0 0 92 0 [some (.ref 46), some (.int a1), some (.int a2), none] [] I J Q := by
  unfold s_X10_at_
  unfold p_X10_at_ at hp
  refine gd_iconst (v := 0) (q := 1) rfl rfl rfl ?_
  refine gd_istore_n (q := 2) rfl rfl (Nat.le_of_ble_eq_true rfl) rfl ?_
  exact gl_X10_at__2 a1 a2 f I J Q hG f 0 hp
theorem ct_X10_at_ (f : Nat) (I : am_I) (J : am_J) (Q : am_Q) (hG : Gr Q) (a1 : Int32) (a2 : Int32) (hp : p_X10_at_ f I a1 a2) : Cm MX10_at_ 0 0 0 92 [.ref 46, .int a1, .int a2] I J Q (am_Fi I J Q (s_X10_at_ f I a1 a2)) := cm_of (by decide) rfl IX10_at__ok (Nat.le_of_ble_eq_true rfl) (gt_X10_at_ f I J Q hG a1 a2 hp)
def s_X10_isEvent  (a0 : Int32) : Int32 := (if a0 < 0 then 0 else (if 10 ≤ a0 then 0 else 1))
theorem z_X10_isEvent  (a0 : Int32) : (s_X10_isEvent a0) = 0 ∨ (s_X10_isEvent a0) = 1 := by
  unfold s_X10_isEvent
  repeat' split
  all_goals first | exact Or.inl rfl | exact Or.inr rfl
set_option maxRecDepth 100000 in
set_option maxHeartbeats 4000000 in
theorem gt_X10_isEvent (f : Nat) (I : am_I) (J : am_J) (Q : am_Q) (hG : Gr Q) (a0 : Int32) : Gd MX10_isEvent (am_o 0 0 0 (am_Fi I J Q (s_X10_isEvent a0))) 0 0 92 0 [some (.int a0)] [] I J Q := by
  unfold s_X10_isEvent
  refine gd_iload_n (q := 1) rfl rfl rfl ?_
  refine gy_if_lt (q := 4) (r := 14) rfl rfl rfl (fun c_1 => ?_) (fun c_1 => ?_)
  · refine gd_iconst (v := 0) (q := 15) rfl rfl rfl ?_
    exact gd_ireturn rfl rfl rfl (Nat.le_refl 0) (Nat.le_refl 0) rfl
  · refine gd_iload_n (q := 5) rfl rfl rfl ?_
    refine gd_bipush (v := 10) (q := 7) rfl rfl rfl ?_
    refine gy_icmp_ge (q := 10) (r := 14) rfl rfl rfl (fun c_7 => ?_) (fun c_7 => ?_)
    · refine gd_iconst (v := 0) (q := 15) rfl rfl rfl ?_
      exact gd_ireturn rfl rfl rfl (Nat.le_refl 0) (Nat.le_refl 0) rfl
    · refine gd_iconst (v := 1) (q := 11) rfl rfl rfl ?_
      refine gd_goto (q := 15) rfl rfl ?_
      exact gd_ireturn rfl rfl rfl (Nat.le_refl 0) (Nat.le_refl 0) rfl
theorem ct_X10_isEvent (f : Nat) (I : am_I) (J : am_J) (Q : am_Q) (hG : Gr Q) (a0 : Int32) : Cm MX10_isEvent 0 0 0 92 [.int a0] I J Q (am_Fi I J Q (s_X10_isEvent a0)) := cm_of (by decide) rfl IX10_isEvent_ok (Nat.le_of_ble_eq_true rfl) (gt_X10_isEvent f I J Q hG a0)
def s_X10_telling (I : am_I) (a1 : Int32) (a2 : Int32) (a3 : Int32) (a4 : Int32) : Int32 × am_I := ((((I 46 61) + 1) - 1), (am_w (am_w (am_w (am_w (am_w I 86 (I 46 61).toNatClampNeg a1) 87 (I 46 61).toNatClampNeg a2) 88 (I 46 61).toNatClampNeg a3) 89 (I 46 61).toNatClampNeg a4) 46 61 ((I 46 61) + 1)))
def p_X10_telling (I : am_I) (a1 : Int32) (a2 : Int32) (a3 : Int32) (a4 : Int32) : Prop := (vp_in (I 46 61) 12 ∧ (vp_in (I 46 61) 12 ∧ (vp_in (I 46 61) 12 ∧ vp_in (I 46 61) 12)))
set_option maxRecDepth 100000 in
set_option maxHeartbeats 4000000 in
theorem gt_X10_telling (f : Nat) (I : am_I) (J : am_J) (Q : am_Q) (hG : Gr Q) (a1 : Int32) (a2 : Int32) (a3 : Int32) (a4 : Int32) (hp : p_X10_telling I a1 a2 a3 a4) : Gd MX10_telling (am_o 0 0 0 (am_FiI J Q (s_X10_telling I a1 a2 a3 a4))) 0 0 92 0 [some (.ref 46), some (.int a1), some (.int a2), some (.int a3), some (.int a4)] [] I J Q := by
  unfold s_X10_telling
  unfold p_X10_telling at hp
  refine gd_aload_n (q := 1) rfl rfl rfl ?_
  refine gd_getR (q := 4) (r := 86) rfl rfl rfl (Nat.le_of_ble_eq_true rfl) rfl rfl (gr_46_62 hG) ?_
  refine gd_aload_n (q := 5) rfl rfl rfl ?_
  refine gd_getI (q := 8) rfl rfl rfl (Nat.le_of_ble_eq_true rfl) rfl rfl ?_
  refine gd_iload_n (q := 9) rfl rfl rfl ?_
  refine gd_iast (q := 10) rfl rfl (Nat.le_of_ble_eq_true rfl) rfl hp.1 ?_
  replace hp := hp.2
  refine gd_aload_n (q := 11) rfl rfl rfl ?_
  refine gd_getR (q := 14) (r := 87) rfl rfl rfl (Nat.le_of_ble_eq_true rfl) rfl rfl (gr_46_63 hG) ?_
  refine gd_aload_n (q := 15) rfl rfl rfl ?_
  refine gd_getI (q := 18) rfl rfl rfl (Nat.le_of_ble_eq_true rfl) rfl rfl ?_
  refine gd_iload_n (q := 19) rfl rfl rfl ?_
  refine gd_iast (q := 20) rfl rfl (Nat.le_of_ble_eq_true rfl) rfl hp.1 ?_
  replace hp := hp.2
  refine gd_aload_n (q := 21) rfl rfl rfl ?_
  refine gd_getR (q := 24) (r := 88) rfl rfl rfl (Nat.le_of_ble_eq_true rfl) rfl rfl (gr_46_64 hG) ?_
  refine gd_aload_n (q := 25) rfl rfl rfl ?_
  refine gd_getI (q := 28) rfl rfl rfl (Nat.le_of_ble_eq_true rfl) rfl rfl ?_
  refine gd_iload_n (q := 29) rfl rfl rfl ?_
  refine gd_iast (q := 30) rfl rfl (Nat.le_of_ble_eq_true rfl) rfl hp.1 ?_
  replace hp := hp.2
  refine gd_aload_n (q := 31) rfl rfl rfl ?_
  refine gd_getR (q := 34) (r := 89) rfl rfl rfl (Nat.le_of_ble_eq_true rfl) rfl rfl (gr_46_65 hG) ?_
  refine gd_aload_n (q := 35) rfl rfl rfl ?_
  refine gd_getI (q := 38) rfl rfl rfl (Nat.le_of_ble_eq_true rfl) rfl rfl ?_
  refine gd_iload (q := 40) rfl rfl rfl ?_
  refine gd_iast (q := 41) rfl rfl (Nat.le_of_ble_eq_true rfl) rfl hp ?_
  refine gd_aload_n (q := 42) rfl rfl rfl ?_
  refine gd_dup (q := 43) rfl rfl rfl ?_
  refine gd_getI (q := 46) rfl rfl rfl (Nat.le_of_ble_eq_true rfl) rfl rfl ?_
  refine gd_iconst (v := 1) (q := 47) rfl rfl rfl ?_
  refine gd_iadd (q := 48) rfl rfl ?_
  refine gd_putI (q := 51) rfl rfl rfl (Nat.le_of_ble_eq_true rfl) rfl rfl rfl (Or.inl rfl) ?_
  refine gd_aload_n (q := 52) rfl rfl rfl ?_
  refine gd_getI (q := 55) rfl rfl rfl (Nat.le_of_ble_eq_true rfl) rfl rfl ?_
  refine gd_iconst (v := 1) (q := 56) rfl rfl rfl ?_
  refine gd_isub (q := 57) rfl rfl ?_
  exact gd_ireturn rfl rfl rfl (Nat.le_refl 0) (Nat.le_refl 0) rfl
theorem ct_X10_telling (f : Nat) (I : am_I) (J : am_J) (Q : am_Q) (hG : Gr Q) (a1 : Int32) (a2 : Int32) (a3 : Int32) (a4 : Int32) (hp : p_X10_telling I a1 a2 a3 a4) : Cm MX10_telling 0 0 0 92 [.ref 46, .int a1, .int a2, .int a3, .int a4] I J Q (am_FiI J Q (s_X10_telling I a1 a2 a3 a4)) := cm_of (by decide) rfl IX10_telling_ok (Nat.le_of_ble_eq_true rfl) (gt_X10_telling f I J Q hG a1 a2 a3 a4 hp)
def s_X10_span (I : am_I) (a1 : Int32) (a2 : Int32) (a3 : Int32) : Int32 × am_I := (if (I 46 61) = 12 then ((-1), I) else (if (s_X10_isEvent a1) = 0 then ((-1), I) else (if (s_X10_isDay a2) = 0 then ((-1), I) else (if (s_X10_isDay a3) = 0 then ((-1), I) else (if a2 ≤ a3 then (((s_X10_telling I 0 a1 a2 a3).1), ((s_X10_telling I 0 a1 a2 a3).2)) else ((-1), I))))))
def p_X10_span (I : am_I) (a1 : Int32) (a2 : Int32) (a3 : Int32) : Prop := (if (I 46 61) = 12 then True else (if (s_X10_isEvent a1) = 0 then True else (if (s_X10_isDay a2) = 0 then True else (if (s_X10_isDay a3) = 0 then True else (if a2 ≤ a3 then (p_X10_telling I 0 a1 a2 a3) else True)))))
set_option maxRecDepth 100000 in
set_option maxHeartbeats 4000000 in
theorem gt_X10_span (f : Nat) (I : am_I) (J : am_J) (Q : am_Q) (hG : Gr Q) (a1 : Int32) (a2 : Int32) (a3 : Int32) (hp : p_X10_span I a1 a2 a3) : Gd MX10_span (am_o 1 0 0 (am_FiI J Q (s_X10_span I a1 a2 a3))) 0 0 92 0 [some (.ref 46), some (.int a1), some (.int a2), some (.int a3)] [] I J Q := by
  unfold s_X10_span
  unfold p_X10_span at hp
  refine gd_aload_n (q := 1) rfl rfl rfl ?_
  refine gd_getI (q := 4) rfl rfl rfl (Nat.le_of_ble_eq_true rfl) rfl rfl ?_
  refine gd_bipush (v := 12) (q := 6) rfl rfl rfl ?_
  refine gx_icmp_eq (q := 9) (r := 35) rfl rfl rfl hp (fun c_6 hp => ?_) (fun c_6 hp => ?_)
  · refine gd_iconst (v := (-1)) (q := 36) rfl rfl rfl ?_
    refine gd_goto (q := 47) rfl rfl ?_
    exact gd_ireturn rfl rfl rfl (Nat.le_refl 0) (Nat.le_refl 0) rfl
  · refine gd_iload_n (q := 10) rfl rfl rfl ?_
    refine gd_cSi (q := 13) rfl rfl lk10_344 myX10_isEvent sxX10_isEvent (ct_X10_isEvent f _ _ _ hG _) rfl rfl (Nat.le_of_ble_eq_true rfl) ⟨(Nat.le_of_ble_eq_true rfl), (Nat.le_of_ble_eq_true rfl)⟩ ?_
    refine gx_if_eq (q := 16) (r := 35) rfl rfl rfl hp (fun c_13 hp => ?_) (fun c_13 hp => ?_)
    · refine gd_iconst (v := (-1)) (q := 36) rfl rfl rfl ?_
      refine gd_goto (q := 47) rfl rfl ?_
      exact gd_ireturn rfl rfl rfl (Nat.le_refl 0) (Nat.le_refl 0) rfl
    · refine gd_iload_n (q := 17) rfl rfl rfl ?_
      refine gd_cSi (q := 20) rfl rfl lk10_283 myX10_isDay sxX10_isDay (ct_X10_isDay f _ _ _ hG _) rfl rfl (Nat.le_of_ble_eq_true rfl) ⟨(Nat.le_of_ble_eq_true rfl), (Nat.le_of_ble_eq_true rfl)⟩ ?_
      refine gx_if_eq (q := 23) (r := 35) rfl rfl rfl hp (fun c_20 hp => ?_) (fun c_20 hp => ?_)
      · refine gd_iconst (v := (-1)) (q := 36) rfl rfl rfl ?_
        refine gd_goto (q := 47) rfl rfl ?_
        exact gd_ireturn rfl rfl rfl (Nat.le_refl 0) (Nat.le_refl 0) rfl
      · refine gd_iload_n (q := 24) rfl rfl rfl ?_
        refine gd_cSi (q := 27) rfl rfl lk10_283 myX10_isDay sxX10_isDay (ct_X10_isDay f _ _ _ hG _) rfl rfl (Nat.le_of_ble_eq_true rfl) ⟨(Nat.le_of_ble_eq_true rfl), (Nat.le_of_ble_eq_true rfl)⟩ ?_
        refine gx_if_eq (q := 30) (r := 35) rfl rfl rfl hp (fun c_27 hp => ?_) (fun c_27 hp => ?_)
        · refine gd_iconst (v := (-1)) (q := 36) rfl rfl rfl ?_
          refine gd_goto (q := 47) rfl rfl ?_
          exact gd_ireturn rfl rfl rfl (Nat.le_refl 0) (Nat.le_refl 0) rfl
        · refine gd_iload_n (q := 31) rfl rfl rfl ?_
          refine gd_iload_n (q := 32) rfl rfl rfl ?_
          refine gx_icmp_le (q := 35) (r := 39) rfl rfl rfl hp (fun c_32 hp => ?_) (fun c_32 hp => ?_)
          · refine gd_aload_n (q := 40) rfl rfl rfl ?_
            refine gd_iconst (v := 0) (q := 41) rfl rfl rfl ?_
            refine gd_iload_n (q := 42) rfl rfl rfl ?_
            refine gd_iload_n (q := 43) rfl rfl rfl ?_
            refine gd_iload_n (q := 44) rfl rfl rfl ?_
            refine gd_cVi (q := 47) rfl rfl lk10_347 myX10_telling vxX10_telling (ct_X10_telling f _ _ _ hG _ _ _ _ hp) rfl (Nat.le_of_ble_eq_true rfl) rfl rfl (Nat.le_of_ble_eq_true rfl) rfl (Nat.le_of_ble_eq_true rfl) ⟨(Nat.le_of_ble_eq_true rfl), (Nat.le_of_ble_eq_true rfl)⟩ ?_
            exact gd_ireturn rfl rfl rfl (Nat.le_refl 0) (Nat.le_refl 0) rfl
          · refine gd_iconst (v := (-1)) (q := 36) rfl rfl rfl ?_
            refine gd_goto (q := 47) rfl rfl ?_
            exact gd_ireturn rfl rfl rfl (Nat.le_refl 0) (Nat.le_refl 0) rfl
theorem ct_X10_span (f : Nat) (I : am_I) (J : am_J) (Q : am_Q) (hG : Gr Q) (a1 : Int32) (a2 : Int32) (a3 : Int32) (hp : p_X10_span I a1 a2 a3) : Cm MX10_span 1 0 0 92 [.ref 46, .int a1, .int a2, .int a3] I J Q (am_FiI J Q (s_X10_span I a1 a2 a3)) := cm_of (by decide) rfl IX10_span_ok (Nat.le_of_ble_eq_true rfl) (gt_X10_span f I J Q hG a1 a2 a3 hp)
def s_X10_behind (I : am_I) (a1 : Int32) (a2 : Int32) (a3 : Int32) : Int32 × am_I := (if (I 46 61) = 12 then ((-1), I) else (if (s_X10_isEvent a1) = 0 then ((-1), I) else (if (s_X10_isEvent a2) = 0 then ((-1), I) else (if a1 = a2 then ((-1), I) else (if a3 < (-9999) then ((-1), I) else (if a3 ≤ 9999 then (((s_X10_telling I 1 a1 a2 a3).1), ((s_X10_telling I 1 a1 a2 a3).2)) else ((-1), I)))))))
def p_X10_behind (I : am_I) (a1 : Int32) (a2 : Int32) (a3 : Int32) : Prop := (if (I 46 61) = 12 then True else (if (s_X10_isEvent a1) = 0 then True else (if (s_X10_isEvent a2) = 0 then True else (if a1 = a2 then True else (if a3 < (-9999) then True else (if a3 ≤ 9999 then (p_X10_telling I 1 a1 a2 a3) else True))))))
set_option maxRecDepth 100000 in
set_option maxHeartbeats 4000000 in
theorem gt_X10_behind (f : Nat) (I : am_I) (J : am_J) (Q : am_Q) (hG : Gr Q) (a1 : Int32) (a2 : Int32) (a3 : Int32) (hp : p_X10_behind I a1 a2 a3) : Gd MX10_behind (am_o 1 0 0 (am_FiI J Q (s_X10_behind I a1 a2 a3))) 0 0 92 0 [some (.ref 46), some (.int a1), some (.int a2), some (.int a3)] [] I J Q := by
  unfold s_X10_behind
  unfold p_X10_behind at hp
  refine gd_aload_n (q := 1) rfl rfl rfl ?_
  refine gd_getI (q := 4) rfl rfl rfl (Nat.le_of_ble_eq_true rfl) rfl rfl ?_
  refine gd_bipush (v := 12) (q := 6) rfl rfl rfl ?_
  refine gx_icmp_eq (q := 9) (r := 42) rfl rfl rfl hp (fun c_6 hp => ?_) (fun c_6 hp => ?_)
  · refine gd_iconst (v := (-1)) (q := 43) rfl rfl rfl ?_
    refine gd_goto (q := 54) rfl rfl ?_
    exact gd_ireturn rfl rfl rfl (Nat.le_refl 0) (Nat.le_refl 0) rfl
  · refine gd_iload_n (q := 10) rfl rfl rfl ?_
    refine gd_cSi (q := 13) rfl rfl lk10_344 myX10_isEvent sxX10_isEvent (ct_X10_isEvent f _ _ _ hG _) rfl rfl (Nat.le_of_ble_eq_true rfl) ⟨(Nat.le_of_ble_eq_true rfl), (Nat.le_of_ble_eq_true rfl)⟩ ?_
    refine gx_if_eq (q := 16) (r := 42) rfl rfl rfl hp (fun c_13 hp => ?_) (fun c_13 hp => ?_)
    · refine gd_iconst (v := (-1)) (q := 43) rfl rfl rfl ?_
      refine gd_goto (q := 54) rfl rfl ?_
      exact gd_ireturn rfl rfl rfl (Nat.le_refl 0) (Nat.le_refl 0) rfl
    · refine gd_iload_n (q := 17) rfl rfl rfl ?_
      refine gd_cSi (q := 20) rfl rfl lk10_344 myX10_isEvent sxX10_isEvent (ct_X10_isEvent f _ _ _ hG _) rfl rfl (Nat.le_of_ble_eq_true rfl) ⟨(Nat.le_of_ble_eq_true rfl), (Nat.le_of_ble_eq_true rfl)⟩ ?_
      refine gx_if_eq (q := 23) (r := 42) rfl rfl rfl hp (fun c_20 hp => ?_) (fun c_20 hp => ?_)
      · refine gd_iconst (v := (-1)) (q := 43) rfl rfl rfl ?_
        refine gd_goto (q := 54) rfl rfl ?_
        exact gd_ireturn rfl rfl rfl (Nat.le_refl 0) (Nat.le_refl 0) rfl
      · refine gd_iload_n (q := 24) rfl rfl rfl ?_
        refine gd_iload_n (q := 25) rfl rfl rfl ?_
        refine gx_icmp_eq (q := 28) (r := 42) rfl rfl rfl hp (fun c_25 hp => ?_) (fun c_25 hp => ?_)
        · refine gd_iconst (v := (-1)) (q := 43) rfl rfl rfl ?_
          refine gd_goto (q := 54) rfl rfl ?_
          exact gd_ireturn rfl rfl rfl (Nat.le_refl 0) (Nat.le_refl 0) rfl
        · refine gd_iload_n (q := 29) rfl rfl rfl ?_
          refine gd_sipush (v := (-9999)) (q := 32) rfl rfl rfl ?_
          refine gx_icmp_lt (q := 35) (r := 42) rfl rfl rfl hp (fun c_32 hp => ?_) (fun c_32 hp => ?_)
          · refine gd_iconst (v := (-1)) (q := 43) rfl rfl rfl ?_
            refine gd_goto (q := 54) rfl rfl ?_
            exact gd_ireturn rfl rfl rfl (Nat.le_refl 0) (Nat.le_refl 0) rfl
          · refine gd_iload_n (q := 36) rfl rfl rfl ?_
            refine gd_sipush (v := 9999) (q := 39) rfl rfl rfl ?_
            refine gx_icmp_le (q := 42) (r := 46) rfl rfl rfl hp (fun c_39 hp => ?_) (fun c_39 hp => ?_)
            · refine gd_aload_n (q := 47) rfl rfl rfl ?_
              refine gd_iconst (v := 1) (q := 48) rfl rfl rfl ?_
              refine gd_iload_n (q := 49) rfl rfl rfl ?_
              refine gd_iload_n (q := 50) rfl rfl rfl ?_
              refine gd_iload_n (q := 51) rfl rfl rfl ?_
              refine gd_cVi (q := 54) rfl rfl lk10_347 myX10_telling vxX10_telling (ct_X10_telling f _ _ _ hG _ _ _ _ hp) rfl (Nat.le_of_ble_eq_true rfl) rfl rfl (Nat.le_of_ble_eq_true rfl) rfl (Nat.le_of_ble_eq_true rfl) ⟨(Nat.le_of_ble_eq_true rfl), (Nat.le_of_ble_eq_true rfl)⟩ ?_
              exact gd_ireturn rfl rfl rfl (Nat.le_refl 0) (Nat.le_refl 0) rfl
            · refine gd_iconst (v := (-1)) (q := 43) rfl rfl rfl ?_
              refine gd_goto (q := 54) rfl rfl ?_
              exact gd_ireturn rfl rfl rfl (Nat.le_refl 0) (Nat.le_refl 0) rfl
theorem ct_X10_behind (f : Nat) (I : am_I) (J : am_J) (Q : am_Q) (hG : Gr Q) (a1 : Int32) (a2 : Int32) (a3 : Int32) (hp : p_X10_behind I a1 a2 a3) : Cm MX10_behind 1 0 0 92 [.ref 46, .int a1, .int a2, .int a3] I J Q (am_FiI J Q (s_X10_behind I a1 a2 a3)) := cm_of (by decide) rfl IX10_behind_ok (Nat.le_of_ble_eq_true rfl) (gt_X10_behind f I J Q hG a1 a2 a3 hp)
def s_X10_same (I : am_I) (a1 : Int32) (a2 : Int32) : Int32 × am_I := (if (I 46 61) = 12 then ((-1), I) else (if (s_X10_isEvent a1) = 0 then ((-1), I) else (if (s_X10_isEvent a2) = 0 then ((-1), I) else (if a1 = a2 then ((-1), I) else (((s_X10_telling I 2 a1 a2 0).1), ((s_X10_telling I 2 a1 a2 0).2))))))
def p_X10_same (I : am_I) (a1 : Int32) (a2 : Int32) : Prop := (if (I 46 61) = 12 then True else (if (s_X10_isEvent a1) = 0 then True else (if (s_X10_isEvent a2) = 0 then True else (if a1 = a2 then True else (p_X10_telling I 2 a1 a2 0)))))
set_option maxRecDepth 100000 in
set_option maxHeartbeats 4000000 in
theorem gt_X10_same (f : Nat) (I : am_I) (J : am_J) (Q : am_Q) (hG : Gr Q) (a1 : Int32) (a2 : Int32) (hp : p_X10_same I a1 a2) : Gd MX10_same (am_o 1 0 0 (am_FiI J Q (s_X10_same I a1 a2))) 0 0 92 0 [some (.ref 46), some (.int a1), some (.int a2)] [] I J Q := by
  unfold s_X10_same
  unfold p_X10_same at hp
  refine gd_aload_n (q := 1) rfl rfl rfl ?_
  refine gd_getI (q := 4) rfl rfl rfl (Nat.le_of_ble_eq_true rfl) rfl rfl ?_
  refine gd_bipush (v := 12) (q := 6) rfl rfl rfl ?_
  refine gx_icmp_eq (q := 9) (r := 28) rfl rfl rfl hp (fun c_6 hp => ?_) (fun c_6 hp => ?_)
  · refine gd_iconst (v := (-1)) (q := 29) rfl rfl rfl ?_
    refine gd_goto (q := 40) rfl rfl ?_
    exact gd_ireturn rfl rfl rfl (Nat.le_refl 0) (Nat.le_refl 0) rfl
  · refine gd_iload_n (q := 10) rfl rfl rfl ?_
    refine gd_cSi (q := 13) rfl rfl lk10_344 myX10_isEvent sxX10_isEvent (ct_X10_isEvent f _ _ _ hG _) rfl rfl (Nat.le_of_ble_eq_true rfl) ⟨(Nat.le_of_ble_eq_true rfl), (Nat.le_of_ble_eq_true rfl)⟩ ?_
    refine gx_if_eq (q := 16) (r := 28) rfl rfl rfl hp (fun c_13 hp => ?_) (fun c_13 hp => ?_)
    · refine gd_iconst (v := (-1)) (q := 29) rfl rfl rfl ?_
      refine gd_goto (q := 40) rfl rfl ?_
      exact gd_ireturn rfl rfl rfl (Nat.le_refl 0) (Nat.le_refl 0) rfl
    · refine gd_iload_n (q := 17) rfl rfl rfl ?_
      refine gd_cSi (q := 20) rfl rfl lk10_344 myX10_isEvent sxX10_isEvent (ct_X10_isEvent f _ _ _ hG _) rfl rfl (Nat.le_of_ble_eq_true rfl) ⟨(Nat.le_of_ble_eq_true rfl), (Nat.le_of_ble_eq_true rfl)⟩ ?_
      refine gx_if_eq (q := 23) (r := 28) rfl rfl rfl hp (fun c_20 hp => ?_) (fun c_20 hp => ?_)
      · refine gd_iconst (v := (-1)) (q := 29) rfl rfl rfl ?_
        refine gd_goto (q := 40) rfl rfl ?_
        exact gd_ireturn rfl rfl rfl (Nat.le_refl 0) (Nat.le_refl 0) rfl
      · refine gd_iload_n (q := 24) rfl rfl rfl ?_
        refine gd_iload_n (q := 25) rfl rfl rfl ?_
        refine gx_icmp_ne (q := 28) (r := 32) rfl rfl rfl hp (fun c_25 hp => ?_) (fun c_25 hp => ?_)
        · refine gd_iconst (v := (-1)) (q := 29) rfl rfl rfl ?_
          refine gd_goto (q := 40) rfl rfl ?_
          exact gd_ireturn rfl rfl rfl (Nat.le_refl 0) (Nat.le_refl 0) rfl
        · refine gd_aload_n (q := 33) rfl rfl rfl ?_
          refine gd_iconst (v := 2) (q := 34) rfl rfl rfl ?_
          refine gd_iload_n (q := 35) rfl rfl rfl ?_
          refine gd_iload_n (q := 36) rfl rfl rfl ?_
          refine gd_iconst (v := 0) (q := 37) rfl rfl rfl ?_
          refine gd_cVi (q := 40) rfl rfl lk10_347 myX10_telling vxX10_telling (ct_X10_telling f _ _ _ hG _ _ _ _ hp) rfl (Nat.le_of_ble_eq_true rfl) rfl rfl (Nat.le_of_ble_eq_true rfl) rfl (Nat.le_of_ble_eq_true rfl) ⟨(Nat.le_of_ble_eq_true rfl), (Nat.le_of_ble_eq_true rfl)⟩ ?_
          exact gd_ireturn rfl rfl rfl (Nat.le_refl 0) (Nat.le_refl 0) rfl
theorem ct_X10_same (f : Nat) (I : am_I) (J : am_J) (Q : am_Q) (hG : Gr Q) (a1 : Int32) (a2 : Int32) (hp : p_X10_same I a1 a2) : Cm MX10_same 1 0 0 92 [.ref 46, .int a1, .int a2] I J Q (am_FiI J Q (s_X10_same I a1 a2)) := cm_of (by decide) rfl IX10_same_ok (Nat.le_of_ble_eq_true rfl) (gt_X10_same f I J Q hG a1 a2 hp)
def s_X10_pushes_J36 (a1 : Int32) (a2 : Int32) (a3 : Int32)  (I : am_I) : am_I := (if (I 91 a2.toNatClampNeg) ≤ ((I 91 a1.toNatClampNeg) - a3) then I else (am_w (am_w I 91 a2.toNatClampNeg ((I 91 a1.toNatClampNeg) - a3)) 46 68 1))
def p_X10_pushes_J36 (a1 : Int32) (a2 : Int32) (a3 : Int32)  (I : am_I) : Prop := (vp_in a1 10 ∧ (vp_in a2 10 ∧ (if (I 91 a2.toNatClampNeg) ≤ ((I 91 a1.toNatClampNeg) - a3) then True else (vp_in a1 10 ∧ vp_in a2 10))))
def s_X10_pushes (I : am_I) (a1 : Int32) (a2 : Int32) (a3 : Int32) : am_I := (if ((I 90 a2.toNatClampNeg) + a3) ≤ (I 90 a1.toNatClampNeg) then (s_X10_pushes_J36 a1 a2 a3 I) else (s_X10_pushes_J36 a1 a2 a3 (am_w (am_w I 90 a1.toNatClampNeg ((I 90 a2.toNatClampNeg) + a3)) 46 68 1)))
def p_X10_pushes (I : am_I) (a1 : Int32) (a2 : Int32) (a3 : Int32) : Prop := (vp_in a2 10 ∧ (vp_in a1 10 ∧ (if ((I 90 a2.toNatClampNeg) + a3) ≤ (I 90 a1.toNatClampNeg) then (p_X10_pushes_J36 a1 a2 a3 I) else (vp_in a2 10 ∧ (vp_in a1 10 ∧ (p_X10_pushes_J36 a1 a2 a3 (am_w (am_w I 90 a1.toNatClampNeg ((I 90 a2.toNatClampNeg) + a3)) 46 68 1)))))))
set_option maxRecDepth 100000 in
set_option maxHeartbeats 4000000 in
theorem gl_X10_pushes_36 (a1 : Int32) (a2 : Int32) (a3 : Int32) (f : Nat) (J : am_J) (Q : am_Q) (hG : Gr Q) (I : am_I) : p_X10_pushes_J36 a1 a2 a3 I → Gd MX10_pushes (am_o 0 0 0 (am_FvI J Q (s_X10_pushes_J36 a1 a2 a3 I))) 0 0 92 36 [some (.ref 46), some (.int a1), some (.int a2), some (.int a3)] [] I J Q := by
  intro hp
  unfold s_X10_pushes_J36
  unfold p_X10_pushes_J36 at hp
  refine gd_aload_n (q := 37) rfl rfl rfl ?_
  refine gd_getR (q := 40) (r := 91) rfl rfl rfl (Nat.le_of_ble_eq_true rfl) rfl rfl (gr_46_67 hG) ?_
  refine gd_iload_n (q := 41) rfl rfl rfl ?_
  refine gd_iald (q := 42) rfl rfl (Nat.le_of_ble_eq_true rfl) rfl hp.1 ?_
  replace hp := hp.2
  refine gd_iload_n (q := 43) rfl rfl rfl ?_
  refine gd_isub (q := 44) rfl rfl ?_
  refine gd_aload_n (q := 45) rfl rfl rfl ?_
  refine gd_getR (q := 48) (r := 91) rfl rfl rfl (Nat.le_of_ble_eq_true rfl) rfl rfl (gr_46_67 hG) ?_
  refine gd_iload_n (q := 49) rfl rfl rfl ?_
  refine gd_iald (q := 50) rfl rfl (Nat.le_of_ble_eq_true rfl) rfl hp.1 ?_
  replace hp := hp.2
  refine gx_icmp_ge (q := 53) (r := 72) rfl rfl rfl hp (fun c_50 hp => ?_) (fun c_50 hp => ?_)
  · exact gd_return rfl rfl (Nat.le_refl 0) (Nat.le_refl 0) rfl
  · refine gd_aload_n (q := 54) rfl rfl rfl ?_
    refine gd_getR (q := 57) (r := 91) rfl rfl rfl (Nat.le_of_ble_eq_true rfl) rfl rfl (gr_46_67 hG) ?_
    refine gd_iload_n (q := 58) rfl rfl rfl ?_
    refine gd_aload_n (q := 59) rfl rfl rfl ?_
    refine gd_getR (q := 62) (r := 91) rfl rfl rfl (Nat.le_of_ble_eq_true rfl) rfl rfl (gr_46_67 hG) ?_
    refine gd_iload_n (q := 63) rfl rfl rfl ?_
    refine gd_iald (q := 64) rfl rfl (Nat.le_of_ble_eq_true rfl) rfl hp.1 ?_
    replace hp := hp.2
    refine gd_iload_n (q := 65) rfl rfl rfl ?_
    refine gd_isub (q := 66) rfl rfl ?_
    refine gd_iast (q := 67) rfl rfl (Nat.le_of_ble_eq_true rfl) rfl hp ?_
    refine gd_aload_n (q := 68) rfl rfl rfl ?_
    refine gd_iconst (v := 1) (q := 69) rfl rfl rfl ?_
    refine gd_putZ (q := 72) rfl rfl rfl (Nat.le_of_ble_eq_true rfl) rfl rfl rfl (by decide) rfl ?_
    exact gd_return rfl rfl (Nat.le_refl 0) (Nat.le_refl 0) rfl
set_option maxRecDepth 100000 in
set_option maxHeartbeats 4000000 in
theorem gt_X10_pushes (f : Nat) (I : am_I) (J : am_J) (Q : am_Q) (hG : Gr Q) (a1 : Int32) (a2 : Int32) (a3 : Int32) (hp : p_X10_pushes I a1 a2 a3) : Gd MX10_pushes (am_o 0 0 0 (am_FvI J Q (s_X10_pushes I a1 a2 a3))) 0 0 92 0 [some (.ref 46), some (.int a1), some (.int a2), some (.int a3)] [] I J Q := by
  unfold s_X10_pushes
  unfold p_X10_pushes at hp
  refine gd_aload_n (q := 1) rfl rfl rfl ?_
  refine gd_getR (q := 4) (r := 90) rfl rfl rfl (Nat.le_of_ble_eq_true rfl) rfl rfl (gr_46_66 hG) ?_
  refine gd_iload_n (q := 5) rfl rfl rfl ?_
  refine gd_iald (q := 6) rfl rfl (Nat.le_of_ble_eq_true rfl) rfl hp.1 ?_
  replace hp := hp.2
  refine gd_iload_n (q := 7) rfl rfl rfl ?_
  refine gd_iadd (q := 8) rfl rfl ?_
  refine gd_aload_n (q := 9) rfl rfl rfl ?_
  refine gd_getR (q := 12) (r := 90) rfl rfl rfl (Nat.le_of_ble_eq_true rfl) rfl rfl (gr_46_66 hG) ?_
  refine gd_iload_n (q := 13) rfl rfl rfl ?_
  refine gd_iald (q := 14) rfl rfl (Nat.le_of_ble_eq_true rfl) rfl hp.1 ?_
  replace hp := hp.2
  refine gx_icmp_le (q := 17) (r := 36) rfl rfl rfl hp (fun c_14 hp => ?_) (fun c_14 hp => ?_)
  · exact gl_X10_pushes_36 a1 a2 a3 f J Q hG _ hp
  · refine gd_aload_n (q := 18) rfl rfl rfl ?_
    refine gd_getR (q := 21) (r := 90) rfl rfl rfl (Nat.le_of_ble_eq_true rfl) rfl rfl (gr_46_66 hG) ?_
    refine gd_iload_n (q := 22) rfl rfl rfl ?_
    refine gd_aload_n (q := 23) rfl rfl rfl ?_
    refine gd_getR (q := 26) (r := 90) rfl rfl rfl (Nat.le_of_ble_eq_true rfl) rfl rfl (gr_46_66 hG) ?_
    refine gd_iload_n (q := 27) rfl rfl rfl ?_
    refine gd_iald (q := 28) rfl rfl (Nat.le_of_ble_eq_true rfl) rfl hp.1 ?_
    replace hp := hp.2
    refine gd_iload_n (q := 29) rfl rfl rfl ?_
    refine gd_iadd (q := 30) rfl rfl ?_
    refine gd_iast (q := 31) rfl rfl (Nat.le_of_ble_eq_true rfl) rfl hp.1 ?_
    replace hp := hp.2
    refine gd_aload_n (q := 32) rfl rfl rfl ?_
    refine gd_iconst (v := 1) (q := 33) rfl rfl rfl ?_
    refine gd_putZ (q := 36) rfl rfl rfl (Nat.le_of_ble_eq_true rfl) rfl rfl rfl (by decide) rfl ?_
    exact gl_X10_pushes_36 a1 a2 a3 f J Q hG _ hp
theorem ct_X10_pushes (f : Nat) (I : am_I) (J : am_J) (Q : am_Q) (hG : Gr Q) (a1 : Int32) (a2 : Int32) (a3 : Int32) (hp : p_X10_pushes I a1 a2 a3) : Cm MX10_pushes 0 0 0 92 [.ref 46, .int a1, .int a2, .int a3] I J Q (am_FvI J Q (s_X10_pushes I a1 a2 a3)) := cm_of (by decide) rfl IX10_pushes_ok (Nat.le_of_ble_eq_true rfl) (gt_X10_pushes f I J Q hG a1 a2 a3 hp)
def s_X10_agrees_L265 (a1 : Int32) (a2 : Int32)  : Nat → Int32 → am_I → Int32 × am_I
  | 0, _, I => (0, I)
  | g + 1, v3, I => (if 10 ≤ v3 then (1, I) else (if (I 90 v3.toNatClampNeg) ≤ (I 91 v3.toNatClampNeg) then (s_X10_agrees_L265 a1 a2 g (v3 + 1) I) else (0, I)))
def p_X10_agrees_L265 (a1 : Int32) (a2 : Int32)  : Nat → Int32 → am_I → Prop
  | 0, _, _ => False
  | g + 1, v3, I => (if 10 ≤ v3 then True else (vp_in v3 10 ∧ (vp_in v3 10 ∧ (if (I 90 v3.toNatClampNeg) ≤ (I 91 v3.toNatClampNeg) then (p_X10_agrees_L265 a1 a2 g (v3 + 1) I) else True))))
theorem z_X10_agrees_L265 (a1 : Int32) (a2 : Int32)  : ∀ (g : Nat), (∀ (v3 : Int32) (I : am_I), (s_X10_agrees_L265 a1 a2 g v3 I).1 = 0 ∨ (s_X10_agrees_L265 a1 a2 g v3 I).1 = 1) := by
  intro g
  induction g with
  | zero => (intros; exact Or.inl rfl)
  | succ g ih =>
    intro v3 I
    rw [s_X10_agrees_L265]
    repeat' split
    all_goals first | exact Or.inl rfl | exact Or.inr rfl | exact ih _ _
def s_X10_agrees_L137 (a1 : Int32) (a2 : Int32) (f : Nat) : Nat → Nat → Int32 → Int32 → am_I → Int32 × am_I
  | 0, _, _, _, I => (0, I)
  | g + 1, 0, v3, v4, I => (if 12 ≤ v3 then (if (I 46 68) = 0 then (s_X10_agrees_L265 a1 a2 f 0 I) else (0, I)) else (if (I 46 68) = 0 then (if (I 46 68) = 0 then (s_X10_agrees_L265 a1 a2 f 0 I) else (0, I)) else (s_X10_agrees_L137 a1 a2 f g 1 v3 0 (am_w I 46 68 0))))
  | g + 1, 1, v3, v4, I => (if a1 ≤ v4 then (s_X10_agrees_L137 a1 a2 f g 0 (v3 + 1) 0 I) else (if ((a2 >>> (v4 &&& 31)) &&& 1) = 1 then (s_X10_agrees_L137 a1 a2 f g 1 v3 (v4 + 1) I) else (if (I 86 v4.toNatClampNeg) = 0 then (s_X10_agrees_L137 a1 a2 f g 1 v3 (v4 + 1) I) else (if ((s_X10_pushes I (I 87 v4.toNatClampNeg) (I 88 v4.toNatClampNeg) (I 89 v4.toNatClampNeg)) 86 v4.toNatClampNeg) = 2 then (s_X10_agrees_L137 a1 a2 f g 1 v3 (v4 + 1) (s_X10_pushes (s_X10_pushes I (I 87 v4.toNatClampNeg) (I 88 v4.toNatClampNeg) (I 89 v4.toNatClampNeg)) ((s_X10_pushes I (I 87 v4.toNatClampNeg) (I 88 v4.toNatClampNeg) (I 89 v4.toNatClampNeg)) 88 v4.toNatClampNeg) ((s_X10_pushes I (I 87 v4.toNatClampNeg) (I 88 v4.toNatClampNeg) (I 89 v4.toNatClampNeg)) 87 v4.toNatClampNeg) 0)) else (s_X10_agrees_L137 a1 a2 f g 1 v3 (v4 + 1) (s_X10_pushes I (I 87 v4.toNatClampNeg) (I 88 v4.toNatClampNeg) (I 89 v4.toNatClampNeg)))))))
  | _ + 1, _ + 2, _, _, I => (0, I)
def p_X10_agrees_L137 (a1 : Int32) (a2 : Int32) (f : Nat) : Nat → Nat → Int32 → Int32 → am_I → Prop
  | 0, _, _, _, _ => False
  | g + 1, 0, v3, v4, I => (if 12 ≤ v3 then (if (I 46 68) = 0 then (p_X10_agrees_L265 a1 a2 f 0 I) else True) else (if (I 46 68) = 0 then (if (I 46 68) = 0 then (p_X10_agrees_L265 a1 a2 f 0 I) else True) else (p_X10_agrees_L137 a1 a2 f g 1 v3 0 (am_w I 46 68 0))))
  | g + 1, 1, v3, v4, I => (if a1 ≤ v4 then (p_X10_agrees_L137 a1 a2 f g 0 (v3 + 1) 0 I) else (if ((a2 >>> (v4 &&& 31)) &&& 1) = 1 then (p_X10_agrees_L137 a1 a2 f g 1 v3 (v4 + 1) I) else (vp_in v4 12 ∧ (if (I 86 v4.toNatClampNeg) = 0 then (p_X10_agrees_L137 a1 a2 f g 1 v3 (v4 + 1) I) else (vp_in v4 12 ∧ (vp_in v4 12 ∧ (vp_in v4 12 ∧ ((p_X10_pushes I (I 87 v4.toNatClampNeg) (I 88 v4.toNatClampNeg) (I 89 v4.toNatClampNeg)) ∧ (vp_in v4 12 ∧ (if ((s_X10_pushes I (I 87 v4.toNatClampNeg) (I 88 v4.toNatClampNeg) (I 89 v4.toNatClampNeg)) 86 v4.toNatClampNeg) = 2 then (vp_in v4 12 ∧ (vp_in v4 12 ∧ ((p_X10_pushes (s_X10_pushes I (I 87 v4.toNatClampNeg) (I 88 v4.toNatClampNeg) (I 89 v4.toNatClampNeg)) ((s_X10_pushes I (I 87 v4.toNatClampNeg) (I 88 v4.toNatClampNeg) (I 89 v4.toNatClampNeg)) 88 v4.toNatClampNeg) ((s_X10_pushes I (I 87 v4.toNatClampNeg) (I 88 v4.toNatClampNeg) (I 89 v4.toNatClampNeg)) 87 v4.toNatClampNeg) 0) ∧ (p_X10_agrees_L137 a1 a2 f g 1 v3 (v4 + 1) (s_X10_pushes (s_X10_pushes I (I 87 v4.toNatClampNeg) (I 88 v4.toNatClampNeg) (I 89 v4.toNatClampNeg)) ((s_X10_pushes I (I 87 v4.toNatClampNeg) (I 88 v4.toNatClampNeg) (I 89 v4.toNatClampNeg)) 88 v4.toNatClampNeg) ((s_X10_pushes I (I 87 v4.toNatClampNeg) (I 88 v4.toNatClampNeg) (I 89 v4.toNatClampNeg)) 87 v4.toNatClampNeg) 0))))) else (p_X10_agrees_L137 a1 a2 f g 1 v3 (v4 + 1) (s_X10_pushes I (I 87 v4.toNatClampNeg) (I 88 v4.toNatClampNeg) (I 89 v4.toNatClampNeg)))))))))))))
  | _ + 1, _ + 2, _, _, _ => False
theorem z_X10_agrees_L137 (a1 : Int32) (a2 : Int32) (f : Nat) : ∀ (g : Nat), (∀ (v3 : Int32) (v4 : Int32) (I : am_I), (s_X10_agrees_L137 a1 a2 f g 0 v3 v4 I).1 = 0 ∨ (s_X10_agrees_L137 a1 a2 f g 0 v3 v4 I).1 = 1) ∧ (∀ (v3 : Int32) (v4 : Int32) (I : am_I), (s_X10_agrees_L137 a1 a2 f g 1 v3 v4 I).1 = 0 ∨ (s_X10_agrees_L137 a1 a2 f g 1 v3 v4 I).1 = 1) := by
  intro g
  induction g with
  | zero => refine ⟨?_, ?_⟩ <;> (intros; exact Or.inl rfl)
  | succ g ih =>
    refine ⟨?_, ?_⟩
    · intro v3 v4 I
      rw [s_X10_agrees_L137]
      repeat' split
      all_goals first | exact Or.inl rfl | exact Or.inr rfl | exact (z_X10_agrees_L265 _ _ _) _ _ | exact ih.1 _ _ _ | exact ih.2 _ _ _
    · intro v3 v4 I
      rw [s_X10_agrees_L137]
      repeat' split
      all_goals first | exact Or.inl rfl | exact Or.inr rfl | exact (z_X10_agrees_L265 _ _ _) _ _ | exact ih.1 _ _ _ | exact ih.2 _ _ _
def s_X10_agrees_L32 (a1 : Int32) (a2 : Int32) (f : Nat) : Nat → Int32 → am_I → Int32 × am_I
  | 0, _, I => (0, I)
  | g + 1, v3, I => (if a1 ≤ v3 then (s_X10_agrees_L137 a1 a2 f f 0 0 0 (am_w I 46 68 1)) else (if ((a2 >>> (v3 &&& 31)) &&& 1) = 1 then (s_X10_agrees_L32 a1 a2 f g (v3 + 1) I) else (if (I 86 v3.toNatClampNeg) = 0 then (if (I 88 v3.toNatClampNeg) ≤ (I 90 (I 87 v3.toNatClampNeg).toNatClampNeg) then (if (I 91 (I 87 v3.toNatClampNeg).toNatClampNeg) ≤ (I 89 v3.toNatClampNeg) then (s_X10_agrees_L32 a1 a2 f g (v3 + 1) I) else (s_X10_agrees_L32 a1 a2 f g (v3 + 1) (am_w I 91 (I 87 v3.toNatClampNeg).toNatClampNeg (I 89 v3.toNatClampNeg)))) else (if (I 91 (I 87 v3.toNatClampNeg).toNatClampNeg) ≤ (I 89 v3.toNatClampNeg) then (s_X10_agrees_L32 a1 a2 f g (v3 + 1) (am_w I 90 (I 87 v3.toNatClampNeg).toNatClampNeg (I 88 v3.toNatClampNeg))) else (s_X10_agrees_L32 a1 a2 f g (v3 + 1) (am_w (am_w I 90 (I 87 v3.toNatClampNeg).toNatClampNeg (I 88 v3.toNatClampNeg)) 91 (I 87 v3.toNatClampNeg).toNatClampNeg (I 89 v3.toNatClampNeg))))) else (s_X10_agrees_L32 a1 a2 f g (v3 + 1) I))))
def p_X10_agrees_L32 (a1 : Int32) (a2 : Int32) (f : Nat) : Nat → Int32 → am_I → Prop
  | 0, _, _ => False
  | g + 1, v3, I => (if a1 ≤ v3 then (p_X10_agrees_L137 a1 a2 f f 0 0 0 (am_w I 46 68 1)) else (if ((a2 >>> (v3 &&& 31)) &&& 1) = 1 then (p_X10_agrees_L32 a1 a2 f g (v3 + 1) I) else (vp_in v3 12 ∧ (if (I 86 v3.toNatClampNeg) = 0 then (vp_in v3 12 ∧ (vp_in v3 12 ∧ (vp_in (I 87 v3.toNatClampNeg) 10 ∧ (if (I 88 v3.toNatClampNeg) ≤ (I 90 (I 87 v3.toNatClampNeg).toNatClampNeg) then (vp_in v3 12 ∧ (vp_in (I 87 v3.toNatClampNeg) 10 ∧ (if (I 91 (I 87 v3.toNatClampNeg).toNatClampNeg) ≤ (I 89 v3.toNatClampNeg) then (p_X10_agrees_L32 a1 a2 f g (v3 + 1) I) else (vp_in v3 12 ∧ (vp_in (I 87 v3.toNatClampNeg) 10 ∧ (p_X10_agrees_L32 a1 a2 f g (v3 + 1) (am_w I 91 (I 87 v3.toNatClampNeg).toNatClampNeg (I 89 v3.toNatClampNeg)))))))) else (vp_in v3 12 ∧ (vp_in (I 87 v3.toNatClampNeg) 10 ∧ (vp_in v3 12 ∧ (vp_in (I 87 v3.toNatClampNeg) 10 ∧ (if (I 91 (I 87 v3.toNatClampNeg).toNatClampNeg) ≤ (I 89 v3.toNatClampNeg) then (p_X10_agrees_L32 a1 a2 f g (v3 + 1) (am_w I 90 (I 87 v3.toNatClampNeg).toNatClampNeg (I 88 v3.toNatClampNeg))) else (vp_in v3 12 ∧ (vp_in (I 87 v3.toNatClampNeg) 10 ∧ (p_X10_agrees_L32 a1 a2 f g (v3 + 1) (am_w (am_w I 90 (I 87 v3.toNatClampNeg).toNatClampNeg (I 88 v3.toNatClampNeg)) 91 (I 87 v3.toNatClampNeg).toNatClampNeg (I 89 v3.toNatClampNeg)))))))))))))) else (p_X10_agrees_L32 a1 a2 f g (v3 + 1) I)))))
theorem z_X10_agrees_L32 (a1 : Int32) (a2 : Int32) (f : Nat) : ∀ (g : Nat), (∀ (v3 : Int32) (I : am_I), (s_X10_agrees_L32 a1 a2 f g v3 I).1 = 0 ∨ (s_X10_agrees_L32 a1 a2 f g v3 I).1 = 1) := by
  intro g
  induction g with
  | zero => (intros; exact Or.inl rfl)
  | succ g ih =>
    intro v3 I
    rw [s_X10_agrees_L32]
    repeat' split
    all_goals first | exact Or.inl rfl | exact Or.inr rfl | exact (z_X10_agrees_L265 _ _ _) _ _ | exact (z_X10_agrees_L137 _ _ _ _).1 _ _ _ | exact (z_X10_agrees_L137 _ _ _ _).2 _ _ _ | exact ih _ _
def s_X10_agrees_L2 (a1 : Int32) (a2 : Int32) (f : Nat) : Nat → Int32 → am_I → Int32 × am_I
  | 0, _, I => (0, I)
  | g + 1, v3, I => (if 10 ≤ v3 then (s_X10_agrees_L32 a1 a2 f f 0 I) else (s_X10_agrees_L2 a1 a2 f g (v3 + 1) (am_w (am_w I 90 v3.toNatClampNeg 0) 91 v3.toNatClampNeg 9999)))
def p_X10_agrees_L2 (a1 : Int32) (a2 : Int32) (f : Nat) : Nat → Int32 → am_I → Prop
  | 0, _, _ => False
  | g + 1, v3, I => (if 10 ≤ v3 then (p_X10_agrees_L32 a1 a2 f f 0 I) else (vp_in v3 10 ∧ (vp_in v3 10 ∧ (p_X10_agrees_L2 a1 a2 f g (v3 + 1) (am_w (am_w I 90 v3.toNatClampNeg 0) 91 v3.toNatClampNeg 9999)))))
theorem z_X10_agrees_L2 (a1 : Int32) (a2 : Int32) (f : Nat) : ∀ (g : Nat), (∀ (v3 : Int32) (I : am_I), (s_X10_agrees_L2 a1 a2 f g v3 I).1 = 0 ∨ (s_X10_agrees_L2 a1 a2 f g v3 I).1 = 1) := by
  intro g
  induction g with
  | zero => (intros; exact Or.inl rfl)
  | succ g ih =>
    intro v3 I
    rw [s_X10_agrees_L2]
    repeat' split
    all_goals first | exact Or.inl rfl | exact Or.inr rfl | exact (z_X10_agrees_L265 _ _ _) _ _ | exact (z_X10_agrees_L137 _ _ _ _).1 _ _ _ | exact (z_X10_agrees_L137 _ _ _ _).2 _ _ _ | exact (z_X10_agrees_L32 _ _ _ _) _ _ | exact ih _ _
def s_X10_agrees (f : Nat) (I : am_I) (a1 : Int32) (a2 : Int32) : Int32 × am_I := (s_X10_agrees_L2 a1 a2 f f 0 I)
def p_X10_agrees (f : Nat) (I : am_I) (a1 : Int32) (a2 : Int32) : Prop := (p_X10_agrees_L2 a1 a2 f f 0 I)
theorem z_X10_agrees (f : Nat) (I : am_I) (a1 : Int32) (a2 : Int32) : (s_X10_agrees f I a1 a2).1 = 0 ∨ (s_X10_agrees f I a1 a2).1 = 1 := by
  unfold s_X10_agrees
  repeat' split
  all_goals first | exact Or.inl rfl | exact Or.inr rfl | exact (z_X10_agrees_L265 _ _ _) _ _ | exact (z_X10_agrees_L137 _ _ _ _).1 _ _ _ | exact (z_X10_agrees_L137 _ _ _ _).2 _ _ _ | exact (z_X10_agrees_L32 _ _ _ _) _ _ | exact (z_X10_agrees_L2 _ _ _ _) _ _
set_option maxRecDepth 100000 in
set_option maxHeartbeats 4000000 in
theorem gl_X10_agrees_L265 (a1 : Int32) (a2 : Int32) (f : Nat) (J : am_J) (Q : am_Q) (hG : Gr Q) : ∀ g : Nat, (∀ (v3 : Int32) (I : am_I), p_X10_agrees_L265 a1 a2 g v3 I → Gd MX10_agrees (am_o 1 0 0 (am_FiI J Q (s_X10_agrees_L265 a1 a2 g v3 I))) 0 0 92 265 [some (.ref 46), none, none, some (.int v3), none] [] I J Q) := by
  intro g
  induction g with
  | zero => exact fun _ _ hp => False.elim hp
  | succ g ih =>
    have ih_265 := ih
    intro v3 I hp
    rw [s_X10_agrees_L265]
    rw [p_X10_agrees_L265] at hp
    refine gd_iload_n (q := 266) rfl rfl rfl ?_
    refine gd_bipush (v := 10) (q := 268) rfl rfl rfl ?_
    refine gx_icmp_ge (q := 271) (r := 294) rfl rfl rfl hp (fun c_268 hp => ?_) (fun c_268 hp => ?_)
    · refine gd_iconst (v := 1) (q := 295) rfl rfl rfl ?_
      exact gd_ireturn rfl rfl rfl (Nat.le_refl 0) (Nat.le_refl 0) rfl
    · refine gd_aload_n (q := 272) rfl rfl rfl ?_
      refine gd_getR (q := 275) (r := 90) rfl rfl rfl (Nat.le_of_ble_eq_true rfl) rfl rfl (gr_46_66 hG) ?_
      refine gd_iload_n (q := 276) rfl rfl rfl ?_
      refine gd_iald (q := 277) rfl rfl (Nat.le_of_ble_eq_true rfl) rfl hp.1 ?_
      replace hp := hp.2
      refine gd_aload_n (q := 278) rfl rfl rfl ?_
      refine gd_getR (q := 281) (r := 91) rfl rfl rfl (Nat.le_of_ble_eq_true rfl) rfl rfl (gr_46_67 hG) ?_
      refine gd_iload_n (q := 282) rfl rfl rfl ?_
      refine gd_iald (q := 283) rfl rfl (Nat.le_of_ble_eq_true rfl) rfl hp.1 ?_
      replace hp := hp.2
      refine gx_icmp_le (q := 286) (r := 288) rfl rfl rfl hp (fun c_283 hp => ?_) (fun c_283 hp => ?_)
      · refine gd_iinc (v := (v3 + 1)) (q := 291) rfl rfl rfl rfl (Nat.le_of_ble_eq_true rfl) rfl ?_
        refine gd_goto (q := 265) rfl rfl ?_
        exact ih_265 _ _ hp
      · refine gd_iconst (v := 0) (q := 287) rfl rfl rfl ?_
        exact gd_ireturn rfl rfl rfl (Nat.le_refl 0) (Nat.le_refl 0) rfl
theorem gl_X10_agrees_265 (a1 : Int32) (a2 : Int32) (f : Nat) (J : am_J) (Q : am_Q) (hG : Gr Q) (g : Nat) : ∀ (v3 : Int32) (I : am_I), p_X10_agrees_L265 a1 a2 g v3 I → Gd MX10_agrees (am_o 1 0 0 (am_FiI J Q (s_X10_agrees_L265 a1 a2 g v3 I))) 0 0 92 265 [some (.ref 46), none, none, some (.int v3), none] [] I J Q := (gl_X10_agrees_L265 a1 a2 f J Q hG g)
set_option maxRecDepth 100000 in
set_option maxHeartbeats 4000000 in
theorem gl_X10_agrees_L137 (a1 : Int32) (a2 : Int32) (f : Nat) (J : am_J) (Q : am_Q) (hG : Gr Q) : ∀ g : Nat, (∀ (v3 : Int32) (v4 : Int32) (I : am_I), p_X10_agrees_L137 a1 a2 f g 0 v3 0 I → Gd MX10_agrees (am_o 1 0 0 (am_FiI J Q (s_X10_agrees_L137 a1 a2 f g 0 v3 0 I))) 0 0 92 137 [some (.ref 46), some (.int a1), some (.int a2), some (.int v3), none] [] I J Q) ∧ (∀ (v3 : Int32) (v4 : Int32) (I : am_I), p_X10_agrees_L137 a1 a2 f g 1 v3 v4 I → Gd MX10_agrees (am_o 1 0 0 (am_FiI J Q (s_X10_agrees_L137 a1 a2 f g 1 v3 v4 I))) 0 0 92 158 [some (.ref 46), some (.int a1), some (.int a2), some (.int v3), some (.int v4)] [] I J Q) := by
  intro g
  induction g with
  | zero => exact ⟨fun _ _ _ hp => False.elim hp, fun _ _ _ hp => False.elim hp⟩
  | succ g ih =>
    have ih_137 := ih.1
    have ih_158 := ih.2
    refine ⟨?_, ?_⟩
    · intro v3 v4 I hp
      rw [s_X10_agrees_L137]
      rw [p_X10_agrees_L137] at hp
      refine gd_iload_n (q := 138) rfl rfl rfl ?_
      refine gd_bipush (v := 12) (q := 140) rfl rfl rfl ?_
      refine gx_icmp_ge (q := 143) (r := 254) rfl rfl rfl hp (fun c_140 hp => ?_) (fun c_140 hp => ?_)
      · refine gd_aload_n (q := 255) rfl rfl rfl ?_
        refine gd_getI (q := 258) rfl rfl rfl (Nat.le_of_ble_eq_true rfl) rfl rfl ?_
        refine gx_if_eq (q := 261) (r := 263) rfl rfl rfl hp (fun c_258 hp => ?_) (fun c_258 hp => ?_)
        · refine gd_iconst (v := 0) (q := 264) rfl rfl rfl ?_
          refine gd_istore_n (q := 265) rfl rfl (Nat.le_of_ble_eq_true rfl) rfl ?_
          refine gd_drop 1 ?_
          refine gd_drop 2 ?_
          exact gl_X10_agrees_265 a1 a2 f J Q hG f 0 _ hp
        · refine gd_iconst (v := 0) (q := 262) rfl rfl rfl ?_
          exact gd_ireturn rfl rfl rfl (Nat.le_refl 0) (Nat.le_refl 0) rfl
      · refine gd_aload_n (q := 144) rfl rfl rfl ?_
        refine gd_getI (q := 147) rfl rfl rfl (Nat.le_of_ble_eq_true rfl) rfl rfl ?_
        refine gx_if_eq (q := 150) (r := 254) rfl rfl rfl hp (fun c_147 hp => ?_) (fun c_147 hp => ?_)
        · refine gd_aload_n (q := 255) rfl rfl rfl ?_
          refine gd_getI (q := 258) rfl rfl rfl (Nat.le_of_ble_eq_true rfl) rfl rfl ?_
          refine gx_if_eq (q := 261) (r := 263) rfl rfl rfl hp (fun c_258 hp => ?_) (fun c_258 hp => ?_)
          · refine gd_iconst (v := 0) (q := 264) rfl rfl rfl ?_
            refine gd_istore_n (q := 265) rfl rfl (Nat.le_of_ble_eq_true rfl) rfl ?_
            refine gd_drop 1 ?_
            refine gd_drop 2 ?_
            exact gl_X10_agrees_265 a1 a2 f J Q hG f 0 _ hp
          · refine gd_iconst (v := 0) (q := 262) rfl rfl rfl ?_
            exact gd_ireturn rfl rfl rfl (Nat.le_refl 0) (Nat.le_refl 0) rfl
        · refine gd_aload_n (q := 151) rfl rfl rfl ?_
          refine gd_iconst (v := 0) (q := 152) rfl rfl rfl ?_
          refine gd_putZ (q := 155) rfl rfl rfl (Nat.le_of_ble_eq_true rfl) rfl rfl rfl (by decide) rfl ?_
          refine gd_iconst (v := 0) (q := 156) rfl rfl rfl ?_
          refine gd_istore (q := 158) rfl rfl (Nat.le_of_ble_eq_true rfl) rfl ?_
          exact ih_158 _ 0 _ hp
    · intro v3 v4 I hp
      rw [s_X10_agrees_L137]
      rw [p_X10_agrees_L137] at hp
      refine gd_iload (q := 160) rfl rfl rfl ?_
      refine gd_iload_n (q := 161) rfl rfl rfl ?_
      refine gx_icmp_ge (q := 164) (r := 248) rfl rfl rfl hp (fun c_161 hp => ?_) (fun c_161 hp => ?_)
      · refine gd_iinc (v := (v3 + 1)) (q := 251) rfl rfl rfl rfl (Nat.le_of_ble_eq_true rfl) rfl ?_
        refine gd_goto (q := 137) rfl rfl ?_
        refine gd_drop 4 ?_
        exact ih_137 _ 0 _ hp
      · refine gd_iload_n (q := 165) rfl rfl rfl ?_
        refine gd_iload (q := 167) rfl rfl rfl ?_
        refine gd_ishr (q := 168) rfl rfl ?_
        refine gd_iconst (v := 1) (q := 169) rfl rfl rfl ?_
        refine gd_iand (q := 170) rfl rfl ?_
        refine gd_iconst (v := 1) (q := 171) rfl rfl rfl ?_
        refine gx_icmp_eq (q := 174) (r := 242) rfl rfl rfl hp (fun c_171 hp => ?_) (fun c_171 hp => ?_)
        · refine gd_iinc (v := (v4 + 1)) (q := 245) rfl rfl rfl rfl (Nat.le_of_ble_eq_true rfl) rfl ?_
          refine gd_goto (q := 158) rfl rfl ?_
          exact ih_158 _ _ _ hp
        · refine gd_aload_n (q := 175) rfl rfl rfl ?_
          refine gd_getR (q := 178) (r := 86) rfl rfl rfl (Nat.le_of_ble_eq_true rfl) rfl rfl (gr_46_62 hG) ?_
          refine gd_iload (q := 180) rfl rfl rfl ?_
          refine gd_iald (q := 181) rfl rfl (Nat.le_of_ble_eq_true rfl) rfl hp.1 ?_
          replace hp := hp.2
          refine gx_if_ne (q := 184) (r := 187) rfl rfl rfl hp (fun c_181 hp => ?_) (fun c_181 hp => ?_)
          · refine gd_goto (q := 242) rfl rfl ?_
            refine gd_iinc (v := (v4 + 1)) (q := 245) rfl rfl rfl rfl (Nat.le_of_ble_eq_true rfl) rfl ?_
            refine gd_goto (q := 158) rfl rfl ?_
            exact ih_158 _ _ _ hp
          · refine gd_aload_n (q := 188) rfl rfl rfl ?_
            refine gd_aload_n (q := 189) rfl rfl rfl ?_
            refine gd_getR (q := 192) (r := 87) rfl rfl rfl (Nat.le_of_ble_eq_true rfl) rfl rfl (gr_46_63 hG) ?_
            refine gd_iload (q := 194) rfl rfl rfl ?_
            refine gd_iald (q := 195) rfl rfl (Nat.le_of_ble_eq_true rfl) rfl hp.1 ?_
            replace hp := hp.2
            refine gd_aload_n (q := 196) rfl rfl rfl ?_
            refine gd_getR (q := 199) (r := 88) rfl rfl rfl (Nat.le_of_ble_eq_true rfl) rfl rfl (gr_46_64 hG) ?_
            refine gd_iload (q := 201) rfl rfl rfl ?_
            refine gd_iald (q := 202) rfl rfl (Nat.le_of_ble_eq_true rfl) rfl hp.1 ?_
            replace hp := hp.2
            refine gd_aload_n (q := 203) rfl rfl rfl ?_
            refine gd_getR (q := 206) (r := 89) rfl rfl rfl (Nat.le_of_ble_eq_true rfl) rfl rfl (gr_46_65 hG) ?_
            refine gd_iload (q := 208) rfl rfl rfl ?_
            refine gd_iald (q := 209) rfl rfl (Nat.le_of_ble_eq_true rfl) rfl hp.1 ?_
            replace hp := hp.2
            refine gd_cVv (q := 212) rfl rfl lk10_354 myX10_pushes vxX10_pushes (ct_X10_pushes f _ _ _ hG _ _ _ hp.1) rfl (Nat.le_of_ble_eq_true rfl) rfl rfl (Nat.le_of_ble_eq_true rfl) rfl (Nat.le_of_ble_eq_true rfl) ⟨(Nat.le_of_ble_eq_true rfl), (Nat.le_of_ble_eq_true rfl)⟩ ?_
            replace hp := hp.2
            refine gd_aload_n (q := 213) rfl rfl rfl ?_
            refine gd_getR (q := 216) (r := 86) rfl rfl rfl (Nat.le_of_ble_eq_true rfl) rfl rfl (gr_46_62 hG) ?_
            refine gd_iload (q := 218) rfl rfl rfl ?_
            refine gd_iald (q := 219) rfl rfl (Nat.le_of_ble_eq_true rfl) rfl hp.1 ?_
            replace hp := hp.2
            refine gd_iconst (v := 2) (q := 220) rfl rfl rfl ?_
            refine gx_icmp_ne (q := 223) (r := 242) rfl rfl rfl hp (fun c_220 hp => ?_) (fun c_220 hp => ?_)
            · refine gd_aload_n (q := 224) rfl rfl rfl ?_
              refine gd_aload_n (q := 225) rfl rfl rfl ?_
              refine gd_getR (q := 228) (r := 88) rfl rfl rfl (Nat.le_of_ble_eq_true rfl) rfl rfl (gr_46_64 hG) ?_
              refine gd_iload (q := 230) rfl rfl rfl ?_
              refine gd_iald (q := 231) rfl rfl (Nat.le_of_ble_eq_true rfl) rfl hp.1 ?_
              replace hp := hp.2
              refine gd_aload_n (q := 232) rfl rfl rfl ?_
              refine gd_getR (q := 235) (r := 87) rfl rfl rfl (Nat.le_of_ble_eq_true rfl) rfl rfl (gr_46_63 hG) ?_
              refine gd_iload (q := 237) rfl rfl rfl ?_
              refine gd_iald (q := 238) rfl rfl (Nat.le_of_ble_eq_true rfl) rfl hp.1 ?_
              replace hp := hp.2
              refine gd_iconst (v := 0) (q := 239) rfl rfl rfl ?_
              refine gd_cVv (q := 242) rfl rfl lk10_354 myX10_pushes vxX10_pushes (ct_X10_pushes f _ _ _ hG _ _ _ hp.1) rfl (Nat.le_of_ble_eq_true rfl) rfl rfl (Nat.le_of_ble_eq_true rfl) rfl (Nat.le_of_ble_eq_true rfl) ⟨(Nat.le_of_ble_eq_true rfl), (Nat.le_of_ble_eq_true rfl)⟩ ?_
              replace hp := hp.2
              refine gd_iinc (v := (v4 + 1)) (q := 245) rfl rfl rfl rfl (Nat.le_of_ble_eq_true rfl) rfl ?_
              refine gd_goto (q := 158) rfl rfl ?_
              exact ih_158 _ _ _ hp
            · refine gd_iinc (v := (v4 + 1)) (q := 245) rfl rfl rfl rfl (Nat.le_of_ble_eq_true rfl) rfl ?_
              refine gd_goto (q := 158) rfl rfl ?_
              exact ih_158 _ _ _ hp
theorem gl_X10_agrees_137 (a1 : Int32) (a2 : Int32) (f : Nat) (J : am_J) (Q : am_Q) (hG : Gr Q) (g : Nat) : ∀ (v3 : Int32) (v4 : Int32) (I : am_I), p_X10_agrees_L137 a1 a2 f g 0 v3 0 I → Gd MX10_agrees (am_o 1 0 0 (am_FiI J Q (s_X10_agrees_L137 a1 a2 f g 0 v3 0 I))) 0 0 92 137 [some (.ref 46), some (.int a1), some (.int a2), some (.int v3), none] [] I J Q := (gl_X10_agrees_L137 a1 a2 f J Q hG g).1
theorem gl_X10_agrees_158 (a1 : Int32) (a2 : Int32) (f : Nat) (J : am_J) (Q : am_Q) (hG : Gr Q) (g : Nat) : ∀ (v3 : Int32) (v4 : Int32) (I : am_I), p_X10_agrees_L137 a1 a2 f g 1 v3 v4 I → Gd MX10_agrees (am_o 1 0 0 (am_FiI J Q (s_X10_agrees_L137 a1 a2 f g 1 v3 v4 I))) 0 0 92 158 [some (.ref 46), some (.int a1), some (.int a2), some (.int v3), some (.int v4)] [] I J Q := (gl_X10_agrees_L137 a1 a2 f J Q hG g).2
set_option maxRecDepth 100000 in
set_option maxHeartbeats 4000000 in
theorem gl_X10_agrees_L32 (a1 : Int32) (a2 : Int32) (f : Nat) (J : am_J) (Q : am_Q) (hG : Gr Q) : ∀ g : Nat, (∀ (v3 : Int32) (I : am_I), p_X10_agrees_L32 a1 a2 f g v3 I → Gd MX10_agrees (am_o 1 0 0 (am_FiI J Q (s_X10_agrees_L32 a1 a2 f g v3 I))) 0 0 92 32 [some (.ref 46), some (.int a1), some (.int a2), some (.int v3), none] [] I J Q) := by
  intro g
  induction g with
  | zero => exact fun _ _ hp => False.elim hp
  | succ g ih =>
    have ih_32 := ih
    intro v3 I hp
    rw [s_X10_agrees_L32]
    rw [p_X10_agrees_L32] at hp
    refine gd_iload_n (q := 33) rfl rfl rfl ?_
    refine gd_iload_n (q := 34) rfl rfl rfl ?_
    refine gx_icmp_ge (q := 37) (r := 130) rfl rfl rfl hp (fun c_34 hp => ?_) (fun c_34 hp => ?_)
    · refine gd_aload_n (q := 131) rfl rfl rfl ?_
      refine gd_iconst (v := 1) (q := 132) rfl rfl rfl ?_
      refine gd_putZ (q := 135) rfl rfl rfl (Nat.le_of_ble_eq_true rfl) rfl rfl rfl (by decide) rfl ?_
      refine gd_iconst (v := 0) (q := 136) rfl rfl rfl ?_
      refine gd_istore_n (q := 137) rfl rfl (Nat.le_of_ble_eq_true rfl) rfl ?_
      exact gl_X10_agrees_137 a1 a2 f J Q hG f 0 0 _ hp
    · refine gd_iload_n (q := 38) rfl rfl rfl ?_
      refine gd_iload_n (q := 39) rfl rfl rfl ?_
      refine gd_ishr (q := 40) rfl rfl ?_
      refine gd_iconst (v := 1) (q := 41) rfl rfl rfl ?_
      refine gd_iand (q := 42) rfl rfl ?_
      refine gd_iconst (v := 1) (q := 43) rfl rfl rfl ?_
      refine gx_icmp_eq (q := 46) (r := 124) rfl rfl rfl hp (fun c_43 hp => ?_) (fun c_43 hp => ?_)
      · refine gd_iinc (v := (v3 + 1)) (q := 127) rfl rfl rfl rfl (Nat.le_of_ble_eq_true rfl) rfl ?_
        refine gd_goto (q := 32) rfl rfl ?_
        exact ih_32 _ _ hp
      · refine gd_aload_n (q := 47) rfl rfl rfl ?_
        refine gd_getR (q := 50) (r := 86) rfl rfl rfl (Nat.le_of_ble_eq_true rfl) rfl rfl (gr_46_62 hG) ?_
        refine gd_iload_n (q := 51) rfl rfl rfl ?_
        refine gd_iald (q := 52) rfl rfl (Nat.le_of_ble_eq_true rfl) rfl hp.1 ?_
        replace hp := hp.2
        refine gx_if_eq (q := 55) (r := 58) rfl rfl rfl hp (fun c_52 hp => ?_) (fun c_52 hp => ?_)
        · refine gd_aload_n (q := 59) rfl rfl rfl ?_
          refine gd_getR (q := 62) (r := 87) rfl rfl rfl (Nat.le_of_ble_eq_true rfl) rfl rfl (gr_46_63 hG) ?_
          refine gd_iload_n (q := 63) rfl rfl rfl ?_
          refine gd_iald (q := 64) rfl rfl (Nat.le_of_ble_eq_true rfl) rfl hp.1 ?_
          replace hp := hp.2
          refine gd_istore (q := 66) rfl rfl (Nat.le_of_ble_eq_true rfl) rfl ?_
          refine gd_aload_n (q := 67) rfl rfl rfl ?_
          refine gd_getR (q := 70) (r := 88) rfl rfl rfl (Nat.le_of_ble_eq_true rfl) rfl rfl (gr_46_64 hG) ?_
          refine gd_iload_n (q := 71) rfl rfl rfl ?_
          refine gd_iald (q := 72) rfl rfl (Nat.le_of_ble_eq_true rfl) rfl hp.1 ?_
          replace hp := hp.2
          refine gd_aload_n (q := 73) rfl rfl rfl ?_
          refine gd_getR (q := 76) (r := 90) rfl rfl rfl (Nat.le_of_ble_eq_true rfl) rfl rfl (gr_46_66 hG) ?_
          refine gd_iload (q := 78) rfl rfl rfl ?_
          refine gd_iald (q := 79) rfl rfl (Nat.le_of_ble_eq_true rfl) rfl hp.1 ?_
          replace hp := hp.2
          refine gx_icmp_le (q := 82) (r := 95) rfl rfl rfl hp (fun c_79 hp => ?_) (fun c_79 hp => ?_)
          · refine gd_aload_n (q := 96) rfl rfl rfl ?_
            refine gd_getR (q := 99) (r := 89) rfl rfl rfl (Nat.le_of_ble_eq_true rfl) rfl rfl (gr_46_65 hG) ?_
            refine gd_iload_n (q := 100) rfl rfl rfl ?_
            refine gd_iald (q := 101) rfl rfl (Nat.le_of_ble_eq_true rfl) rfl hp.1 ?_
            replace hp := hp.2
            refine gd_aload_n (q := 102) rfl rfl rfl ?_
            refine gd_getR (q := 105) (r := 91) rfl rfl rfl (Nat.le_of_ble_eq_true rfl) rfl rfl (gr_46_67 hG) ?_
            refine gd_iload (q := 107) rfl rfl rfl ?_
            refine gd_iald (q := 108) rfl rfl (Nat.le_of_ble_eq_true rfl) rfl hp.1 ?_
            replace hp := hp.2
            refine gx_icmp_ge (q := 111) (r := 124) rfl rfl rfl hp (fun c_108 hp => ?_) (fun c_108 hp => ?_)
            · refine gd_iinc (v := (v3 + 1)) (q := 127) rfl rfl rfl rfl (Nat.le_of_ble_eq_true rfl) rfl ?_
              refine gd_goto (q := 32) rfl rfl ?_
              refine gd_drop 4 ?_
              exact ih_32 _ _ hp
            · refine gd_aload_n (q := 112) rfl rfl rfl ?_
              refine gd_getR (q := 115) (r := 91) rfl rfl rfl (Nat.le_of_ble_eq_true rfl) rfl rfl (gr_46_67 hG) ?_
              refine gd_iload (q := 117) rfl rfl rfl ?_
              refine gd_aload_n (q := 118) rfl rfl rfl ?_
              refine gd_getR (q := 121) (r := 89) rfl rfl rfl (Nat.le_of_ble_eq_true rfl) rfl rfl (gr_46_65 hG) ?_
              refine gd_iload_n (q := 122) rfl rfl rfl ?_
              refine gd_iald (q := 123) rfl rfl (Nat.le_of_ble_eq_true rfl) rfl hp.1 ?_
              replace hp := hp.2
              refine gd_iast (q := 124) rfl rfl (Nat.le_of_ble_eq_true rfl) rfl hp.1 ?_
              replace hp := hp.2
              refine gd_iinc (v := (v3 + 1)) (q := 127) rfl rfl rfl rfl (Nat.le_of_ble_eq_true rfl) rfl ?_
              refine gd_goto (q := 32) rfl rfl ?_
              refine gd_drop 4 ?_
              exact ih_32 _ _ hp
          · refine gd_aload_n (q := 83) rfl rfl rfl ?_
            refine gd_getR (q := 86) (r := 90) rfl rfl rfl (Nat.le_of_ble_eq_true rfl) rfl rfl (gr_46_66 hG) ?_
            refine gd_iload (q := 88) rfl rfl rfl ?_
            refine gd_aload_n (q := 89) rfl rfl rfl ?_
            refine gd_getR (q := 92) (r := 88) rfl rfl rfl (Nat.le_of_ble_eq_true rfl) rfl rfl (gr_46_64 hG) ?_
            refine gd_iload_n (q := 93) rfl rfl rfl ?_
            refine gd_iald (q := 94) rfl rfl (Nat.le_of_ble_eq_true rfl) rfl hp.1 ?_
            replace hp := hp.2
            refine gd_iast (q := 95) rfl rfl (Nat.le_of_ble_eq_true rfl) rfl hp.1 ?_
            replace hp := hp.2
            refine gd_aload_n (q := 96) rfl rfl rfl ?_
            refine gd_getR (q := 99) (r := 89) rfl rfl rfl (Nat.le_of_ble_eq_true rfl) rfl rfl (gr_46_65 hG) ?_
            refine gd_iload_n (q := 100) rfl rfl rfl ?_
            refine gd_iald (q := 101) rfl rfl (Nat.le_of_ble_eq_true rfl) rfl hp.1 ?_
            replace hp := hp.2
            refine gd_aload_n (q := 102) rfl rfl rfl ?_
            refine gd_getR (q := 105) (r := 91) rfl rfl rfl (Nat.le_of_ble_eq_true rfl) rfl rfl (gr_46_67 hG) ?_
            refine gd_iload (q := 107) rfl rfl rfl ?_
            refine gd_iald (q := 108) rfl rfl (Nat.le_of_ble_eq_true rfl) rfl hp.1 ?_
            replace hp := hp.2
            refine gx_icmp_ge (q := 111) (r := 124) rfl rfl rfl hp (fun c_108 hp => ?_) (fun c_108 hp => ?_)
            · refine gd_iinc (v := (v3 + 1)) (q := 127) rfl rfl rfl rfl (Nat.le_of_ble_eq_true rfl) rfl ?_
              refine gd_goto (q := 32) rfl rfl ?_
              refine gd_drop 4 ?_
              exact ih_32 _ _ hp
            · refine gd_aload_n (q := 112) rfl rfl rfl ?_
              refine gd_getR (q := 115) (r := 91) rfl rfl rfl (Nat.le_of_ble_eq_true rfl) rfl rfl (gr_46_67 hG) ?_
              refine gd_iload (q := 117) rfl rfl rfl ?_
              refine gd_aload_n (q := 118) rfl rfl rfl ?_
              refine gd_getR (q := 121) (r := 89) rfl rfl rfl (Nat.le_of_ble_eq_true rfl) rfl rfl (gr_46_65 hG) ?_
              refine gd_iload_n (q := 122) rfl rfl rfl ?_
              refine gd_iald (q := 123) rfl rfl (Nat.le_of_ble_eq_true rfl) rfl hp.1 ?_
              replace hp := hp.2
              refine gd_iast (q := 124) rfl rfl (Nat.le_of_ble_eq_true rfl) rfl hp.1 ?_
              replace hp := hp.2
              refine gd_iinc (v := (v3 + 1)) (q := 127) rfl rfl rfl rfl (Nat.le_of_ble_eq_true rfl) rfl ?_
              refine gd_goto (q := 32) rfl rfl ?_
              refine gd_drop 4 ?_
              exact ih_32 _ _ hp
        · refine gd_goto (q := 124) rfl rfl ?_
          refine gd_iinc (v := (v3 + 1)) (q := 127) rfl rfl rfl rfl (Nat.le_of_ble_eq_true rfl) rfl ?_
          refine gd_goto (q := 32) rfl rfl ?_
          exact ih_32 _ _ hp
theorem gl_X10_agrees_32 (a1 : Int32) (a2 : Int32) (f : Nat) (J : am_J) (Q : am_Q) (hG : Gr Q) (g : Nat) : ∀ (v3 : Int32) (I : am_I), p_X10_agrees_L32 a1 a2 f g v3 I → Gd MX10_agrees (am_o 1 0 0 (am_FiI J Q (s_X10_agrees_L32 a1 a2 f g v3 I))) 0 0 92 32 [some (.ref 46), some (.int a1), some (.int a2), some (.int v3), none] [] I J Q := (gl_X10_agrees_L32 a1 a2 f J Q hG g)
set_option maxRecDepth 100000 in
set_option maxHeartbeats 4000000 in
theorem gl_X10_agrees_L2 (a1 : Int32) (a2 : Int32) (f : Nat) (J : am_J) (Q : am_Q) (hG : Gr Q) : ∀ g : Nat, (∀ (v3 : Int32) (I : am_I), p_X10_agrees_L2 a1 a2 f g v3 I → Gd MX10_agrees (am_o 1 0 0 (am_FiI J Q (s_X10_agrees_L2 a1 a2 f g v3 I))) 0 0 92 2 [some (.ref 46), some (.int a1), some (.int a2), some (.int v3), none] [] I J Q) := by
  intro g
  induction g with
  | zero => exact fun _ _ hp => False.elim hp
  | succ g ih =>
    have ih_2 := ih
    intro v3 I hp
    rw [s_X10_agrees_L2]
    rw [p_X10_agrees_L2] at hp
    refine gd_iload_n (q := 3) rfl rfl rfl ?_
    refine gd_bipush (v := 10) (q := 5) rfl rfl rfl ?_
    refine gx_icmp_ge (q := 8) (r := 30) rfl rfl rfl hp (fun c_5 hp => ?_) (fun c_5 hp => ?_)
    · refine gd_iconst (v := 0) (q := 31) rfl rfl rfl ?_
      refine gd_istore_n (q := 32) rfl rfl (Nat.le_of_ble_eq_true rfl) rfl ?_
      exact gl_X10_agrees_32 a1 a2 f J Q hG f 0 _ hp
    · refine gd_aload_n (q := 9) rfl rfl rfl ?_
      refine gd_getR (q := 12) (r := 90) rfl rfl rfl (Nat.le_of_ble_eq_true rfl) rfl rfl (gr_46_66 hG) ?_
      refine gd_iload_n (q := 13) rfl rfl rfl ?_
      refine gd_iconst (v := 0) (q := 14) rfl rfl rfl ?_
      refine gd_iast (q := 15) rfl rfl (Nat.le_of_ble_eq_true rfl) rfl hp.1 ?_
      replace hp := hp.2
      refine gd_aload_n (q := 16) rfl rfl rfl ?_
      refine gd_getR (q := 19) (r := 91) rfl rfl rfl (Nat.le_of_ble_eq_true rfl) rfl rfl (gr_46_67 hG) ?_
      refine gd_iload_n (q := 20) rfl rfl rfl ?_
      refine gd_sipush (v := 9999) (q := 23) rfl rfl rfl ?_
      refine gd_iast (q := 24) rfl rfl (Nat.le_of_ble_eq_true rfl) rfl hp.1 ?_
      replace hp := hp.2
      refine gd_iinc (v := (v3 + 1)) (q := 27) rfl rfl rfl rfl (Nat.le_of_ble_eq_true rfl) rfl ?_
      refine gd_goto (q := 2) rfl rfl ?_
      exact ih_2 _ _ hp
theorem gl_X10_agrees_2 (a1 : Int32) (a2 : Int32) (f : Nat) (J : am_J) (Q : am_Q) (hG : Gr Q) (g : Nat) : ∀ (v3 : Int32) (I : am_I), p_X10_agrees_L2 a1 a2 f g v3 I → Gd MX10_agrees (am_o 1 0 0 (am_FiI J Q (s_X10_agrees_L2 a1 a2 f g v3 I))) 0 0 92 2 [some (.ref 46), some (.int a1), some (.int a2), some (.int v3), none] [] I J Q := (gl_X10_agrees_L2 a1 a2 f J Q hG g)
set_option maxRecDepth 100000 in
set_option maxHeartbeats 4000000 in
theorem gt_X10_agrees (f : Nat) (I : am_I) (J : am_J) (Q : am_Q) (hG : Gr Q) (a1 : Int32) (a2 : Int32) (hp : p_X10_agrees f I a1 a2) : Gd MX10_agrees (am_o 1 0 0 (am_FiI J Q (s_X10_agrees f I a1 a2))) 0 0 92 0 [some (.ref 46), some (.int a1), some (.int a2), none, none] [] I J Q := by
  unfold s_X10_agrees
  unfold p_X10_agrees at hp
  refine gd_iconst (v := 0) (q := 1) rfl rfl rfl ?_
  refine gd_istore_n (q := 2) rfl rfl (Nat.le_of_ble_eq_true rfl) rfl ?_
  exact gl_X10_agrees_2 a1 a2 f J Q hG f 0 _ hp
theorem ct_X10_agrees (f : Nat) (I : am_I) (J : am_J) (Q : am_Q) (hG : Gr Q) (a1 : Int32) (a2 : Int32) (hp : p_X10_agrees f I a1 a2) : Cm MX10_agrees 1 0 0 92 [.ref 46, .int a1, .int a2] I J Q (am_FiI J Q (s_X10_agrees f I a1 a2)) := cm_of (by decide) rfl IX10_agrees_ok (Nat.le_of_ble_eq_true rfl) (gt_X10_agrees f I J Q hG a1 a2 hp)
def s_X10_bits_L4 (a0 : Int32)  : Nat → Int32 → Int32 → Int32
  | 0, _, _ => 0
  | g + 1, v1, v2 => (if 12 ≤ v2 then v1 else (s_X10_bits_L4 a0 g (v1 + ((a0 >>> (v2 &&& 31)) &&& 1)) (v2 + 1)))
def p_X10_bits_L4 (a0 : Int32)  : Nat → Int32 → Int32 → Prop
  | 0, _, _ => False
  | g + 1, v1, v2 => (if 12 ≤ v2 then True else (p_X10_bits_L4 a0 g (v1 + ((a0 >>> (v2 &&& 31)) &&& 1)) (v2 + 1)))
def s_X10_bits (f : Nat) (a0 : Int32) : Int32 := (s_X10_bits_L4 a0 f 0 0)
def p_X10_bits (f : Nat) (a0 : Int32) : Prop := (p_X10_bits_L4 a0 f 0 0)
set_option maxRecDepth 100000 in
set_option maxHeartbeats 4000000 in
theorem gl_X10_bits_L4 (a0 : Int32) (f : Nat) (I : am_I) (J : am_J) (Q : am_Q) (hG : Gr Q) : ∀ g : Nat, (∀ (v1 : Int32) (v2 : Int32), p_X10_bits_L4 a0 g v1 v2 → Gd MX10_bits (am_o 0 0 0 (am_Fi I J Q (s_X10_bits_L4 a0 g v1 v2))) 0 0 92 4 [some (.int a0), some (.int v1), some (.int v2)] [] I J Q) := by
  intro g
  induction g with
  | zero => exact fun _ _ hp => False.elim hp
  | succ g ih =>
    have ih_4 := ih
    intro v1 v2 hp
    rw [s_X10_bits_L4]
    rw [p_X10_bits_L4] at hp
    refine gd_iload_n (q := 5) rfl rfl rfl ?_
    refine gd_bipush (v := 12) (q := 7) rfl rfl rfl ?_
    refine gx_icmp_ge (q := 10) (r := 24) rfl rfl rfl hp (fun c_7 hp => ?_) (fun c_7 hp => ?_)
    · refine gd_iload_n (q := 25) rfl rfl rfl ?_
      exact gd_ireturn rfl rfl rfl (Nat.le_refl 0) (Nat.le_refl 0) rfl
    · refine gd_iload_n (q := 11) rfl rfl rfl ?_
      refine gd_iload_n (q := 12) rfl rfl rfl ?_
      refine gd_iload_n (q := 13) rfl rfl rfl ?_
      refine gd_ishr (q := 14) rfl rfl ?_
      refine gd_iconst (v := 1) (q := 15) rfl rfl rfl ?_
      refine gd_iand (q := 16) rfl rfl ?_
      refine gd_iadd (q := 17) rfl rfl ?_
      refine gd_istore_n (q := 18) rfl rfl (Nat.le_of_ble_eq_true rfl) rfl ?_
      refine gd_iinc (v := (v2 + 1)) (q := 21) rfl rfl rfl rfl (Nat.le_of_ble_eq_true rfl) rfl ?_
      refine gd_goto (q := 4) rfl rfl ?_
      exact ih_4 _ _ hp
theorem gl_X10_bits_4 (a0 : Int32) (f : Nat) (I : am_I) (J : am_J) (Q : am_Q) (hG : Gr Q) (g : Nat) : ∀ (v1 : Int32) (v2 : Int32), p_X10_bits_L4 a0 g v1 v2 → Gd MX10_bits (am_o 0 0 0 (am_Fi I J Q (s_X10_bits_L4 a0 g v1 v2))) 0 0 92 4 [some (.int a0), some (.int v1), some (.int v2)] [] I J Q := (gl_X10_bits_L4 a0 f I J Q hG g)
set_option maxRecDepth 100000 in
set_option maxHeartbeats 4000000 in
theorem gt_X10_bits (f : Nat) (I : am_I) (J : am_J) (Q : am_Q) (hG : Gr Q) (a0 : Int32) (hp : p_X10_bits f a0) : Gd MX10_bits (am_o 0 0 0 (am_Fi I J Q (s_X10_bits f a0))) 0 0 92 0 [some (.int a0), none, none] [] I J Q := by
  unfold s_X10_bits
  unfold p_X10_bits at hp
  refine gd_iconst (v := 0) (q := 1) rfl rfl rfl ?_
  refine gd_istore_n (q := 2) rfl rfl (Nat.le_of_ble_eq_true rfl) rfl ?_
  refine gd_iconst (v := 0) (q := 3) rfl rfl rfl ?_
  refine gd_istore_n (q := 4) rfl rfl (Nat.le_of_ble_eq_true rfl) rfl ?_
  exact gl_X10_bits_4 a0 f I J Q hG f 0 0 hp
theorem ct_X10_bits (f : Nat) (I : am_I) (J : am_J) (Q : am_Q) (hG : Gr Q) (a0 : Int32) (hp : p_X10_bits f a0) : Cm MX10_bits 0 0 0 92 [.int a0] I J Q (am_Fi I J Q (s_X10_bits f a0)) := cm_of (by decide) rfl IX10_bits_ok (Nat.le_of_ble_eq_true rfl) (gt_X10_bits f I J Q hG a0 hp)
def s_X10_leftOf_L8 (a1 : Int32) (f : Nat) : Nat → Int32 → Int32 → am_I → Int32 × am_I
  | 0, _, _, I => (0, I)
  | g + 1, v2, v3, I => (if v3 < 0 then (v2, I) else (if v2 = (-1) then (if ((s_X10_agrees f I a1 v3).1) = 0 then (s_X10_leftOf_L8 a1 f g v2 (v3 + (-1)) ((s_X10_agrees f I a1 v3).2)) else (s_X10_leftOf_L8 a1 f g v3 (v3 + (-1)) ((s_X10_agrees f I a1 v3).2))) else (if (s_X10_bits f v2) ≤ (s_X10_bits f v3) then (s_X10_leftOf_L8 a1 f g v2 (v3 + (-1)) I) else (if ((s_X10_agrees f I a1 v3).1) = 0 then (s_X10_leftOf_L8 a1 f g v2 (v3 + (-1)) ((s_X10_agrees f I a1 v3).2)) else (s_X10_leftOf_L8 a1 f g v3 (v3 + (-1)) ((s_X10_agrees f I a1 v3).2))))))
def p_X10_leftOf_L8 (a1 : Int32) (f : Nat) : Nat → Int32 → Int32 → am_I → Prop
  | 0, _, _, _ => False
  | g + 1, v2, v3, I => (if v3 < 0 then True else (if v2 = (-1) then ((p_X10_agrees f I a1 v3) ∧ (if ((s_X10_agrees f I a1 v3).1) = 0 then (p_X10_leftOf_L8 a1 f g v2 (v3 + (-1)) ((s_X10_agrees f I a1 v3).2)) else (p_X10_leftOf_L8 a1 f g v3 (v3 + (-1)) ((s_X10_agrees f I a1 v3).2)))) else ((p_X10_bits f v3) ∧ ((p_X10_bits f v2) ∧ (if (s_X10_bits f v2) ≤ (s_X10_bits f v3) then (p_X10_leftOf_L8 a1 f g v2 (v3 + (-1)) I) else ((p_X10_agrees f I a1 v3) ∧ (if ((s_X10_agrees f I a1 v3).1) = 0 then (p_X10_leftOf_L8 a1 f g v2 (v3 + (-1)) ((s_X10_agrees f I a1 v3).2)) else (p_X10_leftOf_L8 a1 f g v3 (v3 + (-1)) ((s_X10_agrees f I a1 v3).2)))))))))
def s_X10_leftOf (f : Nat) (I : am_I) (a1 : Int32) : Int32 × am_I := (s_X10_leftOf_L8 a1 f f (-1) ((1 <<< (a1 &&& 31)) - 1) I)
def p_X10_leftOf (f : Nat) (I : am_I) (a1 : Int32) : Prop := (p_X10_leftOf_L8 a1 f f (-1) ((1 <<< (a1 &&& 31)) - 1) I)
set_option maxRecDepth 100000 in
set_option maxHeartbeats 4000000 in
theorem gl_X10_leftOf_L8 (a1 : Int32) (f : Nat) (J : am_J) (Q : am_Q) (hG : Gr Q) : ∀ g : Nat, (∀ (v2 : Int32) (v3 : Int32) (I : am_I), p_X10_leftOf_L8 a1 f g v2 v3 I → Gd MX10_leftOf (am_o 2 0 0 (am_FiI J Q (s_X10_leftOf_L8 a1 f g v2 v3 I))) 0 0 92 8 [some (.ref 46), some (.int a1), some (.int v2), some (.int v3)] [] I J Q) := by
  intro g
  induction g with
  | zero => exact fun _ _ _ hp => False.elim hp
  | succ g ih =>
    have ih_8 := ih
    intro v2 v3 I hp
    rw [s_X10_leftOf_L8]
    rw [p_X10_leftOf_L8] at hp
    refine gd_iload_n (q := 9) rfl rfl rfl ?_
    refine gx_if_lt (q := 12) (r := 45) rfl rfl rfl hp (fun c_9 hp => ?_) (fun c_9 hp => ?_)
    · refine gd_iload_n (q := 46) rfl rfl rfl ?_
      exact gd_ireturn rfl rfl rfl (Nat.le_refl 0) (Nat.le_refl 0) rfl
    · refine gd_iload_n (q := 13) rfl rfl rfl ?_
      refine gd_iconst (v := (-1)) (q := 14) rfl rfl rfl ?_
      refine gx_icmp_eq (q := 17) (r := 28) rfl rfl rfl hp (fun c_14 hp => ?_) (fun c_14 hp => ?_)
      · refine gd_aload_n (q := 29) rfl rfl rfl ?_
        refine gd_iload_n (q := 30) rfl rfl rfl ?_
        refine gd_iload_n (q := 31) rfl rfl rfl ?_
        refine gd_cVi (q := 34) rfl rfl lk10_361 myX10_agrees vxX10_agrees (ct_X10_agrees f _ _ _ hG _ _ hp.1) rfl (Nat.le_of_ble_eq_true rfl) rfl rfl (Nat.le_of_ble_eq_true rfl) rfl (Nat.le_of_ble_eq_true rfl) ⟨(Nat.le_of_ble_eq_true rfl), (Nat.le_of_ble_eq_true rfl)⟩ ?_
        replace hp := hp.2
        refine gx_if_eq (q := 37) (r := 39) rfl rfl rfl hp (fun c_34 hp => ?_) (fun c_34 hp => ?_)
        · refine gd_iinc (v := (v3 + (-1))) (q := 42) rfl rfl rfl rfl (Nat.le_of_ble_eq_true rfl) rfl ?_
          refine gd_goto (q := 8) rfl rfl ?_
          exact ih_8 _ _ _ hp
        · refine gd_iload_n (q := 38) rfl rfl rfl ?_
          refine gd_istore_n (q := 39) rfl rfl (Nat.le_of_ble_eq_true rfl) rfl ?_
          refine gd_iinc (v := (v3 + (-1))) (q := 42) rfl rfl rfl rfl (Nat.le_of_ble_eq_true rfl) rfl ?_
          refine gd_goto (q := 8) rfl rfl ?_
          exact ih_8 _ _ _ hp
      · refine gd_iload_n (q := 18) rfl rfl rfl ?_
        refine gd_cSi (q := 21) rfl rfl lk10_358 myX10_bits sxX10_bits (ct_X10_bits f _ _ _ hG _ hp.1) rfl rfl (Nat.le_of_ble_eq_true rfl) ⟨(Nat.le_of_ble_eq_true rfl), (Nat.le_of_ble_eq_true rfl)⟩ ?_
        replace hp := hp.2
        refine gd_iload_n (q := 22) rfl rfl rfl ?_
        refine gd_cSi (q := 25) rfl rfl lk10_358 myX10_bits sxX10_bits (ct_X10_bits f _ _ _ hG _ hp.1) rfl rfl (Nat.le_of_ble_eq_true rfl) ⟨(Nat.le_of_ble_eq_true rfl), (Nat.le_of_ble_eq_true rfl)⟩ ?_
        replace hp := hp.2
        refine gx_icmp_ge (q := 28) (r := 39) rfl rfl rfl hp (fun c_25 hp => ?_) (fun c_25 hp => ?_)
        · refine gd_iinc (v := (v3 + (-1))) (q := 42) rfl rfl rfl rfl (Nat.le_of_ble_eq_true rfl) rfl ?_
          refine gd_goto (q := 8) rfl rfl ?_
          exact ih_8 _ _ _ hp
        · refine gd_aload_n (q := 29) rfl rfl rfl ?_
          refine gd_iload_n (q := 30) rfl rfl rfl ?_
          refine gd_iload_n (q := 31) rfl rfl rfl ?_
          refine gd_cVi (q := 34) rfl rfl lk10_361 myX10_agrees vxX10_agrees (ct_X10_agrees f _ _ _ hG _ _ hp.1) rfl (Nat.le_of_ble_eq_true rfl) rfl rfl (Nat.le_of_ble_eq_true rfl) rfl (Nat.le_of_ble_eq_true rfl) ⟨(Nat.le_of_ble_eq_true rfl), (Nat.le_of_ble_eq_true rfl)⟩ ?_
          replace hp := hp.2
          refine gx_if_eq (q := 37) (r := 39) rfl rfl rfl hp (fun c_34 hp => ?_) (fun c_34 hp => ?_)
          · refine gd_iinc (v := (v3 + (-1))) (q := 42) rfl rfl rfl rfl (Nat.le_of_ble_eq_true rfl) rfl ?_
            refine gd_goto (q := 8) rfl rfl ?_
            exact ih_8 _ _ _ hp
          · refine gd_iload_n (q := 38) rfl rfl rfl ?_
            refine gd_istore_n (q := 39) rfl rfl (Nat.le_of_ble_eq_true rfl) rfl ?_
            refine gd_iinc (v := (v3 + (-1))) (q := 42) rfl rfl rfl rfl (Nat.le_of_ble_eq_true rfl) rfl ?_
            refine gd_goto (q := 8) rfl rfl ?_
            exact ih_8 _ _ _ hp
theorem gl_X10_leftOf_8 (a1 : Int32) (f : Nat) (J : am_J) (Q : am_Q) (hG : Gr Q) (g : Nat) : ∀ (v2 : Int32) (v3 : Int32) (I : am_I), p_X10_leftOf_L8 a1 f g v2 v3 I → Gd MX10_leftOf (am_o 2 0 0 (am_FiI J Q (s_X10_leftOf_L8 a1 f g v2 v3 I))) 0 0 92 8 [some (.ref 46), some (.int a1), some (.int v2), some (.int v3)] [] I J Q := (gl_X10_leftOf_L8 a1 f J Q hG g)
set_option maxRecDepth 100000 in
set_option maxHeartbeats 4000000 in
theorem gt_X10_leftOf (f : Nat) (I : am_I) (J : am_J) (Q : am_Q) (hG : Gr Q) (a1 : Int32) (hp : p_X10_leftOf f I a1) : Gd MX10_leftOf (am_o 2 0 0 (am_FiI J Q (s_X10_leftOf f I a1))) 0 0 92 0 [some (.ref 46), some (.int a1), none, none] [] I J Q := by
  unfold s_X10_leftOf
  unfold p_X10_leftOf at hp
  refine gd_iconst (v := (-1)) (q := 1) rfl rfl rfl ?_
  refine gd_istore_n (q := 2) rfl rfl (Nat.le_of_ble_eq_true rfl) rfl ?_
  refine gd_iconst (v := 1) (q := 3) rfl rfl rfl ?_
  refine gd_iload_n (q := 4) rfl rfl rfl ?_
  refine gd_ishl (q := 5) rfl rfl ?_
  refine gd_iconst (v := 1) (q := 6) rfl rfl rfl ?_
  refine gd_isub (q := 7) rfl rfl ?_
  refine gd_istore_n (q := 8) rfl rfl (Nat.le_of_ble_eq_true rfl) rfl ?_
  exact gl_X10_leftOf_8 a1 f J Q hG f _ _ _ hp
theorem ct_X10_leftOf (f : Nat) (I : am_I) (J : am_J) (Q : am_Q) (hG : Gr Q) (a1 : Int32) (hp : p_X10_leftOf f I a1) : Cm MX10_leftOf 2 0 0 92 [.ref 46, .int a1] I J Q (am_FiI J Q (s_X10_leftOf f I a1)) := cm_of (by decide) rfl IX10_leftOf_ok (Nat.le_of_ble_eq_true rfl) (gt_X10_leftOf f I J Q hG a1 hp)
def s_X10_left (f : Nat) (I : am_I) (a1 : Int32) : Int32 × am_I := (if a1 < 0 then ((-1), I) else (if (I 46 61) < a1 then ((-1), I) else (((s_X10_leftOf f I a1).1), ((s_X10_leftOf f I a1).2))))
def p_X10_left (f : Nat) (I : am_I) (a1 : Int32) : Prop := (if a1 < 0 then True else (if (I 46 61) < a1 then True else (p_X10_leftOf f I a1)))
set_option maxRecDepth 100000 in
set_option maxHeartbeats 4000000 in
theorem gt_X10_left (f : Nat) (I : am_I) (J : am_J) (Q : am_Q) (hG : Gr Q) (a1 : Int32) (hp : p_X10_left f I a1) : Gd MX10_left (am_o 3 0 0 (am_FiI J Q (s_X10_left f I a1))) 0 0 92 0 [some (.ref 46), some (.int a1)] [] I J Q := by
  unfold s_X10_left
  unfold p_X10_left at hp
  refine gd_iload_n (q := 1) rfl rfl rfl ?_
  refine gx_if_lt (q := 4) (r := 20) rfl rfl rfl hp (fun c_1 hp => ?_) (fun c_1 hp => ?_)
  · refine gd_iconst (v := (-1)) (q := 21) rfl rfl rfl ?_
    exact gd_ireturn rfl rfl rfl (Nat.le_refl 0) (Nat.le_refl 0) rfl
  · refine gd_iload_n (q := 5) rfl rfl rfl ?_
    refine gd_aload_n (q := 6) rfl rfl rfl ?_
    refine gd_getI (q := 9) rfl rfl rfl (Nat.le_of_ble_eq_true rfl) rfl rfl ?_
    refine gx_icmp_gt (q := 12) (r := 20) rfl rfl rfl hp (fun c_9 hp => ?_) (fun c_9 hp => ?_)
    · refine gd_iconst (v := (-1)) (q := 21) rfl rfl rfl ?_
      exact gd_ireturn rfl rfl rfl (Nat.le_refl 0) (Nat.le_refl 0) rfl
    · refine gd_aload_n (q := 13) rfl rfl rfl ?_
      refine gd_iload_n (q := 14) rfl rfl rfl ?_
      refine gd_cVi (q := 17) rfl rfl lk10_364 myX10_leftOf vxX10_leftOf (ct_X10_leftOf f _ _ _ hG _ hp) rfl (Nat.le_of_ble_eq_true rfl) rfl rfl (Nat.le_of_ble_eq_true rfl) rfl (Nat.le_of_ble_eq_true rfl) ⟨(Nat.le_of_ble_eq_true rfl), (Nat.le_of_ble_eq_true rfl)⟩ ?_
      refine gd_goto (q := 21) rfl rfl ?_
      exact gd_ireturn rfl rfl rfl (Nat.le_refl 0) (Nat.le_refl 0) rfl
theorem ct_X10_left (f : Nat) (I : am_I) (J : am_J) (Q : am_Q) (hG : Gr Q) (a1 : Int32) (hp : p_X10_left f I a1) : Cm MX10_left 3 0 0 92 [.ref 46, .int a1] I J Q (am_FiI J Q (s_X10_left f I a1)) := cm_of (by decide) rfl IX10_left_ok (Nat.le_of_ble_eq_true rfl) (gt_X10_left f I J Q hG a1 hp)
def s_X10_when (f : Nat) (I : am_I) (a1 : Int32) (a2 : Int32) (a3 : Int32) : Int32 × am_I := (if (s_X10_isEvent a1) = 0 then ((-1), I) else (if a2 < 0 then ((-1), I) else (if (I 46 61) < a2 then ((-1), I) else (if a3 < 0 then ((-1), I) else (if a3 ≤ 1 then (if ((s_X10_agrees f ((s_X10_leftOf f I a2).2) a2 ((s_X10_leftOf f I a2).1)).1) = 0 then ((-1), ((s_X10_agrees f ((s_X10_leftOf f I a2).2) a2 ((s_X10_leftOf f I a2).1)).2)) else (if a3 = 0 then ((((s_X10_agrees f ((s_X10_leftOf f I a2).2) a2 ((s_X10_leftOf f I a2).1)).2) 90 a1.toNatClampNeg), ((s_X10_agrees f ((s_X10_leftOf f I a2).2) a2 ((s_X10_leftOf f I a2).1)).2)) else ((((s_X10_agrees f ((s_X10_leftOf f I a2).2) a2 ((s_X10_leftOf f I a2).1)).2) 91 a1.toNatClampNeg), ((s_X10_agrees f ((s_X10_leftOf f I a2).2) a2 ((s_X10_leftOf f I a2).1)).2)))) else ((-1), I))))))
def p_X10_when (f : Nat) (I : am_I) (a1 : Int32) (a2 : Int32) (a3 : Int32) : Prop := (if (s_X10_isEvent a1) = 0 then True else (if a2 < 0 then True else (if (I 46 61) < a2 then True else (if a3 < 0 then True else (if a3 ≤ 1 then ((p_X10_leftOf f I a2) ∧ ((p_X10_agrees f ((s_X10_leftOf f I a2).2) a2 ((s_X10_leftOf f I a2).1)) ∧ (if ((s_X10_agrees f ((s_X10_leftOf f I a2).2) a2 ((s_X10_leftOf f I a2).1)).1) = 0 then True else (if a3 = 0 then vp_in a1 10 else vp_in a1 10)))) else True)))))
set_option maxRecDepth 100000 in
set_option maxHeartbeats 4000000 in
theorem gt_X10_when (f : Nat) (I : am_I) (J : am_J) (Q : am_Q) (hG : Gr Q) (a1 : Int32) (a2 : Int32) (a3 : Int32) (hp : p_X10_when f I a1 a2 a3) : Gd MX10_when (am_o 3 0 0 (am_FiI J Q (s_X10_when f I a1 a2 a3))) 0 0 92 0 [some (.ref 46), some (.int a1), some (.int a2), some (.int a3), none] [] I J Q := by
  unfold s_X10_when
  unfold p_X10_when at hp
  refine gd_iload_n (q := 1) rfl rfl rfl ?_
  refine gd_cSi (q := 4) rfl rfl lk10_344 myX10_isEvent sxX10_isEvent (ct_X10_isEvent f _ _ _ hG _) rfl rfl (Nat.le_of_ble_eq_true rfl) ⟨(Nat.le_of_ble_eq_true rfl), (Nat.le_of_ble_eq_true rfl)⟩ ?_
  refine gx_if_eq (q := 7) (r := 28) rfl rfl rfl hp (fun c_4 hp => ?_) (fun c_4 hp => ?_)
  · refine gd_iconst (v := (-1)) (q := 29) rfl rfl rfl ?_
    exact gd_ireturn rfl rfl rfl (Nat.le_refl 0) (Nat.le_refl 0) rfl
  · refine gd_iload_n (q := 8) rfl rfl rfl ?_
    refine gx_if_lt (q := 11) (r := 28) rfl rfl rfl hp (fun c_8 hp => ?_) (fun c_8 hp => ?_)
    · refine gd_iconst (v := (-1)) (q := 29) rfl rfl rfl ?_
      exact gd_ireturn rfl rfl rfl (Nat.le_refl 0) (Nat.le_refl 0) rfl
    · refine gd_iload_n (q := 12) rfl rfl rfl ?_
      refine gd_aload_n (q := 13) rfl rfl rfl ?_
      refine gd_getI (q := 16) rfl rfl rfl (Nat.le_of_ble_eq_true rfl) rfl rfl ?_
      refine gx_icmp_gt (q := 19) (r := 28) rfl rfl rfl hp (fun c_16 hp => ?_) (fun c_16 hp => ?_)
      · refine gd_iconst (v := (-1)) (q := 29) rfl rfl rfl ?_
        exact gd_ireturn rfl rfl rfl (Nat.le_refl 0) (Nat.le_refl 0) rfl
      · refine gd_iload_n (q := 20) rfl rfl rfl ?_
        refine gx_if_lt (q := 23) (r := 28) rfl rfl rfl hp (fun c_20 hp => ?_) (fun c_20 hp => ?_)
        · refine gd_iconst (v := (-1)) (q := 29) rfl rfl rfl ?_
          exact gd_ireturn rfl rfl rfl (Nat.le_refl 0) (Nat.le_refl 0) rfl
        · refine gd_iload_n (q := 24) rfl rfl rfl ?_
          refine gd_iconst (v := 1) (q := 25) rfl rfl rfl ?_
          refine gx_icmp_le (q := 28) (r := 30) rfl rfl rfl hp (fun c_25 hp => ?_) (fun c_25 hp => ?_)
          · refine gd_aload_n (q := 31) rfl rfl rfl ?_
            refine gd_iload_n (q := 32) rfl rfl rfl ?_
            refine gd_aload_n (q := 33) rfl rfl rfl ?_
            refine gd_iload_n (q := 34) rfl rfl rfl ?_
            refine gd_cVi (q := 37) rfl rfl lk10_364 myX10_leftOf vxX10_leftOf (ct_X10_leftOf f _ _ _ hG _ hp.1) rfl (Nat.le_of_ble_eq_true rfl) rfl rfl (Nat.le_of_ble_eq_true rfl) rfl (Nat.le_of_ble_eq_true rfl) ⟨(Nat.le_of_ble_eq_true rfl), (Nat.le_of_ble_eq_true rfl)⟩ ?_
            replace hp := hp.2
            refine gd_cVi (q := 40) rfl rfl lk10_361 myX10_agrees vxX10_agrees (ct_X10_agrees f _ _ _ hG _ _ hp.1) rfl (Nat.le_of_ble_eq_true rfl) rfl rfl (Nat.le_of_ble_eq_true rfl) rfl (Nat.le_of_ble_eq_true rfl) ⟨(Nat.le_of_ble_eq_true rfl), (Nat.le_of_ble_eq_true rfl)⟩ ?_
            replace hp := hp.2
            refine gd_istore (q := 42) rfl rfl (Nat.le_of_ble_eq_true rfl) rfl ?_
            refine gd_iload (q := 44) rfl rfl rfl ?_
            refine gx_if_eq (q := 47) (r := 69) rfl rfl rfl hp (fun c_44 hp => ?_) (fun c_44 hp => ?_)
            · refine gd_iconst (v := (-1)) (q := 70) rfl rfl rfl ?_
              exact gd_ireturn rfl rfl rfl (Nat.le_refl 0) (Nat.le_refl 0) rfl
            · refine gd_iload_n (q := 48) rfl rfl rfl ?_
              refine gx_if_ne (q := 51) (r := 60) rfl rfl rfl hp (fun c_48 hp => ?_) (fun c_48 hp => ?_)
              · refine gd_aload_n (q := 52) rfl rfl rfl ?_
                refine gd_getR (q := 55) (r := 90) rfl rfl rfl (Nat.le_of_ble_eq_true rfl) rfl rfl (gr_46_66 hG) ?_
                refine gd_iload_n (q := 56) rfl rfl rfl ?_
                refine gd_iald (q := 57) rfl rfl (Nat.le_of_ble_eq_true rfl) rfl hp ?_
                refine gd_goto (q := 70) rfl rfl ?_
                exact gd_ireturn rfl rfl rfl (Nat.le_refl 0) (Nat.le_refl 0) rfl
              · refine gd_aload_n (q := 61) rfl rfl rfl ?_
                refine gd_getR (q := 64) (r := 91) rfl rfl rfl (Nat.le_of_ble_eq_true rfl) rfl rfl (gr_46_67 hG) ?_
                refine gd_iload_n (q := 65) rfl rfl rfl ?_
                refine gd_iald (q := 66) rfl rfl (Nat.le_of_ble_eq_true rfl) rfl hp ?_
                refine gd_goto (q := 70) rfl rfl ?_
                exact gd_ireturn rfl rfl rfl (Nat.le_refl 0) (Nat.le_refl 0) rfl
          · refine gd_iconst (v := (-1)) (q := 29) rfl rfl rfl ?_
            exact gd_ireturn rfl rfl rfl (Nat.le_refl 0) (Nat.le_refl 0) rfl
theorem ct_X10_when (f : Nat) (I : am_I) (J : am_J) (Q : am_Q) (hG : Gr Q) (a1 : Int32) (a2 : Int32) (a3 : Int32) (hp : p_X10_when f I a1 a2 a3) : Cm MX10_when 3 0 0 92 [.ref 46, .int a1, .int a2, .int a3] I J Q (am_FiI J Q (s_X10_when f I a1 a2 a3)) := cm_of (by decide) rfl IX10_when_ok (Nat.le_of_ble_eq_true rfl) (gt_X10_when f I J Q hG a1 a2 a3 hp)
theorem am_swX10_count_1 {x : Int32} (h0 : ¬ x = 0) (h1 : ¬ x = 1) (h2 : ¬ x = 2) (h3 : ¬ x = 3) (h4 : ¬ x = 4) (h5 : ¬ x = 5) (h6 : ¬ x = 6) (h7 : ¬ x = 7) (h8 : ¬ x = 8) : (x.toInt < 0 ∨ 8 < x.toInt) ∨ (¬ x.toInt < 0 ∧ ¬ 8 < x.toInt ∧ (#[51, 56, 61, 66, 71, 76, 81, 86, 91] : Array Int)[(x.toInt - 0).toNat]? = some 96) := by
  by_cases hlo : x.toInt < 0
  · exact Or.inl (Or.inl hlo)
  by_cases hhi : 8 < x.toInt
  · exact Or.inl (Or.inr hhi)
  refine Or.inr ⟨hlo, hhi, ?_⟩
  have e0 := lv_neT (a := 0) h0 rfl
  have e1 := lv_neT (a := 1) h1 rfl
  have e2 := lv_neT (a := 2) h2 rfl
  have e3 := lv_neT (a := 3) h3 rfl
  have e4 := lv_neT (a := 4) h4 rfl
  have e5 := lv_neT (a := 5) h5 rfl
  have e6 := lv_neT (a := 6) h6 rfl
  have e7 := lv_neT (a := 7) h7 rfl
  have e8 := lv_neT (a := 8) h8 rfl
  exfalso; omega
def s_X10_count (I : am_I) (a1 : Int32) : Int32 := (if a1 = 0 then (I 46 35) else (if a1 = 1 then (I 46 38) else (if a1 = 2 then (I 46 40) else (if a1 = 3 then (I 46 44) else (if a1 = 4 then (I 46 52) else (if a1 = 5 then (I 46 54) else (if a1 = 6 then (I 46 61) else (if a1 = 7 then (I 46 2) else (if a1 = 8 then (I 46 56) else (-1))))))))))
set_option maxRecDepth 100000 in
set_option maxHeartbeats 4000000 in
theorem gt_X10_count (f : Nat) (I : am_I) (J : am_J) (Q : am_Q) (hG : Gr Q) (a1 : Int32) : Gd MX10_count (am_o 0 0 0 (am_Fi I J Q (s_X10_count I a1))) 0 0 92 0 [some (.ref 46), some (.int a1)] [] I J Q := by
  unfold s_X10_count
  refine gd_iload_n (q := 1) rfl rfl rfl ?_
  refine gy_ite (fun c_1_0 => ?_) (fun c_1_0 => ?_)
  · refine gd_tsIn (q := 52) rfl (by rw [c_1_0]; decide) (by rw [c_1_0]; decide) (by first | (rw [c_1_0]; done) | (rw [c_1_0]; rfl)) rfl ?_
    refine gd_aload_n (q := 53) rfl rfl rfl ?_
    refine gd_getI (q := 56) rfl rfl rfl (Nat.le_of_ble_eq_true rfl) rfl rfl ?_
    exact gd_ireturn rfl rfl rfl (Nat.le_refl 0) (Nat.le_refl 0) rfl
  · refine gy_ite (fun c_1_1 => ?_) (fun c_1_1 => ?_)
    · refine gd_tsIn (q := 57) rfl (by rw [c_1_1]; decide) (by rw [c_1_1]; decide) (by first | (rw [c_1_1]; done) | (rw [c_1_1]; rfl)) rfl ?_
      refine gd_aload_n (q := 58) rfl rfl rfl ?_
      refine gd_getI (q := 61) rfl rfl rfl (Nat.le_of_ble_eq_true rfl) rfl rfl ?_
      exact gd_ireturn rfl rfl rfl (Nat.le_refl 0) (Nat.le_refl 0) rfl
    · refine gy_ite (fun c_1_2 => ?_) (fun c_1_2 => ?_)
      · refine gd_tsIn (q := 62) rfl (by rw [c_1_2]; decide) (by rw [c_1_2]; decide) (by first | (rw [c_1_2]; done) | (rw [c_1_2]; rfl)) rfl ?_
        refine gd_aload_n (q := 63) rfl rfl rfl ?_
        refine gd_getI (q := 66) rfl rfl rfl (Nat.le_of_ble_eq_true rfl) rfl rfl ?_
        exact gd_ireturn rfl rfl rfl (Nat.le_refl 0) (Nat.le_refl 0) rfl
      · refine gy_ite (fun c_1_3 => ?_) (fun c_1_3 => ?_)
        · refine gd_tsIn (q := 67) rfl (by rw [c_1_3]; decide) (by rw [c_1_3]; decide) (by first | (rw [c_1_3]; done) | (rw [c_1_3]; rfl)) rfl ?_
          refine gd_aload_n (q := 68) rfl rfl rfl ?_
          refine gd_getI (q := 71) rfl rfl rfl (Nat.le_of_ble_eq_true rfl) rfl rfl ?_
          exact gd_ireturn rfl rfl rfl (Nat.le_refl 0) (Nat.le_refl 0) rfl
        · refine gy_ite (fun c_1_4 => ?_) (fun c_1_4 => ?_)
          · refine gd_tsIn (q := 72) rfl (by rw [c_1_4]; decide) (by rw [c_1_4]; decide) (by first | (rw [c_1_4]; done) | (rw [c_1_4]; rfl)) rfl ?_
            refine gd_aload_n (q := 73) rfl rfl rfl ?_
            refine gd_getI (q := 76) rfl rfl rfl (Nat.le_of_ble_eq_true rfl) rfl rfl ?_
            exact gd_ireturn rfl rfl rfl (Nat.le_refl 0) (Nat.le_refl 0) rfl
          · refine gy_ite (fun c_1_5 => ?_) (fun c_1_5 => ?_)
            · refine gd_tsIn (q := 77) rfl (by rw [c_1_5]; decide) (by rw [c_1_5]; decide) (by first | (rw [c_1_5]; done) | (rw [c_1_5]; rfl)) rfl ?_
              refine gd_aload_n (q := 78) rfl rfl rfl ?_
              refine gd_getI (q := 81) rfl rfl rfl (Nat.le_of_ble_eq_true rfl) rfl rfl ?_
              exact gd_ireturn rfl rfl rfl (Nat.le_refl 0) (Nat.le_refl 0) rfl
            · refine gy_ite (fun c_1_6 => ?_) (fun c_1_6 => ?_)
              · refine gd_tsIn (q := 82) rfl (by rw [c_1_6]; decide) (by rw [c_1_6]; decide) (by first | (rw [c_1_6]; done) | (rw [c_1_6]; rfl)) rfl ?_
                refine gd_aload_n (q := 83) rfl rfl rfl ?_
                refine gd_getI (q := 86) rfl rfl rfl (Nat.le_of_ble_eq_true rfl) rfl rfl ?_
                exact gd_ireturn rfl rfl rfl (Nat.le_refl 0) (Nat.le_refl 0) rfl
              · refine gy_ite (fun c_1_7 => ?_) (fun c_1_7 => ?_)
                · refine gd_tsIn (q := 87) rfl (by rw [c_1_7]; decide) (by rw [c_1_7]; decide) (by first | (rw [c_1_7]; done) | (rw [c_1_7]; rfl)) rfl ?_
                  refine gd_aload_n (q := 88) rfl rfl rfl ?_
                  refine gd_getI (q := 91) rfl rfl rfl (Nat.le_of_ble_eq_true rfl) rfl rfl ?_
                  exact gd_ireturn rfl rfl rfl (Nat.le_refl 0) (Nat.le_refl 0) rfl
                · refine gy_ite (fun c_1_8 => ?_) (fun c_1_8 => ?_)
                  · refine gd_tsIn (q := 92) rfl (by rw [c_1_8]; decide) (by rw [c_1_8]; decide) (by first | (rw [c_1_8]; done) | (rw [c_1_8]; rfl)) rfl ?_
                    refine gd_aload_n (q := 93) rfl rfl rfl ?_
                    refine gd_getI (q := 96) rfl rfl rfl (Nat.le_of_ble_eq_true rfl) rfl rfl ?_
                    exact gd_ireturn rfl rfl rfl (Nat.le_refl 0) (Nat.le_refl 0) rfl
                  · refine gd_tsAny (q := 97) rfl (am_swX10_count_1 c_1_0 c_1_1 c_1_2 c_1_3 c_1_4 c_1_5 c_1_6 c_1_7 c_1_8) rfl ?_
                    refine gd_iconst (v := (-1)) (q := 98) rfl rfl rfl ?_
                    exact gd_ireturn rfl rfl rfl (Nat.le_refl 0) (Nat.le_refl 0) rfl
theorem ct_X10_count (f : Nat) (I : am_I) (J : am_J) (Q : am_Q) (hG : Gr Q) (a1 : Int32) : Cm MX10_count 0 0 0 92 [.ref 46, .int a1] I J Q (am_Fi I J Q (s_X10_count I a1)) := cm_of (by decide) rfl IX10_count_ok (Nat.le_of_ble_eq_true rfl) (gt_X10_count f I J Q hG a1)
def s_X6_addFour_L3 (a1 : Int32)  : Nat → Int32 → am_I → am_I
  | 0, _, I => I
  | g + 1, v2, I => (if v2 < 0 then I else (if 2000 ≤ (I 1 1) then I else (s_X6_addFour_L3 a1 g (v2 + (-8)) (am_w (am_w I 2 (I 1 1).toNatClampNeg (vp_nar .byte ((a1 >>> (v2 &&& 31)).toInt8.toInt32))) 1 1 ((I 1 1) + 1)))))
def p_X6_addFour_L3 (a1 : Int32)  : Nat → Int32 → am_I → Prop
  | 0, _, _ => False
  | g + 1, v2, I => (if v2 < 0 then True else (if 2000 ≤ (I 1 1) then True else (vp_in (I 1 1) 2000 ∧ (p_X6_addFour_L3 a1 g (v2 + (-8)) (am_w (am_w I 2 (I 1 1).toNatClampNeg (vp_nar .byte ((a1 >>> (v2 &&& 31)).toInt8.toInt32))) 1 1 ((I 1 1) + 1))))))
def s_X6_addFour (f : Nat) (I : am_I) (a1 : Int32) : am_I := (s_X6_addFour_L3 a1 f 24 I)
def p_X6_addFour (f : Nat) (I : am_I) (a1 : Int32) : Prop := (p_X6_addFour_L3 a1 f 24 I)
set_option maxRecDepth 100000 in
set_option maxHeartbeats 4000000 in
theorem gl_X6_addFour_L3 (a1 : Int32) (f : Nat) (J : am_J) (Q : am_Q) (hG : Gr Q) : ∀ g : Nat, (∀ (v2 : Int32) (I : am_I), p_X6_addFour_L3 a1 g v2 I → Gd MX6_addFour (am_o 0 0 0 (am_FvI J Q (s_X6_addFour_L3 a1 g v2 I))) 0 0 92 3 [some (.ref 1), some (.int a1), some (.int v2)] [] I J Q) := by
  intro g
  induction g with
  | zero => exact fun _ _ hp => False.elim hp
  | succ g ih =>
    have ih_3 := ih
    intro v2 I hp
    rw [s_X6_addFour_L3]
    rw [p_X6_addFour_L3] at hp
    refine gd_iload_n (q := 4) rfl rfl rfl ?_
    refine gx_if_lt (q := 7) (r := 48) rfl rfl rfl hp (fun c_4 hp => ?_) (fun c_4 hp => ?_)
    · exact gd_return rfl rfl (Nat.le_refl 0) (Nat.le_refl 0) rfl
    · refine gd_aload_n (q := 8) rfl rfl rfl ?_
      refine gd_getI (q := 11) rfl rfl rfl (Nat.le_of_ble_eq_true rfl) rfl rfl ?_
      refine gd_aload_n (q := 12) rfl rfl rfl ?_
      refine gd_getR (q := 15) (r := 2) rfl rfl rfl (Nat.le_of_ble_eq_true rfl) rfl rfl (gr_1_0 hG) ?_
      refine gd_alen (v := 2000) (ty := .byte) (q := 16) rfl rfl (Nat.le_of_ble_eq_true rfl) rfl (fun _ => rfl) rfl ?_
      refine gx_icmp_ge (q := 19) (r := 48) rfl rfl rfl hp (fun c_16 hp => ?_) (fun c_16 hp => ?_)
      · exact gd_return rfl rfl (Nat.le_refl 0) (Nat.le_refl 0) rfl
      · refine gd_aload_n (q := 20) rfl rfl rfl ?_
        refine gd_getR (q := 23) (r := 2) rfl rfl rfl (Nat.le_of_ble_eq_true rfl) rfl rfl (gr_1_0 hG) ?_
        refine gd_aload_n (q := 24) rfl rfl rfl ?_
        refine gd_getI (q := 27) rfl rfl rfl (Nat.le_of_ble_eq_true rfl) rfl rfl ?_
        refine gd_iload_n (q := 28) rfl rfl rfl ?_
        refine gd_iload_n (q := 29) rfl rfl rfl ?_
        refine gd_ishr (q := 30) rfl rfl ?_
        refine gd_i2b (q := 31) rfl rfl ?_
        refine gd_bast (q := 32) rfl rfl (Nat.le_of_ble_eq_true rfl) rfl hp.1 ?_
        replace hp := hp.2
        refine gd_aload_n (q := 33) rfl rfl rfl ?_
        refine gd_dup (q := 34) rfl rfl rfl ?_
        refine gd_getI (q := 37) rfl rfl rfl (Nat.le_of_ble_eq_true rfl) rfl rfl ?_
        refine gd_iconst (v := 1) (q := 38) rfl rfl rfl ?_
        refine gd_iadd (q := 39) rfl rfl ?_
        refine gd_putI (q := 42) rfl rfl rfl (Nat.le_of_ble_eq_true rfl) rfl rfl rfl (Or.inl rfl) ?_
        refine gd_iinc (v := (v2 + (-8))) (q := 45) rfl rfl rfl rfl (Nat.le_of_ble_eq_true rfl) rfl ?_
        refine gd_goto (q := 3) rfl rfl ?_
        exact ih_3 _ _ hp
theorem gl_X6_addFour_3 (a1 : Int32) (f : Nat) (J : am_J) (Q : am_Q) (hG : Gr Q) (g : Nat) : ∀ (v2 : Int32) (I : am_I), p_X6_addFour_L3 a1 g v2 I → Gd MX6_addFour (am_o 0 0 0 (am_FvI J Q (s_X6_addFour_L3 a1 g v2 I))) 0 0 92 3 [some (.ref 1), some (.int a1), some (.int v2)] [] I J Q := (gl_X6_addFour_L3 a1 f J Q hG g)
set_option maxRecDepth 100000 in
set_option maxHeartbeats 4000000 in
theorem gt_X6_addFour (f : Nat) (I : am_I) (J : am_J) (Q : am_Q) (hG : Gr Q) (a1 : Int32) (hp : p_X6_addFour f I a1) : Gd MX6_addFour (am_o 0 0 0 (am_FvI J Q (s_X6_addFour f I a1))) 0 0 92 0 [some (.ref 1), some (.int a1), none] [] I J Q := by
  unfold s_X6_addFour
  unfold p_X6_addFour at hp
  refine gd_bipush (v := 24) (q := 2) rfl rfl rfl ?_
  refine gd_istore_n (q := 3) rfl rfl (Nat.le_of_ble_eq_true rfl) rfl ?_
  exact gl_X6_addFour_3 a1 f J Q hG f _ _ hp
theorem ct_X6_addFour (f : Nat) (I : am_I) (J : am_J) (Q : am_Q) (hG : Gr Q) (a1 : Int32) (hp : p_X6_addFour f I a1) : Cm MX6_addFour 0 0 0 92 [.ref 1, .int a1] I J Q (am_FvI J Q (s_X6_addFour f I a1)) := cm_of (by decide) rfl IX6_addFour_ok (Nat.le_of_ble_eq_true rfl) (gt_X6_addFour f I J Q hG a1 hp)
def s_X6_addTwenty (f : Nat) (I : am_I) (a1 : Int32) (a2 : Int32) (a3 : Int32) (a4 : Int32) (a5 : Int32) : Int32 × am_I := (if ((I 1 1) + 20) ≤ 2000 then (((s_X6_addFour f (s_X6_addFour f (s_X6_addFour f (s_X6_addFour f (s_X6_addFour f I a1) a2) a3) a4) a5) 1 1), (s_X6_addFour f (s_X6_addFour f (s_X6_addFour f (s_X6_addFour f (s_X6_addFour f I a1) a2) a3) a4) a5)) else ((-1), I))
def p_X6_addTwenty (f : Nat) (I : am_I) (a1 : Int32) (a2 : Int32) (a3 : Int32) (a4 : Int32) (a5 : Int32) : Prop := (if ((I 1 1) + 20) ≤ 2000 then ((p_X6_addFour f I a1) ∧ ((p_X6_addFour f (s_X6_addFour f I a1) a2) ∧ ((p_X6_addFour f (s_X6_addFour f (s_X6_addFour f I a1) a2) a3) ∧ ((p_X6_addFour f (s_X6_addFour f (s_X6_addFour f (s_X6_addFour f I a1) a2) a3) a4) ∧ (p_X6_addFour f (s_X6_addFour f (s_X6_addFour f (s_X6_addFour f (s_X6_addFour f I a1) a2) a3) a4) a5))))) else True)
set_option maxRecDepth 100000 in
set_option maxHeartbeats 4000000 in
theorem gt_X6_addTwenty (f : Nat) (I : am_I) (J : am_J) (Q : am_Q) (hG : Gr Q) (a1 : Int32) (a2 : Int32) (a3 : Int32) (a4 : Int32) (a5 : Int32) (hp : p_X6_addTwenty f I a1 a2 a3 a4 a5) : Gd MX6_addTwenty (am_o 1 0 0 (am_FiI J Q (s_X6_addTwenty f I a1 a2 a3 a4 a5))) 0 0 92 0 [some (.ref 1), some (.int a1), some (.int a2), some (.int a3), some (.int a4), some (.int a5)] [] I J Q := by
  unfold s_X6_addTwenty
  unfold p_X6_addTwenty at hp
  refine gd_aload_n (q := 1) rfl rfl rfl ?_
  refine gd_getI (q := 4) rfl rfl rfl (Nat.le_of_ble_eq_true rfl) rfl rfl ?_
  refine gd_bipush (v := 20) (q := 6) rfl rfl rfl ?_
  refine gd_iadd (q := 7) rfl rfl ?_
  refine gd_sipush (v := 2000) (q := 10) rfl rfl rfl ?_
  refine gx_icmp_le (q := 13) (r := 15) rfl rfl rfl hp (fun c_10 hp => ?_) (fun c_10 hp => ?_)
  · refine gd_aload_n (q := 16) rfl rfl rfl ?_
    refine gd_iload_n (q := 17) rfl rfl rfl ?_
    refine gd_cVv (q := 20) rfl rfl lk6_19 myX6_addFour vxX6_addFour (ct_X6_addFour f _ _ _ hG _ hp.1) rfl (Nat.le_of_ble_eq_true rfl) rfl rfl (Nat.le_of_ble_eq_true rfl) rfl (Nat.le_of_ble_eq_true rfl) ⟨(Nat.le_of_ble_eq_true rfl), (Nat.le_of_ble_eq_true rfl)⟩ ?_
    replace hp := hp.2
    refine gd_aload_n (q := 21) rfl rfl rfl ?_
    refine gd_iload_n (q := 22) rfl rfl rfl ?_
    refine gd_cVv (q := 25) rfl rfl lk6_19 myX6_addFour vxX6_addFour (ct_X6_addFour f _ _ _ hG _ hp.1) rfl (Nat.le_of_ble_eq_true rfl) rfl rfl (Nat.le_of_ble_eq_true rfl) rfl (Nat.le_of_ble_eq_true rfl) ⟨(Nat.le_of_ble_eq_true rfl), (Nat.le_of_ble_eq_true rfl)⟩ ?_
    replace hp := hp.2
    refine gd_aload_n (q := 26) rfl rfl rfl ?_
    refine gd_iload_n (q := 27) rfl rfl rfl ?_
    refine gd_cVv (q := 30) rfl rfl lk6_19 myX6_addFour vxX6_addFour (ct_X6_addFour f _ _ _ hG _ hp.1) rfl (Nat.le_of_ble_eq_true rfl) rfl rfl (Nat.le_of_ble_eq_true rfl) rfl (Nat.le_of_ble_eq_true rfl) ⟨(Nat.le_of_ble_eq_true rfl), (Nat.le_of_ble_eq_true rfl)⟩ ?_
    replace hp := hp.2
    refine gd_aload_n (q := 31) rfl rfl rfl ?_
    refine gd_iload (q := 33) rfl rfl rfl ?_
    refine gd_cVv (q := 36) rfl rfl lk6_19 myX6_addFour vxX6_addFour (ct_X6_addFour f _ _ _ hG _ hp.1) rfl (Nat.le_of_ble_eq_true rfl) rfl rfl (Nat.le_of_ble_eq_true rfl) rfl (Nat.le_of_ble_eq_true rfl) ⟨(Nat.le_of_ble_eq_true rfl), (Nat.le_of_ble_eq_true rfl)⟩ ?_
    replace hp := hp.2
    refine gd_aload_n (q := 37) rfl rfl rfl ?_
    refine gd_iload (q := 39) rfl rfl rfl ?_
    refine gd_cVv (q := 42) rfl rfl lk6_19 myX6_addFour vxX6_addFour (ct_X6_addFour f _ _ _ hG _ hp) rfl (Nat.le_of_ble_eq_true rfl) rfl rfl (Nat.le_of_ble_eq_true rfl) rfl (Nat.le_of_ble_eq_true rfl) ⟨(Nat.le_of_ble_eq_true rfl), (Nat.le_of_ble_eq_true rfl)⟩ ?_
    refine gd_aload_n (q := 43) rfl rfl rfl ?_
    refine gd_getI (q := 46) rfl rfl rfl (Nat.le_of_ble_eq_true rfl) rfl rfl ?_
    exact gd_ireturn rfl rfl rfl (Nat.le_refl 0) (Nat.le_refl 0) rfl
  · refine gd_iconst (v := (-1)) (q := 14) rfl rfl rfl ?_
    exact gd_ireturn rfl rfl rfl (Nat.le_refl 0) (Nat.le_refl 0) rfl
theorem ct_X6_addTwenty (f : Nat) (I : am_I) (J : am_J) (Q : am_Q) (hG : Gr Q) (a1 : Int32) (a2 : Int32) (a3 : Int32) (a4 : Int32) (a5 : Int32) (hp : p_X6_addTwenty f I a1 a2 a3 a4 a5) : Cm MX6_addTwenty 1 0 0 92 [.ref 1, .int a1, .int a2, .int a3, .int a4, .int a5] I J Q (am_FiI J Q (s_X6_addTwenty f I a1 a2 a3 a4 a5)) := cm_of (by decide) rfl IX6_addTwenty_ok (Nat.le_of_ble_eq_true rfl) (gt_X6_addTwenty f I J Q hG a1 a2 a3 a4 a5 hp)
def s_X9_feed (f : Nat) (I : am_I) (a1 : Int32) (a2 : Int32) (a3 : Int32) (a4 : Int32) (a5 : Int32) : Int32 × am_I := (((s_X6_addTwenty f I a1 a2 a3 a4 a5).1), ((s_X6_addTwenty f I a1 a2 a3 a4 a5).2))
def p_X9_feed (f : Nat) (I : am_I) (a1 : Int32) (a2 : Int32) (a3 : Int32) (a4 : Int32) (a5 : Int32) : Prop := (p_X6_addTwenty f I a1 a2 a3 a4 a5)
set_option maxRecDepth 100000 in
set_option maxHeartbeats 4000000 in
theorem gt_X9_feed (f : Nat) (I : am_I) (J : am_J) (Q : am_Q) (hG : Gr Q) (a1 : Int32) (a2 : Int32) (a3 : Int32) (a4 : Int32) (a5 : Int32) (hp : p_X9_feed f I a1 a2 a3 a4 a5) : Gd MX9_feed (am_o 2 0 0 (am_FiI J Q (s_X9_feed f I a1 a2 a3 a4 a5))) 0 0 92 0 [some (.ref 0), some (.int a1), some (.int a2), some (.int a3), some (.int a4), some (.int a5)] [] I J Q := by
  unfold s_X9_feed
  unfold p_X9_feed at hp
  refine gd_aload_n (q := 1) rfl rfl rfl ?_
  refine gd_getR (q := 4) (r := 1) rfl rfl rfl (Nat.le_of_ble_eq_true rfl) rfl rfl (gr_0_0 hG) ?_
  refine gd_iload_n (q := 5) rfl rfl rfl ?_
  refine gd_iload_n (q := 6) rfl rfl rfl ?_
  refine gd_iload_n (q := 7) rfl rfl rfl ?_
  refine gd_iload (q := 9) rfl rfl rfl ?_
  refine gd_iload (q := 11) rfl rfl rfl ?_
  refine gd_cVi (q := 14) rfl rfl lk9_83 myX6_addTwenty vxX6_addTwenty (ct_X6_addTwenty f _ _ _ hG _ _ _ _ _ hp) rfl (Nat.le_of_ble_eq_true rfl) rfl rfl (Nat.le_of_ble_eq_true rfl) rfl (Nat.le_of_ble_eq_true rfl) ⟨(Nat.le_of_ble_eq_true rfl), (Nat.le_of_ble_eq_true rfl)⟩ ?_
  exact gd_ireturn rfl rfl rfl (Nat.le_refl 0) (Nat.le_refl 0) rfl
theorem ct_X9_feed (f : Nat) (I : am_I) (J : am_J) (Q : am_Q) (hG : Gr Q) (a1 : Int32) (a2 : Int32) (a3 : Int32) (a4 : Int32) (a5 : Int32) (hp : p_X9_feed f I a1 a2 a3 a4 a5) : Cm MX9_feed 2 0 0 92 [.ref 0, .int a1, .int a2, .int a3, .int a4, .int a5] I J Q (am_FiI J Q (s_X9_feed f I a1 a2 a3 a4 a5)) := cm_of (by decide) rfl IX9_feed_ok (Nat.le_of_ble_eq_true rfl) (gt_X9_feed f I J Q hG a1 a2 a3 a4 a5 hp)
def s_X6_drop (I : am_I) (a1 : Int32) : Int32 × am_I := (if a1 < 0 then ((-1), I) else (if a1 ≤ (I 1 1) then (((I 1 1) - a1), (am_w I 1 1 ((I 1 1) - a1))) else ((-1), I)))
set_option maxRecDepth 100000 in
set_option maxHeartbeats 4000000 in
theorem gt_X6_drop (f : Nat) (I : am_I) (J : am_J) (Q : am_Q) (hG : Gr Q) (a1 : Int32) : Gd MX6_drop (am_o 0 0 0 (am_FiI J Q (s_X6_drop I a1))) 0 0 92 0 [some (.ref 1), some (.int a1)] [] I J Q := by
  unfold s_X6_drop
  refine gd_iload_n (q := 1) rfl rfl rfl ?_
  refine gy_if_lt (q := 4) (r := 12) rfl rfl rfl (fun c_1 => ?_) (fun c_1 => ?_)
  · refine gd_iconst (v := (-1)) (q := 13) rfl rfl rfl ?_
    exact gd_ireturn rfl rfl rfl (Nat.le_refl 0) (Nat.le_refl 0) rfl
  · refine gd_iload_n (q := 5) rfl rfl rfl ?_
    refine gd_aload_n (q := 6) rfl rfl rfl ?_
    refine gd_getI (q := 9) rfl rfl rfl (Nat.le_of_ble_eq_true rfl) rfl rfl ?_
    refine gy_icmp_le (q := 12) (r := 14) rfl rfl rfl (fun c_9 => ?_) (fun c_9 => ?_)
    · refine gd_aload_n (q := 15) rfl rfl rfl ?_
      refine gd_dup (q := 16) rfl rfl rfl ?_
      refine gd_getI (q := 19) rfl rfl rfl (Nat.le_of_ble_eq_true rfl) rfl rfl ?_
      refine gd_iload_n (q := 20) rfl rfl rfl ?_
      refine gd_isub (q := 21) rfl rfl ?_
      refine gd_putI (q := 24) rfl rfl rfl (Nat.le_of_ble_eq_true rfl) rfl rfl rfl (Or.inl rfl) ?_
      refine gd_aload_n (q := 25) rfl rfl rfl ?_
      refine gd_getI (q := 28) rfl rfl rfl (Nat.le_of_ble_eq_true rfl) rfl rfl ?_
      exact gd_ireturn rfl rfl rfl (Nat.le_refl 0) (Nat.le_refl 0) rfl
    · refine gd_iconst (v := (-1)) (q := 13) rfl rfl rfl ?_
      exact gd_ireturn rfl rfl rfl (Nat.le_refl 0) (Nat.le_refl 0) rfl
theorem ct_X6_drop (f : Nat) (I : am_I) (J : am_J) (Q : am_Q) (hG : Gr Q) (a1 : Int32) : Cm MX6_drop 0 0 0 92 [.ref 1, .int a1] I J Q (am_FiI J Q (s_X6_drop I a1)) := cm_of (by decide) rfl IX6_drop_ok (Nat.le_of_ble_eq_true rfl) (gt_X6_drop f I J Q hG a1)
def s_X9_back (I : am_I) (a1 : Int32) : Int32 × am_I := (((s_X6_drop I a1).1), ((s_X6_drop I a1).2))
set_option maxRecDepth 100000 in
set_option maxHeartbeats 4000000 in
theorem gt_X9_back (f : Nat) (I : am_I) (J : am_J) (Q : am_Q) (hG : Gr Q) (a1 : Int32) : Gd MX9_back (am_o 1 0 0 (am_FiI J Q (s_X9_back I a1))) 0 0 92 0 [some (.ref 0), some (.int a1)] [] I J Q := by
  unfold s_X9_back
  refine gd_aload_n (q := 1) rfl rfl rfl ?_
  refine gd_getR (q := 4) (r := 1) rfl rfl rfl (Nat.le_of_ble_eq_true rfl) rfl rfl (gr_0_0 hG) ?_
  refine gd_iload_n (q := 5) rfl rfl rfl ?_
  refine gd_cVi (q := 8) rfl rfl lk9_87 myX6_drop vxX6_drop (ct_X6_drop f _ _ _ hG _) rfl (Nat.le_of_ble_eq_true rfl) rfl rfl (Nat.le_of_ble_eq_true rfl) rfl (Nat.le_of_ble_eq_true rfl) ⟨(Nat.le_of_ble_eq_true rfl), (Nat.le_of_ble_eq_true rfl)⟩ ?_
  exact gd_ireturn rfl rfl rfl (Nat.le_refl 0) (Nat.le_refl 0) rfl
theorem ct_X9_back (f : Nat) (I : am_I) (J : am_J) (Q : am_Q) (hG : Gr Q) (a1 : Int32) : Cm MX9_back 1 0 0 92 [.ref 0, .int a1] I J Q (am_FiI J Q (s_X9_back I a1)) := cm_of (by decide) rfl IX9_back_ok (Nat.le_of_ble_eq_true rfl) (gt_X9_back f I J Q hG a1)
def s_X9_place (I : am_I)  : Int32 := (I 0 11)
set_option maxRecDepth 100000 in
set_option maxHeartbeats 4000000 in
theorem gt_X9_place (f : Nat) (I : am_I) (J : am_J) (Q : am_Q) (hG : Gr Q)  : Gd MX9_place (am_o 0 0 0 (am_Fi I J Q (s_X9_place I))) 0 0 92 0 [some (.ref 0)] [] I J Q := by
  unfold s_X9_place
  refine gd_aload_n (q := 1) rfl rfl rfl ?_
  refine gd_getI (q := 4) rfl rfl rfl (Nat.le_of_ble_eq_true rfl) rfl rfl ?_
  exact gd_ireturn rfl rfl rfl (Nat.le_refl 0) (Nat.le_refl 0) rfl
theorem ct_X9_place (f : Nat) (I : am_I) (J : am_J) (Q : am_Q) (hG : Gr Q)  : Cm MX9_place 0 0 0 92 [.ref 0] I J Q (am_Fi I J Q (s_X9_place I)) := cm_of (by decide) rfl IX9_place_ok (Nat.le_of_ble_eq_true rfl) (gt_X9_place f I J Q hG)
def s_X9_isBelow  (a0 : Int32) (a1 : Int32) : Int32 := (if a0 < 0 then 0 else (if a1 ≤ a0 then 0 else 1))
theorem z_X9_isBelow  (a0 : Int32) (a1 : Int32) : (s_X9_isBelow a0 a1) = 0 ∨ (s_X9_isBelow a0 a1) = 1 := by
  unfold s_X9_isBelow
  repeat' split
  all_goals first | exact Or.inl rfl | exact Or.inr rfl
set_option maxRecDepth 100000 in
set_option maxHeartbeats 4000000 in
theorem gt_X9_isBelow (f : Nat) (I : am_I) (J : am_J) (Q : am_Q) (hG : Gr Q) (a0 : Int32) (a1 : Int32) : Gd MX9_isBelow (am_o 0 0 0 (am_Fi I J Q (s_X9_isBelow a0 a1))) 0 0 92 0 [some (.int a0), some (.int a1)] [] I J Q := by
  unfold s_X9_isBelow
  refine gd_iload_n (q := 1) rfl rfl rfl ?_
  refine gy_if_lt (q := 4) (r := 13) rfl rfl rfl (fun c_1 => ?_) (fun c_1 => ?_)
  · refine gd_iconst (v := 0) (q := 14) rfl rfl rfl ?_
    exact gd_ireturn rfl rfl rfl (Nat.le_refl 0) (Nat.le_refl 0) rfl
  · refine gd_iload_n (q := 5) rfl rfl rfl ?_
    refine gd_iload_n (q := 6) rfl rfl rfl ?_
    refine gy_icmp_ge (q := 9) (r := 13) rfl rfl rfl (fun c_6 => ?_) (fun c_6 => ?_)
    · refine gd_iconst (v := 0) (q := 14) rfl rfl rfl ?_
      exact gd_ireturn rfl rfl rfl (Nat.le_refl 0) (Nat.le_refl 0) rfl
    · refine gd_iconst (v := 1) (q := 10) rfl rfl rfl ?_
      refine gd_goto (q := 14) rfl rfl ?_
      exact gd_ireturn rfl rfl rfl (Nat.le_refl 0) (Nat.le_refl 0) rfl
theorem ct_X9_isBelow (f : Nat) (I : am_I) (J : am_J) (Q : am_Q) (hG : Gr Q) (a0 : Int32) (a1 : Int32) : Cm MX9_isBelow 0 0 0 92 [.int a0, .int a1] I J Q (am_Fi I J Q (s_X9_isBelow a0 a1)) := cm_of (by decide) rfl IX9_isBelow_ok (Nat.le_of_ble_eq_true rfl) (gt_X9_isBelow f I J Q hG a0 a1)
def s_X7_has (I : am_I) (a1 : Int32) : Int32 := (s_X9_isBelow a1 (I 13 1))
theorem z_X7_has (I : am_I) (a1 : Int32) : (s_X7_has I a1) = 0 ∨ (s_X7_has I a1) = 1 := by
  unfold s_X7_has
  repeat' split
  all_goals first | exact Or.inl rfl | exact Or.inr rfl | exact z_X9_isBelow _ _
set_option maxRecDepth 100000 in
set_option maxHeartbeats 4000000 in
theorem gt_X7_has (f : Nat) (I : am_I) (J : am_J) (Q : am_Q) (hG : Gr Q) (a1 : Int32) : Gd MX7_has (am_o 1 0 0 (am_Fi I J Q (s_X7_has I a1))) 0 0 92 0 [some (.ref 13), some (.int a1)] [] I J Q := by
  unfold s_X7_has
  refine gd_iload_n (q := 1) rfl rfl rfl ?_
  refine gd_aload_n (q := 2) rfl rfl rfl ?_
  refine gd_getI (q := 5) rfl rfl rfl (Nat.le_of_ble_eq_true rfl) rfl rfl ?_
  refine gd_cSi (q := 8) rfl rfl lk7_19 myX9_isBelow sxX9_isBelow (ct_X9_isBelow f _ _ _ hG _ _) rfl rfl (Nat.le_of_ble_eq_true rfl) ⟨(Nat.le_of_ble_eq_true rfl), (Nat.le_of_ble_eq_true rfl)⟩ ?_
  exact gd_ireturn rfl rfl (am_zn (z_X9_isBelow a1 (I 13 1))) (Nat.le_refl 0) (Nat.le_refl 0) rfl
theorem ct_X7_has (f : Nat) (I : am_I) (J : am_J) (Q : am_Q) (hG : Gr Q) (a1 : Int32) : Cm MX7_has 1 0 0 92 [.ref 13, .int a1] I J Q (am_Fi I J Q (s_X7_has I a1)) := cm_of (by decide) rfl IX7_has_ok (Nat.le_of_ble_eq_true rfl) (gt_X7_has f I J Q hG a1)
def s_X7_lineOf (I : am_I) (a1 : Int32) : Int32 := (if (s_X7_has I a1) = 0 then 0 else (I 14 a1.toNatClampNeg))
def p_X7_lineOf (I : am_I) (a1 : Int32) : Prop := (if (s_X7_has I a1) = 0 then True else vp_in a1 12)
set_option maxRecDepth 100000 in
set_option maxHeartbeats 4000000 in
theorem gt_X7_lineOf (f : Nat) (I : am_I) (J : am_J) (Q : am_Q) (hG : Gr Q) (a1 : Int32) (hp : p_X7_lineOf I a1) : Gd MX7_lineOf (am_o 2 0 0 (am_Fi I J Q (s_X7_lineOf I a1))) 0 0 92 0 [some (.ref 13), some (.int a1)] [] I J Q := by
  unfold s_X7_lineOf
  unfold p_X7_lineOf at hp
  refine gd_aload_n (q := 1) rfl rfl rfl ?_
  refine gd_iload_n (q := 2) rfl rfl rfl ?_
  refine gd_cVi (q := 5) rfl rfl lk7_27 myX7_has vxX7_has (ct_X7_has f _ _ _ hG _) rfl (Nat.le_of_ble_eq_true rfl) rfl rfl (Nat.le_of_ble_eq_true rfl) rfl (Nat.le_of_ble_eq_true rfl) ⟨(Nat.le_of_ble_eq_true rfl), (Nat.le_of_ble_eq_true rfl)⟩ ?_
  refine gx_if_eq (q := 8) (r := 17) rfl rfl rfl hp (fun c_5 hp => ?_) (fun c_5 hp => ?_)
  · refine gd_iconst (v := 0) (q := 18) rfl rfl rfl ?_
    exact gd_ireturn rfl rfl rfl (Nat.le_refl 0) (Nat.le_refl 0) rfl
  · refine gd_aload_n (q := 9) rfl rfl rfl ?_
    refine gd_getR (q := 12) (r := 14) rfl rfl rfl (Nat.le_of_ble_eq_true rfl) rfl rfl (gr_13_0 hG) ?_
    refine gd_iload_n (q := 13) rfl rfl rfl ?_
    refine gd_iald (q := 14) rfl rfl (Nat.le_of_ble_eq_true rfl) rfl hp ?_
    refine gd_goto (q := 18) rfl rfl ?_
    exact gd_ireturn rfl rfl rfl (Nat.le_refl 0) (Nat.le_refl 0) rfl
theorem ct_X7_lineOf (f : Nat) (I : am_I) (J : am_J) (Q : am_Q) (hG : Gr Q) (a1 : Int32) (hp : p_X7_lineOf I a1) : Cm MX7_lineOf 2 0 0 92 [.ref 13, .int a1] I J Q (am_Fi I J Q (s_X7_lineOf I a1)) := cm_of (by decide) rfl IX7_lineOf_ok (Nat.le_of_ble_eq_true rfl) (gt_X7_lineOf f I J Q hG a1 hp)
