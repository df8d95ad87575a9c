def s_X10_isAsked (I : am_I) (a1 : Int32) (a2 : Int32) (a3 : Int32) (a4 : Int32) : Int32 := (if (s_X10_isPiece I a1) = 0 then 0 else (if (s_X10_isDay a2) = 0 then 0 else (if (s_X10_isFour a3) = 0 then 0 else (if (s_X10_isFour a4) = 0 then 0 else 1))))
theorem z_X10_isAsked (I : am_I) (a1 : Int32) (a2 : Int32) (a3 : Int32) (a4 : Int32) : (s_X10_isAsked I a1 a2 a3 a4) = 0 ∨ (s_X10_isAsked I a1 a2 a3 a4) = 1 := by
  unfold s_X10_isAsked
  repeat' split
  all_goals first | exact Or.inl rfl | exact Or.inr rfl | exact z_X10_isPiece _ _ | exact z_X10_isDay _ | exact z_X10_isFour _
set_option maxRecDepth 100000 in
set_option maxHeartbeats 4000000 in
theorem gt_X10_isAsked (f : Nat) (I : am_I) (J : am_J) (Q : am_Q) (hG : Gr Q) (a1 : Int32) (a2 : Int32) (a3 : Int32) (a4 : Int32) : Gd MX10_isAsked (am_o 1 0 0 (am_Fi I J Q (s_X10_isAsked I a1 a2 a3 a4))) 0 0 92 0 [some (.ref 46), some (.int a1), some (.int a2), some (.int a3), some (.int a4)] [] I J Q := by
  unfold s_X10_isAsked
  refine gd_aload_n (q := 1) rfl rfl rfl ?_
  refine gd_iload_n (q := 2) rfl rfl rfl ?_
  refine gd_cVi (q := 5) rfl rfl lk10_289 myX10_isPiece vxX10_isPiece (ct_X10_isPiece f _ _ _ hG _) rfl (Nat.le_of_ble_eq_true rfl) rfl rfl (Nat.le_of_ble_eq_true rfl) rfl (Nat.le_of_ble_eq_true rfl) ⟨(Nat.le_of_ble_eq_true rfl), (Nat.le_of_ble_eq_true rfl)⟩ ?_
  refine gy_if_eq (q := 8) (r := 34) rfl rfl rfl (fun c_5 => ?_) (fun c_5 => ?_)
  · refine gd_iconst (v := 0) (q := 35) rfl rfl rfl ?_
    exact gd_ireturn rfl rfl rfl (Nat.le_refl 0) (Nat.le_refl 0) rfl
  · refine gd_iload_n (q := 9) rfl rfl rfl ?_
    refine gd_cSi (q := 12) rfl rfl lk10_283 myX10_isDay sxX10_isDay (ct_X10_isDay f _ _ _ hG _) rfl rfl (Nat.le_of_ble_eq_true rfl) ⟨(Nat.le_of_ble_eq_true rfl), (Nat.le_of_ble_eq_true rfl)⟩ ?_
    refine gy_if_eq (q := 15) (r := 34) rfl rfl rfl (fun c_12 => ?_) (fun c_12 => ?_)
    · refine gd_iconst (v := 0) (q := 35) rfl rfl rfl ?_
      exact gd_ireturn rfl rfl rfl (Nat.le_refl 0) (Nat.le_refl 0) rfl
    · refine gd_iload_n (q := 16) rfl rfl rfl ?_
      refine gd_cSi (q := 19) rfl rfl lk10_277 myX10_isFour sxX10_isFour (ct_X10_isFour f _ _ _ hG _) rfl rfl (Nat.le_of_ble_eq_true rfl) ⟨(Nat.le_of_ble_eq_true rfl), (Nat.le_of_ble_eq_true rfl)⟩ ?_
      refine gy_if_eq (q := 22) (r := 34) rfl rfl rfl (fun c_19 => ?_) (fun c_19 => ?_)
      · refine gd_iconst (v := 0) (q := 35) rfl rfl rfl ?_
        exact gd_ireturn rfl rfl rfl (Nat.le_refl 0) (Nat.le_refl 0) rfl
      · refine gd_iload (q := 24) rfl rfl rfl ?_
        refine gd_cSi (q := 27) rfl rfl lk10_277 myX10_isFour sxX10_isFour (ct_X10_isFour f _ _ _ hG _) rfl rfl (Nat.le_of_ble_eq_true rfl) ⟨(Nat.le_of_ble_eq_true rfl), (Nat.le_of_ble_eq_true rfl)⟩ ?_
        refine gy_if_eq (q := 30) (r := 34) rfl rfl rfl (fun c_27 => ?_) (fun c_27 => ?_)
        · refine gd_iconst (v := 0) (q := 35) rfl rfl rfl ?_
          exact gd_ireturn rfl rfl rfl (Nat.le_refl 0) (Nat.le_refl 0) rfl
        · refine gd_iconst (v := 1) (q := 31) rfl rfl rfl ?_
          refine gd_goto (q := 35) rfl rfl ?_
          exact gd_ireturn rfl rfl rfl (Nat.le_refl 0) (Nat.le_refl 0) rfl
theorem ct_X10_isAsked (f : Nat) (I : am_I) (J : am_J) (Q : am_Q) (hG : Gr Q) (a1 : Int32) (a2 : Int32) (a3 : Int32) (a4 : Int32) : Cm MX10_isAsked 1 0 0 92 [.ref 46, .int a1, .int a2, .int a3, .int a4] I J Q (am_Fi I J Q (s_X10_isAsked I a1 a2 a3 a4)) := cm_of (by decide) rfl IX10_isAsked_ok (Nat.le_of_ble_eq_true rfl) (gt_X10_isAsked f I J Q hG a1 a2 a3 a4)
def s_X10_asks_J87 (a1 : Int32) (a2 : Int32) (a3 : Int32) (a4 : Int32)  (v5 : Int32) (t0 : Int32) (t1 : Int32) (I : am_I) : am_I := (if (I 78 a1.toNatClampNeg) = v5 then (am_w (am_w (am_w (am_w (am_w I 83 t0.toNatClampNeg t1) 83 (4 : Int32).toNatClampNeg a1) 83 (5 : Int32).toNatClampNeg (I 78 a1.toNatClampNeg)) 83 (6 : Int32).toNatClampNeg 1) 46 59 (I 70 (I 77 a1.toNatClampNeg).toNatClampNeg)) else (am_w (am_w (am_w (am_w (am_w I 83 t0.toNatClampNeg t1) 83 (4 : Int32).toNatClampNeg a1) 83 (5 : Int32).toNatClampNeg (I 78 a1.toNatClampNeg)) 83 (6 : Int32).toNatClampNeg 0) 46 59 (I 70 (I 77 a1.toNatClampNeg).toNatClampNeg)))
def p_X10_asks_J87 (a1 : Int32) (a2 : Int32) (a3 : Int32) (a4 : Int32)  (v5 : Int32) (t0 : Int32) (t1 : Int32) (I : am_I) : Prop := (vp_in t0 7 ∧ (vp_in a1 30 ∧ (vp_in a1 30 ∧ (if (I 78 a1.toNatClampNeg) = v5 then (vp_in a1 30 ∧ vp_in (I 77 a1.toNatClampNeg) 12) else (vp_in a1 30 ∧ vp_in (I 77 a1.toNatClampNeg) 12)))))
def s_X10_asks (I : am_I) (a1 : Int32) (a2 : Int32) (a3 : Int32) (a4 : Int32) : am_I := (if (I 69 (I 71 (I 74 a1.toNatClampNeg).toNatClampNeg).toNatClampNeg) = (-1) then (s_X10_asks_J87 a1 a2 a3 a4 (I 71 (I 74 a1.toNatClampNeg).toNatClampNeg) 3 (-1) (am_w (am_w (am_w I 83 (0 : Int32).toNatClampNeg a3) 83 (1 : Int32).toNatClampNeg a4) 83 (2 : Int32).toNatClampNeg (a2 - (I 72 (I 74 a1.toNatClampNeg).toNatClampNeg)))) else (if (I 69 (I 71 (I 74 a1.toNatClampNeg).toNatClampNeg).toNatClampNeg) ≤ a2 then (s_X10_asks_J87 a1 a2 a3 a4 (I 71 (I 74 a1.toNatClampNeg).toNatClampNeg) 3 (a2 - (I 69 (I 71 (I 74 a1.toNatClampNeg).toNatClampNeg).toNatClampNeg)) (am_w (am_w (am_w I 83 (0 : Int32).toNatClampNeg a3) 83 (1 : Int32).toNatClampNeg a4) 83 (2 : Int32).toNatClampNeg (a2 - (I 72 (I 74 a1.toNatClampNeg).toNatClampNeg)))) else (s_X10_asks_J87 a1 a2 a3 a4 (I 71 (I 74 a1.toNatClampNeg).toNatClampNeg) 3 (-1) (am_w (am_w (am_w I 83 (0 : Int32).toNatClampNeg a3) 83 (1 : Int32).toNatClampNeg a4) 83 (2 : Int32).toNatClampNeg (a2 - (I 72 (I 74 a1.toNatClampNeg).toNatClampNeg))))))
def p_X10_asks (I : am_I) (a1 : Int32) (a2 : Int32) (a3 : Int32) (a4 : Int32) : Prop := (vp_in a1 30 ∧ (vp_in (I 74 a1.toNatClampNeg) 6 ∧ (vp_in a1 30 ∧ (vp_in (I 74 a1.toNatClampNeg) 6 ∧ (vp_in (I 71 (I 74 a1.toNatClampNeg).toNatClampNeg) 12 ∧ (if (I 69 (I 71 (I 74 a1.toNatClampNeg).toNatClampNeg).toNatClampNeg) = (-1) then (p_X10_asks_J87 a1 a2 a3 a4 (I 71 (I 74 a1.toNatClampNeg).toNatClampNeg) 3 (-1) (am_w (am_w (am_w I 83 (0 : Int32).toNatClampNeg a3) 83 (1 : Int32).toNatClampNeg a4) 83 (2 : Int32).toNatClampNeg (a2 - (I 72 (I 74 a1.toNatClampNeg).toNatClampNeg)))) else (vp_in (I 71 (I 74 a1.toNatClampNeg).toNatClampNeg) 12 ∧ (if (I 69 (I 71 (I 74 a1.toNatClampNeg).toNatClampNeg).toNatClampNeg) ≤ a2 then (vp_in (I 71 (I 74 a1.toNatClampNeg).toNatClampNeg) 12 ∧ (p_X10_asks_J87 a1 a2 a3 a4 (I 71 (I 74 a1.toNatClampNeg).toNatClampNeg) 3 (a2 - (I 69 (I 71 (I 74 a1.toNatClampNeg).toNatClampNeg).toNatClampNeg)) (am_w (am_w (am_w I 83 (0 : Int32).toNatClampNeg a3) 83 (1 : Int32).toNatClampNeg a4) 83 (2 : Int32).toNatClampNeg (a2 - (I 72 (I 74 a1.toNatClampNeg).toNatClampNeg))))) else (p_X10_asks_J87 a1 a2 a3 a4 (I 71 (I 74 a1.toNatClampNeg).toNatClampNeg) 3 (-1) (am_w (am_w (am_w I 83 (0 : Int32).toNatClampNeg a3) 83 (1 : Int32).toNatClampNeg a4) 83 (2 : Int32).toNatClampNeg (a2 - (I 72 (I 74 a1.toNatClampNeg).toNatClampNeg))))))))))))
set_option maxRecDepth 100000 in
set_option maxHeartbeats 4000000 in
theorem gl_X10_asks_87 (a1 : Int32) (a2 : Int32) (a3 : Int32) (a4 : Int32) (f : Nat) (J : am_J) (Q : am_Q) (hG : Gr Q) (v5 : Int32) (t0 : Int32) (t1 : Int32) (I : am_I) : p_X10_asks_J87 a1 a2 a3 a4 v5 t0 t1 I → Gd MX10_asks (am_o 0 0 0 (am_FvI J Q (s_X10_asks_J87 a1 a2 a3 a4 v5 t0 t1 I))) 0 0 92 87 [some (.ref 46), some (.int a1), none, none, none, some (.int v5)] [.int t1, .int t0, .ref 83] I J Q := by
  intro hp
  unfold s_X10_asks_J87
  unfold p_X10_asks_J87 at hp
  refine gd_iast (q := 88) rfl rfl (Nat.le_of_ble_eq_true rfl) rfl hp.1 ?_
  replace hp := hp.2
  refine gd_aload_n (q := 89) rfl rfl rfl ?_
  refine gd_getR (q := 92) (r := 83) rfl rfl rfl (Nat.le_of_ble_eq_true rfl) rfl rfl (gr_46_57 hG) ?_
  refine gd_iconst (v := 4) (q := 93) rfl rfl rfl ?_
  refine gd_iload_n (q := 94) rfl rfl rfl ?_
  refine gd_iast (q := 95) rfl rfl (Nat.le_of_ble_eq_true rfl) rfl (by unfold vp_in; decide) ?_
  refine gd_aload_n (q := 96) rfl rfl rfl ?_
  refine gd_getR (q := 99) (r := 83) rfl rfl rfl (Nat.le_of_ble_eq_true rfl) rfl rfl (gr_46_57 hG) ?_
  refine gd_iconst (v := 5) (q := 100) rfl rfl rfl ?_
  refine gd_aload_n (q := 101) rfl rfl rfl ?_
  refine gd_getR (q := 104) (r := 78) rfl rfl rfl (Nat.le_of_ble_eq_true rfl) rfl rfl (gr_46_49 hG) ?_
  refine gd_iload_n (q := 105) rfl rfl rfl ?_
  refine gd_iald (q := 106) rfl rfl (Nat.le_of_ble_eq_true rfl) rfl hp.1 ?_
  replace hp := hp.2
  refine gd_iast (q := 107) rfl rfl (Nat.le_of_ble_eq_true rfl) rfl (by unfold vp_in; decide) ?_
  refine gd_aload_n (q := 108) rfl rfl rfl ?_
  refine gd_getR (q := 111) (r := 83) rfl rfl rfl (Nat.le_of_ble_eq_true rfl) rfl rfl (gr_46_57 hG) ?_
  refine gd_bipush (v := 6) (q := 113) rfl rfl rfl ?_
  refine gd_aload_n (q := 114) rfl rfl rfl ?_
  refine gd_getR (q := 117) (r := 78) rfl rfl rfl (Nat.le_of_ble_eq_true rfl) rfl rfl (gr_46_49 hG) ?_
  refine gd_iload_n (q := 118) rfl rfl rfl ?_
  refine gd_iald (q := 119) rfl rfl (Nat.le_of_ble_eq_true rfl) rfl hp.1 ?_
  replace hp := hp.2
  refine gd_iload (q := 121) rfl rfl rfl ?_
  refine gx_icmp_ne (q := 124) (r := 128) rfl rfl rfl hp (fun c_121 hp => ?_) (fun c_121 hp => ?_)
  · refine gd_iconst (v := 1) (q := 125) rfl rfl rfl ?_
    refine gd_goto (q := 129) rfl rfl ?_
    refine gd_iast (q := 130) rfl rfl (Nat.le_of_ble_eq_true rfl) rfl (by unfold vp_in; decide) ?_
    refine gd_aload_n (q := 131) rfl rfl rfl ?_
    refine gd_aload_n (q := 132) rfl rfl rfl ?_
    refine gd_getR (q := 135) (r := 70) rfl rfl rfl (Nat.le_of_ble_eq_true rfl) rfl rfl (gr_46_39 hG) ?_
    refine gd_aload_n (q := 136) rfl rfl rfl ?_
    refine gd_getR (q := 139) (r := 77) rfl rfl rfl (Nat.le_of_ble_eq_true rfl) rfl rfl (gr_46_48 hG) ?_
    refine gd_iload_n (q := 140) rfl rfl rfl ?_
    refine gd_iald (q := 141) rfl rfl (Nat.le_of_ble_eq_true rfl) rfl hp.1 ?_
    replace hp := hp.2
    refine gd_iald (q := 142) rfl rfl (Nat.le_of_ble_eq_true rfl) rfl hp ?_
    refine gd_putI (q := 145) rfl rfl rfl (Nat.le_of_ble_eq_true rfl) rfl rfl rfl (Or.inl rfl) ?_
    exact gd_return rfl rfl (Nat.le_refl 0) (Nat.le_refl 0) rfl
  · refine gd_iconst (v := 0) (q := 129) rfl rfl rfl ?_
    refine gd_iast (q := 130) rfl rfl (Nat.le_of_ble_eq_true rfl) rfl (by unfold vp_in; decide) ?_
    refine gd_aload_n (q := 131) rfl rfl rfl ?_
    refine gd_aload_n (q := 132) rfl rfl rfl ?_
    refine gd_getR (q := 135) (r := 70) rfl rfl rfl (Nat.le_of_ble_eq_true rfl) rfl rfl (gr_46_39 hG) ?_
    refine gd_aload_n (q := 136) rfl rfl rfl ?_
    refine gd_getR (q := 139) (r := 77) rfl rfl rfl (Nat.le_of_ble_eq_true rfl) rfl rfl (gr_46_48 hG) ?_
    refine gd_iload_n (q := 140) rfl rfl rfl ?_
    refine gd_iald (q := 141) rfl rfl (Nat.le_of_ble_eq_true rfl) rfl hp.1 ?_
    replace hp := hp.2
    refine gd_iald (q := 142) rfl rfl (Nat.le_of_ble_eq_true rfl) rfl hp ?_
    refine gd_putI (q := 145) rfl rfl rfl (Nat.le_of_ble_eq_true rfl) rfl rfl rfl (Or.inl rfl) ?_
    exact gd_return rfl rfl (Nat.le_refl 0) (Nat.le_refl 0) rfl
set_option maxRecDepth 100000 in
set_option maxHeartbeats 4000000 in
theorem gt_X10_asks (f : Nat) (I : am_I) (J : am_J) (Q : am_Q) (hG : Gr Q) (a1 : Int32) (a2 : Int32) (a3 : Int32) (a4 : Int32) (hp : p_X10_asks I a1 a2 a3 a4) : Gd MX10_asks (am_o 0 0 0 (am_FvI J Q (s_X10_asks I a1 a2 a3 a4))) 0 0 92 0 [some (.ref 46), some (.int a1), some (.int a2), some (.int a3), some (.int a4), none] [] I J Q := by
  unfold s_X10_asks
  unfold p_X10_asks at hp
  refine gd_aload_n (q := 1) rfl rfl rfl ?_
  refine gd_getR (q := 4) (r := 71) rfl rfl rfl (Nat.le_of_ble_eq_true rfl) rfl rfl (gr_46_41 hG) ?_
  refine gd_aload_n (q := 5) rfl rfl rfl ?_
  refine gd_getR (q := 8) (r := 74) rfl rfl rfl (Nat.le_of_ble_eq_true rfl) rfl rfl (gr_46_45 hG) ?_
  refine gd_iload_n (q := 9) rfl rfl rfl ?_
  refine gd_iald (q := 10) rfl rfl (Nat.le_of_ble_eq_true rfl) rfl hp.1 ?_
  replace hp := hp.2
  refine gd_iald (q := 11) rfl rfl (Nat.le_of_ble_eq_true rfl) rfl hp.1 ?_
  replace hp := hp.2
  refine gd_istore (q := 13) rfl rfl (Nat.le_of_ble_eq_true rfl) rfl ?_
  refine gd_aload_n (q := 14) rfl rfl rfl ?_
  refine gd_getR (q := 17) (r := 83) rfl rfl rfl (Nat.le_of_ble_eq_true rfl) rfl rfl (gr_46_57 hG) ?_
  refine gd_iconst (v := 0) (q := 18) rfl rfl rfl ?_
  refine gd_iload_n (q := 19) rfl rfl rfl ?_
  refine gd_iast (q := 20) rfl rfl (Nat.le_of_ble_eq_true rfl) rfl (by unfold vp_in; decide) ?_
  refine gd_aload_n (q := 21) rfl rfl rfl ?_
  refine gd_getR (q := 24) (r := 83) rfl rfl rfl (Nat.le_of_ble_eq_true rfl) rfl rfl (gr_46_57 hG) ?_
  refine gd_iconst (v := 1) (q := 25) rfl rfl rfl ?_
  refine gd_iload (q := 27) rfl rfl rfl ?_
  refine gd_iast (q := 28) rfl rfl (Nat.le_of_ble_eq_true rfl) rfl (by unfold vp_in; decide) ?_
  refine gd_aload_n (q := 29) rfl rfl rfl ?_
  refine gd_getR (q := 32) (r := 83) rfl rfl rfl (Nat.le_of_ble_eq_true rfl) rfl rfl (gr_46_57 hG) ?_
  refine gd_iconst (v := 2) (q := 33) rfl rfl rfl ?_
  refine gd_iload_n (q := 34) rfl rfl rfl ?_
  refine gd_aload_n (q := 35) rfl rfl rfl ?_
  refine gd_getR (q := 38) (r := 72) rfl rfl rfl (Nat.le_of_ble_eq_true rfl) rfl rfl (gr_46_42 hG) ?_
  refine gd_aload_n (q := 39) rfl rfl rfl ?_
  refine gd_getR (q := 42) (r := 74) rfl rfl rfl (Nat.le_of_ble_eq_true rfl) rfl rfl (gr_46_45 hG) ?_
  refine gd_iload_n (q := 43) rfl rfl rfl ?_
  refine gd_iald (q := 44) rfl rfl (Nat.le_of_ble_eq_true rfl) rfl hp.1 ?_
  replace hp := hp.2
  refine gd_iald (q := 45) rfl rfl (Nat.le_of_ble_eq_true rfl) rfl hp.1 ?_
  replace hp := hp.2
  refine gd_isub (q := 46) rfl rfl ?_
  refine gd_iast (q := 47) rfl rfl (Nat.le_of_ble_eq_true rfl) rfl (by unfold vp_in; decide) ?_
  refine gd_aload_n (q := 48) rfl rfl rfl ?_
  refine gd_getR (q := 51) (r := 83) rfl rfl rfl (Nat.le_of_ble_eq_true rfl) rfl rfl (gr_46_57 hG) ?_
  refine gd_iconst (v := 3) (q := 52) rfl rfl rfl ?_
  refine gd_aload_n (q := 53) rfl rfl rfl ?_
  refine gd_getR (q := 56) (r := 69) rfl rfl rfl (Nat.le_of_ble_eq_true rfl) rfl rfl (gr_46_37 hG) ?_
  refine gd_iload (q := 58) rfl rfl rfl ?_
  refine gd_iald (q := 59) rfl rfl (Nat.le_of_ble_eq_true rfl) rfl hp.1 ?_
  replace hp := hp.2
  refine gd_iconst (v := (-1)) (q := 60) rfl rfl rfl ?_
  refine gx_icmp_eq (q := 63) (r := 74) rfl rfl rfl hp (fun c_60 hp => ?_) (fun c_60 hp => ?_)
  · refine gd_iconst (v := (-1)) (q := 75) rfl rfl rfl ?_
    refine gd_goto (q := 87) rfl rfl ?_
    refine gd_drop 2 ?_
    refine gd_drop 3 ?_
    refine gd_drop 4 ?_
    exact gl_X10_asks_87 a1 a2 a3 a4 f J Q hG _ _ _ _ hp
  · refine gd_iload_n (q := 64) rfl rfl rfl ?_
    refine gd_aload_n (q := 65) rfl rfl rfl ?_
    refine gd_getR (q := 68) (r := 69) rfl rfl rfl (Nat.le_of_ble_eq_true rfl) rfl rfl (gr_46_37 hG) ?_
    refine gd_iload (q := 70) rfl rfl rfl ?_
    refine gd_iald (q := 71) rfl rfl (Nat.le_of_ble_eq_true rfl) rfl hp.1 ?_
    replace hp := hp.2
    refine gx_icmp_ge (q := 74) (r := 78) rfl rfl rfl hp (fun c_71 hp => ?_) (fun c_71 hp => ?_)
    · refine gd_iload_n (q := 79) rfl rfl rfl ?_
      refine gd_aload_n (q := 80) rfl rfl rfl ?_
      refine gd_getR (q := 83) (r := 69) rfl rfl rfl (Nat.le_of_ble_eq_true rfl) rfl rfl (gr_46_37 hG) ?_
      refine gd_iload (q := 85) rfl rfl rfl ?_
      refine gd_iald (q := 86) rfl rfl (Nat.le_of_ble_eq_true rfl) rfl hp.1 ?_
      replace hp := hp.2
      refine gd_isub (q := 87) rfl rfl ?_
      refine gd_drop 2 ?_
      refine gd_drop 3 ?_
      refine gd_drop 4 ?_
      exact gl_X10_asks_87 a1 a2 a3 a4 f J Q hG _ _ _ _ hp
    · refine gd_iconst (v := (-1)) (q := 75) rfl rfl rfl ?_
      refine gd_goto (q := 87) rfl rfl ?_
      refine gd_drop 2 ?_
      refine gd_drop 3 ?_
      refine gd_drop 4 ?_
      exact gl_X10_asks_87 a1 a2 a3 a4 f J Q hG _ _ _ _ hp
theorem ct_X10_asks (f : Nat) (I : am_I) (J : am_J) (Q : am_Q) (hG : Gr Q) (a1 : Int32) (a2 : Int32) (a3 : Int32) (a4 : Int32) (hp : p_X10_asks I a1 a2 a3 a4) : Cm MX10_asks 0 0 0 92 [.ref 46, .int a1, .int a2, .int a3, .int a4] I J Q (am_FvI J Q (s_X10_asks I a1 a2 a3 a4)) := cm_of (by decide) rfl IX10_asks_ok (Nat.le_of_ble_eq_true rfl) (gt_X10_asks f I J Q hG a1 a2 a3 a4 hp)
def s_X10_value_L5 (a1 : Int32) (a2 : Int32)  : Nat → Int32 → Int32 → am_I → Int32 × am_I
  | 0, _, _, I => (0, I)
  | g + 1, v3, v4, I => (if a2 ≤ v4 then ((I 84 (0 : Int32).toNatClampNeg), I) else (if 2 ≤ (I 65 v4.toNatClampNeg) then (if (I 65 v4.toNatClampNeg) = 2 then (s_X10_value_L5 a1 a2 g (v3 + (-1)) (v4 + 1) (am_w I 84 ((v3 + (-1)) - 1).toNatClampNeg ((I 84 ((v3 + (-1)) - 1).toNatClampNeg) + (I 84 (v3 + (-1)).toNatClampNeg)))) else (if (I 65 v4.toNatClampNeg) = 3 then (s_X10_value_L5 a1 a2 g (v3 + (-1)) (v4 + 1) (am_w I 84 ((v3 + (-1)) - 1).toNatClampNeg ((I 84 ((v3 + (-1)) - 1).toNatClampNeg) - (I 84 (v3 + (-1)).toNatClampNeg)))) else (s_X10_value_L5 a1 a2 g (v3 + (-1)) (v4 + 1) (am_w I 84 ((v3 + (-1)) - 1).toNatClampNeg ((I 84 ((v3 + (-1)) - 1).toNatClampNeg) * (I 84 (v3 + (-1)).toNatClampNeg)))))) else (if (I 65 v4.toNatClampNeg) = 0 then (s_X10_value_L5 a1 a2 g (v3 + 1) (v4 + 1) (am_w I 84 v3.toNatClampNeg (I 66 v4.toNatClampNeg))) else (s_X10_value_L5 a1 a2 g (v3 + 1) (v4 + 1) (am_w I 84 v3.toNatClampNeg (I 83 (I 66 v4.toNatClampNeg).toNatClampNeg))))))
def p_X10_value_L5 (a1 : Int32) (a2 : Int32)  : Nat → Int32 → Int32 → am_I → Prop
  | 0, _, _, _ => False
  | g + 1, v3, v4, I => (if a2 ≤ v4 then True else (vp_in v4 12000 ∧ (if 2 ≤ (I 65 v4.toNatClampNeg) then (vp_in ((v3 + (-1)) - 1) 500 ∧ (vp_in (v3 + (-1)) 500 ∧ (vp_in v4 12000 ∧ (if (I 65 v4.toNatClampNeg) = 2 then (vp_in ((v3 + (-1)) - 1) 500 ∧ (p_X10_value_L5 a1 a2 g (v3 + (-1)) (v4 + 1) (am_w I 84 ((v3 + (-1)) - 1).toNatClampNeg ((I 84 ((v3 + (-1)) - 1).toNatClampNeg) + (I 84 (v3 + (-1)).toNatClampNeg))))) else (vp_in v4 12000 ∧ (if (I 65 v4.toNatClampNeg) = 3 then (vp_in ((v3 + (-1)) - 1) 500 ∧ (p_X10_value_L5 a1 a2 g (v3 + (-1)) (v4 + 1) (am_w I 84 ((v3 + (-1)) - 1).toNatClampNeg ((I 84 ((v3 + (-1)) - 1).toNatClampNeg) - (I 84 (v3 + (-1)).toNatClampNeg))))) else (vp_in ((v3 + (-1)) - 1) 500 ∧ (p_X10_value_L5 a1 a2 g (v3 + (-1)) (v4 + 1) (am_w I 84 ((v3 + (-1)) - 1).toNatClampNeg ((I 84 ((v3 + (-1)) - 1).toNatClampNeg) * (I 84 (v3 + (-1)).toNatClampNeg))))))))))) else (vp_in v4 12000 ∧ (if (I 65 v4.toNatClampNeg) = 0 then (vp_in v4 12000 ∧ (vp_in v3 500 ∧ (p_X10_value_L5 a1 a2 g (v3 + 1) (v4 + 1) (am_w I 84 v3.toNatClampNeg (I 66 v4.toNatClampNeg))))) else (vp_in v4 12000 ∧ (vp_in (I 66 v4.toNatClampNeg) 7 ∧ (vp_in v3 500 ∧ (p_X10_value_L5 a1 a2 g (v3 + 1) (v4 + 1) (am_w I 84 v3.toNatClampNeg (I 83 (I 66 v4.toNatClampNeg).toNatClampNeg)))))))))))
def s_X10_value (f : Nat) (I : am_I) (a1 : Int32) (a2 : Int32) : Int32 × am_I := (s_X10_value_L5 a1 a2 f 0 a1 I)
def p_X10_value (f : Nat) (I : am_I) (a1 : Int32) (a2 : Int32) : Prop := (p_X10_value_L5 a1 a2 f 0 a1 I)
set_option maxRecDepth 100000 in
set_option maxHeartbeats 4000000 in
theorem gl_X10_value_L5 (a1 : Int32) (a2 : Int32) (f : Nat) (J : am_J) (Q : am_Q) (hG : Gr Q) : ∀ g : Nat, (∀ (v3 : Int32) (v4 : Int32) (I : am_I), p_X10_value_L5 a1 a2 g v3 v4 I → Gd MX10_value (am_o 0 0 0 (am_FiI J Q (s_X10_value_L5 a1 a2 g v3 v4 I))) 0 0 92 5 [some (.ref 46), none, some (.int a2), some (.int v3), some (.int v4), none, none] [] I J Q) := by
  intro g
  induction g with
  | zero => exact fun _ _ _ hp => False.elim hp
  | succ g ih =>
    have ih_5 := ih
    intro v3 v4 I hp
    rw [s_X10_value_L5]
    rw [p_X10_value_L5] at hp
    refine gd_iload (q := 7) rfl rfl rfl ?_
    refine gd_iload_n (q := 8) rfl rfl rfl ?_
    refine gx_icmp_ge (q := 11) (r := 144) rfl rfl rfl hp (fun c_8 hp => ?_) (fun c_8 hp => ?_)
    · refine gd_aload_n (q := 145) rfl rfl rfl ?_
      refine gd_getR (q := 148) (r := 84) rfl rfl rfl (Nat.le_of_ble_eq_true rfl) rfl rfl (gr_46_58 hG) ?_
      refine gd_iconst (v := 0) (q := 149) rfl rfl rfl ?_
      refine gd_iald (q := 150) rfl rfl (Nat.le_of_ble_eq_true rfl) rfl (by unfold vp_in; decide) ?_
      exact gd_ireturn rfl rfl rfl (Nat.le_refl 0) (Nat.le_refl 0) rfl
    · refine gd_aload_n (q := 12) rfl rfl rfl ?_
      refine gd_getR (q := 15) (r := 65) rfl rfl rfl (Nat.le_of_ble_eq_true rfl) rfl rfl (gr_46_31 hG) ?_
      refine gd_iload (q := 17) rfl rfl rfl ?_
      refine gd_iald (q := 18) rfl rfl (Nat.le_of_ble_eq_true rfl) rfl hp.1 ?_
      replace hp := hp.2
      refine gd_iconst (v := 2) (q := 19) rfl rfl rfl ?_
      refine gx_icmp_ge (q := 22) (r := 66) rfl rfl rfl hp (fun c_19 hp => ?_) (fun c_19 hp => ?_)
      · refine gd_iinc (v := (v3 + (-1))) (q := 69) rfl rfl rfl rfl (Nat.le_of_ble_eq_true rfl) rfl ?_
        refine gd_aload_n (q := 70) rfl rfl rfl ?_
        refine gd_getR (q := 73) (r := 84) rfl rfl rfl (Nat.le_of_ble_eq_true rfl) rfl rfl (gr_46_58 hG) ?_
        refine gd_iload_n (q := 74) rfl rfl rfl ?_
        refine gd_iconst (v := 1) (q := 75) rfl rfl rfl ?_
        refine gd_isub (q := 76) rfl rfl ?_
        refine gd_iald (q := 77) rfl rfl (Nat.le_of_ble_eq_true rfl) rfl hp.1 ?_
        replace hp := hp.2
        refine gd_istore (q := 79) rfl rfl (Nat.le_of_ble_eq_true rfl) rfl ?_
        refine gd_aload_n (q := 80) rfl rfl rfl ?_
        refine gd_getR (q := 83) (r := 84) rfl rfl rfl (Nat.le_of_ble_eq_true rfl) rfl rfl (gr_46_58 hG) ?_
        refine gd_iload_n (q := 84) rfl rfl rfl ?_
        refine gd_iald (q := 85) rfl rfl (Nat.le_of_ble_eq_true rfl) rfl hp.1 ?_
        replace hp := hp.2
        refine gd_istore (q := 87) rfl rfl (Nat.le_of_ble_eq_true rfl) rfl ?_
        refine gd_aload_n (q := 88) rfl rfl rfl ?_
        refine gd_getR (q := 91) (r := 84) rfl rfl rfl (Nat.le_of_ble_eq_true rfl) rfl rfl (gr_46_58 hG) ?_
        refine gd_iload_n (q := 92) rfl rfl rfl ?_
        refine gd_iconst (v := 1) (q := 93) rfl rfl rfl ?_
        refine gd_isub (q := 94) rfl rfl ?_
        refine gd_aload_n (q := 95) rfl rfl rfl ?_
        refine gd_getR (q := 98) (r := 65) rfl rfl rfl (Nat.le_of_ble_eq_true rfl) rfl rfl (gr_46_31 hG) ?_
        refine gd_iload (q := 100) rfl rfl rfl ?_
        refine gd_iald (q := 101) rfl rfl (Nat.le_of_ble_eq_true rfl) rfl hp.1 ?_
        replace hp := hp.2
        refine gd_iconst (v := 2) (q := 102) rfl rfl rfl ?_
        refine gx_icmp_ne (q := 105) (r := 113) rfl rfl rfl hp (fun c_102 hp => ?_) (fun c_102 hp => ?_)
        · refine gd_iload (q := 107) rfl rfl rfl ?_
          refine gd_iload (q := 109) rfl rfl rfl ?_
          refine gd_iadd (q := 110) rfl rfl ?_
          refine gd_goto (q := 137) rfl rfl ?_
          refine gd_iast (q := 138) rfl rfl (Nat.le_of_ble_eq_true rfl) rfl hp.1 ?_
          replace hp := hp.2
          refine gd_iinc (v := (v4 + 1)) (q := 141) rfl rfl rfl rfl (Nat.le_of_ble_eq_true rfl) rfl ?_
          refine gd_goto (q := 5) rfl rfl ?_
          refine gd_drop 5 ?_
          refine gd_drop 6 ?_
          exact ih_5 _ _ _ hp
        · refine gd_aload_n (q := 114) rfl rfl rfl ?_
          refine gd_getR (q := 117) (r := 65) rfl rfl rfl (Nat.le_of_ble_eq_true rfl) rfl rfl (gr_46_31 hG) ?_
          refine gd_iload (q := 119) rfl rfl rfl ?_
          refine gd_iald (q := 120) rfl rfl (Nat.le_of_ble_eq_true rfl) rfl hp.1 ?_
          replace hp := hp.2
          refine gd_iconst (v := 3) (q := 121) rfl rfl rfl ?_
          refine gx_icmp_ne (q := 124) (r := 132) rfl rfl rfl hp (fun c_121 hp => ?_) (fun c_121 hp => ?_)
          · refine gd_iload (q := 126) rfl rfl rfl ?_
            refine gd_iload (q := 128) rfl rfl rfl ?_
            refine gd_isub (q := 129) rfl rfl ?_
            refine gd_goto (q := 137) rfl rfl ?_
            refine gd_iast (q := 138) rfl rfl (Nat.le_of_ble_eq_true rfl) rfl hp.1 ?_
            replace hp := hp.2
            refine gd_iinc (v := (v4 + 1)) (q := 141) rfl rfl rfl rfl (Nat.le_of_ble_eq_true rfl) rfl ?_
            refine gd_goto (q := 5) rfl rfl ?_
            refine gd_drop 5 ?_
            refine gd_drop 6 ?_
            exact ih_5 _ _ _ hp
          · refine gd_iload (q := 134) rfl rfl rfl ?_
            refine gd_iload (q := 136) rfl rfl rfl ?_
            refine gd_imul (q := 137) rfl rfl ?_
            refine gd_iast (q := 138) rfl rfl (Nat.le_of_ble_eq_true rfl) rfl hp.1 ?_
            replace hp := hp.2
            refine gd_iinc (v := (v4 + 1)) (q := 141) rfl rfl rfl rfl (Nat.le_of_ble_eq_true rfl) rfl ?_
            refine gd_goto (q := 5) rfl rfl ?_
            refine gd_drop 5 ?_
            refine gd_drop 6 ?_
            exact ih_5 _ _ _ hp
      · refine gd_aload_n (q := 23) rfl rfl rfl ?_
        refine gd_getR (q := 26) (r := 84) rfl rfl rfl (Nat.le_of_ble_eq_true rfl) rfl rfl (gr_46_58 hG) ?_
        refine gd_iload_n (q := 27) rfl rfl rfl ?_
        refine gd_aload_n (q := 28) rfl rfl rfl ?_
        refine gd_getR (q := 31) (r := 65) rfl rfl rfl (Nat.le_of_ble_eq_true rfl) rfl rfl (gr_46_31 hG) ?_
        refine gd_iload (q := 33) rfl rfl rfl ?_
        refine gd_iald (q := 34) rfl rfl (Nat.le_of_ble_eq_true rfl) rfl hp.1 ?_
        replace hp := hp.2
        refine gx_if_ne (q := 37) (r := 47) rfl rfl rfl hp (fun c_34 hp => ?_) (fun c_34 hp => ?_)
        · refine gd_aload_n (q := 38) rfl rfl rfl ?_
          refine gd_getR (q := 41) (r := 66) rfl rfl rfl (Nat.le_of_ble_eq_true rfl) rfl rfl (gr_46_32 hG) ?_
          refine gd_iload (q := 43) rfl rfl rfl ?_
          refine gd_iald (q := 44) rfl rfl (Nat.le_of_ble_eq_true rfl) rfl hp.1 ?_
          replace hp := hp.2
          refine gd_goto (q := 59) rfl rfl ?_
          refine gd_iast (q := 60) rfl rfl (Nat.le_of_ble_eq_true rfl) rfl hp.1 ?_
          replace hp := hp.2
          refine gd_iinc (v := (v3 + 1)) (q := 63) rfl rfl rfl rfl (Nat.le_of_ble_eq_true rfl) rfl ?_
          refine gd_goto (q := 138) rfl rfl ?_
          refine gd_iinc (v := (v4 + 1)) (q := 141) rfl rfl rfl rfl (Nat.le_of_ble_eq_true rfl) rfl ?_
          refine gd_goto (q := 5) rfl rfl ?_
          exact ih_5 _ _ _ hp
        · refine gd_aload_n (q := 48) rfl rfl rfl ?_
          refine gd_getR (q := 51) (r := 83) rfl rfl rfl (Nat.le_of_ble_eq_true rfl) rfl rfl (gr_46_57 hG) ?_
          refine gd_aload_n (q := 52) rfl rfl rfl ?_
          refine gd_getR (q := 55) (r := 66) rfl rfl rfl (Nat.le_of_ble_eq_true rfl) rfl rfl (gr_46_32 hG) ?_
          refine gd_iload (q := 57) rfl rfl rfl ?_
          refine gd_iald (q := 58) rfl rfl (Nat.le_of_ble_eq_true rfl) rfl hp.1 ?_
          replace hp := hp.2
          refine gd_iald (q := 59) rfl rfl (Nat.le_of_ble_eq_true rfl) rfl hp.1 ?_
          replace hp := hp.2
          refine gd_iast (q := 60) rfl rfl (Nat.le_of_ble_eq_true rfl) rfl hp.1 ?_
          replace hp := hp.2
          refine gd_iinc (v := (v3 + 1)) (q := 63) rfl rfl rfl rfl (Nat.le_of_ble_eq_true rfl) rfl ?_
          refine gd_goto (q := 138) rfl rfl ?_
          refine gd_iinc (v := (v4 + 1)) (q := 141) rfl rfl rfl rfl (Nat.le_of_ble_eq_true rfl) rfl ?_
          refine gd_goto (q := 5) rfl rfl ?_
          exact ih_5 _ _ _ hp
theorem gl_X10_value_5 (a1 : Int32) (a2 : Int32) (f : Nat) (J : am_J) (Q : am_Q) (hG : Gr Q) (g : Nat) : ∀ (v3 : Int32) (v4 : Int32) (I : am_I), p_X10_value_L5 a1 a2 g v3 v4 I → Gd MX10_value (am_o 0 0 0 (am_FiI J Q (s_X10_value_L5 a1 a2 g v3 v4 I))) 0 0 92 5 [some (.ref 46), none, some (.int a2), some (.int v3), some (.int v4), none, none] [] I J Q := (gl_X10_value_L5 a1 a2 f J Q hG g)
set_option maxRecDepth 100000 in
set_option maxHeartbeats 4000000 in
theorem gt_X10_value (f : Nat) (I : am_I) (J : am_J) (Q : am_Q) (hG : Gr Q) (a1 : Int32) (a2 : Int32) (hp : p_X10_value f I a1 a2) : Gd MX10_value (am_o 0 0 0 (am_FiI J Q (s_X10_value f I a1 a2))) 0 0 92 0 [some (.ref 46), some (.int a1), some (.int a2), none, none, none, none] [] I J Q := by
  unfold s_X10_value
  unfold p_X10_value at hp
  refine gd_iconst (v := 0) (q := 1) rfl rfl rfl ?_
  refine gd_istore_n (q := 2) rfl rfl (Nat.le_of_ble_eq_true rfl) rfl ?_
  refine gd_iload_n (q := 3) rfl rfl rfl ?_
  refine gd_istore (q := 5) rfl rfl (Nat.le_of_ble_eq_true rfl) rfl ?_
  refine gd_drop 1 ?_
  exact gl_X10_value_5 a1 a2 f J Q hG f 0 _ _ hp
theorem ct_X10_value (f : Nat) (I : am_I) (J : am_J) (Q : am_Q) (hG : Gr Q) (a1 : Int32) (a2 : Int32) (hp : p_X10_value f I a1 a2) : Cm MX10_value 0 0 0 92 [.ref 46, .int a1, .int a2] I J Q (am_FiI J Q (s_X10_value f I a1 a2)) := cm_of (by decide) rfl IX10_value_ok (Nat.le_of_ble_eq_true rfl) (gt_X10_value f I J Q hG a1 a2 hp)
def s_X10_isTrue (f : Nat) (I : am_I) (a1 : Int32) : Int32 × am_I := (if (I 60 a1.toNatClampNeg) = 4 then (if (((I 46 59) >>> ((I 66 (I 61 a1.toNatClampNeg).toNatClampNeg) &&& 31)) &&& 1) = 1 then (1, I) else (0, I)) else (if (((s_X10_value f ((s_X10_value f I (I 61 a1.toNatClampNeg) (I 62 a1.toNatClampNeg)).2) (((s_X10_value f I (I 61 a1.toNatClampNeg) (I 62 a1.toNatClampNeg)).2) 62 a1.toNatClampNeg) (((s_X10_value f I (I 61 a1.toNatClampNeg) (I 62 a1.toNatClampNeg)).2) 63 a1.toNatClampNeg)).2) 60 a1.toNatClampNeg) = 0 then (if ((s_X10_value f I (I 61 a1.toNatClampNeg) (I 62 a1.toNatClampNeg)).1) = ((s_X10_value f ((s_X10_value f I (I 61 a1.toNatClampNeg) (I 62 a1.toNatClampNeg)).2) (((s_X10_value f I (I 61 a1.toNatClampNeg) (I 62 a1.toNatClampNeg)).2) 62 a1.toNatClampNeg) (((s_X10_value f I (I 61 a1.toNatClampNeg) (I 62 a1.toNatClampNeg)).2) 63 a1.toNatClampNeg)).1) then (1, ((s_X10_value f ((s_X10_value f I (I 61 a1.toNatClampNeg) (I 62 a1.toNatClampNeg)).2) (((s_X10_value f I (I 61 a1.toNatClampNeg) (I 62 a1.toNatClampNeg)).2) 62 a1.toNatClampNeg) (((s_X10_value f I (I 61 a1.toNatClampNeg) (I 62 a1.toNatClampNeg)).2) 63 a1.toNatClampNeg)).2)) else (0, ((s_X10_value f ((s_X10_value f I (I 61 a1.toNatClampNeg) (I 62 a1.toNatClampNeg)).2) (((s_X10_value f I (I 61 a1.toNatClampNeg) (I 62 a1.toNatClampNeg)).2) 62 a1.toNatClampNeg) (((s_X10_value f I (I 61 a1.toNatClampNeg) (I 62 a1.toNatClampNeg)).2) 63 a1.toNatClampNeg)).2))) else (if (((s_X10_value f ((s_X10_value f I (I 61 a1.toNatClampNeg) (I 62 a1.toNatClampNeg)).2) (((s_X10_value f I (I 61 a1.toNatClampNeg) (I 62 a1.toNatClampNeg)).2) 62 a1.toNatClampNeg) (((s_X10_value f I (I 61 a1.toNatClampNeg) (I 62 a1.toNatClampNeg)).2) 63 a1.toNatClampNeg)).2) 60 a1.toNatClampNeg) = 1 then (if ((s_X10_value f I (I 61 a1.toNatClampNeg) (I 62 a1.toNatClampNeg)).1) = ((s_X10_value f ((s_X10_value f I (I 61 a1.toNatClampNeg) (I 62 a1.toNatClampNeg)).2) (((s_X10_value f I (I 61 a1.toNatClampNeg) (I 62 a1.toNatClampNeg)).2) 62 a1.toNatClampNeg) (((s_X10_value f I (I 61 a1.toNatClampNeg) (I 62 a1.toNatClampNeg)).2) 63 a1.toNatClampNeg)).1) then (0, ((s_X10_value f ((s_X10_value f I (I 61 a1.toNatClampNeg) (I 62 a1.toNatClampNeg)).2) (((s_X10_value f I (I 61 a1.toNatClampNeg) (I 62 a1.toNatClampNeg)).2) 62 a1.toNatClampNeg) (((s_X10_value f I (I 61 a1.toNatClampNeg) (I 62 a1.toNatClampNeg)).2) 63 a1.toNatClampNeg)).2)) else (1, ((s_X10_value f ((s_X10_value f I (I 61 a1.toNatClampNeg) (I 62 a1.toNatClampNeg)).2) (((s_X10_value f I (I 61 a1.toNatClampNeg) (I 62 a1.toNatClampNeg)).2) 62 a1.toNatClampNeg) (((s_X10_value f I (I 61 a1.toNatClampNeg) (I 62 a1.toNatClampNeg)).2) 63 a1.toNatClampNeg)).2))) else (if (((s_X10_value f ((s_X10_value f I (I 61 a1.toNatClampNeg) (I 62 a1.toNatClampNeg)).2) (((s_X10_value f I (I 61 a1.toNatClampNeg) (I 62 a1.toNatClampNeg)).2) 62 a1.toNatClampNeg) (((s_X10_value f I (I 61 a1.toNatClampNeg) (I 62 a1.toNatClampNeg)).2) 63 a1.toNatClampNeg)).2) 60 a1.toNatClampNeg) = 2 then (if ((s_X10_value f ((s_X10_value f I (I 61 a1.toNatClampNeg) (I 62 a1.toNatClampNeg)).2) (((s_X10_value f I (I 61 a1.toNatClampNeg) (I 62 a1.toNatClampNeg)).2) 62 a1.toNatClampNeg) (((s_X10_value f I (I 61 a1.toNatClampNeg) (I 62 a1.toNatClampNeg)).2) 63 a1.toNatClampNeg)).1) ≤ ((s_X10_value f I (I 61 a1.toNatClampNeg) (I 62 a1.toNatClampNeg)).1) then (0, ((s_X10_value f ((s_X10_value f I (I 61 a1.toNatClampNeg) (I 62 a1.toNatClampNeg)).2) (((s_X10_value f I (I 61 a1.toNatClampNeg) (I 62 a1.toNatClampNeg)).2) 62 a1.toNatClampNeg) (((s_X10_value f I (I 61 a1.toNatClampNeg) (I 62 a1.toNatClampNeg)).2) 63 a1.toNatClampNeg)).2)) else (1, ((s_X10_value f ((s_X10_value f I (I 61 a1.toNatClampNeg) (I 62 a1.toNatClampNeg)).2) (((s_X10_value f I (I 61 a1.toNatClampNeg) (I 62 a1.toNatClampNeg)).2) 62 a1.toNatClampNeg) (((s_X10_value f I (I 61 a1.toNatClampNeg) (I 62 a1.toNatClampNeg)).2) 63 a1.toNatClampNeg)).2))) else (if ((s_X10_value f ((s_X10_value f I (I 61 a1.toNatClampNeg) (I 62 a1.toNatClampNeg)).2) (((s_X10_value f I (I 61 a1.toNatClampNeg) (I 62 a1.toNatClampNeg)).2) 62 a1.toNatClampNeg) (((s_X10_value f I (I 61 a1.toNatClampNeg) (I 62 a1.toNatClampNeg)).2) 63 a1.toNatClampNeg)).1) < ((s_X10_value f I (I 61 a1.toNatClampNeg) (I 62 a1.toNatClampNeg)).1) then (0, ((s_X10_value f ((s_X10_value f I (I 61 a1.toNatClampNeg) (I 62 a1.toNatClampNeg)).2) (((s_X10_value f I (I 61 a1.toNatClampNeg) (I 62 a1.toNatClampNeg)).2) 62 a1.toNatClampNeg) (((s_X10_value f I (I 61 a1.toNatClampNeg) (I 62 a1.toNatClampNeg)).2) 63 a1.toNatClampNeg)).2)) else (1, ((s_X10_value f ((s_X10_value f I (I 61 a1.toNatClampNeg) (I 62 a1.toNatClampNeg)).2) (((s_X10_value f I (I 61 a1.toNatClampNeg) (I 62 a1.toNatClampNeg)).2) 62 a1.toNatClampNeg) (((s_X10_value f I (I 61 a1.toNatClampNeg) (I 62 a1.toNatClampNeg)).2) 63 a1.toNatClampNeg)).2)))))))
def p_X10_isTrue (f : Nat) (I : am_I) (a1 : Int32) : Prop := (vp_in a1 4800 ∧ (if (I 60 a1.toNatClampNeg) = 4 then (vp_in a1 4800 ∧ vp_in (I 61 a1.toNatClampNeg) 12000) else (vp_in a1 4800 ∧ (vp_in a1 4800 ∧ ((p_X10_value f I (I 61 a1.toNatClampNeg) (I 62 a1.toNatClampNeg)) ∧ (vp_in a1 4800 ∧ (vp_in a1 4800 ∧ ((p_X10_value f ((s_X10_value f I (I 61 a1.toNatClampNeg) (I 62 a1.toNatClampNeg)).2) (((s_X10_value f I (I 61 a1.toNatClampNeg) (I 62 a1.toNatClampNeg)).2) 62 a1.toNatClampNeg) (((s_X10_value f I (I 61 a1.toNatClampNeg) (I 62 a1.toNatClampNeg)).2) 63 a1.toNatClampNeg)) ∧ (vp_in a1 4800 ∧ (if (((s_X10_value f ((s_X10_value f I (I 61 a1.toNatClampNeg) (I 62 a1.toNatClampNeg)).2) (((s_X10_value f I (I 61 a1.toNatClampNeg) (I 62 a1.toNatClampNeg)).2) 62 a1.toNatClampNeg) (((s_X10_value f I (I 61 a1.toNatClampNeg) (I 62 a1.toNatClampNeg)).2) 63 a1.toNatClampNeg)).2) 60 a1.toNatClampNeg) = 0 then True else (vp_in a1 4800 ∧ (if (((s_X10_value f ((s_X10_value f I (I 61 a1.toNatClampNeg) (I 62 a1.toNatClampNeg)).2) (((s_X10_value f I (I 61 a1.toNatClampNeg) (I 62 a1.toNatClampNeg)).2) 62 a1.toNatClampNeg) (((s_X10_value f I (I 61 a1.toNatClampNeg) (I 62 a1.toNatClampNeg)).2) 63 a1.toNatClampNeg)).2) 60 a1.toNatClampNeg) = 1 then True else vp_in a1 4800))))))))))))
theorem z_X10_isTrue (f : Nat) (I : am_I) (a1 : Int32) : (s_X10_isTrue f I a1).1 = 0 ∨ (s_X10_isTrue f I a1).1 = 1 := by
  unfold s_X10_isTrue
  repeat' split
  all_goals first | exact Or.inl rfl | exact Or.inr rfl
set_option maxRecDepth 100000 in
set_option maxHeartbeats 4000000 in
theorem gt_X10_isTrue (f : Nat) (I : am_I) (J : am_J) (Q : am_Q) (hG : Gr Q) (a1 : Int32) (hp : p_X10_isTrue f I a1) : Gd MX10_isTrue (am_o 1 0 0 (am_FiI J Q (s_X10_isTrue f I a1))) 0 0 92 0 [some (.ref 46), some (.int a1), none, none] [] I J Q := by
  unfold s_X10_isTrue
  unfold p_X10_isTrue at hp
  refine gd_aload_n (q := 1) rfl rfl rfl ?_
  refine gd_getR (q := 4) (r := 60) rfl rfl rfl (Nat.le_of_ble_eq_true rfl) rfl rfl (gr_46_25 hG) ?_
  refine gd_iload_n (q := 5) rfl rfl rfl ?_
  refine gd_iald (q := 6) rfl rfl (Nat.le_of_ble_eq_true rfl) rfl hp.1 ?_
  replace hp := hp.2
  refine gd_iconst (v := 4) (q := 7) rfl rfl rfl ?_
  refine gx_icmp_ne (q := 10) (r := 38) rfl rfl rfl hp (fun c_7 hp => ?_) (fun c_7 hp => ?_)
  · refine gd_aload_n (q := 11) rfl rfl rfl ?_
    refine gd_getI (q := 14) rfl rfl rfl (Nat.le_of_ble_eq_true rfl) rfl rfl ?_
    refine gd_aload_n (q := 15) rfl rfl rfl ?_
    refine gd_getR (q := 18) (r := 66) rfl rfl rfl (Nat.le_of_ble_eq_true rfl) rfl rfl (gr_46_32 hG) ?_
    refine gd_aload_n (q := 19) rfl rfl rfl ?_
    refine gd_getR (q := 22) (r := 61) rfl rfl rfl (Nat.le_of_ble_eq_true rfl) rfl rfl (gr_46_26 hG) ?_
    refine gd_iload_n (q := 23) rfl rfl rfl ?_
    refine gd_iald (q := 24) rfl rfl (Nat.le_of_ble_eq_true rfl) rfl hp.1 ?_
    replace hp := hp.2
    refine gd_iald (q := 25) rfl rfl (Nat.le_of_ble_eq_true rfl) rfl hp ?_
    refine gd_ishr (q := 26) rfl rfl ?_
    refine gd_iconst (v := 1) (q := 27) rfl rfl rfl ?_
    refine gd_iand (q := 28) rfl rfl ?_
    refine gd_iconst (v := 1) (q := 29) rfl rfl rfl ?_
    refine gy_icmp_ne (q := 32) (r := 36) rfl rfl rfl (fun c_29 => ?_) (fun c_29 => ?_)
    · refine gd_iconst (v := 1) (q := 33) rfl rfl rfl ?_
      refine gd_goto (q := 37) rfl rfl ?_
      exact gd_ireturn rfl rfl rfl (Nat.le_refl 0) (Nat.le_refl 0) rfl
    · refine gd_iconst (v := 0) (q := 37) rfl rfl rfl ?_
      exact gd_ireturn rfl rfl rfl (Nat.le_refl 0) (Nat.le_refl 0) rfl
  · refine gd_aload_n (q := 39) rfl rfl rfl ?_
    refine gd_aload_n (q := 40) rfl rfl rfl ?_
    refine gd_getR (q := 43) (r := 61) rfl rfl rfl (Nat.le_of_ble_eq_true rfl) rfl rfl (gr_46_26 hG) ?_
    refine gd_iload_n (q := 44) rfl rfl rfl ?_
    refine gd_iald (q := 45) rfl rfl (Nat.le_of_ble_eq_true rfl) rfl hp.1 ?_
    replace hp := hp.2
    refine gd_aload_n (q := 46) rfl rfl rfl ?_
    refine gd_getR (q := 49) (r := 62) rfl rfl rfl (Nat.le_of_ble_eq_true rfl) rfl rfl (gr_46_27 hG) ?_
    refine gd_iload_n (q := 50) rfl rfl rfl ?_
    refine gd_iald (q := 51) rfl rfl (Nat.le_of_ble_eq_true rfl) rfl hp.1 ?_
    replace hp := hp.2
    refine gd_cVi (q := 54) rfl rfl lk10_295 myX10_value vxX10_value (ct_X10_value f _ _ _ hG _ _ hp.1) rfl (Nat.le_of_ble_eq_true rfl) rfl rfl (Nat.le_of_ble_eq_true rfl) rfl (Nat.le_of_ble_eq_true rfl) ⟨(Nat.le_of_ble_eq_true rfl), (Nat.le_of_ble_eq_true rfl)⟩ ?_
    replace hp := hp.2
    refine gd_istore_n (q := 55) rfl rfl (Nat.le_of_ble_eq_true rfl) rfl ?_
    refine gd_aload_n (q := 56) rfl rfl rfl ?_
    refine gd_aload_n (q := 57) rfl rfl rfl ?_
    refine gd_getR (q := 60) (r := 62) rfl rfl rfl (Nat.le_of_ble_eq_true rfl) rfl rfl (gr_46_27 hG) ?_
    refine gd_iload_n (q := 61) rfl rfl rfl ?_
    refine gd_iald (q := 62) rfl rfl (Nat.le_of_ble_eq_true rfl) rfl hp.1 ?_
    replace hp := hp.2
    refine gd_aload_n (q := 63) rfl rfl rfl ?_
    refine gd_getR (q := 66) (r := 63) rfl rfl rfl (Nat.le_of_ble_eq_true rfl) rfl rfl (gr_46_28 hG) ?_
    refine gd_iload_n (q := 67) rfl rfl rfl ?_
    refine gd_iald (q := 68) rfl rfl (Nat.le_of_ble_eq_true rfl) rfl hp.1 ?_
    replace hp := hp.2
    refine gd_cVi (q := 71) rfl rfl lk10_295 myX10_value vxX10_value (ct_X10_value f _ _ _ hG _ _ hp.1) rfl (Nat.le_of_ble_eq_true rfl) rfl rfl (Nat.le_of_ble_eq_true rfl) rfl (Nat.le_of_ble_eq_true rfl) ⟨(Nat.le_of_ble_eq_true rfl), (Nat.le_of_ble_eq_true rfl)⟩ ?_
    replace hp := hp.2
    refine gd_istore_n (q := 72) rfl rfl (Nat.le_of_ble_eq_true rfl) rfl ?_
    refine gd_aload_n (q := 73) rfl rfl rfl ?_
    refine gd_getR (q := 76) (r := 60) rfl rfl rfl (Nat.le_of_ble_eq_true rfl) rfl rfl (gr_46_25 hG) ?_
    refine gd_iload_n (q := 77) rfl rfl rfl ?_
    refine gd_iald (q := 78) rfl rfl (Nat.le_of_ble_eq_true rfl) rfl hp.1 ?_
    replace hp := hp.2
    refine gx_if_ne (q := 81) (r := 94) rfl rfl rfl hp (fun c_78 hp => ?_) (fun c_78 hp => ?_)
    · refine gd_iload_n (q := 82) rfl rfl rfl ?_
      refine gd_iload_n (q := 83) rfl rfl rfl ?_
      refine gy_icmp_ne (q := 86) (r := 90) rfl rfl rfl (fun c_83 => ?_) (fun c_83 => ?_)
      · refine gd_iconst (v := 1) (q := 87) rfl rfl rfl ?_
        refine gd_goto (q := 150) rfl rfl ?_
        exact gd_ireturn rfl rfl rfl (Nat.le_refl 0) (Nat.le_refl 0) rfl
      · refine gd_iconst (v := 0) (q := 91) rfl rfl rfl ?_
        refine gd_goto (q := 150) rfl rfl ?_
        exact gd_ireturn rfl rfl rfl (Nat.le_refl 0) (Nat.le_refl 0) rfl
    · refine gd_aload_n (q := 95) rfl rfl rfl ?_
      refine gd_getR (q := 98) (r := 60) rfl rfl rfl (Nat.le_of_ble_eq_true rfl) rfl rfl (gr_46_25 hG) ?_
      refine gd_iload_n (q := 99) rfl rfl rfl ?_
      refine gd_iald (q := 100) rfl rfl (Nat.le_of_ble_eq_true rfl) rfl hp.1 ?_
      replace hp := hp.2
      refine gd_iconst (v := 1) (q := 101) rfl rfl rfl ?_
      refine gx_icmp_ne (q := 104) (r := 117) rfl rfl rfl hp (fun c_101 hp => ?_) (fun c_101 hp => ?_)
      · refine gd_iload_n (q := 105) rfl rfl rfl ?_
        refine gd_iload_n (q := 106) rfl rfl rfl ?_
        refine gy_icmp_eq (q := 109) (r := 113) rfl rfl rfl (fun c_106 => ?_) (fun c_106 => ?_)
        · refine gd_iconst (v := 0) (q := 114) rfl rfl rfl ?_
          refine gd_goto (q := 150) rfl rfl ?_
          exact gd_ireturn rfl rfl rfl (Nat.le_refl 0) (Nat.le_refl 0) rfl
        · refine gd_iconst (v := 1) (q := 110) rfl rfl rfl ?_
          refine gd_goto (q := 150) rfl rfl ?_
          exact gd_ireturn rfl rfl rfl (Nat.le_refl 0) (Nat.le_refl 0) rfl
      · refine gd_aload_n (q := 118) rfl rfl rfl ?_
        refine gd_getR (q := 121) (r := 60) rfl rfl rfl (Nat.le_of_ble_eq_true rfl) rfl rfl (gr_46_25 hG) ?_
        refine gd_iload_n (q := 122) rfl rfl rfl ?_
        refine gd_iald (q := 123) rfl rfl (Nat.le_of_ble_eq_true rfl) rfl hp ?_
        refine gd_iconst (v := 2) (q := 124) rfl rfl rfl ?_
        refine gy_icmp_ne (q := 127) (r := 140) rfl rfl rfl (fun c_124 => ?_) (fun c_124 => ?_)
        · refine gd_iload_n (q := 128) rfl rfl rfl ?_
          refine gd_iload_n (q := 129) rfl rfl rfl ?_
          refine gy_icmp_ge (q := 132) (r := 136) rfl rfl rfl (fun c_129 => ?_) (fun c_129 => ?_)
          · refine gd_iconst (v := 0) (q := 137) rfl rfl rfl ?_
            refine gd_goto (q := 150) rfl rfl ?_
            exact gd_ireturn rfl rfl rfl (Nat.le_refl 0) (Nat.le_refl 0) rfl
          · refine gd_iconst (v := 1) (q := 133) rfl rfl rfl ?_
            refine gd_goto (q := 150) rfl rfl ?_
            exact gd_ireturn rfl rfl rfl (Nat.le_refl 0) (Nat.le_refl 0) rfl
        · refine gd_iload_n (q := 141) rfl rfl rfl ?_
          refine gd_iload_n (q := 142) rfl rfl rfl ?_
          refine gy_icmp_gt (q := 145) (r := 149) rfl rfl rfl (fun c_142 => ?_) (fun c_142 => ?_)
          · refine gd_iconst (v := 0) (q := 150) rfl rfl rfl ?_
            exact gd_ireturn rfl rfl rfl (Nat.le_refl 0) (Nat.le_refl 0) rfl
          · refine gd_iconst (v := 1) (q := 146) rfl rfl rfl ?_
            refine gd_goto (q := 150) rfl rfl ?_
            exact gd_ireturn rfl rfl rfl (Nat.le_refl 0) (Nat.le_refl 0) rfl
theorem ct_X10_isTrue (f : Nat) (I : am_I) (J : am_J) (Q : am_Q) (hG : Gr Q) (a1 : Int32) (hp : p_X10_isTrue f I a1) : Cm MX10_isTrue 1 0 0 92 [.ref 46, .int a1] I J Q (am_FiI J Q (s_X10_isTrue f I a1)) := cm_of (by decide) rfl IX10_isTrue_ok (Nat.le_of_ble_eq_true rfl) (gt_X10_isTrue f I J Q hG a1 hp)
def s_X10_holds_L27 (a1 : Int32) (a2 : Int32) (f : Nat) : Nat → Nat → Int32 → Int32 → Int32 → am_I → Int32 × am_I
  | 0, _, _, _, _, I => (0, I)
  | g + 1, 0, v3, v4, v5, I => (if (I 58 a1.toNatClampNeg) ≤ v4 then (v3, I) else (if (I 64 ((200 * a2) + v4).toNatClampNeg) = 0 then (s_X10_holds_L27 a1 a2 f g 1 v3 v4 ((200 * a2) + v4) I) else (if v3 = 0 then (s_X10_holds_L27 a1 a2 f g 1 v3 v4 ((200 * a2) + v4) I) else (1, I))))
  | g + 1, 1, v3, v4, v5, I => (if (I 64 v5.toNatClampNeg) = 0 then (if v3 = 0 then (s_X10_holds_L27 a1 a2 f g 0 0 (v4 + 1) 0 I) else (if ((s_X10_isTrue f I v5).1) = 0 then (s_X10_holds_L27 a1 a2 f g 0 0 (v4 + 1) 0 ((s_X10_isTrue f I v5).2)) else (s_X10_holds_L27 a1 a2 f g 0 1 (v4 + 1) 0 ((s_X10_isTrue f I v5).2)))) else (if ((s_X10_isTrue f I v5).1) = 0 then (s_X10_holds_L27 a1 a2 f g 0 0 (v4 + 1) 0 ((s_X10_isTrue f I v5).2)) else (s_X10_holds_L27 a1 a2 f g 0 1 (v4 + 1) 0 ((s_X10_isTrue f I v5).2))))
  | _ + 1, _ + 2, _, _, _, I => (0, I)
def p_X10_holds_L27 (a1 : Int32) (a2 : Int32) (f : Nat) : Nat → Nat → Int32 → Int32 → Int32 → am_I → Prop
  | 0, _, _, _, _, _ => False
  | g + 1, 0, v3, v4, v5, I => (vp_in a1 384 ∧ (if (I 58 a1.toNatClampNeg) ≤ v4 then (v3 = 0 ∨ v3 = 1) else (vp_in ((200 * a2) + v4) 4800 ∧ (if (I 64 ((200 * a2) + v4).toNatClampNeg) = 0 then (p_X10_holds_L27 a1 a2 f g 1 v3 v4 ((200 * a2) + v4) I) else (if v3 = 0 then (p_X10_holds_L27 a1 a2 f g 1 v3 v4 ((200 * a2) + v4) I) else True)))))
  | g + 1, 1, v3, v4, v5, I => (vp_in v5 4800 ∧ (if (I 64 v5.toNatClampNeg) = 0 then (if v3 = 0 then (p_X10_holds_L27 a1 a2 f g 0 0 (v4 + 1) 0 I) else ((p_X10_isTrue f I v5) ∧ (if ((s_X10_isTrue f I v5).1) = 0 then (p_X10_holds_L27 a1 a2 f g 0 0 (v4 + 1) 0 ((s_X10_isTrue f I v5).2)) else (p_X10_holds_L27 a1 a2 f g 0 1 (v4 + 1) 0 ((s_X10_isTrue f I v5).2))))) else ((p_X10_isTrue f I v5) ∧ (if ((s_X10_isTrue f I v5).1) = 0 then (p_X10_holds_L27 a1 a2 f g 0 0 (v4 + 1) 0 ((s_X10_isTrue f I v5).2)) else (p_X10_holds_L27 a1 a2 f g 0 1 (v4 + 1) 0 ((s_X10_isTrue f I v5).2))))))
  | _ + 1, _ + 2, _, _, _, _ => False
def s_X10_holds (f : Nat) (I : am_I) (a1 : Int32) (a2 : Int32) : Int32 × am_I := (if (I 57 a1.toNatClampNeg) = (I 58 a1.toNatClampNeg) then (1, I) else (s_X10_holds_L27 a1 a2 f f 0 0 (I 57 a1.toNatClampNeg) 0 I))
def p_X10_holds (f : Nat) (I : am_I) (a1 : Int32) (a2 : Int32) : Prop := (vp_in a1 384 ∧ (vp_in a1 384 ∧ (if (I 57 a1.toNatClampNeg) = (I 58 a1.toNatClampNeg) then True else (vp_in a1 384 ∧ (p_X10_holds_L27 a1 a2 f f 0 0 (I 57 a1.toNatClampNeg) 0 I)))))
set_option maxRecDepth 100000 in
set_option maxHeartbeats 4000000 in
theorem gl_X10_holds_L27 (a1 : Int32) (a2 : Int32) (f : Nat) (J : am_J) (Q : am_Q) (hG : Gr Q) : ∀ g : Nat, (∀ (v3 : Int32) (v4 : Int32) (v5 : Int32) (I : am_I), p_X10_holds_L27 a1 a2 f g 0 v3 v4 0 I → Gd MX10_holds (am_o 2 0 0 (am_FiI J Q (s_X10_holds_L27 a1 a2 f g 0 v3 v4 0 I))) 0 0 92 27 [some (.ref 46), some (.int a1), some (.int a2), some (.int v3), some (.int v4), none] [] I J Q) ∧ (∀ (v3 : Int32) (v4 : Int32) (v5 : Int32) (I : am_I), p_X10_holds_L27 a1 a2 f g 1 v3 v4 v5 I → Gd MX10_holds (am_o 2 0 0 (am_FiI J Q (s_X10_holds_L27 a1 a2 f g 1 v3 v4 v5 I))) 0 0 92 64 [some (.ref 46), some (.int a1), some (.int a2), some (.int v3), some (.int v4), some (.int v5)] [] I J Q) := by
  intro g
  induction g with
  | zero => exact ⟨fun _ _ _ _ hp => False.elim hp, fun _ _ _ _ hp => False.elim hp⟩
  | succ g ih =>
    have ih_27 := ih.1
    have ih_64 := ih.2
    refine ⟨?_, ?_⟩
    · intro v3 v4 v5 I hp
      rw [s_X10_holds_L27]
      rw [p_X10_holds_L27] at hp
      refine gd_iload (q := 29) rfl rfl rfl ?_
      refine gd_aload_n (q := 30) rfl rfl rfl ?_
      refine gd_getR (q := 33) (r := 58) rfl rfl rfl (Nat.le_of_ble_eq_true rfl) rfl rfl (gr_46_23 hG) ?_
      refine gd_iload_n (q := 34) rfl rfl rfl ?_
      refine gd_iald (q := 35) rfl rfl (Nat.le_of_ble_eq_true rfl) rfl hp.1 ?_
      replace hp := hp.2
      refine gx_icmp_ge (q := 38) (r := 101) rfl rfl rfl hp (fun c_35 hp => ?_) (fun c_35 hp => ?_)
      · refine gd_iload_n (q := 102) rfl rfl rfl ?_
        exact gd_ireturn rfl rfl (am_zn hp) (Nat.le_refl 0) (Nat.le_refl 0) rfl
      · refine gd_sipush (v := 200) (q := 41) rfl rfl rfl ?_
        refine gd_iload_n (q := 42) rfl rfl rfl ?_
        refine gd_imul (q := 43) rfl rfl ?_
        refine gd_iload (q := 45) rfl rfl rfl ?_
        refine gd_iadd (q := 46) rfl rfl ?_
        refine gd_istore (q := 48) rfl rfl (Nat.le_of_ble_eq_true rfl) rfl ?_
        refine gd_aload_n (q := 49) rfl rfl rfl ?_
        refine gd_getR (q := 52) (r := 64) rfl rfl rfl (Nat.le_of_ble_eq_true rfl) rfl rfl (gr_46_29 hG) ?_
        refine gd_iload (q := 54) rfl rfl rfl ?_
        refine gd_zald (q := 55) rfl rfl (Nat.le_of_ble_eq_true rfl) rfl hp.1 ?_
        replace hp := hp.2
        refine gx_if_eq (q := 58) (r := 64) rfl rfl rfl hp (fun c_55 hp => ?_) (fun c_55 hp => ?_)
        · exact ih_64 _ _ _ _ hp
        · refine gd_iload_n (q := 59) rfl rfl rfl ?_
          refine gx_if_eq (q := 62) (r := 64) rfl rfl rfl hp (fun c_59 hp => ?_) (fun c_59 hp => ?_)
          · exact ih_64 _ _ _ _ hp
          · refine gd_iconst (v := 1) (q := 63) rfl rfl rfl ?_
            exact gd_ireturn rfl rfl rfl (Nat.le_refl 0) (Nat.le_refl 0) rfl
    · intro v3 v4 v5 I hp
      rw [s_X10_holds_L27]
      rw [p_X10_holds_L27] at hp
      refine gd_aload_n (q := 65) rfl rfl rfl ?_
      refine gd_getR (q := 68) (r := 64) rfl rfl rfl (Nat.le_of_ble_eq_true rfl) rfl rfl (gr_46_29 hG) ?_
      refine gd_iload (q := 70) rfl rfl rfl ?_
      refine gd_zald (q := 71) rfl rfl (Nat.le_of_ble_eq_true rfl) rfl hp.1 ?_
      replace hp := hp.2
      refine gx_if_eq (q := 74) (r := 76) rfl rfl rfl hp (fun c_71 hp => ?_) (fun c_71 hp => ?_)
      · refine gd_iload_n (q := 77) rfl rfl rfl ?_
        refine gx_if_eq (q := 80) (r := 93) rfl rfl rfl hp (fun c_77 hp => ?_) (fun c_77 hp => ?_)
        · refine gd_iconst (v := 0) (q := 94) rfl rfl rfl ?_
          refine gd_istore_n (q := 95) rfl rfl (Nat.le_of_ble_eq_true rfl) rfl ?_
          refine gd_iinc (v := (v4 + 1)) (q := 98) rfl rfl rfl rfl (Nat.le_of_ble_eq_true rfl) rfl ?_
          refine gd_goto (q := 27) rfl rfl ?_
          refine gd_drop 5 ?_
          exact ih_27 0 _ 0 _ hp
        · refine gd_aload_n (q := 81) rfl rfl rfl ?_
          refine gd_iload (q := 83) rfl rfl rfl ?_
          refine gd_cVi (q := 86) rfl rfl lk10_299 myX10_isTrue vxX10_isTrue (ct_X10_isTrue f _ _ _ hG _ hp.1) rfl (Nat.le_of_ble_eq_true rfl) rfl rfl (Nat.le_of_ble_eq_true rfl) rfl (Nat.le_of_ble_eq_true rfl) ⟨(Nat.le_of_ble_eq_true rfl), (Nat.le_of_ble_eq_true rfl)⟩ ?_
          replace hp := hp.2
          refine gx_if_eq (q := 89) (r := 93) rfl rfl rfl hp (fun c_86 hp => ?_) (fun c_86 hp => ?_)
          · refine gd_iconst (v := 0) (q := 94) rfl rfl rfl ?_
            refine gd_istore_n (q := 95) rfl rfl (Nat.le_of_ble_eq_true rfl) rfl ?_
            refine gd_iinc (v := (v4 + 1)) (q := 98) rfl rfl rfl rfl (Nat.le_of_ble_eq_true rfl) rfl ?_
            refine gd_goto (q := 27) rfl rfl ?_
            refine gd_drop 5 ?_
            exact ih_27 0 _ 0 _ hp
          · refine gd_iconst (v := 1) (q := 90) rfl rfl rfl ?_
            refine gd_goto (q := 94) rfl rfl ?_
            refine gd_istore_n (q := 95) rfl rfl (Nat.le_of_ble_eq_true rfl) rfl ?_
            refine gd_iinc (v := (v4 + 1)) (q := 98) rfl rfl rfl rfl (Nat.le_of_ble_eq_true rfl) rfl ?_
            refine gd_goto (q := 27) rfl rfl ?_
            refine gd_drop 5 ?_
            exact ih_27 _ _ 0 _ hp
      · refine gd_iconst (v := 1) (q := 75) rfl rfl rfl ?_
        refine gd_istore_n (q := 76) rfl rfl (Nat.le_of_ble_eq_true rfl) rfl ?_
        refine gd_iload_n (q := 77) rfl rfl rfl ?_
        refine gd_if_eq (q := 80) (r := 93) rfl rfl rfl (fun c => absurd c (by decide)) (fun _ => ?_)
        refine gd_aload_n (q := 81) rfl rfl rfl ?_
        refine gd_iload (q := 83) rfl rfl rfl ?_
        refine gd_cVi (q := 86) rfl rfl lk10_299 myX10_isTrue vxX10_isTrue (ct_X10_isTrue f _ _ _ hG _ hp.1) rfl (Nat.le_of_ble_eq_true rfl) rfl rfl (Nat.le_of_ble_eq_true rfl) rfl (Nat.le_of_ble_eq_true rfl) ⟨(Nat.le_of_ble_eq_true rfl), (Nat.le_of_ble_eq_true rfl)⟩ ?_
        replace hp := hp.2
        refine gx_if_eq (q := 89) (r := 93) rfl rfl rfl hp (fun c_86 hp => ?_) (fun c_86 hp => ?_)
        · refine gd_iconst (v := 0) (q := 94) rfl rfl rfl ?_
          refine gd_istore_n (q := 95) rfl rfl (Nat.le_of_ble_eq_true rfl) rfl ?_
          refine gd_iinc (v := (v4 + 1)) (q := 98) rfl rfl rfl rfl (Nat.le_of_ble_eq_true rfl) rfl ?_
          refine gd_goto (q := 27) rfl rfl ?_
          refine gd_drop 5 ?_
          exact ih_27 0 _ 0 _ hp
        · refine gd_iconst (v := 1) (q := 90) rfl rfl rfl ?_
          refine gd_goto (q := 94) rfl rfl ?_
          refine gd_istore_n (q := 95) rfl rfl (Nat.le_of_ble_eq_true rfl) rfl ?_
          refine gd_iinc (v := (v4 + 1)) (q := 98) rfl rfl rfl rfl (Nat.le_of_ble_eq_true rfl) rfl ?_
          refine gd_goto (q := 27) rfl rfl ?_
          refine gd_drop 5 ?_
          exact ih_27 _ _ 0 _ hp
theorem gl_X10_holds_27 (a1 : Int32) (a2 : Int32) (f : Nat) (J : am_J) (Q : am_Q) (hG : Gr Q) (g : Nat) : ∀ (v3 : Int32) (v4 : Int32) (v5 : Int32) (I : am_I), p_X10_holds_L27 a1 a2 f g 0 v3 v4 0 I → Gd MX10_holds (am_o 2 0 0 (am_FiI J Q (s_X10_holds_L27 a1 a2 f g 0 v3 v4 0 I))) 0 0 92 27 [some (.ref 46), some (.int a1), some (.int a2), some (.int v3), some (.int v4), none] [] I J Q := (gl_X10_holds_L27 a1 a2 f J Q hG g).1
theorem gl_X10_holds_64 (a1 : Int32) (a2 : Int32) (f : Nat) (J : am_J) (Q : am_Q) (hG : Gr Q) (g : Nat) : ∀ (v3 : Int32) (v4 : Int32) (v5 : Int32) (I : am_I), p_X10_holds_L27 a1 a2 f g 1 v3 v4 v5 I → Gd MX10_holds (am_o 2 0 0 (am_FiI J Q (s_X10_holds_L27 a1 a2 f g 1 v3 v4 v5 I))) 0 0 92 64 [some (.ref 46), some (.int a1), some (.int a2), some (.int v3), some (.int v4), some (.int v5)] [] I J Q := (gl_X10_holds_L27 a1 a2 f J Q hG g).2
set_option maxRecDepth 100000 in
set_option maxHeartbeats 4000000 in
theorem gt_X10_holds (f : Nat) (I : am_I) (J : am_J) (Q : am_Q) (hG : Gr Q) (a1 : Int32) (a2 : Int32) (hp : p_X10_holds f I a1 a2) : Gd MX10_holds (am_o 2 0 0 (am_FiI J Q (s_X10_holds f I a1 a2))) 0 0 92 0 [some (.ref 46), some (.int a1), some (.int a2), none, none, none] [] I J Q := by
  unfold s_X10_holds
  unfold p_X10_holds at hp
  refine gd_aload_n (q := 1) rfl rfl rfl ?_
  refine gd_getR (q := 4) (r := 57) rfl rfl rfl (Nat.le_of_ble_eq_true rfl) rfl rfl (gr_46_22 hG) ?_
  refine gd_iload_n (q := 5) rfl rfl rfl ?_
  refine gd_iald (q := 6) rfl rfl (Nat.le_of_ble_eq_true rfl) rfl hp.1 ?_
  replace hp := hp.2
  refine gd_aload_n (q := 7) rfl rfl rfl ?_
  refine gd_getR (q := 10) (r := 58) rfl rfl rfl (Nat.le_of_ble_eq_true rfl) rfl rfl (gr_46_23 hG) ?_
  refine gd_iload_n (q := 11) rfl rfl rfl ?_
  refine gd_iald (q := 12) rfl rfl (Nat.le_of_ble_eq_true rfl) rfl hp.1 ?_
  replace hp := hp.2
  refine gx_icmp_ne (q := 15) (r := 17) rfl rfl rfl hp (fun c_12 hp => ?_) (fun c_12 hp => ?_)
  · refine gd_iconst (v := 1) (q := 16) rfl rfl rfl ?_
    exact gd_ireturn rfl rfl rfl (Nat.le_refl 0) (Nat.le_refl 0) rfl
  · refine gd_iconst (v := 0) (q := 18) rfl rfl rfl ?_
    refine gd_istore_n (q := 19) rfl rfl (Nat.le_of_ble_eq_true rfl) rfl ?_
    refine gd_aload_n (q := 20) rfl rfl rfl ?_
    refine gd_getR (q := 23) (r := 57) rfl rfl rfl (Nat.le_of_ble_eq_true rfl) rfl rfl (gr_46_22 hG) ?_
    refine gd_iload_n (q := 24) rfl rfl rfl ?_
    refine gd_iald (q := 25) rfl rfl (Nat.le_of_ble_eq_true rfl) rfl hp.1 ?_
    replace hp := hp.2
    refine gd_istore (q := 27) rfl rfl (Nat.le_of_ble_eq_true rfl) rfl ?_
    exact gl_X10_holds_27 a1 a2 f J Q hG f 0 _ 0 _ hp
theorem ct_X10_holds (f : Nat) (I : am_I) (J : am_J) (Q : am_Q) (hG : Gr Q) (a1 : Int32) (a2 : Int32) (hp : p_X10_holds f I a1 a2) : Cm MX10_holds 2 0 0 92 [.ref 46, .int a1, .int a2] I J Q (am_FiI J Q (s_X10_holds f I a1 a2)) := cm_of (by decide) rfl IX10_holds_ok (Nat.le_of_ble_eq_true rfl) (gt_X10_holds f I J Q hG a1 a2 hp)
def s_X10_letBy_L39 (a1 : Int32) (a2 : Int32) (a3 : Int32) (a4 : Int32) (f : Nat) : Nat → Int32 → Int32 → am_I → Int32 × am_I
  | 0, _, _, I => (0, I)
  | g + 1, v6, v7, I => (if (I 55 v6.toNatClampNeg) ≤ v7 then ((-3), I) else (if 2 ≤ (I 56 ((16 * v6) + v7).toNatClampNeg) then (s_X10_letBy_L39 a1 a2 a3 a4 f g v6 (v7 + 1) I) else (if ((s_X10_holds f I ((16 * v6) + v7) v6).1) = 0 then (s_X10_letBy_L39 a1 a2 a3 a4 f g v6 (v7 + 1) ((s_X10_holds f I ((16 * v6) + v7) v6).2)) else (if (((s_X10_holds f I ((16 * v6) + v7) v6).2) 56 ((16 * v6) + v7).toNatClampNeg) = 0 then (v7, ((s_X10_holds f I ((16 * v6) + v7) v6).2)) else ((-2), ((s_X10_holds f I ((16 * v6) + v7) v6).2))))))
def p_X10_letBy_L39 (a1 : Int32) (a2 : Int32) (a3 : Int32) (a4 : Int32) (f : Nat) : Nat → Int32 → Int32 → am_I → Prop
  | 0, _, _, _ => False
  | g + 1, v6, v7, I => (vp_in v6 24 ∧ (if (I 55 v6.toNatClampNeg) ≤ v7 then True else (vp_in ((16 * v6) + v7) 384 ∧ (if 2 ≤ (I 56 ((16 * v6) + v7).toNatClampNeg) then (p_X10_letBy_L39 a1 a2 a3 a4 f g v6 (v7 + 1) I) else ((p_X10_holds f I ((16 * v6) + v7) v6) ∧ (if ((s_X10_holds f I ((16 * v6) + v7) v6).1) = 0 then (p_X10_letBy_L39 a1 a2 a3 a4 f g v6 (v7 + 1) ((s_X10_holds f I ((16 * v6) + v7) v6).2)) else vp_in ((16 * v6) + v7) 384))))))
def s_X10_letBy (f : Nat) (I : am_I) (a1 : Int32) (a2 : Int32) (a3 : Int32) (a4 : Int32) : Int32 × am_I := (s_X10_letBy_L39 a1 a2 a3 a4 f f ((2 * ((s_X10_asks I a1 a2 a3 a4) 71 ((s_X10_asks I a1 a2 a3 a4) 74 a1.toNatClampNeg).toNatClampNeg)) + ((s_X10_asks I a1 a2 a3 a4) 54 ((s_X10_asks I a1 a2 a3 a4) 71 ((s_X10_asks I a1 a2 a3 a4) 74 a1.toNatClampNeg).toNatClampNeg).toNatClampNeg)) 0 (s_X10_asks I a1 a2 a3 a4))
def p_X10_letBy (f : Nat) (I : am_I) (a1 : Int32) (a2 : Int32) (a3 : Int32) (a4 : Int32) : Prop := ((p_X10_asks I a1 a2 a3 a4) ∧ (vp_in a1 30 ∧ (vp_in ((s_X10_asks I a1 a2 a3 a4) 74 a1.toNatClampNeg) 6 ∧ (vp_in ((s_X10_asks I a1 a2 a3 a4) 71 ((s_X10_asks I a1 a2 a3 a4) 74 a1.toNatClampNeg).toNatClampNeg) 12 ∧ (p_X10_letBy_L39 a1 a2 a3 a4 f f ((2 * ((s_X10_asks I a1 a2 a3 a4) 71 ((s_X10_asks I a1 a2 a3 a4) 74 a1.toNatClampNeg).toNatClampNeg)) + ((s_X10_asks I a1 a2 a3 a4) 54 ((s_X10_asks I a1 a2 a3 a4) 71 ((s_X10_asks I a1 a2 a3 a4) 74 a1.toNatClampNeg).toNatClampNeg).toNatClampNeg)) 0 (s_X10_asks I a1 a2 a3 a4))))))
set_option maxRecDepth 100000 in
set_option maxHeartbeats 4000000 in
theorem gl_X10_letBy_L39 (a1 : Int32) (a2 : Int32) (a3 : Int32) (a4 : Int32) (f : Nat) (J : am_J) (Q : am_Q) (hG : Gr Q) : ∀ g : Nat, (∀ (v6 : Int32) (v7 : Int32) (I : am_I), p_X10_letBy_L39 a1 a2 a3 a4 f g v6 v7 I → Gd MX10_letBy (am_o 3 0 0 (am_FiI J Q (s_X10_letBy_L39 a1 a2 a3 a4 f g v6 v7 I))) 0 0 92 39 [some (.ref 46), none, none, none, none, none, some (.int v6), some (.int v7)] [] I J Q) := by
  intro g
  induction g with
  | zero => exact fun _ _ _ hp => False.elim hp
  | succ g ih =>
    have ih_39 := ih
    intro v6 v7 I hp
    rw [s_X10_letBy_L39]
    rw [p_X10_letBy_L39] at hp
    refine gd_iload (q := 41) rfl rfl rfl ?_
    refine gd_aload_n (q := 42) rfl rfl rfl ?_
    refine gd_getR (q := 45) (r := 55) rfl rfl rfl (Nat.le_of_ble_eq_true rfl) rfl rfl (gr_46_20 hG) ?_
    refine gd_iload (q := 47) rfl rfl rfl ?_
    refine gd_iald (q := 48) rfl rfl (Nat.le_of_ble_eq_true rfl) rfl hp.1 ?_
    replace hp := hp.2
    refine gx_icmp_ge (q := 51) (r := 115) rfl rfl rfl hp (fun c_48 hp => ?_) (fun c_48 hp => ?_)
    · refine gd_bipush (v := (-3)) (q := 117) rfl rfl rfl ?_
      exact gd_ireturn rfl rfl rfl (Nat.le_refl 0) (Nat.le_refl 0) rfl
    · refine gd_aload_n (q := 52) rfl rfl rfl ?_
      refine gd_getR (q := 55) (r := 56) rfl rfl rfl (Nat.le_of_ble_eq_true rfl) rfl rfl (gr_46_21 hG) ?_
      refine gd_bipush (v := 16) (q := 57) rfl rfl rfl ?_
      refine gd_iload (q := 59) rfl rfl rfl ?_
      refine gd_imul (q := 60) rfl rfl ?_
      refine gd_iload (q := 62) rfl rfl rfl ?_
      refine gd_iadd (q := 63) rfl rfl ?_
      refine gd_iald (q := 64) rfl rfl (Nat.le_of_ble_eq_true rfl) rfl hp.1 ?_
      replace hp := hp.2
      refine gd_iconst (v := 2) (q := 65) rfl rfl rfl ?_
      refine gx_icmp_ge (q := 68) (r := 109) rfl rfl rfl hp (fun c_65 hp => ?_) (fun c_65 hp => ?_)
      · refine gd_iinc (v := (v7 + 1)) (q := 112) rfl rfl rfl rfl (Nat.le_of_ble_eq_true rfl) rfl ?_
        refine gd_goto (q := 39) rfl rfl ?_
        exact ih_39 _ _ _ hp
      · refine gd_aload_n (q := 69) rfl rfl rfl ?_
        refine gd_bipush (v := 16) (q := 71) rfl rfl rfl ?_
        refine gd_iload (q := 73) rfl rfl rfl ?_
        refine gd_imul (q := 74) rfl rfl ?_
        refine gd_iload (q := 76) rfl rfl rfl ?_
        refine gd_iadd (q := 77) rfl rfl ?_
        refine gd_iload (q := 79) rfl rfl rfl ?_
        refine gd_cVi (q := 82) rfl rfl lk10_306 myX10_holds vxX10_holds (ct_X10_holds f _ _ _ hG _ _ hp.1) rfl (Nat.le_of_ble_eq_true rfl) rfl rfl (Nat.le_of_ble_eq_true rfl) rfl (Nat.le_of_ble_eq_true rfl) ⟨(Nat.le_of_ble_eq_true rfl), (Nat.le_of_ble_eq_true rfl)⟩ ?_
        replace hp := hp.2
        refine gx_if_eq (q := 85) (r := 109) rfl rfl rfl hp (fun c_82 hp => ?_) (fun c_82 hp => ?_)
        · refine gd_iinc (v := (v7 + 1)) (q := 112) rfl rfl rfl rfl (Nat.le_of_ble_eq_true rfl) rfl ?_
          refine gd_goto (q := 39) rfl rfl ?_
          exact ih_39 _ _ _ hp
        · refine gd_aload_n (q := 86) rfl rfl rfl ?_
          refine gd_getR (q := 89) (r := 56) rfl rfl rfl (Nat.le_of_ble_eq_true rfl) rfl rfl (gr_46_21 hG) ?_
          refine gd_bipush (v := 16) (q := 91) rfl rfl rfl ?_
          refine gd_iload (q := 93) rfl rfl rfl ?_
          refine gd_imul (q := 94) rfl rfl ?_
          refine gd_iload (q := 96) rfl rfl rfl ?_
          refine gd_iadd (q := 97) rfl rfl ?_
          refine gd_iald (q := 98) rfl rfl (Nat.le_of_ble_eq_true rfl) rfl hp ?_
          refine gy_if_ne (q := 101) (r := 106) rfl rfl rfl (fun c_98 => ?_) (fun c_98 => ?_)
          · refine gd_iload (q := 103) rfl rfl rfl ?_
            refine gd_goto (q := 108) rfl rfl ?_
            exact gd_ireturn rfl rfl rfl (Nat.le_refl 0) (Nat.le_refl 0) rfl
          · refine gd_bipush (v := (-2)) (q := 108) rfl rfl rfl ?_
            exact gd_ireturn rfl rfl rfl (Nat.le_refl 0) (Nat.le_refl 0) rfl
theorem gl_X10_letBy_39 (a1 : Int32) (a2 : Int32) (a3 : Int32) (a4 : Int32) (f : Nat) (J : am_J) (Q : am_Q) (hG : Gr Q) (g : Nat) : ∀ (v6 : Int32) (v7 : Int32) (I : am_I), p_X10_letBy_L39 a1 a2 a3 a4 f g v6 v7 I → Gd MX10_letBy (am_o 3 0 0 (am_FiI J Q (s_X10_letBy_L39 a1 a2 a3 a4 f g v6 v7 I))) 0 0 92 39 [some (.ref 46), none, none, none, none, none, some (.int v6), some (.int v7)] [] I J Q := (gl_X10_letBy_L39 a1 a2 a3 a4 f J Q hG g)
set_option maxRecDepth 100000 in
set_option maxHeartbeats 4000000 in
theorem gt_X10_letBy (f : Nat) (I : am_I) (J : am_J) (Q : am_Q) (hG : Gr Q) (a1 : Int32) (a2 : Int32) (a3 : Int32) (a4 : Int32) (hp : p_X10_letBy f I a1 a2 a3 a4) : Gd MX10_letBy (am_o 3 0 0 (am_FiI J Q (s_X10_letBy f I a1 a2 a3 a4))) 0 0 92 0 [some (.ref 46), some (.int a1), some (.int a2), some (.int a3), some (.int a4), none, none, none] [] I J Q := by
  unfold s_X10_letBy
  unfold p_X10_letBy at hp
  refine gd_aload_n (q := 1) rfl rfl rfl ?_
  refine gd_iload_n (q := 2) rfl rfl rfl ?_
  refine gd_iload_n (q := 3) rfl rfl rfl ?_
  refine gd_iload_n (q := 4) rfl rfl rfl ?_
  refine gd_iload (q := 6) rfl rfl rfl ?_
  refine gd_cVv (q := 9) rfl rfl lk10_302 myX10_asks vxX10_asks (ct_X10_asks f _ _ _ hG _ _ _ _ hp.1) rfl (Nat.le_of_ble_eq_true rfl) rfl rfl (Nat.le_of_ble_eq_true rfl) rfl (Nat.le_of_ble_eq_true rfl) ⟨(Nat.le_of_ble_eq_true rfl), (Nat.le_of_ble_eq_true rfl)⟩ ?_
  replace hp := hp.2
  refine gd_aload_n (q := 10) rfl rfl rfl ?_
  refine gd_getR (q := 13) (r := 71) rfl rfl rfl (Nat.le_of_ble_eq_true rfl) rfl rfl (gr_46_41 hG) ?_
  refine gd_aload_n (q := 14) rfl rfl rfl ?_
  refine gd_getR (q := 17) (r := 74) rfl rfl rfl (Nat.le_of_ble_eq_true rfl) rfl rfl (gr_46_45 hG) ?_
  refine gd_iload_n (q := 18) rfl rfl rfl ?_
  refine gd_iald (q := 19) rfl rfl (Nat.le_of_ble_eq_true rfl) rfl hp.1 ?_
  replace hp := hp.2
  refine gd_iald (q := 20) rfl rfl (Nat.le_of_ble_eq_true rfl) rfl hp.1 ?_
  replace hp := hp.2
  refine gd_istore (q := 22) rfl rfl (Nat.le_of_ble_eq_true rfl) rfl ?_
  refine gd_iconst (v := 2) (q := 23) rfl rfl rfl ?_
  refine gd_iload (q := 25) rfl rfl rfl ?_
  refine gd_imul (q := 26) rfl rfl ?_
  refine gd_aload_n (q := 27) rfl rfl rfl ?_
  refine gd_getR (q := 30) (r := 54) rfl rfl rfl (Nat.le_of_ble_eq_true rfl) rfl rfl (gr_46_18 hG) ?_
  refine gd_iload (q := 32) rfl rfl rfl ?_
  refine gd_iald (q := 33) rfl rfl (Nat.le_of_ble_eq_true rfl) rfl hp.1 ?_
  replace hp := hp.2
  refine gd_iadd (q := 34) rfl rfl ?_
  refine gd_istore (q := 36) rfl rfl (Nat.le_of_ble_eq_true rfl) rfl ?_
  refine gd_iconst (v := 0) (q := 37) rfl rfl rfl ?_
  refine gd_istore (q := 39) rfl rfl (Nat.le_of_ble_eq_true rfl) rfl ?_
  refine gd_drop 1 ?_
  refine gd_drop 2 ?_
  refine gd_drop 3 ?_
  refine gd_drop 4 ?_
  refine gd_drop 5 ?_
  exact gl_X10_letBy_39 a1 a2 a3 a4 f J Q hG f _ 0 _ hp
theorem ct_X10_letBy (f : Nat) (I : am_I) (J : am_J) (Q : am_Q) (hG : Gr Q) (a1 : Int32) (a2 : Int32) (a3 : Int32) (a4 : Int32) (hp : p_X10_letBy f I a1 a2 a3 a4) : Cm MX10_letBy 3 0 0 92 [.ref 46, .int a1, .int a2, .int a3, .int a4] I J Q (am_FiI J Q (s_X10_letBy f I a1 a2 a3 a4)) := cm_of (by decide) rfl IX10_letBy_ok (Nat.le_of_ble_eq_true rfl) (gt_X10_letBy f I J Q hG a1 a2 a3 a4 hp)
def s_X10_let (f : Nat) (I : am_I) (a1 : Int32) (a2 : Int32) (a3 : Int32) (a4 : Int32) : Int32 × am_I := (if (s_X10_isAsked I a1 a2 a3 a4) = 0 then ((-1), I) else (((s_X10_letBy f I a1 a2 a3 a4).1), ((s_X10_letBy f I a1 a2 a3 a4).2)))
def p_X10_let (f : Nat) (I : am_I) (a1 : Int32) (a2 : Int32) (a3 : Int32) (a4 : Int32) : Prop := (if (s_X10_isAsked I a1 a2 a3 a4) = 0 then True else (p_X10_letBy f I a1 a2 a3 a4))
set_option maxRecDepth 100000 in
set_option maxHeartbeats 4000000 in
theorem gt_X10_let (f : Nat) (I : am_I) (J : am_J) (Q : am_Q) (hG : Gr Q) (a1 : Int32) (a2 : Int32) (a3 : Int32) (a4 : Int32) (hp : p_X10_let f I a1 a2 a3 a4) : Gd MX10_let (am_o 4 0 0 (am_FiI J Q (s_X10_let f I a1 a2 a3 a4))) 0 0 92 0 [some (.ref 46), some (.int a1), some (.int a2), some (.int a3), some (.int a4)] [] I J Q := by
  unfold s_X10_let
  unfold p_X10_let at hp
  refine gd_aload_n (q := 1) rfl rfl rfl ?_
  refine gd_iload_n (q := 2) rfl rfl rfl ?_
  refine gd_iload_n (q := 3) rfl rfl rfl ?_
  refine gd_iload_n (q := 4) rfl rfl rfl ?_
  refine gd_iload (q := 6) rfl rfl rfl ?_
  refine gd_cVi (q := 9) rfl rfl lk10_310 myX10_isAsked vxX10_isAsked (ct_X10_isAsked f _ _ _ hG _ _ _ _) rfl (Nat.le_of_ble_eq_true rfl) rfl rfl (Nat.le_of_ble_eq_true rfl) rfl (Nat.le_of_ble_eq_true rfl) ⟨(Nat.le_of_ble_eq_true rfl), (Nat.le_of_ble_eq_true rfl)⟩ ?_
  refine gx_if_eq (q := 12) (r := 24) rfl rfl rfl hp (fun c_9 hp => ?_) (fun c_9 hp => ?_)
  · refine gd_iconst (v := (-1)) (q := 25) rfl rfl rfl ?_
    exact gd_ireturn rfl rfl rfl (Nat.le_refl 0) (Nat.le_refl 0) rfl
  · refine gd_aload_n (q := 13) rfl rfl rfl ?_
    refine gd_iload_n (q := 14) rfl rfl rfl ?_
    refine gd_iload_n (q := 15) rfl rfl rfl ?_
    refine gd_iload_n (q := 16) rfl rfl rfl ?_
    refine gd_iload (q := 18) rfl rfl rfl ?_
    refine gd_cVi (q := 21) rfl rfl lk10_314 myX10_letBy vxX10_letBy (ct_X10_letBy f _ _ _ hG _ _ _ _ hp) rfl (Nat.le_of_ble_eq_true rfl) rfl rfl (Nat.le_of_ble_eq_true rfl) rfl (Nat.le_of_ble_eq_true rfl) ⟨(Nat.le_of_ble_eq_true rfl), (Nat.le_of_ble_eq_true rfl)⟩ ?_
    refine gd_goto (q := 25) rfl rfl ?_
    exact gd_ireturn rfl rfl rfl (Nat.le_refl 0) (Nat.le_refl 0) rfl
theorem ct_X10_let (f : Nat) (I : am_I) (J : am_J) (Q : am_Q) (hG : Gr Q) (a1 : Int32) (a2 : Int32) (a3 : Int32) (a4 : Int32) (hp : p_X10_let f I a1 a2 a3 a4) : Cm MX10_let 4 0 0 92 [.ref 46, .int a1, .int a2, .int a3, .int a4] I J Q (am_FiI J Q (s_X10_let f I a1 a2 a3 a4)) := cm_of (by decide) rfl IX10_let_ok (Nat.le_of_ble_eq_true rfl) (gt_X10_let f I J Q hG a1 a2 a3 a4 hp)
def s_X10_maskBy_L51 (a1 : Int32) (a2 : Int32) (a3 : Int32) (a4 : Int32) (f : Nat) : Nat → Int32 → Int32 → am_I → Int32 × am_I
  | 0, _, _, I => (0, I)
  | g + 1, v6, v7, I => (if (I 55 v6.toNatClampNeg) ≤ v7 then ((-1), I) else (if (I 56 ((16 * v6) + v7).toNatClampNeg) = 2 then (if ((s_X10_holds f I ((16 * v6) + v7) v6).1) = 0 then (s_X10_maskBy_L51 a1 a2 a3 a4 f g v6 (v7 + 1) ((s_X10_holds f I ((16 * v6) + v7) v6).2)) else (v7, ((s_X10_holds f I ((16 * v6) + v7) v6).2))) else (s_X10_maskBy_L51 a1 a2 a3 a4 f g v6 (v7 + 1) I)))
def p_X10_maskBy_L51 (a1 : Int32) (a2 : Int32) (a3 : Int32) (a4 : Int32) (f : Nat) : Nat → Int32 → Int32 → am_I → Prop
  | 0, _, _, _ => False
  | g + 1, v6, v7, I => (vp_in v6 24 ∧ (if (I 55 v6.toNatClampNeg) ≤ v7 then True else (vp_in ((16 * v6) + v7) 384 ∧ (if (I 56 ((16 * v6) + v7).toNatClampNeg) = 2 then ((p_X10_holds f I ((16 * v6) + v7) v6) ∧ (if ((s_X10_holds f I ((16 * v6) + v7) v6).1) = 0 then (p_X10_maskBy_L51 a1 a2 a3 a4 f g v6 (v7 + 1) ((s_X10_holds f I ((16 * v6) + v7) v6).2)) else True)) else (p_X10_maskBy_L51 a1 a2 a3 a4 f g v6 (v7 + 1) I)))))
def s_X10_maskBy (f : Nat) (I : am_I) (a1 : Int32) (a2 : Int32) (a3 : Int32) (a4 : Int32) : Int32 × am_I := (if (I 78 a1.toNatClampNeg) = (-1) then ((-1), I) else (s_X10_maskBy_L51 a1 a2 a3 a4 f f ((2 * ((s_X10_asks I a1 a2 a3 a4) 71 ((s_X10_asks I a1 a2 a3 a4) 74 a1.toNatClampNeg).toNatClampNeg)) + ((s_X10_asks I a1 a2 a3 a4) 54 ((s_X10_asks I a1 a2 a3 a4) 71 ((s_X10_asks I a1 a2 a3 a4) 74 a1.toNatClampNeg).toNatClampNeg).toNatClampNeg)) 0 (s_X10_asks I a1 a2 a3 a4)))
def p_X10_maskBy (f : Nat) (I : am_I) (a1 : Int32) (a2 : Int32) (a3 : Int32) (a4 : Int32) : Prop := (vp_in a1 30 ∧ (if (I 78 a1.toNatClampNeg) = (-1) then True else ((p_X10_asks I a1 a2 a3 a4) ∧ (vp_in a1 30 ∧ (vp_in ((s_X10_asks I a1 a2 a3 a4) 74 a1.toNatClampNeg) 6 ∧ (vp_in ((s_X10_asks I a1 a2 a3 a4) 71 ((s_X10_asks I a1 a2 a3 a4) 74 a1.toNatClampNeg).toNatClampNeg) 12 ∧ (p_X10_maskBy_L51 a1 a2 a3 a4 f f ((2 * ((s_X10_asks I a1 a2 a3 a4) 71 ((s_X10_asks I a1 a2 a3 a4) 74 a1.toNatClampNeg).toNatClampNeg)) + ((s_X10_asks I a1 a2 a3 a4) 54 ((s_X10_asks I a1 a2 a3 a4) 71 ((s_X10_asks I a1 a2 a3 a4) 74 a1.toNatClampNeg).toNatClampNeg).toNatClampNeg)) 0 (s_X10_asks I a1 a2 a3 a4))))))))
set_option maxRecDepth 100000 in
set_option maxHeartbeats 4000000 in
theorem gl_X10_maskBy_L51 (a1 : Int32) (a2 : Int32) (a3 : Int32) (a4 : Int32) (f : Nat) (J : am_J) (Q : am_Q) (hG : Gr Q) : ∀ g : Nat, (∀ (v6 : Int32) (v7 : Int32) (I : am_I), p_X10_maskBy_L51 a1 a2 a3 a4 f g v6 v7 I → Gd MX10_maskBy (am_o 3 0 0 (am_FiI J Q (s_X10_maskBy_L51 a1 a2 a3 a4 f g v6 v7 I))) 0 0 92 51 [some (.ref 46), none, none, none, none, none, some (.int v6), some (.int v7)] [] I J Q) := by
  intro g
  induction g with
  | zero => exact fun _ _ _ hp => False.elim hp
  | succ g ih =>
    have ih_51 := ih
    intro v6 v7 I hp
    rw [s_X10_maskBy_L51]
    rw [p_X10_maskBy_L51] at hp
    refine gd_iload (q := 53) rfl rfl rfl ?_
    refine gd_aload_n (q := 54) rfl rfl rfl ?_
    refine gd_getR (q := 57) (r := 55) rfl rfl rfl (Nat.le_of_ble_eq_true rfl) rfl rfl (gr_46_20 hG) ?_
    refine gd_iload (q := 59) rfl rfl rfl ?_
    refine gd_iald (q := 60) rfl rfl (Nat.le_of_ble_eq_true rfl) rfl hp.1 ?_
    replace hp := hp.2
    refine gx_icmp_ge (q := 63) (r := 106) rfl rfl rfl hp (fun c_60 hp => ?_) (fun c_60 hp => ?_)
    · refine gd_iconst (v := (-1)) (q := 107) rfl rfl rfl ?_
      exact gd_ireturn rfl rfl rfl (Nat.le_refl 0) (Nat.le_refl 0) rfl
    · refine gd_aload_n (q := 64) rfl rfl rfl ?_
      refine gd_getR (q := 67) (r := 56) rfl rfl rfl (Nat.le_of_ble_eq_true rfl) rfl rfl (gr_46_21 hG) ?_
      refine gd_bipush (v := 16) (q := 69) rfl rfl rfl ?_
      refine gd_iload (q := 71) rfl rfl rfl ?_
      refine gd_imul (q := 72) rfl rfl ?_
      refine gd_iload (q := 74) rfl rfl rfl ?_
      refine gd_iadd (q := 75) rfl rfl ?_
      refine gd_iald (q := 76) rfl rfl (Nat.le_of_ble_eq_true rfl) rfl hp.1 ?_
      replace hp := hp.2
      refine gd_iconst (v := 2) (q := 77) rfl rfl rfl ?_
      refine gx_icmp_ne (q := 80) (r := 100) rfl rfl rfl hp (fun c_77 hp => ?_) (fun c_77 hp => ?_)
      · refine gd_aload_n (q := 81) rfl rfl rfl ?_
        refine gd_bipush (v := 16) (q := 83) rfl rfl rfl ?_
        refine gd_iload (q := 85) rfl rfl rfl ?_
        refine gd_imul (q := 86) rfl rfl ?_
        refine gd_iload (q := 88) rfl rfl rfl ?_
        refine gd_iadd (q := 89) rfl rfl ?_
        refine gd_iload (q := 91) rfl rfl rfl ?_
        refine gd_cVi (q := 94) rfl rfl lk10_306 myX10_holds vxX10_holds (ct_X10_holds f _ _ _ hG _ _ hp.1) rfl (Nat.le_of_ble_eq_true rfl) rfl rfl (Nat.le_of_ble_eq_true rfl) rfl (Nat.le_of_ble_eq_true rfl) ⟨(Nat.le_of_ble_eq_true rfl), (Nat.le_of_ble_eq_true rfl)⟩ ?_
        replace hp := hp.2
        refine gx_if_eq (q := 97) (r := 100) rfl rfl rfl hp (fun c_94 hp => ?_) (fun c_94 hp => ?_)
        · refine gd_iinc (v := (v7 + 1)) (q := 103) rfl rfl rfl rfl (Nat.le_of_ble_eq_true rfl) rfl ?_
          refine gd_goto (q := 51) rfl rfl ?_
          exact ih_51 _ _ _ hp
        · refine gd_iload (q := 99) rfl rfl rfl ?_
          exact gd_ireturn rfl rfl rfl (Nat.le_refl 0) (Nat.le_refl 0) rfl
      · refine gd_iinc (v := (v7 + 1)) (q := 103) rfl rfl rfl rfl (Nat.le_of_ble_eq_true rfl) rfl ?_
        refine gd_goto (q := 51) rfl rfl ?_
        exact ih_51 _ _ _ hp
theorem gl_X10_maskBy_51 (a1 : Int32) (a2 : Int32) (a3 : Int32) (a4 : Int32) (f : Nat) (J : am_J) (Q : am_Q) (hG : Gr Q) (g : Nat) : ∀ (v6 : Int32) (v7 : Int32) (I : am_I), p_X10_maskBy_L51 a1 a2 a3 a4 f g v6 v7 I → Gd MX10_maskBy (am_o 3 0 0 (am_FiI J Q (s_X10_maskBy_L51 a1 a2 a3 a4 f g v6 v7 I))) 0 0 92 51 [some (.ref 46), none, none, none, none, none, some (.int v6), some (.int v7)] [] I J Q := (gl_X10_maskBy_L51 a1 a2 a3 a4 f J Q hG g)
set_option maxRecDepth 100000 in
set_option maxHeartbeats 4000000 in
theorem gt_X10_maskBy (f : Nat) (I : am_I) (J : am_J) (Q : am_Q) (hG : Gr Q) (a1 : Int32) (a2 : Int32) (a3 : Int32) (a4 : Int32) (hp : p_X10_maskBy f I a1 a2 a3 a4) : Gd MX10_maskBy (am_o 3 0 0 (am_FiI J Q (s_X10_maskBy f I a1 a2 a3 a4))) 0 0 92 0 [some (.ref 46), some (.int a1), some (.int a2), some (.int a3), some (.int a4), none, none, none] [] I J Q := by
  unfold s_X10_maskBy
  unfold p_X10_maskBy at hp
  refine gd_aload_n (q := 1) rfl rfl rfl ?_
  refine gd_getR (q := 4) (r := 78) rfl rfl rfl (Nat.le_of_ble_eq_true rfl) rfl rfl (gr_46_49 hG) ?_
  refine gd_iload_n (q := 5) rfl rfl rfl ?_
  refine gd_iald (q := 6) rfl rfl (Nat.le_of_ble_eq_true rfl) rfl hp.1 ?_
  replace hp := hp.2
  refine gd_iconst (v := (-1)) (q := 7) rfl rfl rfl ?_
  refine gx_icmp_ne (q := 10) (r := 12) rfl rfl rfl hp (fun c_7 hp => ?_) (fun c_7 hp => ?_)
  · refine gd_iconst (v := (-1)) (q := 11) rfl rfl rfl ?_
    exact gd_ireturn rfl rfl rfl (Nat.le_refl 0) (Nat.le_refl 0) rfl
  · refine gd_aload_n (q := 13) rfl rfl rfl ?_
    refine gd_iload_n (q := 14) rfl rfl rfl ?_
    refine gd_iload_n (q := 15) rfl rfl rfl ?_
    refine gd_iload_n (q := 16) rfl rfl rfl ?_
    refine gd_iload (q := 18) rfl rfl rfl ?_
    refine gd_cVv (q := 21) rfl rfl lk10_302 myX10_asks vxX10_asks (ct_X10_asks f _ _ _ hG _ _ _ _ hp.1) rfl (Nat.le_of_ble_eq_true rfl) rfl rfl (Nat.le_of_ble_eq_true rfl) rfl (Nat.le_of_ble_eq_true rfl) ⟨(Nat.le_of_ble_eq_true rfl), (Nat.le_of_ble_eq_true rfl)⟩ ?_
    replace hp := hp.2
    refine gd_aload_n (q := 22) rfl rfl rfl ?_
    refine gd_getR (q := 25) (r := 71) rfl rfl rfl (Nat.le_of_ble_eq_true rfl) rfl rfl (gr_46_41 hG) ?_
    refine gd_aload_n (q := 26) rfl rfl rfl ?_
    refine gd_getR (q := 29) (r := 74) rfl rfl rfl (Nat.le_of_ble_eq_true rfl) rfl rfl (gr_46_45 hG) ?_
    refine gd_iload_n (q := 30) rfl rfl rfl ?_
    refine gd_iald (q := 31) rfl rfl (Nat.le_of_ble_eq_true rfl) rfl hp.1 ?_
    replace hp := hp.2
    refine gd_iald (q := 32) rfl rfl (Nat.le_of_ble_eq_true rfl) rfl hp.1 ?_
    replace hp := hp.2
    refine gd_istore (q := 34) rfl rfl (Nat.le_of_ble_eq_true rfl) rfl ?_
    refine gd_iconst (v := 2) (q := 35) rfl rfl rfl ?_
    refine gd_iload (q := 37) rfl rfl rfl ?_
    refine gd_imul (q := 38) rfl rfl ?_
    refine gd_aload_n (q := 39) rfl rfl rfl ?_
    refine gd_getR (q := 42) (r := 54) rfl rfl rfl (Nat.le_of_ble_eq_true rfl) rfl rfl (gr_46_18 hG) ?_
    refine gd_iload (q := 44) rfl rfl rfl ?_
    refine gd_iald (q := 45) rfl rfl (Nat.le_of_ble_eq_true rfl) rfl hp.1 ?_
    replace hp := hp.2
    refine gd_iadd (q := 46) rfl rfl ?_
    refine gd_istore (q := 48) rfl rfl (Nat.le_of_ble_eq_true rfl) rfl ?_
    refine gd_iconst (v := 0) (q := 49) rfl rfl rfl ?_
    refine gd_istore (q := 51) rfl rfl (Nat.le_of_ble_eq_true rfl) rfl ?_
    refine gd_drop 1 ?_
    refine gd_drop 2 ?_
    refine gd_drop 3 ?_
    refine gd_drop 4 ?_
    refine gd_drop 5 ?_
    exact gl_X10_maskBy_51 a1 a2 a3 a4 f J Q hG f _ 0 _ hp
theorem ct_X10_maskBy (f : Nat) (I : am_I) (J : am_J) (Q : am_Q) (hG : Gr Q) (a1 : Int32) (a2 : Int32) (a3 : Int32) (a4 : Int32) (hp : p_X10_maskBy f I a1 a2 a3 a4) : Cm MX10_maskBy 3 0 0 92 [.ref 46, .int a1, .int a2, .int a3, .int a4] I J Q (am_FiI J Q (s_X10_maskBy f I a1 a2 a3 a4)) := cm_of (by decide) rfl IX10_maskBy_ok (Nat.le_of_ble_eq_true rfl) (gt_X10_maskBy f I J Q hG a1 a2 a3 a4 hp)
def s_X10_mask (f : Nat) (I : am_I) (a1 : Int32) (a2 : Int32) (a3 : Int32) (a4 : Int32) : Int32 × am_I := (if (s_X10_isAsked I a1 a2 a3 a4) = 0 then ((-1), I) else (((s_X10_maskBy f I a1 a2 a3 a4).1), ((s_X10_maskBy f I a1 a2 a3 a4).2)))
def p_X10_mask (f : Nat) (I : am_I) (a1 : Int32) (a2 : Int32) (a3 : Int32) (a4 : Int32) : Prop := (if (s_X10_isAsked I a1 a2 a3 a4) = 0 then True else (p_X10_maskBy f I a1 a2 a3 a4))
set_option maxRecDepth 100000 in
set_option maxHeartbeats 4000000 in
theorem gt_X10_mask (f : Nat) (I : am_I) (J : am_J) (Q : am_Q) (hG : Gr Q) (a1 : Int32) (a2 : Int32) (a3 : Int32) (a4 : Int32) (hp : p_X10_mask f I a1 a2 a3 a4) : Gd MX10_mask (am_o 4 0 0 (am_FiI J Q (s_X10_mask f I a1 a2 a3 a4))) 0 0 92 0 [some (.ref 46), some (.int a1), some (.int a2), some (.int a3), some (.int a4)] [] I J Q := by
  unfold s_X10_mask
  unfold p_X10_mask at hp
  refine gd_aload_n (q := 1) rfl rfl rfl ?_
  refine gd_iload_n (q := 2) rfl rfl rfl ?_
  refine gd_iload_n (q := 3) rfl rfl rfl ?_
  refine gd_iload_n (q := 4) rfl rfl rfl ?_
  refine gd_iload (q := 6) rfl rfl rfl ?_
  refine gd_cVi (q := 9) rfl rfl lk10_310 myX10_isAsked vxX10_isAsked (ct_X10_isAsked f _ _ _ hG _ _ _ _) rfl (Nat.le_of_ble_eq_true rfl) rfl rfl (Nat.le_of_ble_eq_true rfl) rfl (Nat.le_of_ble_eq_true rfl) ⟨(Nat.le_of_ble_eq_true rfl), (Nat.le_of_ble_eq_true rfl)⟩ ?_
  refine gx_if_eq (q := 12) (r := 24) rfl rfl rfl hp (fun c_9 hp => ?_) (fun c_9 hp => ?_)
  · refine gd_iconst (v := (-1)) (q := 25) rfl rfl rfl ?_
    exact gd_ireturn rfl rfl rfl (Nat.le_refl 0) (Nat.le_refl 0) rfl
  · refine gd_aload_n (q := 13) rfl rfl rfl ?_
    refine gd_iload_n (q := 14) rfl rfl rfl ?_
    refine gd_iload_n (q := 15) rfl rfl rfl ?_
    refine gd_iload_n (q := 16) rfl rfl rfl ?_
    refine gd_iload (q := 18) rfl rfl rfl ?_
    refine gd_cVi (q := 21) rfl rfl lk10_318 myX10_maskBy vxX10_maskBy (ct_X10_maskBy f _ _ _ hG _ _ _ _ hp) rfl (Nat.le_of_ble_eq_true rfl) rfl rfl (Nat.le_of_ble_eq_true rfl) rfl (Nat.le_of_ble_eq_true rfl) ⟨(Nat.le_of_ble_eq_true rfl), (Nat.le_of_ble_eq_true rfl)⟩ ?_
    refine gd_goto (q := 25) rfl rfl ?_
    exact gd_ireturn rfl rfl rfl (Nat.le_refl 0) (Nat.le_refl 0) rfl
theorem ct_X10_mask (f : Nat) (I : am_I) (J : am_J) (Q : am_Q) (hG : Gr Q) (a1 : Int32) (a2 : Int32) (a3 : Int32) (a4 : Int32) (hp : p_X10_mask f I a1 a2 a3 a4) : Cm MX10_mask 4 0 0 92 [.ref 46, .int a1, .int a2, .int a3, .int a4] I J Q (am_FiI J Q (s_X10_mask f I a1 a2 a3 a4)) := cm_of (by decide) rfl IX10_mask_ok (Nat.le_of_ble_eq_true rfl) (gt_X10_mask f I J Q hG a1 a2 a3 a4 hp)
def s_X10_isAsker (I : am_I) (a1 : Int32) : Int32 := (if a1 < 0 then 0 else (if (I 46 52) ≤ a1 then 0 else 1))
theorem z_X10_isAsker (I : am_I) (a1 : Int32) : (s_X10_isAsker I a1) = 0 ∨ (s_X10_isAsker I a1) = 1 := by
  unfold s_X10_isAsker
  repeat' split
  all_goals first | exact Or.inl rfl | exact Or.inr rfl
set_option maxRecDepth 100000 in
set_option maxHeartbeats 4000000 in
theorem gt_X10_isAsker (f : Nat) (I : am_I) (J : am_J) (Q : am_Q) (hG : Gr Q) (a1 : Int32) : Gd MX10_isAsker (am_o 0 0 0 (am_Fi I J Q (s_X10_isAsker I a1))) 0 0 92 0 [some (.ref 46), some (.int a1)] [] I J Q := by
  unfold s_X10_isAsker
  refine gd_iload_n (q := 1) rfl rfl rfl ?_
  refine gy_if_lt (q := 4) (r := 16) rfl rfl rfl (fun c_1 => ?_) (fun c_1 => ?_)
  · refine gd_iconst (v := 0) (q := 17) rfl rfl rfl ?_
    exact gd_ireturn rfl rfl rfl (Nat.le_refl 0) (Nat.le_refl 0) rfl
  · refine gd_iload_n (q := 5) rfl rfl rfl ?_
    refine gd_aload_n (q := 6) rfl rfl rfl ?_
    refine gd_getI (q := 9) rfl rfl rfl (Nat.le_of_ble_eq_true rfl) rfl rfl ?_
    refine gy_icmp_ge (q := 12) (r := 16) rfl rfl rfl (fun c_9 => ?_) (fun c_9 => ?_)
    · refine gd_iconst (v := 0) (q := 17) rfl rfl rfl ?_
      exact gd_ireturn rfl rfl rfl (Nat.le_refl 0) (Nat.le_refl 0) rfl
    · refine gd_iconst (v := 1) (q := 13) rfl rfl rfl ?_
      refine gd_goto (q := 17) rfl rfl ?_
      exact gd_ireturn rfl rfl rfl (Nat.le_refl 0) (Nat.le_refl 0) rfl
theorem ct_X10_isAsker (f : Nat) (I : am_I) (J : am_J) (Q : am_Q) (hG : Gr Q) (a1 : Int32) : Cm MX10_isAsker 0 0 0 92 [.ref 46, .int a1] I J Q (am_Fi I J Q (s_X10_isAsker I a1)) := cm_of (by decide) rfl IX10_isAsker_ok (Nat.le_of_ble_eq_true rfl) (gt_X10_isAsker f I J Q hG a1)
def s_X10_isAsking (I : am_I) (a1 : Int32) (a2 : Int32) (a3 : Int32) (a4 : Int32) (a5 : Int32) : Int32 := (if (s_X10_isAsker I a1) = 0 then 0 else (if (s_X10_isPiece I a2) = 0 then 0 else (if a3 < (-1) then 0 else (if (I 46 54) ≤ a3 then 0 else (if (s_X10_isDay a4) = 0 then 0 else (if (s_X10_isFour a5) = 0 then 0 else 1))))))
theorem z_X10_isAsking (I : am_I) (a1 : Int32) (a2 : Int32) (a3 : Int32) (a4 : Int32) (a5 : Int32) : (s_X10_isAsking I a1 a2 a3 a4 a5) = 0 ∨ (s_X10_isAsking I a1 a2 a3 a4 a5) = 1 := by
  unfold s_X10_isAsking
  repeat' split
  all_goals first | exact Or.inl rfl | exact Or.inr rfl | exact z_X10_isAsker _ _ | exact z_X10_isPiece _ _ | exact z_X10_isDay _ | exact z_X10_isFour _
set_option maxRecDepth 100000 in
set_option maxHeartbeats 4000000 in
theorem gt_X10_isAsking (f : Nat) (I : am_I) (J : am_J) (Q : am_Q) (hG : Gr Q) (a1 : Int32) (a2 : Int32) (a3 : Int32) (a4 : Int32) (a5 : Int32) : Gd MX10_isAsking (am_o 1 0 0 (am_Fi I J Q (s_X10_isAsking I a1 a2 a3 a4 a5))) 0 0 92 0 [some (.ref 46), some (.int a1), some (.int a2), some (.int a3), some (.int a4), some (.int a5)] [] I J Q := by
  unfold s_X10_isAsking
  refine gd_aload_n (q := 1) rfl rfl rfl ?_
  refine gd_iload_n (q := 2) rfl rfl rfl ?_
  refine gd_cVi (q := 5) rfl rfl lk10_321 myX10_isAsker vxX10_isAsker (ct_X10_isAsker f _ _ _ hG _) rfl (Nat.le_of_ble_eq_true rfl) rfl rfl (Nat.le_of_ble_eq_true rfl) rfl (Nat.le_of_ble_eq_true rfl) ⟨(Nat.le_of_ble_eq_true rfl), (Nat.le_of_ble_eq_true rfl)⟩ ?_
  refine gy_if_eq (q := 8) (r := 49) rfl rfl rfl (fun c_5 => ?_) (fun c_5 => ?_)
  · refine gd_iconst (v := 0) (q := 50) rfl rfl rfl ?_
    exact gd_ireturn rfl rfl rfl (Nat.le_refl 0) (Nat.le_refl 0) rfl
  · refine gd_aload_n (q := 9) rfl rfl rfl ?_
    refine gd_iload_n (q := 10) rfl rfl rfl ?_
    refine gd_cVi (q := 13) rfl rfl lk10_289 myX10_isPiece vxX10_isPiece (ct_X10_isPiece f _ _ _ hG _) rfl (Nat.le_of_ble_eq_true rfl) rfl rfl (Nat.le_of_ble_eq_true rfl) rfl (Nat.le_of_ble_eq_true rfl) ⟨(Nat.le_of_ble_eq_true rfl), (Nat.le_of_ble_eq_true rfl)⟩ ?_
    refine gy_if_eq (q := 16) (r := 49) rfl rfl rfl (fun c_13 => ?_) (fun c_13 => ?_)
    · refine gd_iconst (v := 0) (q := 50) rfl rfl rfl ?_
      exact gd_ireturn rfl rfl rfl (Nat.le_refl 0) (Nat.le_refl 0) rfl
    · refine gd_iload_n (q := 17) rfl rfl rfl ?_
      refine gd_iconst (v := (-1)) (q := 18) rfl rfl rfl ?_
      refine gy_icmp_lt (q := 21) (r := 49) rfl rfl rfl (fun c_18 => ?_) (fun c_18 => ?_)
      · refine gd_iconst (v := 0) (q := 50) rfl rfl rfl ?_
        exact gd_ireturn rfl rfl rfl (Nat.le_refl 0) (Nat.le_refl 0) rfl
      · refine gd_iload_n (q := 22) rfl rfl rfl ?_
        refine gd_aload_n (q := 23) rfl rfl rfl ?_
        refine gd_getI (q := 26) rfl rfl rfl (Nat.le_of_ble_eq_true rfl) rfl rfl ?_
        refine gy_icmp_ge (q := 29) (r := 49) rfl rfl rfl (fun c_26 => ?_) (fun c_26 => ?_)
        · refine gd_iconst (v := 0) (q := 50) rfl rfl rfl ?_
          exact gd_ireturn rfl rfl rfl (Nat.le_refl 0) (Nat.le_refl 0) rfl
        · refine gd_iload (q := 31) rfl rfl rfl ?_
          refine gd_cSi (q := 34) rfl rfl lk10_283 myX10_isDay sxX10_isDay (ct_X10_isDay f _ _ _ hG _) rfl rfl (Nat.le_of_ble_eq_true rfl) ⟨(Nat.le_of_ble_eq_true rfl), (Nat.le_of_ble_eq_true rfl)⟩ ?_
          refine gy_if_eq (q := 37) (r := 49) rfl rfl rfl (fun c_34 => ?_) (fun c_34 => ?_)
          · refine gd_iconst (v := 0) (q := 50) rfl rfl rfl ?_
            exact gd_ireturn rfl rfl rfl (Nat.le_refl 0) (Nat.le_refl 0) rfl
          · refine gd_iload (q := 39) rfl rfl rfl ?_
            refine gd_cSi (q := 42) rfl rfl lk10_277 myX10_isFour sxX10_isFour (ct_X10_isFour f _ _ _ hG _) rfl rfl (Nat.le_of_ble_eq_true rfl) ⟨(Nat.le_of_ble_eq_true rfl), (Nat.le_of_ble_eq_true rfl)⟩ ?_
            refine gy_if_eq (q := 45) (r := 49) rfl rfl rfl (fun c_42 => ?_) (fun c_42 => ?_)
            · refine gd_iconst (v := 0) (q := 50) rfl rfl rfl ?_
              exact gd_ireturn rfl rfl rfl (Nat.le_refl 0) (Nat.le_refl 0) rfl
            · refine gd_iconst (v := 1) (q := 46) rfl rfl rfl ?_
              refine gd_goto (q := 50) rfl rfl ?_
              exact gd_ireturn rfl rfl rfl (Nat.le_refl 0) (Nat.le_refl 0) rfl
theorem ct_X10_isAsking (f : Nat) (I : am_I) (J : am_J) (Q : am_Q) (hG : Gr Q) (a1 : Int32) (a2 : Int32) (a3 : Int32) (a4 : Int32) (a5 : Int32) : Cm MX10_isAsking 1 0 0 92 [.ref 46, .int a1, .int a2, .int a3, .int a4, .int a5] I J Q (am_Fi I J Q (s_X10_isAsking I a1 a2 a3 a4 a5)) := cm_of (by decide) rfl IX10_isAsking_ok (Nat.le_of_ble_eq_true rfl) (gt_X10_isAsking f I J Q hG a1 a2 a3 a4 a5)
def s_X10_hasName_L2 (a1 : Int32) (a2 : Int32) (I : am_I) : Nat → Int32 → Int32
  | 0, _ => 0
  | g + 1, v3 => (if (I 46 44) ≤ v3 then 0 else (if (I 78 v3.toNatClampNeg) = a2 then (if (I 85 ((30 * a1) + v3).toNatClampNeg) = 2 then 1 else (s_X10_hasName_L2 a1 a2 I g (v3 + 1))) else (s_X10_hasName_L2 a1 a2 I g (v3 + 1))))
def p_X10_hasName_L2 (a1 : Int32) (a2 : Int32) (I : am_I) : Nat → Int32 → Prop
  | 0, _ => False
  | g + 1, v3 => (if (I 46 44) ≤ v3 then True else (vp_in v3 30 ∧ (if (I 78 v3.toNatClampNeg) = a2 then (vp_in ((30 * a1) + v3) 180 ∧ (if (I 85 ((30 * a1) + v3).toNatClampNeg) = 2 then True else (p_X10_hasName_L2 a1 a2 I g (v3 + 1)))) else (p_X10_hasName_L2 a1 a2 I g (v3 + 1)))))
theorem z_X10_hasName_L2 (a1 : Int32) (a2 : Int32) (I : am_I) : ∀ (g : Nat), (∀ (v3 : Int32), (s_X10_hasName_L2 a1 a2 I g v3) = 0 ∨ (s_X10_hasName_L2 a1 a2 I g v3) = 1) := by
  intro g
  induction g with
  | zero => (intros; exact Or.inl rfl)
  | succ g ih =>
    intro v3
    rw [s_X10_hasName_L2]
    repeat' split
    all_goals first | exact Or.inl rfl | exact Or.inr rfl | exact ih _
def s_X10_hasName (f : Nat) (I : am_I) (a1 : Int32) (a2 : Int32) : Int32 := (s_X10_hasName_L2 a1 a2 I f 0)
def p_X10_hasName (f : Nat) (I : am_I) (a1 : Int32) (a2 : Int32) : Prop := (p_X10_hasName_L2 a1 a2 I f 0)
theorem z_X10_hasName (f : Nat) (I : am_I) (a1 : Int32) (a2 : Int32) : (s_X10_hasName f I a1 a2) = 0 ∨ (s_X10_hasName f I a1 a2) = 1 := by
  unfold s_X10_hasName
  repeat' split
  all_goals first | exact Or.inl rfl | exact Or.inr rfl | exact (z_X10_hasName_L2 _ _ _ _) _
set_option maxRecDepth 100000 in
set_option maxHeartbeats 4000000 in
theorem gl_X10_hasName_L2 (a1 : Int32) (a2 : Int32) (f : Nat) (I : am_I) (J : am_J) (Q : am_Q) (hG : Gr Q) : ∀ g : Nat, (∀ (v3 : Int32), p_X10_hasName_L2 a1 a2 I g v3 → Gd MX10_hasName (am_o 0 0 0 (am_Fi I J Q (s_X10_hasName_L2 a1 a2 I g v3))) 0 0 92 2 [some (.ref 46), some (.int a1), some (.int a2), some (.int v3)] [] I J Q) := by
  intro g
  induction g with
  | zero => exact fun _ hp => False.elim hp
  | succ g ih =>
    have ih_2 := ih
    intro v3 hp
    rw [s_X10_hasName_L2]
    rw [p_X10_hasName_L2] at hp
    refine gd_iload_n (q := 3) rfl rfl rfl ?_
    refine gd_aload_n (q := 4) rfl rfl rfl ?_
    refine gd_getI (q := 7) rfl rfl rfl (Nat.le_of_ble_eq_true rfl) rfl rfl ?_
    refine gx_icmp_ge (q := 10) (r := 43) rfl rfl rfl hp (fun c_7 hp => ?_) (fun c_7 hp => ?_)
    · refine gd_iconst (v := 0) (q := 44) rfl rfl rfl ?_
      exact gd_ireturn rfl rfl rfl (Nat.le_refl 0) (Nat.le_refl 0) rfl
    · refine gd_aload_n (q := 11) rfl rfl rfl ?_
      refine gd_getR (q := 14) (r := 78) rfl rfl rfl (Nat.le_of_ble_eq_true rfl) rfl rfl (gr_46_49 hG) ?_
      refine gd_iload_n (q := 15) rfl rfl rfl ?_
      refine gd_iald (q := 16) rfl rfl (Nat.le_of_ble_eq_true rfl) rfl hp.1 ?_
      replace hp := hp.2
      refine gd_iload_n (q := 17) rfl rfl rfl ?_
      refine gx_icmp_ne (q := 20) (r := 37) rfl rfl rfl hp (fun c_17 hp => ?_) (fun c_17 hp => ?_)
      · refine gd_aload_n (q := 21) rfl rfl rfl ?_
        refine gd_getR (q := 24) (r := 85) rfl rfl rfl (Nat.le_of_ble_eq_true rfl) rfl rfl (gr_46_60 hG) ?_
        refine gd_bipush (v := 30) (q := 26) rfl rfl rfl ?_
        refine gd_iload_n (q := 27) rfl rfl rfl ?_
        refine gd_imul (q := 28) rfl rfl ?_
        refine gd_iload_n (q := 29) rfl rfl rfl ?_
        refine gd_iadd (q := 30) rfl rfl ?_
        refine gd_iald (q := 31) rfl rfl (Nat.le_of_ble_eq_true rfl) rfl hp.1 ?_
        replace hp := hp.2
        refine gd_iconst (v := 2) (q := 32) rfl rfl rfl ?_
        refine gx_icmp_ne (q := 35) (r := 37) rfl rfl rfl hp (fun c_32 hp => ?_) (fun c_32 hp => ?_)
        · refine gd_iconst (v := 1) (q := 36) rfl rfl rfl ?_
          exact gd_ireturn rfl rfl rfl (Nat.le_refl 0) (Nat.le_refl 0) rfl
        · refine gd_iinc (v := (v3 + 1)) (q := 40) rfl rfl rfl rfl (Nat.le_of_ble_eq_true rfl) rfl ?_
          refine gd_goto (q := 2) rfl rfl ?_
          exact ih_2 _ hp
      · refine gd_iinc (v := (v3 + 1)) (q := 40) rfl rfl rfl rfl (Nat.le_of_ble_eq_true rfl) rfl ?_
        refine gd_goto (q := 2) rfl rfl ?_
        exact ih_2 _ hp
theorem gl_X10_hasName_2 (a1 : Int32) (a2 : Int32) (f : Nat) (I : am_I) (J : am_J) (Q : am_Q) (hG : Gr Q) (g : Nat) : ∀ (v3 : Int32), p_X10_hasName_L2 a1 a2 I g v3 → Gd MX10_hasName (am_o 0 0 0 (am_Fi I J Q (s_X10_hasName_L2 a1 a2 I g v3))) 0 0 92 2 [some (.ref 46), some (.int a1), some (.int a2), some (.int v3)] [] I J Q := (gl_X10_hasName_L2 a1 a2 f I J Q hG g)
set_option maxRecDepth 100000 in
set_option maxHeartbeats 4000000 in
theorem gt_X10_hasName (f : Nat) (I : am_I) (J : am_J) (Q : am_Q) (hG : Gr Q) (a1 : Int32) (a2 : Int32) (hp : p_X10_hasName f I a1 a2) : Gd MX10_hasName (am_o 0 0 0 (am_Fi I J Q (s_X10_hasName f I a1 a2))) 0 0 92 0 [some (.ref 46), some (.int a1), some (.int a2), none] [] I J Q := by
  unfold s_X10_hasName
  unfold p_X10_hasName at hp
  refine gd_iconst (v := 0) (q := 1) rfl rfl rfl ?_
  refine gd_istore_n (q := 2) rfl rfl (Nat.le_of_ble_eq_true rfl) rfl ?_
  exact gl_X10_hasName_2 a1 a2 f I J Q hG f 0 hp
theorem ct_X10_hasName (f : Nat) (I : am_I) (J : am_J) (Q : am_Q) (hG : Gr Q) (a1 : Int32) (a2 : Int32) (hp : p_X10_hasName f I a1 a2) : Cm MX10_hasName 0 0 0 92 [.ref 46, .int a1, .int a2] I J Q (am_Fi I J Q (s_X10_hasName f I a1 a2)) := cm_of (by decide) rfl IX10_hasName_ok (Nat.le_of_ble_eq_true rfl) (gt_X10_hasName f I J Q hG a1 a2 hp)
def s_X10_traitsHeard_L5 (a1 : Int32) (a2 : Int32) (I : am_I) : Nat → Int32 → Int32 → Int32
  | 0, _, _ => 0
  | g + 1, v3, v4 => (if (I 46 44) ≤ v4 then v3 else (if (I 78 v4.toNatClampNeg) = a2 then (if (I 85 ((30 * a1) + v4).toNatClampNeg) = 3 then (s_X10_traitsHeard_L5 a1 a2 I g (v3 ||| (I 79 v4.toNatClampNeg)) (v4 + 1)) else (s_X10_traitsHeard_L5 a1 a2 I g v3 (v4 + 1))) else (s_X10_traitsHeard_L5 a1 a2 I g v3 (v4 + 1))))
def p_X10_traitsHeard_L5 (a1 : Int32) (a2 : Int32) (I : am_I) : Nat → Int32 → Int32 → Prop
  | 0, _, _ => False
  | g + 1, v3, v4 => (if (I 46 44) ≤ v4 then True else (vp_in v4 30 ∧ (if (I 78 v4.toNatClampNeg) = a2 then (vp_in ((30 * a1) + v4) 180 ∧ (if (I 85 ((30 * a1) + v4).toNatClampNeg) = 3 then (vp_in v4 30 ∧ (p_X10_traitsHeard_L5 a1 a2 I g (v3 ||| (I 79 v4.toNatClampNeg)) (v4 + 1))) else (p_X10_traitsHeard_L5 a1 a2 I g v3 (v4 + 1)))) else (p_X10_traitsHeard_L5 a1 a2 I g v3 (v4 + 1)))))
def s_X10_traitsHeard (f : Nat) (I : am_I) (a1 : Int32) (a2 : Int32) : Int32 := (s_X10_traitsHeard_L5 a1 a2 I f 0 0)
def p_X10_traitsHeard (f : Nat) (I : am_I) (a1 : Int32) (a2 : Int32) : Prop := (p_X10_traitsHeard_L5 a1 a2 I f 0 0)
set_option maxRecDepth 100000 in
set_option maxHeartbeats 4000000 in
theorem gl_X10_traitsHeard_L5 (a1 : Int32) (a2 : Int32) (f : Nat) (I : am_I) (J : am_J) (Q : am_Q) (hG : Gr Q) : ∀ g : Nat, (∀ (v3 : Int32) (v4 : Int32), p_X10_traitsHeard_L5 a1 a2 I g v3 v4 → Gd MX10_traitsHeard (am_o 0 0 0 (am_Fi I J Q (s_X10_traitsHeard_L5 a1 a2 I g v3 v4))) 0 0 92 5 [some (.ref 46), some (.int a1), some (.int a2), some (.int v3), some (.int v4)] [] I J Q) := by
  intro g
  induction g with
  | zero => exact fun _ _ hp => False.elim hp
  | succ g ih =>
    have ih_5 := ih
    intro v3 v4 hp
    rw [s_X10_traitsHeard_L5]
    rw [p_X10_traitsHeard_L5] at hp
    refine gd_iload (q := 7) rfl rfl rfl ?_
    refine gd_aload_n (q := 8) rfl rfl rfl ?_
    refine gd_getI (q := 11) rfl rfl rfl (Nat.le_of_ble_eq_true rfl) rfl rfl ?_
    refine gx_icmp_ge (q := 14) (r := 57) rfl rfl rfl hp (fun c_11 hp => ?_) (fun c_11 hp => ?_)
    · refine gd_iload_n (q := 58) rfl rfl rfl ?_
      exact gd_ireturn rfl rfl rfl (Nat.le_refl 0) (Nat.le_refl 0) rfl
    · refine gd_aload_n (q := 15) rfl rfl rfl ?_
      refine gd_getR (q := 18) (r := 78) rfl rfl rfl (Nat.le_of_ble_eq_true rfl) rfl rfl (gr_46_49 hG) ?_
      refine gd_iload (q := 20) rfl rfl rfl ?_
      refine gd_iald (q := 21) rfl rfl (Nat.le_of_ble_eq_true rfl) rfl hp.1 ?_
      replace hp := hp.2
      refine gd_iload_n (q := 22) rfl rfl rfl ?_
      refine gx_icmp_ne (q := 25) (r := 51) rfl rfl rfl hp (fun c_22 hp => ?_) (fun c_22 hp => ?_)
      · refine gd_aload_n (q := 26) rfl rfl rfl ?_
        refine gd_getR (q := 29) (r := 85) rfl rfl rfl (Nat.le_of_ble_eq_true rfl) rfl rfl (gr_46_60 hG) ?_
        refine gd_bipush (v := 30) (q := 31) rfl rfl rfl ?_
        refine gd_iload_n (q := 32) rfl rfl rfl ?_
        refine gd_imul (q := 33) rfl rfl ?_
        refine gd_iload (q := 35) rfl rfl rfl ?_
        refine gd_iadd (q := 36) rfl rfl ?_
        refine gd_iald (q := 37) rfl rfl (Nat.le_of_ble_eq_true rfl) rfl hp.1 ?_
        replace hp := hp.2
        refine gd_iconst (v := 3) (q := 38) rfl rfl rfl ?_
        refine gx_icmp_ne (q := 41) (r := 51) rfl rfl rfl hp (fun c_38 hp => ?_) (fun c_38 hp => ?_)
        · refine gd_iload_n (q := 42) rfl rfl rfl ?_
          refine gd_aload_n (q := 43) rfl rfl rfl ?_
          refine gd_getR (q := 46) (r := 79) rfl rfl rfl (Nat.le_of_ble_eq_true rfl) rfl rfl (gr_46_50 hG) ?_
          refine gd_iload (q := 48) rfl rfl rfl ?_
          refine gd_iald (q := 49) rfl rfl (Nat.le_of_ble_eq_true rfl) rfl hp.1 ?_
          replace hp := hp.2
          refine gd_ior (q := 50) rfl rfl ?_
          refine gd_istore_n (q := 51) rfl rfl (Nat.le_of_ble_eq_true rfl) rfl ?_
          refine gd_iinc (v := (v4 + 1)) (q := 54) rfl rfl rfl rfl (Nat.le_of_ble_eq_true rfl) rfl ?_
          refine gd_goto (q := 5) rfl rfl ?_
          exact ih_5 _ _ hp
        · refine gd_iinc (v := (v4 + 1)) (q := 54) rfl rfl rfl rfl (Nat.le_of_ble_eq_true rfl) rfl ?_
          refine gd_goto (q := 5) rfl rfl ?_
          exact ih_5 _ _ hp
      · refine gd_iinc (v := (v4 + 1)) (q := 54) rfl rfl rfl rfl (Nat.le_of_ble_eq_true rfl) rfl ?_
        refine gd_goto (q := 5) rfl rfl ?_
        exact ih_5 _ _ hp
theorem gl_X10_traitsHeard_5 (a1 : Int32) (a2 : Int32) (f : Nat) (I : am_I) (J : am_J) (Q : am_Q) (hG : Gr Q) (g : Nat) : ∀ (v3 : Int32) (v4 : Int32), p_X10_traitsHeard_L5 a1 a2 I g v3 v4 → Gd MX10_traitsHeard (am_o 0 0 0 (am_Fi I J Q (s_X10_traitsHeard_L5 a1 a2 I g v3 v4))) 0 0 92 5 [some (.ref 46), some (.int a1), some (.int a2), some (.int v3), some (.int v4)] [] I J Q := (gl_X10_traitsHeard_L5 a1 a2 f I J Q hG g)
set_option maxRecDepth 100000 in
set_option maxHeartbeats 4000000 in
theorem gt_X10_traitsHeard (f : Nat) (I : am_I) (J : am_J) (Q : am_Q) (hG : Gr Q) (a1 : Int32) (a2 : Int32) (hp : p_X10_traitsHeard f I a1 a2) : Gd MX10_traitsHeard (am_o 0 0 0 (am_Fi I J Q (s_X10_traitsHeard f I a1 a2))) 0 0 92 0 [some (.ref 46), some (.int a1), some (.int a2), none, none] [] I J Q := by
  unfold s_X10_traitsHeard
  unfold p_X10_traitsHeard at hp
  refine gd_iconst (v := 0) (q := 1) rfl rfl rfl ?_
  refine gd_istore_n (q := 2) rfl rfl (Nat.le_of_ble_eq_true rfl) rfl ?_
  refine gd_iconst (v := 0) (q := 3) rfl rfl rfl ?_
  refine gd_istore (q := 5) rfl rfl (Nat.le_of_ble_eq_true rfl) rfl ?_
  exact gl_X10_traitsHeard_5 a1 a2 f I J Q hG f 0 0 hp
theorem ct_X10_traitsHeard (f : Nat) (I : am_I) (J : am_J) (Q : am_Q) (hG : Gr Q) (a1 : Int32) (a2 : Int32) (hp : p_X10_traitsHeard f I a1 a2) : Cm MX10_traitsHeard 0 0 0 92 [.ref 46, .int a1, .int a2] I J Q (am_Fi I J Q (s_X10_traitsHeard f I a1 a2)) := cm_of (by decide) rfl IX10_traitsHeard_ok (Nat.le_of_ble_eq_true rfl) (gt_X10_traitsHeard f I J Q hG a1 a2 hp)
def s_X10_alike_L5 (a1 : Int32) (a2 : Int32) (I : am_I) : Nat → Nat → Int32 → Int32 → Int32 → Int32 → Int32
  | 0, _, _, _, _, _ => 0
  | g + 1, 0, v3, v4, v5, v6 => (if (I 46 35) ≤ v4 then v3 else (s_X10_alike_L5 a1 a2 I g 1 v3 v4 1 0))
  | g + 1, 1, v3, v4, v5, v6 => (if 4 ≤ v6 then (if v5 = 0 then (s_X10_alike_L5 a1 a2 I g 0 v3 (v4 + 1) 0 0) else (s_X10_alike_L5 a1 a2 I g 0 (v3 + 1) (v4 + 1) 0 0)) else (if ((a2 >>> (v6 &&& 31)) &&& 1) = 1 then (if (I 68 ((4 * v4) + v6).toNatClampNeg) = (I 68 ((4 * a1) + v6).toNatClampNeg) then (s_X10_alike_L5 a1 a2 I g 1 v3 v4 v5 (v6 + 1)) else (s_X10_alike_L5 a1 a2 I g 1 v3 v4 0 (v6 + 1))) else (s_X10_alike_L5 a1 a2 I g 1 v3 v4 v5 (v6 + 1))))
  | _ + 1, _ + 2, _, _, _, _ => 0
def p_X10_alike_L5 (a1 : Int32) (a2 : Int32) (I : am_I) : Nat → Nat → Int32 → Int32 → Int32 → Int32 → Prop
  | 0, _, _, _, _, _ => False
  | g + 1, 0, v3, v4, v5, v6 => (if (I 46 35) ≤ v4 then True else (p_X10_alike_L5 a1 a2 I g 1 v3 v4 1 0))
  | g + 1, 1, v3, v4, v5, v6 => (if 4 ≤ v6 then (if v5 = 0 then (p_X10_alike_L5 a1 a2 I g 0 v3 (v4 + 1) 0 0) else (p_X10_alike_L5 a1 a2 I g 0 (v3 + 1) (v4 + 1) 0 0)) else (if ((a2 >>> (v6 &&& 31)) &&& 1) = 1 then (vp_in ((4 * v4) + v6) 48 ∧ (vp_in ((4 * a1) + v6) 48 ∧ (if (I 68 ((4 * v4) + v6).toNatClampNeg) = (I 68 ((4 * a1) + v6).toNatClampNeg) then (p_X10_alike_L5 a1 a2 I g 1 v3 v4 v5 (v6 + 1)) else (p_X10_alike_L5 a1 a2 I g 1 v3 v4 0 (v6 + 1))))) else (p_X10_alike_L5 a1 a2 I g 1 v3 v4 v5 (v6 + 1))))
  | _ + 1, _ + 2, _, _, _, _ => False
def s_X10_alike (f : Nat) (I : am_I) (a1 : Int32) (a2 : Int32) : Int32 := (s_X10_alike_L5 a1 a2 I f 0 0 0 0 0)
def p_X10_alike (f : Nat) (I : am_I) (a1 : Int32) (a2 : Int32) : Prop := (p_X10_alike_L5 a1 a2 I f 0 0 0 0 0)
set_option maxRecDepth 100000 in
set_option maxHeartbeats 4000000 in
theorem gl_X10_alike_L5 (a1 : Int32) (a2 : Int32) (f : Nat) (I : am_I) (J : am_J) (Q : am_Q) (hG : Gr Q) : ∀ g : Nat, (∀ (v3 : Int32) (v4 : Int32) (v5 : Int32) (v6 : Int32), p_X10_alike_L5 a1 a2 I g 0 v3 v4 0 0 → Gd MX10_alike (am_o 0 0 0 (am_Fi I J Q (s_X10_alike_L5 a1 a2 I g 0 v3 v4 0 0))) 0 0 92 5 [some (.ref 46), some (.int a1), some (.int a2), some (.int v3), some (.int v4), none, none] [] I J Q) ∧ (∀ (v3 : Int32) (v4 : Int32) (v5 : Int32) (v6 : Int32), p_X10_alike_L5 a1 a2 I g 1 v3 v4 v5 v6 → Gd MX10_alike (am_o 0 0 0 (am_Fi I J Q (s_X10_alike_L5 a1 a2 I g 1 v3 v4 v5 v6))) 0 0 92 20 [some (.ref 46), some (.int a1), some (.int a2), some (.int v3), some (.int v4), some (.int v5), some (.int v6)] [] I J Q) := by
  intro g
  induction g with
  | zero => exact ⟨fun _ _ _ _ hp => False.elim hp, fun _ _ _ _ hp => False.elim hp⟩
  | succ g ih =>
    have ih_5 := ih.1
    have ih_20 := ih.2
    refine ⟨?_, ?_⟩
    · intro v3 v4 v5 v6 hp
      rw [s_X10_alike_L5]
      rw [p_X10_alike_L5] at hp
      refine gd_iload (q := 7) rfl rfl rfl ?_
      refine gd_aload_n (q := 8) rfl rfl rfl ?_
      refine gd_getI (q := 11) rfl rfl rfl (Nat.le_of_ble_eq_true rfl) rfl rfl ?_
      refine gx_icmp_ge (q := 14) (r := 85) rfl rfl rfl hp (fun c_11 hp => ?_) (fun c_11 hp => ?_)
      · refine gd_iload_n (q := 86) rfl rfl rfl ?_
        exact gd_ireturn rfl rfl rfl (Nat.le_refl 0) (Nat.le_refl 0) rfl
      · refine gd_iconst (v := 1) (q := 15) rfl rfl rfl ?_
        refine gd_istore (q := 17) rfl rfl (Nat.le_of_ble_eq_true rfl) rfl ?_
        refine gd_iconst (v := 0) (q := 18) rfl rfl rfl ?_
        refine gd_istore (q := 20) rfl rfl (Nat.le_of_ble_eq_true rfl) rfl ?_
        exact ih_20 _ _ _ 0 hp
    · intro v3 v4 v5 v6 hp
      rw [s_X10_alike_L5]
      rw [p_X10_alike_L5] at hp
      refine gd_iload (q := 22) rfl rfl rfl ?_
      refine gd_iconst (v := 4) (q := 23) rfl rfl rfl ?_
      refine gx_icmp_ge (q := 26) (r := 71) rfl rfl rfl hp (fun c_23 hp => ?_) (fun c_23 hp => ?_)
      · refine gd_iload (q := 73) rfl rfl rfl ?_
        refine gx_if_eq (q := 76) (r := 79) rfl rfl rfl hp (fun c_73 hp => ?_) (fun c_73 hp => ?_)
        · refine gd_iinc (v := (v4 + 1)) (q := 82) rfl rfl rfl rfl (Nat.le_of_ble_eq_true rfl) rfl ?_
          refine gd_goto (q := 5) rfl rfl ?_
          refine gd_drop 5 ?_
          refine gd_drop 6 ?_
          exact ih_5 _ _ 0 0 hp
        · refine gd_iinc (v := (v3 + 1)) (q := 79) rfl rfl rfl rfl (Nat.le_of_ble_eq_true rfl) rfl ?_
          refine gd_iinc (v := (v4 + 1)) (q := 82) rfl rfl rfl rfl (Nat.le_of_ble_eq_true rfl) rfl ?_
          refine gd_goto (q := 5) rfl rfl ?_
          refine gd_drop 5 ?_
          refine gd_drop 6 ?_
          exact ih_5 _ _ 0 0 hp
      · refine gd_iload_n (q := 27) rfl rfl rfl ?_
        refine gd_iload (q := 29) rfl rfl rfl ?_
        refine gd_ishr (q := 30) rfl rfl ?_
        refine gd_iconst (v := 1) (q := 31) rfl rfl rfl ?_
        refine gd_iand (q := 32) rfl rfl ?_
        refine gd_iconst (v := 1) (q := 33) rfl rfl rfl ?_
        refine gx_icmp_ne (q := 36) (r := 65) rfl rfl rfl hp (fun c_33 hp => ?_) (fun c_33 hp => ?_)
        · refine gd_aload_n (q := 37) rfl rfl rfl ?_
          refine gd_getR (q := 40) (r := 68) rfl rfl rfl (Nat.le_of_ble_eq_true rfl) rfl rfl (gr_46_36 hG) ?_
          refine gd_iconst (v := 4) (q := 41) rfl rfl rfl ?_
          refine gd_iload (q := 43) rfl rfl rfl ?_
          refine gd_imul (q := 44) rfl rfl ?_
          refine gd_iload (q := 46) rfl rfl rfl ?_
          refine gd_iadd (q := 47) rfl rfl ?_
          refine gd_iald (q := 48) rfl rfl (Nat.le_of_ble_eq_true rfl) rfl hp.1 ?_
          replace hp := hp.2
          refine gd_aload_n (q := 49) rfl rfl rfl ?_
          refine gd_getR (q := 52) (r := 68) rfl rfl rfl (Nat.le_of_ble_eq_true rfl) rfl rfl (gr_46_36 hG) ?_
          refine gd_iconst (v := 4) (q := 53) rfl rfl rfl ?_
          refine gd_iload_n (q := 54) rfl rfl rfl ?_
          refine gd_imul (q := 55) rfl rfl ?_
          refine gd_iload (q := 57) rfl rfl rfl ?_
          refine gd_iadd (q := 58) rfl rfl ?_
          refine gd_iald (q := 59) rfl rfl (Nat.le_of_ble_eq_true rfl) rfl hp.1 ?_
          replace hp := hp.2
          refine gx_icmp_eq (q := 62) (r := 65) rfl rfl rfl hp (fun c_59 hp => ?_) (fun c_59 hp => ?_)
          · refine gd_iinc (v := (v6 + 1)) (q := 68) rfl rfl rfl rfl (Nat.le_of_ble_eq_true rfl) rfl ?_
            refine gd_goto (q := 20) rfl rfl ?_
            exact ih_20 _ _ _ _ hp
          · refine gd_iconst (v := 0) (q := 63) rfl rfl rfl ?_
            refine gd_istore (q := 65) rfl rfl (Nat.le_of_ble_eq_true rfl) rfl ?_
            refine gd_iinc (v := (v6 + 1)) (q := 68) rfl rfl rfl rfl (Nat.le_of_ble_eq_true rfl) rfl ?_
            refine gd_goto (q := 20) rfl rfl ?_
            exact ih_20 _ _ 0 _ hp
        · refine gd_iinc (v := (v6 + 1)) (q := 68) rfl rfl rfl rfl (Nat.le_of_ble_eq_true rfl) rfl ?_
          refine gd_goto (q := 20) rfl rfl ?_
          exact ih_20 _ _ _ _ hp
theorem gl_X10_alike_5 (a1 : Int32) (a2 : Int32) (f : Nat) (I : am_I) (J : am_J) (Q : am_Q) (hG : Gr Q) (g : Nat) : ∀ (v3 : Int32) (v4 : Int32) (v5 : Int32) (v6 : Int32), p_X10_alike_L5 a1 a2 I g 0 v3 v4 0 0 → Gd MX10_alike (am_o 0 0 0 (am_Fi I J Q (s_X10_alike_L5 a1 a2 I g 0 v3 v4 0 0))) 0 0 92 5 [some (.ref 46), some (.int a1), some (.int a2), some (.int v3), some (.int v4), none, none] [] I J Q := (gl_X10_alike_L5 a1 a2 f I J Q hG g).1
theorem gl_X10_alike_20 (a1 : Int32) (a2 : Int32) (f : Nat) (I : am_I) (J : am_J) (Q : am_Q) (hG : Gr Q) (g : Nat) : ∀ (v3 : Int32) (v4 : Int32) (v5 : Int32) (v6 : Int32), p_X10_alike_L5 a1 a2 I g 1 v3 v4 v5 v6 → Gd MX10_alike (am_o 0 0 0 (am_Fi I J Q (s_X10_alike_L5 a1 a2 I g 1 v3 v4 v5 v6))) 0 0 92 20 [some (.ref 46), some (.int a1), some (.int a2), some (.int v3), some (.int v4), some (.int v5), some (.int v6)] [] I J Q := (gl_X10_alike_L5 a1 a2 f I J Q hG g).2
set_option maxRecDepth 100000 in
set_option maxHeartbeats 4000000 in
theorem gt_X10_alike (f : Nat) (I : am_I) (J : am_J) (Q : am_Q) (hG : Gr Q) (a1 : Int32) (a2 : Int32) (hp : p_X10_alike f I a1 a2) : Gd MX10_alike (am_o 0 0 0 (am_Fi I J Q (s_X10_alike f I a1 a2))) 0 0 92 0 [some (.ref 46), some (.int a1), some (.int a2), none, none, none, none] [] I J Q := by
  unfold s_X10_alike
  unfold p_X10_alike at hp
  refine gd_iconst (v := 0) (q := 1) rfl rfl rfl ?_
  refine gd_istore_n (q := 2) rfl rfl (Nat.le_of_ble_eq_true rfl) rfl ?_
  refine gd_iconst (v := 0) (q := 3) rfl rfl rfl ?_
  refine gd_istore (q := 5) rfl rfl (Nat.le_of_ble_eq_true rfl) rfl ?_
  exact gl_X10_alike_5 a1 a2 f I J Q hG f 0 0 0 0 hp
theorem ct_X10_alike (f : Nat) (I : am_I) (J : am_J) (Q : am_Q) (hG : Gr Q) (a1 : Int32) (a2 : Int32) (hp : p_X10_alike f I a1 a2) : Cm MX10_alike 0 0 0 92 [.ref 46, .int a1, .int a2] I J Q (am_Fi I J Q (s_X10_alike f I a1 a2)) := cm_of (by decide) rfl IX10_alike_ok (Nat.le_of_ble_eq_true rfl) (gt_X10_alike f I J Q hG a1 a2 hp)
def s_X10_wouldGet_J39 (a1 : Int32) (a2 : Int32) (a3 : Int32) (a4 : Int32) (a5 : Int32) (f : Nat) (I : am_I) : Int32 × am_I := (if 0 ≤ ((s_X10_letBy f I a2 a4 (I 81 a1.toNatClampNeg) a5).1) then (if ((s_X10_maskBy f ((s_X10_letBy f I a2 a4 (I 81 a1.toNatClampNeg) a5).2) a2 a4 (((s_X10_letBy f I a2 a4 (I 81 a1.toNatClampNeg) a5).2) 81 a1.toNatClampNeg) a5).1) = (-1) then (2, ((s_X10_maskBy f ((s_X10_letBy f I a2 a4 (I 81 a1.toNatClampNeg) a5).2) a2 a4 (((s_X10_letBy f I a2 a4 (I 81 a1.toNatClampNeg) a5).2) 81 a1.toNatClampNeg) a5).2)) else (if (s_X10_hasName f ((s_X10_maskBy f ((s_X10_letBy f I a2 a4 (I 81 a1.toNatClampNeg) a5).2) a2 a4 (((s_X10_letBy f I a2 a4 (I 81 a1.toNatClampNeg) a5).2) 81 a1.toNatClampNeg) a5).2) a1 (((s_X10_maskBy f ((s_X10_letBy f I a2 a4 (I 81 a1.toNatClampNeg) a5).2) a2 a4 (((s_X10_letBy f I a2 a4 (I 81 a1.toNatClampNeg) a5).2) 81 a1.toNatClampNeg) a5).2) 78 a2.toNatClampNeg)) = 0 then (if (((s_X10_maskBy f ((s_X10_letBy f I a2 a4 (I 81 a1.toNatClampNeg) a5).2) a2 a4 (((s_X10_letBy f I a2 a4 (I 81 a1.toNatClampNeg) a5).2) 81 a1.toNatClampNeg) a5).2) 46 56) ≤ (s_X10_alike f ((s_X10_maskBy f ((s_X10_letBy f I a2 a4 (I 81 a1.toNatClampNeg) a5).2) a2 a4 (((s_X10_letBy f I a2 a4 (I 81 a1.toNatClampNeg) a5).2) 81 a1.toNatClampNeg) a5).2) (((s_X10_maskBy f ((s_X10_letBy f I a2 a4 (I 81 a1.toNatClampNeg) a5).2) a2 a4 (((s_X10_letBy f I a2 a4 (I 81 a1.toNatClampNeg) a5).2) 81 a1.toNatClampNeg) a5).2) 78 a2.toNatClampNeg) ((s_X10_traitsHeard f ((s_X10_maskBy f ((s_X10_letBy f I a2 a4 (I 81 a1.toNatClampNeg) a5).2) a2 a4 (((s_X10_letBy f I a2 a4 (I 81 a1.toNatClampNeg) a5).2) 81 a1.toNatClampNeg) a5).2) a1 (((s_X10_maskBy f ((s_X10_letBy f I a2 a4 (I 81 a1.toNatClampNeg) a5).2) a2 a4 (((s_X10_letBy f I a2 a4 (I 81 a1.toNatClampNeg) a5).2) 81 a1.toNatClampNeg) a5).2) 78 a2.toNatClampNeg)) ||| (((s_X10_maskBy f ((s_X10_letBy f I a2 a4 (I 81 a1.toNatClampNeg) a5).2) a2 a4 (((s_X10_letBy f I a2 a4 (I 81 a1.toNatClampNeg) a5).2) 81 a1.toNatClampNeg) a5).2) 79 a2.toNatClampNeg))) then (3, ((s_X10_maskBy f ((s_X10_letBy f I a2 a4 (I 81 a1.toNatClampNeg) a5).2) a2 a4 (((s_X10_letBy f I a2 a4 (I 81 a1.toNatClampNeg) a5).2) 81 a1.toNatClampNeg) a5).2)) else (4, ((s_X10_maskBy f ((s_X10_letBy f I a2 a4 (I 81 a1.toNatClampNeg) a5).2) a2 a4 (((s_X10_letBy f I a2 a4 (I 81 a1.toNatClampNeg) a5).2) 81 a1.toNatClampNeg) a5).2))) else (3, ((s_X10_maskBy f ((s_X10_letBy f I a2 a4 (I 81 a1.toNatClampNeg) a5).2) a2 a4 (((s_X10_letBy f I a2 a4 (I 81 a1.toNatClampNeg) a5).2) 81 a1.toNatClampNeg) a5).2)))) else (1, ((s_X10_letBy f I a2 a4 (I 81 a1.toNatClampNeg) a5).2)))
def p_X10_wouldGet_J39 (a1 : Int32) (a2 : Int32) (a3 : Int32) (a4 : Int32) (a5 : Int32) (f : Nat) (I : am_I) : Prop := (vp_in a1 6 ∧ ((p_X10_letBy f I a2 a4 (I 81 a1.toNatClampNeg) a5) ∧ (if 0 ≤ ((s_X10_letBy f I a2 a4 (I 81 a1.toNatClampNeg) a5).1) then (vp_in a1 6 ∧ ((p_X10_maskBy f ((s_X10_letBy f I a2 a4 (I 81 a1.toNatClampNeg) a5).2) a2 a4 (((s_X10_letBy f I a2 a4 (I 81 a1.toNatClampNeg) a5).2) 81 a1.toNatClampNeg) a5) ∧ (if ((s_X10_maskBy f ((s_X10_letBy f I a2 a4 (I 81 a1.toNatClampNeg) a5).2) a2 a4 (((s_X10_letBy f I a2 a4 (I 81 a1.toNatClampNeg) a5).2) 81 a1.toNatClampNeg) a5).1) = (-1) then True else (vp_in a2 30 ∧ ((p_X10_hasName f ((s_X10_maskBy f ((s_X10_letBy f I a2 a4 (I 81 a1.toNatClampNeg) a5).2) a2 a4 (((s_X10_letBy f I a2 a4 (I 81 a1.toNatClampNeg) a5).2) 81 a1.toNatClampNeg) a5).2) a1 (((s_X10_maskBy f ((s_X10_letBy f I a2 a4 (I 81 a1.toNatClampNeg) a5).2) a2 a4 (((s_X10_letBy f I a2 a4 (I 81 a1.toNatClampNeg) a5).2) 81 a1.toNatClampNeg) a5).2) 78 a2.toNatClampNeg)) ∧ (if (s_X10_hasName f ((s_X10_maskBy f ((s_X10_letBy f I a2 a4 (I 81 a1.toNatClampNeg) a5).2) a2 a4 (((s_X10_letBy f I a2 a4 (I 81 a1.toNatClampNeg) a5).2) 81 a1.toNatClampNeg) a5).2) a1 (((s_X10_maskBy f ((s_X10_letBy f I a2 a4 (I 81 a1.toNatClampNeg) a5).2) a2 a4 (((s_X10_letBy f I a2 a4 (I 81 a1.toNatClampNeg) a5).2) 81 a1.toNatClampNeg) a5).2) 78 a2.toNatClampNeg)) = 0 then ((p_X10_traitsHeard f ((s_X10_maskBy f ((s_X10_letBy f I a2 a4 (I 81 a1.toNatClampNeg) a5).2) a2 a4 (((s_X10_letBy f I a2 a4 (I 81 a1.toNatClampNeg) a5).2) 81 a1.toNatClampNeg) a5).2) a1 (((s_X10_maskBy f ((s_X10_letBy f I a2 a4 (I 81 a1.toNatClampNeg) a5).2) a2 a4 (((s_X10_letBy f I a2 a4 (I 81 a1.toNatClampNeg) a5).2) 81 a1.toNatClampNeg) a5).2) 78 a2.toNatClampNeg)) ∧ (vp_in a2 30 ∧ (p_X10_alike f ((s_X10_maskBy f ((s_X10_letBy f I a2 a4 (I 81 a1.toNatClampNeg) a5).2) a2 a4 (((s_X10_letBy f I a2 a4 (I 81 a1.toNatClampNeg) a5).2) 81 a1.toNatClampNeg) a5).2) (((s_X10_maskBy f ((s_X10_letBy f I a2 a4 (I 81 a1.toNatClampNeg) a5).2) a2 a4 (((s_X10_letBy f I a2 a4 (I 81 a1.toNatClampNeg) a5).2) 81 a1.toNatClampNeg) a5).2) 78 a2.toNatClampNeg) ((s_X10_traitsHeard f ((s_X10_maskBy f ((s_X10_letBy f I a2 a4 (I 81 a1.toNatClampNeg) a5).2) a2 a4 (((s_X10_letBy f I a2 a4 (I 81 a1.toNatClampNeg) a5).2) 81 a1.toNatClampNeg) a5).2) a1 (((s_X10_maskBy f ((s_X10_letBy f I a2 a4 (I 81 a1.toNatClampNeg) a5).2) a2 a4 (((s_X10_letBy f I a2 a4 (I 81 a1.toNatClampNeg) a5).2) 81 a1.toNatClampNeg) a5).2) 78 a2.toNatClampNeg)) ||| (((s_X10_maskBy f ((s_X10_letBy f I a2 a4 (I 81 a1.toNatClampNeg) a5).2) a2 a4 (((s_X10_letBy f I a2 a4 (I 81 a1.toNatClampNeg) a5).2) 81 a1.toNatClampNeg) a5).2) 79 a2.toNatClampNeg))))) else True)))))) else True)))
def s_X10_wouldGet (f : Nat) (I : am_I) (a1 : Int32) (a2 : Int32) (a3 : Int32) (a4 : Int32) (a5 : Int32) : Int32 × am_I := (if (I 80 a2.toNatClampNeg) = (-1) then (s_X10_wouldGet_J39 a1 a2 a3 a4 a5 f I) else (if a3 = (-1) then (if a4 < ((I 80 a2.toNatClampNeg) + 0) then (s_X10_wouldGet_J39 a1 a2 a3 a4 a5 f I) else (0, I)) else (if a4 < ((I 80 a2.toNatClampNeg) + (I 82 a3.toNatClampNeg)) then (s_X10_wouldGet_J39 a1 a2 a3 a4 a5 f I) else (0, I))))
def p_X10_wouldGet (f : Nat) (I : am_I) (a1 : Int32) (a2 : Int32) (a3 : Int32) (a4 : Int32) (a5 : Int32) : Prop := (vp_in a2 30 ∧ (if (I 80 a2.toNatClampNeg) = (-1) then (p_X10_wouldGet_J39 a1 a2 a3 a4 a5 f I) else (vp_in a2 30 ∧ (if a3 = (-1) then (if a4 < ((I 80 a2.toNatClampNeg) + 0) then (p_X10_wouldGet_J39 a1 a2 a3 a4 a5 f I) else True) else (vp_in a3 4 ∧ (if a4 < ((I 80 a2.toNatClampNeg) + (I 82 a3.toNatClampNeg)) then (p_X10_wouldGet_J39 a1 a2 a3 a4 a5 f I) else True))))))
set_option maxRecDepth 100000 in
set_option maxHeartbeats 4000000 in
theorem gl_X10_wouldGet_39 (a1 : Int32) (a2 : Int32) (a3 : Int32) (a4 : Int32) (a5 : Int32) (f : Nat) (J : am_J) (Q : am_Q) (hG : Gr Q) (I : am_I) : p_X10_wouldGet_J39 a1 a2 a3 a4 a5 f I → Gd MX10_wouldGet (am_o 4 0 0 (am_FiI J Q (s_X10_wouldGet_J39 a1 a2 a3 a4 a5 f I))) 0 0 92 39 [some (.ref 46), some (.int a1), some (.int a2), none, some (.int a4), some (.int a5), none] [] I J Q := by
  intro hp
  unfold s_X10_wouldGet_J39
  unfold p_X10_wouldGet_J39 at hp
  refine gd_aload_n (q := 40) rfl rfl rfl ?_
  refine gd_iload_n (q := 41) rfl rfl rfl ?_
  refine gd_iload (q := 43) rfl rfl rfl ?_
  refine gd_aload_n (q := 44) rfl rfl rfl ?_
  refine gd_getR (q := 47) (r := 81) rfl rfl rfl (Nat.le_of_ble_eq_true rfl) rfl rfl (gr_46_53 hG) ?_
  refine gd_iload_n (q := 48) rfl rfl rfl ?_
  refine gd_iald (q := 49) rfl rfl (Nat.le_of_ble_eq_true rfl) rfl hp.1 ?_
  replace hp := hp.2
  refine gd_iload (q := 51) rfl rfl rfl ?_
  refine gd_cVi (q := 54) rfl rfl lk10_314 myX10_letBy vxX10_letBy (ct_X10_letBy f _ _ _ hG _ _ _ _ hp.1) rfl (Nat.le_of_ble_eq_true rfl) rfl rfl (Nat.le_of_ble_eq_true rfl) rfl (Nat.le_of_ble_eq_true rfl) ⟨(Nat.le_of_ble_eq_true rfl), (Nat.le_of_ble_eq_true rfl)⟩ ?_
  replace hp := hp.2
  refine gx_if_ge (q := 57) (r := 59) rfl rfl rfl hp (fun c_54 hp => ?_) (fun c_54 hp => ?_)
  · refine gd_aload_n (q := 60) rfl rfl rfl ?_
    refine gd_iload_n (q := 61) rfl rfl rfl ?_
    refine gd_iload (q := 63) rfl rfl rfl ?_
    refine gd_aload_n (q := 64) rfl rfl rfl ?_
    refine gd_getR (q := 67) (r := 81) rfl rfl rfl (Nat.le_of_ble_eq_true rfl) rfl rfl (gr_46_53 hG) ?_
    refine gd_iload_n (q := 68) rfl rfl rfl ?_
    refine gd_iald (q := 69) rfl rfl (Nat.le_of_ble_eq_true rfl) rfl hp.1 ?_
    replace hp := hp.2
    refine gd_iload (q := 71) rfl rfl rfl ?_
    refine gd_cVi (q := 74) rfl rfl lk10_318 myX10_maskBy vxX10_maskBy (ct_X10_maskBy f _ _ _ hG _ _ _ _ hp.1) rfl (Nat.le_of_ble_eq_true rfl) rfl rfl (Nat.le_of_ble_eq_true rfl) rfl (Nat.le_of_ble_eq_true rfl) ⟨(Nat.le_of_ble_eq_true rfl), (Nat.le_of_ble_eq_true rfl)⟩ ?_
    replace hp := hp.2
    refine gd_iconst (v := (-1)) (q := 75) rfl rfl rfl ?_
    refine gx_icmp_ne (q := 78) (r := 80) rfl rfl rfl hp (fun c_75 hp => ?_) (fun c_75 hp => ?_)
    · refine gd_iconst (v := 2) (q := 79) rfl rfl rfl ?_
      exact gd_ireturn rfl rfl rfl (Nat.le_refl 0) (Nat.le_refl 0) rfl
    · refine gd_aload_n (q := 81) rfl rfl rfl ?_
      refine gd_getR (q := 84) (r := 78) rfl rfl rfl (Nat.le_of_ble_eq_true rfl) rfl rfl (gr_46_49 hG) ?_
      refine gd_iload_n (q := 85) rfl rfl rfl ?_
      refine gd_iald (q := 86) rfl rfl (Nat.le_of_ble_eq_true rfl) rfl hp.1 ?_
      replace hp := hp.2
      refine gd_istore (q := 88) rfl rfl (Nat.le_of_ble_eq_true rfl) rfl ?_
      refine gd_aload_n (q := 89) rfl rfl rfl ?_
      refine gd_iload_n (q := 90) rfl rfl rfl ?_
      refine gd_iload (q := 92) rfl rfl rfl ?_
      refine gd_cVi (q := 95) rfl rfl lk10_324 myX10_hasName vxX10_hasName (ct_X10_hasName f _ _ _ hG _ _ hp.1) rfl (Nat.le_of_ble_eq_true rfl) rfl rfl (Nat.le_of_ble_eq_true rfl) rfl (Nat.le_of_ble_eq_true rfl) ⟨(Nat.le_of_ble_eq_true rfl), (Nat.le_of_ble_eq_true rfl)⟩ ?_
      replace hp := hp.2
      refine gx_if_eq (q := 98) (r := 100) rfl rfl rfl hp (fun c_95 hp => ?_) (fun c_95 hp => ?_)
      · refine gd_aload_n (q := 101) rfl rfl rfl ?_
        refine gd_iload (q := 103) rfl rfl rfl ?_
        refine gd_aload_n (q := 104) rfl rfl rfl ?_
        refine gd_iload_n (q := 105) rfl rfl rfl ?_
        refine gd_iload (q := 107) rfl rfl rfl ?_
        refine gd_cVi (q := 110) rfl rfl lk10_327 myX10_traitsHeard vxX10_traitsHeard (ct_X10_traitsHeard f _ _ _ hG _ _ hp.1) rfl (Nat.le_of_ble_eq_true rfl) rfl rfl (Nat.le_of_ble_eq_true rfl) rfl (Nat.le_of_ble_eq_true rfl) ⟨(Nat.le_of_ble_eq_true rfl), (Nat.le_of_ble_eq_true rfl)⟩ ?_
        replace hp := hp.2
        refine gd_aload_n (q := 111) rfl rfl rfl ?_
        refine gd_getR (q := 114) (r := 79) rfl rfl rfl (Nat.le_of_ble_eq_true rfl) rfl rfl (gr_46_50 hG) ?_
        refine gd_iload_n (q := 115) rfl rfl rfl ?_
        refine gd_iald (q := 116) rfl rfl (Nat.le_of_ble_eq_true rfl) rfl hp.1 ?_
        replace hp := hp.2
        refine gd_ior (q := 117) rfl rfl ?_
        refine gd_cVi (q := 120) rfl rfl lk10_330 myX10_alike vxX10_alike (ct_X10_alike f _ _ _ hG _ _ hp) rfl (Nat.le_of_ble_eq_true rfl) rfl rfl (Nat.le_of_ble_eq_true rfl) rfl (Nat.le_of_ble_eq_true rfl) ⟨(Nat.le_of_ble_eq_true rfl), (Nat.le_of_ble_eq_true rfl)⟩ ?_
        refine gd_aload_n (q := 121) rfl rfl rfl ?_
        refine gd_getI (q := 124) rfl rfl rfl (Nat.le_of_ble_eq_true rfl) rfl rfl ?_
        refine gy_icmp_ge (q := 127) (r := 131) rfl rfl rfl (fun c_124 => ?_) (fun c_124 => ?_)
        · refine gd_iconst (v := 3) (q := 132) rfl rfl rfl ?_
          exact gd_ireturn rfl rfl rfl (Nat.le_refl 0) (Nat.le_refl 0) rfl
        · refine gd_iconst (v := 4) (q := 128) rfl rfl rfl ?_
          refine gd_goto (q := 132) rfl rfl ?_
          exact gd_ireturn rfl rfl rfl (Nat.le_refl 0) (Nat.le_refl 0) rfl
      · refine gd_iconst (v := 3) (q := 99) rfl rfl rfl ?_
        exact gd_ireturn rfl rfl rfl (Nat.le_refl 0) (Nat.le_refl 0) rfl
  · refine gd_iconst (v := 1) (q := 58) rfl rfl rfl ?_
    exact gd_ireturn rfl rfl rfl (Nat.le_refl 0) (Nat.le_refl 0) rfl
set_option maxRecDepth 100000 in
set_option maxHeartbeats 4000000 in
theorem gt_X10_wouldGet (f : Nat) (I : am_I) (J : am_J) (Q : am_Q) (hG : Gr Q) (a1 : Int32) (a2 : Int32) (a3 : Int32) (a4 : Int32) (a5 : Int32) (hp : p_X10_wouldGet f I a1 a2 a3 a4 a5) : Gd MX10_wouldGet (am_o 4 0 0 (am_FiI J Q (s_X10_wouldGet f I a1 a2 a3 a4 a5))) 0 0 92 0 [some (.ref 46), some (.int a1), some (.int a2), some (.int a3), some (.int a4), some (.int a5), none] [] I J Q := by
  unfold s_X10_wouldGet
  unfold p_X10_wouldGet at hp
  refine gd_aload_n (q := 1) rfl rfl rfl ?_
  refine gd_getR (q := 4) (r := 80) rfl rfl rfl (Nat.le_of_ble_eq_true rfl) rfl rfl (gr_46_51 hG) ?_
  refine gd_iload_n (q := 5) rfl rfl rfl ?_
  refine gd_iald (q := 6) rfl rfl (Nat.le_of_ble_eq_true rfl) rfl hp.1 ?_
  replace hp := hp.2
  refine gd_iconst (v := (-1)) (q := 7) rfl rfl rfl ?_
  refine gx_icmp_eq (q := 10) (r := 39) rfl rfl rfl hp (fun c_7 hp => ?_) (fun c_7 hp => ?_)
  · refine gd_drop 3 ?_
    exact gl_X10_wouldGet_39 a1 a2 a3 a4 a5 f J Q hG _ hp
  · refine gd_aload_n (q := 11) rfl rfl rfl ?_
    refine gd_getR (q := 14) (r := 80) rfl rfl rfl (Nat.le_of_ble_eq_true rfl) rfl rfl (gr_46_51 hG) ?_
    refine gd_iload_n (q := 15) rfl rfl rfl ?_
    refine gd_iald (q := 16) rfl rfl (Nat.le_of_ble_eq_true rfl) rfl hp.1 ?_
    replace hp := hp.2
    refine gd_iload_n (q := 17) rfl rfl rfl ?_
    refine gd_iconst (v := (-1)) (q := 18) rfl rfl rfl ?_
    refine gx_icmp_ne (q := 21) (r := 25) rfl rfl rfl hp (fun c_18 hp => ?_) (fun c_18 hp => ?_)
    · refine gd_iconst (v := 0) (q := 22) rfl rfl rfl ?_
      refine gd_goto (q := 31) rfl rfl ?_
      refine gd_iadd (q := 32) rfl rfl ?_
      refine gd_iload (q := 34) rfl rfl rfl ?_
      refine gx_icmp_gt (q := 37) (r := 39) rfl rfl rfl hp (fun c_34 hp => ?_) (fun c_34 hp => ?_)
      · refine gd_drop 3 ?_
        exact gl_X10_wouldGet_39 a1 a2 a3 a4 a5 f J Q hG _ hp
      · refine gd_iconst (v := 0) (q := 38) rfl rfl rfl ?_
        exact gd_ireturn rfl rfl rfl (Nat.le_refl 0) (Nat.le_refl 0) rfl
    · refine gd_aload_n (q := 26) rfl rfl rfl ?_
      refine gd_getR (q := 29) (r := 82) rfl rfl rfl (Nat.le_of_ble_eq_true rfl) rfl rfl (gr_46_55 hG) ?_
      refine gd_iload_n (q := 30) rfl rfl rfl ?_
      refine gd_iald (q := 31) rfl rfl (Nat.le_of_ble_eq_true rfl) rfl hp.1 ?_
      replace hp := hp.2
      refine gd_iadd (q := 32) rfl rfl ?_
      refine gd_iload (q := 34) rfl rfl rfl ?_
      refine gx_icmp_gt (q := 37) (r := 39) rfl rfl rfl hp (fun c_34 hp => ?_) (fun c_34 hp => ?_)
      · refine gd_drop 3 ?_
        exact gl_X10_wouldGet_39 a1 a2 a3 a4 a5 f J Q hG _ hp
      · refine gd_iconst (v := 0) (q := 38) rfl rfl rfl ?_
        exact gd_ireturn rfl rfl rfl (Nat.le_refl 0) (Nat.le_refl 0) rfl
theorem ct_X10_wouldGet (f : Nat) (I : am_I) (J : am_J) (Q : am_Q) (hG : Gr Q) (a1 : Int32) (a2 : Int32) (a3 : Int32) (a4 : Int32) (a5 : Int32) (hp : p_X10_wouldGet f I a1 a2 a3 a4 a5) : Cm MX10_wouldGet 4 0 0 92 [.ref 46, .int a1, .int a2, .int a3, .int a4, .int a5] I J Q (am_FiI J Q (s_X10_wouldGet f I a1 a2 a3 a4 a5)) := cm_of (by decide) rfl IX10_wouldGet_ok (Nat.le_of_ble_eq_true rfl) (gt_X10_wouldGet f I J Q hG a1 a2 a3 a4 a5 hp)
def s_X10_would (f : Nat) (I : am_I) (a1 : Int32) (a2 : Int32) (a3 : Int32) (a4 : Int32) (a5 : Int32) : Int32 × am_I := (if (s_X10_isAsking I a1 a2 a3 a4 a5) = 0 then ((-1), I) else (((s_X10_wouldGet f I a1 a2 a3 a4 a5).1), ((s_X10_wouldGet f I a1 a2 a3 a4 a5).2)))
def p_X10_would (f : Nat) (I : am_I) (a1 : Int32) (a2 : Int32) (a3 : Int32) (a4 : Int32) (a5 : Int32) : Prop := (if (s_X10_isAsking I a1 a2 a3 a4 a5) = 0 then True else (p_X10_wouldGet f I a1 a2 a3 a4 a5))
set_option maxRecDepth 100000 in
set_option maxHeartbeats 4000000 in
theorem gt_X10_would (f : Nat) (I : am_I) (J : am_J) (Q : am_Q) (hG : Gr Q) (a1 : Int32) (a2 : Int32) (a3 : Int32) (a4 : Int32) (a5 : Int32) (hp : p_X10_would f I a1 a2 a3 a4 a5) : Gd MX10_would (am_o 5 0 0 (am_FiI J Q (s_X10_would f I a1 a2 a3 a4 a5))) 0 0 92 0 [some (.ref 46), some (.int a1), some (.int a2), some (.int a3), some (.int a4), some (.int a5)] [] I J Q := by
  unfold s_X10_would
  unfold p_X10_would at hp
  refine gd_aload_n (q := 1) rfl rfl rfl ?_
  refine gd_iload_n (q := 2) rfl rfl rfl ?_
  refine gd_iload_n (q := 3) rfl rfl rfl ?_
  refine gd_iload_n (q := 4) rfl rfl rfl ?_
  refine gd_iload (q := 6) rfl rfl rfl ?_
  refine gd_iload (q := 8) rfl rfl rfl ?_
  refine gd_cVi (q := 11) rfl rfl lk10_333 myX10_isAsking vxX10_isAsking (ct_X10_isAsking f _ _ _ hG _ _ _ _ _) rfl (Nat.le_of_ble_eq_true rfl) rfl rfl (Nat.le_of_ble_eq_true rfl) rfl (Nat.le_of_ble_eq_true rfl) ⟨(Nat.le_of_ble_eq_true rfl), (Nat.le_of_ble_eq_true rfl)⟩ ?_
  refine gx_if_eq (q := 14) (r := 28) rfl rfl rfl hp (fun c_11 hp => ?_) (fun c_11 hp => ?_)
  · refine gd_iconst (v := (-1)) (q := 29) rfl rfl rfl ?_
    exact gd_ireturn rfl rfl rfl (Nat.le_refl 0) (Nat.le_refl 0) rfl
  · refine gd_aload_n (q := 15) rfl rfl rfl ?_
    refine gd_iload_n (q := 16) rfl rfl rfl ?_
    refine gd_iload_n (q := 17) rfl rfl rfl ?_
    refine gd_iload_n (q := 18) rfl rfl rfl ?_
    refine gd_iload (q := 20) rfl rfl rfl ?_
    refine gd_iload (q := 22) rfl rfl rfl ?_
    refine gd_cVi (q := 25) rfl rfl lk10_337 myX10_wouldGet vxX10_wouldGet (ct_X10_wouldGet f _ _ _ hG _ _ _ _ _ hp) rfl (Nat.le_of_ble_eq_true rfl) rfl rfl (Nat.le_of_ble_eq_true rfl) rfl (Nat.le_of_ble_eq_true rfl) ⟨(Nat.le_of_ble_eq_true rfl), (Nat.le_of_ble_eq_true rfl)⟩ ?_
    refine gd_goto (q := 29) rfl rfl ?_
    exact gd_ireturn rfl rfl rfl (Nat.le_refl 0) (Nat.le_refl 0) rfl
theorem ct_X10_would (f : Nat) (I : am_I) (J : am_J) (Q : am_Q) (hG : Gr Q) (a1 : Int32) (a2 : Int32) (a3 : Int32) (a4 : Int32) (a5 : Int32) (hp : p_X10_would f I a1 a2 a3 a4 a5) : Cm MX10_would 5 0 0 92 [.ref 46, .int a1, .int a2, .int a3, .int a4, .int a5] I J Q (am_FiI J Q (s_X10_would f I a1 a2 a3 a4 a5)) := cm_of (by decide) rfl IX10_would_ok (Nat.le_of_ble_eq_true rfl) (gt_X10_would f I J Q hG a1 a2 a3 a4 a5 hp)
def s_X10_ask (f : Nat) (I : am_I) (a1 : Int32) (a2 : Int32) (a3 : Int32) (a4 : Int32) (a5 : Int32) : Int32 × am_I := (if (s_X10_isAsking I a1 a2 a3 a4 a5) = 0 then ((-1), I) else (if ((s_X10_wouldGet f I a1 a2 a3 a4 a5).1) = 2 then (((s_X10_wouldGet f I a1 a2 a3 a4 a5).1), (am_w ((s_X10_wouldGet f I a1 a2 a3 a4 a5).2) 85 ((30 * a1) + a2).toNatClampNeg ((s_X10_wouldGet f I a1 a2 a3 a4 a5).1))) else (if ((s_X10_wouldGet f I a1 a2 a3 a4 a5).1) = 3 then (if (((s_X10_wouldGet f I a1 a2 a3 a4 a5).2) 85 ((30 * a1) + a2).toNatClampNeg) = 2 then (((s_X10_wouldGet f I a1 a2 a3 a4 a5).1), ((s_X10_wouldGet f I a1 a2 a3 a4 a5).2)) else (((s_X10_wouldGet f I a1 a2 a3 a4 a5).1), (am_w ((s_X10_wouldGet f I a1 a2 a3 a4 a5).2) 85 ((30 * a1) + a2).toNatClampNeg ((s_X10_wouldGet f I a1 a2 a3 a4 a5).1)))) else (((s_X10_wouldGet f I a1 a2 a3 a4 a5).1), ((s_X10_wouldGet f I a1 a2 a3 a4 a5).2)))))
def p_X10_ask (f : Nat) (I : am_I) (a1 : Int32) (a2 : Int32) (a3 : Int32) (a4 : Int32) (a5 : Int32) : Prop := (if (s_X10_isAsking I a1 a2 a3 a4 a5) = 0 then True else ((p_X10_wouldGet f I a1 a2 a3 a4 a5) ∧ (if ((s_X10_wouldGet f I a1 a2 a3 a4 a5).1) = 2 then vp_in ((30 * a1) + a2) 180 else (if ((s_X10_wouldGet f I a1 a2 a3 a4 a5).1) = 3 then (vp_in ((30 * a1) + a2) 180 ∧ (if (((s_X10_wouldGet f I a1 a2 a3 a4 a5).2) 85 ((30 * a1) + a2).toNatClampNeg) = 2 then True else vp_in ((30 * a1) + a2) 180)) else True))))
set_option maxRecDepth 100000 in
set_option maxHeartbeats 4000000 in
theorem gt_X10_ask (f : Nat) (I : am_I) (J : am_J) (Q : am_Q) (hG : Gr Q) (a1 : Int32) (a2 : Int32) (a3 : Int32) (a4 : Int32) (a5 : Int32) (hp : p_X10_ask f I a1 a2 a3 a4 a5) : Gd MX10_ask (am_o 5 0 0 (am_FiI J Q (s_X10_ask f I a1 a2 a3 a4 a5))) 0 0 92 0 [some (.ref 46), some (.int a1), some (.int a2), some (.int a3), some (.int a4), some (.int a5), none] [] I J Q := by
  unfold s_X10_ask
  unfold p_X10_ask at hp
  refine gd_aload_n (q := 1) rfl rfl rfl ?_
  refine gd_iload_n (q := 2) rfl rfl rfl ?_
  refine gd_iload_n (q := 3) rfl rfl rfl ?_
  refine gd_iload_n (q := 4) rfl rfl rfl ?_
  refine gd_iload (q := 6) rfl rfl rfl ?_
  refine gd_iload (q := 8) rfl rfl rfl ?_
  refine gd_cVi (q := 11) rfl rfl lk10_333 myX10_isAsking vxX10_isAsking (ct_X10_isAsking f _ _ _ hG _ _ _ _ _) rfl (Nat.le_of_ble_eq_true rfl) rfl rfl (Nat.le_of_ble_eq_true rfl) rfl (Nat.le_of_ble_eq_true rfl) ⟨(Nat.le_of_ble_eq_true rfl), (Nat.le_of_ble_eq_true rfl)⟩ ?_
  refine gx_if_ne (q := 14) (r := 16) rfl rfl rfl hp (fun c_11 hp => ?_) (fun c_11 hp => ?_)
  · refine gd_iconst (v := (-1)) (q := 15) rfl rfl rfl ?_
    exact gd_ireturn rfl rfl rfl (Nat.le_refl 0) (Nat.le_refl 0) rfl
  · refine gd_aload_n (q := 17) rfl rfl rfl ?_
    refine gd_iload_n (q := 18) rfl rfl rfl ?_
    refine gd_iload_n (q := 19) rfl rfl rfl ?_
    refine gd_iload_n (q := 20) rfl rfl rfl ?_
    refine gd_iload (q := 22) rfl rfl rfl ?_
    refine gd_iload (q := 24) rfl rfl rfl ?_
    refine gd_cVi (q := 27) rfl rfl lk10_337 myX10_wouldGet vxX10_wouldGet (ct_X10_wouldGet f _ _ _ hG _ _ _ _ _ hp.1) rfl (Nat.le_of_ble_eq_true rfl) rfl rfl (Nat.le_of_ble_eq_true rfl) rfl (Nat.le_of_ble_eq_true rfl) ⟨(Nat.le_of_ble_eq_true rfl), (Nat.le_of_ble_eq_true rfl)⟩ ?_
    replace hp := hp.2
    refine gd_istore (q := 29) rfl rfl (Nat.le_of_ble_eq_true rfl) rfl ?_
    refine gd_iload (q := 31) rfl rfl rfl ?_
    refine gd_iconst (v := 2) (q := 32) rfl rfl rfl ?_
    refine gx_icmp_eq (q := 35) (r := 56) rfl rfl rfl hp (fun c_32 hp => ?_) (fun c_32 hp => ?_)
    · refine gd_aload_n (q := 57) rfl rfl rfl ?_
      refine gd_getR (q := 60) (r := 85) rfl rfl rfl (Nat.le_of_ble_eq_true rfl) rfl rfl (gr_46_60 hG) ?_
      refine gd_bipush (v := 30) (q := 62) rfl rfl rfl ?_
      refine gd_iload_n (q := 63) rfl rfl rfl ?_
      refine gd_imul (q := 64) rfl rfl ?_
      refine gd_iload_n (q := 65) rfl rfl rfl ?_
      refine gd_iadd (q := 66) rfl rfl ?_
      refine gd_iload (q := 68) rfl rfl rfl ?_
      refine gd_iast (q := 69) rfl rfl (Nat.le_of_ble_eq_true rfl) rfl hp ?_
      refine gd_iload (q := 71) rfl rfl rfl ?_
      exact gd_ireturn rfl rfl rfl (Nat.le_refl 0) (Nat.le_refl 0) rfl
    · refine gd_iload (q := 37) rfl rfl rfl ?_
      refine gd_iconst (v := 3) (q := 38) rfl rfl rfl ?_
      refine gx_icmp_ne (q := 41) (r := 69) rfl rfl rfl hp (fun c_38 hp => ?_) (fun c_38 hp => ?_)
      · refine gd_aload_n (q := 42) rfl rfl rfl ?_
        refine gd_getR (q := 45) (r := 85) rfl rfl rfl (Nat.le_of_ble_eq_true rfl) rfl rfl (gr_46_60 hG) ?_
        refine gd_bipush (v := 30) (q := 47) rfl rfl rfl ?_
        refine gd_iload_n (q := 48) rfl rfl rfl ?_
        refine gd_imul (q := 49) rfl rfl ?_
        refine gd_iload_n (q := 50) rfl rfl rfl ?_
        refine gd_iadd (q := 51) rfl rfl ?_
        refine gd_iald (q := 52) rfl rfl (Nat.le_of_ble_eq_true rfl) rfl hp.1 ?_
        replace hp := hp.2
        refine gd_iconst (v := 2) (q := 53) rfl rfl rfl ?_
        refine gx_icmp_eq (q := 56) (r := 69) rfl rfl rfl hp (fun c_53 hp => ?_) (fun c_53 hp => ?_)
        · refine gd_iload (q := 71) rfl rfl rfl ?_
          exact gd_ireturn rfl rfl rfl (Nat.le_refl 0) (Nat.le_refl 0) rfl
        · refine gd_aload_n (q := 57) rfl rfl rfl ?_
          refine gd_getR (q := 60) (r := 85) rfl rfl rfl (Nat.le_of_ble_eq_true rfl) rfl rfl (gr_46_60 hG) ?_
          refine gd_bipush (v := 30) (q := 62) rfl rfl rfl ?_
          refine gd_iload_n (q := 63) rfl rfl rfl ?_
          refine gd_imul (q := 64) rfl rfl ?_
          refine gd_iload_n (q := 65) rfl rfl rfl ?_
          refine gd_iadd (q := 66) rfl rfl ?_
          refine gd_iload (q := 68) rfl rfl rfl ?_
          refine gd_iast (q := 69) rfl rfl (Nat.le_of_ble_eq_true rfl) rfl hp ?_
          refine gd_iload (q := 71) rfl rfl rfl ?_
          exact gd_ireturn rfl rfl rfl (Nat.le_refl 0) (Nat.le_refl 0) rfl
      · refine gd_iload (q := 71) rfl rfl rfl ?_
        exact gd_ireturn rfl rfl rfl (Nat.le_refl 0) (Nat.le_refl 0) rfl
theorem ct_X10_ask (f : Nat) (I : am_I) (J : am_J) (Q : am_Q) (hG : Gr Q) (a1 : Int32) (a2 : Int32) (a3 : Int32) (a4 : Int32) (a5 : Int32) (hp : p_X10_ask f I a1 a2 a3 a4 a5) : Cm MX10_ask 5 0 0 92 [.ref 46, .int a1, .int a2, .int a3, .int a4, .int a5] I J Q (am_FiI J Q (s_X10_ask f I a1 a2 a3 a4 a5)) := cm_of (by decide) rfl IX10_ask_ok (Nat.le_of_ble_eq_true rfl) (gt_X10_ask f I J Q hG a1 a2 a3 a4 a5 hp)
