def s_X10_wrong (I : am_I) (a1 : Int32) (a2 : Int32) : am_I := (if 0 < (I 46 13) then I else (if (I 46 15) = 0 then (am_w (am_w I 46 15 a1) 46 16 (I 50 a2.toNatClampNeg)) else (if (I 46 16) < (I 50 a2.toNatClampNeg) then I else (if (I 50 a2.toNatClampNeg) = (I 46 16) then (if a1 < (I 46 15) then (am_w (am_w I 46 15 a1) 46 16 (I 50 a2.toNatClampNeg)) else I) else (am_w (am_w I 46 15 a1) 46 16 (I 50 a2.toNatClampNeg))))))
def p_X10_wrong  (a1 : Int32) (a2 : Int32) : Prop := vp_in a2 403
set_option maxRecDepth 100000 in
set_option maxHeartbeats 4000000 in
theorem gt_X10_wrong (f : Nat) (I : am_I) (J : am_J) (Q : am_Q) (hG : Gr Q) (a1 : Int32) (a2 : Int32) (hp : p_X10_wrong a1 a2) : Gd MX10_wrong (am_o 0 0 0 (am_FvI J Q (s_X10_wrong I a1 a2))) 0 0 92 0 [some (.ref 46), some (.int a1), some (.int a2), none] [] I J Q := by
  unfold s_X10_wrong
  unfold p_X10_wrong at hp
  refine gd_aload_n (q := 1) rfl rfl rfl ?_
  refine gd_getR (q := 4) (r := 50) rfl rfl rfl (Nat.le_of_ble_eq_true rfl) rfl rfl (gr_46_6 hG) ?_
  refine gd_iload_n (q := 5) rfl rfl rfl ?_
  refine gd_iald (q := 6) rfl rfl (Nat.le_of_ble_eq_true rfl) rfl hp ?_
  refine gd_istore_n (q := 7) rfl rfl (Nat.le_of_ble_eq_true rfl) rfl ?_
  refine gd_aload_n (q := 8) rfl rfl rfl ?_
  refine gd_getI (q := 11) rfl rfl rfl (Nat.le_of_ble_eq_true rfl) rfl rfl ?_
  refine gy_if_gt (q := 14) (r := 45) rfl rfl rfl (fun c_11 => ?_) (fun c_11 => ?_)
  · exact gd_return rfl rfl (Nat.le_refl 0) (Nat.le_refl 0) rfl
  · refine gd_aload_n (q := 15) rfl rfl rfl ?_
    refine gd_getI (q := 18) rfl rfl rfl (Nat.le_of_ble_eq_true rfl) rfl rfl ?_
    refine gy_if_eq (q := 21) (r := 46) rfl rfl rfl (fun c_18 => ?_) (fun c_18 => ?_)
    · refine gd_aload_n (q := 47) rfl rfl rfl ?_
      refine gd_iload_n (q := 48) rfl rfl rfl ?_
      refine gd_putI (q := 51) rfl rfl rfl (Nat.le_of_ble_eq_true rfl) rfl rfl rfl (Or.inl rfl) ?_
      refine gd_aload_n (q := 52) rfl rfl rfl ?_
      refine gd_iload_n (q := 53) rfl rfl rfl ?_
      refine gd_putI (q := 56) rfl rfl rfl (Nat.le_of_ble_eq_true rfl) rfl rfl rfl (Or.inl rfl) ?_
      exact gd_return rfl rfl (Nat.le_refl 0) (Nat.le_refl 0) rfl
    · refine gd_iload_n (q := 22) rfl rfl rfl ?_
      refine gd_aload_n (q := 23) rfl rfl rfl ?_
      refine gd_getI (q := 26) rfl rfl rfl (Nat.le_of_ble_eq_true rfl) rfl rfl ?_
      refine gy_icmp_gt (q := 29) (r := 45) rfl rfl rfl (fun c_26 => ?_) (fun c_26 => ?_)
      · exact gd_return rfl rfl (Nat.le_refl 0) (Nat.le_refl 0) rfl
      · refine gd_iload_n (q := 30) rfl rfl rfl ?_
        refine gd_aload_n (q := 31) rfl rfl rfl ?_
        refine gd_getI (q := 34) rfl rfl rfl (Nat.le_of_ble_eq_true rfl) rfl rfl ?_
        refine gy_icmp_ne (q := 37) (r := 46) rfl rfl rfl (fun c_34 => ?_) (fun c_34 => ?_)
        · refine gd_iload_n (q := 38) rfl rfl rfl ?_
          refine gd_aload_n (q := 39) rfl rfl rfl ?_
          refine gd_getI (q := 42) rfl rfl rfl (Nat.le_of_ble_eq_true rfl) rfl rfl ?_
          refine gy_icmp_lt (q := 45) (r := 46) rfl rfl rfl (fun c_42 => ?_) (fun c_42 => ?_)
          · refine gd_aload_n (q := 47) rfl rfl rfl ?_
            refine gd_iload_n (q := 48) rfl rfl rfl ?_
            refine gd_putI (q := 51) rfl rfl rfl (Nat.le_of_ble_eq_true rfl) rfl rfl rfl (Or.inl rfl) ?_
            refine gd_aload_n (q := 52) rfl rfl rfl ?_
            refine gd_iload_n (q := 53) rfl rfl rfl ?_
            refine gd_putI (q := 56) rfl rfl rfl (Nat.le_of_ble_eq_true rfl) rfl rfl rfl (Or.inl rfl) ?_
            exact gd_return rfl rfl (Nat.le_refl 0) (Nat.le_refl 0) rfl
          · exact gd_return rfl rfl (Nat.le_refl 0) (Nat.le_refl 0) rfl
        · refine gd_aload_n (q := 47) rfl rfl rfl ?_
          refine gd_iload_n (q := 48) rfl rfl rfl ?_
          refine gd_putI (q := 51) rfl rfl rfl (Nat.le_of_ble_eq_true rfl) rfl rfl rfl (Or.inl rfl) ?_
          refine gd_aload_n (q := 52) rfl rfl rfl ?_
          refine gd_iload_n (q := 53) rfl rfl rfl ?_
          refine gd_putI (q := 56) rfl rfl rfl (Nat.le_of_ble_eq_true rfl) rfl rfl rfl (Or.inl rfl) ?_
          exact gd_return rfl rfl (Nat.le_refl 0) (Nat.le_refl 0) rfl
theorem ct_X10_wrong (f : Nat) (I : am_I) (J : am_J) (Q : am_Q) (hG : Gr Q) (a1 : Int32) (a2 : Int32) (hp : p_X10_wrong a1 a2) : Cm MX10_wrong 0 0 0 92 [.ref 46, .int a1, .int a2] I J Q (am_FvI J Q (s_X10_wrong I a1 a2)) := cm_of (by decide) rfl IX10_wrong_ok (Nat.le_of_ble_eq_true rfl) (gt_X10_wrong f I J Q hG a1 a2 hp)
def s_X10_literal_J146 (a1 : Int32)  (v2 : Int32) (v3 : Int32) (v4 : Int32) (I : am_I) : am_I := (if (I 46 13) ≤ 0 then (am_w (am_w (am_w (am_w (am_w (am_w I 60 ((200 * (I 46 19)) + (I 59 (I 46 19).toNatClampNeg)).toNatClampNeg v4) 61 ((200 * (I 46 19)) + (I 59 (I 46 19).toNatClampNeg)).toNatClampNeg v2) 62 ((200 * (I 46 19)) + (I 59 (I 46 19).toNatClampNeg)).toNatClampNeg v3) 63 ((200 * (I 46 19)) + (I 59 (I 46 19).toNatClampNeg)).toNatClampNeg (I 46 30)) 64 ((200 * (I 46 19)) + (I 59 (I 46 19).toNatClampNeg)).toNatClampNeg (vp_nar .boolean a1)) 59 (I 46 19).toNatClampNeg ((I 59 (I 46 19).toNatClampNeg) + 1)) else I)
def p_X10_literal_J146 (a1 : Int32)  (v2 : Int32) (v3 : Int32) (v4 : Int32) (I : am_I) : Prop := (if (I 46 13) ≤ 0 then (vp_in (I 46 19) 24 ∧ (vp_in ((200 * (I 46 19)) + (I 59 (I 46 19).toNatClampNeg)) 4800 ∧ (vp_in ((200 * (I 46 19)) + (I 59 (I 46 19).toNatClampNeg)) 4800 ∧ (vp_in ((200 * (I 46 19)) + (I 59 (I 46 19).toNatClampNeg)) 4800 ∧ (vp_in ((200 * (I 46 19)) + (I 59 (I 46 19).toNatClampNeg)) 4800 ∧ (vp_in ((200 * (I 46 19)) + (I 59 (I 46 19).toNatClampNeg)) 4800 ∧ (vp_in (I 46 19) 24 ∧ vp_in (I 46 19) 24))))))) else True)
def s_X10_literal_J128 (a1 : Int32) (f : Nat) (v2 : Int32) (v4 : Int32) (I : am_I) : am_I := (s_X10_literal_J146 a1 v2 ((s_X10_next (s_X10_fail I 1)) 46 30) v4 (s_X10_expression f (s_X10_next (s_X10_fail I 1))))
def p_X10_literal_J128 (a1 : Int32) (f : Nat) (v2 : Int32) (v4 : Int32) (I : am_I) : Prop := ((p_X10_fail I 1) ∧ ((p_X10_next (s_X10_fail I 1)) ∧ ((p_X10_expression f (s_X10_next (s_X10_fail I 1))) ∧ (p_X10_literal_J146 a1 v2 ((s_X10_next (s_X10_fail I 1)) 46 30) v4 (s_X10_expression f (s_X10_next (s_X10_fail I 1)))))))
def s_X10_literal_J108 (a1 : Int32) (f : Nat) (v2 : Int32) (t0 : Int32) (I : am_I) : am_I := (if (I 46 13) = 0 then (if t0 < 0 then (s_X10_literal_J128 a1 f v2 t0 I) else (if t0 ≤ 3 then (s_X10_literal_J146 a1 v2 ((s_X10_next I) 46 30) t0 (s_X10_expression f (s_X10_next I))) else (s_X10_literal_J128 a1 f v2 t0 I))) else (s_X10_literal_J146 a1 v2 ((s_X10_next I) 46 30) t0 (s_X10_expression f (s_X10_next I))))
def p_X10_literal_J108 (a1 : Int32) (f : Nat) (v2 : Int32) (t0 : Int32) (I : am_I) : Prop := (if (I 46 13) = 0 then (if t0 < 0 then (p_X10_literal_J128 a1 f v2 t0 I) else (if t0 ≤ 3 then ((p_X10_next I) ∧ ((p_X10_expression f (s_X10_next I)) ∧ (p_X10_literal_J146 a1 v2 ((s_X10_next I) 46 30) t0 (s_X10_expression f (s_X10_next I))))) else (p_X10_literal_J128 a1 f v2 t0 I))) else ((p_X10_next I) ∧ ((p_X10_expression f (s_X10_next I)) ∧ (p_X10_literal_J146 a1 v2 ((s_X10_next I) 46 30) t0 (s_X10_expression f (s_X10_next I))))))
def s_X10_literal (f : Nat) (I : am_I) (a1 : Int32) : am_I := (if (s_X10_is I 26) = 0 then (if ((s_X10_expression f I) 46 13) ≤ 0 then (s_X10_literal_J108 a1 f (I 46 30) (((s_X10_expression f I) 49 ((s_X10_expression f I) 46 11).toNatClampNeg) - 11) (s_X10_expression f I)) else (s_X10_literal_J108 a1 f (I 46 30) 0 (s_X10_expression f I))) else (if ((s_X10_must (s_X10_next I) 2) 46 13) ≤ 0 then (if ((s_X10_must (s_X10_next I) 2) 51 ((s_X10_next I) 46 11).toNatClampNeg) < ((s_X10_must (s_X10_next I) 2) 46 38) then (s_X10_literal_J146 a1 (I 46 30) (I 46 30) 4 (s_X10_emit (s_X10_must (s_X10_next I) 2) 0 ((s_X10_must (s_X10_next I) 2) 51 ((s_X10_next I) 46 11).toNatClampNeg))) else (s_X10_literal_J146 a1 (I 46 30) (I 46 30) 4 (s_X10_emit (s_X10_wrong (s_X10_must (s_X10_next I) 2) 4 ((s_X10_next I) 46 11)) 0 ((s_X10_wrong (s_X10_must (s_X10_next I) 2) 4 ((s_X10_next I) 46 11)) 51 ((s_X10_next I) 46 11).toNatClampNeg)))) else (s_X10_must (s_X10_next I) 2)))
def p_X10_literal (f : Nat) (I : am_I) (a1 : Int32) : Prop := ((p_X10_is I 26) ∧ (if (s_X10_is I 26) = 0 then ((p_X10_expression f I) ∧ (if ((s_X10_expression f I) 46 13) ≤ 0 then (vp_in ((s_X10_expression f I) 46 11) 403 ∧ (p_X10_literal_J108 a1 f (I 46 30) (((s_X10_expression f I) 49 ((s_X10_expression f I) 46 11).toNatClampNeg) - 11) (s_X10_expression f I))) else (p_X10_literal_J108 a1 f (I 46 30) 0 (s_X10_expression f I)))) else ((p_X10_next I) ∧ ((p_X10_must (s_X10_next I) 2) ∧ (if ((s_X10_must (s_X10_next I) 2) 46 13) ≤ 0 then (vp_in ((s_X10_next I) 46 11) 403 ∧ (if ((s_X10_must (s_X10_next I) 2) 51 ((s_X10_next I) 46 11).toNatClampNeg) < ((s_X10_must (s_X10_next I) 2) 46 38) then (vp_in ((s_X10_next I) 46 11) 403 ∧ ((p_X10_emit (s_X10_must (s_X10_next I) 2) 0 ((s_X10_must (s_X10_next I) 2) 51 ((s_X10_next I) 46 11).toNatClampNeg)) ∧ (p_X10_literal_J146 a1 (I 46 30) (I 46 30) 4 (s_X10_emit (s_X10_must (s_X10_next I) 2) 0 ((s_X10_must (s_X10_next I) 2) 51 ((s_X10_next I) 46 11).toNatClampNeg))))) else ((p_X10_wrong 4 ((s_X10_next I) 46 11)) ∧ (vp_in ((s_X10_next I) 46 11) 403 ∧ ((p_X10_emit (s_X10_wrong (s_X10_must (s_X10_next I) 2) 4 ((s_X10_next I) 46 11)) 0 ((s_X10_wrong (s_X10_must (s_X10_next I) 2) 4 ((s_X10_next I) 46 11)) 51 ((s_X10_next I) 46 11).toNatClampNeg)) ∧ (p_X10_literal_J146 a1 (I 46 30) (I 46 30) 4 (s_X10_emit (s_X10_wrong (s_X10_must (s_X10_next I) 2) 4 ((s_X10_next I) 46 11)) 0 ((s_X10_wrong (s_X10_must (s_X10_next I) 2) 4 ((s_X10_next I) 46 11)) 51 ((s_X10_next I) 46 11).toNatClampNeg)))))))) else True)))))
set_option maxRecDepth 100000 in
set_option maxHeartbeats 4000000 in
theorem gl_X10_literal_146 (a1 : Int32) (f : Nat) (J : am_J) (Q : am_Q) (hG : Gr Q) (v2 : Int32) (v3 : Int32) (v4 : Int32) (I : am_I) : p_X10_literal_J146 a1 v2 v3 v4 I → Gd MX10_literal (am_o 3 0 0 (am_FvI J Q (s_X10_literal_J146 a1 v2 v3 v4 I))) 0 0 92 146 [some (.ref 46), some (.int a1), some (.int v2), some (.int v3), some (.int v4), none] [] I J Q := by
  intro hp
  unfold s_X10_literal_J146
  unfold p_X10_literal_J146 at hp
  refine gd_aload_n (q := 147) rfl rfl rfl ?_
  refine gd_getI (q := 150) rfl rfl rfl (Nat.le_of_ble_eq_true rfl) rfl rfl ?_
  refine gx_if_le (q := 153) (r := 154) rfl rfl rfl hp (fun c_150 hp => ?_) (fun c_150 hp => ?_)
  · refine gd_sipush (v := 200) (q := 157) rfl rfl rfl ?_
    refine gd_aload_n (q := 158) rfl rfl rfl ?_
    refine gd_getI (q := 161) rfl rfl rfl (Nat.le_of_ble_eq_true rfl) rfl rfl ?_
    refine gd_imul (q := 162) rfl rfl ?_
    refine gd_aload_n (q := 163) rfl rfl rfl ?_
    refine gd_getR (q := 166) (r := 59) rfl rfl rfl (Nat.le_of_ble_eq_true rfl) rfl rfl (gr_46_24 hG) ?_
    refine gd_aload_n (q := 167) rfl rfl rfl ?_
    refine gd_getI (q := 170) rfl rfl rfl (Nat.le_of_ble_eq_true rfl) rfl rfl ?_
    refine gd_iald (q := 171) rfl rfl (Nat.le_of_ble_eq_true rfl) rfl hp.1 ?_
    replace hp := hp.2
    refine gd_iadd (q := 172) rfl rfl ?_
    refine gd_istore (q := 174) rfl rfl (Nat.le_of_ble_eq_true rfl) rfl ?_
    refine gd_aload_n (q := 175) rfl rfl rfl ?_
    refine gd_getR (q := 178) (r := 60) rfl rfl rfl (Nat.le_of_ble_eq_true rfl) rfl rfl (gr_46_25 hG) ?_
    refine gd_iload (q := 180) rfl rfl rfl ?_
    refine gd_iload (q := 182) rfl rfl rfl ?_
    refine gd_iast (q := 183) rfl rfl (Nat.le_of_ble_eq_true rfl) rfl hp.1 ?_
    replace hp := hp.2
    refine gd_aload_n (q := 184) rfl rfl rfl ?_
    refine gd_getR (q := 187) (r := 61) rfl rfl rfl (Nat.le_of_ble_eq_true rfl) rfl rfl (gr_46_26 hG) ?_
    refine gd_iload (q := 189) rfl rfl rfl ?_
    refine gd_iload_n (q := 190) rfl rfl rfl ?_
    refine gd_iast (q := 191) rfl rfl (Nat.le_of_ble_eq_true rfl) rfl hp.1 ?_
    replace hp := hp.2
    refine gd_aload_n (q := 192) rfl rfl rfl ?_
    refine gd_getR (q := 195) (r := 62) rfl rfl rfl (Nat.le_of_ble_eq_true rfl) rfl rfl (gr_46_27 hG) ?_
    refine gd_iload (q := 197) rfl rfl rfl ?_
    refine gd_iload_n (q := 198) rfl rfl rfl ?_
    refine gd_iast (q := 199) rfl rfl (Nat.le_of_ble_eq_true rfl) rfl hp.1 ?_
    replace hp := hp.2
    refine gd_aload_n (q := 200) rfl rfl rfl ?_
    refine gd_getR (q := 203) (r := 63) rfl rfl rfl (Nat.le_of_ble_eq_true rfl) rfl rfl (gr_46_28 hG) ?_
    refine gd_iload (q := 205) rfl rfl rfl ?_
    refine gd_aload_n (q := 206) rfl rfl rfl ?_
    refine gd_getI (q := 209) rfl rfl rfl (Nat.le_of_ble_eq_true rfl) rfl rfl ?_
    refine gd_iast (q := 210) rfl rfl (Nat.le_of_ble_eq_true rfl) rfl hp.1 ?_
    replace hp := hp.2
    refine gd_aload_n (q := 211) rfl rfl rfl ?_
    refine gd_getR (q := 214) (r := 64) rfl rfl rfl (Nat.le_of_ble_eq_true rfl) rfl rfl (gr_46_29 hG) ?_
    refine gd_iload (q := 216) rfl rfl rfl ?_
    refine gd_iload_n (q := 217) rfl rfl rfl ?_
    refine gd_zast (q := 218) rfl rfl (Nat.le_of_ble_eq_true rfl) rfl hp.1 ?_
    replace hp := hp.2
    refine gd_aload_n (q := 219) rfl rfl rfl ?_
    refine gd_getR (q := 222) (r := 59) rfl rfl rfl (Nat.le_of_ble_eq_true rfl) rfl rfl (gr_46_24 hG) ?_
    refine gd_aload_n (q := 223) rfl rfl rfl ?_
    refine gd_getI (q := 226) rfl rfl rfl (Nat.le_of_ble_eq_true rfl) rfl rfl ?_
    refine gd_dup2 (q := 227) rfl rfl rfl rfl ?_
    refine gd_iald (q := 228) rfl rfl (Nat.le_of_ble_eq_true rfl) rfl hp.1 ?_
    replace hp := hp.2
    refine gd_iconst (v := 1) (q := 229) rfl rfl rfl ?_
    refine gd_iadd (q := 230) rfl rfl ?_
    refine gd_iast (q := 231) rfl rfl (Nat.le_of_ble_eq_true rfl) rfl hp ?_
    exact gd_return rfl rfl (Nat.le_refl 0) (Nat.le_refl 0) rfl
  · exact gd_return rfl rfl (Nat.le_refl 0) (Nat.le_refl 0) rfl
set_option maxRecDepth 100000 in
set_option maxHeartbeats 4000000 in
theorem gl_X10_literal_128 (a1 : Int32) (f : Nat) (J : am_J) (Q : am_Q) (hG : Gr Q) (v2 : Int32) (v4 : Int32) (I : am_I) : p_X10_literal_J128 a1 f v2 v4 I → Gd MX10_literal (am_o 3 0 0 (am_FvI J Q (s_X10_literal_J128 a1 f v2 v4 I))) 0 0 92 128 [some (.ref 46), some (.int a1), some (.int v2), none, some (.int v4), none] [] I J Q := by
  intro hp
  unfold s_X10_literal_J128
  unfold p_X10_literal_J128 at hp
  refine gd_aload_n (q := 129) rfl rfl rfl ?_
  refine gd_iconst (v := 1) (q := 130) rfl rfl rfl ?_
  refine gd_cVv (q := 133) rfl rfl lk10_215 myX10_fail vxX10_fail (ct_X10_fail f _ _ _ hG _ hp.1) rfl (Nat.le_of_ble_eq_true rfl) rfl rfl (Nat.le_of_ble_eq_true rfl) rfl (Nat.le_of_ble_eq_true rfl) ⟨(Nat.le_of_ble_eq_true rfl), (Nat.le_of_ble_eq_true rfl)⟩ ?_
  replace hp := hp.2
  refine gd_aload_n (q := 134) rfl rfl rfl ?_
  refine gd_cVv (q := 137) rfl rfl lk10_221 myX10_next vxX10_next (ct_X10_next f _ _ _ hG hp.1) rfl (Nat.le_of_ble_eq_true rfl) rfl rfl (Nat.le_of_ble_eq_true rfl) rfl (Nat.le_of_ble_eq_true rfl) ⟨(Nat.le_of_ble_eq_true rfl), (Nat.le_of_ble_eq_true rfl)⟩ ?_
  replace hp := hp.2
  refine gd_aload_n (q := 138) rfl rfl rfl ?_
  refine gd_getI (q := 141) rfl rfl rfl (Nat.le_of_ble_eq_true rfl) rfl rfl ?_
  refine gd_istore_n (q := 142) rfl rfl (Nat.le_of_ble_eq_true rfl) rfl ?_
  refine gd_aload_n (q := 143) rfl rfl rfl ?_
  refine gd_cVv (q := 146) rfl rfl lk10_259 myX10_expression vxX10_expression (ct_X10_expression f _ _ _ hG hp.1) rfl (Nat.le_of_ble_eq_true rfl) rfl rfl (Nat.le_of_ble_eq_true rfl) rfl (Nat.le_of_ble_eq_true rfl) ⟨(Nat.le_of_ble_eq_true rfl), (Nat.le_of_ble_eq_true rfl)⟩ ?_
  replace hp := hp.2
  exact gl_X10_literal_146 a1 f J Q hG _ _ _ _ hp
set_option maxRecDepth 100000 in
set_option maxHeartbeats 4000000 in
theorem gl_X10_literal_108 (a1 : Int32) (f : Nat) (J : am_J) (Q : am_Q) (hG : Gr Q) (v2 : Int32) (t0 : Int32) (I : am_I) : p_X10_literal_J108 a1 f v2 t0 I → Gd MX10_literal (am_o 3 0 0 (am_FvI J Q (s_X10_literal_J108 a1 f v2 t0 I))) 0 0 92 108 [some (.ref 46), some (.int a1), some (.int v2), none, none, none] [.int t0] I J Q := by
  intro hp
  unfold s_X10_literal_J108
  unfold p_X10_literal_J108 at hp
  refine gd_istore (q := 110) rfl rfl (Nat.le_of_ble_eq_true rfl) rfl ?_
  refine gd_aload_n (q := 111) rfl rfl rfl ?_
  refine gd_getI (q := 114) rfl rfl rfl (Nat.le_of_ble_eq_true rfl) rfl rfl ?_
  refine gx_if_ne (q := 117) (r := 133) rfl rfl rfl hp (fun c_114 hp => ?_) (fun c_114 hp => ?_)
  · refine gd_iload (q := 119) rfl rfl rfl ?_
    refine gx_if_lt (q := 122) (r := 128) rfl rfl rfl hp (fun c_119 hp => ?_) (fun c_119 hp => ?_)
    · exact gl_X10_literal_128 a1 f J Q hG _ _ _ hp
    · refine gd_iload (q := 124) rfl rfl rfl ?_
      refine gd_iconst (v := 3) (q := 125) rfl rfl rfl ?_
      refine gx_icmp_le (q := 128) (r := 133) rfl rfl rfl hp (fun c_125 hp => ?_) (fun c_125 hp => ?_)
      · refine gd_aload_n (q := 134) rfl rfl rfl ?_
        refine gd_cVv (q := 137) rfl rfl lk10_221 myX10_next vxX10_next (ct_X10_next f _ _ _ hG hp.1) rfl (Nat.le_of_ble_eq_true rfl) rfl rfl (Nat.le_of_ble_eq_true rfl) rfl (Nat.le_of_ble_eq_true rfl) ⟨(Nat.le_of_ble_eq_true rfl), (Nat.le_of_ble_eq_true rfl)⟩ ?_
        replace hp := hp.2
        refine gd_aload_n (q := 138) rfl rfl rfl ?_
        refine gd_getI (q := 141) rfl rfl rfl (Nat.le_of_ble_eq_true rfl) rfl rfl ?_
        refine gd_istore_n (q := 142) rfl rfl (Nat.le_of_ble_eq_true rfl) rfl ?_
        refine gd_aload_n (q := 143) rfl rfl rfl ?_
        refine gd_cVv (q := 146) rfl rfl lk10_259 myX10_expression vxX10_expression (ct_X10_expression f _ _ _ hG hp.1) rfl (Nat.le_of_ble_eq_true rfl) rfl rfl (Nat.le_of_ble_eq_true rfl) rfl (Nat.le_of_ble_eq_true rfl) ⟨(Nat.le_of_ble_eq_true rfl), (Nat.le_of_ble_eq_true rfl)⟩ ?_
        replace hp := hp.2
        exact gl_X10_literal_146 a1 f J Q hG _ _ _ _ hp
      · exact gl_X10_literal_128 a1 f J Q hG _ _ _ hp
  · refine gd_aload_n (q := 134) rfl rfl rfl ?_
    refine gd_cVv (q := 137) rfl rfl lk10_221 myX10_next vxX10_next (ct_X10_next f _ _ _ hG hp.1) rfl (Nat.le_of_ble_eq_true rfl) rfl rfl (Nat.le_of_ble_eq_true rfl) rfl (Nat.le_of_ble_eq_true rfl) ⟨(Nat.le_of_ble_eq_true rfl), (Nat.le_of_ble_eq_true rfl)⟩ ?_
    replace hp := hp.2
    refine gd_aload_n (q := 138) rfl rfl rfl ?_
    refine gd_getI (q := 141) rfl rfl rfl (Nat.le_of_ble_eq_true rfl) rfl rfl ?_
    refine gd_istore_n (q := 142) rfl rfl (Nat.le_of_ble_eq_true rfl) rfl ?_
    refine gd_aload_n (q := 143) rfl rfl rfl ?_
    refine gd_cVv (q := 146) rfl rfl lk10_259 myX10_expression vxX10_expression (ct_X10_expression f _ _ _ hG hp.1) rfl (Nat.le_of_ble_eq_true rfl) rfl rfl (Nat.le_of_ble_eq_true rfl) rfl (Nat.le_of_ble_eq_true rfl) ⟨(Nat.le_of_ble_eq_true rfl), (Nat.le_of_ble_eq_true rfl)⟩ ?_
    replace hp := hp.2
    exact gl_X10_literal_146 a1 f J Q hG _ _ _ _ hp
set_option maxRecDepth 100000 in
set_option maxHeartbeats 4000000 in
theorem gt_X10_literal (f : Nat) (I : am_I) (J : am_J) (Q : am_Q) (hG : Gr Q) (a1 : Int32) (hp : p_X10_literal f I a1) : Gd MX10_literal (am_o 3 0 0 (am_FvI J Q (s_X10_literal f I a1))) 0 0 92 0 [some (.ref 46), some (.int a1), none, none, none, none] [] I J Q := by
  unfold s_X10_literal
  unfold p_X10_literal at hp
  refine gd_aload_n (q := 1) rfl rfl rfl ?_
  refine gd_getI (q := 4) rfl rfl rfl (Nat.le_of_ble_eq_true rfl) rfl rfl ?_
  refine gd_istore_n (q := 5) rfl rfl (Nat.le_of_ble_eq_true rfl) rfl ?_
  refine gd_aload_n (q := 6) rfl rfl rfl ?_
  refine gd_getI (q := 9) rfl rfl rfl (Nat.le_of_ble_eq_true rfl) rfl rfl ?_
  refine gd_istore_n (q := 10) rfl rfl (Nat.le_of_ble_eq_true rfl) rfl ?_
  refine gd_iconst (v := 4) (q := 11) rfl rfl rfl ?_
  refine gd_istore (q := 13) rfl rfl (Nat.le_of_ble_eq_true rfl) rfl ?_
  refine gd_aload_n (q := 14) rfl rfl rfl ?_
  refine gd_bipush (v := 26) (q := 16) rfl rfl rfl ?_
  refine gd_cVi (q := 19) rfl rfl lk10_218 myX10_is vxX10_is (ct_X10_is f _ _ _ hG _ hp.1) rfl (Nat.le_of_ble_eq_true rfl) rfl rfl (Nat.le_of_ble_eq_true rfl) rfl (Nat.le_of_ble_eq_true rfl) ⟨(Nat.le_of_ble_eq_true rfl), (Nat.le_of_ble_eq_true rfl)⟩ ?_
  replace hp := hp.2
  refine gx_if_eq (q := 22) (r := 81) rfl rfl rfl hp (fun c_19 hp => ?_) (fun c_19 hp => ?_)
  · refine gd_aload_n (q := 82) rfl rfl rfl ?_
    refine gd_cVv (q := 85) rfl rfl lk10_259 myX10_expression vxX10_expression (ct_X10_expression f _ _ _ hG hp.1) rfl (Nat.le_of_ble_eq_true rfl) rfl rfl (Nat.le_of_ble_eq_true rfl) rfl (Nat.le_of_ble_eq_true rfl) ⟨(Nat.le_of_ble_eq_true rfl), (Nat.le_of_ble_eq_true rfl)⟩ ?_
    replace hp := hp.2
    refine gd_aload_n (q := 86) rfl rfl rfl ?_
    refine gd_getI (q := 89) rfl rfl rfl (Nat.le_of_ble_eq_true rfl) rfl rfl ?_
    refine gx_if_le (q := 92) (r := 96) rfl rfl rfl hp (fun c_89 hp => ?_) (fun c_89 hp => ?_)
    · refine gd_aload_n (q := 97) rfl rfl rfl ?_
      refine gd_getR (q := 100) (r := 49) rfl rfl rfl (Nat.le_of_ble_eq_true rfl) rfl rfl (gr_46_5 hG) ?_
      refine gd_aload_n (q := 101) rfl rfl rfl ?_
      refine gd_getI (q := 104) rfl rfl rfl (Nat.le_of_ble_eq_true rfl) rfl rfl ?_
      refine gd_iald (q := 105) rfl rfl (Nat.le_of_ble_eq_true rfl) rfl hp.1 ?_
      replace hp := hp.2
      refine gd_bipush (v := 11) (q := 107) rfl rfl rfl ?_
      refine gd_isub (q := 108) rfl rfl ?_
      refine gd_drop 3 ?_
      refine gd_drop 4 ?_
      exact gl_X10_literal_108 a1 f J Q hG _ _ _ hp
    · refine gd_iconst (v := 0) (q := 93) rfl rfl rfl ?_
      refine gd_goto (q := 108) rfl rfl ?_
      refine gd_drop 3 ?_
      refine gd_drop 4 ?_
      exact gl_X10_literal_108 a1 f J Q hG _ 0 _ hp
  · refine gd_aload_n (q := 23) rfl rfl rfl ?_
    refine gd_cVv (q := 26) rfl rfl lk10_221 myX10_next vxX10_next (ct_X10_next f _ _ _ hG hp.1) rfl (Nat.le_of_ble_eq_true rfl) rfl rfl (Nat.le_of_ble_eq_true rfl) rfl (Nat.le_of_ble_eq_true rfl) ⟨(Nat.le_of_ble_eq_true rfl), (Nat.le_of_ble_eq_true rfl)⟩ ?_
    replace hp := hp.2
    refine gd_aload_n (q := 27) rfl rfl rfl ?_
    refine gd_getI (q := 30) rfl rfl rfl (Nat.le_of_ble_eq_true rfl) rfl rfl ?_
    refine gd_istore (q := 32) rfl rfl (Nat.le_of_ble_eq_true rfl) rfl ?_
    refine gd_aload_n (q := 33) rfl rfl rfl ?_
    refine gd_iconst (v := 2) (q := 34) rfl rfl rfl ?_
    refine gd_cVv (q := 37) rfl rfl lk10_246 myX10_must vxX10_must (ct_X10_must f _ _ _ hG _ hp.1) rfl (Nat.le_of_ble_eq_true rfl) rfl rfl (Nat.le_of_ble_eq_true rfl) rfl (Nat.le_of_ble_eq_true rfl) ⟨(Nat.le_of_ble_eq_true rfl), (Nat.le_of_ble_eq_true rfl)⟩ ?_
    replace hp := hp.2
    refine gd_aload_n (q := 38) rfl rfl rfl ?_
    refine gd_getI (q := 41) rfl rfl rfl (Nat.le_of_ble_eq_true rfl) rfl rfl ?_
    refine gx_if_le (q := 44) (r := 45) rfl rfl rfl hp (fun c_41 hp => ?_) (fun c_41 hp => ?_)
    · refine gd_aload_n (q := 46) rfl rfl rfl ?_
      refine gd_getR (q := 49) (r := 51) rfl rfl rfl (Nat.le_of_ble_eq_true rfl) rfl rfl (gr_46_7 hG) ?_
      refine gd_iload (q := 51) rfl rfl rfl ?_
      refine gd_iald (q := 52) rfl rfl (Nat.le_of_ble_eq_true rfl) rfl hp.1 ?_
      replace hp := hp.2
      refine gd_aload_n (q := 53) rfl rfl rfl ?_
      refine gd_getI (q := 56) rfl rfl rfl (Nat.le_of_ble_eq_true rfl) rfl rfl ?_
      refine gx_icmp_lt (q := 59) (r := 66) rfl rfl rfl hp (fun c_56 hp => ?_) (fun c_56 hp => ?_)
      · refine gd_aload_n (q := 67) rfl rfl rfl ?_
        refine gd_iconst (v := 0) (q := 68) rfl rfl rfl ?_
        refine gd_aload_n (q := 69) rfl rfl rfl ?_
        refine gd_getR (q := 72) (r := 51) rfl rfl rfl (Nat.le_of_ble_eq_true rfl) rfl rfl (gr_46_7 hG) ?_
        refine gd_iload (q := 74) rfl rfl rfl ?_
        refine gd_iald (q := 75) rfl rfl (Nat.le_of_ble_eq_true rfl) rfl hp.1 ?_
        replace hp := hp.2
        refine gd_cVv (q := 78) rfl rfl lk10_256 myX10_emit vxX10_emit (ct_X10_emit f _ _ _ hG _ _ hp.1) rfl (Nat.le_of_ble_eq_true rfl) rfl rfl (Nat.le_of_ble_eq_true rfl) rfl (Nat.le_of_ble_eq_true rfl) ⟨(Nat.le_of_ble_eq_true rfl), (Nat.le_of_ble_eq_true rfl)⟩ ?_
        replace hp := hp.2
        refine gd_goto (q := 146) rfl rfl ?_
        refine gd_drop 5 ?_
        exact gl_X10_literal_146 a1 f J Q hG _ _ _ _ hp
      · refine gd_aload_n (q := 60) rfl rfl rfl ?_
        refine gd_iconst (v := 4) (q := 61) rfl rfl rfl ?_
        refine gd_iload (q := 63) rfl rfl rfl ?_
        refine gd_cVv (q := 66) rfl rfl lk10_252 myX10_wrong vxX10_wrong (ct_X10_wrong f _ _ _ hG _ _ hp.1) rfl (Nat.le_of_ble_eq_true rfl) rfl rfl (Nat.le_of_ble_eq_true rfl) rfl (Nat.le_of_ble_eq_true rfl) ⟨(Nat.le_of_ble_eq_true rfl), (Nat.le_of_ble_eq_true rfl)⟩ ?_
        replace hp := hp.2
        refine gd_aload_n (q := 67) rfl rfl rfl ?_
        refine gd_iconst (v := 0) (q := 68) rfl rfl rfl ?_
        refine gd_aload_n (q := 69) rfl rfl rfl ?_
        refine gd_getR (q := 72) (r := 51) rfl rfl rfl (Nat.le_of_ble_eq_true rfl) rfl rfl (gr_46_7 hG) ?_
        refine gd_iload (q := 74) rfl rfl rfl ?_
        refine gd_iald (q := 75) rfl rfl (Nat.le_of_ble_eq_true rfl) rfl hp.1 ?_
        replace hp := hp.2
        refine gd_cVv (q := 78) rfl rfl lk10_256 myX10_emit vxX10_emit (ct_X10_emit f _ _ _ hG _ _ hp.1) rfl (Nat.le_of_ble_eq_true rfl) rfl rfl (Nat.le_of_ble_eq_true rfl) rfl (Nat.le_of_ble_eq_true rfl) ⟨(Nat.le_of_ble_eq_true rfl), (Nat.le_of_ble_eq_true rfl)⟩ ?_
        replace hp := hp.2
        refine gd_goto (q := 146) rfl rfl ?_
        refine gd_drop 5 ?_
        exact gl_X10_literal_146 a1 f J Q hG _ _ _ _ hp
    · exact gd_return rfl rfl (Nat.le_refl 0) (Nat.le_refl 0) rfl
theorem ct_X10_literal (f : Nat) (I : am_I) (J : am_J) (Q : am_Q) (hG : Gr Q) (a1 : Int32) (hp : p_X10_literal f I a1) : Cm MX10_literal 3 0 0 92 [.ref 46, .int a1] I J Q (am_FvI J Q (s_X10_literal f I a1)) := cm_of (by decide) rfl IX10_literal_ok (Nat.le_of_ble_eq_true rfl) (gt_X10_literal f I J Q hG a1 hp)
def s_X10_tellRule_J187   (v1 : Int32) (I : am_I) : am_I := (if ((s_X10_must I 4) 46 13) ≤ 0 then (am_w (am_w (s_X10_must I 4) 58 v1.toNatClampNeg ((s_X10_must I 4) 59 ((s_X10_must I 4) 46 19).toNatClampNeg)) 55 ((s_X10_must I 4) 46 19).toNatClampNeg (((s_X10_must I 4) 55 ((s_X10_must I 4) 46 19).toNatClampNeg) + 1)) else (s_X10_must I 4))
def p_X10_tellRule_J187   (v1 : Int32) (I : am_I) : Prop := ((p_X10_must I 4) ∧ (if ((s_X10_must I 4) 46 13) ≤ 0 then (vp_in ((s_X10_must I 4) 46 19) 24 ∧ (vp_in v1 384 ∧ (vp_in ((s_X10_must I 4) 46 19) 24 ∧ vp_in ((s_X10_must I 4) 46 19) 24))) else True))
def s_X10_tellRule_L134  (f : Nat) : Nat → Int32 → Int32 → Int32 → am_I → am_I
  | 0, _, _, _, I => I
  | g + 1, v1, v2, v3, I => (if v2 = 0 then (s_X10_tellRule_J187 v1 I) else (if (I 46 13) = 0 then (if (s_X10_is (s_X10_literal f I v3) 24) = 0 then (if (s_X10_is (s_X10_literal f I v3) 25) = 0 then (s_X10_tellRule_L134 f g v1 0 (s_X10_is (s_X10_literal f I v3) 24) (s_X10_literal f I v3)) else (s_X10_tellRule_L134 f g v1 1 (s_X10_is (s_X10_literal f I v3) 24) (s_X10_next (s_X10_literal f I v3)))) else (s_X10_tellRule_L134 f g v1 1 (s_X10_is (s_X10_literal f I v3) 24) (s_X10_next (s_X10_literal f I v3)))) else (s_X10_tellRule_J187 v1 I)))
def p_X10_tellRule_L134  (f : Nat) : Nat → Int32 → Int32 → Int32 → am_I → Prop
  | 0, _, _, _, _ => False
  | g + 1, v1, v2, v3, I => (if v2 = 0 then (p_X10_tellRule_J187 v1 I) else (if (I 46 13) = 0 then ((p_X10_literal f I v3) ∧ ((p_X10_is (s_X10_literal f I v3) 24) ∧ (if (s_X10_is (s_X10_literal f I v3) 24) = 0 then ((p_X10_is (s_X10_literal f I v3) 25) ∧ (if (s_X10_is (s_X10_literal f I v3) 25) = 0 then (p_X10_tellRule_L134 f g v1 0 (s_X10_is (s_X10_literal f I v3) 24) (s_X10_literal f I v3)) else ((p_X10_next (s_X10_literal f I v3)) ∧ (p_X10_tellRule_L134 f g v1 1 (s_X10_is (s_X10_literal f I v3) 24) (s_X10_next (s_X10_literal f I v3)))))) else ((p_X10_next (s_X10_literal f I v3)) ∧ (p_X10_tellRule_L134 f g v1 1 (s_X10_is (s_X10_literal f I v3) 24) (s_X10_next (s_X10_literal f I v3))))))) else (p_X10_tellRule_J187 v1 I)))
def s_X10_tellRule_J54  (f : Nat) (I : am_I) : am_I := (if (I 46 13) ≤ 0 then (if (s_X10_is (am_w (s_X10_next (am_w I 56 ((16 * (I 46 19)) + (I 55 (I 46 19).toNatClampNeg)).toNatClampNeg ((I 49 (I 46 11).toNatClampNeg) - 20))) 57 ((16 * (I 46 19)) + (I 55 (I 46 19).toNatClampNeg)).toNatClampNeg ((s_X10_next (am_w I 56 ((16 * (I 46 19)) + (I 55 (I 46 19).toNatClampNeg)).toNatClampNeg ((I 49 (I 46 11).toNatClampNeg) - 20))) 59 ((s_X10_next (am_w I 56 ((16 * (I 46 19)) + (I 55 (I 46 19).toNatClampNeg)).toNatClampNeg ((I 49 (I 46 11).toNatClampNeg) - 20))) 46 19).toNatClampNeg)) 23) = 0 then (s_X10_tellRule_L134 f f ((16 * (I 46 19)) + (I 55 (I 46 19).toNatClampNeg)) (s_X10_is (am_w (s_X10_next (am_w I 56 ((16 * (I 46 19)) + (I 55 (I 46 19).toNatClampNeg)).toNatClampNeg ((I 49 (I 46 11).toNatClampNeg) - 20))) 57 ((16 * (I 46 19)) + (I 55 (I 46 19).toNatClampNeg)).toNatClampNeg ((s_X10_next (am_w I 56 ((16 * (I 46 19)) + (I 55 (I 46 19).toNatClampNeg)).toNatClampNeg ((I 49 (I 46 11).toNatClampNeg) - 20))) 59 ((s_X10_next (am_w I 56 ((16 * (I 46 19)) + (I 55 (I 46 19).toNatClampNeg)).toNatClampNeg ((I 49 (I 46 11).toNatClampNeg) - 20))) 46 19).toNatClampNeg)) 23) 1 (am_w (s_X10_next (am_w I 56 ((16 * (I 46 19)) + (I 55 (I 46 19).toNatClampNeg)).toNatClampNeg ((I 49 (I 46 11).toNatClampNeg) - 20))) 57 ((16 * (I 46 19)) + (I 55 (I 46 19).toNatClampNeg)).toNatClampNeg ((s_X10_next (am_w I 56 ((16 * (I 46 19)) + (I 55 (I 46 19).toNatClampNeg)).toNatClampNeg ((I 49 (I 46 11).toNatClampNeg) - 20))) 59 ((s_X10_next (am_w I 56 ((16 * (I 46 19)) + (I 55 (I 46 19).toNatClampNeg)).toNatClampNeg ((I 49 (I 46 11).toNatClampNeg) - 20))) 46 19).toNatClampNeg))) else (s_X10_tellRule_L134 f f ((16 * (I 46 19)) + (I 55 (I 46 19).toNatClampNeg)) (s_X10_is (am_w (s_X10_next (am_w I 56 ((16 * (I 46 19)) + (I 55 (I 46 19).toNatClampNeg)).toNatClampNeg ((I 49 (I 46 11).toNatClampNeg) - 20))) 57 ((16 * (I 46 19)) + (I 55 (I 46 19).toNatClampNeg)).toNatClampNeg ((s_X10_next (am_w I 56 ((16 * (I 46 19)) + (I 55 (I 46 19).toNatClampNeg)).toNatClampNeg ((I 49 (I 46 11).toNatClampNeg) - 20))) 59 ((s_X10_next (am_w I 56 ((16 * (I 46 19)) + (I 55 (I 46 19).toNatClampNeg)).toNatClampNeg ((I 49 (I 46 11).toNatClampNeg) - 20))) 46 19).toNatClampNeg)) 23) 1 (s_X10_next (am_w (s_X10_next (am_w I 56 ((16 * (I 46 19)) + (I 55 (I 46 19).toNatClampNeg)).toNatClampNeg ((I 49 (I 46 11).toNatClampNeg) - 20))) 57 ((16 * (I 46 19)) + (I 55 (I 46 19).toNatClampNeg)).toNatClampNeg ((s_X10_next (am_w I 56 ((16 * (I 46 19)) + (I 55 (I 46 19).toNatClampNeg)).toNatClampNeg ((I 49 (I 46 11).toNatClampNeg) - 20))) 59 ((s_X10_next (am_w I 56 ((16 * (I 46 19)) + (I 55 (I 46 19).toNatClampNeg)).toNatClampNeg ((I 49 (I 46 11).toNatClampNeg) - 20))) 46 19).toNatClampNeg))))) else I)
def p_X10_tellRule_J54  (f : Nat) (I : am_I) : Prop := (if (I 46 13) ≤ 0 then (vp_in (I 46 19) 24 ∧ (vp_in (I 46 11) 403 ∧ (vp_in ((16 * (I 46 19)) + (I 55 (I 46 19).toNatClampNeg)) 384 ∧ ((p_X10_next (am_w I 56 ((16 * (I 46 19)) + (I 55 (I 46 19).toNatClampNeg)).toNatClampNeg ((I 49 (I 46 11).toNatClampNeg) - 20))) ∧ (vp_in ((s_X10_next (am_w I 56 ((16 * (I 46 19)) + (I 55 (I 46 19).toNatClampNeg)).toNatClampNeg ((I 49 (I 46 11).toNatClampNeg) - 20))) 46 19) 24 ∧ (vp_in ((16 * (I 46 19)) + (I 55 (I 46 19).toNatClampNeg)) 384 ∧ ((p_X10_is (am_w (s_X10_next (am_w I 56 ((16 * (I 46 19)) + (I 55 (I 46 19).toNatClampNeg)).toNatClampNeg ((I 49 (I 46 11).toNatClampNeg) - 20))) 57 ((16 * (I 46 19)) + (I 55 (I 46 19).toNatClampNeg)).toNatClampNeg ((s_X10_next (am_w I 56 ((16 * (I 46 19)) + (I 55 (I 46 19).toNatClampNeg)).toNatClampNeg ((I 49 (I 46 11).toNatClampNeg) - 20))) 59 ((s_X10_next (am_w I 56 ((16 * (I 46 19)) + (I 55 (I 46 19).toNatClampNeg)).toNatClampNeg ((I 49 (I 46 11).toNatClampNeg) - 20))) 46 19).toNatClampNeg)) 23) ∧ (if (s_X10_is (am_w (s_X10_next (am_w I 56 ((16 * (I 46 19)) + (I 55 (I 46 19).toNatClampNeg)).toNatClampNeg ((I 49 (I 46 11).toNatClampNeg) - 20))) 57 ((16 * (I 46 19)) + (I 55 (I 46 19).toNatClampNeg)).toNatClampNeg ((s_X10_next (am_w I 56 ((16 * (I 46 19)) + (I 55 (I 46 19).toNatClampNeg)).toNatClampNeg ((I 49 (I 46 11).toNatClampNeg) - 20))) 59 ((s_X10_next (am_w I 56 ((16 * (I 46 19)) + (I 55 (I 46 19).toNatClampNeg)).toNatClampNeg ((I 49 (I 46 11).toNatClampNeg) - 20))) 46 19).toNatClampNeg)) 23) = 0 then (p_X10_tellRule_L134 f f ((16 * (I 46 19)) + (I 55 (I 46 19).toNatClampNeg)) (s_X10_is (am_w (s_X10_next (am_w I 56 ((16 * (I 46 19)) + (I 55 (I 46 19).toNatClampNeg)).toNatClampNeg ((I 49 (I 46 11).toNatClampNeg) - 20))) 57 ((16 * (I 46 19)) + (I 55 (I 46 19).toNatClampNeg)).toNatClampNeg ((s_X10_next (am_w I 56 ((16 * (I 46 19)) + (I 55 (I 46 19).toNatClampNeg)).toNatClampNeg ((I 49 (I 46 11).toNatClampNeg) - 20))) 59 ((s_X10_next (am_w I 56 ((16 * (I 46 19)) + (I 55 (I 46 19).toNatClampNeg)).toNatClampNeg ((I 49 (I 46 11).toNatClampNeg) - 20))) 46 19).toNatClampNeg)) 23) 1 (am_w (s_X10_next (am_w I 56 ((16 * (I 46 19)) + (I 55 (I 46 19).toNatClampNeg)).toNatClampNeg ((I 49 (I 46 11).toNatClampNeg) - 20))) 57 ((16 * (I 46 19)) + (I 55 (I 46 19).toNatClampNeg)).toNatClampNeg ((s_X10_next (am_w I 56 ((16 * (I 46 19)) + (I 55 (I 46 19).toNatClampNeg)).toNatClampNeg ((I 49 (I 46 11).toNatClampNeg) - 20))) 59 ((s_X10_next (am_w I 56 ((16 * (I 46 19)) + (I 55 (I 46 19).toNatClampNeg)).toNatClampNeg ((I 49 (I 46 11).toNatClampNeg) - 20))) 46 19).toNatClampNeg))) else ((p_X10_next (am_w (s_X10_next (am_w I 56 ((16 * (I 46 19)) + (I 55 (I 46 19).toNatClampNeg)).toNatClampNeg ((I 49 (I 46 11).toNatClampNeg) - 20))) 57 ((16 * (I 46 19)) + (I 55 (I 46 19).toNatClampNeg)).toNatClampNeg ((s_X10_next (am_w I 56 ((16 * (I 46 19)) + (I 55 (I 46 19).toNatClampNeg)).toNatClampNeg ((I 49 (I 46 11).toNatClampNeg) - 20))) 59 ((s_X10_next (am_w I 56 ((16 * (I 46 19)) + (I 55 (I 46 19).toNatClampNeg)).toNatClampNeg ((I 49 (I 46 11).toNatClampNeg) - 20))) 46 19).toNatClampNeg))) ∧ (p_X10_tellRule_L134 f f ((16 * (I 46 19)) + (I 55 (I 46 19).toNatClampNeg)) (s_X10_is (am_w (s_X10_next (am_w I 56 ((16 * (I 46 19)) + (I 55 (I 46 19).toNatClampNeg)).toNatClampNeg ((I 49 (I 46 11).toNatClampNeg) - 20))) 57 ((16 * (I 46 19)) + (I 55 (I 46 19).toNatClampNeg)).toNatClampNeg ((s_X10_next (am_w I 56 ((16 * (I 46 19)) + (I 55 (I 46 19).toNatClampNeg)).toNatClampNeg ((I 49 (I 46 11).toNatClampNeg) - 20))) 59 ((s_X10_next (am_w I 56 ((16 * (I 46 19)) + (I 55 (I 46 19).toNatClampNeg)).toNatClampNeg ((I 49 (I 46 11).toNatClampNeg) - 20))) 46 19).toNatClampNeg)) 23) 1 (s_X10_next (am_w (s_X10_next (am_w I 56 ((16 * (I 46 19)) + (I 55 (I 46 19).toNatClampNeg)).toNatClampNeg ((I 49 (I 46 11).toNatClampNeg) - 20))) 57 ((16 * (I 46 19)) + (I 55 (I 46 19).toNatClampNeg)).toNatClampNeg ((s_X10_next (am_w I 56 ((16 * (I 46 19)) + (I 55 (I 46 19).toNatClampNeg)).toNatClampNeg ((I 49 (I 46 11).toNatClampNeg) - 20))) 59 ((s_X10_next (am_w I 56 ((16 * (I 46 19)) + (I 55 (I 46 19).toNatClampNeg)).toNatClampNeg ((I 49 (I 46 11).toNatClampNeg) - 20))) 46 19).toNatClampNeg))))))))))))) else True)
def s_X10_tellRule (f : Nat) (I : am_I)  : am_I := (if (s_X10_is I 20) = 0 then (if (s_X10_is I 21) = 0 then (if (s_X10_is I 22) = 0 then (s_X10_tellRule_J54 f (s_X10_fail I 1)) else (if (I 55 (I 46 19).toNatClampNeg) = 16 then (s_X10_tellRule_J54 f (s_X10_fail I 2)) else (s_X10_tellRule_J54 f I))) else (if (I 55 (I 46 19).toNatClampNeg) = 16 then (s_X10_tellRule_J54 f (s_X10_fail I 2)) else (s_X10_tellRule_J54 f I))) else (if (I 55 (I 46 19).toNatClampNeg) = 16 then (s_X10_tellRule_J54 f (s_X10_fail I 2)) else (s_X10_tellRule_J54 f I)))
def p_X10_tellRule (f : Nat) (I : am_I)  : Prop := ((p_X10_is I 20) ∧ (if (s_X10_is I 20) = 0 then ((p_X10_is I 21) ∧ (if (s_X10_is I 21) = 0 then ((p_X10_is I 22) ∧ (if (s_X10_is I 22) = 0 then ((p_X10_fail I 1) ∧ (p_X10_tellRule_J54 f (s_X10_fail I 1))) else (vp_in (I 46 19) 24 ∧ (if (I 55 (I 46 19).toNatClampNeg) = 16 then ((p_X10_fail I 2) ∧ (p_X10_tellRule_J54 f (s_X10_fail I 2))) else (p_X10_tellRule_J54 f I))))) else (vp_in (I 46 19) 24 ∧ (if (I 55 (I 46 19).toNatClampNeg) = 16 then ((p_X10_fail I 2) ∧ (p_X10_tellRule_J54 f (s_X10_fail I 2))) else (p_X10_tellRule_J54 f I))))) else (vp_in (I 46 19) 24 ∧ (if (I 55 (I 46 19).toNatClampNeg) = 16 then ((p_X10_fail I 2) ∧ (p_X10_tellRule_J54 f (s_X10_fail I 2))) else (p_X10_tellRule_J54 f I)))))
set_option maxRecDepth 100000 in
set_option maxHeartbeats 4000000 in
theorem gl_X10_tellRule_187  (f : Nat) (J : am_J) (Q : am_Q) (hG : Gr Q) (v1 : Int32) (I : am_I) : p_X10_tellRule_J187 v1 I → Gd MX10_tellRule (am_o 4 0 0 (am_FvI J Q (s_X10_tellRule_J187 v1 I))) 0 0 92 187 [some (.ref 46), some (.int v1), none, none] [] I J Q := by
  intro hp
  unfold s_X10_tellRule_J187
  unfold p_X10_tellRule_J187 at hp
  refine gd_aload_n (q := 188) rfl rfl rfl ?_
  refine gd_iconst (v := 4) (q := 189) rfl rfl rfl ?_
  refine gd_cVv (q := 192) rfl rfl lk10_246 myX10_must vxX10_must (ct_X10_must f _ _ _ hG _ hp.1) rfl (Nat.le_of_ble_eq_true rfl) rfl rfl (Nat.le_of_ble_eq_true rfl) rfl (Nat.le_of_ble_eq_true rfl) ⟨(Nat.le_of_ble_eq_true rfl), (Nat.le_of_ble_eq_true rfl)⟩ ?_
  replace hp := hp.2
  refine gd_aload_n (q := 193) rfl rfl rfl ?_
  refine gd_getI (q := 196) rfl rfl rfl (Nat.le_of_ble_eq_true rfl) rfl rfl ?_
  refine gx_if_le (q := 199) (r := 200) rfl rfl rfl hp (fun c_196 hp => ?_) (fun c_196 hp => ?_)
  · refine gd_aload_n (q := 201) rfl rfl rfl ?_
    refine gd_getR (q := 204) (r := 58) rfl rfl rfl (Nat.le_of_ble_eq_true rfl) rfl rfl (gr_46_23 hG) ?_
    refine gd_iload_n (q := 205) rfl rfl rfl ?_
    refine gd_aload_n (q := 206) rfl rfl rfl ?_
    refine gd_getR (q := 209) (r := 59) rfl rfl rfl (Nat.le_of_ble_eq_true rfl) rfl rfl (gr_46_24 hG) ?_
    refine gd_aload_n (q := 210) rfl rfl rfl ?_
    refine gd_getI (q := 213) rfl rfl rfl (Nat.le_of_ble_eq_true rfl) rfl rfl ?_
    refine gd_iald (q := 214) rfl rfl (Nat.le_of_ble_eq_true rfl) rfl hp.1 ?_
    replace hp := hp.2
    refine gd_iast (q := 215) rfl rfl (Nat.le_of_ble_eq_true rfl) rfl hp.1 ?_
    replace hp := hp.2
    refine gd_aload_n (q := 216) rfl rfl rfl ?_
    refine gd_getR (q := 219) (r := 55) rfl rfl rfl (Nat.le_of_ble_eq_true rfl) rfl rfl (gr_46_20 hG) ?_
    refine gd_aload_n (q := 220) rfl rfl rfl ?_
    refine gd_getI (q := 223) rfl rfl rfl (Nat.le_of_ble_eq_true rfl) rfl rfl ?_
    refine gd_dup2 (q := 224) rfl rfl rfl rfl ?_
    refine gd_iald (q := 225) rfl rfl (Nat.le_of_ble_eq_true rfl) rfl hp.1 ?_
    replace hp := hp.2
    refine gd_iconst (v := 1) (q := 226) rfl rfl rfl ?_
    refine gd_iadd (q := 227) rfl rfl ?_
    refine gd_iast (q := 228) rfl rfl (Nat.le_of_ble_eq_true rfl) rfl hp ?_
    exact gd_return rfl rfl (Nat.le_refl 0) (Nat.le_refl 0) rfl
  · exact gd_return rfl rfl (Nat.le_refl 0) (Nat.le_refl 0) rfl
set_option maxRecDepth 100000 in
set_option maxHeartbeats 4000000 in
theorem gl_X10_tellRule_L134  (f : Nat) (J : am_J) (Q : am_Q) (hG : Gr Q) : ∀ g : Nat, (∀ (v1 : Int32) (v2 : Int32) (v3 : Int32) (I : am_I), p_X10_tellRule_L134 f g v1 v2 v3 I → Gd MX10_tellRule (am_o 4 0 0 (am_FvI J Q (s_X10_tellRule_L134 f g v1 v2 v3 I))) 0 0 92 134 [some (.ref 46), some (.int v1), some (.int v2), some (.int v3)] [] I J Q) := by
  intro g
  induction g with
  | zero => exact fun _ _ _ _ hp => False.elim hp
  | succ g ih =>
    have ih_134 := ih
    intro v1 v2 v3 I hp
    rw [s_X10_tellRule_L134]
    rw [p_X10_tellRule_L134] at hp
    refine gd_iload_n (q := 135) rfl rfl rfl ?_
    refine gx_if_eq (q := 138) (r := 187) rfl rfl rfl hp (fun c_135 hp => ?_) (fun c_135 hp => ?_)
    · refine gd_drop 2 ?_
      refine gd_drop 3 ?_
      exact gl_X10_tellRule_187 f J Q hG _ _ hp
    · refine gd_aload_n (q := 139) rfl rfl rfl ?_
      refine gd_getI (q := 142) rfl rfl rfl (Nat.le_of_ble_eq_true rfl) rfl rfl ?_
      refine gx_if_ne (q := 145) (r := 187) rfl rfl rfl hp (fun c_142 hp => ?_) (fun c_142 hp => ?_)
      · refine gd_aload_n (q := 146) rfl rfl rfl ?_
        refine gd_iload_n (q := 147) rfl rfl rfl ?_
        refine gd_cVv (q := 150) rfl rfl lk10_242 myX10_literal vxX10_literal (ct_X10_literal f _ _ _ hG _ hp.1) rfl (Nat.le_of_ble_eq_true rfl) rfl rfl (Nat.le_of_ble_eq_true rfl) rfl (Nat.le_of_ble_eq_true rfl) ⟨(Nat.le_of_ble_eq_true rfl), (Nat.le_of_ble_eq_true rfl)⟩ ?_
        replace hp := hp.2
        refine gd_aload_n (q := 151) rfl rfl rfl ?_
        refine gd_bipush (v := 24) (q := 153) rfl rfl rfl ?_
        refine gd_cVi (q := 156) rfl rfl lk10_218 myX10_is vxX10_is (ct_X10_is f _ _ _ hG _ hp.1) rfl (Nat.le_of_ble_eq_true rfl) rfl rfl (Nat.le_of_ble_eq_true rfl) rfl (Nat.le_of_ble_eq_true rfl) ⟨(Nat.le_of_ble_eq_true rfl), (Nat.le_of_ble_eq_true rfl)⟩ ?_
        replace hp := hp.2
        refine gd_istore_n (q := 157) rfl rfl (Nat.le_of_ble_eq_true rfl) rfl ?_
        refine gd_iload_n (q := 158) rfl rfl rfl ?_
        refine gx_if_ne (q := 161) (r := 170) rfl rfl rfl hp (fun c_158 hp => ?_) (fun c_158 hp => ?_)
        · refine gd_aload_n (q := 162) rfl rfl rfl ?_
          refine gd_bipush (v := 25) (q := 164) rfl rfl rfl ?_
          refine gd_cVi (q := 167) rfl rfl lk10_218 myX10_is vxX10_is (ct_X10_is f _ _ _ hG _ hp.1) rfl (Nat.le_of_ble_eq_true rfl) rfl rfl (Nat.le_of_ble_eq_true rfl) rfl (Nat.le_of_ble_eq_true rfl) ⟨(Nat.le_of_ble_eq_true rfl), (Nat.le_of_ble_eq_true rfl)⟩ ?_
          replace hp := hp.2
          refine gx_if_eq (q := 170) (r := 174) rfl rfl rfl hp (fun c_167 hp => ?_) (fun c_167 hp => ?_)
          · refine gd_iconst (v := 0) (q := 175) rfl rfl rfl ?_
            refine gd_istore_n (q := 176) rfl rfl (Nat.le_of_ble_eq_true rfl) rfl ?_
            refine gd_iload_n (q := 177) rfl rfl rfl ?_
            refine gd_if_eq (q := 180) (r := 134) rfl rfl rfl (fun _ => ?_) (fun c => absurd c (by decide))
            exact ih_134 _ 0 _ _ hp
          · refine gd_iconst (v := 1) (q := 171) rfl rfl rfl ?_
            refine gd_goto (q := 175) rfl rfl ?_
            refine gd_istore_n (q := 176) rfl rfl (Nat.le_of_ble_eq_true rfl) rfl ?_
            refine gd_iload_n (q := 177) rfl rfl rfl ?_
            refine gd_if_eq (q := 180) (r := 134) rfl rfl rfl (fun c => absurd c (by decide)) (fun _ => ?_)
            refine gd_aload_n (q := 181) rfl rfl rfl ?_
            refine gd_cVv (q := 184) rfl rfl lk10_221 myX10_next vxX10_next (ct_X10_next f _ _ _ hG hp.1) rfl (Nat.le_of_ble_eq_true rfl) rfl rfl (Nat.le_of_ble_eq_true rfl) rfl (Nat.le_of_ble_eq_true rfl) ⟨(Nat.le_of_ble_eq_true rfl), (Nat.le_of_ble_eq_true rfl)⟩ ?_
            replace hp := hp.2
            refine gd_goto (q := 134) rfl rfl ?_
            exact ih_134 _ _ _ _ hp
        · refine gd_iconst (v := 1) (q := 171) rfl rfl rfl ?_
          refine gd_goto (q := 175) rfl rfl ?_
          refine gd_istore_n (q := 176) rfl rfl (Nat.le_of_ble_eq_true rfl) rfl ?_
          refine gd_iload_n (q := 177) rfl rfl rfl ?_
          refine gd_if_eq (q := 180) (r := 134) rfl rfl rfl (fun c => absurd c (by decide)) (fun _ => ?_)
          refine gd_aload_n (q := 181) rfl rfl rfl ?_
          refine gd_cVv (q := 184) rfl rfl lk10_221 myX10_next vxX10_next (ct_X10_next f _ _ _ hG hp.1) rfl (Nat.le_of_ble_eq_true rfl) rfl rfl (Nat.le_of_ble_eq_true rfl) rfl (Nat.le_of_ble_eq_true rfl) ⟨(Nat.le_of_ble_eq_true rfl), (Nat.le_of_ble_eq_true rfl)⟩ ?_
          replace hp := hp.2
          refine gd_goto (q := 134) rfl rfl ?_
          exact ih_134 _ _ _ _ hp
      · refine gd_drop 2 ?_
        refine gd_drop 3 ?_
        exact gl_X10_tellRule_187 f J Q hG _ _ hp
theorem gl_X10_tellRule_134  (f : Nat) (J : am_J) (Q : am_Q) (hG : Gr Q) (g : Nat) : ∀ (v1 : Int32) (v2 : Int32) (v3 : Int32) (I : am_I), p_X10_tellRule_L134 f g v1 v2 v3 I → Gd MX10_tellRule (am_o 4 0 0 (am_FvI J Q (s_X10_tellRule_L134 f g v1 v2 v3 I))) 0 0 92 134 [some (.ref 46), some (.int v1), some (.int v2), some (.int v3)] [] I J Q := (gl_X10_tellRule_L134 f J Q hG g)
set_option maxRecDepth 100000 in
set_option maxHeartbeats 4000000 in
theorem gl_X10_tellRule_54  (f : Nat) (J : am_J) (Q : am_Q) (hG : Gr Q) (I : am_I) : p_X10_tellRule_J54 f I → Gd MX10_tellRule (am_o 4 0 0 (am_FvI J Q (s_X10_tellRule_J54 f I))) 0 0 92 54 [some (.ref 46), none, none, none] [] I J Q := by
  intro hp
  unfold s_X10_tellRule_J54
  unfold p_X10_tellRule_J54 at hp
  refine gd_aload_n (q := 55) rfl rfl rfl ?_
  refine gd_getI (q := 58) rfl rfl rfl (Nat.le_of_ble_eq_true rfl) rfl rfl ?_
  refine gx_if_le (q := 61) (r := 62) rfl rfl rfl hp (fun c_58 hp => ?_) (fun c_58 hp => ?_)
  · refine gd_bipush (v := 16) (q := 64) rfl rfl rfl ?_
    refine gd_aload_n (q := 65) rfl rfl rfl ?_
    refine gd_getI (q := 68) rfl rfl rfl (Nat.le_of_ble_eq_true rfl) rfl rfl ?_
    refine gd_imul (q := 69) rfl rfl ?_
    refine gd_aload_n (q := 70) rfl rfl rfl ?_
    refine gd_getR (q := 73) (r := 55) rfl rfl rfl (Nat.le_of_ble_eq_true rfl) rfl rfl (gr_46_20 hG) ?_
    refine gd_aload_n (q := 74) rfl rfl rfl ?_
    refine gd_getI (q := 77) rfl rfl rfl (Nat.le_of_ble_eq_true rfl) rfl rfl ?_
    refine gd_iald (q := 78) rfl rfl (Nat.le_of_ble_eq_true rfl) rfl hp.1 ?_
    replace hp := hp.2
    refine gd_iadd (q := 79) rfl rfl ?_
    refine gd_istore_n (q := 80) rfl rfl (Nat.le_of_ble_eq_true rfl) rfl ?_
    refine gd_aload_n (q := 81) rfl rfl rfl ?_
    refine gd_getR (q := 84) (r := 56) rfl rfl rfl (Nat.le_of_ble_eq_true rfl) rfl rfl (gr_46_21 hG) ?_
    refine gd_iload_n (q := 85) rfl rfl rfl ?_
    refine gd_aload_n (q := 86) rfl rfl rfl ?_
    refine gd_getR (q := 89) (r := 49) rfl rfl rfl (Nat.le_of_ble_eq_true rfl) rfl rfl (gr_46_5 hG) ?_
    refine gd_aload_n (q := 90) rfl rfl rfl ?_
    refine gd_getI (q := 93) rfl rfl rfl (Nat.le_of_ble_eq_true rfl) rfl rfl ?_
    refine gd_iald (q := 94) rfl rfl (Nat.le_of_ble_eq_true rfl) rfl hp.1 ?_
    replace hp := hp.2
    refine gd_bipush (v := 20) (q := 96) rfl rfl rfl ?_
    refine gd_isub (q := 97) rfl rfl ?_
    refine gd_iast (q := 98) rfl rfl (Nat.le_of_ble_eq_true rfl) rfl hp.1 ?_
    replace hp := hp.2
    refine gd_aload_n (q := 99) rfl rfl rfl ?_
    refine gd_cVv (q := 102) rfl rfl lk10_221 myX10_next vxX10_next (ct_X10_next f _ _ _ hG hp.1) rfl (Nat.le_of_ble_eq_true rfl) rfl rfl (Nat.le_of_ble_eq_true rfl) rfl (Nat.le_of_ble_eq_true rfl) ⟨(Nat.le_of_ble_eq_true rfl), (Nat.le_of_ble_eq_true rfl)⟩ ?_
    replace hp := hp.2
    refine gd_aload_n (q := 103) rfl rfl rfl ?_
    refine gd_getR (q := 106) (r := 57) rfl rfl rfl (Nat.le_of_ble_eq_true rfl) rfl rfl (gr_46_22 hG) ?_
    refine gd_iload_n (q := 107) rfl rfl rfl ?_
    refine gd_aload_n (q := 108) rfl rfl rfl ?_
    refine gd_getR (q := 111) (r := 59) rfl rfl rfl (Nat.le_of_ble_eq_true rfl) rfl rfl (gr_46_24 hG) ?_
    refine gd_aload_n (q := 112) rfl rfl rfl ?_
    refine gd_getI (q := 115) rfl rfl rfl (Nat.le_of_ble_eq_true rfl) rfl rfl ?_
    refine gd_iald (q := 116) rfl rfl (Nat.le_of_ble_eq_true rfl) rfl hp.1 ?_
    replace hp := hp.2
    refine gd_iast (q := 117) rfl rfl (Nat.le_of_ble_eq_true rfl) rfl hp.1 ?_
    replace hp := hp.2
    refine gd_aload_n (q := 118) rfl rfl rfl ?_
    refine gd_bipush (v := 23) (q := 120) rfl rfl rfl ?_
    refine gd_cVi (q := 123) rfl rfl lk10_218 myX10_is vxX10_is (ct_X10_is f _ _ _ hG _ hp.1) rfl (Nat.le_of_ble_eq_true rfl) rfl rfl (Nat.le_of_ble_eq_true rfl) rfl (Nat.le_of_ble_eq_true rfl) ⟨(Nat.le_of_ble_eq_true rfl), (Nat.le_of_ble_eq_true rfl)⟩ ?_
    replace hp := hp.2
    refine gd_istore_n (q := 124) rfl rfl (Nat.le_of_ble_eq_true rfl) rfl ?_
    refine gd_iload_n (q := 125) rfl rfl rfl ?_
    refine gx_if_eq (q := 128) (r := 132) rfl rfl rfl hp (fun c_125 hp => ?_) (fun c_125 hp => ?_)
    · refine gd_iconst (v := 1) (q := 133) rfl rfl rfl ?_
      refine gd_istore_n (q := 134) rfl rfl (Nat.le_of_ble_eq_true rfl) rfl ?_
      exact gl_X10_tellRule_134 f J Q hG f _ _ _ _ hp
    · refine gd_aload_n (q := 129) rfl rfl rfl ?_
      refine gd_cVv (q := 132) rfl rfl lk10_221 myX10_next vxX10_next (ct_X10_next f _ _ _ hG hp.1) rfl (Nat.le_of_ble_eq_true rfl) rfl rfl (Nat.le_of_ble_eq_true rfl) rfl (Nat.le_of_ble_eq_true rfl) ⟨(Nat.le_of_ble_eq_true rfl), (Nat.le_of_ble_eq_true rfl)⟩ ?_
      replace hp := hp.2
      refine gd_iconst (v := 1) (q := 133) rfl rfl rfl ?_
      refine gd_istore_n (q := 134) rfl rfl (Nat.le_of_ble_eq_true rfl) rfl ?_
      exact gl_X10_tellRule_134 f J Q hG f _ _ _ _ hp
  · exact gd_return rfl rfl (Nat.le_refl 0) (Nat.le_refl 0) rfl
set_option maxRecDepth 100000 in
set_option maxHeartbeats 4000000 in
theorem gt_X10_tellRule (f : Nat) (I : am_I) (J : am_J) (Q : am_Q) (hG : Gr Q)  (hp : p_X10_tellRule f I) : Gd MX10_tellRule (am_o 4 0 0 (am_FvI J Q (s_X10_tellRule f I))) 0 0 92 0 [some (.ref 46), none, none, none] [] I J Q := by
  unfold s_X10_tellRule
  unfold p_X10_tellRule at hp
  refine gd_aload_n (q := 1) rfl rfl rfl ?_
  refine gd_bipush (v := 20) (q := 3) rfl rfl rfl ?_
  refine gd_cVi (q := 6) rfl rfl lk10_218 myX10_is vxX10_is (ct_X10_is f _ _ _ hG _ hp.1) rfl (Nat.le_of_ble_eq_true rfl) rfl rfl (Nat.le_of_ble_eq_true rfl) rfl (Nat.le_of_ble_eq_true rfl) ⟨(Nat.le_of_ble_eq_true rfl), (Nat.le_of_ble_eq_true rfl)⟩ ?_
  replace hp := hp.2
  refine gx_if_ne (q := 9) (r := 35) rfl rfl rfl hp (fun c_6 hp => ?_) (fun c_6 hp => ?_)
  · refine gd_aload_n (q := 10) rfl rfl rfl ?_
    refine gd_bipush (v := 21) (q := 12) rfl rfl rfl ?_
    refine gd_cVi (q := 15) rfl rfl lk10_218 myX10_is vxX10_is (ct_X10_is f _ _ _ hG _ hp.1) rfl (Nat.le_of_ble_eq_true rfl) rfl rfl (Nat.le_of_ble_eq_true rfl) rfl (Nat.le_of_ble_eq_true rfl) ⟨(Nat.le_of_ble_eq_true rfl), (Nat.le_of_ble_eq_true rfl)⟩ ?_
    replace hp := hp.2
    refine gx_if_ne (q := 18) (r := 35) rfl rfl rfl hp (fun c_15 hp => ?_) (fun c_15 hp => ?_)
    · refine gd_aload_n (q := 19) rfl rfl rfl ?_
      refine gd_bipush (v := 22) (q := 21) rfl rfl rfl ?_
      refine gd_cVi (q := 24) rfl rfl lk10_218 myX10_is vxX10_is (ct_X10_is f _ _ _ hG _ hp.1) rfl (Nat.le_of_ble_eq_true rfl) rfl rfl (Nat.le_of_ble_eq_true rfl) rfl (Nat.le_of_ble_eq_true rfl) ⟨(Nat.le_of_ble_eq_true rfl), (Nat.le_of_ble_eq_true rfl)⟩ ?_
      replace hp := hp.2
      refine gx_if_ne (q := 27) (r := 35) rfl rfl rfl hp (fun c_24 hp => ?_) (fun c_24 hp => ?_)
      · refine gd_aload_n (q := 28) rfl rfl rfl ?_
        refine gd_iconst (v := 1) (q := 29) rfl rfl rfl ?_
        refine gd_cVv (q := 32) rfl rfl lk10_215 myX10_fail vxX10_fail (ct_X10_fail f _ _ _ hG _ hp.1) rfl (Nat.le_of_ble_eq_true rfl) rfl rfl (Nat.le_of_ble_eq_true rfl) rfl (Nat.le_of_ble_eq_true rfl) ⟨(Nat.le_of_ble_eq_true rfl), (Nat.le_of_ble_eq_true rfl)⟩ ?_
        replace hp := hp.2
        refine gd_goto (q := 54) rfl rfl ?_
        exact gl_X10_tellRule_54 f J Q hG _ hp
      · refine gd_aload_n (q := 36) rfl rfl rfl ?_
        refine gd_getR (q := 39) (r := 55) rfl rfl rfl (Nat.le_of_ble_eq_true rfl) rfl rfl (gr_46_20 hG) ?_
        refine gd_aload_n (q := 40) rfl rfl rfl ?_
        refine gd_getI (q := 43) rfl rfl rfl (Nat.le_of_ble_eq_true rfl) rfl rfl ?_
        refine gd_iald (q := 44) rfl rfl (Nat.le_of_ble_eq_true rfl) rfl hp.1 ?_
        replace hp := hp.2
        refine gd_bipush (v := 16) (q := 46) rfl rfl rfl ?_
        refine gx_icmp_ne (q := 49) (r := 54) rfl rfl rfl hp (fun c_46 hp => ?_) (fun c_46 hp => ?_)
        · refine gd_aload_n (q := 50) rfl rfl rfl ?_
          refine gd_iconst (v := 2) (q := 51) rfl rfl rfl ?_
          refine gd_cVv (q := 54) rfl rfl lk10_215 myX10_fail vxX10_fail (ct_X10_fail f _ _ _ hG _ hp.1) rfl (Nat.le_of_ble_eq_true rfl) rfl rfl (Nat.le_of_ble_eq_true rfl) rfl (Nat.le_of_ble_eq_true rfl) ⟨(Nat.le_of_ble_eq_true rfl), (Nat.le_of_ble_eq_true rfl)⟩ ?_
          replace hp := hp.2
          exact gl_X10_tellRule_54 f J Q hG _ hp
        · exact gl_X10_tellRule_54 f J Q hG _ hp
    · refine gd_aload_n (q := 36) rfl rfl rfl ?_
      refine gd_getR (q := 39) (r := 55) rfl rfl rfl (Nat.le_of_ble_eq_true rfl) rfl rfl (gr_46_20 hG) ?_
      refine gd_aload_n (q := 40) rfl rfl rfl ?_
      refine gd_getI (q := 43) rfl rfl rfl (Nat.le_of_ble_eq_true rfl) rfl rfl ?_
      refine gd_iald (q := 44) rfl rfl (Nat.le_of_ble_eq_true rfl) rfl hp.1 ?_
      replace hp := hp.2
      refine gd_bipush (v := 16) (q := 46) rfl rfl rfl ?_
      refine gx_icmp_ne (q := 49) (r := 54) rfl rfl rfl hp (fun c_46 hp => ?_) (fun c_46 hp => ?_)
      · refine gd_aload_n (q := 50) rfl rfl rfl ?_
        refine gd_iconst (v := 2) (q := 51) rfl rfl rfl ?_
        refine gd_cVv (q := 54) rfl rfl lk10_215 myX10_fail vxX10_fail (ct_X10_fail f _ _ _ hG _ hp.1) rfl (Nat.le_of_ble_eq_true rfl) rfl rfl (Nat.le_of_ble_eq_true rfl) rfl (Nat.le_of_ble_eq_true rfl) ⟨(Nat.le_of_ble_eq_true rfl), (Nat.le_of_ble_eq_true rfl)⟩ ?_
        replace hp := hp.2
        exact gl_X10_tellRule_54 f J Q hG _ hp
      · exact gl_X10_tellRule_54 f J Q hG _ hp
  · refine gd_aload_n (q := 36) rfl rfl rfl ?_
    refine gd_getR (q := 39) (r := 55) rfl rfl rfl (Nat.le_of_ble_eq_true rfl) rfl rfl (gr_46_20 hG) ?_
    refine gd_aload_n (q := 40) rfl rfl rfl ?_
    refine gd_getI (q := 43) rfl rfl rfl (Nat.le_of_ble_eq_true rfl) rfl rfl ?_
    refine gd_iald (q := 44) rfl rfl (Nat.le_of_ble_eq_true rfl) rfl hp.1 ?_
    replace hp := hp.2
    refine gd_bipush (v := 16) (q := 46) rfl rfl rfl ?_
    refine gx_icmp_ne (q := 49) (r := 54) rfl rfl rfl hp (fun c_46 hp => ?_) (fun c_46 hp => ?_)
    · refine gd_aload_n (q := 50) rfl rfl rfl ?_
      refine gd_iconst (v := 2) (q := 51) rfl rfl rfl ?_
      refine gd_cVv (q := 54) rfl rfl lk10_215 myX10_fail vxX10_fail (ct_X10_fail f _ _ _ hG _ hp.1) rfl (Nat.le_of_ble_eq_true rfl) rfl rfl (Nat.le_of_ble_eq_true rfl) rfl (Nat.le_of_ble_eq_true rfl) ⟨(Nat.le_of_ble_eq_true rfl), (Nat.le_of_ble_eq_true rfl)⟩ ?_
      replace hp := hp.2
      exact gl_X10_tellRule_54 f J Q hG _ hp
    · exact gl_X10_tellRule_54 f J Q hG _ hp
theorem ct_X10_tellRule (f : Nat) (I : am_I) (J : am_J) (Q : am_Q) (hG : Gr Q)  (hp : p_X10_tellRule f I) : Cm MX10_tellRule 4 0 0 92 [.ref 46] I J Q (am_FvI J Q (s_X10_tellRule f I)) := cm_of (by decide) rfl IX10_tellRule_ok (Nat.le_of_ble_eq_true rfl) (gt_X10_tellRule f I J Q hG hp)
def s_X10_read_J175 (a1 : Int32)  (t0 : Int32) (I : am_I) (J : am_J) : Int32 × am_I × am_J := (if (I 46 13) ≤ 0 then (if (I 46 15) ≤ 0 then (0, (am_w (am_w I 46 17 t0) 54 a1.toNatClampNeg (1 - (I 54 a1.toNatClampNeg))), J) else ((I 46 15), (am_w I 46 17 t0), J)) else ((I 46 13), (am_w I 46 17 t0), J))
def p_X10_read_J175 (a1 : Int32)  (t0 : Int32) (I : am_I) (J : am_J) : Prop := (if (I 46 13) ≤ 0 then (if (I 46 15) ≤ 0 then (vp_in a1 12 ∧ vp_in a1 12) else True) else True)
def s_X10_read_L123 (a1 : Int32) (f : Nat) : Nat → am_I → am_J → Int32 × am_I × am_J
  | 0, I, J => (0, I, J)
  | g + 1, I, J => (if (I 46 13) = 0 then (if (s_X10_is I 0) = 0 then (s_X10_read_L123 a1 f g (s_X10_tellRule f I) J) else (if (I 46 13) ≤ 0 then (if (I 46 15) ≤ 0 then (s_X10_read_J175 a1 (-1) I J) else (s_X10_read_J175 a1 (I 46 16) I J)) else (s_X10_read_J175 a1 (I 46 14) I J))) else (if (I 46 13) ≤ 0 then (if (I 46 15) ≤ 0 then (s_X10_read_J175 a1 (-1) I J) else (s_X10_read_J175 a1 (I 46 16) I J)) else (s_X10_read_J175 a1 (I 46 14) I J)))
def p_X10_read_L123 (a1 : Int32) (f : Nat) : Nat → am_I → am_J → Prop
  | 0, _, _ => False
  | g + 1, I, J => (if (I 46 13) = 0 then ((p_X10_is I 0) ∧ (if (s_X10_is I 0) = 0 then ((p_X10_tellRule f I) ∧ (p_X10_read_L123 a1 f g (s_X10_tellRule f I) J)) else (if (I 46 13) ≤ 0 then (if (I 46 15) ≤ 0 then (p_X10_read_J175 a1 (-1) I J) else (p_X10_read_J175 a1 (I 46 16) I J)) else (p_X10_read_J175 a1 (I 46 14) I J)))) else (if (I 46 13) ≤ 0 then (if (I 46 15) ≤ 0 then (p_X10_read_J175 a1 (-1) I J) else (p_X10_read_J175 a1 (I 46 16) I J)) else (p_X10_read_J175 a1 (I 46 14) I J)))
def s_X10_read_L20 (a1 : Int32) (f : Nat) : Nat → Int32 → am_I → am_J → Int32 × am_I × am_J
  | 0, _, I, J => (0, I, J)
  | g + 1, v2, I, J => (if (I 46 4) ≤ v2 then (s_X10_read_L123 a1 f f (am_w (am_w (am_w (am_w (am_w (am_w (am_w (am_w ((s_X10_cut f (am_w I 46 2 0) J).1) 46 11 0) 46 12 0) 46 13 0) 46 15 0) 46 19 (((2 * a1) + 1) - (((s_X10_cut f (am_w I 46 2 0) J).1) 54 a1.toNatClampNeg))) 55 (((2 * a1) + 1) - (((s_X10_cut f (am_w I 46 2 0) J).1) 54 a1.toNatClampNeg)).toNatClampNeg 0) 59 (((2 * a1) + 1) - (((s_X10_cut f (am_w I 46 2 0) J).1) 54 a1.toNatClampNeg)).toNatClampNeg 0) 46 30 (500 * (((2 * a1) + 1) - (((s_X10_cut f (am_w I 46 2 0) J).1) 54 a1.toNatClampNeg)))) ((s_X10_cut f (am_w I 46 2 0) J).2)) else (s_X10_read_L20 a1 f g (v2 + 1) (am_w I 48 v2.toNatClampNeg (vp_nar .byte (I 47 v2.toNatClampNeg))) J))
def p_X10_read_L20 (a1 : Int32) (f : Nat) : Nat → Int32 → am_I → am_J → Prop
  | 0, _, _, _ => False
  | g + 1, v2, I, J => (if (I 46 4) ≤ v2 then ((p_X10_cut f (am_w I 46 2 0) J) ∧ (vp_in a1 12 ∧ (vp_in (((2 * a1) + 1) - (((s_X10_cut f (am_w I 46 2 0) J).1) 54 a1.toNatClampNeg)) 24 ∧ (vp_in (((2 * a1) + 1) - (((s_X10_cut f (am_w I 46 2 0) J).1) 54 a1.toNatClampNeg)) 24 ∧ (p_X10_read_L123 a1 f f (am_w (am_w (am_w (am_w (am_w (am_w (am_w (am_w ((s_X10_cut f (am_w I 46 2 0) J).1) 46 11 0) 46 12 0) 46 13 0) 46 15 0) 46 19 (((2 * a1) + 1) - (((s_X10_cut f (am_w I 46 2 0) J).1) 54 a1.toNatClampNeg))) 55 (((2 * a1) + 1) - (((s_X10_cut f (am_w I 46 2 0) J).1) 54 a1.toNatClampNeg)).toNatClampNeg 0) 59 (((2 * a1) + 1) - (((s_X10_cut f (am_w I 46 2 0) J).1) 54 a1.toNatClampNeg)).toNatClampNeg 0) 46 30 (500 * (((2 * a1) + 1) - (((s_X10_cut f (am_w I 46 2 0) J).1) 54 a1.toNatClampNeg)))) ((s_X10_cut f (am_w I 46 2 0) J).2)))))) else (vp_in v2 2000 ∧ (vp_in v2 2000 ∧ (p_X10_read_L20 a1 f g (v2 + 1) (am_w I 48 v2.toNatClampNeg (vp_nar .byte (I 47 v2.toNatClampNeg))) J))))
def s_X10_read (f : Nat) (I : am_I) (J : am_J) (a1 : Int32) : Int32 × am_I × am_J := (if (s_X10_isPerson I a1) = 0 then ((-1), I, J) else (s_X10_read_L20 a1 f f 0 (am_w I 46 4 (I 46 2)) J))
def p_X10_read (f : Nat) (I : am_I) (J : am_J) (a1 : Int32) : Prop := (if (s_X10_isPerson I a1) = 0 then True else (p_X10_read_L20 a1 f f 0 (am_w I 46 4 (I 46 2)) J))
set_option maxRecDepth 100000 in
set_option maxHeartbeats 4000000 in
theorem gl_X10_read_175 (a1 : Int32) (f : Nat) (Q : am_Q) (hG : Gr Q) (t0 : Int32) (I : am_I) (J : am_J) : p_X10_read_J175 a1 t0 I J → Gd MX10_read (am_o 5 0 0 (am_FiIJ Q (s_X10_read_J175 a1 t0 I J))) 0 0 92 175 [some (.ref 46), some (.int a1), none] [.int t0, .ref 46] I J Q := by
  intro hp
  unfold s_X10_read_J175
  unfold p_X10_read_J175 at hp
  refine gd_putI (q := 178) rfl rfl rfl (Nat.le_of_ble_eq_true rfl) rfl rfl rfl (Or.inl rfl) ?_
  refine gd_aload_n (q := 179) rfl rfl rfl ?_
  refine gd_getI (q := 182) rfl rfl rfl (Nat.le_of_ble_eq_true rfl) rfl rfl ?_
  refine gx_if_le (q := 185) (r := 190) rfl rfl rfl hp (fun c_182 hp => ?_) (fun c_182 hp => ?_)
  · refine gd_aload_n (q := 191) rfl rfl rfl ?_
    refine gd_getI (q := 194) rfl rfl rfl (Nat.le_of_ble_eq_true rfl) rfl rfl ?_
    refine gx_if_le (q := 197) (r := 202) rfl rfl rfl hp (fun c_194 hp => ?_) (fun c_194 hp => ?_)
    · refine gd_aload_n (q := 203) rfl rfl rfl ?_
      refine gd_getR (q := 206) (r := 54) rfl rfl rfl (Nat.le_of_ble_eq_true rfl) rfl rfl (gr_46_18 hG) ?_
      refine gd_iload_n (q := 207) rfl rfl rfl ?_
      refine gd_iconst (v := 1) (q := 208) rfl rfl rfl ?_
      refine gd_aload_n (q := 209) rfl rfl rfl ?_
      refine gd_getR (q := 212) (r := 54) rfl rfl rfl (Nat.le_of_ble_eq_true rfl) rfl rfl (gr_46_18 hG) ?_
      refine gd_iload_n (q := 213) rfl rfl rfl ?_
      refine gd_iald (q := 214) rfl rfl (Nat.le_of_ble_eq_true rfl) rfl hp.1 ?_
      replace hp := hp.2
      refine gd_isub (q := 215) rfl rfl ?_
      refine gd_iast (q := 216) rfl rfl (Nat.le_of_ble_eq_true rfl) rfl hp ?_
      refine gd_iconst (v := 0) (q := 217) rfl rfl rfl ?_
      exact gd_ireturn rfl rfl rfl (Nat.le_refl 0) (Nat.le_refl 0) rfl
    · refine gd_aload_n (q := 198) rfl rfl rfl ?_
      refine gd_getI (q := 201) rfl rfl rfl (Nat.le_of_ble_eq_true rfl) rfl rfl ?_
      exact gd_ireturn rfl rfl rfl (Nat.le_refl 0) (Nat.le_refl 0) rfl
  · refine gd_aload_n (q := 186) rfl rfl rfl ?_
    refine gd_getI (q := 189) rfl rfl rfl (Nat.le_of_ble_eq_true rfl) rfl rfl ?_
    exact gd_ireturn rfl rfl rfl (Nat.le_refl 0) (Nat.le_refl 0) rfl
set_option maxRecDepth 100000 in
set_option maxHeartbeats 4000000 in
theorem gl_X10_read_L123 (a1 : Int32) (f : Nat) (Q : am_Q) (hG : Gr Q) : ∀ g : Nat, (∀ (I : am_I) (J : am_J), p_X10_read_L123 a1 f g I J → Gd MX10_read (am_o 5 0 0 (am_FiIJ Q (s_X10_read_L123 a1 f g I J))) 0 0 92 123 [some (.ref 46), some (.int a1), none] [] I J Q) := by
  intro g
  induction g with
  | zero => exact fun _ _ hp => False.elim hp
  | succ g ih =>
    have ih_123 := ih
    intro I J hp
    rw [s_X10_read_L123]
    rw [p_X10_read_L123] at hp
    refine gd_aload_n (q := 124) rfl rfl rfl ?_
    refine gd_getI (q := 127) rfl rfl rfl (Nat.le_of_ble_eq_true rfl) rfl rfl ?_
    refine gx_if_ne (q := 130) (r := 145) rfl rfl rfl hp (fun c_127 hp => ?_) (fun c_127 hp => ?_)
    · refine gd_aload_n (q := 131) rfl rfl rfl ?_
      refine gd_iconst (v := 0) (q := 132) rfl rfl rfl ?_
      refine gd_cVi (q := 135) rfl rfl lk10_218 myX10_is vxX10_is (ct_X10_is f _ _ _ hG _ hp.1) rfl (Nat.le_of_ble_eq_true rfl) rfl rfl (Nat.le_of_ble_eq_true rfl) rfl (Nat.le_of_ble_eq_true rfl) ⟨(Nat.le_of_ble_eq_true rfl), (Nat.le_of_ble_eq_true rfl)⟩ ?_
      replace hp := hp.2
      refine gx_if_ne (q := 138) (r := 145) rfl rfl rfl hp (fun c_135 hp => ?_) (fun c_135 hp => ?_)
      · refine gd_aload_n (q := 139) rfl rfl rfl ?_
        refine gd_cVv (q := 142) rfl rfl lk10_239 myX10_tellRule vxX10_tellRule (ct_X10_tellRule f _ _ _ hG hp.1) rfl (Nat.le_of_ble_eq_true rfl) rfl rfl (Nat.le_of_ble_eq_true rfl) rfl (Nat.le_of_ble_eq_true rfl) ⟨(Nat.le_of_ble_eq_true rfl), (Nat.le_of_ble_eq_true rfl)⟩ ?_
        replace hp := hp.2
        refine gd_goto (q := 123) rfl rfl ?_
        exact ih_123 _ _ hp
      · refine gd_aload_n (q := 146) rfl rfl rfl ?_
        refine gd_aload_n (q := 147) rfl rfl rfl ?_
        refine gd_getI (q := 150) rfl rfl rfl (Nat.le_of_ble_eq_true rfl) rfl rfl ?_
        refine gx_if_le (q := 153) (r := 160) rfl rfl rfl hp (fun c_150 hp => ?_) (fun c_150 hp => ?_)
        · refine gd_aload_n (q := 161) rfl rfl rfl ?_
          refine gd_getI (q := 164) rfl rfl rfl (Nat.le_of_ble_eq_true rfl) rfl rfl ?_
          refine gx_if_le (q := 167) (r := 174) rfl rfl rfl hp (fun c_164 hp => ?_) (fun c_164 hp => ?_)
          · refine gd_iconst (v := (-1)) (q := 175) rfl rfl rfl ?_
            exact gl_X10_read_175 a1 f Q hG _ _ _ hp
          · refine gd_aload_n (q := 168) rfl rfl rfl ?_
            refine gd_getI (q := 171) rfl rfl rfl (Nat.le_of_ble_eq_true rfl) rfl rfl ?_
            refine gd_goto (q := 175) rfl rfl ?_
            exact gl_X10_read_175 a1 f Q hG _ _ _ hp
        · refine gd_aload_n (q := 154) rfl rfl rfl ?_
          refine gd_getI (q := 157) rfl rfl rfl (Nat.le_of_ble_eq_true rfl) rfl rfl ?_
          refine gd_goto (q := 175) rfl rfl ?_
          exact gl_X10_read_175 a1 f Q hG _ _ _ hp
    · refine gd_aload_n (q := 146) rfl rfl rfl ?_
      refine gd_aload_n (q := 147) rfl rfl rfl ?_
      refine gd_getI (q := 150) rfl rfl rfl (Nat.le_of_ble_eq_true rfl) rfl rfl ?_
      refine gx_if_le (q := 153) (r := 160) rfl rfl rfl hp (fun c_150 hp => ?_) (fun c_150 hp => ?_)
      · refine gd_aload_n (q := 161) rfl rfl rfl ?_
        refine gd_getI (q := 164) rfl rfl rfl (Nat.le_of_ble_eq_true rfl) rfl rfl ?_
        refine gx_if_le (q := 167) (r := 174) rfl rfl rfl hp (fun c_164 hp => ?_) (fun c_164 hp => ?_)
        · refine gd_iconst (v := (-1)) (q := 175) rfl rfl rfl ?_
          exact gl_X10_read_175 a1 f Q hG _ _ _ hp
        · refine gd_aload_n (q := 168) rfl rfl rfl ?_
          refine gd_getI (q := 171) rfl rfl rfl (Nat.le_of_ble_eq_true rfl) rfl rfl ?_
          refine gd_goto (q := 175) rfl rfl ?_
          exact gl_X10_read_175 a1 f Q hG _ _ _ hp
      · refine gd_aload_n (q := 154) rfl rfl rfl ?_
        refine gd_getI (q := 157) rfl rfl rfl (Nat.le_of_ble_eq_true rfl) rfl rfl ?_
        refine gd_goto (q := 175) rfl rfl ?_
        exact gl_X10_read_175 a1 f Q hG _ _ _ hp
theorem gl_X10_read_123 (a1 : Int32) (f : Nat) (Q : am_Q) (hG : Gr Q) (g : Nat) : ∀ (I : am_I) (J : am_J), p_X10_read_L123 a1 f g I J → Gd MX10_read (am_o 5 0 0 (am_FiIJ Q (s_X10_read_L123 a1 f g I J))) 0 0 92 123 [some (.ref 46), some (.int a1), none] [] I J Q := (gl_X10_read_L123 a1 f Q hG g)
set_option maxRecDepth 100000 in
set_option maxHeartbeats 4000000 in
theorem gl_X10_read_L20 (a1 : Int32) (f : Nat) (Q : am_Q) (hG : Gr Q) : ∀ g : Nat, (∀ (v2 : Int32) (I : am_I) (J : am_J), p_X10_read_L20 a1 f g v2 I J → Gd MX10_read (am_o 5 0 0 (am_FiIJ Q (s_X10_read_L20 a1 f g v2 I J))) 0 0 92 20 [some (.ref 46), some (.int a1), some (.int v2)] [] I J Q) := by
  intro g
  induction g with
  | zero => exact fun _ _ _ hp => False.elim hp
  | succ g ih =>
    have ih_20 := ih
    intro v2 I J hp
    rw [s_X10_read_L20]
    rw [p_X10_read_L20] at hp
    refine gd_iload_n (q := 21) rfl rfl rfl ?_
    refine gd_aload_n (q := 22) rfl rfl rfl ?_
    refine gd_getI (q := 25) rfl rfl rfl (Nat.le_of_ble_eq_true rfl) rfl rfl ?_
    refine gx_icmp_ge (q := 28) (r := 46) rfl rfl rfl hp (fun c_25 hp => ?_) (fun c_25 hp => ?_)
    · refine gd_aload_n (q := 47) rfl rfl rfl ?_
      refine gd_iconst (v := 0) (q := 48) rfl rfl rfl ?_
      refine gd_putI (q := 51) rfl rfl rfl (Nat.le_of_ble_eq_true rfl) rfl rfl rfl (Or.inl rfl) ?_
      refine gd_aload_n (q := 52) rfl rfl rfl ?_
      refine gd_cVv (q := 55) rfl rfl lk10_227 myX10_cut vxX10_cut (ct_X10_cut f _ _ _ hG hp.1) rfl (Nat.le_of_ble_eq_true rfl) rfl rfl (Nat.le_of_ble_eq_true rfl) rfl (Nat.le_of_ble_eq_true rfl) ⟨(Nat.le_of_ble_eq_true rfl), (Nat.le_of_ble_eq_true rfl)⟩ ?_
      replace hp := hp.2
      refine gd_aload_n (q := 56) rfl rfl rfl ?_
      refine gd_iconst (v := 0) (q := 57) rfl rfl rfl ?_
      refine gd_putI (q := 60) rfl rfl rfl (Nat.le_of_ble_eq_true rfl) rfl rfl rfl (Or.inl rfl) ?_
      refine gd_aload_n (q := 61) rfl rfl rfl ?_
      refine gd_iconst (v := 0) (q := 62) rfl rfl rfl ?_
      refine gd_putI (q := 65) rfl rfl rfl (Nat.le_of_ble_eq_true rfl) rfl rfl rfl (Or.inl rfl) ?_
      refine gd_aload_n (q := 66) rfl rfl rfl ?_
      refine gd_iconst (v := 0) (q := 67) rfl rfl rfl ?_
      refine gd_putI (q := 70) rfl rfl rfl (Nat.le_of_ble_eq_true rfl) rfl rfl rfl (Or.inl rfl) ?_
      refine gd_aload_n (q := 71) rfl rfl rfl ?_
      refine gd_iconst (v := 0) (q := 72) rfl rfl rfl ?_
      refine gd_putI (q := 75) rfl rfl rfl (Nat.le_of_ble_eq_true rfl) rfl rfl rfl (Or.inl rfl) ?_
      refine gd_aload_n (q := 76) rfl rfl rfl ?_
      refine gd_iconst (v := 2) (q := 77) rfl rfl rfl ?_
      refine gd_iload_n (q := 78) rfl rfl rfl ?_
      refine gd_imul (q := 79) rfl rfl ?_
      refine gd_iconst (v := 1) (q := 80) rfl rfl rfl ?_
      refine gd_iadd (q := 81) rfl rfl ?_
      refine gd_aload_n (q := 82) rfl rfl rfl ?_
      refine gd_getR (q := 85) (r := 54) rfl rfl rfl (Nat.le_of_ble_eq_true rfl) rfl rfl (gr_46_18 hG) ?_
      refine gd_iload_n (q := 86) rfl rfl rfl ?_
      refine gd_iald (q := 87) rfl rfl (Nat.le_of_ble_eq_true rfl) rfl hp.1 ?_
      replace hp := hp.2
      refine gd_isub (q := 88) rfl rfl ?_
      refine gd_putI (q := 91) rfl rfl rfl (Nat.le_of_ble_eq_true rfl) rfl rfl rfl (Or.inl rfl) ?_
      refine gd_aload_n (q := 92) rfl rfl rfl ?_
      refine gd_getR (q := 95) (r := 55) rfl rfl rfl (Nat.le_of_ble_eq_true rfl) rfl rfl (gr_46_20 hG) ?_
      refine gd_aload_n (q := 96) rfl rfl rfl ?_
      refine gd_getI (q := 99) rfl rfl rfl (Nat.le_of_ble_eq_true rfl) rfl rfl ?_
      refine gd_iconst (v := 0) (q := 100) rfl rfl rfl ?_
      refine gd_iast (q := 101) rfl rfl (Nat.le_of_ble_eq_true rfl) rfl hp.1 ?_
      replace hp := hp.2
      refine gd_aload_n (q := 102) rfl rfl rfl ?_
      refine gd_getR (q := 105) (r := 59) rfl rfl rfl (Nat.le_of_ble_eq_true rfl) rfl rfl (gr_46_24 hG) ?_
      refine gd_aload_n (q := 106) rfl rfl rfl ?_
      refine gd_getI (q := 109) rfl rfl rfl (Nat.le_of_ble_eq_true rfl) rfl rfl ?_
      refine gd_iconst (v := 0) (q := 110) rfl rfl rfl ?_
      refine gd_iast (q := 111) rfl rfl (Nat.le_of_ble_eq_true rfl) rfl hp.1 ?_
      replace hp := hp.2
      refine gd_aload_n (q := 112) rfl rfl rfl ?_
      refine gd_sipush (v := 500) (q := 115) rfl rfl rfl ?_
      refine gd_aload_n (q := 116) rfl rfl rfl ?_
      refine gd_getI (q := 119) rfl rfl rfl (Nat.le_of_ble_eq_true rfl) rfl rfl ?_
      refine gd_imul (q := 120) rfl rfl ?_
      refine gd_putI (q := 123) rfl rfl rfl (Nat.le_of_ble_eq_true rfl) rfl rfl rfl (Or.inl rfl) ?_
      refine gd_drop 2 ?_
      exact gl_X10_read_123 a1 f Q hG f _ _ hp
    · refine gd_aload_n (q := 29) rfl rfl rfl ?_
      refine gd_getR (q := 32) (r := 48) rfl rfl rfl (Nat.le_of_ble_eq_true rfl) rfl rfl (gr_46_3 hG) ?_
      refine gd_iload_n (q := 33) rfl rfl rfl ?_
      refine gd_aload_n (q := 34) rfl rfl rfl ?_
      refine gd_getR (q := 37) (r := 47) rfl rfl rfl (Nat.le_of_ble_eq_true rfl) rfl rfl (gr_46_1 hG) ?_
      refine gd_iload_n (q := 38) rfl rfl rfl ?_
      refine gd_bald (q := 39) rfl rfl (Nat.le_of_ble_eq_true rfl) rfl hp.1 ?_
      replace hp := hp.2
      refine gd_bast (q := 40) rfl rfl (Nat.le_of_ble_eq_true rfl) rfl hp.1 ?_
      replace hp := hp.2
      refine gd_iinc (v := (v2 + 1)) (q := 43) rfl rfl rfl rfl (Nat.le_of_ble_eq_true rfl) rfl ?_
      refine gd_goto (q := 20) rfl rfl ?_
      exact ih_20 _ _ _ hp
theorem gl_X10_read_20 (a1 : Int32) (f : Nat) (Q : am_Q) (hG : Gr Q) (g : Nat) : ∀ (v2 : Int32) (I : am_I) (J : am_J), p_X10_read_L20 a1 f g v2 I J → Gd MX10_read (am_o 5 0 0 (am_FiIJ Q (s_X10_read_L20 a1 f g v2 I J))) 0 0 92 20 [some (.ref 46), some (.int a1), some (.int v2)] [] I J Q := (gl_X10_read_L20 a1 f Q hG g)
set_option maxRecDepth 100000 in
set_option maxHeartbeats 4000000 in
theorem gt_X10_read (f : Nat) (I : am_I) (J : am_J) (Q : am_Q) (hG : Gr Q) (a1 : Int32) (hp : p_X10_read f I J a1) : Gd MX10_read (am_o 5 0 0 (am_FiIJ Q (s_X10_read f I J a1))) 0 0 92 0 [some (.ref 46), some (.int a1), none] [] I J Q := by
  unfold s_X10_read
  unfold p_X10_read at hp
  refine gd_aload_n (q := 1) rfl rfl rfl ?_
  refine gd_iload_n (q := 2) rfl rfl rfl ?_
  refine gd_cVi (q := 5) rfl rfl lk10_224 myX10_isPerson vxX10_isPerson (ct_X10_isPerson f _ _ _ hG _) rfl (Nat.le_of_ble_eq_true rfl) rfl rfl (Nat.le_of_ble_eq_true rfl) rfl (Nat.le_of_ble_eq_true rfl) ⟨(Nat.le_of_ble_eq_true rfl), (Nat.le_of_ble_eq_true rfl)⟩ ?_
  refine gx_if_ne (q := 8) (r := 10) rfl rfl rfl hp (fun c_5 hp => ?_) (fun c_5 hp => ?_)
  · refine gd_iconst (v := (-1)) (q := 9) rfl rfl rfl ?_
    exact gd_ireturn rfl rfl rfl (Nat.le_refl 0) (Nat.le_refl 0) rfl
  · refine gd_aload_n (q := 11) rfl rfl rfl ?_
    refine gd_aload_n (q := 12) rfl rfl rfl ?_
    refine gd_getI (q := 15) rfl rfl rfl (Nat.le_of_ble_eq_true rfl) rfl rfl ?_
    refine gd_putI (q := 18) rfl rfl rfl (Nat.le_of_ble_eq_true rfl) rfl rfl rfl (Or.inl rfl) ?_
    refine gd_iconst (v := 0) (q := 19) rfl rfl rfl ?_
    refine gd_istore_n (q := 20) rfl rfl (Nat.le_of_ble_eq_true rfl) rfl ?_
    exact gl_X10_read_20 a1 f Q hG f 0 _ _ hp
theorem ct_X10_read (f : Nat) (I : am_I) (J : am_J) (Q : am_Q) (hG : Gr Q) (a1 : Int32) (hp : p_X10_read f I J a1) : Cm MX10_read 5 0 0 92 [.ref 46, .int a1] I J Q (am_FiIJ Q (s_X10_read f I J a1)) := cm_of (by decide) rfl IX10_read_ok (Nat.le_of_ble_eq_true rfl) (gt_X10_read f I J Q hG a1 hp)
def s_X10_place (I : am_I)  : Int32 := (I 46 17)
set_option maxRecDepth 100000 in
set_option maxHeartbeats 4000000 in
theorem gt_X10_place (f : Nat) (I : am_I) (J : am_J) (Q : am_Q) (hG : Gr Q)  : Gd MX10_place (am_o 0 0 0 (am_Fi I J Q (s_X10_place I))) 0 0 92 0 [some (.ref 46)] [] I J Q := by
  unfold s_X10_place
  refine gd_aload_n (q := 1) rfl rfl rfl ?_
  refine gd_getI (q := 4) rfl rfl rfl (Nat.le_of_ble_eq_true rfl) rfl rfl ?_
  exact gd_ireturn rfl rfl rfl (Nat.le_refl 0) (Nat.le_refl 0) rfl
theorem ct_X10_place (f : Nat) (I : am_I) (J : am_J) (Q : am_Q) (hG : Gr Q)  : Cm MX10_place 0 0 0 92 [.ref 46] I J Q (am_Fi I J Q (s_X10_place I)) := cm_of (by decide) rfl IX10_place_ok (Nat.le_of_ble_eq_true rfl) (gt_X10_place f I J Q hG)
def s_X10_isFour  (a0 : Int32) : Int32 := (if a0 < 0 then 0 else (if 4 ≤ a0 then 0 else 1))
theorem z_X10_isFour  (a0 : Int32) : (s_X10_isFour a0) = 0 ∨ (s_X10_isFour a0) = 1 := by
  unfold s_X10_isFour
  repeat' split
  all_goals first | exact Or.inl rfl | exact Or.inr rfl
set_option maxRecDepth 100000 in
set_option maxHeartbeats 4000000 in
theorem gt_X10_isFour (f : Nat) (I : am_I) (J : am_J) (Q : am_Q) (hG : Gr Q) (a0 : Int32) : Gd MX10_isFour (am_o 0 0 0 (am_Fi I J Q (s_X10_isFour a0))) 0 0 92 0 [some (.int a0)] [] I J Q := by
  unfold s_X10_isFour
  refine gd_iload_n (q := 1) rfl rfl rfl ?_
  refine gy_if_lt (q := 4) (r := 13) rfl rfl rfl (fun c_1 => ?_) (fun c_1 => ?_)
  · refine gd_iconst (v := 0) (q := 14) rfl rfl rfl ?_
    exact gd_ireturn rfl rfl rfl (Nat.le_refl 0) (Nat.le_refl 0) rfl
  · refine gd_iload_n (q := 5) rfl rfl rfl ?_
    refine gd_iconst (v := 4) (q := 6) rfl rfl rfl ?_
    refine gy_icmp_ge (q := 9) (r := 13) rfl rfl rfl (fun c_6 => ?_) (fun c_6 => ?_)
    · refine gd_iconst (v := 0) (q := 14) rfl rfl rfl ?_
      exact gd_ireturn rfl rfl rfl (Nat.le_refl 0) (Nat.le_refl 0) rfl
    · refine gd_iconst (v := 1) (q := 10) rfl rfl rfl ?_
      refine gd_goto (q := 14) rfl rfl ?_
      exact gd_ireturn rfl rfl rfl (Nat.le_refl 0) (Nat.le_refl 0) rfl
theorem ct_X10_isFour (f : Nat) (I : am_I) (J : am_J) (Q : am_Q) (hG : Gr Q) (a0 : Int32) : Cm MX10_isFour 0 0 0 92 [.int a0] I J Q (am_Fi I J Q (s_X10_isFour a0)) := cm_of (by decide) rfl IX10_isFour_ok (Nat.le_of_ble_eq_true rfl) (gt_X10_isFour f I J Q hG a0)
def s_X10_person (I : am_I) (a1 : Int32) (a2 : Int32) (a3 : Int32) (a4 : Int32) : Int32 × am_I := (if (I 46 35) = 12 then ((-1), I) else (if (s_X10_isFour a1) = 0 then ((-1), I) else (if (s_X10_isFour a2) = 0 then ((-1), I) else (if (s_X10_isFour a3) = 0 then ((-1), I) else (if (s_X10_isFour a4) = 0 then ((-1), I) else ((((I 46 35) + 1) - 1), (am_w (am_w (am_w (am_w (am_w (am_w I 68 (4 * (I 46 35)).toNatClampNeg a1) 68 ((4 * (I 46 35)) + 1).toNatClampNeg a2) 68 ((4 * (I 46 35)) + 2).toNatClampNeg a3) 68 ((4 * (I 46 35)) + 3).toNatClampNeg a4) 69 (I 46 35).toNatClampNeg (-1)) 46 35 ((I 46 35) + 1))))))))
def p_X10_person (I : am_I) (a1 : Int32) (a2 : Int32) (a3 : Int32) (a4 : Int32) : Prop := (if (I 46 35) = 12 then True else (if (s_X10_isFour a1) = 0 then True else (if (s_X10_isFour a2) = 0 then True else (if (s_X10_isFour a3) = 0 then True else (if (s_X10_isFour a4) = 0 then True else (vp_in (4 * (I 46 35)) 48 ∧ (vp_in ((4 * (I 46 35)) + 1) 48 ∧ (vp_in ((4 * (I 46 35)) + 2) 48 ∧ (vp_in ((4 * (I 46 35)) + 3) 48 ∧ vp_in (I 46 35) 12)))))))))
set_option maxRecDepth 100000 in
set_option maxHeartbeats 4000000 in
theorem gt_X10_person (f : Nat) (I : am_I) (J : am_J) (Q : am_Q) (hG : Gr Q) (a1 : Int32) (a2 : Int32) (a3 : Int32) (a4 : Int32) (hp : p_X10_person I a1 a2 a3 a4) : Gd MX10_person (am_o 1 0 0 (am_FiI J Q (s_X10_person I a1 a2 a3 a4))) 0 0 92 0 [some (.ref 46), some (.int a1), some (.int a2), some (.int a3), some (.int a4)] [] I J Q := by
  unfold s_X10_person
  unfold p_X10_person at hp
  refine gd_aload_n (q := 1) rfl rfl rfl ?_
  refine gd_getI (q := 4) rfl rfl rfl (Nat.le_of_ble_eq_true rfl) rfl rfl ?_
  refine gd_bipush (v := 12) (q := 6) rfl rfl rfl ?_
  refine gx_icmp_eq (q := 9) (r := 38) rfl rfl rfl hp (fun c_6 hp => ?_) (fun c_6 hp => ?_)
  · refine gd_iconst (v := (-1)) (q := 39) rfl rfl rfl ?_
    exact gd_ireturn rfl rfl rfl (Nat.le_refl 0) (Nat.le_refl 0) rfl
  · refine gd_iload_n (q := 10) rfl rfl rfl ?_
    refine gd_cSi (q := 13) rfl rfl lk10_277 myX10_isFour sxX10_isFour (ct_X10_isFour f _ _ _ hG _) rfl rfl (Nat.le_of_ble_eq_true rfl) ⟨(Nat.le_of_ble_eq_true rfl), (Nat.le_of_ble_eq_true rfl)⟩ ?_
    refine gx_if_eq (q := 16) (r := 38) rfl rfl rfl hp (fun c_13 hp => ?_) (fun c_13 hp => ?_)
    · refine gd_iconst (v := (-1)) (q := 39) rfl rfl rfl ?_
      exact gd_ireturn rfl rfl rfl (Nat.le_refl 0) (Nat.le_refl 0) rfl
    · refine gd_iload_n (q := 17) rfl rfl rfl ?_
      refine gd_cSi (q := 20) rfl rfl lk10_277 myX10_isFour sxX10_isFour (ct_X10_isFour f _ _ _ hG _) rfl rfl (Nat.le_of_ble_eq_true rfl) ⟨(Nat.le_of_ble_eq_true rfl), (Nat.le_of_ble_eq_true rfl)⟩ ?_
      refine gx_if_eq (q := 23) (r := 38) rfl rfl rfl hp (fun c_20 hp => ?_) (fun c_20 hp => ?_)
      · refine gd_iconst (v := (-1)) (q := 39) rfl rfl rfl ?_
        exact gd_ireturn rfl rfl rfl (Nat.le_refl 0) (Nat.le_refl 0) rfl
      · refine gd_iload_n (q := 24) rfl rfl rfl ?_
        refine gd_cSi (q := 27) rfl rfl lk10_277 myX10_isFour sxX10_isFour (ct_X10_isFour f _ _ _ hG _) rfl rfl (Nat.le_of_ble_eq_true rfl) ⟨(Nat.le_of_ble_eq_true rfl), (Nat.le_of_ble_eq_true rfl)⟩ ?_
        refine gx_if_eq (q := 30) (r := 38) rfl rfl rfl hp (fun c_27 hp => ?_) (fun c_27 hp => ?_)
        · refine gd_iconst (v := (-1)) (q := 39) rfl rfl rfl ?_
          exact gd_ireturn rfl rfl rfl (Nat.le_refl 0) (Nat.le_refl 0) rfl
        · refine gd_iload (q := 32) rfl rfl rfl ?_
          refine gd_cSi (q := 35) rfl rfl lk10_277 myX10_isFour sxX10_isFour (ct_X10_isFour f _ _ _ hG _) rfl rfl (Nat.le_of_ble_eq_true rfl) ⟨(Nat.le_of_ble_eq_true rfl), (Nat.le_of_ble_eq_true rfl)⟩ ?_
          refine gx_if_ne (q := 38) (r := 40) rfl rfl rfl hp (fun c_35 hp => ?_) (fun c_35 hp => ?_)
          · refine gd_iconst (v := (-1)) (q := 39) rfl rfl rfl ?_
            exact gd_ireturn rfl rfl rfl (Nat.le_refl 0) (Nat.le_refl 0) rfl
          · refine gd_aload_n (q := 41) rfl rfl rfl ?_
            refine gd_getR (q := 44) (r := 68) rfl rfl rfl (Nat.le_of_ble_eq_true rfl) rfl rfl (gr_46_36 hG) ?_
            refine gd_iconst (v := 4) (q := 45) rfl rfl rfl ?_
            refine gd_aload_n (q := 46) rfl rfl rfl ?_
            refine gd_getI (q := 49) rfl rfl rfl (Nat.le_of_ble_eq_true rfl) rfl rfl ?_
            refine gd_imul (q := 50) rfl rfl ?_
            refine gd_iload_n (q := 51) rfl rfl rfl ?_
            refine gd_iast (q := 52) rfl rfl (Nat.le_of_ble_eq_true rfl) rfl hp.1 ?_
            replace hp := hp.2
            refine gd_aload_n (q := 53) rfl rfl rfl ?_
            refine gd_getR (q := 56) (r := 68) rfl rfl rfl (Nat.le_of_ble_eq_true rfl) rfl rfl (gr_46_36 hG) ?_
            refine gd_iconst (v := 4) (q := 57) rfl rfl rfl ?_
            refine gd_aload_n (q := 58) rfl rfl rfl ?_
            refine gd_getI (q := 61) rfl rfl rfl (Nat.le_of_ble_eq_true rfl) rfl rfl ?_
            refine gd_imul (q := 62) rfl rfl ?_
            refine gd_iconst (v := 1) (q := 63) rfl rfl rfl ?_
            refine gd_iadd (q := 64) rfl rfl ?_
            refine gd_iload_n (q := 65) rfl rfl rfl ?_
            refine gd_iast (q := 66) rfl rfl (Nat.le_of_ble_eq_true rfl) rfl hp.1 ?_
            replace hp := hp.2
            refine gd_aload_n (q := 67) rfl rfl rfl ?_
            refine gd_getR (q := 70) (r := 68) rfl rfl rfl (Nat.le_of_ble_eq_true rfl) rfl rfl (gr_46_36 hG) ?_
            refine gd_iconst (v := 4) (q := 71) rfl rfl rfl ?_
            refine gd_aload_n (q := 72) rfl rfl rfl ?_
            refine gd_getI (q := 75) rfl rfl rfl (Nat.le_of_ble_eq_true rfl) rfl rfl ?_
            refine gd_imul (q := 76) rfl rfl ?_
            refine gd_iconst (v := 2) (q := 77) rfl rfl rfl ?_
            refine gd_iadd (q := 78) rfl rfl ?_
            refine gd_iload_n (q := 79) rfl rfl rfl ?_
            refine gd_iast (q := 80) rfl rfl (Nat.le_of_ble_eq_true rfl) rfl hp.1 ?_
            replace hp := hp.2
            refine gd_aload_n (q := 81) rfl rfl rfl ?_
            refine gd_getR (q := 84) (r := 68) rfl rfl rfl (Nat.le_of_ble_eq_true rfl) rfl rfl (gr_46_36 hG) ?_
            refine gd_iconst (v := 4) (q := 85) rfl rfl rfl ?_
            refine gd_aload_n (q := 86) rfl rfl rfl ?_
            refine gd_getI (q := 89) rfl rfl rfl (Nat.le_of_ble_eq_true rfl) rfl rfl ?_
            refine gd_imul (q := 90) rfl rfl ?_
            refine gd_iconst (v := 3) (q := 91) rfl rfl rfl ?_
            refine gd_iadd (q := 92) rfl rfl ?_
            refine gd_iload (q := 94) rfl rfl rfl ?_
            refine gd_iast (q := 95) rfl rfl (Nat.le_of_ble_eq_true rfl) rfl hp.1 ?_
            replace hp := hp.2
            refine gd_aload_n (q := 96) rfl rfl rfl ?_
            refine gd_getR (q := 99) (r := 69) rfl rfl rfl (Nat.le_of_ble_eq_true rfl) rfl rfl (gr_46_37 hG) ?_
            refine gd_aload_n (q := 100) rfl rfl rfl ?_
            refine gd_getI (q := 103) rfl rfl rfl (Nat.le_of_ble_eq_true rfl) rfl rfl ?_
            refine gd_iconst (v := (-1)) (q := 104) rfl rfl rfl ?_
            refine gd_iast (q := 105) rfl rfl (Nat.le_of_ble_eq_true rfl) rfl hp ?_
            refine gd_aload_n (q := 106) rfl rfl rfl ?_
            refine gd_dup (q := 107) rfl rfl rfl ?_
            refine gd_getI (q := 110) rfl rfl rfl (Nat.le_of_ble_eq_true rfl) rfl rfl ?_
            refine gd_iconst (v := 1) (q := 111) rfl rfl rfl ?_
            refine gd_iadd (q := 112) rfl rfl ?_
            refine gd_putI (q := 115) rfl rfl rfl (Nat.le_of_ble_eq_true rfl) rfl rfl rfl (Or.inl rfl) ?_
            refine gd_aload_n (q := 116) rfl rfl rfl ?_
            refine gd_getI (q := 119) rfl rfl rfl (Nat.le_of_ble_eq_true rfl) rfl rfl ?_
            refine gd_iconst (v := 1) (q := 120) rfl rfl rfl ?_
            refine gd_isub (q := 121) rfl rfl ?_
            exact gd_ireturn rfl rfl rfl (Nat.le_refl 0) (Nat.le_refl 0) rfl
theorem ct_X10_person (f : Nat) (I : am_I) (J : am_J) (Q : am_Q) (hG : Gr Q) (a1 : Int32) (a2 : Int32) (a3 : Int32) (a4 : Int32) (hp : p_X10_person I a1 a2 a3 a4) : Cm MX10_person 1 0 0 92 [.ref 46, .int a1, .int a2, .int a3, .int a4] I J Q (am_FiI J Q (s_X10_person I a1 a2 a3 a4)) := cm_of (by decide) rfl IX10_person_ok (Nat.le_of_ble_eq_true rfl) (gt_X10_person f I J Q hG a1 a2 a3 a4 hp)
def s_X10_topic (I : am_I) (a1 : Int32) : Int32 × am_I := (if (I 46 38) = 12 then ((-1), I) else (if a1 < (-1) then ((-1), I) else (if a1 < (I 46 38) then (if a1 = (-1) then ((((I 46 38) + 1) - 1), (am_w (am_w I 70 (I 46 38).toNatClampNeg (1 <<< ((I 46 38) &&& 31))) 46 38 ((I 46 38) + 1))) else ((((I 46 38) + 1) - 1), (am_w (am_w (am_w I 70 (I 46 38).toNatClampNeg (1 <<< ((I 46 38) &&& 31))) 70 (I 46 38).toNatClampNeg (((am_w I 70 (I 46 38).toNatClampNeg (1 <<< ((I 46 38) &&& 31))) 70 (I 46 38).toNatClampNeg) ||| ((am_w I 70 (I 46 38).toNatClampNeg (1 <<< ((I 46 38) &&& 31))) 70 a1.toNatClampNeg))) 46 38 ((I 46 38) + 1)))) else ((-1), I))))
def p_X10_topic (I : am_I) (a1 : Int32) : Prop := (if (I 46 38) = 12 then True else (if a1 < (-1) then True else (if a1 < (I 46 38) then (vp_in (I 46 38) 12 ∧ (if a1 = (-1) then True else (vp_in (I 46 38) 12 ∧ (vp_in a1 12 ∧ vp_in (I 46 38) 12)))) else True)))
set_option maxRecDepth 100000 in
set_option maxHeartbeats 4000000 in
theorem gt_X10_topic (f : Nat) (I : am_I) (J : am_J) (Q : am_Q) (hG : Gr Q) (a1 : Int32) (hp : p_X10_topic I a1) : Gd MX10_topic (am_o 0 0 0 (am_FiI J Q (s_X10_topic I a1))) 0 0 92 0 [some (.ref 46), some (.int a1)] [] I J Q := by
  unfold s_X10_topic
  unfold p_X10_topic at hp
  refine gd_aload_n (q := 1) rfl rfl rfl ?_
  refine gd_getI (q := 4) rfl rfl rfl (Nat.le_of_ble_eq_true rfl) rfl rfl ?_
  refine gd_bipush (v := 12) (q := 6) rfl rfl rfl ?_
  refine gx_icmp_eq (q := 9) (r := 22) rfl rfl rfl hp (fun c_6 hp => ?_) (fun c_6 hp => ?_)
  · refine gd_iconst (v := (-1)) (q := 23) rfl rfl rfl ?_
    exact gd_ireturn rfl rfl rfl (Nat.le_refl 0) (Nat.le_refl 0) rfl
  · refine gd_iload_n (q := 10) rfl rfl rfl ?_
    refine gd_iconst (v := (-1)) (q := 11) rfl rfl rfl ?_
    refine gx_icmp_lt (q := 14) (r := 22) rfl rfl rfl hp (fun c_11 hp => ?_) (fun c_11 hp => ?_)
    · refine gd_iconst (v := (-1)) (q := 23) rfl rfl rfl ?_
      exact gd_ireturn rfl rfl rfl (Nat.le_refl 0) (Nat.le_refl 0) rfl
    · refine gd_iload_n (q := 15) rfl rfl rfl ?_
      refine gd_aload_n (q := 16) rfl rfl rfl ?_
      refine gd_getI (q := 19) rfl rfl rfl (Nat.le_of_ble_eq_true rfl) rfl rfl ?_
      refine gx_icmp_lt (q := 22) (r := 24) rfl rfl rfl hp (fun c_19 hp => ?_) (fun c_19 hp => ?_)
      · refine gd_aload_n (q := 25) rfl rfl rfl ?_
        refine gd_getR (q := 28) (r := 70) rfl rfl rfl (Nat.le_of_ble_eq_true rfl) rfl rfl (gr_46_39 hG) ?_
        refine gd_aload_n (q := 29) rfl rfl rfl ?_
        refine gd_getI (q := 32) rfl rfl rfl (Nat.le_of_ble_eq_true rfl) rfl rfl ?_
        refine gd_iconst (v := 1) (q := 33) rfl rfl rfl ?_
        refine gd_aload_n (q := 34) rfl rfl rfl ?_
        refine gd_getI (q := 37) rfl rfl rfl (Nat.le_of_ble_eq_true rfl) rfl rfl ?_
        refine gd_ishl (q := 38) rfl rfl ?_
        refine gd_iast (q := 39) rfl rfl (Nat.le_of_ble_eq_true rfl) rfl hp.1 ?_
        replace hp := hp.2
        refine gd_iload_n (q := 40) rfl rfl rfl ?_
        refine gd_iconst (v := (-1)) (q := 41) rfl rfl rfl ?_
        refine gx_icmp_eq (q := 44) (r := 62) rfl rfl rfl hp (fun c_41 hp => ?_) (fun c_41 hp => ?_)
        · refine gd_aload_n (q := 63) rfl rfl rfl ?_
          refine gd_dup (q := 64) rfl rfl rfl ?_
          refine gd_getI (q := 67) rfl rfl rfl (Nat.le_of_ble_eq_true rfl) rfl rfl ?_
          refine gd_iconst (v := 1) (q := 68) rfl rfl rfl ?_
          refine gd_iadd (q := 69) rfl rfl ?_
          refine gd_putI (q := 72) rfl rfl rfl (Nat.le_of_ble_eq_true rfl) rfl rfl rfl (Or.inl rfl) ?_
          refine gd_aload_n (q := 73) rfl rfl rfl ?_
          refine gd_getI (q := 76) rfl rfl rfl (Nat.le_of_ble_eq_true rfl) rfl rfl ?_
          refine gd_iconst (v := 1) (q := 77) rfl rfl rfl ?_
          refine gd_isub (q := 78) rfl rfl ?_
          exact gd_ireturn rfl rfl rfl (Nat.le_refl 0) (Nat.le_refl 0) rfl
        · refine gd_aload_n (q := 45) rfl rfl rfl ?_
          refine gd_getR (q := 48) (r := 70) rfl rfl rfl (Nat.le_of_ble_eq_true rfl) rfl rfl (gr_46_39 hG) ?_
          refine gd_aload_n (q := 49) rfl rfl rfl ?_
          refine gd_getI (q := 52) rfl rfl rfl (Nat.le_of_ble_eq_true rfl) rfl rfl ?_
          refine gd_dup2 (q := 53) rfl rfl rfl rfl ?_
          refine gd_iald (q := 54) rfl rfl (Nat.le_of_ble_eq_true rfl) rfl hp.1 ?_
          replace hp := hp.2
          refine gd_aload_n (q := 55) rfl rfl rfl ?_
          refine gd_getR (q := 58) (r := 70) rfl rfl rfl (Nat.le_of_ble_eq_true rfl) rfl rfl (gr_46_39 hG) ?_
          refine gd_iload_n (q := 59) rfl rfl rfl ?_
          refine gd_iald (q := 60) rfl rfl (Nat.le_of_ble_eq_true rfl) rfl hp.1 ?_
          replace hp := hp.2
          refine gd_ior (q := 61) rfl rfl ?_
          refine gd_iast (q := 62) rfl rfl (Nat.le_of_ble_eq_true rfl) rfl hp ?_
          refine gd_aload_n (q := 63) rfl rfl rfl ?_
          refine gd_dup (q := 64) rfl rfl rfl ?_
          refine gd_getI (q := 67) rfl rfl rfl (Nat.le_of_ble_eq_true rfl) rfl rfl ?_
          refine gd_iconst (v := 1) (q := 68) rfl rfl rfl ?_
          refine gd_iadd (q := 69) rfl rfl ?_
          refine gd_putI (q := 72) rfl rfl rfl (Nat.le_of_ble_eq_true rfl) rfl rfl rfl (Or.inl rfl) ?_
          refine gd_aload_n (q := 73) rfl rfl rfl ?_
          refine gd_getI (q := 76) rfl rfl rfl (Nat.le_of_ble_eq_true rfl) rfl rfl ?_
          refine gd_iconst (v := 1) (q := 77) rfl rfl rfl ?_
          refine gd_isub (q := 78) rfl rfl ?_
          exact gd_ireturn rfl rfl rfl (Nat.le_refl 0) (Nat.le_refl 0) rfl
      · refine gd_iconst (v := (-1)) (q := 23) rfl rfl rfl ?_
        exact gd_ireturn rfl rfl rfl (Nat.le_refl 0) (Nat.le_refl 0) rfl
theorem ct_X10_topic (f : Nat) (I : am_I) (J : am_J) (Q : am_Q) (hG : Gr Q) (a1 : Int32) (hp : p_X10_topic I a1) : Cm MX10_topic 0 0 0 92 [.ref 46, .int a1] I J Q (am_FiI J Q (s_X10_topic I a1)) := cm_of (by decide) rfl IX10_topic_ok (Nat.le_of_ble_eq_true rfl) (gt_X10_topic f I J Q hG a1 hp)
def s_X10_isDay  (a0 : Int32) : Int32 := (if a0 < 0 then 0 else (if 9999 < a0 then 0 else 1))
theorem z_X10_isDay  (a0 : Int32) : (s_X10_isDay a0) = 0 ∨ (s_X10_isDay a0) = 1 := by
  unfold s_X10_isDay
  repeat' split
  all_goals first | exact Or.inl rfl | exact Or.inr rfl
set_option maxRecDepth 100000 in
set_option maxHeartbeats 4000000 in
theorem gt_X10_isDay (f : Nat) (I : am_I) (J : am_J) (Q : am_Q) (hG : Gr Q) (a0 : Int32) : Gd MX10_isDay (am_o 0 0 0 (am_Fi I J Q (s_X10_isDay a0))) 0 0 92 0 [some (.int a0)] [] I J Q := by
  unfold s_X10_isDay
  refine gd_iload_n (q := 1) rfl rfl rfl ?_
  refine gy_if_lt (q := 4) (r := 15) rfl rfl rfl (fun c_1 => ?_) (fun c_1 => ?_)
  · refine gd_iconst (v := 0) (q := 16) rfl rfl rfl ?_
    exact gd_ireturn rfl rfl rfl (Nat.le_refl 0) (Nat.le_refl 0) rfl
  · refine gd_iload_n (q := 5) rfl rfl rfl ?_
    refine gd_sipush (v := 9999) (q := 8) rfl rfl rfl ?_
    refine gy_icmp_gt (q := 11) (r := 15) rfl rfl rfl (fun c_8 => ?_) (fun c_8 => ?_)
    · refine gd_iconst (v := 0) (q := 16) rfl rfl rfl ?_
      exact gd_ireturn rfl rfl rfl (Nat.le_refl 0) (Nat.le_refl 0) rfl
    · refine gd_iconst (v := 1) (q := 12) rfl rfl rfl ?_
      refine gd_goto (q := 16) rfl rfl ?_
      exact gd_ireturn rfl rfl rfl (Nat.le_refl 0) (Nat.le_refl 0) rfl
theorem ct_X10_isDay (f : Nat) (I : am_I) (J : am_J) (Q : am_Q) (hG : Gr Q) (a0 : Int32) : Cm MX10_isDay 0 0 0 92 [.int a0] I J Q (am_Fi I J Q (s_X10_isDay a0)) := cm_of (by decide) rfl IX10_isDay_ok (Nat.le_of_ble_eq_true rfl) (gt_X10_isDay f I J Q hG a0)
def s_X10_tape (I : am_I) (a1 : Int32) (a2 : Int32) (a3 : Int32) : Int32 × am_I := (if (I 46 40) = 6 then ((-1), I) else (if (s_X10_isPerson I a1) = 0 then ((-1), I) else (if (s_X10_isDay a2) = 0 then ((-1), I) else (if a3 < 1 then ((-1), I) else (if a3 ≤ 999 then ((((I 46 40) + 1) - 1), (am_w (am_w (am_w (am_w I 71 (I 46 40).toNatClampNeg a1) 72 (I 46 40).toNatClampNeg a2) 73 (I 46 40).toNatClampNeg a3) 46 40 ((I 46 40) + 1))) else ((-1), I))))))
def p_X10_tape (I : am_I) (a1 : Int32) (a2 : Int32) (a3 : Int32) : Prop := (if (I 46 40) = 6 then True else (if (s_X10_isPerson I a1) = 0 then True else (if (s_X10_isDay a2) = 0 then True else (if a3 < 1 then True else (if a3 ≤ 999 then (vp_in (I 46 40) 6 ∧ (vp_in (I 46 40) 6 ∧ vp_in (I 46 40) 6)) else True)))))
set_option maxRecDepth 100000 in
set_option maxHeartbeats 4000000 in
theorem gt_X10_tape (f : Nat) (I : am_I) (J : am_J) (Q : am_Q) (hG : Gr Q) (a1 : Int32) (a2 : Int32) (a3 : Int32) (hp : p_X10_tape I a1 a2 a3) : Gd MX10_tape (am_o 1 0 0 (am_FiI J Q (s_X10_tape I a1 a2 a3))) 0 0 92 0 [some (.ref 46), some (.int a1), some (.int a2), some (.int a3)] [] I J Q := by
  unfold s_X10_tape
  unfold p_X10_tape at hp
  refine gd_aload_n (q := 1) rfl rfl rfl ?_
  refine gd_getI (q := 4) rfl rfl rfl (Nat.le_of_ble_eq_true rfl) rfl rfl ?_
  refine gd_bipush (v := 6) (q := 6) rfl rfl rfl ?_
  refine gx_icmp_eq (q := 9) (r := 36) rfl rfl rfl hp (fun c_6 hp => ?_) (fun c_6 hp => ?_)
  · refine gd_iconst (v := (-1)) (q := 37) rfl rfl rfl ?_
    exact gd_ireturn rfl rfl rfl (Nat.le_refl 0) (Nat.le_refl 0) rfl
  · refine gd_aload_n (q := 10) rfl rfl rfl ?_
    refine gd_iload_n (q := 11) rfl rfl rfl ?_
    refine gd_cVi (q := 14) rfl rfl lk10_224 myX10_isPerson vxX10_isPerson (ct_X10_isPerson f _ _ _ hG _) rfl (Nat.le_of_ble_eq_true rfl) rfl rfl (Nat.le_of_ble_eq_true rfl) rfl (Nat.le_of_ble_eq_true rfl) ⟨(Nat.le_of_ble_eq_true rfl), (Nat.le_of_ble_eq_true rfl)⟩ ?_
    refine gx_if_eq (q := 17) (r := 36) rfl rfl rfl hp (fun c_14 hp => ?_) (fun c_14 hp => ?_)
    · refine gd_iconst (v := (-1)) (q := 37) rfl rfl rfl ?_
      exact gd_ireturn rfl rfl rfl (Nat.le_refl 0) (Nat.le_refl 0) rfl
    · refine gd_iload_n (q := 18) rfl rfl rfl ?_
      refine gd_cSi (q := 21) rfl rfl lk10_283 myX10_isDay sxX10_isDay (ct_X10_isDay f _ _ _ hG _) rfl rfl (Nat.le_of_ble_eq_true rfl) ⟨(Nat.le_of_ble_eq_true rfl), (Nat.le_of_ble_eq_true rfl)⟩ ?_
      refine gx_if_eq (q := 24) (r := 36) rfl rfl rfl hp (fun c_21 hp => ?_) (fun c_21 hp => ?_)
      · refine gd_iconst (v := (-1)) (q := 37) rfl rfl rfl ?_
        exact gd_ireturn rfl rfl rfl (Nat.le_refl 0) (Nat.le_refl 0) rfl
      · refine gd_iload_n (q := 25) rfl rfl rfl ?_
        refine gd_iconst (v := 1) (q := 26) rfl rfl rfl ?_
        refine gx_icmp_lt (q := 29) (r := 36) rfl rfl rfl hp (fun c_26 hp => ?_) (fun c_26 hp => ?_)
        · refine gd_iconst (v := (-1)) (q := 37) rfl rfl rfl ?_
          exact gd_ireturn rfl rfl rfl (Nat.le_refl 0) (Nat.le_refl 0) rfl
        · refine gd_iload_n (q := 30) rfl rfl rfl ?_
          refine gd_sipush (v := 999) (q := 33) rfl rfl rfl ?_
          refine gx_icmp_le (q := 36) (r := 38) rfl rfl rfl hp (fun c_33 hp => ?_) (fun c_33 hp => ?_)
          · refine gd_aload_n (q := 39) rfl rfl rfl ?_
            refine gd_getR (q := 42) (r := 71) rfl rfl rfl (Nat.le_of_ble_eq_true rfl) rfl rfl (gr_46_41 hG) ?_
            refine gd_aload_n (q := 43) rfl rfl rfl ?_
            refine gd_getI (q := 46) rfl rfl rfl (Nat.le_of_ble_eq_true rfl) rfl rfl ?_
            refine gd_iload_n (q := 47) rfl rfl rfl ?_
            refine gd_iast (q := 48) rfl rfl (Nat.le_of_ble_eq_true rfl) rfl hp.1 ?_
            replace hp := hp.2
            refine gd_aload_n (q := 49) rfl rfl rfl ?_
            refine gd_getR (q := 52) (r := 72) rfl rfl rfl (Nat.le_of_ble_eq_true rfl) rfl rfl (gr_46_42 hG) ?_
            refine gd_aload_n (q := 53) rfl rfl rfl ?_
            refine gd_getI (q := 56) rfl rfl rfl (Nat.le_of_ble_eq_true rfl) rfl rfl ?_
            refine gd_iload_n (q := 57) rfl rfl rfl ?_
            refine gd_iast (q := 58) rfl rfl (Nat.le_of_ble_eq_true rfl) rfl hp.1 ?_
            replace hp := hp.2
            refine gd_aload_n (q := 59) rfl rfl rfl ?_
            refine gd_getR (q := 62) (r := 73) rfl rfl rfl (Nat.le_of_ble_eq_true rfl) rfl rfl (gr_46_43 hG) ?_
            refine gd_aload_n (q := 63) rfl rfl rfl ?_
            refine gd_getI (q := 66) rfl rfl rfl (Nat.le_of_ble_eq_true rfl) rfl rfl ?_
            refine gd_iload_n (q := 67) rfl rfl rfl ?_
            refine gd_iast (q := 68) rfl rfl (Nat.le_of_ble_eq_true rfl) rfl hp ?_
            refine gd_aload_n (q := 69) rfl rfl rfl ?_
            refine gd_dup (q := 70) rfl rfl rfl ?_
            refine gd_getI (q := 73) rfl rfl rfl (Nat.le_of_ble_eq_true rfl) rfl rfl ?_
            refine gd_iconst (v := 1) (q := 74) rfl rfl rfl ?_
            refine gd_iadd (q := 75) rfl rfl ?_
            refine gd_putI (q := 78) rfl rfl rfl (Nat.le_of_ble_eq_true rfl) rfl rfl rfl (Or.inl rfl) ?_
            refine gd_aload_n (q := 79) rfl rfl rfl ?_
            refine gd_getI (q := 82) rfl rfl rfl (Nat.le_of_ble_eq_true rfl) rfl rfl ?_
            refine gd_iconst (v := 1) (q := 83) rfl rfl rfl ?_
            refine gd_isub (q := 84) rfl rfl ?_
            exact gd_ireturn rfl rfl rfl (Nat.le_refl 0) (Nat.le_refl 0) rfl
          · refine gd_iconst (v := (-1)) (q := 37) rfl rfl rfl ?_
            exact gd_ireturn rfl rfl rfl (Nat.le_refl 0) (Nat.le_refl 0) rfl
theorem ct_X10_tape (f : Nat) (I : am_I) (J : am_J) (Q : am_Q) (hG : Gr Q) (a1 : Int32) (a2 : Int32) (a3 : Int32) (hp : p_X10_tape I a1 a2 a3) : Cm MX10_tape 1 0 0 92 [.ref 46, .int a1, .int a2, .int a3] I J Q (am_FiI J Q (s_X10_tape I a1 a2 a3)) := cm_of (by decide) rfl IX10_tape_ok (Nat.le_of_ble_eq_true rfl) (gt_X10_tape f I J Q hG a1 a2 a3 hp)
def s_X10_piece_L97 (a1 : Int32) (a2 : Int32) (a3 : Int32) (a4 : Int32) (a5 : Int32) (a6 : Int32)  : Nat → Int32 → am_I → Int32 × am_I
  | 0, _, I => (0, I)
  | g + 1, v7, I => (if (I 46 44) ≤ v7 then ((((I 46 44) + 1) - 1), (am_w (am_w (am_w (am_w (am_w (am_w (am_w (am_w I 74 (I 46 44).toNatClampNeg a1) 75 (I 46 44).toNatClampNeg a2) 76 (I 46 44).toNatClampNeg a3) 77 (I 46 44).toNatClampNeg a4) 78 (I 46 44).toNatClampNeg a5) 79 (I 46 44).toNatClampNeg a6) 80 (I 46 44).toNatClampNeg (-1)) 46 44 ((I 46 44) + 1))) else (if (I 74 v7.toNatClampNeg) = a1 then (if a3 ≤ (I 75 v7.toNatClampNeg) then (s_X10_piece_L97 a1 a2 a3 a4 a5 a6 g (v7 + 1) I) else (if (I 76 v7.toNatClampNeg) ≤ a2 then (s_X10_piece_L97 a1 a2 a3 a4 a5 a6 g (v7 + 1) I) else ((-1), I))) else (s_X10_piece_L97 a1 a2 a3 a4 a5 a6 g (v7 + 1) I)))
def p_X10_piece_L97 (a1 : Int32) (a2 : Int32) (a3 : Int32) (a4 : Int32) (a5 : Int32) (a6 : Int32)  : Nat → Int32 → am_I → Prop
  | 0, _, _ => False
  | g + 1, v7, I => (if (I 46 44) ≤ v7 then (vp_in (I 46 44) 30 ∧ (vp_in (I 46 44) 30 ∧ (vp_in (I 46 44) 30 ∧ (vp_in (I 46 44) 30 ∧ (vp_in (I 46 44) 30 ∧ (vp_in (I 46 44) 30 ∧ vp_in (I 46 44) 30)))))) else (vp_in v7 30 ∧ (if (I 74 v7.toNatClampNeg) = a1 then (vp_in v7 30 ∧ (if a3 ≤ (I 75 v7.toNatClampNeg) then (p_X10_piece_L97 a1 a2 a3 a4 a5 a6 g (v7 + 1) I) else (vp_in v7 30 ∧ (if (I 76 v7.toNatClampNeg) ≤ a2 then (p_X10_piece_L97 a1 a2 a3 a4 a5 a6 g (v7 + 1) I) else True)))) else (p_X10_piece_L97 a1 a2 a3 a4 a5 a6 g (v7 + 1) I))))
def s_X10_piece (f : Nat) (I : am_I) (a1 : Int32) (a2 : Int32) (a3 : Int32) (a4 : Int32) (a5 : Int32) (a6 : Int32) : Int32 × am_I := (if (I 46 44) = 30 then ((-1), I) else (if a1 < 0 then ((-1), I) else (if (I 46 40) ≤ a1 then ((-1), I) else (if a2 < 0 then ((-1), I) else (if a3 ≤ a2 then ((-1), I) else (if (I 73 a1.toNatClampNeg) < a3 then ((-1), I) else (if a4 < 0 then ((-1), I) else (if (I 46 38) ≤ a4 then ((-1), I) else (if a5 < (-1) then ((-1), I) else (if (I 46 35) ≤ a5 then ((-1), I) else (if a6 < 0 then ((-1), I) else (if 15 < a6 then ((-1), I) else (if a5 = (-1) then (if a6 = 0 then (s_X10_piece_L97 a1 a2 a3 a4 a5 a6 f 0 I) else ((-1), I)) else (s_X10_piece_L97 a1 a2 a3 a4 a5 a6 f 0 I))))))))))))))
def p_X10_piece (f : Nat) (I : am_I) (a1 : Int32) (a2 : Int32) (a3 : Int32) (a4 : Int32) (a5 : Int32) (a6 : Int32) : Prop := (if (I 46 44) = 30 then True else (if a1 < 0 then True else (if (I 46 40) ≤ a1 then True else (if a2 < 0 then True else (if a3 ≤ a2 then True else (vp_in a1 6 ∧ (if (I 73 a1.toNatClampNeg) < a3 then True else (if a4 < 0 then True else (if (I 46 38) ≤ a4 then True else (if a5 < (-1) then True else (if (I 46 35) ≤ a5 then True else (if a6 < 0 then True else (if 15 < a6 then True else (if a5 = (-1) then (if a6 = 0 then (p_X10_piece_L97 a1 a2 a3 a4 a5 a6 f 0 I) else True) else (p_X10_piece_L97 a1 a2 a3 a4 a5 a6 f 0 I)))))))))))))))
set_option maxRecDepth 100000 in
set_option maxHeartbeats 4000000 in
theorem gl_X10_piece_L97 (a1 : Int32) (a2 : Int32) (a3 : Int32) (a4 : Int32) (a5 : Int32) (a6 : Int32) (f : Nat) (J : am_J) (Q : am_Q) (hG : Gr Q) : ∀ g : Nat, (∀ (v7 : Int32) (I : am_I), p_X10_piece_L97 a1 a2 a3 a4 a5 a6 g v7 I → Gd MX10_piece (am_o 0 0 0 (am_FiI J Q (s_X10_piece_L97 a1 a2 a3 a4 a5 a6 g v7 I))) 0 0 92 97 [some (.ref 46), some (.int a1), some (.int a2), some (.int a3), some (.int a4), some (.int a5), some (.int a6), some (.int v7)] [] I J Q) := by
  intro g
  induction g with
  | zero => exact fun _ _ hp => False.elim hp
  | succ g ih =>
    have ih_97 := ih
    intro v7 I hp
    rw [s_X10_piece_L97]
    rw [p_X10_piece_L97] at hp
    refine gd_iload (q := 99) rfl rfl rfl ?_
    refine gd_aload_n (q := 100) rfl rfl rfl ?_
    refine gd_getI (q := 103) rfl rfl rfl (Nat.le_of_ble_eq_true rfl) rfl rfl ?_
    refine gx_icmp_ge (q := 106) (r := 147) rfl rfl rfl hp (fun c_103 hp => ?_) (fun c_103 hp => ?_)
    · refine gd_aload_n (q := 148) rfl rfl rfl ?_
      refine gd_getR (q := 151) (r := 74) rfl rfl rfl (Nat.le_of_ble_eq_true rfl) rfl rfl (gr_46_45 hG) ?_
      refine gd_aload_n (q := 152) rfl rfl rfl ?_
      refine gd_getI (q := 155) rfl rfl rfl (Nat.le_of_ble_eq_true rfl) rfl rfl ?_
      refine gd_iload_n (q := 156) rfl rfl rfl ?_
      refine gd_iast (q := 157) rfl rfl (Nat.le_of_ble_eq_true rfl) rfl hp.1 ?_
      replace hp := hp.2
      refine gd_aload_n (q := 158) rfl rfl rfl ?_
      refine gd_getR (q := 161) (r := 75) rfl rfl rfl (Nat.le_of_ble_eq_true rfl) rfl rfl (gr_46_46 hG) ?_
      refine gd_aload_n (q := 162) rfl rfl rfl ?_
      refine gd_getI (q := 165) rfl rfl rfl (Nat.le_of_ble_eq_true rfl) rfl rfl ?_
      refine gd_iload_n (q := 166) rfl rfl rfl ?_
      refine gd_iast (q := 167) rfl rfl (Nat.le_of_ble_eq_true rfl) rfl hp.1 ?_
      replace hp := hp.2
      refine gd_aload_n (q := 168) rfl rfl rfl ?_
      refine gd_getR (q := 171) (r := 76) rfl rfl rfl (Nat.le_of_ble_eq_true rfl) rfl rfl (gr_46_47 hG) ?_
      refine gd_aload_n (q := 172) rfl rfl rfl ?_
      refine gd_getI (q := 175) rfl rfl rfl (Nat.le_of_ble_eq_true rfl) rfl rfl ?_
      refine gd_iload_n (q := 176) rfl rfl rfl ?_
      refine gd_iast (q := 177) rfl rfl (Nat.le_of_ble_eq_true rfl) rfl hp.1 ?_
      replace hp := hp.2
      refine gd_aload_n (q := 178) rfl rfl rfl ?_
      refine gd_getR (q := 181) (r := 77) rfl rfl rfl (Nat.le_of_ble_eq_true rfl) rfl rfl (gr_46_48 hG) ?_
      refine gd_aload_n (q := 182) rfl rfl rfl ?_
      refine gd_getI (q := 185) rfl rfl rfl (Nat.le_of_ble_eq_true rfl) rfl rfl ?_
      refine gd_iload (q := 187) rfl rfl rfl ?_
      refine gd_iast (q := 188) rfl rfl (Nat.le_of_ble_eq_true rfl) rfl hp.1 ?_
      replace hp := hp.2
      refine gd_aload_n (q := 189) rfl rfl rfl ?_
      refine gd_getR (q := 192) (r := 78) rfl rfl rfl (Nat.le_of_ble_eq_true rfl) rfl rfl (gr_46_49 hG) ?_
      refine gd_aload_n (q := 193) rfl rfl rfl ?_
      refine gd_getI (q := 196) rfl rfl rfl (Nat.le_of_ble_eq_true rfl) rfl rfl ?_
      refine gd_iload (q := 198) rfl rfl rfl ?_
      refine gd_iast (q := 199) rfl rfl (Nat.le_of_ble_eq_true rfl) rfl hp.1 ?_
      replace hp := hp.2
      refine gd_aload_n (q := 200) rfl rfl rfl ?_
      refine gd_getR (q := 203) (r := 79) rfl rfl rfl (Nat.le_of_ble_eq_true rfl) rfl rfl (gr_46_50 hG) ?_
      refine gd_aload_n (q := 204) rfl rfl rfl ?_
      refine gd_getI (q := 207) rfl rfl rfl (Nat.le_of_ble_eq_true rfl) rfl rfl ?_
      refine gd_iload (q := 209) rfl rfl rfl ?_
      refine gd_iast (q := 210) rfl rfl (Nat.le_of_ble_eq_true rfl) rfl hp.1 ?_
      replace hp := hp.2
      refine gd_aload_n (q := 211) rfl rfl rfl ?_
      refine gd_getR (q := 214) (r := 80) rfl rfl rfl (Nat.le_of_ble_eq_true rfl) rfl rfl (gr_46_51 hG) ?_
      refine gd_aload_n (q := 215) rfl rfl rfl ?_
      refine gd_getI (q := 218) rfl rfl rfl (Nat.le_of_ble_eq_true rfl) rfl rfl ?_
      refine gd_iconst (v := (-1)) (q := 219) rfl rfl rfl ?_
      refine gd_iast (q := 220) rfl rfl (Nat.le_of_ble_eq_true rfl) rfl hp ?_
      refine gd_aload_n (q := 221) rfl rfl rfl ?_
      refine gd_dup (q := 222) rfl rfl rfl ?_
      refine gd_getI (q := 225) rfl rfl rfl (Nat.le_of_ble_eq_true rfl) rfl rfl ?_
      refine gd_iconst (v := 1) (q := 226) rfl rfl rfl ?_
      refine gd_iadd (q := 227) rfl rfl ?_
      refine gd_putI (q := 230) rfl rfl rfl (Nat.le_of_ble_eq_true rfl) rfl rfl rfl (Or.inl rfl) ?_
      refine gd_aload_n (q := 231) rfl rfl rfl ?_
      refine gd_getI (q := 234) rfl rfl rfl (Nat.le_of_ble_eq_true rfl) rfl rfl ?_
      refine gd_iconst (v := 1) (q := 235) rfl rfl rfl ?_
      refine gd_isub (q := 236) rfl rfl ?_
      exact gd_ireturn rfl rfl rfl (Nat.le_refl 0) (Nat.le_refl 0) rfl
    · refine gd_aload_n (q := 107) rfl rfl rfl ?_
      refine gd_getR (q := 110) (r := 74) rfl rfl rfl (Nat.le_of_ble_eq_true rfl) rfl rfl (gr_46_45 hG) ?_
      refine gd_iload (q := 112) rfl rfl rfl ?_
      refine gd_iald (q := 113) rfl rfl (Nat.le_of_ble_eq_true rfl) rfl hp.1 ?_
      replace hp := hp.2
      refine gd_iload_n (q := 114) rfl rfl rfl ?_
      refine gx_icmp_ne (q := 117) (r := 141) rfl rfl rfl hp (fun c_114 hp => ?_) (fun c_114 hp => ?_)
      · refine gd_aload_n (q := 118) rfl rfl rfl ?_
        refine gd_getR (q := 121) (r := 75) rfl rfl rfl (Nat.le_of_ble_eq_true rfl) rfl rfl (gr_46_46 hG) ?_
        refine gd_iload (q := 123) rfl rfl rfl ?_
        refine gd_iald (q := 124) rfl rfl (Nat.le_of_ble_eq_true rfl) rfl hp.1 ?_
        replace hp := hp.2
        refine gd_iload_n (q := 125) rfl rfl rfl ?_
        refine gx_icmp_ge (q := 128) (r := 141) rfl rfl rfl hp (fun c_125 hp => ?_) (fun c_125 hp => ?_)
        · refine gd_iinc (v := (v7 + 1)) (q := 144) rfl rfl rfl rfl (Nat.le_of_ble_eq_true rfl) rfl ?_
          refine gd_goto (q := 97) rfl rfl ?_
          exact ih_97 _ _ hp
        · refine gd_iload_n (q := 129) rfl rfl rfl ?_
          refine gd_aload_n (q := 130) rfl rfl rfl ?_
          refine gd_getR (q := 133) (r := 76) rfl rfl rfl (Nat.le_of_ble_eq_true rfl) rfl rfl (gr_46_47 hG) ?_
          refine gd_iload (q := 135) rfl rfl rfl ?_
          refine gd_iald (q := 136) rfl rfl (Nat.le_of_ble_eq_true rfl) rfl hp.1 ?_
          replace hp := hp.2
          refine gx_icmp_ge (q := 139) (r := 141) rfl rfl rfl hp (fun c_136 hp => ?_) (fun c_136 hp => ?_)
          · refine gd_iinc (v := (v7 + 1)) (q := 144) rfl rfl rfl rfl (Nat.le_of_ble_eq_true rfl) rfl ?_
            refine gd_goto (q := 97) rfl rfl ?_
            exact ih_97 _ _ hp
          · refine gd_iconst (v := (-1)) (q := 140) rfl rfl rfl ?_
            exact gd_ireturn rfl rfl rfl (Nat.le_refl 0) (Nat.le_refl 0) rfl
      · refine gd_iinc (v := (v7 + 1)) (q := 144) rfl rfl rfl rfl (Nat.le_of_ble_eq_true rfl) rfl ?_
        refine gd_goto (q := 97) rfl rfl ?_
        exact ih_97 _ _ hp
theorem gl_X10_piece_97 (a1 : Int32) (a2 : Int32) (a3 : Int32) (a4 : Int32) (a5 : Int32) (a6 : Int32) (f : Nat) (J : am_J) (Q : am_Q) (hG : Gr Q) (g : Nat) : ∀ (v7 : Int32) (I : am_I), p_X10_piece_L97 a1 a2 a3 a4 a5 a6 g v7 I → Gd MX10_piece (am_o 0 0 0 (am_FiI J Q (s_X10_piece_L97 a1 a2 a3 a4 a5 a6 g v7 I))) 0 0 92 97 [some (.ref 46), some (.int a1), some (.int a2), some (.int a3), some (.int a4), some (.int a5), some (.int a6), some (.int v7)] [] I J Q := (gl_X10_piece_L97 a1 a2 a3 a4 a5 a6 f J Q hG g)
set_option maxRecDepth 100000 in
set_option maxHeartbeats 4000000 in
theorem gt_X10_piece (f : Nat) (I : am_I) (J : am_J) (Q : am_Q) (hG : Gr Q) (a1 : Int32) (a2 : Int32) (a3 : Int32) (a4 : Int32) (a5 : Int32) (a6 : Int32) (hp : p_X10_piece f I a1 a2 a3 a4 a5 a6) : Gd MX10_piece (am_o 0 0 0 (am_FiI J Q (s_X10_piece f I a1 a2 a3 a4 a5 a6))) 0 0 92 0 [some (.ref 46), some (.int a1), some (.int a2), some (.int a3), some (.int a4), some (.int a5), some (.int a6), none] [] I J Q := by
  unfold s_X10_piece
  unfold p_X10_piece at hp
  refine gd_aload_n (q := 1) rfl rfl rfl ?_
  refine gd_getI (q := 4) rfl rfl rfl (Nat.le_of_ble_eq_true rfl) rfl rfl ?_
  refine gd_bipush (v := 30) (q := 6) rfl rfl rfl ?_
  refine gx_icmp_eq (q := 9) (r := 92) rfl rfl rfl hp (fun c_6 hp => ?_) (fun c_6 hp => ?_)
  · refine gd_iconst (v := (-1)) (q := 93) rfl rfl rfl ?_
    exact gd_ireturn rfl rfl rfl (Nat.le_refl 0) (Nat.le_refl 0) rfl
  · refine gd_iload_n (q := 10) rfl rfl rfl ?_
    refine gx_if_lt (q := 13) (r := 92) rfl rfl rfl hp (fun c_10 hp => ?_) (fun c_10 hp => ?_)
    · refine gd_iconst (v := (-1)) (q := 93) rfl rfl rfl ?_
      exact gd_ireturn rfl rfl rfl (Nat.le_refl 0) (Nat.le_refl 0) rfl
    · refine gd_iload_n (q := 14) rfl rfl rfl ?_
      refine gd_aload_n (q := 15) rfl rfl rfl ?_
      refine gd_getI (q := 18) rfl rfl rfl (Nat.le_of_ble_eq_true rfl) rfl rfl ?_
      refine gx_icmp_ge (q := 21) (r := 92) rfl rfl rfl hp (fun c_18 hp => ?_) (fun c_18 hp => ?_)
      · refine gd_iconst (v := (-1)) (q := 93) rfl rfl rfl ?_
        exact gd_ireturn rfl rfl rfl (Nat.le_refl 0) (Nat.le_refl 0) rfl
      · refine gd_iload_n (q := 22) rfl rfl rfl ?_
        refine gx_if_lt (q := 25) (r := 92) rfl rfl rfl hp (fun c_22 hp => ?_) (fun c_22 hp => ?_)
        · refine gd_iconst (v := (-1)) (q := 93) rfl rfl rfl ?_
          exact gd_ireturn rfl rfl rfl (Nat.le_refl 0) (Nat.le_refl 0) rfl
        · refine gd_iload_n (q := 26) rfl rfl rfl ?_
          refine gd_iload_n (q := 27) rfl rfl rfl ?_
          refine gx_icmp_ge (q := 30) (r := 92) rfl rfl rfl hp (fun c_27 hp => ?_) (fun c_27 hp => ?_)
          · refine gd_iconst (v := (-1)) (q := 93) rfl rfl rfl ?_
            exact gd_ireturn rfl rfl rfl (Nat.le_refl 0) (Nat.le_refl 0) rfl
          · refine gd_iload_n (q := 31) rfl rfl rfl ?_
            refine gd_aload_n (q := 32) rfl rfl rfl ?_
            refine gd_getR (q := 35) (r := 73) rfl rfl rfl (Nat.le_of_ble_eq_true rfl) rfl rfl (gr_46_43 hG) ?_
            refine gd_iload_n (q := 36) rfl rfl rfl ?_
            refine gd_iald (q := 37) rfl rfl (Nat.le_of_ble_eq_true rfl) rfl hp.1 ?_
            replace hp := hp.2
            refine gx_icmp_gt (q := 40) (r := 92) rfl rfl rfl hp (fun c_37 hp => ?_) (fun c_37 hp => ?_)
            · refine gd_iconst (v := (-1)) (q := 93) rfl rfl rfl ?_
              exact gd_ireturn rfl rfl rfl (Nat.le_refl 0) (Nat.le_refl 0) rfl
            · refine gd_iload (q := 42) rfl rfl rfl ?_
              refine gx_if_lt (q := 45) (r := 92) rfl rfl rfl hp (fun c_42 hp => ?_) (fun c_42 hp => ?_)
              · refine gd_iconst (v := (-1)) (q := 93) rfl rfl rfl ?_
                exact gd_ireturn rfl rfl rfl (Nat.le_refl 0) (Nat.le_refl 0) rfl
              · refine gd_iload (q := 47) rfl rfl rfl ?_
                refine gd_aload_n (q := 48) rfl rfl rfl ?_
                refine gd_getI (q := 51) rfl rfl rfl (Nat.le_of_ble_eq_true rfl) rfl rfl ?_
                refine gx_icmp_ge (q := 54) (r := 92) rfl rfl rfl hp (fun c_51 hp => ?_) (fun c_51 hp => ?_)
                · refine gd_iconst (v := (-1)) (q := 93) rfl rfl rfl ?_
                  exact gd_ireturn rfl rfl rfl (Nat.le_refl 0) (Nat.le_refl 0) rfl
                · refine gd_iload (q := 56) rfl rfl rfl ?_
                  refine gd_iconst (v := (-1)) (q := 57) rfl rfl rfl ?_
                  refine gx_icmp_lt (q := 60) (r := 92) rfl rfl rfl hp (fun c_57 hp => ?_) (fun c_57 hp => ?_)
                  · refine gd_iconst (v := (-1)) (q := 93) rfl rfl rfl ?_
                    exact gd_ireturn rfl rfl rfl (Nat.le_refl 0) (Nat.le_refl 0) rfl
                  · refine gd_iload (q := 62) rfl rfl rfl ?_
                    refine gd_aload_n (q := 63) rfl rfl rfl ?_
                    refine gd_getI (q := 66) rfl rfl rfl (Nat.le_of_ble_eq_true rfl) rfl rfl ?_
                    refine gx_icmp_ge (q := 69) (r := 92) rfl rfl rfl hp (fun c_66 hp => ?_) (fun c_66 hp => ?_)
                    · refine gd_iconst (v := (-1)) (q := 93) rfl rfl rfl ?_
                      exact gd_ireturn rfl rfl rfl (Nat.le_refl 0) (Nat.le_refl 0) rfl
                    · refine gd_iload (q := 71) rfl rfl rfl ?_
                      refine gx_if_lt (q := 74) (r := 92) rfl rfl rfl hp (fun c_71 hp => ?_) (fun c_71 hp => ?_)
                      · refine gd_iconst (v := (-1)) (q := 93) rfl rfl rfl ?_
                        exact gd_ireturn rfl rfl rfl (Nat.le_refl 0) (Nat.le_refl 0) rfl
                      · refine gd_iload (q := 76) rfl rfl rfl ?_
                        refine gd_bipush (v := 15) (q := 78) rfl rfl rfl ?_
                        refine gx_icmp_gt (q := 81) (r := 92) rfl rfl rfl hp (fun c_78 hp => ?_) (fun c_78 hp => ?_)
                        · refine gd_iconst (v := (-1)) (q := 93) rfl rfl rfl ?_
                          exact gd_ireturn rfl rfl rfl (Nat.le_refl 0) (Nat.le_refl 0) rfl
                        · refine gd_iload (q := 83) rfl rfl rfl ?_
                          refine gd_iconst (v := (-1)) (q := 84) rfl rfl rfl ?_
                          refine gx_icmp_ne (q := 87) (r := 94) rfl rfl rfl hp (fun c_84 hp => ?_) (fun c_84 hp => ?_)
                          · refine gd_iload (q := 89) rfl rfl rfl ?_
                            refine gx_if_eq (q := 92) (r := 94) rfl rfl rfl hp (fun c_89 hp => ?_) (fun c_89 hp => ?_)
                            · refine gd_iconst (v := 0) (q := 95) rfl rfl rfl ?_
                              refine gd_istore (q := 97) rfl rfl (Nat.le_of_ble_eq_true rfl) rfl ?_
                              exact gl_X10_piece_97 a1 a2 a3 a4 a5 a6 f J Q hG f 0 _ hp
                            · refine gd_iconst (v := (-1)) (q := 93) rfl rfl rfl ?_
                              exact gd_ireturn rfl rfl rfl (Nat.le_refl 0) (Nat.le_refl 0) rfl
                          · refine gd_iconst (v := 0) (q := 95) rfl rfl rfl ?_
                            refine gd_istore (q := 97) rfl rfl (Nat.le_of_ble_eq_true rfl) rfl ?_
                            exact gl_X10_piece_97 a1 a2 a3 a4 a5 a6 f J Q hG f 0 _ hp
theorem ct_X10_piece (f : Nat) (I : am_I) (J : am_J) (Q : am_Q) (hG : Gr Q) (a1 : Int32) (a2 : Int32) (a3 : Int32) (a4 : Int32) (a5 : Int32) (a6 : Int32) (hp : p_X10_piece f I a1 a2 a3 a4 a5 a6) : Cm MX10_piece 0 0 0 92 [.ref 46, .int a1, .int a2, .int a3, .int a4, .int a5, .int a6] I J Q (am_FiI J Q (s_X10_piece f I a1 a2 a3 a4 a5 a6)) := cm_of (by decide) rfl IX10_piece_ok (Nat.le_of_ble_eq_true rfl) (gt_X10_piece f I J Q hG a1 a2 a3 a4 a5 a6 hp)
def s_X10_asker (I : am_I) (a1 : Int32) : Int32 × am_I := (if (I 46 52) = 6 then ((-1), I) else (if (s_X10_isFour a1) = 0 then ((-1), I) else ((((I 46 52) + 1) - 1), (am_w (am_w I 81 (I 46 52).toNatClampNeg a1) 46 52 ((I 46 52) + 1)))))
def p_X10_asker (I : am_I) (a1 : Int32) : Prop := (if (I 46 52) = 6 then True else (if (s_X10_isFour a1) = 0 then True else vp_in (I 46 52) 6))
set_option maxRecDepth 100000 in
set_option maxHeartbeats 4000000 in
theorem gt_X10_asker (f : Nat) (I : am_I) (J : am_J) (Q : am_Q) (hG : Gr Q) (a1 : Int32) (hp : p_X10_asker I a1) : Gd MX10_asker (am_o 1 0 0 (am_FiI J Q (s_X10_asker I a1))) 0 0 92 0 [some (.ref 46), some (.int a1)] [] I J Q := by
  unfold s_X10_asker
  unfold p_X10_asker at hp
  refine gd_aload_n (q := 1) rfl rfl rfl ?_
  refine gd_getI (q := 4) rfl rfl rfl (Nat.le_of_ble_eq_true rfl) rfl rfl ?_
  refine gd_bipush (v := 6) (q := 6) rfl rfl rfl ?_
  refine gx_icmp_eq (q := 9) (r := 16) rfl rfl rfl hp (fun c_6 hp => ?_) (fun c_6 hp => ?_)
  · refine gd_iconst (v := (-1)) (q := 17) rfl rfl rfl ?_
    exact gd_ireturn rfl rfl rfl (Nat.le_refl 0) (Nat.le_refl 0) rfl
  · refine gd_iload_n (q := 10) rfl rfl rfl ?_
    refine gd_cSi (q := 13) rfl rfl lk10_277 myX10_isFour sxX10_isFour (ct_X10_isFour f _ _ _ hG _) rfl rfl (Nat.le_of_ble_eq_true rfl) ⟨(Nat.le_of_ble_eq_true rfl), (Nat.le_of_ble_eq_true rfl)⟩ ?_
    refine gx_if_ne (q := 16) (r := 18) rfl rfl rfl hp (fun c_13 hp => ?_) (fun c_13 hp => ?_)
    · refine gd_iconst (v := (-1)) (q := 17) rfl rfl rfl ?_
      exact gd_ireturn rfl rfl rfl (Nat.le_refl 0) (Nat.le_refl 0) rfl
    · refine gd_aload_n (q := 19) rfl rfl rfl ?_
      refine gd_getR (q := 22) (r := 81) rfl rfl rfl (Nat.le_of_ble_eq_true rfl) rfl rfl (gr_46_53 hG) ?_
      refine gd_aload_n (q := 23) rfl rfl rfl ?_
      refine gd_getI (q := 26) rfl rfl rfl (Nat.le_of_ble_eq_true rfl) rfl rfl ?_
      refine gd_iload_n (q := 27) rfl rfl rfl ?_
      refine gd_iast (q := 28) rfl rfl (Nat.le_of_ble_eq_true rfl) rfl hp ?_
      refine gd_aload_n (q := 29) rfl rfl rfl ?_
      refine gd_dup (q := 30) rfl rfl rfl ?_
      refine gd_getI (q := 33) rfl rfl rfl (Nat.le_of_ble_eq_true rfl) rfl rfl ?_
      refine gd_iconst (v := 1) (q := 34) rfl rfl rfl ?_
      refine gd_iadd (q := 35) rfl rfl ?_
      refine gd_putI (q := 38) rfl rfl rfl (Nat.le_of_ble_eq_true rfl) rfl rfl rfl (Or.inl rfl) ?_
      refine gd_aload_n (q := 39) rfl rfl rfl ?_
      refine gd_getI (q := 42) rfl rfl rfl (Nat.le_of_ble_eq_true rfl) rfl rfl ?_
      refine gd_iconst (v := 1) (q := 43) rfl rfl rfl ?_
      refine gd_isub (q := 44) rfl rfl ?_
      exact gd_ireturn rfl rfl rfl (Nat.le_refl 0) (Nat.le_refl 0) rfl
theorem ct_X10_asker (f : Nat) (I : am_I) (J : am_J) (Q : am_Q) (hG : Gr Q) (a1 : Int32) (hp : p_X10_asker I a1) : Cm MX10_asker 1 0 0 92 [.ref 46, .int a1] I J Q (am_FiI J Q (s_X10_asker I a1)) := cm_of (by decide) rfl IX10_asker_ok (Nat.le_of_ble_eq_true rfl) (gt_X10_asker f I J Q hG a1 hp)
def s_X10_copy (I : am_I) (a1 : Int32) : Int32 × am_I := (if (I 46 54) = 4 then ((-1), I) else (if a1 < 0 then ((-1), I) else (if a1 ≤ 400 then ((((I 46 54) + 1) - 1), (am_w (am_w I 82 (I 46 54).toNatClampNeg a1) 46 54 ((I 46 54) + 1))) else ((-1), I))))
def p_X10_copy (I : am_I) (a1 : Int32) : Prop := (if (I 46 54) = 4 then True else (if a1 < 0 then True else (if a1 ≤ 400 then vp_in (I 46 54) 4 else True)))
set_option maxRecDepth 100000 in
set_option maxHeartbeats 4000000 in
theorem gt_X10_copy (f : Nat) (I : am_I) (J : am_J) (Q : am_Q) (hG : Gr Q) (a1 : Int32) (hp : p_X10_copy I a1) : Gd MX10_copy (am_o 0 0 0 (am_FiI J Q (s_X10_copy I a1))) 0 0 92 0 [some (.ref 46), some (.int a1)] [] I J Q := by
  unfold s_X10_copy
  unfold p_X10_copy at hp
  refine gd_aload_n (q := 1) rfl rfl rfl ?_
  refine gd_getI (q := 4) rfl rfl rfl (Nat.le_of_ble_eq_true rfl) rfl rfl ?_
  refine gd_iconst (v := 4) (q := 5) rfl rfl rfl ?_
  refine gx_icmp_eq (q := 8) (r := 19) rfl rfl rfl hp (fun c_5 hp => ?_) (fun c_5 hp => ?_)
  · refine gd_iconst (v := (-1)) (q := 20) rfl rfl rfl ?_
    exact gd_ireturn rfl rfl rfl (Nat.le_refl 0) (Nat.le_refl 0) rfl
  · refine gd_iload_n (q := 9) rfl rfl rfl ?_
    refine gx_if_lt (q := 12) (r := 19) rfl rfl rfl hp (fun c_9 hp => ?_) (fun c_9 hp => ?_)
    · refine gd_iconst (v := (-1)) (q := 20) rfl rfl rfl ?_
      exact gd_ireturn rfl rfl rfl (Nat.le_refl 0) (Nat.le_refl 0) rfl
    · refine gd_iload_n (q := 13) rfl rfl rfl ?_
      refine gd_sipush (v := 400) (q := 16) rfl rfl rfl ?_
      refine gx_icmp_le (q := 19) (r := 21) rfl rfl rfl hp (fun c_16 hp => ?_) (fun c_16 hp => ?_)
      · refine gd_aload_n (q := 22) rfl rfl rfl ?_
        refine gd_getR (q := 25) (r := 82) rfl rfl rfl (Nat.le_of_ble_eq_true rfl) rfl rfl (gr_46_55 hG) ?_
        refine gd_aload_n (q := 26) rfl rfl rfl ?_
        refine gd_getI (q := 29) rfl rfl rfl (Nat.le_of_ble_eq_true rfl) rfl rfl ?_
        refine gd_iload_n (q := 30) rfl rfl rfl ?_
        refine gd_iast (q := 31) rfl rfl (Nat.le_of_ble_eq_true rfl) rfl hp ?_
        refine gd_aload_n (q := 32) rfl rfl rfl ?_
        refine gd_dup (q := 33) rfl rfl rfl ?_
        refine gd_getI (q := 36) rfl rfl rfl (Nat.le_of_ble_eq_true rfl) rfl rfl ?_
        refine gd_iconst (v := 1) (q := 37) rfl rfl rfl ?_
        refine gd_iadd (q := 38) rfl rfl ?_
        refine gd_putI (q := 41) rfl rfl rfl (Nat.le_of_ble_eq_true rfl) rfl rfl rfl (Or.inl rfl) ?_
        refine gd_aload_n (q := 42) rfl rfl rfl ?_
        refine gd_getI (q := 45) rfl rfl rfl (Nat.le_of_ble_eq_true rfl) rfl rfl ?_
        refine gd_iconst (v := 1) (q := 46) rfl rfl rfl ?_
        refine gd_isub (q := 47) rfl rfl ?_
        exact gd_ireturn rfl rfl rfl (Nat.le_refl 0) (Nat.le_refl 0) rfl
      · refine gd_iconst (v := (-1)) (q := 20) rfl rfl rfl ?_
        exact gd_ireturn rfl rfl rfl (Nat.le_refl 0) (Nat.le_refl 0) rfl
theorem ct_X10_copy (f : Nat) (I : am_I) (J : am_J) (Q : am_Q) (hG : Gr Q) (a1 : Int32) (hp : p_X10_copy I a1) : Cm MX10_copy 0 0 0 92 [.ref 46, .int a1] I J Q (am_FiI J Q (s_X10_copy I a1)) := cm_of (by decide) rfl IX10_copy_ok (Nat.le_of_ble_eq_true rfl) (gt_X10_copy f I J Q hG a1 hp)
def s_X10_bound (I : am_I) (a1 : Int32) : Int32 × am_I := (if a1 < 1 then (0, I) else (if a1 ≤ 12 then (1, (am_w I 46 56 a1)) else (0, I)))
theorem z_X10_bound (I : am_I) (a1 : Int32) : (s_X10_bound I a1).1 = 0 ∨ (s_X10_bound I a1).1 = 1 := by
  unfold s_X10_bound
  repeat' split
  all_goals first | exact Or.inl rfl | exact Or.inr rfl
set_option maxRecDepth 100000 in
set_option maxHeartbeats 4000000 in
theorem gt_X10_bound (f : Nat) (I : am_I) (J : am_J) (Q : am_Q) (hG : Gr Q) (a1 : Int32) : Gd MX10_bound (am_o 0 0 0 (am_FiI J Q (s_X10_bound I a1))) 0 0 92 0 [some (.ref 46), some (.int a1)] [] I J Q := by
  unfold s_X10_bound
  refine gd_iload_n (q := 1) rfl rfl rfl ?_
  refine gd_iconst (v := 1) (q := 2) rfl rfl rfl ?_
  refine gy_icmp_lt (q := 5) (r := 11) rfl rfl rfl (fun c_2 => ?_) (fun c_2 => ?_)
  · refine gd_iconst (v := 0) (q := 12) rfl rfl rfl ?_
    exact gd_ireturn rfl rfl rfl (Nat.le_refl 0) (Nat.le_refl 0) rfl
  · refine gd_iload_n (q := 6) rfl rfl rfl ?_
    refine gd_bipush (v := 12) (q := 8) rfl rfl rfl ?_
    refine gy_icmp_le (q := 11) (r := 13) rfl rfl rfl (fun c_8 => ?_) (fun c_8 => ?_)
    · refine gd_aload_n (q := 14) rfl rfl rfl ?_
      refine gd_iload_n (q := 15) rfl rfl rfl ?_
      refine gd_putI (q := 18) rfl rfl rfl (Nat.le_of_ble_eq_true rfl) rfl rfl rfl (Or.inl rfl) ?_
      refine gd_iconst (v := 1) (q := 19) rfl rfl rfl ?_
      exact gd_ireturn rfl rfl rfl (Nat.le_refl 0) (Nat.le_refl 0) rfl
    · refine gd_iconst (v := 0) (q := 12) rfl rfl rfl ?_
      exact gd_ireturn rfl rfl rfl (Nat.le_refl 0) (Nat.le_refl 0) rfl
theorem ct_X10_bound (f : Nat) (I : am_I) (J : am_J) (Q : am_Q) (hG : Gr Q) (a1 : Int32) : Cm MX10_bound 0 0 0 92 [.ref 46, .int a1] I J Q (am_FiI J Q (s_X10_bound I a1)) := cm_of (by decide) rfl IX10_bound_ok (Nat.le_of_ble_eq_true rfl) (gt_X10_bound f I J Q hG a1)
def s_X10_dies (I : am_I) (a1 : Int32) (a2 : Int32) : Int32 × am_I := (if (s_X10_isPerson I a1) = 0 then (0, I) else (if (s_X10_isDay a2) = 0 then (0, I) else (if (I 69 a1.toNatClampNeg) = (-1) then (1, (am_w I 69 a1.toNatClampNeg a2)) else (0, I))))
def p_X10_dies (I : am_I) (a1 : Int32) (a2 : Int32) : Prop := (if (s_X10_isPerson I a1) = 0 then True else (if (s_X10_isDay a2) = 0 then True else (vp_in a1 12 ∧ (if (I 69 a1.toNatClampNeg) = (-1) then vp_in a1 12 else True))))
theorem z_X10_dies (I : am_I) (a1 : Int32) (a2 : Int32) : (s_X10_dies I a1 a2).1 = 0 ∨ (s_X10_dies I a1 a2).1 = 1 := by
  unfold s_X10_dies
  repeat' split
  all_goals first | exact Or.inl rfl | exact Or.inr rfl | exact z_X10_isPerson _ _ | exact z_X10_isDay _
set_option maxRecDepth 100000 in
set_option maxHeartbeats 4000000 in
theorem gt_X10_dies (f : Nat) (I : am_I) (J : am_J) (Q : am_Q) (hG : Gr Q) (a1 : Int32) (a2 : Int32) (hp : p_X10_dies I a1 a2) : Gd MX10_dies (am_o 1 0 0 (am_FiI J Q (s_X10_dies I a1 a2))) 0 0 92 0 [some (.ref 46), some (.int a1), some (.int a2)] [] I J Q := by
  unfold s_X10_dies
  unfold p_X10_dies at hp
  refine gd_aload_n (q := 1) rfl rfl rfl ?_
  refine gd_iload_n (q := 2) rfl rfl rfl ?_
  refine gd_cVi (q := 5) rfl rfl lk10_224 myX10_isPerson vxX10_isPerson (ct_X10_isPerson f _ _ _ hG _) rfl (Nat.le_of_ble_eq_true rfl) rfl rfl (Nat.le_of_ble_eq_true rfl) rfl (Nat.le_of_ble_eq_true rfl) ⟨(Nat.le_of_ble_eq_true rfl), (Nat.le_of_ble_eq_true rfl)⟩ ?_
  refine gx_if_eq (q := 8) (r := 25) rfl rfl rfl hp (fun c_5 hp => ?_) (fun c_5 hp => ?_)
  · refine gd_iconst (v := 0) (q := 26) rfl rfl rfl ?_
    exact gd_ireturn rfl rfl rfl (Nat.le_refl 0) (Nat.le_refl 0) rfl
  · refine gd_iload_n (q := 9) rfl rfl rfl ?_
    refine gd_cSi (q := 12) rfl rfl lk10_283 myX10_isDay sxX10_isDay (ct_X10_isDay f _ _ _ hG _) rfl rfl (Nat.le_of_ble_eq_true rfl) ⟨(Nat.le_of_ble_eq_true rfl), (Nat.le_of_ble_eq_true rfl)⟩ ?_
    refine gx_if_eq (q := 15) (r := 25) rfl rfl rfl hp (fun c_12 hp => ?_) (fun c_12 hp => ?_)
    · refine gd_iconst (v := 0) (q := 26) rfl rfl rfl ?_
      exact gd_ireturn rfl rfl rfl (Nat.le_refl 0) (Nat.le_refl 0) rfl
    · refine gd_aload_n (q := 16) rfl rfl rfl ?_
      refine gd_getR (q := 19) (r := 69) rfl rfl rfl (Nat.le_of_ble_eq_true rfl) rfl rfl (gr_46_37 hG) ?_
      refine gd_iload_n (q := 20) rfl rfl rfl ?_
      refine gd_iald (q := 21) rfl rfl (Nat.le_of_ble_eq_true rfl) rfl hp.1 ?_
      replace hp := hp.2
      refine gd_iconst (v := (-1)) (q := 22) rfl rfl rfl ?_
      refine gx_icmp_eq (q := 25) (r := 27) rfl rfl rfl hp (fun c_22 hp => ?_) (fun c_22 hp => ?_)
      · refine gd_aload_n (q := 28) rfl rfl rfl ?_
        refine gd_getR (q := 31) (r := 69) rfl rfl rfl (Nat.le_of_ble_eq_true rfl) rfl rfl (gr_46_37 hG) ?_
        refine gd_iload_n (q := 32) rfl rfl rfl ?_
        refine gd_iload_n (q := 33) rfl rfl rfl ?_
        refine gd_iast (q := 34) rfl rfl (Nat.le_of_ble_eq_true rfl) rfl hp ?_
        refine gd_iconst (v := 1) (q := 35) rfl rfl rfl ?_
        exact gd_ireturn rfl rfl rfl (Nat.le_refl 0) (Nat.le_refl 0) rfl
      · refine gd_iconst (v := 0) (q := 26) rfl rfl rfl ?_
        exact gd_ireturn rfl rfl rfl (Nat.le_refl 0) (Nat.le_refl 0) rfl
theorem ct_X10_dies (f : Nat) (I : am_I) (J : am_J) (Q : am_Q) (hG : Gr Q) (a1 : Int32) (a2 : Int32) (hp : p_X10_dies I a1 a2) : Cm MX10_dies 1 0 0 92 [.ref 46, .int a1, .int a2] I J Q (am_FiI J Q (s_X10_dies I a1 a2)) := cm_of (by decide) rfl IX10_dies_ok (Nat.le_of_ble_eq_true rfl) (gt_X10_dies f I J Q hG a1 a2 hp)
def s_X10_isPiece (I : am_I) (a1 : Int32) : Int32 := (if a1 < 0 then 0 else (if (I 46 44) ≤ a1 then 0 else 1))
theorem z_X10_isPiece (I : am_I) (a1 : Int32) : (s_X10_isPiece I a1) = 0 ∨ (s_X10_isPiece I a1) = 1 := by
  unfold s_X10_isPiece
  repeat' split
  all_goals first | exact Or.inl rfl | exact Or.inr rfl
set_option maxRecDepth 100000 in
set_option maxHeartbeats 4000000 in
theorem gt_X10_isPiece (f : Nat) (I : am_I) (J : am_J) (Q : am_Q) (hG : Gr Q) (a1 : Int32) : Gd MX10_isPiece (am_o 0 0 0 (am_Fi I J Q (s_X10_isPiece I a1))) 0 0 92 0 [some (.ref 46), some (.int a1)] [] I J Q := by
  unfold s_X10_isPiece
  refine gd_iload_n (q := 1) rfl rfl rfl ?_
  refine gy_if_lt (q := 4) (r := 16) rfl rfl rfl (fun c_1 => ?_) (fun c_1 => ?_)
  · refine gd_iconst (v := 0) (q := 17) rfl rfl rfl ?_
    exact gd_ireturn rfl rfl rfl (Nat.le_refl 0) (Nat.le_refl 0) rfl
  · refine gd_iload_n (q := 5) rfl rfl rfl ?_
    refine gd_aload_n (q := 6) rfl rfl rfl ?_
    refine gd_getI (q := 9) rfl rfl rfl (Nat.le_of_ble_eq_true rfl) rfl rfl ?_
    refine gy_icmp_ge (q := 12) (r := 16) rfl rfl rfl (fun c_9 => ?_) (fun c_9 => ?_)
    · refine gd_iconst (v := 0) (q := 17) rfl rfl rfl ?_
      exact gd_ireturn rfl rfl rfl (Nat.le_refl 0) (Nat.le_refl 0) rfl
    · refine gd_iconst (v := 1) (q := 13) rfl rfl rfl ?_
      refine gd_goto (q := 17) rfl rfl ?_
      exact gd_ireturn rfl rfl rfl (Nat.le_refl 0) (Nat.le_refl 0) rfl
theorem ct_X10_isPiece (f : Nat) (I : am_I) (J : am_J) (Q : am_Q) (hG : Gr Q) (a1 : Int32) : Cm MX10_isPiece 0 0 0 92 [.ref 46, .int a1] I J Q (am_Fi I J Q (s_X10_isPiece I a1)) := cm_of (by decide) rfl IX10_isPiece_ok (Nat.le_of_ble_eq_true rfl) (gt_X10_isPiece f I J Q hG a1)
def s_X10_takes (I : am_I) (a1 : Int32) (a2 : Int32) : Int32 × am_I := (if (s_X10_isPiece I a1) = 0 then (0, I) else (if (s_X10_isDay a2) = 0 then (0, I) else (if (I 80 a1.toNatClampNeg) = (-1) then (1, (am_w I 80 a1.toNatClampNeg a2)) else (0, I))))
def p_X10_takes (I : am_I) (a1 : Int32) (a2 : Int32) : Prop := (if (s_X10_isPiece I a1) = 0 then True else (if (s_X10_isDay a2) = 0 then True else (vp_in a1 30 ∧ (if (I 80 a1.toNatClampNeg) = (-1) then vp_in a1 30 else True))))
theorem z_X10_takes (I : am_I) (a1 : Int32) (a2 : Int32) : (s_X10_takes I a1 a2).1 = 0 ∨ (s_X10_takes I a1 a2).1 = 1 := by
  unfold s_X10_takes
  repeat' split
  all_goals first | exact Or.inl rfl | exact Or.inr rfl | exact z_X10_isPiece _ _ | exact z_X10_isDay _
set_option maxRecDepth 100000 in
set_option maxHeartbeats 4000000 in
theorem gt_X10_takes (f : Nat) (I : am_I) (J : am_J) (Q : am_Q) (hG : Gr Q) (a1 : Int32) (a2 : Int32) (hp : p_X10_takes I a1 a2) : Gd MX10_takes (am_o 1 0 0 (am_FiI J Q (s_X10_takes I a1 a2))) 0 0 92 0 [some (.ref 46), some (.int a1), some (.int a2)] [] I J Q := by
  unfold s_X10_takes
  unfold p_X10_takes at hp
  refine gd_aload_n (q := 1) rfl rfl rfl ?_
  refine gd_iload_n (q := 2) rfl rfl rfl ?_
  refine gd_cVi (q := 5) rfl rfl lk10_289 myX10_isPiece vxX10_isPiece (ct_X10_isPiece f _ _ _ hG _) rfl (Nat.le_of_ble_eq_true rfl) rfl rfl (Nat.le_of_ble_eq_true rfl) rfl (Nat.le_of_ble_eq_true rfl) ⟨(Nat.le_of_ble_eq_true rfl), (Nat.le_of_ble_eq_true rfl)⟩ ?_
  refine gx_if_eq (q := 8) (r := 25) rfl rfl rfl hp (fun c_5 hp => ?_) (fun c_5 hp => ?_)
  · refine gd_iconst (v := 0) (q := 26) rfl rfl rfl ?_
    exact gd_ireturn rfl rfl rfl (Nat.le_refl 0) (Nat.le_refl 0) rfl
  · refine gd_iload_n (q := 9) rfl rfl rfl ?_
    refine gd_cSi (q := 12) rfl rfl lk10_283 myX10_isDay sxX10_isDay (ct_X10_isDay f _ _ _ hG _) rfl rfl (Nat.le_of_ble_eq_true rfl) ⟨(Nat.le_of_ble_eq_true rfl), (Nat.le_of_ble_eq_true rfl)⟩ ?_
    refine gx_if_eq (q := 15) (r := 25) rfl rfl rfl hp (fun c_12 hp => ?_) (fun c_12 hp => ?_)
    · refine gd_iconst (v := 0) (q := 26) rfl rfl rfl ?_
      exact gd_ireturn rfl rfl rfl (Nat.le_refl 0) (Nat.le_refl 0) rfl
    · refine gd_aload_n (q := 16) rfl rfl rfl ?_
      refine gd_getR (q := 19) (r := 80) rfl rfl rfl (Nat.le_of_ble_eq_true rfl) rfl rfl (gr_46_51 hG) ?_
      refine gd_iload_n (q := 20) rfl rfl rfl ?_
      refine gd_iald (q := 21) rfl rfl (Nat.le_of_ble_eq_true rfl) rfl hp.1 ?_
      replace hp := hp.2
      refine gd_iconst (v := (-1)) (q := 22) rfl rfl rfl ?_
      refine gx_icmp_eq (q := 25) (r := 27) rfl rfl rfl hp (fun c_22 hp => ?_) (fun c_22 hp => ?_)
      · refine gd_aload_n (q := 28) rfl rfl rfl ?_
        refine gd_getR (q := 31) (r := 80) rfl rfl rfl (Nat.le_of_ble_eq_true rfl) rfl rfl (gr_46_51 hG) ?_
        refine gd_iload_n (q := 32) rfl rfl rfl ?_
        refine gd_iload_n (q := 33) rfl rfl rfl ?_
        refine gd_iast (q := 34) rfl rfl (Nat.le_of_ble_eq_true rfl) rfl hp ?_
        refine gd_iconst (v := 1) (q := 35) rfl rfl rfl ?_
        exact gd_ireturn rfl rfl rfl (Nat.le_refl 0) (Nat.le_refl 0) rfl
      · refine gd_iconst (v := 0) (q := 26) rfl rfl rfl ?_
        exact gd_ireturn rfl rfl rfl (Nat.le_refl 0) (Nat.le_refl 0) rfl
theorem ct_X10_takes (f : Nat) (I : am_I) (J : am_J) (Q : am_Q) (hG : Gr Q) (a1 : Int32) (a2 : Int32) (hp : p_X10_takes I a1 a2) : Cm MX10_takes 1 0 0 92 [.ref 46, .int a1, .int a2] I J Q (am_FiI J Q (s_X10_takes I a1 a2)) := cm_of (by decide) rfl IX10_takes_ok (Nat.le_of_ble_eq_true rfl) (gt_X10_takes f I J Q hG a1 a2 hp)
