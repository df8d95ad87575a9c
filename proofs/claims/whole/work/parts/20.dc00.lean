def s_X10_put_L3 (a1 : Int32)  : Nat → Int32 → am_I → am_I
  | 0, _, I => I
  | g + 1, v2, I => (if v2 < 0 then I else (s_X10_put_L3 a1 g (v2 + (-8)) (am_w (am_w I 47 (I 46 2).toNatClampNeg (vp_nar .byte ((a1 >>> (v2 &&& 31)).toInt8.toInt32))) 46 2 ((I 46 2) + 1))))
def p_X10_put_L3 (a1 : Int32)  : Nat → Int32 → am_I → Prop
  | 0, _, _ => False
  | g + 1, v2, I => (if v2 < 0 then True else (vp_in (I 46 2) 2000 ∧ (p_X10_put_L3 a1 g (v2 + (-8)) (am_w (am_w I 47 (I 46 2).toNatClampNeg (vp_nar .byte ((a1 >>> (v2 &&& 31)).toInt8.toInt32))) 46 2 ((I 46 2) + 1)))))
def s_X10_put (f : Nat) (I : am_I) (a1 : Int32) : am_I := (s_X10_put_L3 a1 f 24 I)
def p_X10_put (f : Nat) (I : am_I) (a1 : Int32) : Prop := (p_X10_put_L3 a1 f 24 I)
set_option maxRecDepth 100000 in
set_option maxHeartbeats 4000000 in
theorem gl_X10_put_L3 (a1 : Int32) (f : Nat) (J : am_J) (Q : am_Q) (hG : Gr Q) : ∀ g : Nat, (∀ (v2 : Int32) (I : am_I), p_X10_put_L3 a1 g v2 I → Gd MX10_put (am_o 0 0 0 (am_FvI J Q (s_X10_put_L3 a1 g v2 I))) 0 0 92 3 [some (.ref 46), some (.int a1), some (.int v2)] [] I J Q) := by
  intro g
  induction g with
  | zero => exact fun _ _ hp => False.elim hp
  | succ g ih =>
    have ih_3 := ih
    intro v2 I hp
    rw [s_X10_put_L3]
    rw [p_X10_put_L3] at hp
    refine gd_iload_n (q := 4) rfl rfl rfl ?_
    refine gx_if_lt (q := 7) (r := 36) rfl rfl rfl hp (fun c_4 hp => ?_) (fun c_4 hp => ?_)
    · exact gd_return rfl rfl (Nat.le_refl 0) (Nat.le_refl 0) rfl
    · refine gd_aload_n (q := 8) rfl rfl rfl ?_
      refine gd_getR (q := 11) (r := 47) rfl rfl rfl (Nat.le_of_ble_eq_true rfl) rfl rfl (gr_46_1 hG) ?_
      refine gd_aload_n (q := 12) rfl rfl rfl ?_
      refine gd_getI (q := 15) rfl rfl rfl (Nat.le_of_ble_eq_true rfl) rfl rfl ?_
      refine gd_iload_n (q := 16) rfl rfl rfl ?_
      refine gd_iload_n (q := 17) rfl rfl rfl ?_
      refine gd_ishr (q := 18) rfl rfl ?_
      refine gd_i2b (q := 19) rfl rfl ?_
      refine gd_bast (q := 20) rfl rfl (Nat.le_of_ble_eq_true rfl) rfl hp.1 ?_
      replace hp := hp.2
      refine gd_aload_n (q := 21) rfl rfl rfl ?_
      refine gd_dup (q := 22) rfl rfl rfl ?_
      refine gd_getI (q := 25) rfl rfl rfl (Nat.le_of_ble_eq_true rfl) rfl rfl ?_
      refine gd_iconst (v := 1) (q := 26) rfl rfl rfl ?_
      refine gd_iadd (q := 27) rfl rfl ?_
      refine gd_putI (q := 30) rfl rfl rfl (Nat.le_of_ble_eq_true rfl) rfl rfl rfl (Or.inl rfl) ?_
      refine gd_iinc (v := (v2 + (-8))) (q := 33) rfl rfl rfl rfl (Nat.le_of_ble_eq_true rfl) rfl ?_
      refine gd_goto (q := 3) rfl rfl ?_
      exact ih_3 _ _ hp
theorem gl_X10_put_3 (a1 : Int32) (f : Nat) (J : am_J) (Q : am_Q) (hG : Gr Q) (g : Nat) : ∀ (v2 : Int32) (I : am_I), p_X10_put_L3 a1 g v2 I → Gd MX10_put (am_o 0 0 0 (am_FvI J Q (s_X10_put_L3 a1 g v2 I))) 0 0 92 3 [some (.ref 46), some (.int a1), some (.int v2)] [] I J Q := (gl_X10_put_L3 a1 f J Q hG g)
set_option maxRecDepth 100000 in
set_option maxHeartbeats 4000000 in
theorem gt_X10_put (f : Nat) (I : am_I) (J : am_J) (Q : am_Q) (hG : Gr Q) (a1 : Int32) (hp : p_X10_put f I a1) : Gd MX10_put (am_o 0 0 0 (am_FvI J Q (s_X10_put f I a1))) 0 0 92 0 [some (.ref 46), some (.int a1), none] [] I J Q := by
  unfold s_X10_put
  unfold p_X10_put at hp
  refine gd_bipush (v := 24) (q := 2) rfl rfl rfl ?_
  refine gd_istore_n (q := 3) rfl rfl (Nat.le_of_ble_eq_true rfl) rfl ?_
  exact gl_X10_put_3 a1 f J Q hG f _ _ hp
theorem ct_X10_put (f : Nat) (I : am_I) (J : am_J) (Q : am_Q) (hG : Gr Q) (a1 : Int32) (hp : p_X10_put f I a1) : Cm MX10_put 0 0 0 92 [.ref 46, .int a1] I J Q (am_FvI J Q (s_X10_put f I a1)) := cm_of (by decide) rfl IX10_put_ok (Nat.le_of_ble_eq_true rfl) (gt_X10_put f I J Q hG a1 hp)
def s_X10_feed (f : Nat) (I : am_I) (a1 : Int32) (a2 : Int32) (a3 : Int32) (a4 : Int32) (a5 : Int32) : Int32 × am_I := (if ((I 46 2) + 20) ≤ 2000 then (((s_X10_put f (s_X10_put f (s_X10_put f (s_X10_put f (s_X10_put f I a1) a2) a3) a4) a5) 46 2), (s_X10_put f (s_X10_put f (s_X10_put f (s_X10_put f (s_X10_put f I a1) a2) a3) a4) a5)) else ((-1), I))
def p_X10_feed (f : Nat) (I : am_I) (a1 : Int32) (a2 : Int32) (a3 : Int32) (a4 : Int32) (a5 : Int32) : Prop := (if ((I 46 2) + 20) ≤ 2000 then ((p_X10_put f I a1) ∧ ((p_X10_put f (s_X10_put f I a1) a2) ∧ ((p_X10_put f (s_X10_put f (s_X10_put f I a1) a2) a3) ∧ ((p_X10_put f (s_X10_put f (s_X10_put f (s_X10_put f I a1) a2) a3) a4) ∧ (p_X10_put f (s_X10_put f (s_X10_put f (s_X10_put f (s_X10_put f I a1) a2) a3) a4) a5))))) else True)
set_option maxRecDepth 100000 in
set_option maxHeartbeats 4000000 in
theorem gt_X10_feed (f : Nat) (I : am_I) (J : am_J) (Q : am_Q) (hG : Gr Q) (a1 : Int32) (a2 : Int32) (a3 : Int32) (a4 : Int32) (a5 : Int32) (hp : p_X10_feed f I a1 a2 a3 a4 a5) : Gd MX10_feed (am_o 1 0 0 (am_FiI J Q (s_X10_feed f I a1 a2 a3 a4 a5))) 0 0 92 0 [some (.ref 46), some (.int a1), some (.int a2), some (.int a3), some (.int a4), some (.int a5)] [] I J Q := by
  unfold s_X10_feed
  unfold p_X10_feed at hp
  refine gd_aload_n (q := 1) rfl rfl rfl ?_
  refine gd_getI (q := 4) rfl rfl rfl (Nat.le_of_ble_eq_true rfl) rfl rfl ?_
  refine gd_bipush (v := 20) (q := 6) rfl rfl rfl ?_
  refine gd_iadd (q := 7) rfl rfl ?_
  refine gd_sipush (v := 2000) (q := 10) rfl rfl rfl ?_
  refine gx_icmp_le (q := 13) (r := 15) rfl rfl rfl hp (fun c_10 hp => ?_) (fun c_10 hp => ?_)
  · refine gd_aload_n (q := 16) rfl rfl rfl ?_
    refine gd_iload_n (q := 17) rfl rfl rfl ?_
    refine gd_cVv (q := 20) rfl rfl lk10_165 myX10_put vxX10_put (ct_X10_put f _ _ _ hG _ hp.1) rfl (Nat.le_of_ble_eq_true rfl) rfl rfl (Nat.le_of_ble_eq_true rfl) rfl (Nat.le_of_ble_eq_true rfl) ⟨(Nat.le_of_ble_eq_true rfl), (Nat.le_of_ble_eq_true rfl)⟩ ?_
    replace hp := hp.2
    refine gd_aload_n (q := 21) rfl rfl rfl ?_
    refine gd_iload_n (q := 22) rfl rfl rfl ?_
    refine gd_cVv (q := 25) rfl rfl lk10_165 myX10_put vxX10_put (ct_X10_put f _ _ _ hG _ hp.1) rfl (Nat.le_of_ble_eq_true rfl) rfl rfl (Nat.le_of_ble_eq_true rfl) rfl (Nat.le_of_ble_eq_true rfl) ⟨(Nat.le_of_ble_eq_true rfl), (Nat.le_of_ble_eq_true rfl)⟩ ?_
    replace hp := hp.2
    refine gd_aload_n (q := 26) rfl rfl rfl ?_
    refine gd_iload_n (q := 27) rfl rfl rfl ?_
    refine gd_cVv (q := 30) rfl rfl lk10_165 myX10_put vxX10_put (ct_X10_put f _ _ _ hG _ hp.1) rfl (Nat.le_of_ble_eq_true rfl) rfl rfl (Nat.le_of_ble_eq_true rfl) rfl (Nat.le_of_ble_eq_true rfl) ⟨(Nat.le_of_ble_eq_true rfl), (Nat.le_of_ble_eq_true rfl)⟩ ?_
    replace hp := hp.2
    refine gd_aload_n (q := 31) rfl rfl rfl ?_
    refine gd_iload (q := 33) rfl rfl rfl ?_
    refine gd_cVv (q := 36) rfl rfl lk10_165 myX10_put vxX10_put (ct_X10_put f _ _ _ hG _ hp.1) rfl (Nat.le_of_ble_eq_true rfl) rfl rfl (Nat.le_of_ble_eq_true rfl) rfl (Nat.le_of_ble_eq_true rfl) ⟨(Nat.le_of_ble_eq_true rfl), (Nat.le_of_ble_eq_true rfl)⟩ ?_
    replace hp := hp.2
    refine gd_aload_n (q := 37) rfl rfl rfl ?_
    refine gd_iload (q := 39) rfl rfl rfl ?_
    refine gd_cVv (q := 42) rfl rfl lk10_165 myX10_put vxX10_put (ct_X10_put f _ _ _ hG _ hp) rfl (Nat.le_of_ble_eq_true rfl) rfl rfl (Nat.le_of_ble_eq_true rfl) rfl (Nat.le_of_ble_eq_true rfl) ⟨(Nat.le_of_ble_eq_true rfl), (Nat.le_of_ble_eq_true rfl)⟩ ?_
    refine gd_aload_n (q := 43) rfl rfl rfl ?_
    refine gd_getI (q := 46) rfl rfl rfl (Nat.le_of_ble_eq_true rfl) rfl rfl ?_
    exact gd_ireturn rfl rfl rfl (Nat.le_refl 0) (Nat.le_refl 0) rfl
  · refine gd_iconst (v := (-1)) (q := 14) rfl rfl rfl ?_
    exact gd_ireturn rfl rfl rfl (Nat.le_refl 0) (Nat.le_refl 0) rfl
theorem ct_X10_feed (f : Nat) (I : am_I) (J : am_J) (Q : am_Q) (hG : Gr Q) (a1 : Int32) (a2 : Int32) (a3 : Int32) (a4 : Int32) (a5 : Int32) (hp : p_X10_feed f I a1 a2 a3 a4 a5) : Cm MX10_feed 1 0 0 92 [.ref 46, .int a1, .int a2, .int a3, .int a4, .int a5] I J Q (am_FiI J Q (s_X10_feed f I a1 a2 a3 a4 a5)) := cm_of (by decide) rfl IX10_feed_ok (Nat.le_of_ble_eq_true rfl) (gt_X10_feed f I J Q hG a1 a2 a3 a4 a5 hp)
def s_X10_back (I : am_I) (a1 : Int32) : Int32 × am_I := (if a1 < 0 then ((-1), I) else (if a1 ≤ (I 46 2) then (((I 46 2) - a1), (am_w I 46 2 ((I 46 2) - a1))) else ((-1), I)))
set_option maxRecDepth 100000 in
set_option maxHeartbeats 4000000 in
theorem gt_X10_back (f : Nat) (I : am_I) (J : am_J) (Q : am_Q) (hG : Gr Q) (a1 : Int32) : Gd MX10_back (am_o 0 0 0 (am_FiI J Q (s_X10_back I a1))) 0 0 92 0 [some (.ref 46), some (.int a1)] [] I J Q := by
  unfold s_X10_back
  refine gd_iload_n (q := 1) rfl rfl rfl ?_
  refine gy_if_lt (q := 4) (r := 12) rfl rfl rfl (fun c_1 => ?_) (fun c_1 => ?_)
  · refine gd_iconst (v := (-1)) (q := 13) rfl rfl rfl ?_
    exact gd_ireturn rfl rfl rfl (Nat.le_refl 0) (Nat.le_refl 0) rfl
  · refine gd_iload_n (q := 5) rfl rfl rfl ?_
    refine gd_aload_n (q := 6) rfl rfl rfl ?_
    refine gd_getI (q := 9) rfl rfl rfl (Nat.le_of_ble_eq_true rfl) rfl rfl ?_
    refine gy_icmp_le (q := 12) (r := 14) rfl rfl rfl (fun c_9 => ?_) (fun c_9 => ?_)
    · refine gd_aload_n (q := 15) rfl rfl rfl ?_
      refine gd_dup (q := 16) rfl rfl rfl ?_
      refine gd_getI (q := 19) rfl rfl rfl (Nat.le_of_ble_eq_true rfl) rfl rfl ?_
      refine gd_iload_n (q := 20) rfl rfl rfl ?_
      refine gd_isub (q := 21) rfl rfl ?_
      refine gd_putI (q := 24) rfl rfl rfl (Nat.le_of_ble_eq_true rfl) rfl rfl rfl (Or.inl rfl) ?_
      refine gd_aload_n (q := 25) rfl rfl rfl ?_
      refine gd_getI (q := 28) rfl rfl rfl (Nat.le_of_ble_eq_true rfl) rfl rfl ?_
      exact gd_ireturn rfl rfl rfl (Nat.le_refl 0) (Nat.le_refl 0) rfl
    · refine gd_iconst (v := (-1)) (q := 13) rfl rfl rfl ?_
      exact gd_ireturn rfl rfl rfl (Nat.le_refl 0) (Nat.le_refl 0) rfl
theorem ct_X10_back (f : Nat) (I : am_I) (J : am_J) (Q : am_Q) (hG : Gr Q) (a1 : Int32) : Cm MX10_back 0 0 0 92 [.ref 46, .int a1] I J Q (am_FiI J Q (s_X10_back I a1)) := cm_of (by decide) rfl IX10_back_ok (Nat.le_of_ble_eq_true rfl) (gt_X10_back f I J Q hG a1)
def s_X10_isPerson (I : am_I) (a1 : Int32) : Int32 := (if a1 < 0 then 0 else (if (I 46 35) ≤ a1 then 0 else 1))
theorem z_X10_isPerson (I : am_I) (a1 : Int32) : (s_X10_isPerson I a1) = 0 ∨ (s_X10_isPerson I a1) = 1 := by
  unfold s_X10_isPerson
  repeat' split
  all_goals first | exact Or.inl rfl | exact Or.inr rfl
set_option maxRecDepth 100000 in
set_option maxHeartbeats 4000000 in
theorem gt_X10_isPerson (f : Nat) (I : am_I) (J : am_J) (Q : am_Q) (hG : Gr Q) (a1 : Int32) : Gd MX10_isPerson (am_o 0 0 0 (am_Fi I J Q (s_X10_isPerson I a1))) 0 0 92 0 [some (.ref 46), some (.int a1)] [] I J Q := by
  unfold s_X10_isPerson
  refine gd_iload_n (q := 1) rfl rfl rfl ?_
  refine gy_if_lt (q := 4) (r := 16) rfl rfl rfl (fun c_1 => ?_) (fun c_1 => ?_)
  · refine gd_iconst (v := 0) (q := 17) rfl rfl rfl ?_
    exact gd_ireturn rfl rfl rfl (Nat.le_refl 0) (Nat.le_refl 0) rfl
  · refine gd_iload_n (q := 5) rfl rfl rfl ?_
    refine gd_aload_n (q := 6) rfl rfl rfl ?_
    refine gd_getI (q := 9) rfl rfl rfl (Nat.le_of_ble_eq_true rfl) rfl rfl ?_
    refine gy_icmp_ge (q := 12) (r := 16) rfl rfl rfl (fun c_9 => ?_) (fun c_9 => ?_)
    · refine gd_iconst (v := 0) (q := 17) rfl rfl rfl ?_
      exact gd_ireturn rfl rfl rfl (Nat.le_refl 0) (Nat.le_refl 0) rfl
    · refine gd_iconst (v := 1) (q := 13) rfl rfl rfl ?_
      refine gd_goto (q := 17) rfl rfl ?_
      exact gd_ireturn rfl rfl rfl (Nat.le_refl 0) (Nat.le_refl 0) rfl
theorem ct_X10_isPerson (f : Nat) (I : am_I) (J : am_J) (Q : am_Q) (hG : Gr Q) (a1 : Int32) : Cm MX10_isPerson 0 0 0 92 [.ref 46, .int a1] I J Q (am_Fi I J Q (s_X10_isPerson I a1)) := cm_of (by decide) rfl IX10_isPerson_ok (Nat.le_of_ble_eq_true rfl) (gt_X10_isPerson f I J Q hG a1)
def s_X10_at (I : am_I) (a1 : Int32) : Int32 := (if (I 46 4) ≤ a1 then 0 else ((I 48 a1.toNatClampNeg) &&& 255))
def p_X10_at (I : am_I) (a1 : Int32) : Prop := (if (I 46 4) ≤ a1 then True else vp_in a1 2000)
set_option maxRecDepth 100000 in
set_option maxHeartbeats 4000000 in
theorem gt_X10_at (f : Nat) (I : am_I) (J : am_J) (Q : am_Q) (hG : Gr Q) (a1 : Int32) (hp : p_X10_at I a1) : Gd MX10_at (am_o 0 0 0 (am_Fi I J Q (s_X10_at I a1))) 0 0 92 0 [some (.ref 46), some (.int a1)] [] I J Q := by
  unfold s_X10_at
  unfold p_X10_at at hp
  refine gd_iload_n (q := 1) rfl rfl rfl ?_
  refine gd_aload_n (q := 2) rfl rfl rfl ?_
  refine gd_getI (q := 5) rfl rfl rfl (Nat.le_of_ble_eq_true rfl) rfl rfl ?_
  refine gx_icmp_ge (q := 8) (r := 21) rfl rfl rfl hp (fun c_5 hp => ?_) (fun c_5 hp => ?_)
  · refine gd_iconst (v := 0) (q := 22) rfl rfl rfl ?_
    exact gd_ireturn rfl rfl rfl (Nat.le_refl 0) (Nat.le_refl 0) rfl
  · refine gd_aload_n (q := 9) rfl rfl rfl ?_
    refine gd_getR (q := 12) (r := 48) rfl rfl rfl (Nat.le_of_ble_eq_true rfl) rfl rfl (gr_46_3 hG) ?_
    refine gd_iload_n (q := 13) rfl rfl rfl ?_
    refine gd_bald (q := 14) rfl rfl (Nat.le_of_ble_eq_true rfl) rfl hp ?_
    refine gd_sipush (v := 255) (q := 17) rfl rfl rfl ?_
    refine gd_iand (q := 18) rfl rfl ?_
    refine gd_goto (q := 22) rfl rfl ?_
    exact gd_ireturn rfl rfl rfl (Nat.le_refl 0) (Nat.le_refl 0) rfl
theorem ct_X10_at (f : Nat) (I : am_I) (J : am_J) (Q : am_Q) (hG : Gr Q) (a1 : Int32) (hp : p_X10_at I a1) : Cm MX10_at 0 0 0 92 [.ref 46, .int a1] I J Q (am_Fi I J Q (s_X10_at I a1)) := cm_of (by decide) rfl IX10_at_ok (Nat.le_of_ble_eq_true rfl) (gt_X10_at f I J Q hG a1 hp)
def s_X10_isLetter  (a0 : Int32) : Int32 := (if a0 < 97 then 0 else (if 122 < a0 then 0 else 1))
theorem z_X10_isLetter  (a0 : Int32) : (s_X10_isLetter a0) = 0 ∨ (s_X10_isLetter a0) = 1 := by
  unfold s_X10_isLetter
  repeat' split
  all_goals first | exact Or.inl rfl | exact Or.inr rfl
set_option maxRecDepth 100000 in
set_option maxHeartbeats 4000000 in
theorem gt_X10_isLetter (f : Nat) (I : am_I) (J : am_J) (Q : am_Q) (hG : Gr Q) (a0 : Int32) : Gd MX10_isLetter (am_o 0 0 0 (am_Fi I J Q (s_X10_isLetter a0))) 0 0 92 0 [some (.int a0)] [] I J Q := by
  unfold s_X10_isLetter
  refine gd_iload_n (q := 1) rfl rfl rfl ?_
  refine gd_bipush (v := 97) (q := 3) rfl rfl rfl ?_
  refine gy_icmp_lt (q := 6) (r := 16) rfl rfl rfl (fun c_3 => ?_) (fun c_3 => ?_)
  · refine gd_iconst (v := 0) (q := 17) rfl rfl rfl ?_
    exact gd_ireturn rfl rfl rfl (Nat.le_refl 0) (Nat.le_refl 0) rfl
  · refine gd_iload_n (q := 7) rfl rfl rfl ?_
    refine gd_bipush (v := 122) (q := 9) rfl rfl rfl ?_
    refine gy_icmp_gt (q := 12) (r := 16) rfl rfl rfl (fun c_9 => ?_) (fun c_9 => ?_)
    · refine gd_iconst (v := 0) (q := 17) rfl rfl rfl ?_
      exact gd_ireturn rfl rfl rfl (Nat.le_refl 0) (Nat.le_refl 0) rfl
    · refine gd_iconst (v := 1) (q := 13) rfl rfl rfl ?_
      refine gd_goto (q := 17) rfl rfl ?_
      exact gd_ireturn rfl rfl rfl (Nat.le_refl 0) (Nat.le_refl 0) rfl
theorem ct_X10_isLetter (f : Nat) (I : am_I) (J : am_J) (Q : am_Q) (hG : Gr Q) (a0 : Int32) : Cm MX10_isLetter 0 0 0 92 [.int a0] I J Q (am_Fi I J Q (s_X10_isLetter a0)) := cm_of (by decide) rfl IX10_isLetter_ok (Nat.le_of_ble_eq_true rfl) (gt_X10_isLetter f I J Q hG a0)
def s_X10_isDigit  (a0 : Int32) : Int32 := (if a0 < 48 then 0 else (if 57 < a0 then 0 else 1))
theorem z_X10_isDigit  (a0 : Int32) : (s_X10_isDigit a0) = 0 ∨ (s_X10_isDigit a0) = 1 := by
  unfold s_X10_isDigit
  repeat' split
  all_goals first | exact Or.inl rfl | exact Or.inr rfl
set_option maxRecDepth 100000 in
set_option maxHeartbeats 4000000 in
theorem gt_X10_isDigit (f : Nat) (I : am_I) (J : am_J) (Q : am_Q) (hG : Gr Q) (a0 : Int32) : Gd MX10_isDigit (am_o 0 0 0 (am_Fi I J Q (s_X10_isDigit a0))) 0 0 92 0 [some (.int a0)] [] I J Q := by
  unfold s_X10_isDigit
  refine gd_iload_n (q := 1) rfl rfl rfl ?_
  refine gd_bipush (v := 48) (q := 3) rfl rfl rfl ?_
  refine gy_icmp_lt (q := 6) (r := 16) rfl rfl rfl (fun c_3 => ?_) (fun c_3 => ?_)
  · refine gd_iconst (v := 0) (q := 17) rfl rfl rfl ?_
    exact gd_ireturn rfl rfl rfl (Nat.le_refl 0) (Nat.le_refl 0) rfl
  · refine gd_iload_n (q := 7) rfl rfl rfl ?_
    refine gd_bipush (v := 57) (q := 9) rfl rfl rfl ?_
    refine gy_icmp_gt (q := 12) (r := 16) rfl rfl rfl (fun c_9 => ?_) (fun c_9 => ?_)
    · refine gd_iconst (v := 0) (q := 17) rfl rfl rfl ?_
      exact gd_ireturn rfl rfl rfl (Nat.le_refl 0) (Nat.le_refl 0) rfl
    · refine gd_iconst (v := 1) (q := 13) rfl rfl rfl ?_
      refine gd_goto (q := 17) rfl rfl ?_
      exact gd_ireturn rfl rfl rfl (Nat.le_refl 0) (Nat.le_refl 0) rfl
theorem ct_X10_isDigit (f : Nat) (I : am_I) (J : am_J) (Q : am_Q) (hG : Gr Q) (a0 : Int32) : Cm MX10_isDigit 0 0 0 92 [.int a0] I J Q (am_Fi I J Q (s_X10_isDigit a0)) := cm_of (by decide) rfl IX10_isDigit_ok (Nat.le_of_ble_eq_true rfl) (gt_X10_isDigit f I J Q hG a0)
def s_X10_token (I : am_I) (J : am_J) (a1 : Int32) (a2 : Int32) (a3 : Int32) (a4 : Int64) : am_I × am_J := ((am_w (am_w (am_w (am_w I 49 (I 46 10).toNatClampNeg a1) 50 (I 46 10).toNatClampNeg a2) 51 (I 46 10).toNatClampNeg a3) 46 10 ((I 46 10) + 1)), (am_w J 52 (I 46 10).toNatClampNeg a4))
def p_X10_token (I : am_I) (a1 : Int32) (a2 : Int32) (a3 : Int32) (a4 : Int64) : Prop := (vp_in (I 46 10) 403 ∧ (vp_in (I 46 10) 403 ∧ (vp_in (I 46 10) 403 ∧ vp_in (I 46 10) 403)))
set_option maxRecDepth 100000 in
set_option maxHeartbeats 4000000 in
theorem gt_X10_token (f : Nat) (I : am_I) (J : am_J) (Q : am_Q) (hG : Gr Q) (a1 : Int32) (a2 : Int32) (a3 : Int32) (a4 : Int64) (hp : p_X10_token I a1 a2 a3 a4) : Gd MX10_token (am_o 0 0 0 (am_FvIJ Q (s_X10_token I J a1 a2 a3 a4))) 0 0 92 0 [some (.ref 46), some (.int a1), some (.int a2), some (.int a3), some (.long a4), none] [] I J Q := by
  unfold s_X10_token
  unfold p_X10_token at hp
  refine gd_aload_n (q := 1) rfl rfl rfl ?_
  refine gd_getR (q := 4) (r := 49) rfl rfl rfl (Nat.le_of_ble_eq_true rfl) rfl rfl (gr_46_5 hG) ?_
  refine gd_aload_n (q := 5) rfl rfl rfl ?_
  refine gd_getI (q := 8) rfl rfl rfl (Nat.le_of_ble_eq_true rfl) rfl rfl ?_
  refine gd_iload_n (q := 9) rfl rfl rfl ?_
  refine gd_iast (q := 10) rfl rfl (Nat.le_of_ble_eq_true rfl) rfl hp.1 ?_
  replace hp := hp.2
  refine gd_aload_n (q := 11) rfl rfl rfl ?_
  refine gd_getR (q := 14) (r := 50) rfl rfl rfl (Nat.le_of_ble_eq_true rfl) rfl rfl (gr_46_6 hG) ?_
  refine gd_aload_n (q := 15) rfl rfl rfl ?_
  refine gd_getI (q := 18) rfl rfl rfl (Nat.le_of_ble_eq_true rfl) rfl rfl ?_
  refine gd_iload_n (q := 19) rfl rfl rfl ?_
  refine gd_iast (q := 20) rfl rfl (Nat.le_of_ble_eq_true rfl) rfl hp.1 ?_
  replace hp := hp.2
  refine gd_aload_n (q := 21) rfl rfl rfl ?_
  refine gd_getR (q := 24) (r := 51) rfl rfl rfl (Nat.le_of_ble_eq_true rfl) rfl rfl (gr_46_7 hG) ?_
  refine gd_aload_n (q := 25) rfl rfl rfl ?_
  refine gd_getI (q := 28) rfl rfl rfl (Nat.le_of_ble_eq_true rfl) rfl rfl ?_
  refine gd_iload_n (q := 29) rfl rfl rfl ?_
  refine gd_iast (q := 30) rfl rfl (Nat.le_of_ble_eq_true rfl) rfl hp.1 ?_
  replace hp := hp.2
  refine gd_aload_n (q := 31) rfl rfl rfl ?_
  refine gd_getR (q := 34) (r := 52) rfl rfl rfl (Nat.le_of_ble_eq_true rfl) rfl rfl (gr_46_8 hG) ?_
  refine gd_aload_n (q := 35) rfl rfl rfl ?_
  refine gd_getI (q := 38) rfl rfl rfl (Nat.le_of_ble_eq_true rfl) rfl rfl ?_
  refine gd_lload (q := 40) rfl rfl rfl ?_
  refine gd_last (q := 41) rfl rfl (Nat.le_of_ble_eq_true rfl) rfl hp ?_
  refine gd_aload_n (q := 42) rfl rfl rfl ?_
  refine gd_dup (q := 43) rfl rfl rfl ?_
  refine gd_getI (q := 46) rfl rfl rfl (Nat.le_of_ble_eq_true rfl) rfl rfl ?_
  refine gd_iconst (v := 1) (q := 47) rfl rfl rfl ?_
  refine gd_iadd (q := 48) rfl rfl ?_
  refine gd_putI (q := 51) rfl rfl rfl (Nat.le_of_ble_eq_true rfl) rfl rfl rfl (Or.inl rfl) ?_
  exact gd_return rfl rfl (Nat.le_refl 0) (Nat.le_refl 0) rfl
theorem ct_X10_token (f : Nat) (I : am_I) (J : am_J) (Q : am_Q) (hG : Gr Q) (a1 : Int32) (a2 : Int32) (a3 : Int32) (a4 : Int64) (hp : p_X10_token I a1 a2 a3 a4) : Cm MX10_token 0 0 0 92 [.ref 46, .int a1, .int a2, .int a3, .long a4] I J Q (am_FvIJ Q (s_X10_token I J a1 a2 a3 a4)) := cm_of (by decide) rfl IX10_token_ok (Nat.le_of_ble_eq_true rfl) (gt_X10_token f I J Q hG a1 a2 a3 a4 hp)
def s_X10_sign_J44 (a1 : Int32) (a2 : Int32) (a3 : Int32)  (t0 : Int32) (I : am_I) (J : am_J) : Int32 × am_I × am_J := (if t0 ≤ 0 then (if a2 = 59 then (if t0 ≤ 0 then (1, ((s_X10_token I J 4 a1 0 0).1), ((s_X10_token I J 4 a1 0 0).2)) else (2, ((s_X10_token I J 4 a1 0 0).1), ((s_X10_token I J 4 a1 0 0).2))) else (if a2 = 40 then (if t0 ≤ 0 then (1, ((s_X10_token I J 6 a1 0 0).1), ((s_X10_token I J 6 a1 0 0).2)) else (2, ((s_X10_token I J 6 a1 0 0).1), ((s_X10_token I J 6 a1 0 0).2))) else (if a2 = 41 then (if t0 ≤ 0 then (1, ((s_X10_token I J 7 a1 0 0).1), ((s_X10_token I J 7 a1 0 0).2)) else (2, ((s_X10_token I J 7 a1 0 0).1), ((s_X10_token I J 7 a1 0 0).2))) else (if a2 = 43 then (if t0 ≤ 0 then (1, ((s_X10_token I J 8 a1 0 0).1), ((s_X10_token I J 8 a1 0 0).2)) else (2, ((s_X10_token I J 8 a1 0 0).1), ((s_X10_token I J 8 a1 0 0).2))) else (if a2 = 45 then (if t0 ≤ 0 then (1, ((s_X10_token I J 9 a1 0 0).1), ((s_X10_token I J 9 a1 0 0).2)) else (2, ((s_X10_token I J 9 a1 0 0).1), ((s_X10_token I J 9 a1 0 0).2))) else (if a2 = 42 then (if t0 ≤ 0 then (1, ((s_X10_token I J 10 a1 0 0).1), ((s_X10_token I J 10 a1 0 0).2)) else (2, ((s_X10_token I J 10 a1 0 0).1), ((s_X10_token I J 10 a1 0 0).2))) else (if a2 = 60 then (if t0 ≤ 0 then (1, ((s_X10_token I J 13 a1 0 0).1), ((s_X10_token I J 13 a1 0 0).2)) else (2, ((s_X10_token I J 13 a1 0 0).1), ((s_X10_token I J 13 a1 0 0).2))) else (if t0 ≤ 0 then (1, ((s_X10_token I J 3 a1 0 0).1), ((s_X10_token I J 3 a1 0 0).2)) else (2, ((s_X10_token I J 3 a1 0 0).1), ((s_X10_token I J 3 a1 0 0).2)))))))))) else (if t0 ≤ 0 then (1, ((s_X10_token I J t0 a1 0 0).1), ((s_X10_token I J t0 a1 0 0).2)) else (2, ((s_X10_token I J t0 a1 0 0).1), ((s_X10_token I J t0 a1 0 0).2))))
def p_X10_sign_J44 (a1 : Int32) (a2 : Int32) (a3 : Int32)  (t0 : Int32) (I : am_I) (J : am_J) : Prop := (if t0 ≤ 0 then (if a2 = 59 then (p_X10_token I 4 a1 0 0) else (if a2 = 40 then (p_X10_token I 6 a1 0 0) else (if a2 = 41 then (p_X10_token I 7 a1 0 0) else (if a2 = 43 then (p_X10_token I 8 a1 0 0) else (if a2 = 45 then (p_X10_token I 9 a1 0 0) else (if a2 = 42 then (p_X10_token I 10 a1 0 0) else (if a2 = 60 then (p_X10_token I 13 a1 0 0) else (p_X10_token I 3 a1 0 0)))))))) else (p_X10_token I t0 a1 0 0))
def s_X10_sign (I : am_I) (J : am_J) (a1 : Int32) (a2 : Int32) (a3 : Int32) : Int32 × am_I × am_J := (if a3 = 61 then (if a2 = 61 then (s_X10_sign_J44 a1 a2 a3 11 I J) else (if a2 = 33 then (s_X10_sign_J44 a1 a2 a3 12 I J) else (if a2 = 60 then (s_X10_sign_J44 a1 a2 a3 14 I J) else (s_X10_sign_J44 a1 a2 a3 0 I J)))) else (s_X10_sign_J44 a1 a2 a3 0 I J))
def p_X10_sign (I : am_I) (J : am_J) (a1 : Int32) (a2 : Int32) (a3 : Int32) : Prop := (if a3 = 61 then (if a2 = 61 then (p_X10_sign_J44 a1 a2 a3 11 I J) else (if a2 = 33 then (p_X10_sign_J44 a1 a2 a3 12 I J) else (if a2 = 60 then (p_X10_sign_J44 a1 a2 a3 14 I J) else (p_X10_sign_J44 a1 a2 a3 0 I J)))) else (p_X10_sign_J44 a1 a2 a3 0 I J))
set_option maxRecDepth 100000 in
set_option maxHeartbeats 4000000 in
theorem gl_X10_sign_44 (a1 : Int32) (a2 : Int32) (a3 : Int32) (f : Nat) (Q : am_Q) (hG : Gr Q) (t0 : Int32) (I : am_I) (J : am_J) : p_X10_sign_J44 a1 a2 a3 t0 I J → Gd MX10_sign (am_o 1 0 0 (am_FiIJ Q (s_X10_sign_J44 a1 a2 a3 t0 I J))) 0 0 92 44 [some (.ref 46), some (.int a1), some (.int a2), none, none, none] [.int t0] I J Q := by
  intro hp
  unfold s_X10_sign_J44
  unfold p_X10_sign_J44 at hp
  refine gd_istore (q := 46) rfl rfl (Nat.le_of_ble_eq_true rfl) rfl ?_
  refine gd_iconst (v := 3) (q := 47) rfl rfl rfl ?_
  refine gd_istore (q := 49) rfl rfl (Nat.le_of_ble_eq_true rfl) rfl ?_
  refine gd_iload (q := 51) rfl rfl rfl ?_
  refine gx_if_le (q := 54) (r := 61) rfl rfl rfl hp (fun c_51 hp => ?_) (fun c_51 hp => ?_)
  · refine gd_iload_n (q := 62) rfl rfl rfl ?_
    refine gd_bipush (v := 59) (q := 64) rfl rfl rfl ?_
    refine gx_icmp_ne (q := 67) (r := 73) rfl rfl rfl hp (fun c_64 hp => ?_) (fun c_64 hp => ?_)
    · refine gd_iconst (v := 4) (q := 68) rfl rfl rfl ?_
      refine gd_istore (q := 70) rfl rfl (Nat.le_of_ble_eq_true rfl) rfl ?_
      refine gd_goto (q := 148) rfl rfl ?_
      refine gd_aload_n (q := 149) rfl rfl rfl ?_
      refine gd_iload (q := 151) rfl rfl rfl ?_
      refine gd_iload_n (q := 152) rfl rfl rfl ?_
      refine gd_iconst (v := 0) (q := 153) rfl rfl rfl ?_
      refine gd_lconst (v := 0) (q := 154) rfl rfl rfl ?_
      refine gd_cVv (q := 157) rfl rfl lk10_185 myX10_token vxX10_token (ct_X10_token f _ _ _ hG _ _ _ _ hp) rfl (Nat.le_of_ble_eq_true rfl) rfl rfl (Nat.le_of_ble_eq_true rfl) rfl (Nat.le_of_ble_eq_true rfl) ⟨(Nat.le_of_ble_eq_true rfl), (Nat.le_of_ble_eq_true rfl)⟩ ?_
      refine gd_iload (q := 159) rfl rfl rfl ?_
      refine gy_if_le (q := 162) (r := 166) rfl rfl rfl (fun c_159 => ?_) (fun c_159 => ?_)
      · refine gd_iconst (v := 1) (q := 167) rfl rfl rfl ?_
        exact gd_ireturn rfl rfl rfl (Nat.le_refl 0) (Nat.le_refl 0) rfl
      · refine gd_iconst (v := 2) (q := 163) rfl rfl rfl ?_
        refine gd_goto (q := 167) rfl rfl ?_
        exact gd_ireturn rfl rfl rfl (Nat.le_refl 0) (Nat.le_refl 0) rfl
    · refine gd_iload_n (q := 74) rfl rfl rfl ?_
      refine gd_bipush (v := 40) (q := 76) rfl rfl rfl ?_
      refine gx_icmp_ne (q := 79) (r := 86) rfl rfl rfl hp (fun c_76 hp => ?_) (fun c_76 hp => ?_)
      · refine gd_bipush (v := 6) (q := 81) rfl rfl rfl ?_
        refine gd_istore (q := 83) rfl rfl (Nat.le_of_ble_eq_true rfl) rfl ?_
        refine gd_goto (q := 148) rfl rfl ?_
        refine gd_aload_n (q := 149) rfl rfl rfl ?_
        refine gd_iload (q := 151) rfl rfl rfl ?_
        refine gd_iload_n (q := 152) rfl rfl rfl ?_
        refine gd_iconst (v := 0) (q := 153) rfl rfl rfl ?_
        refine gd_lconst (v := 0) (q := 154) rfl rfl rfl ?_
        refine gd_cVv (q := 157) rfl rfl lk10_185 myX10_token vxX10_token (ct_X10_token f _ _ _ hG _ _ _ _ hp) rfl (Nat.le_of_ble_eq_true rfl) rfl rfl (Nat.le_of_ble_eq_true rfl) rfl (Nat.le_of_ble_eq_true rfl) ⟨(Nat.le_of_ble_eq_true rfl), (Nat.le_of_ble_eq_true rfl)⟩ ?_
        refine gd_iload (q := 159) rfl rfl rfl ?_
        refine gy_if_le (q := 162) (r := 166) rfl rfl rfl (fun c_159 => ?_) (fun c_159 => ?_)
        · refine gd_iconst (v := 1) (q := 167) rfl rfl rfl ?_
          exact gd_ireturn rfl rfl rfl (Nat.le_refl 0) (Nat.le_refl 0) rfl
        · refine gd_iconst (v := 2) (q := 163) rfl rfl rfl ?_
          refine gd_goto (q := 167) rfl rfl ?_
          exact gd_ireturn rfl rfl rfl (Nat.le_refl 0) (Nat.le_refl 0) rfl
      · refine gd_iload_n (q := 87) rfl rfl rfl ?_
        refine gd_bipush (v := 41) (q := 89) rfl rfl rfl ?_
        refine gx_icmp_ne (q := 92) (r := 99) rfl rfl rfl hp (fun c_89 hp => ?_) (fun c_89 hp => ?_)
        · refine gd_bipush (v := 7) (q := 94) rfl rfl rfl ?_
          refine gd_istore (q := 96) rfl rfl (Nat.le_of_ble_eq_true rfl) rfl ?_
          refine gd_goto (q := 148) rfl rfl ?_
          refine gd_aload_n (q := 149) rfl rfl rfl ?_
          refine gd_iload (q := 151) rfl rfl rfl ?_
          refine gd_iload_n (q := 152) rfl rfl rfl ?_
          refine gd_iconst (v := 0) (q := 153) rfl rfl rfl ?_
          refine gd_lconst (v := 0) (q := 154) rfl rfl rfl ?_
          refine gd_cVv (q := 157) rfl rfl lk10_185 myX10_token vxX10_token (ct_X10_token f _ _ _ hG _ _ _ _ hp) rfl (Nat.le_of_ble_eq_true rfl) rfl rfl (Nat.le_of_ble_eq_true rfl) rfl (Nat.le_of_ble_eq_true rfl) ⟨(Nat.le_of_ble_eq_true rfl), (Nat.le_of_ble_eq_true rfl)⟩ ?_
          refine gd_iload (q := 159) rfl rfl rfl ?_
          refine gy_if_le (q := 162) (r := 166) rfl rfl rfl (fun c_159 => ?_) (fun c_159 => ?_)
          · refine gd_iconst (v := 1) (q := 167) rfl rfl rfl ?_
            exact gd_ireturn rfl rfl rfl (Nat.le_refl 0) (Nat.le_refl 0) rfl
          · refine gd_iconst (v := 2) (q := 163) rfl rfl rfl ?_
            refine gd_goto (q := 167) rfl rfl ?_
            exact gd_ireturn rfl rfl rfl (Nat.le_refl 0) (Nat.le_refl 0) rfl
        · refine gd_iload_n (q := 100) rfl rfl rfl ?_
          refine gd_bipush (v := 43) (q := 102) rfl rfl rfl ?_
          refine gx_icmp_ne (q := 105) (r := 112) rfl rfl rfl hp (fun c_102 hp => ?_) (fun c_102 hp => ?_)
          · refine gd_bipush (v := 8) (q := 107) rfl rfl rfl ?_
            refine gd_istore (q := 109) rfl rfl (Nat.le_of_ble_eq_true rfl) rfl ?_
            refine gd_goto (q := 148) rfl rfl ?_
            refine gd_aload_n (q := 149) rfl rfl rfl ?_
            refine gd_iload (q := 151) rfl rfl rfl ?_
            refine gd_iload_n (q := 152) rfl rfl rfl ?_
            refine gd_iconst (v := 0) (q := 153) rfl rfl rfl ?_
            refine gd_lconst (v := 0) (q := 154) rfl rfl rfl ?_
            refine gd_cVv (q := 157) rfl rfl lk10_185 myX10_token vxX10_token (ct_X10_token f _ _ _ hG _ _ _ _ hp) rfl (Nat.le_of_ble_eq_true rfl) rfl rfl (Nat.le_of_ble_eq_true rfl) rfl (Nat.le_of_ble_eq_true rfl) ⟨(Nat.le_of_ble_eq_true rfl), (Nat.le_of_ble_eq_true rfl)⟩ ?_
            refine gd_iload (q := 159) rfl rfl rfl ?_
            refine gy_if_le (q := 162) (r := 166) rfl rfl rfl (fun c_159 => ?_) (fun c_159 => ?_)
            · refine gd_iconst (v := 1) (q := 167) rfl rfl rfl ?_
              exact gd_ireturn rfl rfl rfl (Nat.le_refl 0) (Nat.le_refl 0) rfl
            · refine gd_iconst (v := 2) (q := 163) rfl rfl rfl ?_
              refine gd_goto (q := 167) rfl rfl ?_
              exact gd_ireturn rfl rfl rfl (Nat.le_refl 0) (Nat.le_refl 0) rfl
          · refine gd_iload_n (q := 113) rfl rfl rfl ?_
            refine gd_bipush (v := 45) (q := 115) rfl rfl rfl ?_
            refine gx_icmp_ne (q := 118) (r := 125) rfl rfl rfl hp (fun c_115 hp => ?_) (fun c_115 hp => ?_)
            · refine gd_bipush (v := 9) (q := 120) rfl rfl rfl ?_
              refine gd_istore (q := 122) rfl rfl (Nat.le_of_ble_eq_true rfl) rfl ?_
              refine gd_goto (q := 148) rfl rfl ?_
              refine gd_aload_n (q := 149) rfl rfl rfl ?_
              refine gd_iload (q := 151) rfl rfl rfl ?_
              refine gd_iload_n (q := 152) rfl rfl rfl ?_
              refine gd_iconst (v := 0) (q := 153) rfl rfl rfl ?_
              refine gd_lconst (v := 0) (q := 154) rfl rfl rfl ?_
              refine gd_cVv (q := 157) rfl rfl lk10_185 myX10_token vxX10_token (ct_X10_token f _ _ _ hG _ _ _ _ hp) rfl (Nat.le_of_ble_eq_true rfl) rfl rfl (Nat.le_of_ble_eq_true rfl) rfl (Nat.le_of_ble_eq_true rfl) ⟨(Nat.le_of_ble_eq_true rfl), (Nat.le_of_ble_eq_true rfl)⟩ ?_
              refine gd_iload (q := 159) rfl rfl rfl ?_
              refine gy_if_le (q := 162) (r := 166) rfl rfl rfl (fun c_159 => ?_) (fun c_159 => ?_)
              · refine gd_iconst (v := 1) (q := 167) rfl rfl rfl ?_
                exact gd_ireturn rfl rfl rfl (Nat.le_refl 0) (Nat.le_refl 0) rfl
              · refine gd_iconst (v := 2) (q := 163) rfl rfl rfl ?_
                refine gd_goto (q := 167) rfl rfl ?_
                exact gd_ireturn rfl rfl rfl (Nat.le_refl 0) (Nat.le_refl 0) rfl
            · refine gd_iload_n (q := 126) rfl rfl rfl ?_
              refine gd_bipush (v := 42) (q := 128) rfl rfl rfl ?_
              refine gx_icmp_ne (q := 131) (r := 138) rfl rfl rfl hp (fun c_128 hp => ?_) (fun c_128 hp => ?_)
              · refine gd_bipush (v := 10) (q := 133) rfl rfl rfl ?_
                refine gd_istore (q := 135) rfl rfl (Nat.le_of_ble_eq_true rfl) rfl ?_
                refine gd_goto (q := 148) rfl rfl ?_
                refine gd_aload_n (q := 149) rfl rfl rfl ?_
                refine gd_iload (q := 151) rfl rfl rfl ?_
                refine gd_iload_n (q := 152) rfl rfl rfl ?_
                refine gd_iconst (v := 0) (q := 153) rfl rfl rfl ?_
                refine gd_lconst (v := 0) (q := 154) rfl rfl rfl ?_
                refine gd_cVv (q := 157) rfl rfl lk10_185 myX10_token vxX10_token (ct_X10_token f _ _ _ hG _ _ _ _ hp) rfl (Nat.le_of_ble_eq_true rfl) rfl rfl (Nat.le_of_ble_eq_true rfl) rfl (Nat.le_of_ble_eq_true rfl) ⟨(Nat.le_of_ble_eq_true rfl), (Nat.le_of_ble_eq_true rfl)⟩ ?_
                refine gd_iload (q := 159) rfl rfl rfl ?_
                refine gy_if_le (q := 162) (r := 166) rfl rfl rfl (fun c_159 => ?_) (fun c_159 => ?_)
                · refine gd_iconst (v := 1) (q := 167) rfl rfl rfl ?_
                  exact gd_ireturn rfl rfl rfl (Nat.le_refl 0) (Nat.le_refl 0) rfl
                · refine gd_iconst (v := 2) (q := 163) rfl rfl rfl ?_
                  refine gd_goto (q := 167) rfl rfl ?_
                  exact gd_ireturn rfl rfl rfl (Nat.le_refl 0) (Nat.le_refl 0) rfl
              · refine gd_iload_n (q := 139) rfl rfl rfl ?_
                refine gd_bipush (v := 60) (q := 141) rfl rfl rfl ?_
                refine gx_icmp_ne (q := 144) (r := 148) rfl rfl rfl hp (fun c_141 hp => ?_) (fun c_141 hp => ?_)
                · refine gd_bipush (v := 13) (q := 146) rfl rfl rfl ?_
                  refine gd_istore (q := 148) rfl rfl (Nat.le_of_ble_eq_true rfl) rfl ?_
                  refine gd_aload_n (q := 149) rfl rfl rfl ?_
                  refine gd_iload (q := 151) rfl rfl rfl ?_
                  refine gd_iload_n (q := 152) rfl rfl rfl ?_
                  refine gd_iconst (v := 0) (q := 153) rfl rfl rfl ?_
                  refine gd_lconst (v := 0) (q := 154) rfl rfl rfl ?_
                  refine gd_cVv (q := 157) rfl rfl lk10_185 myX10_token vxX10_token (ct_X10_token f _ _ _ hG _ _ _ _ hp) rfl (Nat.le_of_ble_eq_true rfl) rfl rfl (Nat.le_of_ble_eq_true rfl) rfl (Nat.le_of_ble_eq_true rfl) ⟨(Nat.le_of_ble_eq_true rfl), (Nat.le_of_ble_eq_true rfl)⟩ ?_
                  refine gd_iload (q := 159) rfl rfl rfl ?_
                  refine gy_if_le (q := 162) (r := 166) rfl rfl rfl (fun c_159 => ?_) (fun c_159 => ?_)
                  · refine gd_iconst (v := 1) (q := 167) rfl rfl rfl ?_
                    exact gd_ireturn rfl rfl rfl (Nat.le_refl 0) (Nat.le_refl 0) rfl
                  · refine gd_iconst (v := 2) (q := 163) rfl rfl rfl ?_
                    refine gd_goto (q := 167) rfl rfl ?_
                    exact gd_ireturn rfl rfl rfl (Nat.le_refl 0) (Nat.le_refl 0) rfl
                · refine gd_aload_n (q := 149) rfl rfl rfl ?_
                  refine gd_iload (q := 151) rfl rfl rfl ?_
                  refine gd_iload_n (q := 152) rfl rfl rfl ?_
                  refine gd_iconst (v := 0) (q := 153) rfl rfl rfl ?_
                  refine gd_lconst (v := 0) (q := 154) rfl rfl rfl ?_
                  refine gd_cVv (q := 157) rfl rfl lk10_185 myX10_token vxX10_token (ct_X10_token f _ _ _ hG _ _ _ _ hp) rfl (Nat.le_of_ble_eq_true rfl) rfl rfl (Nat.le_of_ble_eq_true rfl) rfl (Nat.le_of_ble_eq_true rfl) ⟨(Nat.le_of_ble_eq_true rfl), (Nat.le_of_ble_eq_true rfl)⟩ ?_
                  refine gd_iload (q := 159) rfl rfl rfl ?_
                  refine gy_if_le (q := 162) (r := 166) rfl rfl rfl (fun c_159 => ?_) (fun c_159 => ?_)
                  · refine gd_iconst (v := 1) (q := 167) rfl rfl rfl ?_
                    exact gd_ireturn rfl rfl rfl (Nat.le_refl 0) (Nat.le_refl 0) rfl
                  · refine gd_iconst (v := 2) (q := 163) rfl rfl rfl ?_
                    refine gd_goto (q := 167) rfl rfl ?_
                    exact gd_ireturn rfl rfl rfl (Nat.le_refl 0) (Nat.le_refl 0) rfl
  · refine gd_iload (q := 56) rfl rfl rfl ?_
    refine gd_istore (q := 58) rfl rfl (Nat.le_of_ble_eq_true rfl) rfl ?_
    refine gd_goto (q := 148) rfl rfl ?_
    refine gd_aload_n (q := 149) rfl rfl rfl ?_
    refine gd_iload (q := 151) rfl rfl rfl ?_
    refine gd_iload_n (q := 152) rfl rfl rfl ?_
    refine gd_iconst (v := 0) (q := 153) rfl rfl rfl ?_
    refine gd_lconst (v := 0) (q := 154) rfl rfl rfl ?_
    refine gd_cVv (q := 157) rfl rfl lk10_185 myX10_token vxX10_token (ct_X10_token f _ _ _ hG _ _ _ _ hp) rfl (Nat.le_of_ble_eq_true rfl) rfl rfl (Nat.le_of_ble_eq_true rfl) rfl (Nat.le_of_ble_eq_true rfl) ⟨(Nat.le_of_ble_eq_true rfl), (Nat.le_of_ble_eq_true rfl)⟩ ?_
    refine gd_iload (q := 159) rfl rfl rfl ?_
    refine gy_if_le (q := 162) (r := 166) rfl rfl rfl (fun c_159 => ?_) (fun c_159 => ?_)
    · refine gd_iconst (v := 1) (q := 167) rfl rfl rfl ?_
      exact gd_ireturn rfl rfl rfl (Nat.le_refl 0) (Nat.le_refl 0) rfl
    · refine gd_iconst (v := 2) (q := 163) rfl rfl rfl ?_
      refine gd_goto (q := 167) rfl rfl ?_
      exact gd_ireturn rfl rfl rfl (Nat.le_refl 0) (Nat.le_refl 0) rfl
set_option maxRecDepth 100000 in
set_option maxHeartbeats 4000000 in
theorem gt_X10_sign (f : Nat) (I : am_I) (J : am_J) (Q : am_Q) (hG : Gr Q) (a1 : Int32) (a2 : Int32) (a3 : Int32) (hp : p_X10_sign I J a1 a2 a3) : Gd MX10_sign (am_o 1 0 0 (am_FiIJ Q (s_X10_sign I J a1 a2 a3))) 0 0 92 0 [some (.ref 46), some (.int a1), some (.int a2), some (.int a3), none, none] [] I J Q := by
  unfold s_X10_sign
  unfold p_X10_sign at hp
  refine gd_iload_n (q := 1) rfl rfl rfl ?_
  refine gd_bipush (v := 61) (q := 3) rfl rfl rfl ?_
  refine gx_icmp_eq (q := 6) (r := 10) rfl rfl rfl hp (fun c_3 hp => ?_) (fun c_3 hp => ?_)
  · refine gd_iload_n (q := 11) rfl rfl rfl ?_
    refine gd_bipush (v := 61) (q := 13) rfl rfl rfl ?_
    refine gx_icmp_ne (q := 16) (r := 21) rfl rfl rfl hp (fun c_13 hp => ?_) (fun c_13 hp => ?_)
    · refine gd_bipush (v := 11) (q := 18) rfl rfl rfl ?_
      refine gd_goto (q := 44) rfl rfl ?_
      refine gd_drop 3 ?_
      exact gl_X10_sign_44 a1 a2 a3 f Q hG _ _ _ hp
    · refine gd_iload_n (q := 22) rfl rfl rfl ?_
      refine gd_bipush (v := 33) (q := 24) rfl rfl rfl ?_
      refine gx_icmp_ne (q := 27) (r := 32) rfl rfl rfl hp (fun c_24 hp => ?_) (fun c_24 hp => ?_)
      · refine gd_bipush (v := 12) (q := 29) rfl rfl rfl ?_
        refine gd_goto (q := 44) rfl rfl ?_
        refine gd_drop 3 ?_
        exact gl_X10_sign_44 a1 a2 a3 f Q hG _ _ _ hp
      · refine gd_iload_n (q := 33) rfl rfl rfl ?_
        refine gd_bipush (v := 60) (q := 35) rfl rfl rfl ?_
        refine gx_icmp_ne (q := 38) (r := 43) rfl rfl rfl hp (fun c_35 hp => ?_) (fun c_35 hp => ?_)
        · refine gd_bipush (v := 14) (q := 40) rfl rfl rfl ?_
          refine gd_goto (q := 44) rfl rfl ?_
          refine gd_drop 3 ?_
          exact gl_X10_sign_44 a1 a2 a3 f Q hG _ _ _ hp
        · refine gd_iconst (v := 0) (q := 44) rfl rfl rfl ?_
          refine gd_drop 3 ?_
          exact gl_X10_sign_44 a1 a2 a3 f Q hG 0 _ _ hp
  · refine gd_iconst (v := 0) (q := 7) rfl rfl rfl ?_
    refine gd_goto (q := 44) rfl rfl ?_
    refine gd_drop 3 ?_
    exact gl_X10_sign_44 a1 a2 a3 f Q hG 0 _ _ hp
theorem ct_X10_sign (f : Nat) (I : am_I) (J : am_J) (Q : am_Q) (hG : Gr Q) (a1 : Int32) (a2 : Int32) (a3 : Int32) (hp : p_X10_sign I J a1 a2 a3) : Cm MX10_sign 1 0 0 92 [.ref 46, .int a1, .int a2, .int a3] I J Q (am_FiIJ Q (s_X10_sign I J a1 a2 a3)) := cm_of (by decide) rfl IX10_sign_ok (Nat.le_of_ble_eq_true rfl) (gt_X10_sign f I J Q hG a1 a2 a3 hp)
def s_X10_more  (a0 : Int64) (a2 : Int32) : Int64 := (if a2 = 0 then a0 else ((27 * a0) + (((a2 - 97) + 1).toInt64)))
set_option maxRecDepth 100000 in
set_option maxHeartbeats 4000000 in
theorem gt_X10_more (f : Nat) (I : am_I) (J : am_J) (Q : am_Q) (hG : Gr Q) (a0 : Int64) (a2 : Int32) : Gd MX10_more (am_o 0 0 0 (am_Fl I J Q (s_X10_more a0 a2))) 0 0 92 0 [some (.long a0), none, some (.int a2)] [] I J Q := by
  unfold s_X10_more
  refine gd_iload_n (q := 1) rfl rfl rfl ?_
  refine gy_if_ne (q := 4) (r := 8) rfl rfl rfl (fun c_1 => ?_) (fun c_1 => ?_)
  · refine gd_lload_n (q := 5) rfl rfl rfl ?_
    refine gd_goto (q := 21) rfl rfl ?_
    exact gd_lreturn rfl rfl (Nat.le_refl 0) (Nat.le_refl 0) rfl
  · refine gd_ldc2 (v := 27) (q := 11) rfl rfl (List.mem_of_getElem? (i := 967) (by decide +kernel)) ?_
    refine gd_lload_n (q := 12) rfl rfl rfl ?_
    refine gd_lmul (q := 13) rfl rfl ?_
    refine gd_iload_n (q := 14) rfl rfl rfl ?_
    refine gd_bipush (v := 97) (q := 16) rfl rfl rfl ?_
    refine gd_isub (q := 17) rfl rfl ?_
    refine gd_iconst (v := 1) (q := 18) rfl rfl rfl ?_
    refine gd_iadd (q := 19) rfl rfl ?_
    refine gd_i2l (q := 20) rfl rfl ?_
    refine gd_ladd (q := 21) rfl rfl ?_
    exact gd_lreturn rfl rfl (Nat.le_refl 0) (Nat.le_refl 0) rfl
theorem ct_X10_more (f : Nat) (I : am_I) (J : am_J) (Q : am_Q) (hG : Gr Q) (a0 : Int64) (a2 : Int32) : Cm MX10_more 0 0 0 92 [.long a0, .int a2] I J Q (am_Fl I J Q (s_X10_more a0 a2)) := cm_of (by decide) rfl IX10_more_ok (Nat.le_of_ble_eq_true rfl) (gt_X10_more f I J Q hG a0 a2)
def s_X10_cut_L7   : Nat → Nat → Int32 → Int32 → Int32 → Int64 → Int32 → Int32 → am_I → am_J → am_I × am_J
  | 0, _, _, _, _, _, _, _, I, J => (I, J)
  | g + 1, 0, v1, v3, v4, w4, v6, v7, I, J => (if 400 < (I 46 10) then (I, J) else (if v1 < (I 46 4) then (if (s_X10_at I v1) = 9 then (s_X10_cut_L7 g 0 (v1 + 1) 0 0 0 0 0 I J) else (if (s_X10_at I v1) = 10 then (s_X10_cut_L7 g 0 (v1 + 1) 0 0 0 0 0 I J) else (if (s_X10_at I v1) = 13 then (s_X10_cut_L7 g 0 (v1 + 1) 0 0 0 0 0 I J) else (if (s_X10_at I v1) = 32 then (s_X10_cut_L7 g 0 (v1 + 1) 0 0 0 0 0 I J) else (if (s_X10_isLetter (s_X10_at I v1)) = 0 then (if (s_X10_isDigit (s_X10_at I v1)) = 0 then (s_X10_cut_L7 g 0 (v1 + ((s_X10_sign I J v1 (s_X10_at I v1) (s_X10_at I (v1 + 1))).1)) 0 0 0 0 0 ((s_X10_sign I J v1 (s_X10_at I v1) (s_X10_at I (v1 + 1))).2.1) ((s_X10_sign I J v1 (s_X10_at I v1) (s_X10_at I (v1 + 1))).2.2)) else (s_X10_cut_L7 g 3 v1 0 0 0 0 0 I J)) else (s_X10_cut_L7 g 1 v1 0 0 0 0 0 I J)))))) else (((s_X10_token I J 0 (I 46 4) 0 0).1), ((s_X10_token I J 0 (I 46 4) 0 0).2))))
  | g + 1, 1, v1, v3, v4, w4, v6, v7, I, J => (if (s_X10_isLetter (s_X10_at I (v1 + v3))) = 0 then (if v3 ≤ 8 then (if 7 < v3 then (s_X10_cut_L7 g 0 (v1 + v3) 0 0 0 0 0 ((s_X10_token I J 1 v1 0 w4).1) ((s_X10_token I J 1 v1 0 w4).2)) else (s_X10_cut_L7 g 2 v1 v3 0 w4 1 0 I J)) else (if 7 < v3 then (s_X10_cut_L7 g 0 (v1 + v3) 0 0 0 0 0 ((s_X10_token I J 3 v1 0 w4).1) ((s_X10_token I J 3 v1 0 w4).2)) else (s_X10_cut_L7 g 2 v1 v3 0 w4 3 0 I J))) else (if 8 ≤ v3 then (s_X10_cut_L7 g 1 v1 (v3 + 1) 0 w4 0 0 I J) else (s_X10_cut_L7 g 1 v1 (v3 + 1) 0 (s_X10_more w4 (s_X10_at I (v1 + v3))) 0 0 I J)))
  | g + 1, 2, v1, v3, v4, w4, v6, v7, I, J => (if 14 ≤ v7 then (s_X10_cut_L7 g 0 (v1 + v3) 0 0 0 0 0 ((s_X10_token I J v6 v1 0 w4).1) ((s_X10_token I J v6 v1 0 w4).2)) else (if (lg_cmp (J 53 v7.toNatClampNeg) w4) = 0 then (s_X10_cut_L7 g 2 v1 v3 0 w4 (20 + v7) (v7 + 1) I J) else (s_X10_cut_L7 g 2 v1 v3 0 w4 v6 (v7 + 1) I J)))
  | g + 1, 3, v1, v3, v4, w4, v6, v7, I, J => (if (s_X10_isDigit (s_X10_at I (v1 + v3))) = 0 then (if v3 ≤ 4 then (s_X10_cut_L7 g 0 (v1 + v3) 0 0 0 0 0 ((s_X10_token I J 2 v1 v4 0).1) ((s_X10_token I J 2 v1 v4 0).2)) else (s_X10_cut_L7 g 0 (v1 + v3) 0 0 0 0 0 ((s_X10_token I J 3 v1 v4 0).1) ((s_X10_token I J 3 v1 v4 0).2))) else (if 4 ≤ v3 then (s_X10_cut_L7 g 3 v1 (v3 + 1) v4 0 0 0 I J) else (s_X10_cut_L7 g 3 v1 (v3 + 1) (((10 * v4) + (s_X10_at I (v1 + v3))) - 48) 0 0 0 I J)))
  | _ + 1, _ + 4, _, _, _, _, _, _, I, J => (I, J)
def p_X10_cut_L7   : Nat → Nat → Int32 → Int32 → Int32 → Int64 → Int32 → Int32 → am_I → am_J → Prop
  | 0, _, _, _, _, _, _, _, _, _ => False
  | g + 1, 0, v1, v3, v4, w4, v6, v7, I, J => (if 400 < (I 46 10) then True else ((p_X10_at I v1) ∧ (if v1 < (I 46 4) then (if (s_X10_at I v1) = 9 then (p_X10_cut_L7 g 0 (v1 + 1) 0 0 0 0 0 I J) else (if (s_X10_at I v1) = 10 then (p_X10_cut_L7 g 0 (v1 + 1) 0 0 0 0 0 I J) else (if (s_X10_at I v1) = 13 then (p_X10_cut_L7 g 0 (v1 + 1) 0 0 0 0 0 I J) else (if (s_X10_at I v1) = 32 then (p_X10_cut_L7 g 0 (v1 + 1) 0 0 0 0 0 I J) else (if (s_X10_isLetter (s_X10_at I v1)) = 0 then (if (s_X10_isDigit (s_X10_at I v1)) = 0 then ((p_X10_at I (v1 + 1)) ∧ ((p_X10_sign I J v1 (s_X10_at I v1) (s_X10_at I (v1 + 1))) ∧ (p_X10_cut_L7 g 0 (v1 + ((s_X10_sign I J v1 (s_X10_at I v1) (s_X10_at I (v1 + 1))).1)) 0 0 0 0 0 ((s_X10_sign I J v1 (s_X10_at I v1) (s_X10_at I (v1 + 1))).2.1) ((s_X10_sign I J v1 (s_X10_at I v1) (s_X10_at I (v1 + 1))).2.2)))) else (p_X10_cut_L7 g 3 v1 0 0 0 0 0 I J)) else (p_X10_cut_L7 g 1 v1 0 0 0 0 0 I J)))))) else (p_X10_token I 0 (I 46 4) 0 0))))
  | g + 1, 1, v1, v3, v4, w4, v6, v7, I, J => ((p_X10_at I (v1 + v3)) ∧ (if (s_X10_isLetter (s_X10_at I (v1 + v3))) = 0 then (if v3 ≤ 8 then (if 7 < v3 then ((p_X10_token I 1 v1 0 w4) ∧ (p_X10_cut_L7 g 0 (v1 + v3) 0 0 0 0 0 ((s_X10_token I J 1 v1 0 w4).1) ((s_X10_token I J 1 v1 0 w4).2))) else (p_X10_cut_L7 g 2 v1 v3 0 w4 1 0 I J)) else (if 7 < v3 then ((p_X10_token I 3 v1 0 w4) ∧ (p_X10_cut_L7 g 0 (v1 + v3) 0 0 0 0 0 ((s_X10_token I J 3 v1 0 w4).1) ((s_X10_token I J 3 v1 0 w4).2))) else (p_X10_cut_L7 g 2 v1 v3 0 w4 3 0 I J))) else (if 8 ≤ v3 then (p_X10_cut_L7 g 1 v1 (v3 + 1) 0 w4 0 0 I J) else ((p_X10_at I (v1 + v3)) ∧ (p_X10_cut_L7 g 1 v1 (v3 + 1) 0 (s_X10_more w4 (s_X10_at I (v1 + v3))) 0 0 I J)))))
  | g + 1, 2, v1, v3, v4, w4, v6, v7, I, J => (if 14 ≤ v7 then ((p_X10_token I v6 v1 0 w4) ∧ (p_X10_cut_L7 g 0 (v1 + v3) 0 0 0 0 0 ((s_X10_token I J v6 v1 0 w4).1) ((s_X10_token I J v6 v1 0 w4).2))) else (vp_in v7 14 ∧ (if (lg_cmp (J 53 v7.toNatClampNeg) w4) = 0 then (p_X10_cut_L7 g 2 v1 v3 0 w4 (20 + v7) (v7 + 1) I J) else (p_X10_cut_L7 g 2 v1 v3 0 w4 v6 (v7 + 1) I J))))
  | g + 1, 3, v1, v3, v4, w4, v6, v7, I, J => ((p_X10_at I (v1 + v3)) ∧ (if (s_X10_isDigit (s_X10_at I (v1 + v3))) = 0 then (if v3 ≤ 4 then ((p_X10_token I 2 v1 v4 0) ∧ (p_X10_cut_L7 g 0 (v1 + v3) 0 0 0 0 0 ((s_X10_token I J 2 v1 v4 0).1) ((s_X10_token I J 2 v1 v4 0).2))) else ((p_X10_token I 3 v1 v4 0) ∧ (p_X10_cut_L7 g 0 (v1 + v3) 0 0 0 0 0 ((s_X10_token I J 3 v1 v4 0).1) ((s_X10_token I J 3 v1 v4 0).2)))) else (if 4 ≤ v3 then (p_X10_cut_L7 g 3 v1 (v3 + 1) v4 0 0 0 I J) else ((p_X10_at I (v1 + v3)) ∧ (p_X10_cut_L7 g 3 v1 (v3 + 1) (((10 * v4) + (s_X10_at I (v1 + v3))) - 48) 0 0 0 I J)))))
  | _ + 1, _ + 4, _, _, _, _, _, _, _, _ => False
def s_X10_cut (f : Nat) (I : am_I) (J : am_J)  : am_I × am_J := (s_X10_cut_L7 f 0 0 0 0 0 0 0 (am_w I 46 10 0) J)
def p_X10_cut (f : Nat) (I : am_I) (J : am_J)  : Prop := (p_X10_cut_L7 f 0 0 0 0 0 0 0 (am_w I 46 10 0) J)
set_option maxRecDepth 100000 in
set_option maxHeartbeats 4000000 in
theorem gl_X10_cut_L7  (f : Nat) (Q : am_Q) (hG : Gr Q) : ∀ g : Nat, (∀ (v1 : Int32) (v3 : Int32) (v4 : Int32) (w4 : Int64) (v6 : Int32) (v7 : Int32) (I : am_I) (J : am_J), p_X10_cut_L7 g 0 v1 0 0 0 0 0 I J → Gd MX10_cut (am_o 2 0 0 (am_FvIJ Q (s_X10_cut_L7 g 0 v1 0 0 0 0 0 I J))) 0 0 92 7 [some (.ref 46), some (.int v1), none, none, none, none, none, none] [] I J Q) ∧ (∀ (v1 : Int32) (v3 : Int32) (v4 : Int32) (w4 : Int64) (v6 : Int32) (v7 : Int32) (I : am_I) (J : am_J), p_X10_cut_L7 g 1 v1 v3 0 w4 0 0 I J → Gd MX10_cut (am_o 2 0 0 (am_FvIJ Q (s_X10_cut_L7 g 1 v1 v3 0 w4 0 0 I J))) 0 0 92 85 [some (.ref 46), some (.int v1), none, some (.int v3), some (.long w4), none, none, none] [] I J Q) ∧ (∀ (v1 : Int32) (v3 : Int32) (v4 : Int32) (w4 : Int64) (v6 : Int32) (v7 : Int32) (I : am_I) (J : am_J), p_X10_cut_L7 g 2 v1 v3 0 w4 v6 v7 I J → Gd MX10_cut (am_o 2 0 0 (am_FvIJ Q (s_X10_cut_L7 g 2 v1 v3 0 w4 v6 v7 I J))) 0 0 92 146 [some (.ref 46), some (.int v1), none, some (.int v3), some (.long w4), none, some (.int v6), some (.int v7)] [] I J Q) ∧ (∀ (v1 : Int32) (v3 : Int32) (v4 : Int32) (w4 : Int64) (v6 : Int32) (v7 : Int32) (I : am_I) (J : am_J), p_X10_cut_L7 g 3 v1 v3 v4 0 0 0 I J → Gd MX10_cut (am_o 2 0 0 (am_FvIJ Q (s_X10_cut_L7 g 3 v1 v3 v4 0 0 0 I J))) 0 0 92 208 [some (.ref 46), some (.int v1), none, some (.int v3), some (.int v4), none, none, none] [] I J Q) := by
  intro g
  induction g with
  | zero => exact ⟨fun _ _ _ _ _ _ _ _ hp => False.elim hp, fun _ _ _ _ _ _ _ _ hp => False.elim hp, fun _ _ _ _ _ _ _ _ hp => False.elim hp, fun _ _ _ _ _ _ _ _ hp => False.elim hp⟩
  | succ g ih =>
    have ih_7 := ih.1
    have ih_85 := ih.2.1
    have ih_146 := ih.2.2.1
    have ih_208 := ih.2.2.2
    refine ⟨?_, ?_, ?_, ?_⟩
    · intro v1 v3 v4 w4 v6 v7 I J hp
      rw [s_X10_cut_L7]
      rw [p_X10_cut_L7] at hp
      refine gd_aload_n (q := 8) rfl rfl rfl ?_
      refine gd_getI (q := 11) rfl rfl rfl (Nat.le_of_ble_eq_true rfl) rfl rfl ?_
      refine gd_sipush (v := 400) (q := 14) rfl rfl rfl ?_
      refine gx_icmp_gt (q := 17) (r := 294) rfl rfl rfl hp (fun c_14 hp => ?_) (fun c_14 hp => ?_)
      · exact gd_return rfl rfl (Nat.le_refl 0) (Nat.le_refl 0) rfl
      · refine gd_aload_n (q := 18) rfl rfl rfl ?_
        refine gd_iload_n (q := 19) rfl rfl rfl ?_
        refine gd_cVi (q := 22) rfl rfl lk10_181 myX10_at vxX10_at (ct_X10_at f _ _ _ hG _ hp.1) rfl (Nat.le_of_ble_eq_true rfl) rfl rfl (Nat.le_of_ble_eq_true rfl) rfl (Nat.le_of_ble_eq_true rfl) ⟨(Nat.le_of_ble_eq_true rfl), (Nat.le_of_ble_eq_true rfl)⟩ ?_
        replace hp := hp.2
        refine gd_istore_n (q := 23) rfl rfl (Nat.le_of_ble_eq_true rfl) rfl ?_
        refine gd_iload_n (q := 24) rfl rfl rfl ?_
        refine gd_aload_n (q := 25) rfl rfl rfl ?_
        refine gd_getI (q := 28) rfl rfl rfl (Nat.le_of_ble_eq_true rfl) rfl rfl ?_
        refine gx_icmp_lt (q := 31) (r := 43) rfl rfl rfl hp (fun c_28 hp => ?_) (fun c_28 hp => ?_)
        · refine gd_iload_n (q := 44) rfl rfl rfl ?_
          refine gd_bipush (v := 9) (q := 46) rfl rfl rfl ?_
          refine gx_icmp_eq (q := 49) (r := 67) rfl rfl rfl hp (fun c_46 hp => ?_) (fun c_46 hp => ?_)
          · refine gd_iinc (v := (v1 + 1)) (q := 70) rfl rfl rfl rfl (Nat.le_of_ble_eq_true rfl) rfl ?_
            refine gd_goto (q := 291) rfl rfl ?_
            refine gd_goto (q := 7) rfl rfl ?_
            refine gd_drop 2 ?_
            exact ih_7 _ 0 0 0 0 0 _ _ hp
          · refine gd_iload_n (q := 50) rfl rfl rfl ?_
            refine gd_bipush (v := 10) (q := 52) rfl rfl rfl ?_
            refine gx_icmp_eq (q := 55) (r := 67) rfl rfl rfl hp (fun c_52 hp => ?_) (fun c_52 hp => ?_)
            · refine gd_iinc (v := (v1 + 1)) (q := 70) rfl rfl rfl rfl (Nat.le_of_ble_eq_true rfl) rfl ?_
              refine gd_goto (q := 291) rfl rfl ?_
              refine gd_goto (q := 7) rfl rfl ?_
              refine gd_drop 2 ?_
              exact ih_7 _ 0 0 0 0 0 _ _ hp
            · refine gd_iload_n (q := 56) rfl rfl rfl ?_
              refine gd_bipush (v := 13) (q := 58) rfl rfl rfl ?_
              refine gx_icmp_eq (q := 61) (r := 67) rfl rfl rfl hp (fun c_58 hp => ?_) (fun c_58 hp => ?_)
              · refine gd_iinc (v := (v1 + 1)) (q := 70) rfl rfl rfl rfl (Nat.le_of_ble_eq_true rfl) rfl ?_
                refine gd_goto (q := 291) rfl rfl ?_
                refine gd_goto (q := 7) rfl rfl ?_
                refine gd_drop 2 ?_
                exact ih_7 _ 0 0 0 0 0 _ _ hp
              · refine gd_iload_n (q := 62) rfl rfl rfl ?_
                refine gd_bipush (v := 32) (q := 64) rfl rfl rfl ?_
                refine gx_icmp_ne (q := 67) (r := 73) rfl rfl rfl hp (fun c_64 hp => ?_) (fun c_64 hp => ?_)
                · refine gd_iinc (v := (v1 + 1)) (q := 70) rfl rfl rfl rfl (Nat.le_of_ble_eq_true rfl) rfl ?_
                  refine gd_goto (q := 291) rfl rfl ?_
                  refine gd_goto (q := 7) rfl rfl ?_
                  refine gd_drop 2 ?_
                  exact ih_7 _ 0 0 0 0 0 _ _ hp
                · refine gd_iload_n (q := 74) rfl rfl rfl ?_
                  refine gd_cSi (q := 77) rfl rfl lk10_189 myX10_isLetter sxX10_isLetter (ct_X10_isLetter f _ _ _ hG _) rfl rfl (Nat.le_of_ble_eq_true rfl) ⟨(Nat.le_of_ble_eq_true rfl), (Nat.le_of_ble_eq_true rfl)⟩ ?_
                  refine gx_if_eq (q := 80) (r := 196) rfl rfl rfl hp (fun c_77 hp => ?_) (fun c_77 hp => ?_)
                  · refine gd_iload_n (q := 197) rfl rfl rfl ?_
                    refine gd_cSi (q := 200) rfl rfl lk10_193 myX10_isDigit sxX10_isDigit (ct_X10_isDigit f _ _ _ hG _) rfl rfl (Nat.le_of_ble_eq_true rfl) ⟨(Nat.le_of_ble_eq_true rfl), (Nat.le_of_ble_eq_true rfl)⟩ ?_
                    refine gx_if_eq (q := 203) (r := 275) rfl rfl rfl hp (fun c_200 hp => ?_) (fun c_200 hp => ?_)
                    · refine gd_iload_n (q := 276) rfl rfl rfl ?_
                      refine gd_aload_n (q := 277) rfl rfl rfl ?_
                      refine gd_iload_n (q := 278) rfl rfl rfl ?_
                      refine gd_iload_n (q := 279) rfl rfl rfl ?_
                      refine gd_aload_n (q := 280) rfl rfl rfl ?_
                      refine gd_iload_n (q := 281) rfl rfl rfl ?_
                      refine gd_iconst (v := 1) (q := 282) rfl rfl rfl ?_
                      refine gd_iadd (q := 283) rfl rfl ?_
                      refine gd_cVi (q := 286) rfl rfl lk10_181 myX10_at vxX10_at (ct_X10_at f _ _ _ hG _ hp.1) rfl (Nat.le_of_ble_eq_true rfl) rfl rfl (Nat.le_of_ble_eq_true rfl) rfl (Nat.le_of_ble_eq_true rfl) ⟨(Nat.le_of_ble_eq_true rfl), (Nat.le_of_ble_eq_true rfl)⟩ ?_
                      replace hp := hp.2
                      refine gd_cVi (q := 289) rfl rfl lk10_196 myX10_sign vxX10_sign (ct_X10_sign f _ _ _ hG _ _ _ hp.1) rfl (Nat.le_of_ble_eq_true rfl) rfl rfl (Nat.le_of_ble_eq_true rfl) rfl (Nat.le_of_ble_eq_true rfl) ⟨(Nat.le_of_ble_eq_true rfl), (Nat.le_of_ble_eq_true rfl)⟩ ?_
                      replace hp := hp.2
                      refine gd_iadd (q := 290) rfl rfl ?_
                      refine gd_istore_n (q := 291) rfl rfl (Nat.le_of_ble_eq_true rfl) rfl ?_
                      refine gd_goto (q := 7) rfl rfl ?_
                      refine gd_drop 2 ?_
                      exact ih_7 _ 0 0 0 0 0 _ _ hp
                    · refine gd_iconst (v := 0) (q := 204) rfl rfl rfl ?_
                      refine gd_istore_n (q := 205) rfl rfl (Nat.le_of_ble_eq_true rfl) rfl ?_
                      refine gd_iconst (v := 0) (q := 206) rfl rfl rfl ?_
                      refine gd_istore (q := 208) rfl rfl (Nat.le_of_ble_eq_true rfl) rfl ?_
                      refine gd_drop 2 ?_
                      exact ih_208 _ 0 0 0 0 0 _ _ hp
                  · refine gd_iconst (v := 0) (q := 81) rfl rfl rfl ?_
                    refine gd_istore_n (q := 82) rfl rfl (Nat.le_of_ble_eq_true rfl) rfl ?_
                    refine gd_lconst (v := 0) (q := 83) rfl rfl rfl ?_
                    refine gd_lstore (q := 85) rfl rfl (Nat.le_of_ble_eq_true rfl) rfl ?_
                    refine gd_drop 2 ?_
                    exact ih_85 _ 0 0 0 0 0 _ _ hp
        · refine gd_aload_n (q := 32) rfl rfl rfl ?_
          refine gd_iconst (v := 0) (q := 33) rfl rfl rfl ?_
          refine gd_aload_n (q := 34) rfl rfl rfl ?_
          refine gd_getI (q := 37) rfl rfl rfl (Nat.le_of_ble_eq_true rfl) rfl rfl ?_
          refine gd_iconst (v := 0) (q := 38) rfl rfl rfl ?_
          refine gd_lconst (v := 0) (q := 39) rfl rfl rfl ?_
          refine gd_cVv (q := 42) rfl rfl lk10_185 myX10_token vxX10_token (ct_X10_token f _ _ _ hG _ _ _ _ hp) rfl (Nat.le_of_ble_eq_true rfl) rfl rfl (Nat.le_of_ble_eq_true rfl) rfl (Nat.le_of_ble_eq_true rfl) ⟨(Nat.le_of_ble_eq_true rfl), (Nat.le_of_ble_eq_true rfl)⟩ ?_
          exact gd_return rfl rfl (Nat.le_refl 0) (Nat.le_refl 0) rfl
    · intro v1 v3 v4 w4 v6 v7 I J hp
      rw [s_X10_cut_L7]
      rw [p_X10_cut_L7] at hp
      refine gd_aload_n (q := 86) rfl rfl rfl ?_
      refine gd_iload_n (q := 87) rfl rfl rfl ?_
      refine gd_iload_n (q := 88) rfl rfl rfl ?_
      refine gd_iadd (q := 89) rfl rfl ?_
      refine gd_cVi (q := 92) rfl rfl lk10_181 myX10_at vxX10_at (ct_X10_at f _ _ _ hG _ hp.1) rfl (Nat.le_of_ble_eq_true rfl) rfl rfl (Nat.le_of_ble_eq_true rfl) rfl (Nat.le_of_ble_eq_true rfl) ⟨(Nat.le_of_ble_eq_true rfl), (Nat.le_of_ble_eq_true rfl)⟩ ?_
      replace hp := hp.2
      refine gd_cSi (q := 95) rfl rfl lk10_189 myX10_isLetter sxX10_isLetter (ct_X10_isLetter f _ _ _ hG _) rfl rfl (Nat.le_of_ble_eq_true rfl) ⟨(Nat.le_of_ble_eq_true rfl), (Nat.le_of_ble_eq_true rfl)⟩ ?_
      refine gx_if_eq (q := 98) (r := 124) rfl rfl rfl hp (fun c_95 hp => ?_) (fun c_95 hp => ?_)
      · refine gd_iload_n (q := 125) rfl rfl rfl ?_
        refine gd_bipush (v := 8) (q := 127) rfl rfl rfl ?_
        refine gx_icmp_le (q := 130) (r := 134) rfl rfl rfl hp (fun c_127 hp => ?_) (fun c_127 hp => ?_)
        · refine gd_iconst (v := 1) (q := 135) rfl rfl rfl ?_
          refine gd_istore (q := 137) rfl rfl (Nat.le_of_ble_eq_true rfl) rfl ?_
          refine gd_iload_n (q := 138) rfl rfl rfl ?_
          refine gd_bipush (v := 7) (q := 140) rfl rfl rfl ?_
          refine gx_icmp_gt (q := 143) (r := 179) rfl rfl rfl hp (fun c_140 hp => ?_) (fun c_140 hp => ?_)
          · refine gd_aload_n (q := 180) rfl rfl rfl ?_
            refine gd_iload (q := 182) rfl rfl rfl ?_
            refine gd_iload_n (q := 183) rfl rfl rfl ?_
            refine gd_iconst (v := 0) (q := 184) rfl rfl rfl ?_
            refine gd_lload (q := 186) rfl rfl rfl ?_
            refine gd_cVv (q := 189) rfl rfl lk10_185 myX10_token vxX10_token (ct_X10_token f _ _ _ hG _ _ _ _ hp.1) rfl (Nat.le_of_ble_eq_true rfl) rfl rfl (Nat.le_of_ble_eq_true rfl) rfl (Nat.le_of_ble_eq_true rfl) ⟨(Nat.le_of_ble_eq_true rfl), (Nat.le_of_ble_eq_true rfl)⟩ ?_
            replace hp := hp.2
            refine gd_iload_n (q := 190) rfl rfl rfl ?_
            refine gd_iload_n (q := 191) rfl rfl rfl ?_
            refine gd_iadd (q := 192) rfl rfl ?_
            refine gd_istore_n (q := 193) rfl rfl (Nat.le_of_ble_eq_true rfl) rfl ?_
            refine gd_goto (q := 291) rfl rfl ?_
            refine gd_goto (q := 7) rfl rfl ?_
            refine gd_drop 3 ?_
            refine gd_drop 4 ?_
            refine gd_drop 6 ?_
            exact ih_7 _ 0 0 0 0 0 _ _ hp
          · refine gd_iconst (v := 0) (q := 144) rfl rfl rfl ?_
            refine gd_istore (q := 146) rfl rfl (Nat.le_of_ble_eq_true rfl) rfl ?_
            exact ih_146 _ _ 0 _ _ 0 _ _ hp
        · refine gd_iconst (v := 3) (q := 131) rfl rfl rfl ?_
          refine gd_goto (q := 135) rfl rfl ?_
          refine gd_istore (q := 137) rfl rfl (Nat.le_of_ble_eq_true rfl) rfl ?_
          refine gd_iload_n (q := 138) rfl rfl rfl ?_
          refine gd_bipush (v := 7) (q := 140) rfl rfl rfl ?_
          refine gx_icmp_gt (q := 143) (r := 179) rfl rfl rfl hp (fun c_140 hp => ?_) (fun c_140 hp => ?_)
          · refine gd_aload_n (q := 180) rfl rfl rfl ?_
            refine gd_iload (q := 182) rfl rfl rfl ?_
            refine gd_iload_n (q := 183) rfl rfl rfl ?_
            refine gd_iconst (v := 0) (q := 184) rfl rfl rfl ?_
            refine gd_lload (q := 186) rfl rfl rfl ?_
            refine gd_cVv (q := 189) rfl rfl lk10_185 myX10_token vxX10_token (ct_X10_token f _ _ _ hG _ _ _ _ hp.1) rfl (Nat.le_of_ble_eq_true rfl) rfl rfl (Nat.le_of_ble_eq_true rfl) rfl (Nat.le_of_ble_eq_true rfl) ⟨(Nat.le_of_ble_eq_true rfl), (Nat.le_of_ble_eq_true rfl)⟩ ?_
            replace hp := hp.2
            refine gd_iload_n (q := 190) rfl rfl rfl ?_
            refine gd_iload_n (q := 191) rfl rfl rfl ?_
            refine gd_iadd (q := 192) rfl rfl ?_
            refine gd_istore_n (q := 193) rfl rfl (Nat.le_of_ble_eq_true rfl) rfl ?_
            refine gd_goto (q := 291) rfl rfl ?_
            refine gd_goto (q := 7) rfl rfl ?_
            refine gd_drop 3 ?_
            refine gd_drop 4 ?_
            refine gd_drop 6 ?_
            exact ih_7 _ 0 0 0 0 0 _ _ hp
          · refine gd_iconst (v := 0) (q := 144) rfl rfl rfl ?_
            refine gd_istore (q := 146) rfl rfl (Nat.le_of_ble_eq_true rfl) rfl ?_
            exact ih_146 _ _ 0 _ _ 0 _ _ hp
      · refine gd_iload_n (q := 99) rfl rfl rfl ?_
        refine gd_bipush (v := 8) (q := 101) rfl rfl rfl ?_
        refine gx_icmp_ge (q := 104) (r := 118) rfl rfl rfl hp (fun c_101 hp => ?_) (fun c_101 hp => ?_)
        · refine gd_iinc (v := (v3 + 1)) (q := 121) rfl rfl rfl rfl (Nat.le_of_ble_eq_true rfl) rfl ?_
          refine gd_goto (q := 85) rfl rfl ?_
          exact ih_85 _ _ 0 _ 0 0 _ _ hp
        · refine gd_lload (q := 106) rfl rfl rfl ?_
          refine gd_aload_n (q := 107) rfl rfl rfl ?_
          refine gd_iload_n (q := 108) rfl rfl rfl ?_
          refine gd_iload_n (q := 109) rfl rfl rfl ?_
          refine gd_iadd (q := 110) rfl rfl ?_
          refine gd_cVi (q := 113) rfl rfl lk10_181 myX10_at vxX10_at (ct_X10_at f _ _ _ hG _ hp.1) rfl (Nat.le_of_ble_eq_true rfl) rfl rfl (Nat.le_of_ble_eq_true rfl) rfl (Nat.le_of_ble_eq_true rfl) ⟨(Nat.le_of_ble_eq_true rfl), (Nat.le_of_ble_eq_true rfl)⟩ ?_
          replace hp := hp.2
          refine gd_cSi (q := 116) rfl rfl lk10_174 myX10_more sxX10_more (ct_X10_more f _ _ _ hG _ _) rfl rfl (Nat.le_of_ble_eq_true rfl) ⟨(Nat.le_of_ble_eq_true rfl), (Nat.le_of_ble_eq_true rfl)⟩ ?_
          refine gd_lstore (q := 118) rfl rfl (Nat.le_of_ble_eq_true rfl) rfl ?_
          refine gd_iinc (v := (v3 + 1)) (q := 121) rfl rfl rfl rfl (Nat.le_of_ble_eq_true rfl) rfl ?_
          refine gd_goto (q := 85) rfl rfl ?_
          exact ih_85 _ _ 0 _ 0 0 _ _ hp
    · intro v1 v3 v4 w4 v6 v7 I J hp
      rw [s_X10_cut_L7]
      rw [p_X10_cut_L7] at hp
      refine gd_iload (q := 148) rfl rfl rfl ?_
      refine gd_bipush (v := 14) (q := 150) rfl rfl rfl ?_
      refine gx_icmp_ge (q := 153) (r := 179) rfl rfl rfl hp (fun c_150 hp => ?_) (fun c_150 hp => ?_)
      · refine gd_aload_n (q := 180) rfl rfl rfl ?_
        refine gd_iload (q := 182) rfl rfl rfl ?_
        refine gd_iload_n (q := 183) rfl rfl rfl ?_
        refine gd_iconst (v := 0) (q := 184) rfl rfl rfl ?_
        refine gd_lload (q := 186) rfl rfl rfl ?_
        refine gd_cVv (q := 189) rfl rfl lk10_185 myX10_token vxX10_token (ct_X10_token f _ _ _ hG _ _ _ _ hp.1) rfl (Nat.le_of_ble_eq_true rfl) rfl rfl (Nat.le_of_ble_eq_true rfl) rfl (Nat.le_of_ble_eq_true rfl) ⟨(Nat.le_of_ble_eq_true rfl), (Nat.le_of_ble_eq_true rfl)⟩ ?_
        replace hp := hp.2
        refine gd_iload_n (q := 190) rfl rfl rfl ?_
        refine gd_iload_n (q := 191) rfl rfl rfl ?_
        refine gd_iadd (q := 192) rfl rfl ?_
        refine gd_istore_n (q := 193) rfl rfl (Nat.le_of_ble_eq_true rfl) rfl ?_
        refine gd_goto (q := 291) rfl rfl ?_
        refine gd_goto (q := 7) rfl rfl ?_
        refine gd_drop 3 ?_
        refine gd_drop 4 ?_
        refine gd_drop 6 ?_
        refine gd_drop 7 ?_
        exact ih_7 _ 0 0 0 0 0 _ _ hp
      · refine gd_aload_n (q := 154) rfl rfl rfl ?_
        refine gd_getR (q := 157) (r := 53) rfl rfl rfl (Nat.le_of_ble_eq_true rfl) rfl rfl (gr_46_9 hG) ?_
        refine gd_iload (q := 159) rfl rfl rfl ?_
        refine gd_lald (q := 160) rfl rfl (Nat.le_of_ble_eq_true rfl) rfl hp.1 ?_
        replace hp := hp.2
        refine gd_lload (q := 162) rfl rfl rfl ?_
        refine gd_lcmp (q := 163) rfl rfl ?_
        refine gx_if_ne (q := 166) (r := 173) rfl rfl rfl hp (fun c_163 hp => ?_) (fun c_163 hp => ?_)
        · refine gd_bipush (v := 20) (q := 168) rfl rfl rfl ?_
          refine gd_iload (q := 170) rfl rfl rfl ?_
          refine gd_iadd (q := 171) rfl rfl ?_
          refine gd_istore (q := 173) rfl rfl (Nat.le_of_ble_eq_true rfl) rfl ?_
          refine gd_iinc (v := (v7 + 1)) (q := 176) rfl rfl rfl rfl (Nat.le_of_ble_eq_true rfl) rfl ?_
          refine gd_goto (q := 146) rfl rfl ?_
          exact ih_146 _ _ 0 _ _ _ _ _ hp
        · refine gd_iinc (v := (v7 + 1)) (q := 176) rfl rfl rfl rfl (Nat.le_of_ble_eq_true rfl) rfl ?_
          refine gd_goto (q := 146) rfl rfl ?_
          exact ih_146 _ _ 0 _ _ _ _ _ hp
    · intro v1 v3 v4 w4 v6 v7 I J hp
      rw [s_X10_cut_L7]
      rw [p_X10_cut_L7] at hp
      refine gd_aload_n (q := 209) rfl rfl rfl ?_
      refine gd_iload_n (q := 210) rfl rfl rfl ?_
      refine gd_iload_n (q := 211) rfl rfl rfl ?_
      refine gd_iadd (q := 212) rfl rfl ?_
      refine gd_cVi (q := 215) rfl rfl lk10_181 myX10_at vxX10_at (ct_X10_at f _ _ _ hG _ hp.1) rfl (Nat.le_of_ble_eq_true rfl) rfl rfl (Nat.le_of_ble_eq_true rfl) rfl (Nat.le_of_ble_eq_true rfl) ⟨(Nat.le_of_ble_eq_true rfl), (Nat.le_of_ble_eq_true rfl)⟩ ?_
      replace hp := hp.2
      refine gd_cSi (q := 218) rfl rfl lk10_193 myX10_isDigit sxX10_isDigit (ct_X10_isDigit f _ _ _ hG _) rfl rfl (Nat.le_of_ble_eq_true rfl) ⟨(Nat.le_of_ble_eq_true rfl), (Nat.le_of_ble_eq_true rfl)⟩ ?_
      refine gx_if_eq (q := 221) (r := 250) rfl rfl rfl hp (fun c_218 hp => ?_) (fun c_218 hp => ?_)
      · refine gd_aload_n (q := 251) rfl rfl rfl ?_
        refine gd_iload_n (q := 252) rfl rfl rfl ?_
        refine gd_iconst (v := 4) (q := 253) rfl rfl rfl ?_
        refine gx_icmp_le (q := 256) (r := 260) rfl rfl rfl hp (fun c_253 hp => ?_) (fun c_253 hp => ?_)
        · refine gd_iconst (v := 2) (q := 261) rfl rfl rfl ?_
          refine gd_iload_n (q := 262) rfl rfl rfl ?_
          refine gd_iload (q := 264) rfl rfl rfl ?_
          refine gd_lconst (v := 0) (q := 265) rfl rfl rfl ?_
          refine gd_cVv (q := 268) rfl rfl lk10_185 myX10_token vxX10_token (ct_X10_token f _ _ _ hG _ _ _ _ hp.1) rfl (Nat.le_of_ble_eq_true rfl) rfl rfl (Nat.le_of_ble_eq_true rfl) rfl (Nat.le_of_ble_eq_true rfl) ⟨(Nat.le_of_ble_eq_true rfl), (Nat.le_of_ble_eq_true rfl)⟩ ?_
          replace hp := hp.2
          refine gd_iload_n (q := 269) rfl rfl rfl ?_
          refine gd_iload_n (q := 270) rfl rfl rfl ?_
          refine gd_iadd (q := 271) rfl rfl ?_
          refine gd_istore_n (q := 272) rfl rfl (Nat.le_of_ble_eq_true rfl) rfl ?_
          refine gd_goto (q := 291) rfl rfl ?_
          refine gd_goto (q := 7) rfl rfl ?_
          refine gd_drop 3 ?_
          refine gd_drop 4 ?_
          exact ih_7 _ 0 0 0 0 0 _ _ hp
        · refine gd_iconst (v := 3) (q := 257) rfl rfl rfl ?_
          refine gd_goto (q := 261) rfl rfl ?_
          refine gd_iload_n (q := 262) rfl rfl rfl ?_
          refine gd_iload (q := 264) rfl rfl rfl ?_
          refine gd_lconst (v := 0) (q := 265) rfl rfl rfl ?_
          refine gd_cVv (q := 268) rfl rfl lk10_185 myX10_token vxX10_token (ct_X10_token f _ _ _ hG _ _ _ _ hp.1) rfl (Nat.le_of_ble_eq_true rfl) rfl rfl (Nat.le_of_ble_eq_true rfl) rfl (Nat.le_of_ble_eq_true rfl) ⟨(Nat.le_of_ble_eq_true rfl), (Nat.le_of_ble_eq_true rfl)⟩ ?_
          replace hp := hp.2
          refine gd_iload_n (q := 269) rfl rfl rfl ?_
          refine gd_iload_n (q := 270) rfl rfl rfl ?_
          refine gd_iadd (q := 271) rfl rfl ?_
          refine gd_istore_n (q := 272) rfl rfl (Nat.le_of_ble_eq_true rfl) rfl ?_
          refine gd_goto (q := 291) rfl rfl ?_
          refine gd_goto (q := 7) rfl rfl ?_
          refine gd_drop 3 ?_
          refine gd_drop 4 ?_
          exact ih_7 _ 0 0 0 0 0 _ _ hp
      · refine gd_iload_n (q := 222) rfl rfl rfl ?_
        refine gd_iconst (v := 4) (q := 223) rfl rfl rfl ?_
        refine gx_icmp_ge (q := 226) (r := 244) rfl rfl rfl hp (fun c_223 hp => ?_) (fun c_223 hp => ?_)
        · refine gd_iinc (v := (v3 + 1)) (q := 247) rfl rfl rfl rfl (Nat.le_of_ble_eq_true rfl) rfl ?_
          refine gd_goto (q := 208) rfl rfl ?_
          exact ih_208 _ _ _ 0 0 0 _ _ hp
        · refine gd_bipush (v := 10) (q := 228) rfl rfl rfl ?_
          refine gd_iload (q := 230) rfl rfl rfl ?_
          refine gd_imul (q := 231) rfl rfl ?_
          refine gd_aload_n (q := 232) rfl rfl rfl ?_
          refine gd_iload_n (q := 233) rfl rfl rfl ?_
          refine gd_iload_n (q := 234) rfl rfl rfl ?_
          refine gd_iadd (q := 235) rfl rfl ?_
          refine gd_cVi (q := 238) rfl rfl lk10_181 myX10_at vxX10_at (ct_X10_at f _ _ _ hG _ hp.1) rfl (Nat.le_of_ble_eq_true rfl) rfl rfl (Nat.le_of_ble_eq_true rfl) rfl (Nat.le_of_ble_eq_true rfl) ⟨(Nat.le_of_ble_eq_true rfl), (Nat.le_of_ble_eq_true rfl)⟩ ?_
          replace hp := hp.2
          refine gd_iadd (q := 239) rfl rfl ?_
          refine gd_bipush (v := 48) (q := 241) rfl rfl rfl ?_
          refine gd_isub (q := 242) rfl rfl ?_
          refine gd_istore (q := 244) rfl rfl (Nat.le_of_ble_eq_true rfl) rfl ?_
          refine gd_iinc (v := (v3 + 1)) (q := 247) rfl rfl rfl rfl (Nat.le_of_ble_eq_true rfl) rfl ?_
          refine gd_goto (q := 208) rfl rfl ?_
          exact ih_208 _ _ _ 0 0 0 _ _ hp
theorem gl_X10_cut_7  (f : Nat) (Q : am_Q) (hG : Gr Q) (g : Nat) : ∀ (v1 : Int32) (v3 : Int32) (v4 : Int32) (w4 : Int64) (v6 : Int32) (v7 : Int32) (I : am_I) (J : am_J), p_X10_cut_L7 g 0 v1 0 0 0 0 0 I J → Gd MX10_cut (am_o 2 0 0 (am_FvIJ Q (s_X10_cut_L7 g 0 v1 0 0 0 0 0 I J))) 0 0 92 7 [some (.ref 46), some (.int v1), none, none, none, none, none, none] [] I J Q := (gl_X10_cut_L7 f Q hG g).1
theorem gl_X10_cut_85  (f : Nat) (Q : am_Q) (hG : Gr Q) (g : Nat) : ∀ (v1 : Int32) (v3 : Int32) (v4 : Int32) (w4 : Int64) (v6 : Int32) (v7 : Int32) (I : am_I) (J : am_J), p_X10_cut_L7 g 1 v1 v3 0 w4 0 0 I J → Gd MX10_cut (am_o 2 0 0 (am_FvIJ Q (s_X10_cut_L7 g 1 v1 v3 0 w4 0 0 I J))) 0 0 92 85 [some (.ref 46), some (.int v1), none, some (.int v3), some (.long w4), none, none, none] [] I J Q := (gl_X10_cut_L7 f Q hG g).2.1
theorem gl_X10_cut_146  (f : Nat) (Q : am_Q) (hG : Gr Q) (g : Nat) : ∀ (v1 : Int32) (v3 : Int32) (v4 : Int32) (w4 : Int64) (v6 : Int32) (v7 : Int32) (I : am_I) (J : am_J), p_X10_cut_L7 g 2 v1 v3 0 w4 v6 v7 I J → Gd MX10_cut (am_o 2 0 0 (am_FvIJ Q (s_X10_cut_L7 g 2 v1 v3 0 w4 v6 v7 I J))) 0 0 92 146 [some (.ref 46), some (.int v1), none, some (.int v3), some (.long w4), none, some (.int v6), some (.int v7)] [] I J Q := (gl_X10_cut_L7 f Q hG g).2.2.1
theorem gl_X10_cut_208  (f : Nat) (Q : am_Q) (hG : Gr Q) (g : Nat) : ∀ (v1 : Int32) (v3 : Int32) (v4 : Int32) (w4 : Int64) (v6 : Int32) (v7 : Int32) (I : am_I) (J : am_J), p_X10_cut_L7 g 3 v1 v3 v4 0 0 0 I J → Gd MX10_cut (am_o 2 0 0 (am_FvIJ Q (s_X10_cut_L7 g 3 v1 v3 v4 0 0 0 I J))) 0 0 92 208 [some (.ref 46), some (.int v1), none, some (.int v3), some (.int v4), none, none, none] [] I J Q := (gl_X10_cut_L7 f Q hG g).2.2.2
set_option maxRecDepth 100000 in
set_option maxHeartbeats 4000000 in
theorem gt_X10_cut (f : Nat) (I : am_I) (J : am_J) (Q : am_Q) (hG : Gr Q)  (hp : p_X10_cut f I J) : Gd MX10_cut (am_o 2 0 0 (am_FvIJ Q (s_X10_cut f I J))) 0 0 92 0 [some (.ref 46), none, none, none, none, none, none, none] [] I J Q := by
  unfold s_X10_cut
  unfold p_X10_cut at hp
  refine gd_aload_n (q := 1) rfl rfl rfl ?_
  refine gd_iconst (v := 0) (q := 2) rfl rfl rfl ?_
  refine gd_putI (q := 5) rfl rfl rfl (Nat.le_of_ble_eq_true rfl) rfl rfl rfl (Or.inl rfl) ?_
  refine gd_iconst (v := 0) (q := 6) rfl rfl rfl ?_
  refine gd_istore_n (q := 7) rfl rfl (Nat.le_of_ble_eq_true rfl) rfl ?_
  exact gl_X10_cut_7 f Q hG f 0 0 0 0 0 0 _ _ hp
theorem ct_X10_cut (f : Nat) (I : am_I) (J : am_J) (Q : am_Q) (hG : Gr Q)  (hp : p_X10_cut f I J) : Cm MX10_cut 2 0 0 92 [.ref 46] I J Q (am_FvIJ Q (s_X10_cut f I J)) := cm_of (by decide) rfl IX10_cut_ok (Nat.le_of_ble_eq_true rfl) (gt_X10_cut f I J Q hG hp)
def s_X10_is (I : am_I) (a1 : Int32) : Int32 := (if (I 46 13) = 0 then (if (I 49 (I 46 11).toNatClampNeg) = a1 then 1 else 0) else 0)
def p_X10_is (I : am_I) (a1 : Int32) : Prop := (if (I 46 13) = 0 then vp_in (I 46 11) 403 else True)
theorem z_X10_is (I : am_I) (a1 : Int32) : (s_X10_is I a1) = 0 ∨ (s_X10_is I a1) = 1 := by
  unfold s_X10_is
  repeat' split
  all_goals first | exact Or.inl rfl | exact Or.inr rfl
set_option maxRecDepth 100000 in
set_option maxHeartbeats 4000000 in
theorem gt_X10_is (f : Nat) (I : am_I) (J : am_J) (Q : am_Q) (hG : Gr Q) (a1 : Int32) (hp : p_X10_is I a1) : Gd MX10_is (am_o 0 0 0 (am_Fi I J Q (s_X10_is I a1))) 0 0 92 0 [some (.ref 46), some (.int a1)] [] I J Q := by
  unfold s_X10_is
  unfold p_X10_is at hp
  refine gd_aload_n (q := 1) rfl rfl rfl ?_
  refine gd_getI (q := 4) rfl rfl rfl (Nat.le_of_ble_eq_true rfl) rfl rfl ?_
  refine gx_if_ne (q := 7) (r := 24) rfl rfl rfl hp (fun c_4 hp => ?_) (fun c_4 hp => ?_)
  · refine gd_aload_n (q := 8) rfl rfl rfl ?_
    refine gd_getR (q := 11) (r := 49) rfl rfl rfl (Nat.le_of_ble_eq_true rfl) rfl rfl (gr_46_5 hG) ?_
    refine gd_aload_n (q := 12) rfl rfl rfl ?_
    refine gd_getI (q := 15) rfl rfl rfl (Nat.le_of_ble_eq_true rfl) rfl rfl ?_
    refine gd_iald (q := 16) rfl rfl (Nat.le_of_ble_eq_true rfl) rfl hp ?_
    refine gd_iload_n (q := 17) rfl rfl rfl ?_
    refine gy_icmp_ne (q := 20) (r := 24) rfl rfl rfl (fun c_17 => ?_) (fun c_17 => ?_)
    · refine gd_iconst (v := 1) (q := 21) rfl rfl rfl ?_
      refine gd_goto (q := 25) rfl rfl ?_
      exact gd_ireturn rfl rfl rfl (Nat.le_refl 0) (Nat.le_refl 0) rfl
    · refine gd_iconst (v := 0) (q := 25) rfl rfl rfl ?_
      exact gd_ireturn rfl rfl rfl (Nat.le_refl 0) (Nat.le_refl 0) rfl
  · refine gd_iconst (v := 0) (q := 25) rfl rfl rfl ?_
    exact gd_ireturn rfl rfl rfl (Nat.le_refl 0) (Nat.le_refl 0) rfl
theorem ct_X10_is (f : Nat) (I : am_I) (J : am_J) (Q : am_Q) (hG : Gr Q) (a1 : Int32) (hp : p_X10_is I a1) : Cm MX10_is 0 0 0 92 [.ref 46, .int a1] I J Q (am_Fi I J Q (s_X10_is I a1)) := cm_of (by decide) rfl IX10_is_ok (Nat.le_of_ble_eq_true rfl) (gt_X10_is f I J Q hG a1 hp)
def s_X10_fail (I : am_I) (a1 : Int32) : am_I := (if (I 46 13) ≤ 0 then (am_w (am_w I 46 13 a1) 46 14 (I 50 (I 46 11).toNatClampNeg)) else I)
def p_X10_fail (I : am_I) (a1 : Int32) : Prop := (if (I 46 13) ≤ 0 then vp_in (I 46 11) 403 else True)
set_option maxRecDepth 100000 in
set_option maxHeartbeats 4000000 in
theorem gt_X10_fail (f : Nat) (I : am_I) (J : am_J) (Q : am_Q) (hG : Gr Q) (a1 : Int32) (hp : p_X10_fail I a1) : Gd MX10_fail (am_o 0 0 0 (am_FvI J Q (s_X10_fail I a1))) 0 0 92 0 [some (.ref 46), some (.int a1)] [] I J Q := by
  unfold s_X10_fail
  unfold p_X10_fail at hp
  refine gd_aload_n (q := 1) rfl rfl rfl ?_
  refine gd_getI (q := 4) rfl rfl rfl (Nat.le_of_ble_eq_true rfl) rfl rfl ?_
  refine gx_if_le (q := 7) (r := 8) rfl rfl rfl hp (fun c_4 hp => ?_) (fun c_4 hp => ?_)
  · refine gd_aload_n (q := 9) rfl rfl rfl ?_
    refine gd_iload_n (q := 10) rfl rfl rfl ?_
    refine gd_putI (q := 13) rfl rfl rfl (Nat.le_of_ble_eq_true rfl) rfl rfl rfl (Or.inl rfl) ?_
    refine gd_aload_n (q := 14) rfl rfl rfl ?_
    refine gd_aload_n (q := 15) rfl rfl rfl ?_
    refine gd_getR (q := 18) (r := 50) rfl rfl rfl (Nat.le_of_ble_eq_true rfl) rfl rfl (gr_46_6 hG) ?_
    refine gd_aload_n (q := 19) rfl rfl rfl ?_
    refine gd_getI (q := 22) rfl rfl rfl (Nat.le_of_ble_eq_true rfl) rfl rfl ?_
    refine gd_iald (q := 23) rfl rfl (Nat.le_of_ble_eq_true rfl) rfl hp ?_
    refine gd_putI (q := 26) rfl rfl rfl (Nat.le_of_ble_eq_true rfl) rfl rfl rfl (Or.inl rfl) ?_
    exact gd_return rfl rfl (Nat.le_refl 0) (Nat.le_refl 0) rfl
  · exact gd_return rfl rfl (Nat.le_refl 0) (Nat.le_refl 0) rfl
theorem ct_X10_fail (f : Nat) (I : am_I) (J : am_J) (Q : am_Q) (hG : Gr Q) (a1 : Int32) (hp : p_X10_fail I a1) : Cm MX10_fail 0 0 0 92 [.ref 46, .int a1] I J Q (am_FvI J Q (s_X10_fail I a1)) := cm_of (by decide) rfl IX10_fail_ok (Nat.le_of_ble_eq_true rfl) (gt_X10_fail f I J Q hG a1 hp)
def s_X10_next (I : am_I)  : am_I := (if (I 46 11) = 400 then (s_X10_fail I 2) else (am_w I 46 11 ((I 46 11) + 1)))
def p_X10_next (I : am_I)  : Prop := (if (I 46 11) = 400 then (p_X10_fail I 2) else True)
set_option maxRecDepth 100000 in
set_option maxHeartbeats 4000000 in
theorem gt_X10_next (f : Nat) (I : am_I) (J : am_J) (Q : am_Q) (hG : Gr Q)  (hp : p_X10_next I) : Gd MX10_next (am_o 1 0 0 (am_FvI J Q (s_X10_next I))) 0 0 92 0 [some (.ref 46)] [] I J Q := by
  unfold s_X10_next
  unfold p_X10_next at hp
  refine gd_aload_n (q := 1) rfl rfl rfl ?_
  refine gd_getI (q := 4) rfl rfl rfl (Nat.le_of_ble_eq_true rfl) rfl rfl ?_
  refine gd_sipush (v := 400) (q := 7) rfl rfl rfl ?_
  refine gx_icmp_ne (q := 10) (r := 18) rfl rfl rfl hp (fun c_7 hp => ?_) (fun c_7 hp => ?_)
  · refine gd_aload_n (q := 11) rfl rfl rfl ?_
    refine gd_iconst (v := 2) (q := 12) rfl rfl rfl ?_
    refine gd_cVv (q := 15) rfl rfl lk10_215 myX10_fail vxX10_fail (ct_X10_fail f _ _ _ hG _ hp) rfl (Nat.le_of_ble_eq_true rfl) rfl rfl (Nat.le_of_ble_eq_true rfl) rfl (Nat.le_of_ble_eq_true rfl) ⟨(Nat.le_of_ble_eq_true rfl), (Nat.le_of_ble_eq_true rfl)⟩ ?_
    refine gd_goto (q := 28) rfl rfl ?_
    exact gd_return rfl rfl (Nat.le_refl 0) (Nat.le_refl 0) rfl
  · refine gd_aload_n (q := 19) rfl rfl rfl ?_
    refine gd_dup (q := 20) rfl rfl rfl ?_
    refine gd_getI (q := 23) rfl rfl rfl (Nat.le_of_ble_eq_true rfl) rfl rfl ?_
    refine gd_iconst (v := 1) (q := 24) rfl rfl rfl ?_
    refine gd_iadd (q := 25) rfl rfl ?_
    refine gd_putI (q := 28) rfl rfl rfl (Nat.le_of_ble_eq_true rfl) rfl rfl rfl (Or.inl rfl) ?_
    exact gd_return rfl rfl (Nat.le_refl 0) (Nat.le_refl 0) rfl
theorem ct_X10_next (f : Nat) (I : am_I) (J : am_J) (Q : am_Q) (hG : Gr Q)  (hp : p_X10_next I) : Cm MX10_next 1 0 0 92 [.ref 46] I J Q (am_FvI J Q (s_X10_next I)) := cm_of (by decide) rfl IX10_next_ok (Nat.le_of_ble_eq_true rfl) (gt_X10_next f I J Q hG hp)
def s_X10_must (I : am_I) (a1 : Int32) : am_I := (if (s_X10_is I a1) = 0 then (s_X10_fail I 1) else (s_X10_next I))
def p_X10_must (I : am_I) (a1 : Int32) : Prop := ((p_X10_is I a1) ∧ (if (s_X10_is I a1) = 0 then (p_X10_fail I 1) else (p_X10_next I)))
set_option maxRecDepth 100000 in
set_option maxHeartbeats 4000000 in
theorem gt_X10_must (f : Nat) (I : am_I) (J : am_J) (Q : am_Q) (hG : Gr Q) (a1 : Int32) (hp : p_X10_must I a1) : Gd MX10_must (am_o 2 0 0 (am_FvI J Q (s_X10_must I a1))) 0 0 92 0 [some (.ref 46), some (.int a1)] [] I J Q := by
  unfold s_X10_must
  unfold p_X10_must at hp
  refine gd_aload_n (q := 1) rfl rfl rfl ?_
  refine gd_iload_n (q := 2) rfl rfl rfl ?_
  refine gd_cVi (q := 5) rfl rfl lk10_218 myX10_is vxX10_is (ct_X10_is f _ _ _ hG _ hp.1) rfl (Nat.le_of_ble_eq_true rfl) rfl rfl (Nat.le_of_ble_eq_true rfl) rfl (Nat.le_of_ble_eq_true rfl) ⟨(Nat.le_of_ble_eq_true rfl), (Nat.le_of_ble_eq_true rfl)⟩ ?_
  replace hp := hp.2
  refine gx_if_eq (q := 8) (r := 15) rfl rfl rfl hp (fun c_5 hp => ?_) (fun c_5 hp => ?_)
  · refine gd_aload_n (q := 16) rfl rfl rfl ?_
    refine gd_iconst (v := 1) (q := 17) rfl rfl rfl ?_
    refine gd_cVv (q := 20) rfl rfl lk10_215 myX10_fail vxX10_fail (ct_X10_fail f _ _ _ hG _ hp) rfl (Nat.le_of_ble_eq_true rfl) rfl rfl (Nat.le_of_ble_eq_true rfl) rfl (Nat.le_of_ble_eq_true rfl) ⟨(Nat.le_of_ble_eq_true rfl), (Nat.le_of_ble_eq_true rfl)⟩ ?_
    exact gd_return rfl rfl (Nat.le_refl 0) (Nat.le_refl 0) rfl
  · refine gd_aload_n (q := 9) rfl rfl rfl ?_
    refine gd_cVv (q := 12) rfl rfl lk10_221 myX10_next vxX10_next (ct_X10_next f _ _ _ hG hp) rfl (Nat.le_of_ble_eq_true rfl) rfl rfl (Nat.le_of_ble_eq_true rfl) rfl (Nat.le_of_ble_eq_true rfl) ⟨(Nat.le_of_ble_eq_true rfl), (Nat.le_of_ble_eq_true rfl)⟩ ?_
    refine gd_goto (q := 20) rfl rfl ?_
    exact gd_return rfl rfl (Nat.le_refl 0) (Nat.le_refl 0) rfl
theorem ct_X10_must (f : Nat) (I : am_I) (J : am_J) (Q : am_Q) (hG : Gr Q) (a1 : Int32) (hp : p_X10_must I a1) : Cm MX10_must 2 0 0 92 [.ref 46, .int a1] I J Q (am_FvI J Q (s_X10_must I a1)) := cm_of (by decide) rfl IX10_must_ok (Nat.le_of_ble_eq_true rfl) (gt_X10_must f I J Q hG a1 hp)
def s_X10_emit (I : am_I) (a1 : Int32) (a2 : Int32) : am_I := (am_w (am_w (am_w I 65 (I 46 30).toNatClampNeg a1) 66 (I 46 30).toNatClampNeg a2) 46 30 ((I 46 30) + 1))
def p_X10_emit (I : am_I) (a1 : Int32) (a2 : Int32) : Prop := (vp_in (I 46 30) 12000 ∧ vp_in (I 46 30) 12000)
set_option maxRecDepth 100000 in
set_option maxHeartbeats 4000000 in
theorem gt_X10_emit (f : Nat) (I : am_I) (J : am_J) (Q : am_Q) (hG : Gr Q) (a1 : Int32) (a2 : Int32) (hp : p_X10_emit I a1 a2) : Gd MX10_emit (am_o 0 0 0 (am_FvI J Q (s_X10_emit I a1 a2))) 0 0 92 0 [some (.ref 46), some (.int a1), some (.int a2)] [] I J Q := by
  unfold s_X10_emit
  unfold p_X10_emit at hp
  refine gd_aload_n (q := 1) rfl rfl rfl ?_
  refine gd_getR (q := 4) (r := 65) rfl rfl rfl (Nat.le_of_ble_eq_true rfl) rfl rfl (gr_46_31 hG) ?_
  refine gd_aload_n (q := 5) rfl rfl rfl ?_
  refine gd_getI (q := 8) rfl rfl rfl (Nat.le_of_ble_eq_true rfl) rfl rfl ?_
  refine gd_iload_n (q := 9) rfl rfl rfl ?_
  refine gd_iast (q := 10) rfl rfl (Nat.le_of_ble_eq_true rfl) rfl hp.1 ?_
  replace hp := hp.2
  refine gd_aload_n (q := 11) rfl rfl rfl ?_
  refine gd_getR (q := 14) (r := 66) rfl rfl rfl (Nat.le_of_ble_eq_true rfl) rfl rfl (gr_46_32 hG) ?_
  refine gd_aload_n (q := 15) rfl rfl rfl ?_
  refine gd_getI (q := 18) rfl rfl rfl (Nat.le_of_ble_eq_true rfl) rfl rfl ?_
  refine gd_iload_n (q := 19) rfl rfl rfl ?_
  refine gd_iast (q := 20) rfl rfl (Nat.le_of_ble_eq_true rfl) rfl hp ?_
  refine gd_aload_n (q := 21) rfl rfl rfl ?_
  refine gd_dup (q := 22) rfl rfl rfl ?_
  refine gd_getI (q := 25) rfl rfl rfl (Nat.le_of_ble_eq_true rfl) rfl rfl ?_
  refine gd_iconst (v := 1) (q := 26) rfl rfl rfl ?_
  refine gd_iadd (q := 27) rfl rfl ?_
  refine gd_putI (q := 30) rfl rfl rfl (Nat.le_of_ble_eq_true rfl) rfl rfl rfl (Or.inl rfl) ?_
  exact gd_return rfl rfl (Nat.le_refl 0) (Nat.le_refl 0) rfl
theorem ct_X10_emit (f : Nat) (I : am_I) (J : am_J) (Q : am_Q) (hG : Gr Q) (a1 : Int32) (a2 : Int32) (hp : p_X10_emit I a1 a2) : Cm MX10_emit 0 0 0 92 [.ref 46, .int a1, .int a2] I J Q (am_FvI J Q (s_X10_emit I a1 a2)) := cm_of (by decide) rfl IX10_emit_ok (Nat.le_of_ble_eq_true rfl) (gt_X10_emit f I J Q hG a1 a2 hp)
def s_X10_comesOut_L0 (a1 : Int32)  : Nat → Nat → am_I → am_I
  | 0, _, I => I
  | g + 1, 0, I => (if (I 46 34) ≤ 0 then I else (if (I 67 ((I 46 34) - 1).toNatClampNeg) = 6 then I else (if a1 = 0 then (s_X10_comesOut_L0 a1 g 1 I) else (if (I 67 ((I 46 34) - 1).toNatClampNeg) = 10 then (s_X10_comesOut_L0 a1 g 1 I) else I))))
  | g + 1, 1, I => (if (I 67 ((I 46 34) - 1).toNatClampNeg) = 8 then (s_X10_comesOut_L0 a1 g 0 (s_X10_emit (am_w I 46 34 ((I 46 34) - 1)) 2 0)) else (if (I 67 ((I 46 34) - 1).toNatClampNeg) = 9 then (s_X10_comesOut_L0 a1 g 0 (s_X10_emit (am_w I 46 34 ((I 46 34) - 1)) 3 0)) else (s_X10_comesOut_L0 a1 g 0 (s_X10_emit (am_w I 46 34 ((I 46 34) - 1)) 4 0))))
  | _ + 1, _ + 2, I => I
def p_X10_comesOut_L0 (a1 : Int32)  : Nat → Nat → am_I → Prop
  | 0, _, _ => False
  | g + 1, 0, I => (if (I 46 34) ≤ 0 then True else (vp_in ((I 46 34) - 1) 48 ∧ (if (I 67 ((I 46 34) - 1).toNatClampNeg) = 6 then True else (if a1 = 0 then (p_X10_comesOut_L0 a1 g 1 I) else (vp_in ((I 46 34) - 1) 48 ∧ (if (I 67 ((I 46 34) - 1).toNatClampNeg) = 10 then (p_X10_comesOut_L0 a1 g 1 I) else True))))))
  | g + 1, 1, I => (vp_in ((I 46 34) - 1) 48 ∧ (if (I 67 ((I 46 34) - 1).toNatClampNeg) = 8 then ((p_X10_emit (am_w I 46 34 ((I 46 34) - 1)) 2 0) ∧ (p_X10_comesOut_L0 a1 g 0 (s_X10_emit (am_w I 46 34 ((I 46 34) - 1)) 2 0))) else (if (I 67 ((I 46 34) - 1).toNatClampNeg) = 9 then ((p_X10_emit (am_w I 46 34 ((I 46 34) - 1)) 3 0) ∧ (p_X10_comesOut_L0 a1 g 0 (s_X10_emit (am_w I 46 34 ((I 46 34) - 1)) 3 0))) else ((p_X10_emit (am_w I 46 34 ((I 46 34) - 1)) 4 0) ∧ (p_X10_comesOut_L0 a1 g 0 (s_X10_emit (am_w I 46 34 ((I 46 34) - 1)) 4 0))))))
  | _ + 1, _ + 2, _ => False
def s_X10_comesOut (f : Nat) (I : am_I) (a1 : Int32) : am_I := (if (I 46 34) ≤ 0 then I else (if (I 67 ((I 46 34) - 1).toNatClampNeg) = 6 then I else (if a1 = 0 then (s_X10_comesOut_L0 a1 f 1 I) else (if (I 67 ((I 46 34) - 1).toNatClampNeg) = 10 then (s_X10_comesOut_L0 a1 f 1 I) else I))))
def p_X10_comesOut (f : Nat) (I : am_I) (a1 : Int32) : Prop := (if (I 46 34) ≤ 0 then True else (vp_in ((I 46 34) - 1) 48 ∧ (if (I 67 ((I 46 34) - 1).toNatClampNeg) = 6 then True else (if a1 = 0 then (p_X10_comesOut_L0 a1 f 1 I) else (vp_in ((I 46 34) - 1) 48 ∧ (if (I 67 ((I 46 34) - 1).toNatClampNeg) = 10 then (p_X10_comesOut_L0 a1 f 1 I) else True))))))
set_option maxRecDepth 100000 in
set_option maxHeartbeats 4000000 in
theorem gl_X10_comesOut_L0 (a1 : Int32) (f : Nat) (J : am_J) (Q : am_Q) (hG : Gr Q) : ∀ g : Nat, (∀ (I : am_I), p_X10_comesOut_L0 a1 g 0 I → Gd MX10_comesOut (am_o 1 0 0 (am_FvI J Q (s_X10_comesOut_L0 a1 g 0 I))) 0 0 92 0 [some (.ref 46), some (.int a1), none] [] I J Q) ∧ (∀ (I : am_I), p_X10_comesOut_L0 a1 g 1 I → Gd MX10_comesOut (am_o 1 0 0 (am_FvI J Q (s_X10_comesOut_L0 a1 g 1 I))) 0 0 92 43 [some (.ref 46), some (.int a1), none] [] I J Q) := by
  intro g
  induction g with
  | zero => exact ⟨fun _ hp => False.elim hp, fun _ hp => False.elim hp⟩
  | succ g ih =>
    have ih_0 := ih.1
    have ih_43 := ih.2
    refine ⟨?_, ?_⟩
    · intro I hp
      rw [s_X10_comesOut_L0]
      rw [p_X10_comesOut_L0] at hp
      refine gd_aload_n (q := 1) rfl rfl rfl ?_
      refine gd_getI (q := 4) rfl rfl rfl (Nat.le_of_ble_eq_true rfl) rfl rfl ?_
      refine gx_if_le (q := 7) (r := 92) rfl rfl rfl hp (fun c_4 hp => ?_) (fun c_4 hp => ?_)
      · exact gd_return rfl rfl (Nat.le_refl 0) (Nat.le_refl 0) rfl
      · refine gd_aload_n (q := 8) rfl rfl rfl ?_
        refine gd_getR (q := 11) (r := 67) rfl rfl rfl (Nat.le_of_ble_eq_true rfl) rfl rfl (gr_46_33 hG) ?_
        refine gd_aload_n (q := 12) rfl rfl rfl ?_
        refine gd_getI (q := 15) rfl rfl rfl (Nat.le_of_ble_eq_true rfl) rfl rfl ?_
        refine gd_iconst (v := 1) (q := 16) rfl rfl rfl ?_
        refine gd_isub (q := 17) rfl rfl ?_
        refine gd_iald (q := 18) rfl rfl (Nat.le_of_ble_eq_true rfl) rfl hp.1 ?_
        replace hp := hp.2
        refine gd_bipush (v := 6) (q := 20) rfl rfl rfl ?_
        refine gx_icmp_eq (q := 23) (r := 92) rfl rfl rfl hp (fun c_20 hp => ?_) (fun c_20 hp => ?_)
        · exact gd_return rfl rfl (Nat.le_refl 0) (Nat.le_refl 0) rfl
        · refine gd_iload_n (q := 24) rfl rfl rfl ?_
          refine gx_if_eq (q := 27) (r := 43) rfl rfl rfl hp (fun c_24 hp => ?_) (fun c_24 hp => ?_)
          · exact ih_43 _ hp
          · refine gd_aload_n (q := 28) rfl rfl rfl ?_
            refine gd_getR (q := 31) (r := 67) rfl rfl rfl (Nat.le_of_ble_eq_true rfl) rfl rfl (gr_46_33 hG) ?_
            refine gd_aload_n (q := 32) rfl rfl rfl ?_
            refine gd_getI (q := 35) rfl rfl rfl (Nat.le_of_ble_eq_true rfl) rfl rfl ?_
            refine gd_iconst (v := 1) (q := 36) rfl rfl rfl ?_
            refine gd_isub (q := 37) rfl rfl ?_
            refine gd_iald (q := 38) rfl rfl (Nat.le_of_ble_eq_true rfl) rfl hp.1 ?_
            replace hp := hp.2
            refine gd_bipush (v := 10) (q := 40) rfl rfl rfl ?_
            refine gx_icmp_ne (q := 43) (r := 92) rfl rfl rfl hp (fun c_40 hp => ?_) (fun c_40 hp => ?_)
            · exact ih_43 _ hp
            · exact gd_return rfl rfl (Nat.le_refl 0) (Nat.le_refl 0) rfl
    · intro I hp
      rw [s_X10_comesOut_L0]
      rw [p_X10_comesOut_L0] at hp
      refine gd_aload_n (q := 44) rfl rfl rfl ?_
      refine gd_dup (q := 45) rfl rfl rfl ?_
      refine gd_getI (q := 48) rfl rfl rfl (Nat.le_of_ble_eq_true rfl) rfl rfl ?_
      refine gd_iconst (v := 1) (q := 49) rfl rfl rfl ?_
      refine gd_isub (q := 50) rfl rfl ?_
      refine gd_putI (q := 53) rfl rfl rfl (Nat.le_of_ble_eq_true rfl) rfl rfl rfl (Or.inl rfl) ?_
      refine gd_aload_n (q := 54) rfl rfl rfl ?_
      refine gd_getR (q := 57) (r := 67) rfl rfl rfl (Nat.le_of_ble_eq_true rfl) rfl rfl (gr_46_33 hG) ?_
      refine gd_aload_n (q := 58) rfl rfl rfl ?_
      refine gd_getI (q := 61) rfl rfl rfl (Nat.le_of_ble_eq_true rfl) rfl rfl ?_
      refine gd_iald (q := 62) rfl rfl (Nat.le_of_ble_eq_true rfl) rfl hp.1 ?_
      replace hp := hp.2
      refine gd_istore_n (q := 63) rfl rfl (Nat.le_of_ble_eq_true rfl) rfl ?_
      refine gd_aload_n (q := 64) rfl rfl rfl ?_
      refine gd_iload_n (q := 65) rfl rfl rfl ?_
      refine gd_bipush (v := 8) (q := 67) rfl rfl rfl ?_
      refine gx_icmp_ne (q := 70) (r := 74) rfl rfl rfl hp (fun c_67 hp => ?_) (fun c_67 hp => ?_)
      · refine gd_iconst (v := 2) (q := 71) rfl rfl rfl ?_
        refine gd_goto (q := 85) rfl rfl ?_
        refine gd_iconst (v := 0) (q := 86) rfl rfl rfl ?_
        refine gd_cVv (q := 89) rfl rfl lk10_256 myX10_emit vxX10_emit (ct_X10_emit f _ _ _ hG _ _ hp.1) rfl (Nat.le_of_ble_eq_true rfl) rfl rfl (Nat.le_of_ble_eq_true rfl) rfl (Nat.le_of_ble_eq_true rfl) ⟨(Nat.le_of_ble_eq_true rfl), (Nat.le_of_ble_eq_true rfl)⟩ ?_
        replace hp := hp.2
        refine gd_goto (q := 0) rfl rfl ?_
        refine gd_drop 2 ?_
        exact ih_0 _ hp
      · refine gd_iload_n (q := 75) rfl rfl rfl ?_
        refine gd_bipush (v := 9) (q := 77) rfl rfl rfl ?_
        refine gx_icmp_ne (q := 80) (r := 84) rfl rfl rfl hp (fun c_77 hp => ?_) (fun c_77 hp => ?_)
        · refine gd_iconst (v := 3) (q := 81) rfl rfl rfl ?_
          refine gd_goto (q := 85) rfl rfl ?_
          refine gd_iconst (v := 0) (q := 86) rfl rfl rfl ?_
          refine gd_cVv (q := 89) rfl rfl lk10_256 myX10_emit vxX10_emit (ct_X10_emit f _ _ _ hG _ _ hp.1) rfl (Nat.le_of_ble_eq_true rfl) rfl rfl (Nat.le_of_ble_eq_true rfl) rfl (Nat.le_of_ble_eq_true rfl) ⟨(Nat.le_of_ble_eq_true rfl), (Nat.le_of_ble_eq_true rfl)⟩ ?_
          replace hp := hp.2
          refine gd_goto (q := 0) rfl rfl ?_
          refine gd_drop 2 ?_
          exact ih_0 _ hp
        · refine gd_iconst (v := 4) (q := 85) rfl rfl rfl ?_
          refine gd_iconst (v := 0) (q := 86) rfl rfl rfl ?_
          refine gd_cVv (q := 89) rfl rfl lk10_256 myX10_emit vxX10_emit (ct_X10_emit f _ _ _ hG _ _ hp.1) rfl (Nat.le_of_ble_eq_true rfl) rfl rfl (Nat.le_of_ble_eq_true rfl) rfl (Nat.le_of_ble_eq_true rfl) ⟨(Nat.le_of_ble_eq_true rfl), (Nat.le_of_ble_eq_true rfl)⟩ ?_
          replace hp := hp.2
          refine gd_goto (q := 0) rfl rfl ?_
          refine gd_drop 2 ?_
          exact ih_0 _ hp
theorem gl_X10_comesOut_0 (a1 : Int32) (f : Nat) (J : am_J) (Q : am_Q) (hG : Gr Q) (g : Nat) : ∀ (I : am_I), p_X10_comesOut_L0 a1 g 0 I → Gd MX10_comesOut (am_o 1 0 0 (am_FvI J Q (s_X10_comesOut_L0 a1 g 0 I))) 0 0 92 0 [some (.ref 46), some (.int a1), none] [] I J Q := (gl_X10_comesOut_L0 a1 f J Q hG g).1
theorem gl_X10_comesOut_43 (a1 : Int32) (f : Nat) (J : am_J) (Q : am_Q) (hG : Gr Q) (g : Nat) : ∀ (I : am_I), p_X10_comesOut_L0 a1 g 1 I → Gd MX10_comesOut (am_o 1 0 0 (am_FvI J Q (s_X10_comesOut_L0 a1 g 1 I))) 0 0 92 43 [some (.ref 46), some (.int a1), none] [] I J Q := (gl_X10_comesOut_L0 a1 f J Q hG g).2
set_option maxRecDepth 100000 in
set_option maxHeartbeats 4000000 in
theorem gt_X10_comesOut (f : Nat) (I : am_I) (J : am_J) (Q : am_Q) (hG : Gr Q) (a1 : Int32) (hp : p_X10_comesOut f I a1) : Gd MX10_comesOut (am_o 1 0 0 (am_FvI J Q (s_X10_comesOut f I a1))) 0 0 92 0 [some (.ref 46), some (.int a1), none] [] I J Q := by
  unfold s_X10_comesOut
  unfold p_X10_comesOut at hp
  refine gd_aload_n (q := 1) rfl rfl rfl ?_
  refine gd_getI (q := 4) rfl rfl rfl (Nat.le_of_ble_eq_true rfl) rfl rfl ?_
  refine gx_if_le (q := 7) (r := 92) rfl rfl rfl hp (fun c_4 hp => ?_) (fun c_4 hp => ?_)
  · exact gd_return rfl rfl (Nat.le_refl 0) (Nat.le_refl 0) rfl
  · refine gd_aload_n (q := 8) rfl rfl rfl ?_
    refine gd_getR (q := 11) (r := 67) rfl rfl rfl (Nat.le_of_ble_eq_true rfl) rfl rfl (gr_46_33 hG) ?_
    refine gd_aload_n (q := 12) rfl rfl rfl ?_
    refine gd_getI (q := 15) rfl rfl rfl (Nat.le_of_ble_eq_true rfl) rfl rfl ?_
    refine gd_iconst (v := 1) (q := 16) rfl rfl rfl ?_
    refine gd_isub (q := 17) rfl rfl ?_
    refine gd_iald (q := 18) rfl rfl (Nat.le_of_ble_eq_true rfl) rfl hp.1 ?_
    replace hp := hp.2
    refine gd_bipush (v := 6) (q := 20) rfl rfl rfl ?_
    refine gx_icmp_eq (q := 23) (r := 92) rfl rfl rfl hp (fun c_20 hp => ?_) (fun c_20 hp => ?_)
    · exact gd_return rfl rfl (Nat.le_refl 0) (Nat.le_refl 0) rfl
    · refine gd_iload_n (q := 24) rfl rfl rfl ?_
      refine gx_if_eq (q := 27) (r := 43) rfl rfl rfl hp (fun c_24 hp => ?_) (fun c_24 hp => ?_)
      · exact gl_X10_comesOut_43 a1 f J Q hG f _ hp
      · refine gd_aload_n (q := 28) rfl rfl rfl ?_
        refine gd_getR (q := 31) (r := 67) rfl rfl rfl (Nat.le_of_ble_eq_true rfl) rfl rfl (gr_46_33 hG) ?_
        refine gd_aload_n (q := 32) rfl rfl rfl ?_
        refine gd_getI (q := 35) rfl rfl rfl (Nat.le_of_ble_eq_true rfl) rfl rfl ?_
        refine gd_iconst (v := 1) (q := 36) rfl rfl rfl ?_
        refine gd_isub (q := 37) rfl rfl ?_
        refine gd_iald (q := 38) rfl rfl (Nat.le_of_ble_eq_true rfl) rfl hp.1 ?_
        replace hp := hp.2
        refine gd_bipush (v := 10) (q := 40) rfl rfl rfl ?_
        refine gx_icmp_ne (q := 43) (r := 92) rfl rfl rfl hp (fun c_40 hp => ?_) (fun c_40 hp => ?_)
        · exact gl_X10_comesOut_43 a1 f J Q hG f _ hp
        · exact gd_return rfl rfl (Nat.le_refl 0) (Nat.le_refl 0) rfl
theorem ct_X10_comesOut (f : Nat) (I : am_I) (J : am_J) (Q : am_Q) (hG : Gr Q) (a1 : Int32) (hp : p_X10_comesOut f I a1) : Cm MX10_comesOut 1 0 0 92 [.ref 46, .int a1] I J Q (am_FvI J Q (s_X10_comesOut f I a1)) := cm_of (by decide) rfl IX10_comesOut_ok (Nat.le_of_ble_eq_true rfl) (gt_X10_comesOut f I J Q hG a1 hp)
def s_X10_expression_L12  (f : Nat) : Nat → Nat → Int32 → Int32 → Int32 → Int32 → Int32 → am_I → am_I
  | 0, _, _, _, _, _, _, I => I
  | g + 1, 0, v1, v2, v3, v4, t0, I => (if v2 = 0 then I else (if (I 46 13) = 0 then (if (s_X10_is I 6) = 0 then (if (I 46 13) = 0 then (if (I 49 (I 46 11).toNatClampNeg) < 27 then (if (s_X10_is I 2) = 0 then (s_X10_expression_L12 f g 2 v1 0 0 0 0 (s_X10_fail I 1)) else (s_X10_expression_L12 f g 2 v1 0 0 0 0 I)) else (if 33 < (I 49 (I 46 11).toNatClampNeg) then (if (s_X10_is I 2) = 0 then (s_X10_expression_L12 f g 2 v1 0 0 0 0 (s_X10_fail I 1)) else (s_X10_expression_L12 f g 2 v1 0 0 0 0 I)) else (if (s_X10_is I 2) = 0 then (s_X10_expression_L12 f g 2 v1 0 1 0 0 I) else (s_X10_expression_L12 f g 2 v1 0 1 0 0 I)))) else (if (s_X10_is I 2) = 0 then (s_X10_expression_L12 f g 2 v1 0 0 0 0 (s_X10_fail I 1)) else (s_X10_expression_L12 f g 2 v1 0 0 0 0 I))) else (if (I 46 12) = 6 then (s_X10_expression_L12 f g 1 v1 v2 0 0 0 (s_X10_fail I 2)) else (s_X10_expression_L12 f g 1 v1 v2 0 0 0 I))) else I))
  | g + 1, 1, v1, v2, v3, v4, t0, I => (if (I 46 13) ≤ 0 then (s_X10_expression_L12 f g 0 v1 v2 0 0 0 (am_w (am_w (s_X10_next (am_w I 46 12 ((I 46 12) + 1))) 67 ((s_X10_next (am_w I 46 12 ((I 46 12) + 1))) 46 34).toNatClampNeg 6) 46 34 (((s_X10_next (am_w I 46 12 ((I 46 12) + 1))) 46 34) + 1))) else I)
  | g + 1, 2, v1, v2, v3, v4, t0, I => (if (I 46 13) ≤ 0 then (if v3 = 0 then (s_X10_expression_L12 f g 3 v1 0 0 0 0 (s_X10_next (s_X10_emit I 0 (I 51 (I 46 11).toNatClampNeg)))) else (s_X10_expression_L12 f g 3 v1 0 0 0 0 (s_X10_next (s_X10_emit I 1 ((I 49 (I 46 11).toNatClampNeg) - 27))))) else I)
  | g + 1, 3, v1, v2, v3, v4, t0, I => (if (s_X10_is I 7) = 0 then (s_X10_expression_L12 f g 4 v1 0 0 0 0 I) else (if (I 46 12) ≤ v1 then (s_X10_expression_L12 f g 4 v1 0 0 0 0 I) else (s_X10_expression_L12 f g 3 v1 0 0 0 0 (s_X10_next (am_w (am_w (s_X10_comesOut f I 0) 46 34 (((s_X10_comesOut f I 0) 46 34) - 1)) 46 12 (((s_X10_comesOut f I 0) 46 12) - 1))))))
  | g + 1, 4, v1, v2, v3, v4, t0, I => (if (s_X10_is I 8) = 0 then (if (s_X10_is I 9) = 0 then (if (s_X10_is I 10) = 0 then (s_X10_expression_L12 f g 5 v1 0 0 0 0 I) else (s_X10_expression_L12 f g 5 v1 0 0 0 1 I)) else (s_X10_expression_L12 f g 5 v1 0 0 0 1 I)) else (s_X10_expression_L12 f g 5 v1 0 0 0 1 I))
  | g + 1, 5, v1, v2, v3, v4, t0, I => (if t0 = 0 then (if (I 46 12) ≤ v1 then (s_X10_comesOut f I 0) else (s_X10_comesOut f (s_X10_fail I 1) 0)) else (if (I 49 (I 46 11).toNatClampNeg) = 10 then (s_X10_expression_L12 f g 6 v1 t0 0 (I 49 (I 46 11).toNatClampNeg) 1 I) else (s_X10_expression_L12 f g 6 v1 t0 0 (I 49 (I 46 11).toNatClampNeg) 0 I)))
  | g + 1, 6, v1, v2, v3, v4, t0, I => (s_X10_expression_L12 f g 0 v1 v2 0 0 0 (s_X10_next (am_w (am_w (s_X10_comesOut f I t0) 67 ((s_X10_comesOut f I t0) 46 34).toNatClampNeg v4) 46 34 (((s_X10_comesOut f I t0) 46 34) + 1))))
  | _ + 1, _ + 7, _, _, _, _, _, I => I
def p_X10_expression_L12  (f : Nat) : Nat → Nat → Int32 → Int32 → Int32 → Int32 → Int32 → am_I → Prop
  | 0, _, _, _, _, _, _, _ => False
  | g + 1, 0, v1, v2, v3, v4, t0, I => (if v2 = 0 then True else (if (I 46 13) = 0 then ((p_X10_is I 6) ∧ (if (s_X10_is I 6) = 0 then (if (I 46 13) = 0 then (vp_in (I 46 11) 403 ∧ (if (I 49 (I 46 11).toNatClampNeg) < 27 then ((p_X10_is I 2) ∧ (if (s_X10_is I 2) = 0 then ((p_X10_fail I 1) ∧ (p_X10_expression_L12 f g 2 v1 0 0 0 0 (s_X10_fail I 1))) else (p_X10_expression_L12 f g 2 v1 0 0 0 0 I))) else (vp_in (I 46 11) 403 ∧ (if 33 < (I 49 (I 46 11).toNatClampNeg) then ((p_X10_is I 2) ∧ (if (s_X10_is I 2) = 0 then ((p_X10_fail I 1) ∧ (p_X10_expression_L12 f g 2 v1 0 0 0 0 (s_X10_fail I 1))) else (p_X10_expression_L12 f g 2 v1 0 0 0 0 I))) else ((p_X10_is I 2) ∧ (if (s_X10_is I 2) = 0 then (p_X10_expression_L12 f g 2 v1 0 1 0 0 I) else (p_X10_expression_L12 f g 2 v1 0 1 0 0 I))))))) else ((p_X10_is I 2) ∧ (if (s_X10_is I 2) = 0 then ((p_X10_fail I 1) ∧ (p_X10_expression_L12 f g 2 v1 0 0 0 0 (s_X10_fail I 1))) else (p_X10_expression_L12 f g 2 v1 0 0 0 0 I)))) else (if (I 46 12) = 6 then ((p_X10_fail I 2) ∧ (p_X10_expression_L12 f g 1 v1 v2 0 0 0 (s_X10_fail I 2))) else (p_X10_expression_L12 f g 1 v1 v2 0 0 0 I)))) else True))
  | g + 1, 1, v1, v2, v3, v4, t0, I => (if (I 46 13) ≤ 0 then ((p_X10_next (am_w I 46 12 ((I 46 12) + 1))) ∧ (vp_in ((s_X10_next (am_w I 46 12 ((I 46 12) + 1))) 46 34) 48 ∧ (p_X10_expression_L12 f g 0 v1 v2 0 0 0 (am_w (am_w (s_X10_next (am_w I 46 12 ((I 46 12) + 1))) 67 ((s_X10_next (am_w I 46 12 ((I 46 12) + 1))) 46 34).toNatClampNeg 6) 46 34 (((s_X10_next (am_w I 46 12 ((I 46 12) + 1))) 46 34) + 1))))) else True)
  | g + 1, 2, v1, v2, v3, v4, t0, I => (if (I 46 13) ≤ 0 then (if v3 = 0 then (vp_in (I 46 11) 403 ∧ ((p_X10_emit I 0 (I 51 (I 46 11).toNatClampNeg)) ∧ ((p_X10_next (s_X10_emit I 0 (I 51 (I 46 11).toNatClampNeg))) ∧ (p_X10_expression_L12 f g 3 v1 0 0 0 0 (s_X10_next (s_X10_emit I 0 (I 51 (I 46 11).toNatClampNeg))))))) else (vp_in (I 46 11) 403 ∧ ((p_X10_emit I 1 ((I 49 (I 46 11).toNatClampNeg) - 27)) ∧ ((p_X10_next (s_X10_emit I 1 ((I 49 (I 46 11).toNatClampNeg) - 27))) ∧ (p_X10_expression_L12 f g 3 v1 0 0 0 0 (s_X10_next (s_X10_emit I 1 ((I 49 (I 46 11).toNatClampNeg) - 27)))))))) else True)
  | g + 1, 3, v1, v2, v3, v4, t0, I => ((p_X10_is I 7) ∧ (if (s_X10_is I 7) = 0 then (p_X10_expression_L12 f g 4 v1 0 0 0 0 I) else (if (I 46 12) ≤ v1 then (p_X10_expression_L12 f g 4 v1 0 0 0 0 I) else ((p_X10_comesOut f I 0) ∧ ((p_X10_next (am_w (am_w (s_X10_comesOut f I 0) 46 34 (((s_X10_comesOut f I 0) 46 34) - 1)) 46 12 (((s_X10_comesOut f I 0) 46 12) - 1))) ∧ (p_X10_expression_L12 f g 3 v1 0 0 0 0 (s_X10_next (am_w (am_w (s_X10_comesOut f I 0) 46 34 (((s_X10_comesOut f I 0) 46 34) - 1)) 46 12 (((s_X10_comesOut f I 0) 46 12) - 1)))))))))
  | g + 1, 4, v1, v2, v3, v4, t0, I => ((p_X10_is I 8) ∧ (if (s_X10_is I 8) = 0 then ((p_X10_is I 9) ∧ (if (s_X10_is I 9) = 0 then ((p_X10_is I 10) ∧ (if (s_X10_is I 10) = 0 then (p_X10_expression_L12 f g 5 v1 0 0 0 0 I) else (p_X10_expression_L12 f g 5 v1 0 0 0 1 I))) else (p_X10_expression_L12 f g 5 v1 0 0 0 1 I))) else (p_X10_expression_L12 f g 5 v1 0 0 0 1 I)))
  | g + 1, 5, v1, v2, v3, v4, t0, I => (if t0 = 0 then (if (I 46 12) ≤ v1 then (p_X10_comesOut f I 0) else ((p_X10_fail I 1) ∧ (p_X10_comesOut f (s_X10_fail I 1) 0))) else (vp_in (I 46 11) 403 ∧ (if (I 49 (I 46 11).toNatClampNeg) = 10 then (p_X10_expression_L12 f g 6 v1 t0 0 (I 49 (I 46 11).toNatClampNeg) 1 I) else (p_X10_expression_L12 f g 6 v1 t0 0 (I 49 (I 46 11).toNatClampNeg) 0 I))))
  | g + 1, 6, v1, v2, v3, v4, t0, I => ((p_X10_comesOut f I t0) ∧ (vp_in ((s_X10_comesOut f I t0) 46 34) 48 ∧ ((p_X10_next (am_w (am_w (s_X10_comesOut f I t0) 67 ((s_X10_comesOut f I t0) 46 34).toNatClampNeg v4) 46 34 (((s_X10_comesOut f I t0) 46 34) + 1))) ∧ (p_X10_expression_L12 f g 0 v1 v2 0 0 0 (s_X10_next (am_w (am_w (s_X10_comesOut f I t0) 67 ((s_X10_comesOut f I t0) 46 34).toNatClampNeg v4) 46 34 (((s_X10_comesOut f I t0) 46 34) + 1)))))))
  | _ + 1, _ + 7, _, _, _, _, _, _ => False
def s_X10_expression (f : Nat) (I : am_I)  : am_I := (s_X10_expression_L12 f f 0 (I 46 12) 1 0 0 0 (am_w I 46 34 0))
def p_X10_expression (f : Nat) (I : am_I)  : Prop := (p_X10_expression_L12 f f 0 (I 46 12) 1 0 0 0 (am_w I 46 34 0))
set_option maxRecDepth 100000 in
set_option maxHeartbeats 4000000 in
theorem gl_X10_expression_L12  (f : Nat) (J : am_J) (Q : am_Q) (hG : Gr Q) : ∀ g : Nat, (∀ (v1 : Int32) (v2 : Int32) (v3 : Int32) (v4 : Int32) (t0 : Int32) (I : am_I), p_X10_expression_L12 f g 0 v1 v2 0 0 0 I → Gd MX10_expression (am_o 2 0 0 (am_FvI J Q (s_X10_expression_L12 f g 0 v1 v2 0 0 0 I))) 0 0 92 12 [some (.ref 46), some (.int v1), some (.int v2), none, none] [] I J Q) ∧ (∀ (v1 : Int32) (v2 : Int32) (v3 : Int32) (v4 : Int32) (t0 : Int32) (I : am_I), p_X10_expression_L12 f g 1 v1 v2 0 0 0 I → Gd MX10_expression (am_o 2 0 0 (am_FvI J Q (s_X10_expression_L12 f g 1 v1 v2 0 0 0 I))) 0 0 92 46 [some (.ref 46), some (.int v1), some (.int v2), none, none] [] I J Q) ∧ (∀ (v1 : Int32) (v2 : Int32) (v3 : Int32) (v4 : Int32) (t0 : Int32) (I : am_I), p_X10_expression_L12 f g 2 v1 0 v3 0 0 I → Gd MX10_expression (am_o 2 0 0 (am_FvI J Q (s_X10_expression_L12 f g 2 v1 0 v3 0 0 I))) 0 0 92 150 [some (.ref 46), some (.int v1), none, some (.int v3), none] [] I J Q) ∧ (∀ (v1 : Int32) (v2 : Int32) (v3 : Int32) (v4 : Int32) (t0 : Int32) (I : am_I), p_X10_expression_L12 f g 3 v1 0 0 0 0 I → Gd MX10_expression (am_o 2 0 0 (am_FvI J Q (s_X10_expression_L12 f g 3 v1 0 0 0 0 I))) 0 0 92 200 [some (.ref 46), some (.int v1), none, none, none] [] I J Q) ∧ (∀ (v1 : Int32) (v2 : Int32) (v3 : Int32) (v4 : Int32) (t0 : Int32) (I : am_I), p_X10_expression_L12 f g 4 v1 0 0 0 0 I → Gd MX10_expression (am_o 2 0 0 (am_FvI J Q (s_X10_expression_L12 f g 4 v1 0 0 0 0 I))) 0 0 92 249 [some (.ref 46), some (.int v1), none, none, none] [] I J Q) ∧ (∀ (v1 : Int32) (v2 : Int32) (v3 : Int32) (v4 : Int32) (t0 : Int32) (I : am_I), p_X10_expression_L12 f g 5 v1 0 0 0 t0 I → Gd MX10_expression (am_o 2 0 0 (am_FvI J Q (s_X10_expression_L12 f g 5 v1 0 0 0 t0 I))) 0 0 92 281 [some (.ref 46), some (.int v1), none, none, none] [.int t0] I J Q) ∧ (∀ (v1 : Int32) (v2 : Int32) (v3 : Int32) (v4 : Int32) (t0 : Int32) (I : am_I), p_X10_expression_L12 f g 6 v1 v2 0 v4 t0 I → Gd MX10_expression (am_o 2 0 0 (am_FvI J Q (s_X10_expression_L12 f g 6 v1 v2 0 v4 t0 I))) 0 0 92 329 [some (.ref 46), some (.int v1), some (.int v2), none, some (.int v4)] [.int t0, .ref 46] I J Q) := by
  intro g
  induction g with
  | zero => exact ⟨fun _ _ _ _ _ _ hp => False.elim hp, fun _ _ _ _ _ _ hp => False.elim hp, fun _ _ _ _ _ _ hp => False.elim hp, fun _ _ _ _ _ _ hp => False.elim hp, fun _ _ _ _ _ _ hp => False.elim hp, fun _ _ _ _ _ _ hp => False.elim hp, fun _ _ _ _ _ _ hp => False.elim hp⟩
  | succ g ih =>
    have ih_12 := ih.1
    have ih_46 := ih.2.1
    have ih_150 := ih.2.2.1
    have ih_200 := ih.2.2.2.1
    have ih_249 := ih.2.2.2.2.1
    have ih_281 := ih.2.2.2.2.2.1
    have ih_329 := ih.2.2.2.2.2.2
    refine ⟨?_, ?_, ?_, ?_, ?_, ?_, ?_⟩
    · intro v1 v2 v3 v4 t0 I hp
      rw [s_X10_expression_L12]
      rw [p_X10_expression_L12] at hp
      refine gd_iload_n (q := 13) rfl rfl rfl ?_
      refine gx_if_eq (q := 16) (r := 360) rfl rfl rfl hp (fun c_13 hp => ?_) (fun c_13 hp => ?_)
      · exact gd_return rfl rfl (Nat.le_refl 0) (Nat.le_refl 0) rfl
      · refine gd_aload_n (q := 17) rfl rfl rfl ?_
        refine gd_getI (q := 20) rfl rfl rfl (Nat.le_of_ble_eq_true rfl) rfl rfl ?_
        refine gx_if_ne (q := 23) (r := 360) rfl rfl rfl hp (fun c_20 hp => ?_) (fun c_20 hp => ?_)
        · refine gd_aload_n (q := 24) rfl rfl rfl ?_
          refine gd_bipush (v := 6) (q := 26) rfl rfl rfl ?_
          refine gd_cVi (q := 29) rfl rfl lk10_218 myX10_is vxX10_is (ct_X10_is f _ _ _ hG _ hp.1) rfl (Nat.le_of_ble_eq_true rfl) rfl rfl (Nat.le_of_ble_eq_true rfl) rfl (Nat.le_of_ble_eq_true rfl) ⟨(Nat.le_of_ble_eq_true rfl), (Nat.le_of_ble_eq_true rfl)⟩ ?_
          replace hp := hp.2
          refine gx_if_eq (q := 32) (r := 92) rfl rfl rfl hp (fun c_29 hp => ?_) (fun c_29 hp => ?_)
          · refine gd_aload_n (q := 93) rfl rfl rfl ?_
            refine gd_getI (q := 96) rfl rfl rfl (Nat.le_of_ble_eq_true rfl) rfl rfl ?_
            refine gx_if_ne (q := 99) (r := 131) rfl rfl rfl hp (fun c_96 hp => ?_) (fun c_96 hp => ?_)
            · refine gd_aload_n (q := 100) rfl rfl rfl ?_
              refine gd_getR (q := 103) (r := 49) rfl rfl rfl (Nat.le_of_ble_eq_true rfl) rfl rfl (gr_46_5 hG) ?_
              refine gd_aload_n (q := 104) rfl rfl rfl ?_
              refine gd_getI (q := 107) rfl rfl rfl (Nat.le_of_ble_eq_true rfl) rfl rfl ?_
              refine gd_iald (q := 108) rfl rfl (Nat.le_of_ble_eq_true rfl) rfl hp.1 ?_
              replace hp := hp.2
              refine gd_bipush (v := 27) (q := 110) rfl rfl rfl ?_
              refine gx_icmp_lt (q := 113) (r := 131) rfl rfl rfl hp (fun c_110 hp => ?_) (fun c_110 hp => ?_)
              · refine gd_iconst (v := 0) (q := 132) rfl rfl rfl ?_
                refine gd_istore_n (q := 133) rfl rfl (Nat.le_of_ble_eq_true rfl) rfl ?_
                refine gd_aload_n (q := 134) rfl rfl rfl ?_
                refine gd_iconst (v := 2) (q := 135) rfl rfl rfl ?_
                refine gd_cVi (q := 138) rfl rfl lk10_218 myX10_is vxX10_is (ct_X10_is f _ _ _ hG _ hp.1) rfl (Nat.le_of_ble_eq_true rfl) rfl rfl (Nat.le_of_ble_eq_true rfl) rfl (Nat.le_of_ble_eq_true rfl) ⟨(Nat.le_of_ble_eq_true rfl), (Nat.le_of_ble_eq_true rfl)⟩ ?_
                replace hp := hp.2
                refine gx_if_ne (q := 141) (r := 150) rfl rfl rfl hp (fun c_138 hp => ?_) (fun c_138 hp => ?_)
                · refine gd_iload_n (q := 142) rfl rfl rfl ?_
                  refine gd_if_ne (q := 145) (r := 150) rfl rfl rfl (fun c => absurd c (by decide)) (fun _ => ?_)
                  refine gd_aload_n (q := 146) rfl rfl rfl ?_
                  refine gd_iconst (v := 1) (q := 147) rfl rfl rfl ?_
                  refine gd_cVv (q := 150) rfl rfl lk10_215 myX10_fail vxX10_fail (ct_X10_fail f _ _ _ hG _ hp.1) rfl (Nat.le_of_ble_eq_true rfl) rfl rfl (Nat.le_of_ble_eq_true rfl) rfl (Nat.le_of_ble_eq_true rfl) ⟨(Nat.le_of_ble_eq_true rfl), (Nat.le_of_ble_eq_true rfl)⟩ ?_
                  replace hp := hp.2
                  refine gd_drop 2 ?_
                  exact ih_150 _ 0 0 0 0 _ hp
                · refine gd_drop 2 ?_
                  exact ih_150 _ 0 0 0 0 _ hp
              · refine gd_aload_n (q := 114) rfl rfl rfl ?_
                refine gd_getR (q := 117) (r := 49) rfl rfl rfl (Nat.le_of_ble_eq_true rfl) rfl rfl (gr_46_5 hG) ?_
                refine gd_aload_n (q := 118) rfl rfl rfl ?_
                refine gd_getI (q := 121) rfl rfl rfl (Nat.le_of_ble_eq_true rfl) rfl rfl ?_
                refine gd_iald (q := 122) rfl rfl (Nat.le_of_ble_eq_true rfl) rfl hp.1 ?_
                replace hp := hp.2
                refine gd_bipush (v := 33) (q := 124) rfl rfl rfl ?_
                refine gx_icmp_gt (q := 127) (r := 131) rfl rfl rfl hp (fun c_124 hp => ?_) (fun c_124 hp => ?_)
                · refine gd_iconst (v := 0) (q := 132) rfl rfl rfl ?_
                  refine gd_istore_n (q := 133) rfl rfl (Nat.le_of_ble_eq_true rfl) rfl ?_
                  refine gd_aload_n (q := 134) rfl rfl rfl ?_
                  refine gd_iconst (v := 2) (q := 135) rfl rfl rfl ?_
                  refine gd_cVi (q := 138) rfl rfl lk10_218 myX10_is vxX10_is (ct_X10_is f _ _ _ hG _ hp.1) rfl (Nat.le_of_ble_eq_true rfl) rfl rfl (Nat.le_of_ble_eq_true rfl) rfl (Nat.le_of_ble_eq_true rfl) ⟨(Nat.le_of_ble_eq_true rfl), (Nat.le_of_ble_eq_true rfl)⟩ ?_
                  replace hp := hp.2
                  refine gx_if_ne (q := 141) (r := 150) rfl rfl rfl hp (fun c_138 hp => ?_) (fun c_138 hp => ?_)
                  · refine gd_iload_n (q := 142) rfl rfl rfl ?_
                    refine gd_if_ne (q := 145) (r := 150) rfl rfl rfl (fun c => absurd c (by decide)) (fun _ => ?_)
                    refine gd_aload_n (q := 146) rfl rfl rfl ?_
                    refine gd_iconst (v := 1) (q := 147) rfl rfl rfl ?_
                    refine gd_cVv (q := 150) rfl rfl lk10_215 myX10_fail vxX10_fail (ct_X10_fail f _ _ _ hG _ hp.1) rfl (Nat.le_of_ble_eq_true rfl) rfl rfl (Nat.le_of_ble_eq_true rfl) rfl (Nat.le_of_ble_eq_true rfl) ⟨(Nat.le_of_ble_eq_true rfl), (Nat.le_of_ble_eq_true rfl)⟩ ?_
                    replace hp := hp.2
                    refine gd_drop 2 ?_
                    exact ih_150 _ 0 0 0 0 _ hp
                  · refine gd_drop 2 ?_
                    exact ih_150 _ 0 0 0 0 _ hp
                · refine gd_iconst (v := 1) (q := 128) rfl rfl rfl ?_
                  refine gd_goto (q := 132) rfl rfl ?_
                  refine gd_istore_n (q := 133) rfl rfl (Nat.le_of_ble_eq_true rfl) rfl ?_
                  refine gd_aload_n (q := 134) rfl rfl rfl ?_
                  refine gd_iconst (v := 2) (q := 135) rfl rfl rfl ?_
                  refine gd_cVi (q := 138) rfl rfl lk10_218 myX10_is vxX10_is (ct_X10_is f _ _ _ hG _ hp.1) rfl (Nat.le_of_ble_eq_true rfl) rfl rfl (Nat.le_of_ble_eq_true rfl) rfl (Nat.le_of_ble_eq_true rfl) ⟨(Nat.le_of_ble_eq_true rfl), (Nat.le_of_ble_eq_true rfl)⟩ ?_
                  replace hp := hp.2
                  refine gx_if_ne (q := 141) (r := 150) rfl rfl rfl hp (fun c_138 hp => ?_) (fun c_138 hp => ?_)
                  · refine gd_iload_n (q := 142) rfl rfl rfl ?_
                    refine gd_if_ne (q := 145) (r := 150) rfl rfl rfl (fun _ => ?_) (fun c => absurd c (by decide))
                    refine gd_drop 2 ?_
                    exact ih_150 _ 0 _ 0 0 _ hp
                  · refine gd_drop 2 ?_
                    exact ih_150 _ 0 _ 0 0 _ hp
            · refine gd_iconst (v := 0) (q := 132) rfl rfl rfl ?_
              refine gd_istore_n (q := 133) rfl rfl (Nat.le_of_ble_eq_true rfl) rfl ?_
              refine gd_aload_n (q := 134) rfl rfl rfl ?_
              refine gd_iconst (v := 2) (q := 135) rfl rfl rfl ?_
              refine gd_cVi (q := 138) rfl rfl lk10_218 myX10_is vxX10_is (ct_X10_is f _ _ _ hG _ hp.1) rfl (Nat.le_of_ble_eq_true rfl) rfl rfl (Nat.le_of_ble_eq_true rfl) rfl (Nat.le_of_ble_eq_true rfl) ⟨(Nat.le_of_ble_eq_true rfl), (Nat.le_of_ble_eq_true rfl)⟩ ?_
              replace hp := hp.2
              refine gx_if_ne (q := 141) (r := 150) rfl rfl rfl hp (fun c_138 hp => ?_) (fun c_138 hp => ?_)
              · refine gd_iload_n (q := 142) rfl rfl rfl ?_
                refine gd_if_ne (q := 145) (r := 150) rfl rfl rfl (fun c => absurd c (by decide)) (fun _ => ?_)
                refine gd_aload_n (q := 146) rfl rfl rfl ?_
                refine gd_iconst (v := 1) (q := 147) rfl rfl rfl ?_
                refine gd_cVv (q := 150) rfl rfl lk10_215 myX10_fail vxX10_fail (ct_X10_fail f _ _ _ hG _ hp.1) rfl (Nat.le_of_ble_eq_true rfl) rfl rfl (Nat.le_of_ble_eq_true rfl) rfl (Nat.le_of_ble_eq_true rfl) ⟨(Nat.le_of_ble_eq_true rfl), (Nat.le_of_ble_eq_true rfl)⟩ ?_
                replace hp := hp.2
                refine gd_drop 2 ?_
                exact ih_150 _ 0 0 0 0 _ hp
              · refine gd_drop 2 ?_
                exact ih_150 _ 0 0 0 0 _ hp
          · refine gd_aload_n (q := 33) rfl rfl rfl ?_
            refine gd_getI (q := 36) rfl rfl rfl (Nat.le_of_ble_eq_true rfl) rfl rfl ?_
            refine gd_bipush (v := 6) (q := 38) rfl rfl rfl ?_
            refine gx_icmp_ne (q := 41) (r := 46) rfl rfl rfl hp (fun c_38 hp => ?_) (fun c_38 hp => ?_)
            · refine gd_aload_n (q := 42) rfl rfl rfl ?_
              refine gd_iconst (v := 2) (q := 43) rfl rfl rfl ?_
              refine gd_cVv (q := 46) rfl rfl lk10_215 myX10_fail vxX10_fail (ct_X10_fail f _ _ _ hG _ hp.1) rfl (Nat.le_of_ble_eq_true rfl) rfl rfl (Nat.le_of_ble_eq_true rfl) rfl (Nat.le_of_ble_eq_true rfl) ⟨(Nat.le_of_ble_eq_true rfl), (Nat.le_of_ble_eq_true rfl)⟩ ?_
              replace hp := hp.2
              exact ih_46 _ _ 0 0 0 _ hp
            · exact ih_46 _ _ 0 0 0 _ hp
        · exact gd_return rfl rfl (Nat.le_refl 0) (Nat.le_refl 0) rfl
    · intro v1 v2 v3 v4 t0 I hp
      rw [s_X10_expression_L12]
      rw [p_X10_expression_L12] at hp
      refine gd_aload_n (q := 47) rfl rfl rfl ?_
      refine gd_getI (q := 50) rfl rfl rfl (Nat.le_of_ble_eq_true rfl) rfl rfl ?_
      refine gx_if_le (q := 53) (r := 54) rfl rfl rfl hp (fun c_50 hp => ?_) (fun c_50 hp => ?_)
      · refine gd_aload_n (q := 55) rfl rfl rfl ?_
        refine gd_dup (q := 56) rfl rfl rfl ?_
        refine gd_getI (q := 59) rfl rfl rfl (Nat.le_of_ble_eq_true rfl) rfl rfl ?_
        refine gd_iconst (v := 1) (q := 60) rfl rfl rfl ?_
        refine gd_iadd (q := 61) rfl rfl ?_
        refine gd_putI (q := 64) rfl rfl rfl (Nat.le_of_ble_eq_true rfl) rfl rfl rfl (Or.inl rfl) ?_
        refine gd_aload_n (q := 65) rfl rfl rfl ?_
        refine gd_cVv (q := 68) rfl rfl lk10_221 myX10_next vxX10_next (ct_X10_next f _ _ _ hG hp.1) rfl (Nat.le_of_ble_eq_true rfl) rfl rfl (Nat.le_of_ble_eq_true rfl) rfl (Nat.le_of_ble_eq_true rfl) ⟨(Nat.le_of_ble_eq_true rfl), (Nat.le_of_ble_eq_true rfl)⟩ ?_
        replace hp := hp.2
        refine gd_aload_n (q := 69) rfl rfl rfl ?_
        refine gd_getR (q := 72) (r := 67) rfl rfl rfl (Nat.le_of_ble_eq_true rfl) rfl rfl (gr_46_33 hG) ?_
        refine gd_aload_n (q := 73) rfl rfl rfl ?_
        refine gd_getI (q := 76) rfl rfl rfl (Nat.le_of_ble_eq_true rfl) rfl rfl ?_
        refine gd_bipush (v := 6) (q := 78) rfl rfl rfl ?_
        refine gd_iast (q := 79) rfl rfl (Nat.le_of_ble_eq_true rfl) rfl hp.1 ?_
        replace hp := hp.2
        refine gd_aload_n (q := 80) rfl rfl rfl ?_
        refine gd_dup (q := 81) rfl rfl rfl ?_
        refine gd_getI (q := 84) rfl rfl rfl (Nat.le_of_ble_eq_true rfl) rfl rfl ?_
        refine gd_iconst (v := 1) (q := 85) rfl rfl rfl ?_
        refine gd_iadd (q := 86) rfl rfl ?_
        refine gd_putI (q := 89) rfl rfl rfl (Nat.le_of_ble_eq_true rfl) rfl rfl rfl (Or.inl rfl) ?_
        refine gd_goto (q := 12) rfl rfl ?_
        exact ih_12 _ _ 0 0 0 _ hp
      · exact gd_return rfl rfl (Nat.le_refl 0) (Nat.le_refl 0) rfl
    · intro v1 v2 v3 v4 t0 I hp
      rw [s_X10_expression_L12]
      rw [p_X10_expression_L12] at hp
      refine gd_aload_n (q := 151) rfl rfl rfl ?_
      refine gd_getI (q := 154) rfl rfl rfl (Nat.le_of_ble_eq_true rfl) rfl rfl ?_
      refine gx_if_le (q := 157) (r := 158) rfl rfl rfl hp (fun c_154 hp => ?_) (fun c_154 hp => ?_)
      · refine gd_iload_n (q := 159) rfl rfl rfl ?_
        refine gx_if_eq (q := 162) (r := 182) rfl rfl rfl hp (fun c_159 hp => ?_) (fun c_159 hp => ?_)
        · refine gd_aload_n (q := 183) rfl rfl rfl ?_
          refine gd_iconst (v := 0) (q := 184) rfl rfl rfl ?_
          refine gd_aload_n (q := 185) rfl rfl rfl ?_
          refine gd_getR (q := 188) (r := 51) rfl rfl rfl (Nat.le_of_ble_eq_true rfl) rfl rfl (gr_46_7 hG) ?_
          refine gd_aload_n (q := 189) rfl rfl rfl ?_
          refine gd_getI (q := 192) rfl rfl rfl (Nat.le_of_ble_eq_true rfl) rfl rfl ?_
          refine gd_iald (q := 193) rfl rfl (Nat.le_of_ble_eq_true rfl) rfl hp.1 ?_
          replace hp := hp.2
          refine gd_cVv (q := 196) rfl rfl lk10_256 myX10_emit vxX10_emit (ct_X10_emit f _ _ _ hG _ _ hp.1) rfl (Nat.le_of_ble_eq_true rfl) rfl rfl (Nat.le_of_ble_eq_true rfl) rfl (Nat.le_of_ble_eq_true rfl) ⟨(Nat.le_of_ble_eq_true rfl), (Nat.le_of_ble_eq_true rfl)⟩ ?_
          replace hp := hp.2
          refine gd_aload_n (q := 197) rfl rfl rfl ?_
          refine gd_cVv (q := 200) rfl rfl lk10_221 myX10_next vxX10_next (ct_X10_next f _ _ _ hG hp.1) rfl (Nat.le_of_ble_eq_true rfl) rfl rfl (Nat.le_of_ble_eq_true rfl) rfl (Nat.le_of_ble_eq_true rfl) ⟨(Nat.le_of_ble_eq_true rfl), (Nat.le_of_ble_eq_true rfl)⟩ ?_
          replace hp := hp.2
          refine gd_drop 3 ?_
          exact ih_200 _ 0 0 0 0 _ hp
        · refine gd_aload_n (q := 163) rfl rfl rfl ?_
          refine gd_iconst (v := 1) (q := 164) rfl rfl rfl ?_
          refine gd_aload_n (q := 165) rfl rfl rfl ?_
          refine gd_getR (q := 168) (r := 49) rfl rfl rfl (Nat.le_of_ble_eq_true rfl) rfl rfl (gr_46_5 hG) ?_
          refine gd_aload_n (q := 169) rfl rfl rfl ?_
          refine gd_getI (q := 172) rfl rfl rfl (Nat.le_of_ble_eq_true rfl) rfl rfl ?_
          refine gd_iald (q := 173) rfl rfl (Nat.le_of_ble_eq_true rfl) rfl hp.1 ?_
          replace hp := hp.2
          refine gd_bipush (v := 27) (q := 175) rfl rfl rfl ?_
          refine gd_isub (q := 176) rfl rfl ?_
          refine gd_cVv (q := 179) rfl rfl lk10_256 myX10_emit vxX10_emit (ct_X10_emit f _ _ _ hG _ _ hp.1) rfl (Nat.le_of_ble_eq_true rfl) rfl rfl (Nat.le_of_ble_eq_true rfl) rfl (Nat.le_of_ble_eq_true rfl) ⟨(Nat.le_of_ble_eq_true rfl), (Nat.le_of_ble_eq_true rfl)⟩ ?_
          replace hp := hp.2
          refine gd_goto (q := 196) rfl rfl ?_
          refine gd_aload_n (q := 197) rfl rfl rfl ?_
          refine gd_cVv (q := 200) rfl rfl lk10_221 myX10_next vxX10_next (ct_X10_next f _ _ _ hG hp.1) rfl (Nat.le_of_ble_eq_true rfl) rfl rfl (Nat.le_of_ble_eq_true rfl) rfl (Nat.le_of_ble_eq_true rfl) ⟨(Nat.le_of_ble_eq_true rfl), (Nat.le_of_ble_eq_true rfl)⟩ ?_
          replace hp := hp.2
          refine gd_drop 3 ?_
          exact ih_200 _ 0 0 0 0 _ hp
      · exact gd_return rfl rfl (Nat.le_refl 0) (Nat.le_refl 0) rfl
    · intro v1 v2 v3 v4 t0 I hp
      rw [s_X10_expression_L12]
      rw [p_X10_expression_L12] at hp
      refine gd_aload_n (q := 201) rfl rfl rfl ?_
      refine gd_bipush (v := 7) (q := 203) rfl rfl rfl ?_
      refine gd_cVi (q := 206) rfl rfl lk10_218 myX10_is vxX10_is (ct_X10_is f _ _ _ hG _ hp.1) rfl (Nat.le_of_ble_eq_true rfl) rfl rfl (Nat.le_of_ble_eq_true rfl) rfl (Nat.le_of_ble_eq_true rfl) ⟨(Nat.le_of_ble_eq_true rfl), (Nat.le_of_ble_eq_true rfl)⟩ ?_
      replace hp := hp.2
      refine gx_if_eq (q := 209) (r := 249) rfl rfl rfl hp (fun c_206 hp => ?_) (fun c_206 hp => ?_)
      · exact ih_249 _ 0 0 0 0 _ hp
      · refine gd_aload_n (q := 210) rfl rfl rfl ?_
        refine gd_getI (q := 213) rfl rfl rfl (Nat.le_of_ble_eq_true rfl) rfl rfl ?_
        refine gd_iload_n (q := 214) rfl rfl rfl ?_
        refine gx_icmp_le (q := 217) (r := 249) rfl rfl rfl hp (fun c_214 hp => ?_) (fun c_214 hp => ?_)
        · exact ih_249 _ 0 0 0 0 _ hp
        · refine gd_aload_n (q := 218) rfl rfl rfl ?_
          refine gd_iconst (v := 0) (q := 219) rfl rfl rfl ?_
          refine gd_cVv (q := 222) rfl rfl lk10_265 myX10_comesOut vxX10_comesOut (ct_X10_comesOut f _ _ _ hG _ hp.1) rfl (Nat.le_of_ble_eq_true rfl) rfl rfl (Nat.le_of_ble_eq_true rfl) rfl (Nat.le_of_ble_eq_true rfl) ⟨(Nat.le_of_ble_eq_true rfl), (Nat.le_of_ble_eq_true rfl)⟩ ?_
          replace hp := hp.2
          refine gd_aload_n (q := 223) rfl rfl rfl ?_
          refine gd_dup (q := 224) rfl rfl rfl ?_
          refine gd_getI (q := 227) rfl rfl rfl (Nat.le_of_ble_eq_true rfl) rfl rfl ?_
          refine gd_iconst (v := 1) (q := 228) rfl rfl rfl ?_
          refine gd_isub (q := 229) rfl rfl ?_
          refine gd_putI (q := 232) rfl rfl rfl (Nat.le_of_ble_eq_true rfl) rfl rfl rfl (Or.inl rfl) ?_
          refine gd_aload_n (q := 233) rfl rfl rfl ?_
          refine gd_dup (q := 234) rfl rfl rfl ?_
          refine gd_getI (q := 237) rfl rfl rfl (Nat.le_of_ble_eq_true rfl) rfl rfl ?_
          refine gd_iconst (v := 1) (q := 238) rfl rfl rfl ?_
          refine gd_isub (q := 239) rfl rfl ?_
          refine gd_putI (q := 242) rfl rfl rfl (Nat.le_of_ble_eq_true rfl) rfl rfl rfl (Or.inl rfl) ?_
          refine gd_aload_n (q := 243) rfl rfl rfl ?_
          refine gd_cVv (q := 246) rfl rfl lk10_221 myX10_next vxX10_next (ct_X10_next f _ _ _ hG hp.1) rfl (Nat.le_of_ble_eq_true rfl) rfl rfl (Nat.le_of_ble_eq_true rfl) rfl (Nat.le_of_ble_eq_true rfl) ⟨(Nat.le_of_ble_eq_true rfl), (Nat.le_of_ble_eq_true rfl)⟩ ?_
          replace hp := hp.2
          refine gd_goto (q := 200) rfl rfl ?_
          exact ih_200 _ 0 0 0 0 _ hp
    · intro v1 v2 v3 v4 t0 I hp
      rw [s_X10_expression_L12]
      rw [p_X10_expression_L12] at hp
      refine gd_aload_n (q := 250) rfl rfl rfl ?_
      refine gd_bipush (v := 8) (q := 252) rfl rfl rfl ?_
      refine gd_cVi (q := 255) rfl rfl lk10_218 myX10_is vxX10_is (ct_X10_is f _ _ _ hG _ hp.1) rfl (Nat.le_of_ble_eq_true rfl) rfl rfl (Nat.le_of_ble_eq_true rfl) rfl (Nat.le_of_ble_eq_true rfl) ⟨(Nat.le_of_ble_eq_true rfl), (Nat.le_of_ble_eq_true rfl)⟩ ?_
      replace hp := hp.2
      refine gx_if_ne (q := 258) (r := 276) rfl rfl rfl hp (fun c_255 hp => ?_) (fun c_255 hp => ?_)
      · refine gd_aload_n (q := 259) rfl rfl rfl ?_
        refine gd_bipush (v := 9) (q := 261) rfl rfl rfl ?_
        refine gd_cVi (q := 264) rfl rfl lk10_218 myX10_is vxX10_is (ct_X10_is f _ _ _ hG _ hp.1) rfl (Nat.le_of_ble_eq_true rfl) rfl rfl (Nat.le_of_ble_eq_true rfl) rfl (Nat.le_of_ble_eq_true rfl) ⟨(Nat.le_of_ble_eq_true rfl), (Nat.le_of_ble_eq_true rfl)⟩ ?_
        replace hp := hp.2
        refine gx_if_ne (q := 267) (r := 276) rfl rfl rfl hp (fun c_264 hp => ?_) (fun c_264 hp => ?_)
        · refine gd_aload_n (q := 268) rfl rfl rfl ?_
          refine gd_bipush (v := 10) (q := 270) rfl rfl rfl ?_
          refine gd_cVi (q := 273) rfl rfl lk10_218 myX10_is vxX10_is (ct_X10_is f _ _ _ hG _ hp.1) rfl (Nat.le_of_ble_eq_true rfl) rfl rfl (Nat.le_of_ble_eq_true rfl) rfl (Nat.le_of_ble_eq_true rfl) ⟨(Nat.le_of_ble_eq_true rfl), (Nat.le_of_ble_eq_true rfl)⟩ ?_
          replace hp := hp.2
          refine gx_if_eq (q := 276) (r := 280) rfl rfl rfl hp (fun c_273 hp => ?_) (fun c_273 hp => ?_)
          · refine gd_iconst (v := 0) (q := 281) rfl rfl rfl ?_
            exact ih_281 _ 0 0 0 0 _ hp
          · refine gd_iconst (v := 1) (q := 277) rfl rfl rfl ?_
            refine gd_goto (q := 281) rfl rfl ?_
            exact ih_281 _ 0 0 0 _ _ hp
        · refine gd_iconst (v := 1) (q := 277) rfl rfl rfl ?_
          refine gd_goto (q := 281) rfl rfl ?_
          exact ih_281 _ 0 0 0 _ _ hp
      · refine gd_iconst (v := 1) (q := 277) rfl rfl rfl ?_
        refine gd_goto (q := 281) rfl rfl ?_
        exact ih_281 _ 0 0 0 _ _ hp
    · intro v1 v2 v3 v4 t0 I hp
      rw [s_X10_expression_L12]
      rw [p_X10_expression_L12] at hp
      refine gd_istore_n (q := 282) rfl rfl (Nat.le_of_ble_eq_true rfl) rfl ?_
      refine gd_iload_n (q := 283) rfl rfl rfl ?_
      refine gx_if_ne (q := 286) (r := 305) rfl rfl rfl hp (fun c_283 hp => ?_) (fun c_283 hp => ?_)
      · refine gd_aload_n (q := 287) rfl rfl rfl ?_
        refine gd_getI (q := 290) rfl rfl rfl (Nat.le_of_ble_eq_true rfl) rfl rfl ?_
        refine gd_iload_n (q := 291) rfl rfl rfl ?_
        refine gx_icmp_le (q := 294) (r := 299) rfl rfl rfl hp (fun c_291 hp => ?_) (fun c_291 hp => ?_)
        · refine gd_aload_n (q := 300) rfl rfl rfl ?_
          refine gd_iconst (v := 0) (q := 301) rfl rfl rfl ?_
          refine gd_cVv (q := 304) rfl rfl lk10_265 myX10_comesOut vxX10_comesOut (ct_X10_comesOut f _ _ _ hG _ hp) rfl (Nat.le_of_ble_eq_true rfl) rfl rfl (Nat.le_of_ble_eq_true rfl) rfl (Nat.le_of_ble_eq_true rfl) ⟨(Nat.le_of_ble_eq_true rfl), (Nat.le_of_ble_eq_true rfl)⟩ ?_
          exact gd_return rfl rfl (Nat.le_refl 0) (Nat.le_refl 0) rfl
        · refine gd_aload_n (q := 295) rfl rfl rfl ?_
          refine gd_iconst (v := 1) (q := 296) rfl rfl rfl ?_
          refine gd_cVv (q := 299) rfl rfl lk10_215 myX10_fail vxX10_fail (ct_X10_fail f _ _ _ hG _ hp.1) rfl (Nat.le_of_ble_eq_true rfl) rfl rfl (Nat.le_of_ble_eq_true rfl) rfl (Nat.le_of_ble_eq_true rfl) ⟨(Nat.le_of_ble_eq_true rfl), (Nat.le_of_ble_eq_true rfl)⟩ ?_
          replace hp := hp.2
          refine gd_aload_n (q := 300) rfl rfl rfl ?_
          refine gd_iconst (v := 0) (q := 301) rfl rfl rfl ?_
          refine gd_cVv (q := 304) rfl rfl lk10_265 myX10_comesOut vxX10_comesOut (ct_X10_comesOut f _ _ _ hG _ hp) rfl (Nat.le_of_ble_eq_true rfl) rfl rfl (Nat.le_of_ble_eq_true rfl) rfl (Nat.le_of_ble_eq_true rfl) ⟨(Nat.le_of_ble_eq_true rfl), (Nat.le_of_ble_eq_true rfl)⟩ ?_
          exact gd_return rfl rfl (Nat.le_refl 0) (Nat.le_refl 0) rfl
      · refine gd_aload_n (q := 306) rfl rfl rfl ?_
        refine gd_getR (q := 309) (r := 49) rfl rfl rfl (Nat.le_of_ble_eq_true rfl) rfl rfl (gr_46_5 hG) ?_
        refine gd_aload_n (q := 310) rfl rfl rfl ?_
        refine gd_getI (q := 313) rfl rfl rfl (Nat.le_of_ble_eq_true rfl) rfl rfl ?_
        refine gd_iald (q := 314) rfl rfl (Nat.le_of_ble_eq_true rfl) rfl hp.1 ?_
        replace hp := hp.2
        refine gd_istore (q := 316) rfl rfl (Nat.le_of_ble_eq_true rfl) rfl ?_
        refine gd_aload_n (q := 317) rfl rfl rfl ?_
        refine gd_iload (q := 319) rfl rfl rfl ?_
        refine gd_bipush (v := 10) (q := 321) rfl rfl rfl ?_
        refine gx_icmp_ne (q := 324) (r := 328) rfl rfl rfl hp (fun c_321 hp => ?_) (fun c_321 hp => ?_)
        · refine gd_iconst (v := 1) (q := 325) rfl rfl rfl ?_
          refine gd_goto (q := 329) rfl rfl ?_
          exact ih_329 _ _ 0 _ _ _ hp
        · refine gd_iconst (v := 0) (q := 329) rfl rfl rfl ?_
          exact ih_329 _ _ 0 _ 0 _ hp
    · intro v1 v2 v3 v4 t0 I hp
      rw [s_X10_expression_L12]
      rw [p_X10_expression_L12] at hp
      refine gd_cVv (q := 332) rfl rfl lk10_265 myX10_comesOut vxX10_comesOut (ct_X10_comesOut f _ _ _ hG _ hp.1) rfl (Nat.le_of_ble_eq_true rfl) rfl rfl (Nat.le_of_ble_eq_true rfl) rfl (Nat.le_of_ble_eq_true rfl) ⟨(Nat.le_of_ble_eq_true rfl), (Nat.le_of_ble_eq_true rfl)⟩ ?_
      replace hp := hp.2
      refine gd_aload_n (q := 333) rfl rfl rfl ?_
      refine gd_getR (q := 336) (r := 67) rfl rfl rfl (Nat.le_of_ble_eq_true rfl) rfl rfl (gr_46_33 hG) ?_
      refine gd_aload_n (q := 337) rfl rfl rfl ?_
      refine gd_getI (q := 340) rfl rfl rfl (Nat.le_of_ble_eq_true rfl) rfl rfl ?_
      refine gd_iload (q := 342) rfl rfl rfl ?_
      refine gd_iast (q := 343) rfl rfl (Nat.le_of_ble_eq_true rfl) rfl hp.1 ?_
      replace hp := hp.2
      refine gd_aload_n (q := 344) rfl rfl rfl ?_
      refine gd_dup (q := 345) rfl rfl rfl ?_
      refine gd_getI (q := 348) rfl rfl rfl (Nat.le_of_ble_eq_true rfl) rfl rfl ?_
      refine gd_iconst (v := 1) (q := 349) rfl rfl rfl ?_
      refine gd_iadd (q := 350) rfl rfl ?_
      refine gd_putI (q := 353) rfl rfl rfl (Nat.le_of_ble_eq_true rfl) rfl rfl rfl (Or.inl rfl) ?_
      refine gd_aload_n (q := 354) rfl rfl rfl ?_
      refine gd_cVv (q := 357) rfl rfl lk10_221 myX10_next vxX10_next (ct_X10_next f _ _ _ hG hp.1) rfl (Nat.le_of_ble_eq_true rfl) rfl rfl (Nat.le_of_ble_eq_true rfl) rfl (Nat.le_of_ble_eq_true rfl) ⟨(Nat.le_of_ble_eq_true rfl), (Nat.le_of_ble_eq_true rfl)⟩ ?_
      replace hp := hp.2
      refine gd_goto (q := 12) rfl rfl ?_
      refine gd_drop 4 ?_
      exact ih_12 _ _ 0 0 0 _ hp
theorem gl_X10_expression_12  (f : Nat) (J : am_J) (Q : am_Q) (hG : Gr Q) (g : Nat) : ∀ (v1 : Int32) (v2 : Int32) (v3 : Int32) (v4 : Int32) (t0 : Int32) (I : am_I), p_X10_expression_L12 f g 0 v1 v2 0 0 0 I → Gd MX10_expression (am_o 2 0 0 (am_FvI J Q (s_X10_expression_L12 f g 0 v1 v2 0 0 0 I))) 0 0 92 12 [some (.ref 46), some (.int v1), some (.int v2), none, none] [] I J Q := (gl_X10_expression_L12 f J Q hG g).1
theorem gl_X10_expression_46  (f : Nat) (J : am_J) (Q : am_Q) (hG : Gr Q) (g : Nat) : ∀ (v1 : Int32) (v2 : Int32) (v3 : Int32) (v4 : Int32) (t0 : Int32) (I : am_I), p_X10_expression_L12 f g 1 v1 v2 0 0 0 I → Gd MX10_expression (am_o 2 0 0 (am_FvI J Q (s_X10_expression_L12 f g 1 v1 v2 0 0 0 I))) 0 0 92 46 [some (.ref 46), some (.int v1), some (.int v2), none, none] [] I J Q := (gl_X10_expression_L12 f J Q hG g).2.1
theorem gl_X10_expression_150  (f : Nat) (J : am_J) (Q : am_Q) (hG : Gr Q) (g : Nat) : ∀ (v1 : Int32) (v2 : Int32) (v3 : Int32) (v4 : Int32) (t0 : Int32) (I : am_I), p_X10_expression_L12 f g 2 v1 0 v3 0 0 I → Gd MX10_expression (am_o 2 0 0 (am_FvI J Q (s_X10_expression_L12 f g 2 v1 0 v3 0 0 I))) 0 0 92 150 [some (.ref 46), some (.int v1), none, some (.int v3), none] [] I J Q := (gl_X10_expression_L12 f J Q hG g).2.2.1
theorem gl_X10_expression_200  (f : Nat) (J : am_J) (Q : am_Q) (hG : Gr Q) (g : Nat) : ∀ (v1 : Int32) (v2 : Int32) (v3 : Int32) (v4 : Int32) (t0 : Int32) (I : am_I), p_X10_expression_L12 f g 3 v1 0 0 0 0 I → Gd MX10_expression (am_o 2 0 0 (am_FvI J Q (s_X10_expression_L12 f g 3 v1 0 0 0 0 I))) 0 0 92 200 [some (.ref 46), some (.int v1), none, none, none] [] I J Q := (gl_X10_expression_L12 f J Q hG g).2.2.2.1
theorem gl_X10_expression_249  (f : Nat) (J : am_J) (Q : am_Q) (hG : Gr Q) (g : Nat) : ∀ (v1 : Int32) (v2 : Int32) (v3 : Int32) (v4 : Int32) (t0 : Int32) (I : am_I), p_X10_expression_L12 f g 4 v1 0 0 0 0 I → Gd MX10_expression (am_o 2 0 0 (am_FvI J Q (s_X10_expression_L12 f g 4 v1 0 0 0 0 I))) 0 0 92 249 [some (.ref 46), some (.int v1), none, none, none] [] I J Q := (gl_X10_expression_L12 f J Q hG g).2.2.2.2.1
theorem gl_X10_expression_281  (f : Nat) (J : am_J) (Q : am_Q) (hG : Gr Q) (g : Nat) : ∀ (v1 : Int32) (v2 : Int32) (v3 : Int32) (v4 : Int32) (t0 : Int32) (I : am_I), p_X10_expression_L12 f g 5 v1 0 0 0 t0 I → Gd MX10_expression (am_o 2 0 0 (am_FvI J Q (s_X10_expression_L12 f g 5 v1 0 0 0 t0 I))) 0 0 92 281 [some (.ref 46), some (.int v1), none, none, none] [.int t0] I J Q := (gl_X10_expression_L12 f J Q hG g).2.2.2.2.2.1
theorem gl_X10_expression_329  (f : Nat) (J : am_J) (Q : am_Q) (hG : Gr Q) (g : Nat) : ∀ (v1 : Int32) (v2 : Int32) (v3 : Int32) (v4 : Int32) (t0 : Int32) (I : am_I), p_X10_expression_L12 f g 6 v1 v2 0 v4 t0 I → Gd MX10_expression (am_o 2 0 0 (am_FvI J Q (s_X10_expression_L12 f g 6 v1 v2 0 v4 t0 I))) 0 0 92 329 [some (.ref 46), some (.int v1), some (.int v2), none, some (.int v4)] [.int t0, .ref 46] I J Q := (gl_X10_expression_L12 f J Q hG g).2.2.2.2.2.2
set_option maxRecDepth 100000 in
set_option maxHeartbeats 4000000 in
theorem gt_X10_expression (f : Nat) (I : am_I) (J : am_J) (Q : am_Q) (hG : Gr Q)  (hp : p_X10_expression f I) : Gd MX10_expression (am_o 2 0 0 (am_FvI J Q (s_X10_expression f I))) 0 0 92 0 [some (.ref 46), none, none, none, none] [] I J Q := by
  unfold s_X10_expression
  unfold p_X10_expression at hp
  refine gd_aload_n (q := 1) rfl rfl rfl ?_
  refine gd_iconst (v := 0) (q := 2) rfl rfl rfl ?_
  refine gd_putI (q := 5) rfl rfl rfl (Nat.le_of_ble_eq_true rfl) rfl rfl rfl (Or.inl rfl) ?_
  refine gd_aload_n (q := 6) rfl rfl rfl ?_
  refine gd_getI (q := 9) rfl rfl rfl (Nat.le_of_ble_eq_true rfl) rfl rfl ?_
  refine gd_istore_n (q := 10) rfl rfl (Nat.le_of_ble_eq_true rfl) rfl ?_
  refine gd_iconst (v := 1) (q := 11) rfl rfl rfl ?_
  refine gd_istore_n (q := 12) rfl rfl (Nat.le_of_ble_eq_true rfl) rfl ?_
  exact gl_X10_expression_12 f J Q hG f _ _ 0 0 0 _ hp
theorem ct_X10_expression (f : Nat) (I : am_I) (J : am_J) (Q : am_Q) (hG : Gr Q)  (hp : p_X10_expression f I) : Cm MX10_expression 2 0 0 92 [.ref 46] I J Q (am_FvI J Q (s_X10_expression f I)) := cm_of (by decide) rfl IX10_expression_ok (Nat.le_of_ble_eq_true rfl) (gt_X10_expression f I J Q hG hp)
