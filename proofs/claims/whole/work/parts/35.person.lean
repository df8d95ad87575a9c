def na_I (I : am_I) (a1 a2 a3 a4 : Int32) : am_I := (am_w (nI_X1_init_92 (va_up (am_w (am_w (am_w (am_w (am_w I 10 ((I 9 3) * 4).toNatClampNeg a1) 10 (((I 9 3) * 4) + 1).toNatClampNeg a2) 10 (((I 9 3) * 4) + 2).toNatClampNeg a3) 10 (((I 9 3) * 4) + 3).toNatClampNeg a4) 11 (I 9 3).toNatClampNeg (-1)) 92 (fun _ => 0))) 9 3 (((nI_X1_init_92 (va_up (am_w (am_w (am_w (am_w (am_w I 10 ((I 9 3) * 4).toNatClampNeg a1) 10 (((I 9 3) * 4) + 1).toNatClampNeg a2) 10 (((I 9 3) * 4) + 2).toNatClampNeg a3) 10 (((I 9 3) * 4) + 3).toNatClampNeg a4) 11 (I 9 3).toNatClampNeg (-1)) 92 (fun _ => 0))) 9 3) + 1))
def na_J (J : am_J) : am_J := (nJ_X1_init_92 J)
def na_Q (I : am_I) (Q : am_Q) (a1 a2 a3 a4 : Int32) : am_Q := (am_w (nQ_X1_init_92 (va_up Q 92 (fun _ => none))) 12 (I 9 3).toNatClampNeg (some 92))
def na_v (I : am_I) (a1 a2 a3 a4 : Int32) : Int32 := ((((nI_X1_init_92 (va_up (am_w (am_w (am_w (am_w (am_w I 10 ((I 9 3) * 4).toNatClampNeg a1) 10 (((I 9 3) * 4) + 1).toNatClampNeg a2) 10 (((I 9 3) * 4) + 2).toNatClampNeg a3) 10 (((I 9 3) * 4) + 3).toNatClampNeg a4) 11 (I 9 3).toNatClampNeg (-1)) 92 (fun _ => 0))) 9 3) + 1) - 1)
set_option maxRecDepth 100000 in
set_option maxHeartbeats 4000000 in
theorem ct_add_new (I : am_I) (J : am_J) (Q : am_Q) (hG : Gr Q) (hb : am_qb 92 Q) (a1 a2 a3 a4 : Int32) (h : I 9 3 < 12) (h0 : vp_in ((I 9 3) * 4) 48) (h1 : vp_in (((I 9 3) * 4) + 1) 48) (h2 : vp_in (((I 9 3) * 4) + 2) 48) (h3 : vp_in (((I 9 3) * 4) + 3) 48) (h4 : vp_in (I 9 3) 12) (hx : vp_in (I 9 3) 12) : Cm MX8_add 2 8 975 92 [.ref 9, .int a1, .int a2, .int a3, .int a4] I J Q (some (.int (na_v I a1 a2 a3 a4)), 100, na_I I a1 a2 a3 a4, na_J J, na_Q I Q a1 a2 a3 a4) := by
  refine cm_of (by decide) rfl IX8_add_ok (Nat.le_of_ble_eq_true rfl) ?_
  show Gd MX8_add (am_o 2 8 975 _) 0 0 92 0 [some (.ref 9), some (.int a1), some (.int a2), some (.int a3), some (.int a4), none] [] I J Q
  refine gd_aload_n (q := 1) rfl rfl rfl ?_
  refine gd_getI (q := 4) rfl rfl rfl (Nat.le_of_ble_eq_true rfl) rfl rfl ?_
  refine gd_bipush (v := 12) (q := 6) rfl rfl rfl ?_
  refine gd_icmp_lt (q := 9) (r := 11) rfl rfl rfl (fun _ => ?_) (fun c => absurd h c)
  refine gd_aload_n (q := 12) rfl rfl rfl ?_
  refine gd_getI (q := 15) rfl rfl rfl (Nat.le_of_ble_eq_true rfl) rfl rfl ?_
  refine gd_iconst (v := 4) (q := 16) rfl rfl rfl ?_
  refine gd_imul (q := 17) rfl rfl ?_
  refine gd_istore (q := 19) rfl rfl (Nat.le_of_ble_eq_true rfl) rfl ?_
  refine gd_aload_n (q := 20) rfl rfl rfl ?_
  refine gd_getR (q := 23) (r := 10) rfl rfl rfl (Nat.le_of_ble_eq_true rfl) rfl rfl (gr_9_0 hG) ?_
  refine gd_iload (q := 25) rfl rfl rfl ?_
  refine gd_iload_n (q := 26) rfl rfl rfl ?_
  refine gd_iast (q := 27) rfl rfl (Nat.le_of_ble_eq_true rfl) rfl h0 ?_
  refine gd_aload_n (q := 28) rfl rfl rfl ?_
  refine gd_getR (q := 31) (r := 10) rfl rfl rfl (Nat.le_of_ble_eq_true rfl) rfl rfl (gr_9_0 hG) ?_
  refine gd_iload (q := 33) rfl rfl rfl ?_
  refine gd_iconst (v := 1) (q := 34) rfl rfl rfl ?_
  refine gd_iadd (q := 35) rfl rfl ?_
  refine gd_iload_n (q := 36) rfl rfl rfl ?_
  refine gd_iast (q := 37) rfl rfl (Nat.le_of_ble_eq_true rfl) rfl h1 ?_
  refine gd_aload_n (q := 38) rfl rfl rfl ?_
  refine gd_getR (q := 41) (r := 10) rfl rfl rfl (Nat.le_of_ble_eq_true rfl) rfl rfl (gr_9_0 hG) ?_
  refine gd_iload (q := 43) rfl rfl rfl ?_
  refine gd_iconst (v := 2) (q := 44) rfl rfl rfl ?_
  refine gd_iadd (q := 45) rfl rfl ?_
  refine gd_iload_n (q := 46) rfl rfl rfl ?_
  refine gd_iast (q := 47) rfl rfl (Nat.le_of_ble_eq_true rfl) rfl h2 ?_
  refine gd_aload_n (q := 48) rfl rfl rfl ?_
  refine gd_getR (q := 51) (r := 10) rfl rfl rfl (Nat.le_of_ble_eq_true rfl) rfl rfl (gr_9_0 hG) ?_
  refine gd_iload (q := 53) rfl rfl rfl ?_
  refine gd_iconst (v := 3) (q := 54) rfl rfl rfl ?_
  refine gd_iadd (q := 55) rfl rfl ?_
  refine gd_iload (q := 57) rfl rfl rfl ?_
  refine gd_iast (q := 58) rfl rfl (Nat.le_of_ble_eq_true rfl) rfl h3 ?_
  refine gd_aload_n (q := 59) rfl rfl rfl ?_
  refine gd_getR (q := 62) (r := 11) rfl rfl rfl (Nat.le_of_ble_eq_true rfl) rfl rfl (gr_9_1 hG) ?_
  refine gd_aload_n (q := 63) rfl rfl rfl ?_
  refine gd_getI (q := 66) rfl rfl rfl (Nat.le_of_ble_eq_true rfl) rfl rfl ?_
  refine gd_iconst (v := (-1)) (q := 67) rfl rfl rfl ?_
  refine gd_iast (q := 68) rfl rfl (Nat.le_of_ble_eq_true rfl) rfl h4 ?_
  refine gd_aload_n (q := 69) rfl rfl rfl ?_
  refine gd_getR (q := 72) (r := 12) rfl rfl rfl (Nat.le_of_ble_eq_true rfl) rfl rfl (gr_9_2 hG) ?_
  refine gd_aload_n (q := 73) rfl rfl rfl ?_
  refine gd_getI (q := 76) rfl rfl rfl (Nat.le_of_ble_eq_true rfl) rfl rfl ?_
  refine gd_new (ci := 1) (q := 79) rfl rfl rfl (Nat.le_of_ble_eq_true rfl) (List.mem_of_getElem? (i := 193) (by decide +kernel)) (List.mem_of_getElem? (i := 324) (by decide +kernel)) (List.mem_of_getElem? (i := 78) (by decide +kernel)) (am_qb.ql hb (Nat.le_of_ble_eq_true rfl)) rfl rfl ⟨(Nat.le_of_ble_eq_true rfl), (Nat.le_of_ble_eq_true rfl)⟩ ?_
  refine gd_dup (q := 80) rfl rfl rfl ?_
  refine gd_callI (q := 83) rfl rfl lk8_32 myX1_init nxX1_init rfl (ct_X1_init_92 _ _ _ (am_qb.up hb)) rfl rfl (Nat.le_of_ble_eq_true rfl) ⟨(Nat.le_of_ble_eq_true rfl), (Nat.le_of_ble_eq_true rfl)⟩ ⟨(Nat.le_of_ble_eq_true rfl), (Nat.le_of_ble_eq_true rfl)⟩ rfl rfl ?_
  refine gd_aast (q := 84) rfl rfl (Nat.le_of_ble_eq_true rfl) rfl hx (Nat.le_of_ble_eq_true rfl) rfl ?_
  refine gd_aload_n (q := 85) rfl rfl rfl ?_
  refine gd_dup (q := 86) rfl rfl rfl ?_
  refine gd_getI (q := 89) rfl rfl rfl (Nat.le_of_ble_eq_true rfl) rfl rfl ?_
  refine gd_iconst (v := 1) (q := 90) rfl rfl rfl ?_
  refine gd_iadd (q := 91) rfl rfl ?_
  refine gd_putI (q := 94) rfl rfl rfl (Nat.le_of_ble_eq_true rfl) rfl rfl rfl (Or.inl rfl) ?_
  refine gd_aload_n (q := 95) rfl rfl rfl ?_
  refine gd_getI (q := 98) rfl rfl rfl (Nat.le_of_ble_eq_true rfl) rfl rfl ?_
  refine gd_iconst (v := 1) (q := 99) rfl rfl rfl ?_
  refine gd_isub (q := 100) rfl rfl ?_
  exact gd_ireturn rfl rfl rfl (Nat.le_of_ble_eq_true rfl) (Nat.le_of_ble_eq_true rfl) rfl
set_option maxRecDepth 100000 in
set_option maxHeartbeats 4000000 in
theorem ct_add_full (I : am_I) (J : am_J) (Q : am_Q) (a1 a2 a3 a4 : Int32) (h : ¬ I 9 3 < 12) : Cm MX8_add 2 8 975 92 [.ref 9, .int a1, .int a2, .int a3, .int a4] I J Q (some (.int (-1)), 92, I, J, Q) := by
  refine cm_of (by decide) rfl IX8_add_ok (Nat.le_of_ble_eq_true rfl) ?_
  show Gd MX8_add (am_o 2 8 975 _) 0 0 92 0 [some (.ref 9), some (.int a1), some (.int a2), some (.int a3), some (.int a4), none] [] I J Q
  refine gd_aload_n (q := 1) rfl rfl rfl ?_
  refine gd_getI (q := 4) rfl rfl rfl (Nat.le_of_ble_eq_true rfl) rfl rfl ?_
  refine gd_bipush (v := 12) (q := 6) rfl rfl rfl ?_
  refine gd_icmp_lt (q := 9) (r := 11) rfl rfl rfl (fun c => absurd c h) (fun _ => ?_)
  refine gd_iconst (v := (-1)) (q := 10) rfl rfl rfl ?_
  exact gd_ireturn rfl rfl rfl (Nat.le_of_ble_eq_true rfl) (Nat.le_of_ble_eq_true rfl) rfl
theorem gd_callVA {y y' : am_MD} {o : am_O} {kc ks n n' pc q idx d' mc' ms' pn b ci : Nat} {nb : Bool} {L : List (Option Value)} {As st rest : List Value} {I I' : am_I} {J J' : am_J} {Q Q' : am_Q} {v : Value} (hat : am_at y pc = some (.invokevirtual idx, 3)) (hq : pc + 3 = q) (hlk : am_lk y.1 idx nb y') (hm : am_my y' pn) (hv : am_vi y') (hc : Cm y' d' mc' ms' n (.ref b :: As) I J Q (some v, n', I', J', Q')) (hst : st = As.reverse ++ .ref b :: rest) (hb : b < n) (hly : am_lay b = .inl ci) (hci : am_cn ci = y'.2.1.cls) (hci2 : ci < 11) (hn : As.length = pn) (hcat : (rest.map fun v => v.category).sum ≤ 8) (hR : d' + 1 ≤ o.1.frames ∧ 8 + (y'.2.2.2.1 + 11) + 40 * d' ≤ o.1.locals) (hf : kc + mc' ≤ o.1.cells ∧ ks + ms' ≤ o.1.slots) (hL : am_lk2 n n' L = true) (hrs : rest.all (am_vk n n') = true)
    (kk : Gd y o (kc + mc') (ks + ms') n' q L (v :: rest) I' J' Q') : Gd y o kc ks n pc L st I J Q := by
  subst hq; subst hst
  intro p l e s m args below meth c H locs ls D dA ad al al0 n0 A S hkap hal hP hD hS hl
  have hpre := am_pre (av := .ref b :: As) S hP hD hS
  obtain ⟨r0, hr0, hr1⟩ : ∃ r0 : vw_C, vwCl[ci]? = some r0 ∧ r0.1 = am_cn ci := am_cls hci2
  have hrec := va_recv S.2.2.2.2.2.2.2.2.2.1.1 hP hr0 (show (am_ws dA al n I J Q)[b]? = some (al b, .inr (ci, am_fs al ci (I b) (Q b))) by rw [am_ws_at hb, am_en, hly])
  rw [hr1, hci] at hrec
  have hrun : va_Run p l e o.1 s m args below meth c H locs kc ks mc' ms' (F0 m pc ls ((As.reverse ++ .ref b :: rest).map (am_cv al))) (rest.map (am_cv al)) (am_Qc D dA (va_A (am_ws dA al n I J Q) H.size) al n (some v, n', I', J', Q') (Value.ref (al b) :: As.map (am_cv al)).toArray) (va_A (am_ws dA al n I J Q) H.size) := by
    cases nb with
    | false => exact va_runV (As := As.map (am_cv al)) ⟨S.1, S.2.1, S.2.2.1, S.2.2.2.2.2.2.1, S.2.2.2.2.2.2.2.1⟩ (hc l D dA ad al H.size) ⟨am_callB S hm hlk hR, S.2.2.2.2.2.2.2.1 _ (am_G_in hv.1 rfl), S.2.2.2.2.2.2.2.1 _ (am_G_in hv.2 rfl)⟩ ⟨hpre.1, hrec, hpre.2⟩ rfl (by rw [List.length_map]; exact hn) hl.1 (am_stk al As (.ref b :: rest)) (lv_room (by rw [am_catsum]; exact hcat)) (S.2.2.2.2.2.2.2.2.1 _ _ hat) hf
    | true => exact va_runVN (As := As.map (am_cv al)) ⟨S.1, S.2.1, S.2.2.1, S.2.2.2.2.2.2.1, S.2.2.2.2.2.2.2.1⟩ (hc l D dA ad al H.size) ⟨am_callN S hm hlk hR, S.2.2.2.2.2.2.2.1 _ (am_G_in hv.1 rfl), S.2.2.2.2.2.2.2.1 _ (am_G_in hv.2 rfl)⟩ ⟨hpre.1, hrec, hpre.2⟩ rfl (by rw [List.length_map]; exact hn) hl.1 (am_stk al As (.ref b :: rest)) (lv_room (by rw [am_catsum]; exact hcat)) (S.2.2.2.2.2.2.2.2.1 _ _ hat) hf
  refine am_after hrun hS (am_sub hD hS S.2.2.2.2.2.2.2.2.2.2) (fun al' H1 locs1 ha hnn hP1 hD1 hS1 => ?_)
  have h := kk p l e s m args below meth c H1 locs1 ls D dA ad al' al0 n0 A S hkap ⟨fun k hk => (ha k (by rcases hk with h | h; exact Or.inl (Nat.lt_of_lt_of_le h hal.2); exact Or.inr h)).trans (hal.1 k (by rcases hk with h | h; exact Or.inl h; exact Or.inr (Nat.le_trans hnn h))), Nat.le_trans hal.2 hnn⟩ hP1 hD1 hS1 (am_H_ag ha hL hl)
  rw [List.map_cons, am_st_ag ha hrs] at h
  exact h
theorem gd_cSk {y y' : am_MD} {o : am_O} {kc ks n pc q idx d' pn : Nat} {nb : Bool} {L : List (Option Value)} {As st rest : List Value} {I I' : am_I} {J J' : am_J} {Q Q' : am_Q} {v : Value} (hat : am_at y pc = some (.invokestatic idx, 3)) (hq : pc + 3 = q) (hlk : am_lk y.1 idx nb y') (hm : am_my y' pn) (hv : am_sta y') (hc : Cm y' d' 0 0 n As I J Q (some v, n, I', J', Q')) (hst : st = As.reverse ++ rest) (hn : As.length = pn) (hcat : (rest.map fun v => v.category).sum ≤ 8) (hR : (d' + 1 ≤ o.1.frames ∧ 8 + (y'.2.2.2.1 + 11) + 40 * d' ≤ o.1.locals) ∧ kc ≤ o.1.cells ∧ ks ≤ o.1.slots) (kk : Gd y o kc ks n q L (v :: rest) I' J' Q') : Gd y o kc ks n pc L st I J Q :=
  gd_callS hat hq hlk hm hv hc hst hn hcat hR.1 hR.2 kk
set_option maxRecDepth 100000 in
set_option maxHeartbeats 4000000 in
theorem ct_person_no1 (I : am_I) (J : am_J) (Q : am_Q) (hG : Gr Q) (a1 a2 a3 a4 : Int32)  (h1 : s_X9_isBelow a1 4 = 0) : Cm MX9_person 3 8 975 92 [.ref 0, .int a1, .int a2, .int a3, .int a4] I J Q (some (.int (-1)), 92, I, J, Q) := by
  refine cm_of (by decide) rfl IX9_person_ok (Nat.le_of_ble_eq_true rfl) ?_
  show Gd MX9_person (am_o 3 8 975 _) 0 0 92 0 [some (.ref 0), some (.int a1), some (.int a2), some (.int a3), some (.int a4), none] [] I J Q
  refine gd_iload_n (q := 1) rfl rfl rfl ?_
  refine gd_iconst (v := 4) (q := 2) rfl rfl rfl ?_
  refine gd_cSk (q := 5) rfl rfl lk9_110 myX9_isBelow sxX9_isBelow (ct_X9_isBelow 0 _ _ _ hG _ _) rfl rfl (Nat.le_of_ble_eq_true rfl) ⟨⟨(Nat.le_of_ble_eq_true rfl), (Nat.le_of_ble_eq_true rfl)⟩, (Nat.le_of_ble_eq_true rfl), (Nat.le_of_ble_eq_true rfl)⟩ ?_
  refine gd_if_eq (q := 8) (r := 37) rfl rfl rfl (fun _ => ?_) (fun c => absurd h1 c)
  refine gd_iconst (v := 0) (q := 38) rfl rfl rfl ?_
  refine gd_istore (q := 40) rfl rfl (Nat.le_of_ble_eq_true rfl) rfl ?_
  refine gd_iload (q := 42) rfl rfl rfl ?_
  refine gd_if_eq (q := 45) (r := 60) rfl rfl rfl (fun _ => ?_) (fun c => absurd rfl c)
  refine gd_iconst (v := (-1)) (q := 61) rfl rfl rfl ?_
  exact gd_ireturn rfl rfl rfl (Nat.le_of_ble_eq_true rfl) (Nat.le_of_ble_eq_true rfl) rfl
set_option maxRecDepth 100000 in
set_option maxHeartbeats 4000000 in
theorem ct_person_no2 (I : am_I) (J : am_J) (Q : am_Q) (hG : Gr Q) (a1 a2 a3 a4 : Int32) (h1 : ¬ s_X9_isBelow a1 4 = 0) (h2 : s_X9_isBelow a2 4 = 0) : Cm MX9_person 3 8 975 92 [.ref 0, .int a1, .int a2, .int a3, .int a4] I J Q (some (.int (-1)), 92, I, J, Q) := by
  refine cm_of (by decide) rfl IX9_person_ok (Nat.le_of_ble_eq_true rfl) ?_
  show Gd MX9_person (am_o 3 8 975 _) 0 0 92 0 [some (.ref 0), some (.int a1), some (.int a2), some (.int a3), some (.int a4), none] [] I J Q
  refine gd_iload_n (q := 1) rfl rfl rfl ?_
  refine gd_iconst (v := 4) (q := 2) rfl rfl rfl ?_
  refine gd_cSk (q := 5) rfl rfl lk9_110 myX9_isBelow sxX9_isBelow (ct_X9_isBelow 0 _ _ _ hG _ _) rfl rfl (Nat.le_of_ble_eq_true rfl) ⟨⟨(Nat.le_of_ble_eq_true rfl), (Nat.le_of_ble_eq_true rfl)⟩, (Nat.le_of_ble_eq_true rfl), (Nat.le_of_ble_eq_true rfl)⟩ ?_
  refine gd_if_eq (q := 8) (r := 37) rfl rfl rfl (fun c => absurd c h1) (fun _ => ?_)
  refine gd_iload_n (q := 9) rfl rfl rfl ?_
  refine gd_iconst (v := 4) (q := 10) rfl rfl rfl ?_
  refine gd_cSk (q := 13) rfl rfl lk9_110 myX9_isBelow sxX9_isBelow (ct_X9_isBelow 0 _ _ _ hG _ _) rfl rfl (Nat.le_of_ble_eq_true rfl) ⟨⟨(Nat.le_of_ble_eq_true rfl), (Nat.le_of_ble_eq_true rfl)⟩, (Nat.le_of_ble_eq_true rfl), (Nat.le_of_ble_eq_true rfl)⟩ ?_
  refine gd_if_eq (q := 16) (r := 37) rfl rfl rfl (fun _ => ?_) (fun c => absurd h2 c)
  refine gd_iconst (v := 0) (q := 38) rfl rfl rfl ?_
  refine gd_istore (q := 40) rfl rfl (Nat.le_of_ble_eq_true rfl) rfl ?_
  refine gd_iload (q := 42) rfl rfl rfl ?_
  refine gd_if_eq (q := 45) (r := 60) rfl rfl rfl (fun _ => ?_) (fun c => absurd rfl c)
  refine gd_iconst (v := (-1)) (q := 61) rfl rfl rfl ?_
  exact gd_ireturn rfl rfl rfl (Nat.le_of_ble_eq_true rfl) (Nat.le_of_ble_eq_true rfl) rfl
set_option maxRecDepth 100000 in
set_option maxHeartbeats 4000000 in
theorem ct_person_no3 (I : am_I) (J : am_J) (Q : am_Q) (hG : Gr Q) (a1 a2 a3 a4 : Int32) (h1 : ¬ s_X9_isBelow a1 4 = 0) (h2 : ¬ s_X9_isBelow a2 4 = 0) (h3 : s_X9_isBelow a3 4 = 0) : Cm MX9_person 3 8 975 92 [.ref 0, .int a1, .int a2, .int a3, .int a4] I J Q (some (.int (-1)), 92, I, J, Q) := by
  refine cm_of (by decide) rfl IX9_person_ok (Nat.le_of_ble_eq_true rfl) ?_
  show Gd MX9_person (am_o 3 8 975 _) 0 0 92 0 [some (.ref 0), some (.int a1), some (.int a2), some (.int a3), some (.int a4), none] [] I J Q
  refine gd_iload_n (q := 1) rfl rfl rfl ?_
  refine gd_iconst (v := 4) (q := 2) rfl rfl rfl ?_
  refine gd_cSk (q := 5) rfl rfl lk9_110 myX9_isBelow sxX9_isBelow (ct_X9_isBelow 0 _ _ _ hG _ _) rfl rfl (Nat.le_of_ble_eq_true rfl) ⟨⟨(Nat.le_of_ble_eq_true rfl), (Nat.le_of_ble_eq_true rfl)⟩, (Nat.le_of_ble_eq_true rfl), (Nat.le_of_ble_eq_true rfl)⟩ ?_
  refine gd_if_eq (q := 8) (r := 37) rfl rfl rfl (fun c => absurd c h1) (fun _ => ?_)
  refine gd_iload_n (q := 9) rfl rfl rfl ?_
  refine gd_iconst (v := 4) (q := 10) rfl rfl rfl ?_
  refine gd_cSk (q := 13) rfl rfl lk9_110 myX9_isBelow sxX9_isBelow (ct_X9_isBelow 0 _ _ _ hG _ _) rfl rfl (Nat.le_of_ble_eq_true rfl) ⟨⟨(Nat.le_of_ble_eq_true rfl), (Nat.le_of_ble_eq_true rfl)⟩, (Nat.le_of_ble_eq_true rfl), (Nat.le_of_ble_eq_true rfl)⟩ ?_
  refine gd_if_eq (q := 16) (r := 37) rfl rfl rfl (fun c => absurd c h2) (fun _ => ?_)
  refine gd_iload_n (q := 17) rfl rfl rfl ?_
  refine gd_iconst (v := 4) (q := 18) rfl rfl rfl ?_
  refine gd_cSk (q := 21) rfl rfl lk9_110 myX9_isBelow sxX9_isBelow (ct_X9_isBelow 0 _ _ _ hG _ _) rfl rfl (Nat.le_of_ble_eq_true rfl) ⟨⟨(Nat.le_of_ble_eq_true rfl), (Nat.le_of_ble_eq_true rfl)⟩, (Nat.le_of_ble_eq_true rfl), (Nat.le_of_ble_eq_true rfl)⟩ ?_
  refine gd_if_eq (q := 24) (r := 37) rfl rfl rfl (fun _ => ?_) (fun c => absurd h3 c)
  refine gd_iconst (v := 0) (q := 38) rfl rfl rfl ?_
  refine gd_istore (q := 40) rfl rfl (Nat.le_of_ble_eq_true rfl) rfl ?_
  refine gd_iload (q := 42) rfl rfl rfl ?_
  refine gd_if_eq (q := 45) (r := 60) rfl rfl rfl (fun _ => ?_) (fun c => absurd rfl c)
  refine gd_iconst (v := (-1)) (q := 61) rfl rfl rfl ?_
  exact gd_ireturn rfl rfl rfl (Nat.le_of_ble_eq_true rfl) (Nat.le_of_ble_eq_true rfl) rfl
set_option maxRecDepth 100000 in
set_option maxHeartbeats 4000000 in
theorem ct_person_no4 (I : am_I) (J : am_J) (Q : am_Q) (hG : Gr Q) (a1 a2 a3 a4 : Int32) (h1 : ¬ s_X9_isBelow a1 4 = 0) (h2 : ¬ s_X9_isBelow a2 4 = 0) (h3 : ¬ s_X9_isBelow a3 4 = 0) (h4 : s_X9_isBelow a4 4 = 0) : Cm MX9_person 3 8 975 92 [.ref 0, .int a1, .int a2, .int a3, .int a4] I J Q (some (.int (-1)), 92, I, J, Q) := by
  refine cm_of (by decide) rfl IX9_person_ok (Nat.le_of_ble_eq_true rfl) ?_
  show Gd MX9_person (am_o 3 8 975 _) 0 0 92 0 [some (.ref 0), some (.int a1), some (.int a2), some (.int a3), some (.int a4), none] [] I J Q
  refine gd_iload_n (q := 1) rfl rfl rfl ?_
  refine gd_iconst (v := 4) (q := 2) rfl rfl rfl ?_
  refine gd_cSk (q := 5) rfl rfl lk9_110 myX9_isBelow sxX9_isBelow (ct_X9_isBelow 0 _ _ _ hG _ _) rfl rfl (Nat.le_of_ble_eq_true rfl) ⟨⟨(Nat.le_of_ble_eq_true rfl), (Nat.le_of_ble_eq_true rfl)⟩, (Nat.le_of_ble_eq_true rfl), (Nat.le_of_ble_eq_true rfl)⟩ ?_
  refine gd_if_eq (q := 8) (r := 37) rfl rfl rfl (fun c => absurd c h1) (fun _ => ?_)
  refine gd_iload_n (q := 9) rfl rfl rfl ?_
  refine gd_iconst (v := 4) (q := 10) rfl rfl rfl ?_
  refine gd_cSk (q := 13) rfl rfl lk9_110 myX9_isBelow sxX9_isBelow (ct_X9_isBelow 0 _ _ _ hG _ _) rfl rfl (Nat.le_of_ble_eq_true rfl) ⟨⟨(Nat.le_of_ble_eq_true rfl), (Nat.le_of_ble_eq_true rfl)⟩, (Nat.le_of_ble_eq_true rfl), (Nat.le_of_ble_eq_true rfl)⟩ ?_
  refine gd_if_eq (q := 16) (r := 37) rfl rfl rfl (fun c => absurd c h2) (fun _ => ?_)
  refine gd_iload_n (q := 17) rfl rfl rfl ?_
  refine gd_iconst (v := 4) (q := 18) rfl rfl rfl ?_
  refine gd_cSk (q := 21) rfl rfl lk9_110 myX9_isBelow sxX9_isBelow (ct_X9_isBelow 0 _ _ _ hG _ _) rfl rfl (Nat.le_of_ble_eq_true rfl) ⟨⟨(Nat.le_of_ble_eq_true rfl), (Nat.le_of_ble_eq_true rfl)⟩, (Nat.le_of_ble_eq_true rfl), (Nat.le_of_ble_eq_true rfl)⟩ ?_
  refine gd_if_eq (q := 24) (r := 37) rfl rfl rfl (fun c => absurd c h3) (fun _ => ?_)
  refine gd_iload (q := 26) rfl rfl rfl ?_
  refine gd_iconst (v := 4) (q := 27) rfl rfl rfl ?_
  refine gd_cSk (q := 30) rfl rfl lk9_110 myX9_isBelow sxX9_isBelow (ct_X9_isBelow 0 _ _ _ hG _ _) rfl rfl (Nat.le_of_ble_eq_true rfl) ⟨⟨(Nat.le_of_ble_eq_true rfl), (Nat.le_of_ble_eq_true rfl)⟩, (Nat.le_of_ble_eq_true rfl), (Nat.le_of_ble_eq_true rfl)⟩ ?_
  refine gd_if_eq (q := 33) (r := 37) rfl rfl rfl (fun _ => ?_) (fun c => absurd h4 c)
  refine gd_iconst (v := 0) (q := 38) rfl rfl rfl ?_
  refine gd_istore (q := 40) rfl rfl (Nat.le_of_ble_eq_true rfl) rfl ?_
  refine gd_iload (q := 42) rfl rfl rfl ?_
  refine gd_if_eq (q := 45) (r := 60) rfl rfl rfl (fun _ => ?_) (fun c => absurd rfl c)
  refine gd_iconst (v := (-1)) (q := 61) rfl rfl rfl ?_
  exact gd_ireturn rfl rfl rfl (Nat.le_of_ble_eq_true rfl) (Nat.le_of_ble_eq_true rfl) rfl
set_option maxRecDepth 100000 in
set_option maxHeartbeats 4000000 in
theorem ct_person_full (I : am_I) (J : am_J) (Q : am_Q) (hG : Gr Q) (a1 a2 a3 a4 : Int32) (h1 : ¬ s_X9_isBelow a1 4 = 0) (h2 : ¬ s_X9_isBelow a2 4 = 0) (h3 : ¬ s_X9_isBelow a3 4 = 0) (h4 : ¬ s_X9_isBelow a4 4 = 0) (h : ¬ I 9 3 < 12) : Cm MX9_person 3 8 975 92 [.ref 0, .int a1, .int a2, .int a3, .int a4] I J Q (some (.int (-1)), 92, I, J, Q) := by
  refine cm_of (by decide) rfl IX9_person_ok (Nat.le_of_ble_eq_true rfl) ?_
  show Gd MX9_person (am_o 3 8 975 _) 0 0 92 0 [some (.ref 0), some (.int a1), some (.int a2), some (.int a3), some (.int a4), none] [] I J Q
  refine gd_iload_n (q := 1) rfl rfl rfl ?_
  refine gd_iconst (v := 4) (q := 2) rfl rfl rfl ?_
  refine gd_cSk (q := 5) rfl rfl lk9_110 myX9_isBelow sxX9_isBelow (ct_X9_isBelow 0 _ _ _ hG _ _) rfl rfl (Nat.le_of_ble_eq_true rfl) ⟨⟨(Nat.le_of_ble_eq_true rfl), (Nat.le_of_ble_eq_true rfl)⟩, (Nat.le_of_ble_eq_true rfl), (Nat.le_of_ble_eq_true rfl)⟩ ?_
  refine gd_if_eq (q := 8) (r := 37) rfl rfl rfl (fun c => absurd c h1) (fun _ => ?_)
  refine gd_iload_n (q := 9) rfl rfl rfl ?_
  refine gd_iconst (v := 4) (q := 10) rfl rfl rfl ?_
  refine gd_cSk (q := 13) rfl rfl lk9_110 myX9_isBelow sxX9_isBelow (ct_X9_isBelow 0 _ _ _ hG _ _) rfl rfl (Nat.le_of_ble_eq_true rfl) ⟨⟨(Nat.le_of_ble_eq_true rfl), (Nat.le_of_ble_eq_true rfl)⟩, (Nat.le_of_ble_eq_true rfl), (Nat.le_of_ble_eq_true rfl)⟩ ?_
  refine gd_if_eq (q := 16) (r := 37) rfl rfl rfl (fun c => absurd c h2) (fun _ => ?_)
  refine gd_iload_n (q := 17) rfl rfl rfl ?_
  refine gd_iconst (v := 4) (q := 18) rfl rfl rfl ?_
  refine gd_cSk (q := 21) rfl rfl lk9_110 myX9_isBelow sxX9_isBelow (ct_X9_isBelow 0 _ _ _ hG _ _) rfl rfl (Nat.le_of_ble_eq_true rfl) ⟨⟨(Nat.le_of_ble_eq_true rfl), (Nat.le_of_ble_eq_true rfl)⟩, (Nat.le_of_ble_eq_true rfl), (Nat.le_of_ble_eq_true rfl)⟩ ?_
  refine gd_if_eq (q := 24) (r := 37) rfl rfl rfl (fun c => absurd c h3) (fun _ => ?_)
  refine gd_iload (q := 26) rfl rfl rfl ?_
  refine gd_iconst (v := 4) (q := 27) rfl rfl rfl ?_
  refine gd_cSk (q := 30) rfl rfl lk9_110 myX9_isBelow sxX9_isBelow (ct_X9_isBelow 0 _ _ _ hG _ _) rfl rfl (Nat.le_of_ble_eq_true rfl) ⟨⟨(Nat.le_of_ble_eq_true rfl), (Nat.le_of_ble_eq_true rfl)⟩, (Nat.le_of_ble_eq_true rfl), (Nat.le_of_ble_eq_true rfl)⟩ ?_
  refine gd_if_eq (q := 33) (r := 37) rfl rfl rfl (fun c => absurd c h4) (fun _ => ?_)
  refine gd_iconst (v := 1) (q := 34) rfl rfl rfl ?_
  refine gd_goto (q := 38) rfl rfl ?_
  refine gd_istore (q := 40) rfl rfl (Nat.le_of_ble_eq_true rfl) rfl ?_
  refine gd_iload (q := 42) rfl rfl rfl ?_
  refine gd_if_eq (q := 45) (r := 60) rfl rfl rfl (fun c => absurd c (by decide)) (fun _ => ?_)
  refine gd_aload_n (q := 46) rfl rfl rfl ?_
  refine gd_getR (q := 49) (r := 9) rfl rfl rfl (Nat.le_of_ble_eq_true rfl) rfl rfl (gr_0_3 hG) ?_
  refine gd_iload_n (q := 50) rfl rfl rfl ?_
  refine gd_iload_n (q := 51) rfl rfl rfl ?_
  refine gd_iload_n (q := 52) rfl rfl rfl ?_
  refine gd_iload (q := 54) rfl rfl rfl ?_
  refine gd_callVA (q := 57) rfl rfl lk9_114 myX8_add vxX8_add (ct_add_full _ _ _ _ _ _ _ h) rfl (Nat.le_of_ble_eq_true rfl) rfl rfl (Nat.le_of_ble_eq_true rfl) rfl (Nat.le_of_ble_eq_true rfl) ⟨(Nat.le_of_ble_eq_true rfl), (Nat.le_of_ble_eq_true rfl)⟩ ⟨(Nat.le_of_ble_eq_true rfl), (Nat.le_of_ble_eq_true rfl)⟩ rfl rfl ?_
  refine gd_goto (q := 61) rfl rfl ?_
  exact gd_ireturn rfl rfl rfl (Nat.le_of_ble_eq_true rfl) (Nat.le_of_ble_eq_true rfl) rfl
set_option maxRecDepth 100000 in
set_option maxHeartbeats 4000000 in
theorem ct_person_new (I : am_I) (J : am_J) (Q : am_Q) (hG : Gr Q) (hb : am_qb 92 Q) (a1 a2 a3 a4 : Int32) (h1 : ¬ s_X9_isBelow a1 4 = 0) (h2 : ¬ s_X9_isBelow a2 4 = 0) (h3 : ¬ s_X9_isBelow a3 4 = 0) (h4 : ¬ s_X9_isBelow a4 4 = 0) (h : I 9 3 < 12) (g0 : vp_in ((I 9 3) * 4) 48) (g1 : vp_in (((I 9 3) * 4) + 1) 48) (g2 : vp_in (((I 9 3) * 4) + 2) 48) (g3 : vp_in (((I 9 3) * 4) + 3) 48) (g4 : vp_in (I 9 3) 12) (hx : vp_in (I 9 3) 12) : Cm MX9_person 3 8 975 92 [.ref 0, .int a1, .int a2, .int a3, .int a4] I J Q (some (.int (na_v I a1 a2 a3 a4)), 100, na_I I a1 a2 a3 a4, na_J J, na_Q I Q a1 a2 a3 a4) := by
  refine cm_of (by decide) rfl IX9_person_ok (Nat.le_of_ble_eq_true rfl) ?_
  show Gd MX9_person (am_o 3 8 975 _) 0 0 92 0 [some (.ref 0), some (.int a1), some (.int a2), some (.int a3), some (.int a4), none] [] I J Q
  refine gd_iload_n (q := 1) rfl rfl rfl ?_
  refine gd_iconst (v := 4) (q := 2) rfl rfl rfl ?_
  refine gd_cSk (q := 5) rfl rfl lk9_110 myX9_isBelow sxX9_isBelow (ct_X9_isBelow 0 _ _ _ hG _ _) rfl rfl (Nat.le_of_ble_eq_true rfl) ⟨⟨(Nat.le_of_ble_eq_true rfl), (Nat.le_of_ble_eq_true rfl)⟩, (Nat.le_of_ble_eq_true rfl), (Nat.le_of_ble_eq_true rfl)⟩ ?_
  refine gd_if_eq (q := 8) (r := 37) rfl rfl rfl (fun c => absurd c h1) (fun _ => ?_)
  refine gd_iload_n (q := 9) rfl rfl rfl ?_
  refine gd_iconst (v := 4) (q := 10) rfl rfl rfl ?_
  refine gd_cSk (q := 13) rfl rfl lk9_110 myX9_isBelow sxX9_isBelow (ct_X9_isBelow 0 _ _ _ hG _ _) rfl rfl (Nat.le_of_ble_eq_true rfl) ⟨⟨(Nat.le_of_ble_eq_true rfl), (Nat.le_of_ble_eq_true rfl)⟩, (Nat.le_of_ble_eq_true rfl), (Nat.le_of_ble_eq_true rfl)⟩ ?_
  refine gd_if_eq (q := 16) (r := 37) rfl rfl rfl (fun c => absurd c h2) (fun _ => ?_)
  refine gd_iload_n (q := 17) rfl rfl rfl ?_
  refine gd_iconst (v := 4) (q := 18) rfl rfl rfl ?_
  refine gd_cSk (q := 21) rfl rfl lk9_110 myX9_isBelow sxX9_isBelow (ct_X9_isBelow 0 _ _ _ hG _ _) rfl rfl (Nat.le_of_ble_eq_true rfl) ⟨⟨(Nat.le_of_ble_eq_true rfl), (Nat.le_of_ble_eq_true rfl)⟩, (Nat.le_of_ble_eq_true rfl), (Nat.le_of_ble_eq_true rfl)⟩ ?_
  refine gd_if_eq (q := 24) (r := 37) rfl rfl rfl (fun c => absurd c h3) (fun _ => ?_)
  refine gd_iload (q := 26) rfl rfl rfl ?_
  refine gd_iconst (v := 4) (q := 27) rfl rfl rfl ?_
  refine gd_cSk (q := 30) rfl rfl lk9_110 myX9_isBelow sxX9_isBelow (ct_X9_isBelow 0 _ _ _ hG _ _) rfl rfl (Nat.le_of_ble_eq_true rfl) ⟨⟨(Nat.le_of_ble_eq_true rfl), (Nat.le_of_ble_eq_true rfl)⟩, (Nat.le_of_ble_eq_true rfl), (Nat.le_of_ble_eq_true rfl)⟩ ?_
  refine gd_if_eq (q := 33) (r := 37) rfl rfl rfl (fun c => absurd c h4) (fun _ => ?_)
  refine gd_iconst (v := 1) (q := 34) rfl rfl rfl ?_
  refine gd_goto (q := 38) rfl rfl ?_
  refine gd_istore (q := 40) rfl rfl (Nat.le_of_ble_eq_true rfl) rfl ?_
  refine gd_iload (q := 42) rfl rfl rfl ?_
  refine gd_if_eq (q := 45) (r := 60) rfl rfl rfl (fun c => absurd c (by decide)) (fun _ => ?_)
  refine gd_aload_n (q := 46) rfl rfl rfl ?_
  refine gd_getR (q := 49) (r := 9) rfl rfl rfl (Nat.le_of_ble_eq_true rfl) rfl rfl (gr_0_3 hG) ?_
  refine gd_iload_n (q := 50) rfl rfl rfl ?_
  refine gd_iload_n (q := 51) rfl rfl rfl ?_
  refine gd_iload_n (q := 52) rfl rfl rfl ?_
  refine gd_iload (q := 54) rfl rfl rfl ?_
  refine gd_callVA (q := 57) rfl rfl lk9_114 myX8_add vxX8_add (ct_add_new _ _ _ hG hb _ _ _ _ h g0 g1 g2 g3 g4 hx) rfl (Nat.le_of_ble_eq_true rfl) rfl rfl (Nat.le_of_ble_eq_true rfl) rfl (Nat.le_of_ble_eq_true rfl) ⟨(Nat.le_of_ble_eq_true rfl), (Nat.le_of_ble_eq_true rfl)⟩ ⟨(Nat.le_of_ble_eq_true rfl), (Nat.le_of_ble_eq_true rfl)⟩ rfl rfl ?_
  refine gd_goto (q := 61) rfl rfl ?_
  exact gd_ireturn rfl rfl rfl (Nat.le_of_ble_eq_true rfl) (Nat.le_of_ble_eq_true rfl) rfl
