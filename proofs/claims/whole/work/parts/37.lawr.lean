theorem gl_iconst {b N kc ks nc pc q : Nat} {xs : Nat → Int32} {L : List (Option Value)} {st : List Value} {I : am_I} {J : am_J} {Q : am_Q} {E : Nat → am_I} {k : Int} {v : Int32} (hat : am_at ML_law pc = some (.iconst k, 1)) (hq : pc + 1 = q) (hv : Int32.ofInt k = v) (kk : GL b N xs kc ks q L (.int v :: st) nc I J Q E) : GL b N xs kc ks pc L st nc I J Q E := by
  subst hq
  intro p l e s m below meth c H locs ls D dA ad al C0 S hb2 hW hS hl
  exact lv_iconst S.1 S.2.1 (S.2.2.2.2.2.2.2.2.1 _ _ hat) hv (kk p l e s m below meth c H locs ls D dA ad al C0 S hb2 hW hS hl)
theorem gl_bipush {b N kc ks nc pc q : Nat} {xs : Nat → Int32} {L : List (Option Value)} {st : List Value} {I : am_I} {J : am_J} {Q : am_Q} {E : Nat → am_I} {k : Int} {v : Int32} (hat : am_at ML_law pc = some (.bipush k, 2)) (hq : pc + 2 = q) (hv : (Int8.ofInt k).toInt32 = v) (kk : GL b N xs kc ks q L (.int v :: st) nc I J Q E) : GL b N xs kc ks pc L st nc I J Q E := by
  subst hq
  intro p l e s m below meth c H locs ls D dA ad al C0 S hb2 hW hS hl
  exact lv_bipush S.1 S.2.1 (S.2.2.2.2.2.2.2.2.1 _ _ hat) hv (kk p l e s m below meth c H locs ls D dA ad al C0 S hb2 hW hS hl)
theorem gl_iload_n {b N kc ks nc pc q : Nat} {xs : Nat → Int32} {L : List (Option Value)} {st : List Value} {I : am_I} {J : am_J} {Q : am_Q} {E : Nat → am_I} {k : Fin 4} {x : Int32} (hat : am_at ML_law pc = some (.iload_n k, 1)) (hq : pc + 1 = q) (hL : L[(k : Nat)]? = some (some (.int x))) (kk : GL b N xs kc ks q L (.int x :: st) nc I J Q E) : GL b N xs kc ks pc L st nc I J Q E := by
  subst hq
  intro p l e s m below meth c H locs ls D dA ad al C0 S hb2 hW hS hl
  exact lv_iload_n S.1 S.2.1 (S.2.2.2.2.2.2.2.2.1 _ _ hat) rfl (hl.get hL) (kk p l e s m below meth c H locs ls D dA ad al C0 S hb2 hW hS hl)
theorem gl_aload_n {b N kc ks nc pc q : Nat} {xs : Nat → Int32} {L : List (Option Value)} {st : List Value} {I : am_I} {J : am_J} {Q : am_Q} {E : Nat → am_I} {k : Fin 4} {x : Nat} (hat : am_at ML_law pc = some (.aload_n k, 1)) (hq : pc + 1 = q) (hL : L[(k : Nat)]? = some (some (.ref x))) (kk : GL b N xs kc ks q L (.ref x :: st) nc I J Q E) : GL b N xs kc ks pc L st nc I J Q E := by
  subst hq
  intro p l e s m below meth c H locs ls D dA ad al C0 S hb2 hW hS hl
  exact lv_aload_n S.1 S.2.1 (S.2.2.2.2.2.2.2.2.1 _ _ hat) rfl (hl.get hL) (kk p l e s m below meth c H locs ls D dA ad al C0 S hb2 hW hS hl)
theorem gl_istore_n {b N kc ks nc pc q : Nat} {xs : Nat → Int32} {L : List (Option Value)} {st : List Value} {I : am_I} {J : am_J} {Q : am_Q} {E : Nat → am_I} {k : Fin 4} {x : Int32} (hat : am_at ML_law pc = some (.istore_n k, 1)) (hq : pc + 1 = q) (hn : (k : Nat) < 4) (hnl : am_nl L k = true) (kk : GL b N xs kc ks q (L.set (k : Nat) (some (.int x))) st nc I J Q E) : GL b N xs kc ks pc L (.int x :: st) nc I J Q E := by
  subst hq
  intro p l e s m below meth c H locs ls D dA ad al C0 S hb2 hW hS hl
  exact lv_istore_n S.1 S.2.1 (S.2.2.2.2.2.2.2.2.1 _ _ hat) rfl hl hn rfl (fun ls2 hl2 => kk p l e s m below meth c H locs ls2 D dA ad al C0 S hb2 hW hS (am_H.st1 (ls := ls) hnl hl2))
theorem gl_iinc {b N kc ks nc pc q : Nat} {xs : Nat → Int32} {L : List (Option Value)} {st : List Value} {I : am_I} {J : am_J} {Q : am_Q} {E : Nat → am_I} {i : Nat} {k : Int} {x v : Int32} (hat : am_at ML_law pc = some (.iinc i k, 3)) (hq : pc + 3 = q) (hL : L[i]? = some (some (.int x))) (hv : x + Int32.ofInt k = v) (hn : i < 4) (hnl : am_nl L i = true) (kk : GL b N xs kc ks q (L.set i (some (.int v))) st nc I J Q E) : GL b N xs kc ks pc L st nc I J Q E := by
  subst hq
  intro p l e s m below meth c H locs ls D dA ad al C0 S hb2 hW hS hl
  obtain ⟨j, hj⟩ := List.getElem?_of_mem (am_ll_in (al := al) hL)
  exact lv_iinc (k := j) (v := v) S.1 S.2.1 (S.2.2.2.2.2.2.2.2.1 _ _ hat) hl hj hv hn rfl (fun ls2 hl2 => kk p l e s m below meth c H locs ls2 D dA ad al C0 S hb2 hW hS (am_H.st1 (ls := ls) (v := .int v) hnl hl2))
theorem gl_iadd {b N kc ks nc pc q : Nat} {xs : Nat → Int32} {L : List (Option Value)} {st : List Value} {I : am_I} {J : am_J} {Q : am_Q} {E : Nat → am_I} {x z : Int32} (hat : am_at ML_law pc = some (.iadd, 1)) (hq : pc + 1 = q) (kk : GL b N xs kc ks q L (.int (x + z) :: st) nc I J Q E) : GL b N xs kc ks pc L (.int z :: .int x :: st) nc I J Q E := by
  subst hq
  intro p l e s m below meth c H locs ls D dA ad al C0 S hb2 hW hS hl
  exact lv_iadd S.1 S.2.1 (S.2.2.2.2.2.2.2.2.1 _ _ hat) (kk p l e s m below meth c H locs ls D dA ad al C0 S hb2 hW hS hl)
theorem gl_isub {b N kc ks nc pc q : Nat} {xs : Nat → Int32} {L : List (Option Value)} {st : List Value} {I : am_I} {J : am_J} {Q : am_Q} {E : Nat → am_I} {x z : Int32} (hat : am_at ML_law pc = some (.isub, 1)) (hq : pc + 1 = q) (kk : GL b N xs kc ks q L (.int (x - z) :: st) nc I J Q E) : GL b N xs kc ks pc L (.int z :: .int x :: st) nc I J Q E := by
  subst hq
  intro p l e s m below meth c H locs ls D dA ad al C0 S hb2 hW hS hl
  exact lv_isub S.1 S.2.1 (S.2.2.2.2.2.2.2.2.1 _ _ hat) (kk p l e s m below meth c H locs ls D dA ad al C0 S hb2 hW hS hl)
theorem gl_iand {b N kc ks nc pc q : Nat} {xs : Nat → Int32} {L : List (Option Value)} {st : List Value} {I : am_I} {J : am_J} {Q : am_Q} {E : Nat → am_I} {x z : Int32} (hat : am_at ML_law pc = some (.iand, 1)) (hq : pc + 1 = q) (kk : GL b N xs kc ks q L (.int (x &&& z) :: st) nc I J Q E) : GL b N xs kc ks pc L (.int z :: .int x :: st) nc I J Q E := by
  subst hq
  intro p l e s m below meth c H locs ls D dA ad al C0 S hb2 hW hS hl
  exact lv_iand S.1 S.2.1 (S.2.2.2.2.2.2.2.2.1 _ _ hat) (kk p l e s m below meth c H locs ls D dA ad al C0 S hb2 hW hS hl)
theorem gl_goto {b N kc ks nc pc q : Nat} {xs : Nat → Int32} {L : List (Option Value)} {st : List Value} {I : am_I} {J : am_J} {Q : am_Q} {E : Nat → am_I} {off : Int} (hat : am_at ML_law pc = some (.goto off, 3)) (hr : (pc : Int) + off = (q : Int)) (kk : GL b N xs kc ks q L st nc I J Q E) : GL b N xs kc ks pc L st nc I J Q E := by
  intro p l e s m below meth c H locs ls D dA ad al C0 S hb2 hW hS hl
  exact lv_goto S.1 S.2.1 (S.2.2.2.2.2.2.2.2.1 _ _ hat) hr (kk p l e s m below meth c H locs ls D dA ad al C0 S hb2 hW hS hl)
theorem gl_icmp_gt {b N kc ks nc pc q : Nat} {xs : Nat → Int32} {L : List (Option Value)} {st : List Value} {I : am_I} {J : am_J} {Q : am_Q} {E : Nat → am_I} {r : Nat} {x z : Int32} {off : Int} (hat : am_at ML_law pc = some (.if_icmp .gt off, 3)) (hq : pc + 3 = q) (hr : (pc : Int) + off = (r : Int)) (kt : z < x → GL b N xs kc ks r L st nc I J Q E) (kf : ¬ z < x → GL b N xs kc ks q L st nc I J Q E) : GL b N xs kc ks pc L (.int z :: .int x :: st) nc I J Q E := by
  subst hq
  intro p l e s m below meth c H locs ls D dA ad al C0 S hb2 hW hS hl
  exact lv_icmp_gt S.1 S.2.1 (S.2.2.2.2.2.2.2.2.1 _ _ hat) hr (fun hc => kt hc p l e s m below meth c H locs ls D dA ad al C0 S hb2 hW hS hl) (fun hc => kf hc p l e s m below meth c H locs ls D dA ad al C0 S hb2 hW hS hl)
theorem gl_icmp_eq {b N kc ks nc pc q : Nat} {xs : Nat → Int32} {L : List (Option Value)} {st : List Value} {I : am_I} {J : am_J} {Q : am_Q} {E : Nat → am_I} {r : Nat} {x z : Int32} {off : Int} (hat : am_at ML_law pc = some (.if_icmp .eq off, 3)) (hq : pc + 3 = q) (hr : (pc : Int) + off = (r : Int)) (kt : x = z → GL b N xs kc ks r L st nc I J Q E) (kf : ¬ x = z → GL b N xs kc ks q L st nc I J Q E) : GL b N xs kc ks pc L (.int z :: .int x :: st) nc I J Q E := by
  subst hq
  intro p l e s m below meth c H locs ls D dA ad al C0 S hb2 hW hS hl
  exact lv_icmp_eq S.1 S.2.1 (S.2.2.2.2.2.2.2.2.1 _ _ hat) hr (fun hc => kt hc p l e s m below meth c H locs ls D dA ad al C0 S hb2 hW hS hl) (fun hc => kf hc p l e s m below meth c H locs ls D dA ad al C0 S hb2 hW hS hl)
theorem gl_tsIn {b N kc ks nc pc q : Nat} {xs : Nat → Int32} {L : List (Option Value)} {st : List Value} {I : am_I} {J : am_J} {Q : am_Q} {E : Nat → am_I} {dflt lo hi off : Int} {offs : Array Int} {len : Nat} {x : Int32} (hat : am_at ML_law pc = some (.tableswitch dflt lo hi offs, len)) (h1 : ¬ x.toInt < lo) (h2 : ¬ hi < x.toInt) (ho : offs[(x.toInt - lo).toNat]? = some off) (hr : (pc : Int) + off = (q : Int)) (kk : GL b N xs kc ks q L st nc I J Q E) : GL b N xs kc ks pc L (.int x :: st) nc I J Q E := by
  intro p l e s m below meth c H locs ls D dA ad al C0 S hb2 hW hS hl
  exact lv_tableIn S.1 S.2.1 (S.2.2.2.2.2.2.2.2.1 _ _ hat) h1 h2 ho hr (kk p l e s m below meth c H locs ls D dA ad al C0 S hb2 hW hS hl)
theorem gl_tsOut {b N kc ks nc pc q : Nat} {xs : Nat → Int32} {L : List (Option Value)} {st : List Value} {I : am_I} {J : am_J} {Q : am_Q} {E : Nat → am_I} {dflt lo hi : Int} {offs : Array Int} {len : Nat} {x : Int32} (hat : am_at ML_law pc = some (.tableswitch dflt lo hi offs, len)) (h : x.toInt < lo ∨ hi < x.toInt) (hr : (pc : Int) + dflt = (q : Int)) (kk : GL b N xs kc ks q L st nc I J Q E) : GL b N xs kc ks pc L (.int x :: st) nc I J Q E := by
  intro p l e s m below meth c H locs ls D dA ad al C0 S hb2 hW hS hl
  exact lv_tableOut S.1 S.2.1 (S.2.2.2.2.2.2.2.2.1 _ _ hat) h hr (kk p l e s m below meth c H locs ls D dA ad al C0 S hb2 hW hS hl)
theorem gl_sld {b N kc ks nc pc q : Nat} {xs : Nat → Int32} {L : List (Option Value)} {st : List Value} {I : am_I} {J : am_J} {Q : am_Q} {E : Nat → am_I} {i : Int32} (hat : am_at ML_law pc = some (.iaload, 1)) (hq : pc + 1 = q) (hin : vp_in i N) (kk : GL b N xs kc ks q L (.int (xs i.toNatClampNeg) :: st) nc I J Q E) : GL b N xs kc ks pc L (.int i :: .ref 2000 :: st) nc I J Q E := by
  subst hq
  intro p l e s m below meth c H locs ls D dA ad al C0 S hb2 hW hS hl
  obtain ⟨hx, hb, hr, hml, hown, hts, hX, hbl, hlocks, hgv⟩ := id C0
  have h := va_sld (A := lA s) (ls := ls) (rest := st.map (am_cv al)) (pc := pc) S.1 S.2.1 hX hbl (Nat.not_le.mpr hbl) hS hin (S.2.2.2.2.2.2.2.2.1 _ _ hat) (kk p l e s m below meth c H locs ls D dA ad al C0 S hb2 hW hS hl)
  rw [← hb2] at h
  rw [← hb2]
  exact h
theorem gl_slen {b N kc ks nc pc q : Nat} {xs : Nat → Int32} {L : List (Option Value)} {st : List Value} {I : am_I} {J : am_J} {Q : am_Q} {E : Nat → am_I} {v : Int32} (hat : am_at ML_law pc = some (.arraylength, 1)) (hq : pc + 1 = q) (hv : Int32.ofNat N = v) (kk : GL b N xs kc ks q L (.int v :: st) nc I J Q E) : GL b N xs kc ks pc L (.ref 2000 :: st) nc I J Q E := by
  subst hq; subst hv
  intro p l e s m below meth c H locs ls D dA ad al C0 S hb2 hW hS hl
  obtain ⟨hx, hb, hr, hml, hown, hts, hX, hbl, hlocks, hgv⟩ := id C0
  have h := va_slen (A := lA s) (ls := ls) (rest := st.map (am_cv al)) (pc := pc) S.1 S.2.1 hX hbl (Nat.not_le.mpr hbl) hS (S.2.2.2.2.2.2.2.2.1 _ _ hat) (kk p l e s m below meth c H locs ls D dA ad al C0 S hb2 hW hS hl)
  rw [← hb2] at h
  rw [← hb2]
  exact h
theorem gl_ret1 {b N kc ks nc pc q : Nat} {xs : Nat → Int32} {L : List (Option Value)} {st : List Value} {I : am_I} {J : am_J} {Q : am_Q} {E : Nat → am_I} (hat : am_at ML_law pc = some (.ireturn, 1)) (hk : kc ≤ 600000) (hs : ks ≤ 7302250) : GL b N xs kc ks pc L ([.int 1]) nc I J Q E := by
  intro p l e s m below meth c H locs ls D dA ad al C0 S hb2 hW hS hl
  obtain ⟨hx, hb, hr, hml, hown, hts, hX, hbl, hlocks, hgv⟩ := id C0
  refine va_forget (fun q hq => hS.2.2 q hq) ?_
  refine W.widen hk hs ?_
  exact lw_ret hx hb hr hlocks (S.2.2.2.2.2.2.2.2.1 _ _ hat)
