theorem gd_iconst {y : am_MD} {o : am_O} {kc ks n pc q : Nat} {L : List (Option Value)} {st : List Value} {I : am_I} {J : am_J} {Q : am_Q} {k : Int} {v : Int32} (hat : am_at y pc = some (.iconst k, 1)) (hq : pc + 1 = q) (hv : Int32.ofInt k = v) (kk : Gd y o kc ks n q L (.int v :: st) I J Q) : Gd y o kc ks n pc L st I J Q := by
  subst hq
  intro p l e s m args below meth c H locs ls D dA ad al al0 n0 A S hkap hal hP hD hS hl
  exact lv_iconst S.1 S.2.1 (S.2.2.2.2.2.2.2.2.1 _ _ hat) hv (kk p l e s m args below meth c H locs ls D dA ad al al0 n0 A S hkap hal hP hD hS hl)
theorem gd_bipush {y : am_MD} {o : am_O} {kc ks n pc q : Nat} {L : List (Option Value)} {st : List Value} {I : am_I} {J : am_J} {Q : am_Q} {k : Int} {v : Int32} (hat : am_at y pc = some (.bipush k, 2)) (hq : pc + 2 = q) (hv : (Int8.ofInt k).toInt32 = v) (kk : Gd y o kc ks n q L (.int v :: st) I J Q) : Gd y o kc ks n pc L st I J Q := by
  subst hq
  intro p l e s m args below meth c H locs ls D dA ad al al0 n0 A S hkap hal hP hD hS hl
  exact lv_bipush S.1 S.2.1 (S.2.2.2.2.2.2.2.2.1 _ _ hat) hv (kk p l e s m args below meth c H locs ls D dA ad al al0 n0 A S hkap hal hP hD hS hl)
theorem gd_sipush {y : am_MD} {o : am_O} {kc ks n pc q : Nat} {L : List (Option Value)} {st : List Value} {I : am_I} {J : am_J} {Q : am_Q} {k : Int} {v : Int32} (hat : am_at y pc = some (.sipush k, 3)) (hq : pc + 3 = q) (hv : (Int16.ofInt k).toInt32 = v) (kk : Gd y o kc ks n q L (.int v :: st) I J Q) : Gd y o kc ks n pc L st I J Q := by
  subst hq
  intro p l e s m args below meth c H locs ls D dA ad al al0 n0 A S hkap hal hP hD hS hl
  exact lv_sipush S.1 S.2.1 (S.2.2.2.2.2.2.2.2.1 _ _ hat) hv (kk p l e s m args below meth c H locs ls D dA ad al al0 n0 A S hkap hal hP hD hS hl)
theorem gd_lconst {y : am_MD} {o : am_O} {kc ks n pc q : Nat} {L : List (Option Value)} {st : List Value} {I : am_I} {J : am_J} {Q : am_Q} {k : Fin 2} {v : Int64} (hat : am_at y pc = some (.lconst k, 1)) (hq : pc + 1 = q) (hv : Int64.ofNat (k : Nat) = v) (kk : Gd y o kc ks n q L (.long v :: st) I J Q) : Gd y o kc ks n pc L st I J Q := by
  subst hq
  intro p l e s m args below meth c H locs ls D dA ad al al0 n0 A S hkap hal hP hD hS hl
  exact lv_lconst S.1 S.2.1 (S.2.2.2.2.2.2.2.2.1 _ _ hat) hv (kk p l e s m args below meth c H locs ls D dA ad al al0 n0 A S hkap hal hP hD hS hl)
theorem gd_null {y : am_MD} {o : am_O} {kc ks n pc q : Nat} {L : List (Option Value)} {st : List Value} {I : am_I} {J : am_J} {Q : am_Q}  (hat : am_at y pc = some (.aconst_null, 1)) (hq : pc + 1 = q) (kk : Gd y o kc ks n q L (.null :: st) I J Q) : Gd y o kc ks n pc L st I J Q := by
  subst hq
  intro p l e s m args below meth c H locs ls D dA ad al al0 n0 A S hkap hal hP hD hS hl
  exact lv_null S.1 S.2.1 (S.2.2.2.2.2.2.2.2.1 _ _ hat) (kk p l e s m args below meth c H locs ls D dA ad al al0 n0 A S hkap hal hP hD hS hl)
theorem gd_iload_n {y : am_MD} {o : am_O} {kc ks n pc q : Nat} {L : List (Option Value)} {st : List Value} {I : am_I} {J : am_J} {Q : am_Q} {k : Fin 4} {x : Int32} (hat : am_at y pc = some (.iload_n k, 1)) (hq : pc + 1 = q) (hL : L[(k : Nat)]? = some (some (.int x))) (kk : Gd y o kc ks n q L (.int x :: st) I J Q) : Gd y o kc ks n pc L st I J Q := by
  subst hq
  intro p l e s m args below meth c H locs ls D dA ad al al0 n0 A S hkap hal hP hD hS hl
  exact lv_iload_n S.1 S.2.1 (S.2.2.2.2.2.2.2.2.1 _ _ hat) rfl (hl.get hL) (kk p l e s m args below meth c H locs ls D dA ad al al0 n0 A S hkap hal hP hD hS hl)
theorem gd_iload {y : am_MD} {o : am_O} {kc ks n pc q : Nat} {L : List (Option Value)} {st : List Value} {I : am_I} {J : am_J} {Q : am_Q} {i : Nat} {x : Int32} (hat : am_at y pc = some (.iload i, 2)) (hq : pc + 2 = q) (hL : L[i]? = some (some (.int x))) (kk : Gd y o kc ks n q L (.int x :: st) I J Q) : Gd y o kc ks n pc L st I J Q := by
  subst hq
  intro p l e s m args below meth c H locs ls D dA ad al al0 n0 A S hkap hal hP hD hS hl
  exact lv_iload S.1 S.2.1 (S.2.2.2.2.2.2.2.2.1 _ _ hat) (hl.get hL) (kk p l e s m args below meth c H locs ls D dA ad al al0 n0 A S hkap hal hP hD hS hl)
theorem gd_lload_n {y : am_MD} {o : am_O} {kc ks n pc q : Nat} {L : List (Option Value)} {st : List Value} {I : am_I} {J : am_J} {Q : am_Q} {k : Fin 4} {x : Int64} (hat : am_at y pc = some (.lload_n k, 1)) (hq : pc + 1 = q) (hL : L[(k : Nat)]? = some (some (.long x))) (kk : Gd y o kc ks n q L (.long x :: st) I J Q) : Gd y o kc ks n pc L st I J Q := by
  subst hq
  intro p l e s m args below meth c H locs ls D dA ad al al0 n0 A S hkap hal hP hD hS hl
  exact lv_lload_n S.1 S.2.1 (S.2.2.2.2.2.2.2.2.1 _ _ hat) rfl (hl.get hL) (kk p l e s m args below meth c H locs ls D dA ad al al0 n0 A S hkap hal hP hD hS hl)
theorem gd_lload {y : am_MD} {o : am_O} {kc ks n pc q : Nat} {L : List (Option Value)} {st : List Value} {I : am_I} {J : am_J} {Q : am_Q} {i : Nat} {x : Int64} (hat : am_at y pc = some (.lload i, 2)) (hq : pc + 2 = q) (hL : L[i]? = some (some (.long x))) (kk : Gd y o kc ks n q L (.long x :: st) I J Q) : Gd y o kc ks n pc L st I J Q := by
  subst hq
  intro p l e s m args below meth c H locs ls D dA ad al al0 n0 A S hkap hal hP hD hS hl
  exact lv_lload S.1 S.2.1 (S.2.2.2.2.2.2.2.2.1 _ _ hat) (hl.get hL) (kk p l e s m args below meth c H locs ls D dA ad al al0 n0 A S hkap hal hP hD hS hl)
theorem gd_aload_n {y : am_MD} {o : am_O} {kc ks n pc q : Nat} {L : List (Option Value)} {st : List Value} {I : am_I} {J : am_J} {Q : am_Q} {k : Fin 4} {x : Nat} (hat : am_at y pc = some (.aload_n k, 1)) (hq : pc + 1 = q) (hL : L[(k : Nat)]? = some (some (.ref x))) (kk : Gd y o kc ks n q L (.ref x :: st) I J Q) : Gd y o kc ks n pc L st I J Q := by
  subst hq
  intro p l e s m args below meth c H locs ls D dA ad al al0 n0 A S hkap hal hP hD hS hl
  exact lv_aload_n S.1 S.2.1 (S.2.2.2.2.2.2.2.2.1 _ _ hat) rfl (hl.get hL) (kk p l e s m args below meth c H locs ls D dA ad al al0 n0 A S hkap hal hP hD hS hl)
theorem gd_aload {y : am_MD} {o : am_O} {kc ks n pc q : Nat} {L : List (Option Value)} {st : List Value} {I : am_I} {J : am_J} {Q : am_Q} {i : Nat} {x : Nat} (hat : am_at y pc = some (.aload i, 2)) (hq : pc + 2 = q) (hL : L[i]? = some (some (.ref x))) (kk : Gd y o kc ks n q L (.ref x :: st) I J Q) : Gd y o kc ks n pc L st I J Q := by
  subst hq
  intro p l e s m args below meth c H locs ls D dA ad al al0 n0 A S hkap hal hP hD hS hl
  exact lv_aload S.1 S.2.1 (S.2.2.2.2.2.2.2.2.1 _ _ hat) (hl.get hL) (kk p l e s m args below meth c H locs ls D dA ad al al0 n0 A S hkap hal hP hD hS hl)
theorem gd_aload_nN {y : am_MD} {o : am_O} {kc ks n pc q : Nat} {L : List (Option Value)} {st : List Value} {I : am_I} {J : am_J} {Q : am_Q} {k : Fin 4} (hat : am_at y pc = some (.aload_n k, 1)) (hq : pc + 1 = q) (hL : L[(k : Nat)]? = some (some .null)) (kk : Gd y o kc ks n q L (.null :: st) I J Q) : Gd y o kc ks n pc L st I J Q := by
  subst hq
  intro p l e s m args below meth c H locs ls D dA ad al al0 n0 A S hkap hal hP hD hS hl
  exact lv_aload_nN S.1 S.2.1 (S.2.2.2.2.2.2.2.2.1 _ _ hat) rfl (hl.get hL) (kk p l e s m args below meth c H locs ls D dA ad al al0 n0 A S hkap hal hP hD hS hl)
theorem gd_aloadN {y : am_MD} {o : am_O} {kc ks n pc q : Nat} {L : List (Option Value)} {st : List Value} {I : am_I} {J : am_J} {Q : am_Q} {i : Nat} (hat : am_at y pc = some (.aload i, 2)) (hq : pc + 2 = q) (hL : L[i]? = some (some .null)) (kk : Gd y o kc ks n q L (.null :: st) I J Q) : Gd y o kc ks n pc L st I J Q := by
  subst hq
  intro p l e s m args below meth c H locs ls D dA ad al al0 n0 A S hkap hal hP hD hS hl
  exact lv_aloadN S.1 S.2.1 (S.2.2.2.2.2.2.2.2.1 _ _ hat) (hl.get hL) (kk p l e s m args below meth c H locs ls D dA ad al al0 n0 A S hkap hal hP hD hS hl)
theorem gd_istore_n {y : am_MD} {o : am_O} {kc ks n pc q : Nat} {L : List (Option Value)} {st : List Value} {I : am_I} {J : am_J} {Q : am_Q} {k : Fin 4} {x : Int32} (hat : am_at y pc = some (.istore_n k, 1)) (hq : pc + 1 = q) (hn : (k : Nat) < y.2.2.2.1) (hnl : am_nl L k = true) (kk : Gd y o kc ks n q (L.set (k : Nat) (some (.int x))) st I J Q) : Gd y o kc ks n pc L (.int x :: st) I J Q := by
  subst hq
  intro p l e s m args below meth c H locs ls D dA ad al al0 n0 A S hkap hal hP hD hS hl
  exact lv_istore_n S.1 S.2.1 (S.2.2.2.2.2.2.2.2.1 _ _ hat) rfl hl hn rfl (fun ls2 hl2 => kk p l e s m args below meth c H locs ls2 D dA ad al al0 n0 A S hkap hal hP hD hS (am_H.st1 (ls := ls) hnl hl2))
theorem gd_istore {y : am_MD} {o : am_O} {kc ks n pc q : Nat} {L : List (Option Value)} {st : List Value} {I : am_I} {J : am_J} {Q : am_Q} {i : Nat} {x : Int32} (hat : am_at y pc = some (.istore i, 2)) (hq : pc + 2 = q) (hn : i < y.2.2.2.1) (hnl : am_nl L i = true) (kk : Gd y o kc ks n q (L.set i (some (.int x))) st I J Q) : Gd y o kc ks n pc L (.int x :: st) I J Q := by
  subst hq
  intro p l e s m args below meth c H locs ls D dA ad al al0 n0 A S hkap hal hP hD hS hl
  exact lv_istore S.1 S.2.1 (S.2.2.2.2.2.2.2.2.1 _ _ hat) hl hn rfl (fun ls2 hl2 => kk p l e s m args below meth c H locs ls2 D dA ad al al0 n0 A S hkap hal hP hD hS (am_H.st1 (ls := ls) hnl hl2))
theorem gd_lstore_n {y : am_MD} {o : am_O} {kc ks n pc q : Nat} {L : List (Option Value)} {st : List Value} {I : am_I} {J : am_J} {Q : am_Q} {k : Fin 4} {x : Int64} (hat : am_at y pc = some (.lstore_n k, 1)) (hq : pc + 1 = q) (hn : (k : Nat) + 1 < y.2.2.2.1) (hnl : am_nl L k = true) (kk : Gd y o kc ks n q ((L.set (k : Nat) (some (.long x))).set ((k : Nat) + 1) none) st I J Q) : Gd y o kc ks n pc L (.long x :: st) I J Q := by
  subst hq
  intro p l e s m args below meth c H locs ls D dA ad al al0 n0 A S hkap hal hP hD hS hl
  exact lv_lstore_n S.1 S.2.1 (S.2.2.2.2.2.2.2.2.1 _ _ hat) rfl hl hn rfl (fun ls2 hl2 => kk p l e s m args below meth c H locs ls2 D dA ad al al0 n0 A S hkap hal hP hD hS (am_H.st2 (ls := ls) hnl hl2))
theorem gd_lstore {y : am_MD} {o : am_O} {kc ks n pc q : Nat} {L : List (Option Value)} {st : List Value} {I : am_I} {J : am_J} {Q : am_Q} {i : Nat} {x : Int64} (hat : am_at y pc = some (.lstore i, 2)) (hq : pc + 2 = q) (hn : i + 1 < y.2.2.2.1) (hnl : am_nl L i = true) (kk : Gd y o kc ks n q ((L.set i (some (.long x))).set (i + 1) none) st I J Q) : Gd y o kc ks n pc L (.long x :: st) I J Q := by
  subst hq
  intro p l e s m args below meth c H locs ls D dA ad al al0 n0 A S hkap hal hP hD hS hl
  exact lv_lstore S.1 S.2.1 (S.2.2.2.2.2.2.2.2.1 _ _ hat) hl hn rfl (fun ls2 hl2 => kk p l e s m args below meth c H locs ls2 D dA ad al al0 n0 A S hkap hal hP hD hS (am_H.st2 (ls := ls) hnl hl2))
theorem gd_astore_n {y : am_MD} {o : am_O} {kc ks n pc q : Nat} {L : List (Option Value)} {st : List Value} {I : am_I} {J : am_J} {Q : am_Q} {k : Fin 4} {x : Nat} (hat : am_at y pc = some (.astore_n k, 1)) (hq : pc + 1 = q) (hn : (k : Nat) < y.2.2.2.1) (hnl : am_nl L k = true) (kk : Gd y o kc ks n q (L.set (k : Nat) (some (.ref x))) st I J Q) : Gd y o kc ks n pc L (.ref x :: st) I J Q := by
  subst hq
  intro p l e s m args below meth c H locs ls D dA ad al al0 n0 A S hkap hal hP hD hS hl
  exact lv_astore_n S.1 S.2.1 (S.2.2.2.2.2.2.2.2.1 _ _ hat) rfl hl hn rfl (fun ls2 hl2 => kk p l e s m args below meth c H locs ls2 D dA ad al al0 n0 A S hkap hal hP hD hS (am_H.st1 (ls := ls) hnl hl2))
theorem gd_astore {y : am_MD} {o : am_O} {kc ks n pc q : Nat} {L : List (Option Value)} {st : List Value} {I : am_I} {J : am_J} {Q : am_Q} {i : Nat} {x : Nat} (hat : am_at y pc = some (.astore i, 2)) (hq : pc + 2 = q) (hn : i < y.2.2.2.1) (hnl : am_nl L i = true) (kk : Gd y o kc ks n q (L.set i (some (.ref x))) st I J Q) : Gd y o kc ks n pc L (.ref x :: st) I J Q := by
  subst hq
  intro p l e s m args below meth c H locs ls D dA ad al al0 n0 A S hkap hal hP hD hS hl
  exact lv_astore S.1 S.2.1 (S.2.2.2.2.2.2.2.2.1 _ _ hat) hl hn rfl (fun ls2 hl2 => kk p l e s m args below meth c H locs ls2 D dA ad al al0 n0 A S hkap hal hP hD hS (am_H.st1 (ls := ls) hnl hl2))
theorem gd_astore_nN {y : am_MD} {o : am_O} {kc ks n pc q : Nat} {L : List (Option Value)} {st : List Value} {I : am_I} {J : am_J} {Q : am_Q} {k : Fin 4} (hat : am_at y pc = some (.astore_n k, 1)) (hq : pc + 1 = q) (hn : (k : Nat) < y.2.2.2.1) (hnl : am_nl L k = true) (kk : Gd y o kc ks n q (L.set (k : Nat) (some .null)) st I J Q) : Gd y o kc ks n pc L (.null :: st) I J Q := by
  subst hq
  intro p l e s m args below meth c H locs ls D dA ad al al0 n0 A S hkap hal hP hD hS hl
  exact lv_astore_nN S.1 S.2.1 (S.2.2.2.2.2.2.2.2.1 _ _ hat) rfl hl hn rfl (fun ls2 hl2 => kk p l e s m args below meth c H locs ls2 D dA ad al al0 n0 A S hkap hal hP hD hS (am_H.st1 (ls := ls) (v := .null) hnl hl2))
theorem gd_astoreN {y : am_MD} {o : am_O} {kc ks n pc q : Nat} {L : List (Option Value)} {st : List Value} {I : am_I} {J : am_J} {Q : am_Q} {i : Nat} (hat : am_at y pc = some (.astore i, 2)) (hq : pc + 2 = q) (hn : i < y.2.2.2.1) (hnl : am_nl L i = true) (kk : Gd y o kc ks n q (L.set i (some .null)) st I J Q) : Gd y o kc ks n pc L (.null :: st) I J Q := by
  subst hq
  intro p l e s m args below meth c H locs ls D dA ad al al0 n0 A S hkap hal hP hD hS hl
  exact lv_astoreN S.1 S.2.1 (S.2.2.2.2.2.2.2.2.1 _ _ hat) hl hn rfl (fun ls2 hl2 => kk p l e s m args below meth c H locs ls2 D dA ad al al0 n0 A S hkap hal hP hD hS (am_H.st1 (ls := ls) (v := .null) hnl hl2))
theorem gd_iinc {y : am_MD} {o : am_O} {kc ks n pc q : Nat} {L : List (Option Value)} {st : List Value} {I : am_I} {J : am_J} {Q : am_Q} {i : Nat} {k : Int} {x v : Int32} (hat : am_at y pc = some (.iinc i k, 3)) (hq : pc + 3 = q) (hL : L[i]? = some (some (.int x))) (hv : x + Int32.ofInt k = v) (hn : i < y.2.2.2.1) (hnl : am_nl L i = true) (kk : Gd y o kc ks n q (L.set i (some (.int v))) st I J Q) : Gd y o kc ks n pc L st I J Q := by
  subst hq
  intro p l e s m args below meth c H locs ls D dA ad al al0 n0 A S hkap hal hP hD hS hl
  obtain ⟨j, hj⟩ := List.getElem?_of_mem (am_ll_in (al := al) hL)
  exact lv_iinc (k := j) (v := v) S.1 S.2.1 (S.2.2.2.2.2.2.2.2.1 _ _ hat) hl hj hv hn rfl (fun ls2 hl2 => kk p l e s m args below meth c H locs ls2 D dA ad al al0 n0 A S hkap hal hP hD hS (am_H.st1 (ls := ls) (v := .int v) hnl hl2))
theorem gd_iadd {y : am_MD} {o : am_O} {kc ks n pc q : Nat} {L : List (Option Value)} {st : List Value} {I : am_I} {J : am_J} {Q : am_Q} {x z : Int32} (hat : am_at y pc = some (.iadd, 1)) (hq : pc + 1 = q) (kk : Gd y o kc ks n q L (.int (x + z) :: st) I J Q) : Gd y o kc ks n pc L (.int z :: .int x :: st) I J Q := by
  subst hq
  intro p l e s m args below meth c H locs ls D dA ad al al0 n0 A S hkap hal hP hD hS hl
  exact lv_iadd S.1 S.2.1 (S.2.2.2.2.2.2.2.2.1 _ _ hat) (kk p l e s m args below meth c H locs ls D dA ad al al0 n0 A S hkap hal hP hD hS hl)
theorem gd_isub {y : am_MD} {o : am_O} {kc ks n pc q : Nat} {L : List (Option Value)} {st : List Value} {I : am_I} {J : am_J} {Q : am_Q} {x z : Int32} (hat : am_at y pc = some (.isub, 1)) (hq : pc + 1 = q) (kk : Gd y o kc ks n q L (.int (x - z) :: st) I J Q) : Gd y o kc ks n pc L (.int z :: .int x :: st) I J Q := by
  subst hq
  intro p l e s m args below meth c H locs ls D dA ad al al0 n0 A S hkap hal hP hD hS hl
  exact lv_isub S.1 S.2.1 (S.2.2.2.2.2.2.2.2.1 _ _ hat) (kk p l e s m args below meth c H locs ls D dA ad al al0 n0 A S hkap hal hP hD hS hl)
theorem gd_imul {y : am_MD} {o : am_O} {kc ks n pc q : Nat} {L : List (Option Value)} {st : List Value} {I : am_I} {J : am_J} {Q : am_Q} {x z : Int32} (hat : am_at y pc = some (.imul, 1)) (hq : pc + 1 = q) (kk : Gd y o kc ks n q L (.int (x * z) :: st) I J Q) : Gd y o kc ks n pc L (.int z :: .int x :: st) I J Q := by
  subst hq
  intro p l e s m args below meth c H locs ls D dA ad al al0 n0 A S hkap hal hP hD hS hl
  exact lv_imul S.1 S.2.1 (S.2.2.2.2.2.2.2.2.1 _ _ hat) (kk p l e s m args below meth c H locs ls D dA ad al al0 n0 A S hkap hal hP hD hS hl)
theorem gd_iand {y : am_MD} {o : am_O} {kc ks n pc q : Nat} {L : List (Option Value)} {st : List Value} {I : am_I} {J : am_J} {Q : am_Q} {x z : Int32} (hat : am_at y pc = some (.iand, 1)) (hq : pc + 1 = q) (kk : Gd y o kc ks n q L (.int (x &&& z) :: st) I J Q) : Gd y o kc ks n pc L (.int z :: .int x :: st) I J Q := by
  subst hq
  intro p l e s m args below meth c H locs ls D dA ad al al0 n0 A S hkap hal hP hD hS hl
  exact lv_iand S.1 S.2.1 (S.2.2.2.2.2.2.2.2.1 _ _ hat) (kk p l e s m args below meth c H locs ls D dA ad al al0 n0 A S hkap hal hP hD hS hl)
theorem gd_ior {y : am_MD} {o : am_O} {kc ks n pc q : Nat} {L : List (Option Value)} {st : List Value} {I : am_I} {J : am_J} {Q : am_Q} {x z : Int32} (hat : am_at y pc = some (.ior, 1)) (hq : pc + 1 = q) (kk : Gd y o kc ks n q L (.int (x ||| z) :: st) I J Q) : Gd y o kc ks n pc L (.int z :: .int x :: st) I J Q := by
  subst hq
  intro p l e s m args below meth c H locs ls D dA ad al al0 n0 A S hkap hal hP hD hS hl
  exact lv_ior S.1 S.2.1 (S.2.2.2.2.2.2.2.2.1 _ _ hat) (kk p l e s m args below meth c H locs ls D dA ad al al0 n0 A S hkap hal hP hD hS hl)
theorem gd_ladd {y : am_MD} {o : am_O} {kc ks n pc q : Nat} {L : List (Option Value)} {st : List Value} {I : am_I} {J : am_J} {Q : am_Q} {x z : Int64} (hat : am_at y pc = some (.ladd, 1)) (hq : pc + 1 = q) (kk : Gd y o kc ks n q L (.long (x + z) :: st) I J Q) : Gd y o kc ks n pc L (.long z :: .long x :: st) I J Q := by
  subst hq
  intro p l e s m args below meth c H locs ls D dA ad al al0 n0 A S hkap hal hP hD hS hl
  exact lv_ladd S.1 S.2.1 (S.2.2.2.2.2.2.2.2.1 _ _ hat) (kk p l e s m args below meth c H locs ls D dA ad al al0 n0 A S hkap hal hP hD hS hl)
theorem gd_lmul {y : am_MD} {o : am_O} {kc ks n pc q : Nat} {L : List (Option Value)} {st : List Value} {I : am_I} {J : am_J} {Q : am_Q} {x z : Int64} (hat : am_at y pc = some (.lmul, 1)) (hq : pc + 1 = q) (kk : Gd y o kc ks n q L (.long (x * z) :: st) I J Q) : Gd y o kc ks n pc L (.long z :: .long x :: st) I J Q := by
  subst hq
  intro p l e s m args below meth c H locs ls D dA ad al al0 n0 A S hkap hal hP hD hS hl
  exact lv_lmul S.1 S.2.1 (S.2.2.2.2.2.2.2.2.1 _ _ hat) (kk p l e s m args below meth c H locs ls D dA ad al al0 n0 A S hkap hal hP hD hS hl)
theorem gd_i2b {y : am_MD} {o : am_O} {kc ks n pc q : Nat} {L : List (Option Value)} {st : List Value} {I : am_I} {J : am_J} {Q : am_Q} {x : Int32} (hat : am_at y pc = some (.i2b, 1)) (hq : pc + 1 = q) (kk : Gd y o kc ks n q L (.int (x.toInt8.toInt32) :: st) I J Q) : Gd y o kc ks n pc L (.int x :: st) I J Q := by
  subst hq
  intro p l e s m args below meth c H locs ls D dA ad al al0 n0 A S hkap hal hP hD hS hl
  exact lv_i2b S.1 S.2.1 (S.2.2.2.2.2.2.2.2.1 _ _ hat) rfl (kk p l e s m args below meth c H locs ls D dA ad al al0 n0 A S hkap hal hP hD hS hl)
theorem gd_i2s {y : am_MD} {o : am_O} {kc ks n pc q : Nat} {L : List (Option Value)} {st : List Value} {I : am_I} {J : am_J} {Q : am_Q} {x : Int32} (hat : am_at y pc = some (.i2s, 1)) (hq : pc + 1 = q) (kk : Gd y o kc ks n q L (.int (x.toInt16.toInt32) :: st) I J Q) : Gd y o kc ks n pc L (.int x :: st) I J Q := by
  subst hq
  intro p l e s m args below meth c H locs ls D dA ad al al0 n0 A S hkap hal hP hD hS hl
  exact lv_i2s S.1 S.2.1 (S.2.2.2.2.2.2.2.2.1 _ _ hat) rfl (kk p l e s m args below meth c H locs ls D dA ad al al0 n0 A S hkap hal hP hD hS hl)
theorem gd_i2l {y : am_MD} {o : am_O} {kc ks n pc q : Nat} {L : List (Option Value)} {st : List Value} {I : am_I} {J : am_J} {Q : am_Q} {x : Int32} (hat : am_at y pc = some (.i2l, 1)) (hq : pc + 1 = q) (kk : Gd y o kc ks n q L (.long (x.toInt64) :: st) I J Q) : Gd y o kc ks n pc L (.int x :: st) I J Q := by
  subst hq
  intro p l e s m args below meth c H locs ls D dA ad al al0 n0 A S hkap hal hP hD hS hl
  exact lv_i2l S.1 S.2.1 (S.2.2.2.2.2.2.2.2.1 _ _ hat) rfl (kk p l e s m args below meth c H locs ls D dA ad al al0 n0 A S hkap hal hP hD hS hl)
theorem gd_i2c {y : am_MD} {o : am_O} {kc ks n pc q : Nat} {L : List (Option Value)} {st : List Value} {I : am_I} {J : am_J} {Q : am_Q} {x : Int32} (hat : am_at y pc = some (.i2c, 1)) (hq : pc + 1 = q) (kk : Gd y o kc ks n q L (.int ((x.toUInt32 % 65536).toInt32) :: st) I J Q) : Gd y o kc ks n pc L (.int x :: st) I J Q := by
  subst hq
  intro p l e s m args below meth c H locs ls D dA ad al al0 n0 A S hkap hal hP hD hS hl
  exact lv_i2c S.1 S.2.1 (S.2.2.2.2.2.2.2.2.1 _ _ hat) rfl (kk p l e s m args below meth c H locs ls D dA ad al al0 n0 A S hkap hal hP hD hS hl)
theorem gd_iushr {y : am_MD} {o : am_O} {kc ks n pc q : Nat} {L : List (Option Value)} {st : List Value} {I : am_I} {J : am_J} {Q : am_Q} {x z : Int32} (hat : am_at y pc = some (.iushr, 1)) (hq : pc + 1 = q) (kk : Gd y o kc ks n q L (.int (x.toUInt32 >>> (z.toUInt32 &&& Int32.toUInt32 31)).toInt32 :: st) I J Q) : Gd y o kc ks n pc L (.int z :: .int x :: st) I J Q := by
  subst hq
  intro p l e s m args below meth c H locs ls D dA ad al al0 n0 A S hkap hal hP hD hS hl
  exact lv_iushr S.1 S.2.1 (S.2.2.2.2.2.2.2.2.1 _ _ hat) rfl (kk p l e s m args below meth c H locs ls D dA ad al al0 n0 A S hkap hal hP hD hS hl)
theorem gd_dup {y : am_MD} {o : am_O} {kc ks n pc q : Nat} {L : List (Option Value)} {st : List Value} {I : am_I} {J : am_J} {Q : am_Q} {v : Value} (hat : am_at y pc = some (.dup, 1)) (hq : pc + 1 = q) (hv : v.category = 1) (kk : Gd y o kc ks n q L (v :: v :: st) I J Q) : Gd y o kc ks n pc L (v :: st) I J Q := by
  subst hq
  intro p l e s m args below meth c H locs ls D dA ad al al0 n0 A S hkap hal hP hD hS hl
  exact lv_dup S.1 S.2.1 (S.2.2.2.2.2.2.2.2.1 _ _ hat) ((am_cv_cat al v).trans hv) (kk p l e s m args below meth c H locs ls D dA ad al al0 n0 A S hkap hal hP hD hS hl)
theorem gd_pop {y : am_MD} {o : am_O} {kc ks n pc q : Nat} {L : List (Option Value)} {st : List Value} {I : am_I} {J : am_J} {Q : am_Q} {v : Value} (hat : am_at y pc = some (.pop, 1)) (hq : pc + 1 = q) (hv : v.category = 1) (kk : Gd y o kc ks n q L st I J Q) : Gd y o kc ks n pc L (v :: st) I J Q := by
  subst hq
  intro p l e s m args below meth c H locs ls D dA ad al al0 n0 A S hkap hal hP hD hS hl
  exact lv_pop S.1 S.2.1 (S.2.2.2.2.2.2.2.2.1 _ _ hat) ((am_cv_cat al v).trans hv) (kk p l e s m args below meth c H locs ls D dA ad al al0 n0 A S hkap hal hP hD hS hl)
theorem gd_dup2 {y : am_MD} {o : am_O} {kc ks n pc q : Nat} {L : List (Option Value)} {st : List Value} {I : am_I} {J : am_J} {Q : am_Q} {v w : Value} (hat : am_at y pc = some (.dup2, 1)) (hq : pc + 1 = q) (hv : v.category = 1) (hw : w.category = 1) (kk : Gd y o kc ks n q L (v :: w :: v :: w :: st) I J Q) : Gd y o kc ks n pc L (v :: w :: st) I J Q := by
  subst hq
  intro p l e s m args below meth c H locs ls D dA ad al al0 n0 A S hkap hal hP hD hS hl
  exact lv_dup2_11 S.1 S.2.1 (S.2.2.2.2.2.2.2.2.1 _ _ hat) ((am_cv_cat al v).trans hv) ((am_cv_cat al w).trans hw) (kk p l e s m args below meth c H locs ls D dA ad al al0 n0 A S hkap hal hP hD hS hl)
theorem gd_if_eq {y : am_MD} {o : am_O} {kc ks n pc q : Nat} {L : List (Option Value)} {st : List Value} {I : am_I} {J : am_J} {Q : am_Q} {r : Nat} {x : Int32} {off : Int} (hat : am_at y pc = some (.ifCond .eq off, 3)) (hq : pc + 3 = q) (hr : (pc : Int) + off = (r : Int)) (kt : x = 0 → Gd y o kc ks n r L st I J Q) (kf : ¬ x = 0 → Gd y o kc ks n q L st I J Q) : Gd y o kc ks n pc L (.int x :: st) I J Q := by
  subst hq
  intro p l e s m args below meth c H locs ls D dA ad al al0 n0 A S hkap hal hP hD hS hl
  exact lv_if_eq S.1 S.2.1 (S.2.2.2.2.2.2.2.2.1 _ _ hat) hr (fun hc => kt hc p l e s m args below meth c H locs ls D dA ad al al0 n0 A S hkap hal hP hD hS hl) (fun hc => kf hc p l e s m args below meth c H locs ls D dA ad al al0 n0 A S hkap hal hP hD hS hl)
theorem gd_icmp_eq {y : am_MD} {o : am_O} {kc ks n pc q : Nat} {L : List (Option Value)} {st : List Value} {I : am_I} {J : am_J} {Q : am_Q} {r : Nat} {x z : Int32} {off : Int} (hat : am_at y pc = some (.if_icmp .eq off, 3)) (hq : pc + 3 = q) (hr : (pc : Int) + off = (r : Int)) (kt : x = z → Gd y o kc ks n r L st I J Q) (kf : ¬ x = z → Gd y o kc ks n q L st I J Q) : Gd y o kc ks n pc L (.int z :: .int x :: st) I J Q := by
  subst hq
  intro p l e s m args below meth c H locs ls D dA ad al al0 n0 A S hkap hal hP hD hS hl
  exact lv_icmp_eq S.1 S.2.1 (S.2.2.2.2.2.2.2.2.1 _ _ hat) hr (fun hc => kt hc p l e s m args below meth c H locs ls D dA ad al al0 n0 A S hkap hal hP hD hS hl) (fun hc => kf hc p l e s m args below meth c H locs ls D dA ad al al0 n0 A S hkap hal hP hD hS hl)
theorem gd_if_ne {y : am_MD} {o : am_O} {kc ks n pc q : Nat} {L : List (Option Value)} {st : List Value} {I : am_I} {J : am_J} {Q : am_Q} {r : Nat} {x : Int32} {off : Int} (hat : am_at y pc = some (.ifCond .ne off, 3)) (hq : pc + 3 = q) (hr : (pc : Int) + off = (r : Int)) (kt : ¬ x = 0 → Gd y o kc ks n r L st I J Q) (kf : x = 0 → Gd y o kc ks n q L st I J Q) : Gd y o kc ks n pc L (.int x :: st) I J Q := by
  subst hq
  intro p l e s m args below meth c H locs ls D dA ad al al0 n0 A S hkap hal hP hD hS hl
  exact lv_if_ne S.1 S.2.1 (S.2.2.2.2.2.2.2.2.1 _ _ hat) hr (fun hc => kt hc p l e s m args below meth c H locs ls D dA ad al al0 n0 A S hkap hal hP hD hS hl) (fun hc => kf hc p l e s m args below meth c H locs ls D dA ad al al0 n0 A S hkap hal hP hD hS hl)
theorem gd_icmp_ne {y : am_MD} {o : am_O} {kc ks n pc q : Nat} {L : List (Option Value)} {st : List Value} {I : am_I} {J : am_J} {Q : am_Q} {r : Nat} {x z : Int32} {off : Int} (hat : am_at y pc = some (.if_icmp .ne off, 3)) (hq : pc + 3 = q) (hr : (pc : Int) + off = (r : Int)) (kt : ¬ x = z → Gd y o kc ks n r L st I J Q) (kf : x = z → Gd y o kc ks n q L st I J Q) : Gd y o kc ks n pc L (.int z :: .int x :: st) I J Q := by
  subst hq
  intro p l e s m args below meth c H locs ls D dA ad al al0 n0 A S hkap hal hP hD hS hl
  exact lv_icmp_ne S.1 S.2.1 (S.2.2.2.2.2.2.2.2.1 _ _ hat) hr (fun hc => kt hc p l e s m args below meth c H locs ls D dA ad al al0 n0 A S hkap hal hP hD hS hl) (fun hc => kf hc p l e s m args below meth c H locs ls D dA ad al al0 n0 A S hkap hal hP hD hS hl)
theorem gd_if_lt {y : am_MD} {o : am_O} {kc ks n pc q : Nat} {L : List (Option Value)} {st : List Value} {I : am_I} {J : am_J} {Q : am_Q} {r : Nat} {x : Int32} {off : Int} (hat : am_at y pc = some (.ifCond .lt off, 3)) (hq : pc + 3 = q) (hr : (pc : Int) + off = (r : Int)) (kt : x < 0 → Gd y o kc ks n r L st I J Q) (kf : ¬ x < 0 → Gd y o kc ks n q L st I J Q) : Gd y o kc ks n pc L (.int x :: st) I J Q := by
  subst hq
  intro p l e s m args below meth c H locs ls D dA ad al al0 n0 A S hkap hal hP hD hS hl
  exact lv_if_lt S.1 S.2.1 (S.2.2.2.2.2.2.2.2.1 _ _ hat) hr (fun hc => kt hc p l e s m args below meth c H locs ls D dA ad al al0 n0 A S hkap hal hP hD hS hl) (fun hc => kf hc p l e s m args below meth c H locs ls D dA ad al al0 n0 A S hkap hal hP hD hS hl)
theorem gd_icmp_lt {y : am_MD} {o : am_O} {kc ks n pc q : Nat} {L : List (Option Value)} {st : List Value} {I : am_I} {J : am_J} {Q : am_Q} {r : Nat} {x z : Int32} {off : Int} (hat : am_at y pc = some (.if_icmp .lt off, 3)) (hq : pc + 3 = q) (hr : (pc : Int) + off = (r : Int)) (kt : x < z → Gd y o kc ks n r L st I J Q) (kf : ¬ x < z → Gd y o kc ks n q L st I J Q) : Gd y o kc ks n pc L (.int z :: .int x :: st) I J Q := by
  subst hq
  intro p l e s m args below meth c H locs ls D dA ad al al0 n0 A S hkap hal hP hD hS hl
  exact lv_icmp_lt S.1 S.2.1 (S.2.2.2.2.2.2.2.2.1 _ _ hat) hr (fun hc => kt hc p l e s m args below meth c H locs ls D dA ad al al0 n0 A S hkap hal hP hD hS hl) (fun hc => kf hc p l e s m args below meth c H locs ls D dA ad al al0 n0 A S hkap hal hP hD hS hl)
theorem gd_if_ge {y : am_MD} {o : am_O} {kc ks n pc q : Nat} {L : List (Option Value)} {st : List Value} {I : am_I} {J : am_J} {Q : am_Q} {r : Nat} {x : Int32} {off : Int} (hat : am_at y pc = some (.ifCond .ge off, 3)) (hq : pc + 3 = q) (hr : (pc : Int) + off = (r : Int)) (kt : 0 ≤ x → Gd y o kc ks n r L st I J Q) (kf : ¬ 0 ≤ x → Gd y o kc ks n q L st I J Q) : Gd y o kc ks n pc L (.int x :: st) I J Q := by
  subst hq
  intro p l e s m args below meth c H locs ls D dA ad al al0 n0 A S hkap hal hP hD hS hl
  exact lv_if_ge S.1 S.2.1 (S.2.2.2.2.2.2.2.2.1 _ _ hat) hr (fun hc => kt hc p l e s m args below meth c H locs ls D dA ad al al0 n0 A S hkap hal hP hD hS hl) (fun hc => kf hc p l e s m args below meth c H locs ls D dA ad al al0 n0 A S hkap hal hP hD hS hl)
theorem gd_icmp_ge {y : am_MD} {o : am_O} {kc ks n pc q : Nat} {L : List (Option Value)} {st : List Value} {I : am_I} {J : am_J} {Q : am_Q} {r : Nat} {x z : Int32} {off : Int} (hat : am_at y pc = some (.if_icmp .ge off, 3)) (hq : pc + 3 = q) (hr : (pc : Int) + off = (r : Int)) (kt : z ≤ x → Gd y o kc ks n r L st I J Q) (kf : ¬ z ≤ x → Gd y o kc ks n q L st I J Q) : Gd y o kc ks n pc L (.int z :: .int x :: st) I J Q := by
  subst hq
  intro p l e s m args below meth c H locs ls D dA ad al al0 n0 A S hkap hal hP hD hS hl
  exact lv_icmp_ge S.1 S.2.1 (S.2.2.2.2.2.2.2.2.1 _ _ hat) hr (fun hc => kt hc p l e s m args below meth c H locs ls D dA ad al al0 n0 A S hkap hal hP hD hS hl) (fun hc => kf hc p l e s m args below meth c H locs ls D dA ad al al0 n0 A S hkap hal hP hD hS hl)
theorem gd_if_gt {y : am_MD} {o : am_O} {kc ks n pc q : Nat} {L : List (Option Value)} {st : List Value} {I : am_I} {J : am_J} {Q : am_Q} {r : Nat} {x : Int32} {off : Int} (hat : am_at y pc = some (.ifCond .gt off, 3)) (hq : pc + 3 = q) (hr : (pc : Int) + off = (r : Int)) (kt : 0 < x → Gd y o kc ks n r L st I J Q) (kf : ¬ 0 < x → Gd y o kc ks n q L st I J Q) : Gd y o kc ks n pc L (.int x :: st) I J Q := by
  subst hq
  intro p l e s m args below meth c H locs ls D dA ad al al0 n0 A S hkap hal hP hD hS hl
  exact lv_if_gt S.1 S.2.1 (S.2.2.2.2.2.2.2.2.1 _ _ hat) hr (fun hc => kt hc p l e s m args below meth c H locs ls D dA ad al al0 n0 A S hkap hal hP hD hS hl) (fun hc => kf hc p l e s m args below meth c H locs ls D dA ad al al0 n0 A S hkap hal hP hD hS hl)
theorem gd_icmp_gt {y : am_MD} {o : am_O} {kc ks n pc q : Nat} {L : List (Option Value)} {st : List Value} {I : am_I} {J : am_J} {Q : am_Q} {r : Nat} {x z : Int32} {off : Int} (hat : am_at y pc = some (.if_icmp .gt off, 3)) (hq : pc + 3 = q) (hr : (pc : Int) + off = (r : Int)) (kt : z < x → Gd y o kc ks n r L st I J Q) (kf : ¬ z < x → Gd y o kc ks n q L st I J Q) : Gd y o kc ks n pc L (.int z :: .int x :: st) I J Q := by
  subst hq
  intro p l e s m args below meth c H locs ls D dA ad al al0 n0 A S hkap hal hP hD hS hl
  exact lv_icmp_gt S.1 S.2.1 (S.2.2.2.2.2.2.2.2.1 _ _ hat) hr (fun hc => kt hc p l e s m args below meth c H locs ls D dA ad al al0 n0 A S hkap hal hP hD hS hl) (fun hc => kf hc p l e s m args below meth c H locs ls D dA ad al al0 n0 A S hkap hal hP hD hS hl)
theorem gd_if_le {y : am_MD} {o : am_O} {kc ks n pc q : Nat} {L : List (Option Value)} {st : List Value} {I : am_I} {J : am_J} {Q : am_Q} {r : Nat} {x : Int32} {off : Int} (hat : am_at y pc = some (.ifCond .le off, 3)) (hq : pc + 3 = q) (hr : (pc : Int) + off = (r : Int)) (kt : x ≤ 0 → Gd y o kc ks n r L st I J Q) (kf : ¬ x ≤ 0 → Gd y o kc ks n q L st I J Q) : Gd y o kc ks n pc L (.int x :: st) I J Q := by
  subst hq
  intro p l e s m args below meth c H locs ls D dA ad al al0 n0 A S hkap hal hP hD hS hl
  exact lv_if_le S.1 S.2.1 (S.2.2.2.2.2.2.2.2.1 _ _ hat) hr (fun hc => kt hc p l e s m args below meth c H locs ls D dA ad al al0 n0 A S hkap hal hP hD hS hl) (fun hc => kf hc p l e s m args below meth c H locs ls D dA ad al al0 n0 A S hkap hal hP hD hS hl)
theorem gd_icmp_le {y : am_MD} {o : am_O} {kc ks n pc q : Nat} {L : List (Option Value)} {st : List Value} {I : am_I} {J : am_J} {Q : am_Q} {r : Nat} {x z : Int32} {off : Int} (hat : am_at y pc = some (.if_icmp .le off, 3)) (hq : pc + 3 = q) (hr : (pc : Int) + off = (r : Int)) (kt : x ≤ z → Gd y o kc ks n r L st I J Q) (kf : ¬ x ≤ z → Gd y o kc ks n q L st I J Q) : Gd y o kc ks n pc L (.int z :: .int x :: st) I J Q := by
  subst hq
  intro p l e s m args below meth c H locs ls D dA ad al al0 n0 A S hkap hal hP hD hS hl
  exact lv_icmp_le S.1 S.2.1 (S.2.2.2.2.2.2.2.2.1 _ _ hat) hr (fun hc => kt hc p l e s m args below meth c H locs ls D dA ad al al0 n0 A S hkap hal hP hD hS hl) (fun hc => kf hc p l e s m args below meth c H locs ls D dA ad al al0 n0 A S hkap hal hP hD hS hl)
theorem gd_ishl {y : am_MD} {o : am_O} {kc ks n pc q : Nat} {L : List (Option Value)} {st : List Value} {I : am_I} {J : am_J} {Q : am_Q} {x z : Int32} (hat : am_at y pc = some (.ishl, 1)) (hq : pc + 1 = q) (kk : Gd y o kc ks n q L (.int (x <<< (z &&& 31)) :: st) I J Q) : Gd y o kc ks n pc L (.int z :: .int x :: st) I J Q := by
  subst hq
  intro p l e s m args below meth c H locs ls D dA ad al al0 n0 A S hkap hal hP hD hS hl
  exact lv_ishl S.1 S.2.1 (S.2.2.2.2.2.2.2.2.1 _ _ hat) (kk p l e s m args below meth c H locs ls D dA ad al al0 n0 A S hkap hal hP hD hS hl)
theorem gd_ishr {y : am_MD} {o : am_O} {kc ks n pc q : Nat} {L : List (Option Value)} {st : List Value} {I : am_I} {J : am_J} {Q : am_Q} {x z : Int32} (hat : am_at y pc = some (.ishr, 1)) (hq : pc + 1 = q) (kk : Gd y o kc ks n q L (.int (x >>> (z &&& 31)) :: st) I J Q) : Gd y o kc ks n pc L (.int z :: .int x :: st) I J Q := by
  subst hq
  intro p l e s m args below meth c H locs ls D dA ad al al0 n0 A S hkap hal hP hD hS hl
  exact lv_ishr S.1 S.2.1 (S.2.2.2.2.2.2.2.2.1 _ _ hat) (kk p l e s m args below meth c H locs ls D dA ad al al0 n0 A S hkap hal hP hD hS hl)
theorem gd_lcmp {y : am_MD} {o : am_O} {kc ks n pc q : Nat} {L : List (Option Value)} {st : List Value} {I : am_I} {J : am_J} {Q : am_Q} {x z : Int64} (hat : am_at y pc = some (.lcmp, 1)) (hq : pc + 1 = q) (kk : Gd y o kc ks n q L (.int (lg_cmp x z) :: st) I J Q) : Gd y o kc ks n pc L (.long z :: .long x :: st) I J Q := by
  subst hq
  intro p l e s m args below meth c H locs ls D dA ad al al0 n0 A S hkap hal hP hD hS hl
  exact W.lcmp S.1 S.2.1 (S.2.2.2.2.2.2.2.2.1 _ _ hat) (kk p l e s m args below meth c H locs ls D dA ad al al0 n0 A S hkap hal hP hD hS hl)
theorem gd_goto {y : am_MD} {o : am_O} {kc ks n pc q : Nat} {L : List (Option Value)} {st : List Value} {I : am_I} {J : am_J} {Q : am_Q} {off : Int} (hat : am_at y pc = some (.goto off, 3)) (hr : (pc : Int) + off = (q : Int)) (kk : Gd y o kc ks n q L st I J Q) : Gd y o kc ks n pc L st I J Q := by
  intro p l e s m args below meth c H locs ls D dA ad al al0 n0 A S hkap hal hP hD hS hl
  exact lv_goto S.1 S.2.1 (S.2.2.2.2.2.2.2.2.1 _ _ hat) hr (kk p l e s m args below meth c H locs ls D dA ad al al0 n0 A S hkap hal hP hD hS hl)
theorem gd_ifnonnull {y : am_MD} {o : am_O} {kc ks n pc q : Nat} {L : List (Option Value)} {st : List Value} {I : am_I} {J : am_J} {Q : am_Q} {x : Nat} {off : Int} (hat : am_at y pc = some (.ifnonnull off, 3)) (hr : (pc : Int) + off = (q : Int)) (kk : Gd y o kc ks n q L st I J Q) : Gd y o kc ks n pc L (.ref x :: st) I J Q := by
  intro p l e s m args below meth c H locs ls D dA ad al al0 n0 A S hkap hal hP hD hS hl
  exact lv_ifnonnull S.1 S.2.1 (S.2.2.2.2.2.2.2.2.1 _ _ hat) hr (kk p l e s m args below meth c H locs ls D dA ad al al0 n0 A S hkap hal hP hD hS hl)
theorem gd_ifnull {y : am_MD} {o : am_O} {kc ks n pc q : Nat} {L : List (Option Value)} {st : List Value} {I : am_I} {J : am_J} {Q : am_Q} {x : Nat} {off : Int} (hat : am_at y pc = some (.ifnull off, 3)) (hq : pc + 3 = q) (kk : Gd y o kc ks n q L st I J Q) : Gd y o kc ks n pc L (.ref x :: st) I J Q := by
  subst hq
  intro p l e s m args below meth c H locs ls D dA ad al al0 n0 A S hkap hal hP hD hS hl
  exact lv_ifnull S.1 S.2.1 (S.2.2.2.2.2.2.2.2.1 _ _ hat) (kk p l e s m args below meth c H locs ls D dA ad al al0 n0 A S hkap hal hP hD hS hl)
theorem gd_ifnullN {y : am_MD} {o : am_O} {kc ks n pc q : Nat} {L : List (Option Value)} {st : List Value} {I : am_I} {J : am_J} {Q : am_Q} {x : Nat} {off : Int} (hat : am_at y pc = some (.ifnull off, 3)) (hr : (pc : Int) + off = (q : Int)) (kk : Gd y o kc ks n q L st I J Q) : Gd y o kc ks n pc L (.null :: st) I J Q := by
  intro p l e s m args below meth c H locs ls D dA ad al al0 n0 A S hkap hal hP hD hS hl
  exact lv_ifnullN S.1 S.2.1 (S.2.2.2.2.2.2.2.2.1 _ _ hat) hr (kk p l e s m args below meth c H locs ls D dA ad al al0 n0 A S hkap hal hP hD hS hl)
theorem gd_ifnonnullN {y : am_MD} {o : am_O} {kc ks n pc q : Nat} {L : List (Option Value)} {st : List Value} {I : am_I} {J : am_J} {Q : am_Q} {x : Nat} {off : Int} (hat : am_at y pc = some (.ifnonnull off, 3)) (hq : pc + 3 = q) (kk : Gd y o kc ks n q L st I J Q) : Gd y o kc ks n pc L (.null :: st) I J Q := by
  subst hq
  intro p l e s m args below meth c H locs ls D dA ad al al0 n0 A S hkap hal hP hD hS hl
  exact lv_ifnonnullN S.1 S.2.1 (S.2.2.2.2.2.2.2.2.1 _ _ hat) (kk p l e s m args below meth c H locs ls D dA ad al al0 n0 A S hkap hal hP hD hS hl)
theorem gd_tsOut {y : am_MD} {o : am_O} {kc ks n pc q : Nat} {L : List (Option Value)} {st : List Value} {I : am_I} {J : am_J} {Q : am_Q} {dflt lo hi : Int} {offs : Array Int} {len : Nat} {x : Int32} (hat : am_at y pc = some (.tableswitch dflt lo hi offs, len)) (h : x.toInt < lo ∨ hi < x.toInt) (hr : (pc : Int) + dflt = (q : Int)) (kk : Gd y o kc ks n q L st I J Q) : Gd y o kc ks n pc L (.int x :: st) I J Q := by
  intro p l e s m args below meth c H locs ls D dA ad al al0 n0 A S hkap hal hP hD hS hl
  exact lv_tableOut S.1 S.2.1 (S.2.2.2.2.2.2.2.2.1 _ _ hat) h hr (kk p l e s m args below meth c H locs ls D dA ad al al0 n0 A S hkap hal hP hD hS hl)
theorem gd_tsIn {y : am_MD} {o : am_O} {kc ks n pc q : Nat} {L : List (Option Value)} {st : List Value} {I : am_I} {J : am_J} {Q : am_Q} {dflt lo hi off : Int} {offs : Array Int} {len : Nat} {x : Int32} (hat : am_at y pc = some (.tableswitch dflt lo hi offs, len)) (h1 : ¬ x.toInt < lo) (h2 : ¬ hi < x.toInt) (ho : offs[(x.toInt - lo).toNat]? = some off) (hr : (pc : Int) + off = (q : Int)) (kk : Gd y o kc ks n q L st I J Q) : Gd y o kc ks n pc L (.int x :: st) I J Q := by
  intro p l e s m args below meth c H locs ls D dA ad al al0 n0 A S hkap hal hP hD hS hl
  exact lv_tableIn S.1 S.2.1 (S.2.2.2.2.2.2.2.2.1 _ _ hat) h1 h2 ho hr (kk p l e s m args below meth c H locs ls D dA ad al al0 n0 A S hkap hal hP hD hS hl)
theorem gd_lookup {y : am_MD} {o : am_O} {kc ks n pc q : Nat} {L : List (Option Value)} {st : List Value} {I : am_I} {J : am_J} {Q : am_Q} {dflt off : Int} {ps : Array (Int × Int)} {len : Nat} {x : Int32} (hat : am_at y pc = some (.lookupswitch dflt ps, len)) (hp : (ps.toList.zip (ps.toList.drop 1)).all (fun (a, next) => a.1 < next.1) = true) (ho : Op.lookupswitch.offset ps.toList dflt x.toInt = off) (hr : (pc : Int) + off = (q : Int)) (kk : Gd y o kc ks n q L st I J Q) : Gd y o kc ks n pc L (.int x :: st) I J Q := by
  intro p l e s m args below meth c H locs ls D dA ad al al0 n0 A S hkap hal hP hD hS hl
  exact lv_lookup S.1 S.2.1 (S.2.2.2.2.2.2.2.2.1 _ _ hat) hp ho hr (kk p l e s m args below meth c H locs ls D dA ad al al0 n0 A S hkap hal hP hD hS hl)
theorem am_decl {c : Nat} {q : vw_C} (h : vwCl[c]? = some q) : ∀ j, j < q.2.2 → (q.2.1 j).1 = am_cn c := by
  match c, h with
  | 0, h => cases h; decide +kernel
  | 1, h => cases h; decide +kernel
  | 2, h => cases h; decide +kernel
  | 3, h => cases h; decide +kernel
  | 4, h => cases h; decide +kernel
  | 5, h => cases h; decide +kernel
  | 6, h => cases h; decide +kernel
  | 7, h => cases h; decide +kernel
  | 8, h => cases h; decide +kernel
  | 9, h => cases h; decide +kernel
  | 10, h => cases h; decide +kernel
  | k + 11, h => exact absurd (am_cl_lt h) (by omega)
theorem am_getf {y : am_MD} {p : Program} {l : Launch} {e : Env} {R : Room} {s : State} {m : MethodId} {args : Array Value} {below : List Frame} {meth : Method} {c : Code} {H : Heap} {locs : List Loc} {cells slots : Nat} {Z : State → Prop} {D : va_G} {dA : Nat → ClassId} {ad : am_AD} {A : Nat → Prop} {al : Nat → Nat} {n k ci j ps idx pc : Nat} {nb : Bool} {I : am_I} {J : am_J} {Q : am_Q} {ls : Array Slot} {rest : List Value} (S : am_S y p s m args meth c D dA ad A) (hP : va_P D vwCl (am_ws dA al n I J Q) H) (hat : am_at y pc = some (.getfield idx, 3)) (hf : am_fl y.1 idx = some (nb, ci, j, ps)) (hk : k < n) (hl : am_lay k = .inl ci)
    (kk : W p l e R s m args below meth c H locs cells slots Z (F0 m (pc + 3) ls ((if am_rf ci j = true then va_rf ((Q k j).map al) else .int (I k j)) :: rest))) : W p l e R s m args below meth c H locs cells slots Z (F0 m pc ls (.ref (al k) :: rest)) := by
  obtain ⟨r, hr, hj, hm⟩ := am_fl_ok hf
  have he : (am_ws dA al n I J Q)[k]? = some (al k, .inr (ci, am_fs al ci (I k) (Q k))) := by rw [am_ws_at hk, am_en, hl]
  have hv := am_fs_at (al := al) (i := I k) (q := Q k) (by rw [← am_nf_ok hr]; exact hj)
  unfold am_fc at hm
  cases nb with
  | true => exact va_getN S.1 S.2.1 S.2.2.2.2.2.2.2.1 (am_in hr) S.2.2.2.2.2.2.1 S.2.2.2.2.2.2.2.2.2.1.1 hP k he hr j hj (va_Nw.use rfl (S.2.2.2.2.2.2.2.2.2.1.2.1 _ (am_N_in hm rfl))) (fun _ h => h) hv (S.2.2.2.2.2.2.2.2.1 _ _ hat) kk
  | false => exact va_get S.1 S.2.1 S.2.2.2.2.2.2.2.1 (am_in hr) S.2.2.2.2.2.2.1 S.2.2.2.2.2.2.2.2.2.1.1 hP k he hr j hj (S.2.2.2.2.2.2.2.1 _ (am_G_in hm rfl)) (fun _ h => h) hv (S.2.2.2.2.2.2.2.2.1 _ _ hat) kk
theorem am_putf {y : am_MD} {p : Program} {l : Launch} {e : Env} {R : Room} {s : State} {m : MethodId} {args : Array Value} {below : List Frame} {meth : Method} {c : Code} {H : Heap} {locs : List Loc} {cells slots : Nat} {Z : State → Prop} {D : va_G} {dA : Nat → ClassId} {ad : am_AD} {A : Nat → Prop} {al : Nat → Nat} {n k ci j ps idx pc : Nat} {nb : Bool} {I : am_I} {J : am_J} {Q : am_Q} {ls : Array Slot} {rest : List Value} {v : Value} (S : am_S y p s m args meth c D dA ad A) (hP : va_P D vwCl (am_ws dA al n I J Q) H) (hD : va_D A (am_ws dA al n I J Q)) (hS : va_S A s.heap H locs) (hat : am_at y pc = some (.putfield idx, 3)) (hf : am_fl y.1 idx = some (nb, ci, j, ps)) (hk : k < n) (hl : am_lay k = .inl ci) (hn : narrow (am_ty ci j) v = v) (hfit : fits (am_ty ci j) v = true) (hfin : am_fin ci j = false ∨ (nb = false ∧ y.1 = ci ∧ y.2.1.name = "<init>"))
    (kk : ∀ (H1 : Heap) (locs1 : List Loc), va_P D vwCl ((am_ws dA al n I J Q).set k (al k, .inr (ci, (am_fs al ci (I k) (Q k)).set j v))) H1 → va_D A ((am_ws dA al n I J Q).set k (al k, .inr (ci, (am_fs al ci (I k) (Q k)).set j v))) → va_S A s.heap H1 locs1 → W p l e R s m args below meth c H1 locs1 cells slots Z (F0 m (pc + 3) ls rest)) : W p l e R s m args below meth c H locs cells slots Z (F0 m pc ls (v :: .ref (al k) :: rest)) := by
  obtain ⟨r, hr, hj, hm⟩ := am_fl_ok hf
  have he : (am_ws dA al n I J Q)[k]? = some (al k, .inr (ci, am_fs al ci (I k) (Q k))) := by rw [am_ws_at hk, am_en, hl]
  have hlen : j < (am_fs al ci (I k) (Q k)).length := by rw [am_fs_len, ← am_nf_ok hr]; exact hj
  have hty := am_ty_ok hr j hj
  have hfi : am_fin ci j = (r.2.1 j).2.2.2 := by unfold am_fin; rw [hr]
  unfold am_fc at hm
  by_cases hfn : am_fin ci j = false
  · have hfn2 : (r.2.1 j).2.2.2 = false := by rw [← hfi]; exact hfn
    cases nb with
    | true => exact va_putN S.1 S.2.1 S.2.2.2.2.2.2.2.1 (am_in hr) (am_ty ci) (am_ty_ok hr) (am_nm hr) S.2.2.2.2.2.2.1 S.2.2.2.2.2.2.2.2.2.1.1 hP hD hS k he hr j hj (va_Nw.use rfl (S.2.2.2.2.2.2.2.2.2.1.2.1 _ (am_N_in hm rfl))) (fun _ h => h) hfn2 hty hn hfit hlen (S.2.2.2.2.2.2.2.2.1 _ _ hat) kk
    | false => exact va_put S.1 S.2.1 S.2.2.2.2.2.2.2.1 (am_in hr) (am_ty ci) (am_ty_ok hr) (am_nm hr) S.2.2.2.2.2.2.1 S.2.2.2.2.2.2.2.2.2.1.1 hP hD hS k he hr j hj (S.2.2.2.2.2.2.2.1 _ (am_G_in hm rfl)) (fun _ h => h) hfn2 hty hn hfit hlen (S.2.2.2.2.2.2.2.2.1 _ _ hat) kk
  · rcases hfin with h | ⟨h1, h2, h3⟩
    · exact absurd h hfn
    · subst h1
      have hfn2 : (r.2.1 j).2.2.2 = true := by rw [← hfi]; simpa using hfn
      have hdecl : (r.2.1 j).1 = am_cn y.1 := by rw [h2]; exact am_decl hr j hj
      exact va_putF S.1 S.2.1 S.2.2.2.2.2.2.2.1 (am_in hr) (am_ty ci) (am_ty_ok hr) (am_nm hr) S.2.2.2.2.2.2.1 S.2.2.2.2.2.2.2.2.2.1.1 hP hD hS k he hr j hj (S.2.2.2.2.2.2.2.1 _ (am_G_in hm rfl)) (fun _ h => h) hfn2 (S.2.2.2.2.2.1 h3) hdecl hty hn hfit hlen (S.2.2.2.2.2.2.2.2.1 _ _ hat) kk
theorem gd_getI {y : am_MD} {o : am_O} {kc ks n pc q : Nat} {L : List (Option Value)} {st : List Value} {I : am_I} {J : am_J} {Q : am_Q} {idx k ci j ps : Nat} {nb : Bool}  (hat : am_at y pc = some (.getfield idx, 3)) (hq : pc + 3 = q) (hf : am_fl y.1 idx = some (nb, ci, j, ps)) (hk : k < n) (hly : am_lay k = .inl ci) (hr : am_rf ci j = false) (kk : Gd y o kc ks n q L (.int (I k j) :: st) I J Q) : Gd y o kc ks n pc L (.ref k :: st) I J Q := by
  subst hq
  intro p l e s m args below meth c H locs ls D dA ad al al0 n0 A S hkap hal hP hD hS hl
  refine am_getf S hP hat hf hk hly ?_
  rw [if_neg (by rw [hr]; decide)]
  exact (kk p l e s m args below meth c H locs ls D dA ad al al0 n0 A S hkap hal hP hD hS hl)
theorem gd_getR {y : am_MD} {o : am_O} {kc ks n pc q : Nat} {L : List (Option Value)} {st : List Value} {I : am_I} {J : am_J} {Q : am_Q} {idx k ci j ps : Nat} {nb : Bool} {r : Nat} (hat : am_at y pc = some (.getfield idx, 3)) (hq : pc + 3 = q) (hf : am_fl y.1 idx = some (nb, ci, j, ps)) (hk : k < n) (hly : am_lay k = .inl ci) (hr : am_rf ci j = true) (hQ : Q k j = some r) (kk : Gd y o kc ks n q L (.ref r :: st) I J Q) : Gd y o kc ks n pc L (.ref k :: st) I J Q := by
  subst hq
  intro p l e s m args below meth c H locs ls D dA ad al al0 n0 A S hkap hal hP hD hS hl
  refine am_getf S hP hat hf hk hly ?_
  rw [if_pos hr, hQ]
  exact (kk p l e s m args below meth c H locs ls D dA ad al al0 n0 A S hkap hal hP hD hS hl)
theorem gd_getN {y : am_MD} {o : am_O} {kc ks n pc q : Nat} {L : List (Option Value)} {st : List Value} {I : am_I} {J : am_J} {Q : am_Q} {idx k ci j ps : Nat} {nb : Bool}  (hat : am_at y pc = some (.getfield idx, 3)) (hq : pc + 3 = q) (hf : am_fl y.1 idx = some (nb, ci, j, ps)) (hk : k < n) (hly : am_lay k = .inl ci) (hr : am_rf ci j = true) (hQ : Q k j = none) (kk : Gd y o kc ks n q L (.null :: st) I J Q) : Gd y o kc ks n pc L (.ref k :: st) I J Q := by
  subst hq
  intro p l e s m args below meth c H locs ls D dA ad al al0 n0 A S hkap hal hP hD hS hl
  refine am_getf S hP hat hf hk hly ?_
  rw [if_pos hr, hQ]
  exact (kk p l e s m args below meth c H locs ls D dA ad al al0 n0 A S hkap hal hP hD hS hl)
theorem am_setI {dA : Nat → ClassId} {al : Nat → Nat} {n k ci j : Nat} {I : am_I} {J : am_J} {Q : am_Q} (hk : k < n) (hl : am_lay k = .inl ci) (hj : j < am_nf ci) (hr : am_rf ci j = false) (v : Int32) : (am_ws dA al n I J Q).set k (al k, .inr (ci, (am_fs al ci (I k) (Q k)).set j (.int v))) = am_ws dA al n (am_w I k j v) J Q := by
  rw [am_fs_setI hj hr, am_w, ← am_ws_setI hk, am_en, hl]
theorem am_setQ {dA : Nat → ClassId} {al : Nat → Nat} {n k ci j : Nat} {I : am_I} {J : am_J} {Q : am_Q} (hk : k < n) (hl : am_lay k = .inl ci) (hj : j < am_nf ci) (hr : am_rf ci j = true) (v : Option Nat) : (am_ws dA al n I J Q).set k (al k, .inr (ci, (am_fs al ci (I k) (Q k)).set j (va_rf (v.map al)))) = am_ws dA al n I J (am_w Q k j v) := by
  rw [am_fs_setQ hj hr, am_w, ← am_ws_setQ hk, am_en, hl]
theorem gd_putI {y : am_MD} {o : am_O} {kc ks n pc q : Nat} {L : List (Option Value)} {st : List Value} {I : am_I} {J : am_J} {Q : am_Q} {idx k ci j ps : Nat} {nb : Bool} {x : Int32} (hat : am_at y pc = some (.putfield idx, 3)) (hq : pc + 3 = q) (hf : am_fl y.1 idx = some (nb, ci, j, ps)) (hk : k < n) (hly : am_lay k = .inl ci) (hr : am_rf ci j = false) (hty : am_ty ci j = .int) (hfin : am_fin ci j = false ∨ (nb = false ∧ y.1 = ci ∧ y.2.1.name = "<init>")) (kk : Gd y o kc ks n q L st (am_w I k j x) J Q) : Gd y o kc ks n pc L (.int x :: .ref k :: st) I J Q := by
  subst hq
  intro p l e s m args below meth c H locs ls D dA ad al al0 n0 A S hkap hal hP hD hS hl
  obtain ⟨r0, hr0, hj0, -⟩ := am_fl_ok hf
  have hj1 : j < am_nf ci := by rw [← am_nf_ok hr0]; exact hj0
  refine am_putf S hP hD hS hat hf hk hly (v := .int x) (by rw [hty]; rfl) (by rw [hty]; rfl) hfin (fun H1 locs1 hP1 hD1 hS1 => ?_)
  exact kk p l e s m args below meth c H1 locs1 ls D dA ad al al0 n0 A S hkap hal ((am_setI hk hly hj1 hr x) ▸ hP1) ((am_setI hk hly hj1 hr x) ▸ hD1) hS1 hl
theorem gd_putZ {y : am_MD} {o : am_O} {kc ks n pc q : Nat} {L : List (Option Value)} {st : List Value} {I : am_I} {J : am_J} {Q : am_Q} {idx k ci j ps : Nat} {nb : Bool} {x : Int32} (hat : am_at y pc = some (.putfield idx, 3)) (hq : pc + 3 = q) (hf : am_fl y.1 idx = some (nb, ci, j, ps)) (hk : k < n) (hly : am_lay k = .inl ci) (hr : am_rf ci j = false) (hty : am_ty ci j = .boolean) (hx : x = 0 ∨ x = 1) (hfin : am_fin ci j = false) (kk : Gd y o kc ks n q L st (am_w I k j x) J Q) : Gd y o kc ks n pc L (.int x :: .ref k :: st) I J Q := by
  subst hq
  intro p l e s m args below meth c H locs ls D dA ad al al0 n0 A S hkap hal hP hD hS hl
  obtain ⟨r0, hr0, hj0, -⟩ := am_fl_ok hf
  have hj1 : j < am_nf ci := by rw [← am_nf_ok hr0]; exact hj0
  refine am_putf S hP hD hS hat hf hk hly (v := .int x) (by rw [hty]; rcases hx with h | h <;> subst h <;> rfl) (by rw [hty]; rcases hx with h | h <;> subst h <;> rfl) (Or.inl hfin) (fun H1 locs1 hP1 hD1 hS1 => ?_)
  exact kk p l e s m args below meth c H1 locs1 ls D dA ad al al0 n0 A S hkap hal ((am_setI hk hly hj1 hr x) ▸ hP1) ((am_setI hk hly hj1 hr x) ▸ hD1) hS1 hl
theorem gd_putR {y : am_MD} {o : am_O} {kc ks n pc q : Nat} {L : List (Option Value)} {st : List Value} {I : am_I} {J : am_J} {Q : am_Q} {idx k ci j ps : Nat} {nb : Bool} {r : Nat} (hat : am_at y pc = some (.putfield idx, 3)) (hq : pc + 3 = q) (hf : am_fl y.1 idx = some (nb, ci, j, ps)) (hk : k < n) (hly : am_lay k = .inl ci) (hr : am_rf ci j = true) (hty : ∀ a : Nat, narrow (am_ty ci j) (.ref a) = .ref a ∧ fits (am_ty ci j) (.ref a) = true) (hfin : am_fin ci j = false ∨ (nb = false ∧ y.1 = ci ∧ y.2.1.name = "<init>")) (kk : Gd y o kc ks n q L st I J (am_w Q k j (some r))) : Gd y o kc ks n pc L (.ref r :: .ref k :: st) I J Q := by
  subst hq
  intro p l e s m args below meth c H locs ls D dA ad al al0 n0 A S hkap hal hP hD hS hl
  obtain ⟨r0, hr0, hj0, -⟩ := am_fl_ok hf
  have hj1 : j < am_nf ci := by rw [← am_nf_ok hr0]; exact hj0
  refine am_putf S hP hD hS hat hf hk hly (v := .ref (al r)) (hty _).1 (hty _).2 hfin (fun H1 locs1 hP1 hD1 hS1 => ?_)
  exact kk p l e s m args below meth c H1 locs1 ls D dA ad al al0 n0 A S hkap hal ((am_setQ hk hly hj1 hr (some r)) ▸ hP1) ((am_setQ hk hly hj1 hr (some r)) ▸ hD1) hS1 hl
theorem gd_iald {y : am_MD} {o : am_O} {kc ks n pc q : Nat} {L : List (Option Value)} {st : List Value} {I : am_I} {J : am_J} {Q : am_Q} {k len : Nat} {i : Int32} (hat : am_at y pc = some (.iaload, 1)) (hq : pc + 1 = q) (hk : k < n) (hly : am_lay k = .inr (0, len)) (hin : vp_in i len) (kk : Gd y o kc ks n q L (.int (I k i.toNatClampNeg) :: st) I J Q) : Gd y o kc ks n pc L (.int i :: .ref k :: st) I J Q := by
  subst hq
  intro p l e s m args below meth c H locs ls D dA ad al al0 n0 A S hkap hal hP hD hS hl
  exact va_iald (f := I k) S.1 S.2.1 S.2.2.2.2.2.2.2.2.2.1.1 hP k 0 (by rw [am_ws_at hk, am_en, hly]; rfl) rfl hin (S.2.2.2.2.2.2.2.2.1 _ _ hat) (kk p l e s m args below meth c H locs ls D dA ad al al0 n0 A S hkap hal hP hD hS hl)
theorem gd_bald {y : am_MD} {o : am_O} {kc ks n pc q : Nat} {L : List (Option Value)} {st : List Value} {I : am_I} {J : am_J} {Q : am_Q} {k len : Nat} {i : Int32} (hat : am_at y pc = some (.baload, 1)) (hq : pc + 1 = q) (hk : k < n) (hly : am_lay k = .inr (1, len)) (hin : vp_in i len) (kk : Gd y o kc ks n q L (.int (I k i.toNatClampNeg) :: st) I J Q) : Gd y o kc ks n pc L (.int i :: .ref k :: st) I J Q := by
  subst hq
  intro p l e s m args below meth c H locs ls D dA ad al al0 n0 A S hkap hal hP hD hS hl
  exact va_bald (f := I k) S.1 S.2.1 S.2.2.2.2.2.2.2.2.2.1.1 hP k 1 (by rw [am_ws_at hk, am_en, hly]; rfl) rfl hin (S.2.2.2.2.2.2.2.2.1 _ _ hat) (kk p l e s m args below meth c H locs ls D dA ad al al0 n0 A S hkap hal hP hD hS hl)
theorem gd_sald {y : am_MD} {o : am_O} {kc ks n pc q : Nat} {L : List (Option Value)} {st : List Value} {I : am_I} {J : am_J} {Q : am_Q} {k len : Nat} {i : Int32} (hat : am_at y pc = some (.saload, 1)) (hq : pc + 1 = q) (hk : k < n) (hly : am_lay k = .inr (2, len)) (hin : vp_in i len) (kk : Gd y o kc ks n q L (.int (I k i.toNatClampNeg) :: st) I J Q) : Gd y o kc ks n pc L (.int i :: .ref k :: st) I J Q := by
  subst hq
  intro p l e s m args below meth c H locs ls D dA ad al al0 n0 A S hkap hal hP hD hS hl
  exact va_sald (f := I k) S.1 S.2.1 S.2.2.2.2.2.2.2.2.2.1.1 hP k 2 (by rw [am_ws_at hk, am_en, hly]; rfl) rfl hin (S.2.2.2.2.2.2.2.2.1 _ _ hat) (kk p l e s m args below meth c H locs ls D dA ad al al0 n0 A S hkap hal hP hD hS hl)
theorem gd_zald {y : am_MD} {o : am_O} {kc ks n pc q : Nat} {L : List (Option Value)} {st : List Value} {I : am_I} {J : am_J} {Q : am_Q} {k len : Nat} {i : Int32} (hat : am_at y pc = some (.baload, 1)) (hq : pc + 1 = q) (hk : k < n) (hly : am_lay k = .inr (3, len)) (hin : vp_in i len) (kk : Gd y o kc ks n q L (.int (I k i.toNatClampNeg) :: st) I J Q) : Gd y o kc ks n pc L (.int i :: .ref k :: st) I J Q := by
  subst hq
  intro p l e s m args below meth c H locs ls D dA ad al al0 n0 A S hkap hal hP hD hS hl
  exact va_zald (f := I k) S.1 S.2.1 S.2.2.2.2.2.2.2.2.2.1.1 hP k 3 (by rw [am_ws_at hk, am_en, hly]; rfl) rfl hin (S.2.2.2.2.2.2.2.2.1 _ _ hat) (kk p l e s m args below meth c H locs ls D dA ad al al0 n0 A S hkap hal hP hD hS hl)
theorem gd_lald {y : am_MD} {o : am_O} {kc ks n pc q : Nat} {L : List (Option Value)} {st : List Value} {I : am_I} {J : am_J} {Q : am_Q} {k len : Nat} {i : Int32} (hat : am_at y pc = some (.laload, 1)) (hq : pc + 1 = q) (hk : k < n) (hly : am_lay k = .inr (4, len)) (hin : vp_in i len) (kk : Gd y o kc ks n q L (.long (J k i.toNatClampNeg) :: st) I J Q) : Gd y o kc ks n pc L (.int i :: .ref k :: st) I J Q := by
  subst hq
  intro p l e s m args below meth c H locs ls D dA ad al al0 n0 A S hkap hal hP hD hS hl
  exact va_lald (f := J k) S.1 S.2.1 S.2.2.2.2.2.2.2.2.2.1.1 hP k 4 (by rw [am_ws_at hk, am_en, hly]; rfl) rfl hin (S.2.2.2.2.2.2.2.2.1 _ _ hat) (kk p l e s m args below meth c H locs ls D dA ad al al0 n0 A S hkap hal hP hD hS hl)
theorem gd_aald {y : am_MD} {o : am_O} {kc ks n pc q : Nat} {L : List (Option Value)} {st : List Value} {I : am_I} {J : am_J} {Q : am_Q} {k len r : Nat} {i : Int32} (hat : am_at y pc = some (.aaload, 1)) (hq : pc + 1 = q) (hk : k < n) (hly : am_lay k = .inr (5, len)) (hin : vp_in i len) (hQ : Q k i.toNatClampNeg = some r) (kk : Gd y o kc ks n q L (.ref r :: st) I J Q) : Gd y o kc ks n pc L (.int i :: .ref k :: st) I J Q := by
  subst hq
  intro p l e s m args below meth c H locs ls D dA ad al al0 n0 A S hkap hal hP hD hS hl
  refine va_aldq (f := fun a => (Q k a).map al) S.1 S.2.1 S.2.2.2.2.2.2.2.2.2.1.1 hP k 5 (by rw [am_ws_at hk, am_en, hly]; rfl) rfl hin (S.2.2.2.2.2.2.2.2.1 _ _ hat) ?_
  rw [hQ]
  exact (kk p l e s m args below meth c H locs ls D dA ad al al0 n0 A S hkap hal hP hD hS hl)
theorem gd_aaldN {y : am_MD} {o : am_O} {kc ks n pc q : Nat} {L : List (Option Value)} {st : List Value} {I : am_I} {J : am_J} {Q : am_Q} {k len : Nat} {i : Int32} (hat : am_at y pc = some (.aaload, 1)) (hq : pc + 1 = q) (hk : k < n) (hly : am_lay k = .inr (5, len)) (hin : vp_in i len) (hQ : Q k i.toNatClampNeg = none) (kk : Gd y o kc ks n q L (.null :: st) I J Q) : Gd y o kc ks n pc L (.int i :: .ref k :: st) I J Q := by
  subst hq
  intro p l e s m args below meth c H locs ls D dA ad al al0 n0 A S hkap hal hP hD hS hl
  refine va_aldq (f := fun a => (Q k a).map al) S.1 S.2.1 S.2.2.2.2.2.2.2.2.2.1.1 hP k 5 (by rw [am_ws_at hk, am_en, hly]; rfl) rfl hin (S.2.2.2.2.2.2.2.2.1 _ _ hat) ?_
  rw [hQ]
  exact (kk p l e s m args below meth c H locs ls D dA ad al al0 n0 A S hkap hal hP hD hS hl)
theorem am_arrI {dA : Nat → ClassId} {al : Nat → Nat} {n k t len : Nat} {I : am_I} {J : am_J} {Q : am_Q} (hk : k < n) (hl : am_lay k = .inr (t, len)) (h4 : ¬ t = 4) (h5 : ¬ t = 5) (f : Nat → Int32) : (am_ws dA al n I J Q).set k (al k, .inl (dA t, len, .inl f)) = am_ws dA al n (va_up I k f) J Q := by
  rw [← am_ws_setI hk, am_en, hl]
  simp only [if_neg h4, if_neg h5]
theorem am_arrJ {dA : Nat → ClassId} {al : Nat → Nat} {n k len : Nat} {I : am_I} {J : am_J} {Q : am_Q} (hk : k < n) (hl : am_lay k = .inr (4, len)) (f : Nat → Int64) : (am_ws dA al n I J Q).set k (al k, .inl (dA 4, len, .inr (.inl f))) = am_ws dA al n I (va_up J k f) Q := by
  rw [← am_ws_setJ hk, am_en, hl]
  rfl
theorem am_arrQ {dA : Nat → ClassId} {al : Nat → Nat} {n k len : Nat} {I : am_I} {J : am_J} {Q : am_Q} (hk : k < n) (hl : am_lay k = .inr (5, len)) (f : Nat → Option Nat) : (am_ws dA al n I J Q).set k (al k, .inl (dA 5, len, .inr (.inr (.inr (.inr (fun a => (f a).map al)))))) = am_ws dA al n I J (va_up Q k f) := by
  rw [← am_ws_setQ hk, am_en, hl]
  rfl
theorem am_arrI2 {dA : Nat → ClassId} {al : Nat → Nat} {n k t len : Nat} {I : am_I} {J : am_J} {Q : am_Q} (hk : k < n) (hl : am_lay k = .inr (t, len)) (h4 : ¬ t = 4) (h5 : ¬ t = 5) (j : Nat) (v : Int32) : (am_ws dA al n I J Q).set k (al k, .inl (dA t, len, .inl (upd (I k) j v))) = am_ws dA al n (am_w I k j v) J Q := am_arrI hk hl h4 h5 _
theorem am_arrJ2 {dA : Nat → ClassId} {al : Nat → Nat} {n k len : Nat} {I : am_I} {J : am_J} {Q : am_Q} (hk : k < n) (hl : am_lay k = .inr (4, len)) (j : Nat) (v : Int64) : (am_ws dA al n I J Q).set k (al k, .inl (dA 4, len, .inr (.inl (vp_updL (J k) j v)))) = am_ws dA al n I (am_w J k j v) Q := am_arrJ hk hl _
theorem am_arrQ2 {dA : Nat → ClassId} {al : Nat → Nat} {n k len : Nat} {I : am_I} {J : am_J} {Q : am_Q} (hk : k < n) (hl : am_lay k = .inr (5, len)) (j r : Nat) : (am_ws dA al n I J Q).set k (al k, .inl (dA 5, len, .inr (.inr (.inr (.inr (fun a => (va_up (Q k) j (some r) a).map al)))))) = am_ws dA al n I J (am_w Q k j (some r)) := am_arrQ hk hl _
theorem am_upmap {f : Nat → Option Nat} {al : Nat → Nat} {i r : Nat} : va_up (fun a => (f a).map al) i (some (al r)) = fun a => (va_up f i (some r) a).map al := by
  funext a
  unfold va_up
  split <;> rfl
theorem gd_iast {y : am_MD} {o : am_O} {kc ks n pc q : Nat} {L : List (Option Value)} {st : List Value} {I : am_I} {J : am_J} {Q : am_Q} {k len : Nat} {i x : Int32} (hat : am_at y pc = some (.iastore, 1)) (hq : pc + 1 = q) (hk : k < n) (hly : am_lay k = .inr (0, len)) (hin : vp_in i len) (kk : Gd y o kc ks n q L st (am_w I k i.toNatClampNeg (x)) J Q) : Gd y o kc ks n pc L (.int x :: .int i :: .ref k :: st) I J Q := by
  subst hq
  intro p l e s m args below meth c H locs ls D dA ad al al0 n0 A S hkap hal hP hD hS hl
  refine va_iast (f := I k) S.1 S.2.1 S.2.2.2.2.2.2.2.2.2.1.1 hP hD hS k 0 (by rw [am_ws_at hk, am_en, hly]; rfl) rfl hin (S.2.2.2.2.2.2.2.2.1 _ _ hat) (fun H1 locs1 hP1 hD1 hS1 => ?_)
  exact kk p l e s m args below meth c H1 locs1 ls D dA ad al al0 n0 A S hkap hal ((am_arrI2 hk hly (by decide) (by decide) _ _) ▸ hP1) ((am_arrI2 hk hly (by decide) (by decide) _ _) ▸ hD1) hS1 hl
theorem gd_bast {y : am_MD} {o : am_O} {kc ks n pc q : Nat} {L : List (Option Value)} {st : List Value} {I : am_I} {J : am_J} {Q : am_Q} {k len : Nat} {i x : Int32} (hat : am_at y pc = some (.bastore, 1)) (hq : pc + 1 = q) (hk : k < n) (hly : am_lay k = .inr (1, len)) (hin : vp_in i len) (kk : Gd y o kc ks n q L st (am_w I k i.toNatClampNeg (vp_nar .byte x)) J Q) : Gd y o kc ks n pc L (.int x :: .int i :: .ref k :: st) I J Q := by
  subst hq
  intro p l e s m args below meth c H locs ls D dA ad al al0 n0 A S hkap hal hP hD hS hl
  refine va_bast (f := I k) S.1 S.2.1 S.2.2.2.2.2.2.2.2.2.1.1 hP hD hS k 1 (by rw [am_ws_at hk, am_en, hly]; rfl) rfl hin (S.2.2.2.2.2.2.2.2.1 _ _ hat) (fun H1 locs1 hP1 hD1 hS1 => ?_)
  exact kk p l e s m args below meth c H1 locs1 ls D dA ad al al0 n0 A S hkap hal ((am_arrI2 hk hly (by decide) (by decide) _ _) ▸ hP1) ((am_arrI2 hk hly (by decide) (by decide) _ _) ▸ hD1) hS1 hl
theorem gd_sast {y : am_MD} {o : am_O} {kc ks n pc q : Nat} {L : List (Option Value)} {st : List Value} {I : am_I} {J : am_J} {Q : am_Q} {k len : Nat} {i x : Int32} (hat : am_at y pc = some (.sastore, 1)) (hq : pc + 1 = q) (hk : k < n) (hly : am_lay k = .inr (2, len)) (hin : vp_in i len) (kk : Gd y o kc ks n q L st (am_w I k i.toNatClampNeg (vp_nar .short x)) J Q) : Gd y o kc ks n pc L (.int x :: .int i :: .ref k :: st) I J Q := by
  subst hq
  intro p l e s m args below meth c H locs ls D dA ad al al0 n0 A S hkap hal hP hD hS hl
  refine va_sast (f := I k) S.1 S.2.1 S.2.2.2.2.2.2.2.2.2.1.1 hP hD hS k 2 (by rw [am_ws_at hk, am_en, hly]; rfl) rfl hin (S.2.2.2.2.2.2.2.2.1 _ _ hat) (fun H1 locs1 hP1 hD1 hS1 => ?_)
  exact kk p l e s m args below meth c H1 locs1 ls D dA ad al al0 n0 A S hkap hal ((am_arrI2 hk hly (by decide) (by decide) _ _) ▸ hP1) ((am_arrI2 hk hly (by decide) (by decide) _ _) ▸ hD1) hS1 hl
theorem gd_zast {y : am_MD} {o : am_O} {kc ks n pc q : Nat} {L : List (Option Value)} {st : List Value} {I : am_I} {J : am_J} {Q : am_Q} {k len : Nat} {i x : Int32} (hat : am_at y pc = some (.bastore, 1)) (hq : pc + 1 = q) (hk : k < n) (hly : am_lay k = .inr (3, len)) (hin : vp_in i len) (kk : Gd y o kc ks n q L st (am_w I k i.toNatClampNeg (vp_nar .boolean x)) J Q) : Gd y o kc ks n pc L (.int x :: .int i :: .ref k :: st) I J Q := by
  subst hq
  intro p l e s m args below meth c H locs ls D dA ad al al0 n0 A S hkap hal hP hD hS hl
  refine va_zast (f := I k) S.1 S.2.1 S.2.2.2.2.2.2.2.2.2.1.1 hP hD hS k 3 (by rw [am_ws_at hk, am_en, hly]; rfl) rfl hin (S.2.2.2.2.2.2.2.2.1 _ _ hat) (fun H1 locs1 hP1 hD1 hS1 => ?_)
  exact kk p l e s m args below meth c H1 locs1 ls D dA ad al al0 n0 A S hkap hal ((am_arrI2 hk hly (by decide) (by decide) _ _) ▸ hP1) ((am_arrI2 hk hly (by decide) (by decide) _ _) ▸ hD1) hS1 hl
theorem gd_last {y : am_MD} {o : am_O} {kc ks n pc q : Nat} {L : List (Option Value)} {st : List Value} {I : am_I} {J : am_J} {Q : am_Q} {k len : Nat} {i : Int32} {x : Int64} (hat : am_at y pc = some (.lastore, 1)) (hq : pc + 1 = q) (hk : k < n) (hly : am_lay k = .inr (4, len)) (hin : vp_in i len) (kk : Gd y o kc ks n q L st I (am_w J k i.toNatClampNeg x) Q) : Gd y o kc ks n pc L (.long x :: .int i :: .ref k :: st) I J Q := by
  subst hq
  intro p l e s m args below meth c H locs ls D dA ad al al0 n0 A S hkap hal hP hD hS hl
  refine va_last (f := J k) S.1 S.2.1 S.2.2.2.2.2.2.2.2.2.1.1 hP hD hS k 4 (by rw [am_ws_at hk, am_en, hly]; rfl) rfl hin (S.2.2.2.2.2.2.2.2.1 _ _ hat) (fun H1 locs1 hP1 hD1 hS1 => ?_)
  exact kk p l e s m args below meth c H1 locs1 ls D dA ad al al0 n0 A S hkap hal ((am_arrJ2 hk hly _ _) ▸ hP1) ((am_arrJ2 hk hly _ _) ▸ hD1) hS1 hl
theorem gd_aast {y : am_MD} {o : am_O} {kc ks n pc q : Nat} {L : List (Option Value)} {st : List Value} {I : am_I} {J : am_J} {Q : am_Q} {k len r : Nat} {i : Int32} (hat : am_at y pc = some (.aastore, 1)) (hq : pc + 1 = q) (hk : k < n) (hly : am_lay k = .inr (5, len)) (hin : vp_in i len) (hr : r < n) (hrl : am_lay r = .inl 1) (kk : Gd y o kc ks n q L st I J (am_w Q k i.toNatClampNeg (some r))) : Gd y o kc ks n pc L (.ref r :: .int i :: .ref k :: st) I J Q := by
  subst hq
  intro p l e s m args below meth c H locs ls D dA ad al al0 n0 A S hkap hal hP hD hS hl
  refine va_astq (r := (RX1, TX1, 11)) (f := fun a => (Q k a).map al) S.1 S.2.1 S.2.2.2.2.2.2.2.2.2.1.1 hP hD hS k 5 r 1 (by rw [am_ws_at hk, am_en, hly]; rfl) rfl (by rw [am_ws_at hr, am_en, hrl]) rfl hin (S.2.2.2.2.2.2.2.2.1 _ _ hat) (fun H1 locs1 hP1 hD1 hS1 => ?_)
  rw [am_upmap] at hP1 hD1
  exact kk p l e s m args below meth c H1 locs1 ls D dA ad al al0 n0 A S hkap hal ((am_arrQ2 hk hly _ _) ▸ hP1) ((am_arrQ2 hk hly _ _) ▸ hD1) hS1 hl
theorem gd_alen {y : am_MD} {o : am_O} {kc ks n pc q : Nat} {L : List (Option Value)} {st : List Value} {I : am_I} {J : am_J} {Q : am_Q} {k t len : Nat} {v : Int32} {ty : FieldType} (hat : am_at y pc = some (.arraylength, 1)) (hq : pc + 1 = q) (hk : k < n) (hly : am_lay k = .inr (t, len)) (ht : ∀ dA : Nat → ClassId, (am_tys dA)[t]? = some (dA t, ty)) (hv : Int32.ofNat len = v) (kk : Gd y o kc ks n q L (.int v :: st) I J Q) : Gd y o kc ks n pc L (.ref k :: st) I J Q := by
  subst hq
  intro p l e s m args below meth c H locs ls D dA ad al al0 n0 A S hkap hal hP hD hS hl
  exact va_alen S.1 S.2.1 S.2.2.2.2.2.2.2.2.2.1.1 hP k t (by rw [am_ws_at hk, am_en, hly]) (ht dA) hv (S.2.2.2.2.2.2.2.2.1 _ _ hat) (kk p l e s m args below meth c H locs ls D dA ad al al0 n0 A S hkap hal hP hD hS hl)
