/-! ===== the String constant: the JDK's own members over it ===== -/
def cs_Q (r : Option Value) : Array Value → State → Outcome → State → Prop := fun _ st oc t => oc = .returned r ∧ t.heap = st.heap
def cs_P (D : va_G) (dA : Nat → ClassId) (ad : am_AD) (A : Nat → Prop) (U : State) : Prop := am_C D dA ad A U ∧ ∀ q, U.heap.size ≤ q → A q
def Cs (y : am_MD) (d : Nat) (av : am_AD → List Value) (r : Option Value) : Prop :=
  ∀ (l : Launch) (D : va_G) (dA : Nat → ClassId) (ad : am_AD) (A : Nat → Prop), Met l y.2.1 (am_ww y) (am_rm d 0 0) (va_Pc (av ad) (cs_P D dA ad A)) (cs_Q r) 0 0 (fun _ => False)
theorem cs_of {y : am_MD} {d : Nat} {av : am_AD → List Value} {r : Option Value} (hpl : plainName y.2.1.cls = true) (hcn : y.2.1.cls = am_cn y.1) (hdec : (y.2.2.2.2.2).all (fun e => decide (decode y.2.2.1 e.1 = .ok e.2)) = true) (hlen : ∀ ad, (lg_sl (av ad)).length ≤ y.2.2.2.1)
    (body : ∀ (p : Program) (l : Launch) (e : Env) (s : State) (m : MethodId) (args : Array Value) (below : List Frame) (meth : Method) (c : Code) (ls : Array Slot) (D : va_G) (dA : Nat → ClassId) (ad : am_AD) (A : Nat → Prop), am_S y p s m args meth c D dA ad A → lv_has ls y.2.2.2.1 (lv_args 0 (av ad)) → va_S A s.heap s.heap [] → W p l e (am_rm d 0 0) s m args below meth c s.heap [] 0 0 (MQ below (cs_Q r) args s 0 0 (fun _ => False)) (F0 m 0 ls [])) : Cs y d av r := by
  intro l D dA ad A
  refine Met.ofW (cc := y.2.2.1) (maxL := y.2.2.2.1) (ret := y.2.2.2.2.1) hpl rfl ?_
  intro p e s m args below meth c s₁ B hml hv
  obtain ⟨hargs, hC, hA⟩ := hv
  subst hargs
  have hts := atoms_spec (ws := am_ww y) B.pre
  have hS0 : am_S y p s m (av ad).toArray meth c D dA ad A := by
    refine ⟨B.exec, B.bytes, hml, B.returns, B.notSynchronized, fun h => (name_of_methodNamed B.named B.method).1.trans h, ?_, fun w hw => hts w (List.mem_cons_of_mem _ hw), fun pc q hq => ?_, hC, hA⟩
    · rw [← hcn]
      exact findClass_of_methodNamed B.named
    · have h1 := List.all_eq_true.mp hdec _ (am_lookup hq)
      exact of_decide_eq_true h1
  have hl := lv_entry (av ad) (n := y.2.2.2.1) (hlen ad)
  rw [lg_entry_eq]
  exact body p l e s m _ below meth c _ D dA ad A hS0 hl va_S.rf
section CS
variable {y y' : am_MD} {p : Program} {l : Launch} {e : Env} {R : Room} {s : State} {m : MethodId} {args : Array Value} {below : List Frame} {meth : Method} {c : Code} {H : Heap} {locs : List Loc} {cells slots pc idx d' pn : Nat} {ls : Array Slot} {rest As : List Value} {Z : State → Prop} {D : va_G} {dA : Nat → ClassId} {ad : am_AD} {A : Nat → Prop} {av : am_AD → List Value} {r : Option Value}
theorem cs_pre (S : am_S y p s m args meth c D dA ad A) (hS : va_S A s.heap H locs) (bv : List Value) : FrameBlind (va_Pc bv (cs_P D dA ad A)) ∧ ∀ U : State, U.heap = H → s.WarmedH U.vm → va_Pc bv (cs_P D dA ad A) bv.toArray U :=
  ⟨fun _ _ _ _ h => ⟨h.1, h.2.1.calling, h.2.2⟩, fun U hU hW => ⟨rfl, S.2.2.2.2.2.2.2.2.2.1.callee hS (fun _ h => h) hU hW, fun q hq => S.2.2.2.2.2.2.2.2.2.2 q (Nat.le_trans hS.1 (by rw [← hU]; exact hq))⟩⟩
theorem cs_back {a : Array Value} {st0 : List Value} (hr : CallRun p l e R s m args below meth c H locs cells slots 0 0 (F0 m pc ls st0) rest (cs_Q r a) (fun _ => False)) (kk : W p l e R s m args below meth c H locs cells slots Z (F0 m (pc + 3) ls (r.toList ++ rest))) : W p l e R s m args below meth c H locs cells slots Z (F0 m pc ls st0) := by
  intro T hT X
  obtain ⟨v, st₀, t, T', L, h0, X', hL, e1, ⟨hv, hh⟩, st⟩ := hr T hT X
  cases hv
  obtain ⟨t2, a1, b1⟩ := kk T' (by rw [e1, hh, h0]) (Stand.forget X' (fun q h => (hL q h).elim))
  exact ⟨t2, st t2 a1, b1⟩
theorem cs_callS (S : am_S y p s m args meth c D dA ad A) (hS : va_S A s.heap H locs) (hls : ls.size = y.2.2.2.1) (hat : am_at y pc = some (.invokestatic idx, 3)) (hlk : am_lk y.1 idx false y') (hm : am_my y' pn) (hv : am_sta y') (hc : Cs y' d' av r) (hn : (av ad).length = pn) (hcat : (rest.map fun v => v.category).sum ≤ 8) (hR : d' + 1 ≤ R.frames ∧ 8 + (y'.2.2.2.1 + 11) + 40 * d' ≤ R.locals) (hf : cells ≤ R.cells ∧ slots ≤ R.slots) (kk : W p l e R s m args below meth c H locs cells slots Z (F0 m (pc + 3) ls (r.toList ++ rest))) : W p l e R s m args below meth c H locs cells slots Z (F0 m pc ls ((av ad).reverse ++ rest)) :=
  cs_back (W.runS (As := av ad) ⟨S.1, S.2.1, S.2.2.1, S.2.2.2.2.2.2.1, S.2.2.2.2.2.2.2.1⟩ (hc l D dA ad A) ⟨am_callB S hm hlk hR, S.2.2.2.2.2.2.2.1 _ (am_G_in hv rfl)⟩ (cs_pre S hS (av ad)) rfl hn hls rfl (lv_room hcat) (S.2.2.2.2.2.2.2.2.1 _ _ hat) hf) kk
theorem cs_callV {tl : am_AD → List Value} (S : am_S y p s m args meth c D dA ad A) (hS : va_S A s.heap H locs) (hls : ls.size = y.2.2.2.1) (hat : am_at y pc = some (.invokevirtual idx, 3)) (hlk : am_lk y.1 idx false y') (hm : am_my y' pn) (hv : am_vi y') (hy : y'.2.1.cls = "java/lang/String") (hc : Cs y' d' (fun ad => .ref (ad.1 0) :: tl ad) r) (hn : (tl ad).length = pn) (hcat : (rest.map fun v => v.category).sum ≤ 8) (hR : d' + 1 ≤ R.frames ∧ 8 + (y'.2.2.2.1 + 11) + 40 * d' ≤ R.locals) (hf : cells ≤ R.cells ∧ slots ≤ R.slots) (kk : W p l e R s m args below meth c H locs cells slots Z (F0 m (pc + 3) ls (r.toList ++ rest))) : W p l e R s m args below meth c H locs cells slots Z (F0 m pc ls ((tl ad).reverse ++ .ref (ad.1 0) :: rest)) := by
  have hrec := vk_recv S.2.2.2.2.2.2.2.2.2.1.2.2.2.1 (i := 0) (by decide) hS
  rw [← hy] at hrec
  exact cs_back (W.runV (As := tl ad) ⟨S.1, S.2.1, S.2.2.1, S.2.2.2.2.2.2.1, S.2.2.2.2.2.2.2.1⟩ (hc l D dA ad A) ⟨am_callB S hm hlk hR, S.2.2.2.2.2.2.2.1 _ (am_G_in hv.1 rfl), S.2.2.2.2.2.2.2.1 _ (am_G_in hv.2 rfl)⟩ ⟨(cs_pre S hS (.ref (ad.1 0) :: tl ad)).1, hrec, (cs_pre S hS (.ref (ad.1 0) :: tl ad)).2⟩ rfl hn hls rfl (lv_room hcat) (S.2.2.2.2.2.2.2.2.1 _ _ hat) hf) kk
end CS
theorem cs_w481 : Cond.fieldLink (am_cn 12) 38 "java/lang/String" "COMPACT_STRINGS" "Z" ∈ lw_tbl := List.mem_of_getElem? (i := 481) (by decide +kernel)
theorem cs_w497 : Cond.fieldLink (am_cn 12) 1053 "jdk/internal/util/Preconditions" "SIOOBE_FORMATTER" "Ljava/util/function/BiFunction;" ∈ lw_tbl := List.mem_of_getElem? (i := 497) (by decide +kernel)
theorem cs_w1442 : Cond.fieldLink (am_cn 12) 9 "java/lang/String" "value" "[B" ∈ lw_tbl := List.mem_of_getElem? (i := 1442) (by decide +kernel)
theorem cs_w1443 : Cond.fieldLink (am_cn 12) 15 "java/lang/String" "coder" "B" ∈ lw_tbl := List.mem_of_getElem? (i := 1443) (by decide +kernel)
set_option maxRecDepth 100000 in
set_option maxHeartbeats 4000000 in
theorem cs_coder : Cs MJ0_coder_7d493 0 (fun ad => [.ref (ad.1 0)]) (some (.int 0)) := by
  refine cs_of (by decide) rfl IJ0_coder_7d493_ok (fun _ => Nat.le_of_ble_eq_true rfl) ?_
  intro p l e s m args below meth c ls D dA ad A S hl hS
  obtain ⟨hx, hb, hml, hr, hlocks, -, hown, hts, hdc, hC, hA⟩ := id S
  refine va_gets hx hb hC.2.2.2.2.2.1 hS hown (hts _ (am_G_in cs_w481 rfl)) (fun _ h => h) (hdc 0 _ rfl) ?_
  refine lv_if_eq (tgt := 13) hx hb (hdc 3 _ rfl) rfl (fun h => absurd h (by decide)) (fun _ => ?_)
  refine lv_aload_n hx hb (hdc 6 _ rfl) rfl (lv_at hl 0 rfl) ?_
  refine vk_getf hx hb (hC.2.2.2.1.1 0 (by decide)).2.1 hS hown (hts _ (am_G_in cs_w1443 rfl)) (fun _ h => h) (hdc 7 _ rfl) ?_
  refine lv_goto (tgt := 14) hx hb (hdc 10 _ rfl) rfl ?_
  exact W.zret hx hb hr rfl (fun t ht _ => ⟨rfl, ht⟩) (fun q h => by cases h) (hdc 14 _ rfl) hlocks
set_option maxRecDepth 100000 in
set_option maxHeartbeats 4000000 in
theorem cs_isLatin1 : Cs MJ0_isLatin1_aae02 0 (fun ad => [.ref (ad.1 0)]) (some (.int 1)) := by
  refine cs_of (by decide) rfl IJ0_isLatin1_aae02_ok (fun _ => Nat.le_of_ble_eq_true rfl) ?_
  intro p l e s m args below meth c ls D dA ad A S hl hS
  obtain ⟨hx, hb, hml, hr, hlocks, -, hown, hts, hdc, hC, hA⟩ := id S
  refine va_gets hx hb hC.2.2.2.2.2.1 hS hown (hts _ (am_G_in cs_w481 rfl)) (fun _ h => h) (hdc 0 _ rfl) ?_
  refine lv_if_eq (tgt := 17) hx hb (hdc 3 _ rfl) rfl (fun h => absurd h (by decide)) (fun _ => ?_)
  refine lv_aload_n hx hb (hdc 6 _ rfl) rfl (lv_at hl 0 rfl) ?_
  refine vk_getf hx hb (hC.2.2.2.1.1 0 (by decide)).2.1 hS hown (hts _ (am_G_in cs_w1443 rfl)) (fun _ h => h) (hdc 7 _ rfl) ?_
  refine lv_if_ne (tgt := 17) hx hb (hdc 10 _ rfl) rfl (fun h => absurd rfl h) (fun _ => ?_)
  refine lv_iconst (v := 1) hx hb (hdc 13 _ rfl) rfl ?_
  refine lv_goto (tgt := 18) hx hb (hdc 14 _ rfl) rfl ?_
  exact W.zret hx hb hr rfl (fun t ht _ => ⟨rfl, ht⟩) (fun q h => by cases h) (hdc 18 _ rfl) hlocks
set_option maxRecDepth 100000 in
set_option maxHeartbeats 4000000 in
theorem cs_length : Cs MJ0_length_8abf5 1 (fun ad => [.ref (ad.1 0)]) (some (.int 61)) := by
  refine cs_of (by decide) rfl IJ0_length_8abf5_ok (fun _ => Nat.le_of_ble_eq_true rfl) ?_
  intro p l e s m args below meth c ls D dA ad A S hl hS
  obtain ⟨hx, hb, hml, hr, hlocks, -, hown, hts, hdc, hC, hA⟩ := id S
  refine lv_aload_n hx hb (hdc 0 _ rfl) rfl (lv_at hl 0 rfl) ?_
  refine vk_getf hx hb (hC.2.2.2.1.1 0 (by decide)).2.2.1 hS hown (hts _ (am_G_in cs_w1442 rfl)) (fun _ h => h) (hdc 1 _ rfl) ?_
  refine va_tlen (v := 61) hx hb (hC.2.2.2.1.1 0 (by decide)).2.2.2 hS rfl (hdc 4 _ rfl) ?_
  refine lv_aload_n hx hb (hdc 5 _ rfl) rfl (lv_at hl 0 rfl) ?_
  refine cs_callV (tl := fun _ => []) (rest := [.int 61]) S hS hl.1 rfl lk12_335 myJ0_coder_7d493 vxJ0_coder_7d493 rfl cs_coder rfl (Nat.le_of_ble_eq_true rfl) ⟨Nat.le_of_ble_eq_true rfl, Nat.le_of_ble_eq_true rfl⟩ ⟨Nat.le_refl 0, Nat.le_refl 0⟩ ?_
  refine lv_ishr hx hb (hdc 9 _ rfl) ?_
  exact W.iret hx hb hr (fun t ht _ => ⟨rfl, ht⟩) (fun q h => by cases h) (hdc 10 _ rfl) hlocks
set_option maxRecDepth 100000 in
set_option maxHeartbeats 4000000 in
theorem cs_check3 (x : Int32) (w : Value) (hw : w.category = 1) (h0 : ¬ x < 0) (h1 : x < 61) : Cs MJ3_checkIndex_8e157 0 (fun _ => [.int x, .int 61, w]) (some (.int x)) := by
  refine cs_of (by decide) rfl IJ3_checkIndex_8e157_ok (fun _ => by rw [am_sl_len]; cases w <;> first | exact Nat.le_refl 3 | (cases hw; done)) ?_
  intro p l e s m args below meth c ls D dA ad A S hl hS
  obtain ⟨hx, hb, hml, hr, hlocks, -, hown, hts, hdc, hC, hA⟩ := id S
  refine lv_iload_n hx hb (hdc 0 _ rfl) rfl (lv_at hl 0 rfl) ?_
  refine lv_if_lt (tgt := 9) hx hb (hdc 1 _ rfl) rfl (fun h => absurd h h0) (fun _ => ?_)
  refine lv_iload_n hx hb (hdc 4 _ rfl) rfl (lv_at hl 0 rfl) ?_
  refine lv_iload_n hx hb (hdc 5 _ rfl) rfl (lv_at hl 1 rfl) ?_
  refine lv_icmp_lt (tgt := 16) hx hb (hdc 6 _ rfl) rfl (fun _ => ?_) (fun h => absurd h1 h)
  refine lv_iload_n hx hb (hdc 16 _ rfl) rfl (lv_at hl 0 rfl) ?_
  exact W.iret hx hb hr (fun t ht _ => ⟨rfl, ht⟩) (fun q h => by cases h) (hdc 17 _ rfl) hlocks
set_option maxRecDepth 100000 in
set_option maxHeartbeats 4000000 in
theorem cs_check (x : Int32) (h0 : ¬ x < 0) (h1 : x < 61) : Cs MJ0_checkIndex_df160 1 (fun _ => [.int x, .int 61]) none := by
  refine cs_of (by decide) rfl IJ0_checkIndex_df160_ok (fun _ => Nat.le_of_ble_eq_true rfl) ?_
  intro p l e s m args below meth c ls D dA ad A S hl hS
  obtain ⟨hx, hb, hml, hr, hlocks, -, hown, hts, hdc, hC, hA⟩ := id S
  refine lv_iload_n hx hb (hdc 0 _ rfl) rfl (lv_at hl 0 rfl) ?_
  refine lv_iload_n hx hb (hdc 1 _ rfl) rfl (lv_at hl 1 rfl) ?_
  rcases hC.2.2.2.2.2.2 with hZ | ⟨t, hZ⟩
  · refine va_gets hx hb hZ hS hown (hts _ (am_G_in cs_w497 rfl)) (fun _ h => h) (hdc 2 _ rfl) ?_
    refine cs_callS (av := fun _ => [.int x, .int 61, .null]) (rest := []) S hS hl.1 rfl lk12_1059 myJ3_checkIndex_8e157 sxJ3_checkIndex_8e157 (cs_check3 x .null rfl h0 h1) rfl (Nat.le_of_ble_eq_true rfl) ⟨Nat.le_of_ble_eq_true rfl, Nat.le_of_ble_eq_true rfl⟩ ⟨Nat.le_refl 0, Nat.le_refl 0⟩ ?_
    refine lv_pop (va := .int x) (rest := []) hx hb (hdc 8 _ rfl) rfl ?_
    exact W.vret hx hb hr (fun t ht _ => ⟨rfl, ht⟩) (fun q h => by cases h) (hdc 9 _ rfl) hlocks
  · refine va_gets hx hb hZ hS hown (hts _ (am_G_in cs_w497 rfl)) (fun _ h => h) (hdc 2 _ rfl) ?_
    refine cs_callS (av := fun _ => [.int x, .int 61, .ref t]) (rest := []) S hS hl.1 rfl lk12_1059 myJ3_checkIndex_8e157 sxJ3_checkIndex_8e157 (cs_check3 x (.ref t) rfl h0 h1) rfl (Nat.le_of_ble_eq_true rfl) ⟨Nat.le_of_ble_eq_true rfl, Nat.le_of_ble_eq_true rfl⟩ ⟨Nat.le_refl 0, Nat.le_refl 0⟩ ?_
    refine lv_pop (va := .int x) (rest := []) hx hb (hdc 8 _ rfl) rfl ?_
    exact W.vret hx hb hr (fun t ht _ => ⟨rfl, ht⟩) (fun q h => by cases h) (hdc 9 _ rfl) hlocks
/-- the char at a place of the constant -/
def am_chr (x : Int32) : Int32 := (((am_bW.getD x.toNatClampNeg 0) &&& 255).toUInt32 % 65536).toInt32
set_option maxRecDepth 100000 in
set_option maxHeartbeats 4000000 in
theorem cs_chr1 (x : Int32) (h0 : ¬ x < 0) (h1 : x < 61) (hin : vp_in x 61) : Cs MJ1_charAt_3b067 2 (fun ad => [.ref (ad.2 0), .int x]) (some (.int (am_chr x))) := by
  refine cs_of (by decide) rfl IJ1_charAt_3b067_ok (fun _ => Nat.le_of_ble_eq_true rfl) ?_
  intro p l e s m args below meth c ls D dA ad A S hl hS
  obtain ⟨hx, hb, hml, hr, hlocks, -, hown, hts, hdc, hC, hA⟩ := id S
  refine lv_iload_n hx hb (hdc 0 _ rfl) rfl (lv_at hl 1 rfl) ?_
  refine lv_aload_n hx hb (hdc 1 _ rfl) rfl (lv_at hl 0 rfl) ?_
  refine va_tlen (v := 61) hx hb (hC.2.2.2.1.1 0 (by decide)).2.2.2 hS rfl (hdc 2 _ rfl) ?_
  refine cs_callS (av := fun _ => [.int x, .int 61]) (rest := []) S hS hl.1 rfl lk13_9 myJ0_checkIndex_df160 sxJ0_checkIndex_df160 (cs_check x h0 h1) rfl (Nat.le_of_ble_eq_true rfl) ⟨Nat.le_of_ble_eq_true rfl, Nat.le_of_ble_eq_true rfl⟩ ⟨Nat.le_refl 0, Nat.le_refl 0⟩ ?_
  refine lv_aload_n hx hb (hdc 6 _ rfl) rfl (lv_at hl 0 rfl) ?_
  refine lv_iload_n hx hb (hdc 7 _ rfl) rfl (lv_at hl 1 rfl) ?_
  refine va_tb (v := .int (am_bW.getD x.toNatClampNeg 0)) hx hb (hC.2.2.2.1.1 0 (by decide)).2.2.2 hS hin rfl (hdc 8 _ rfl) ?_
  refine lv_sipush (v := 255) hx hb (hdc 9 _ rfl) rfl ?_
  refine lv_iand hx hb (hdc 12 _ rfl) ?_
  refine lv_i2c hx hb (hdc 13 _ rfl) rfl ?_
  exact W.zret hx hb hr (pk_nc _) (fun t ht _ => ⟨rfl, ht⟩) (fun q h => by cases h) (hdc 14 _ rfl) hlocks
set_option maxRecDepth 100000 in
set_option maxHeartbeats 4000000 in
theorem cs_charAt (x : Int32) (h0 : ¬ x < 0) (h1 : x < 61) (hin : vp_in x 61) : Cs MJ0_charAt_5068e 3 (fun ad => [.ref (ad.1 0), .int x]) (some (.int (am_chr x))) := by
  refine cs_of (by decide) rfl IJ0_charAt_5068e_ok (fun _ => Nat.le_of_ble_eq_true rfl) ?_
  intro p l e s m args below meth c ls D dA ad A S hl hS
  obtain ⟨hx, hb, hml, hr, hlocks, -, hown, hts, hdc, hC, hA⟩ := id S
  refine lv_aload_n hx hb (hdc 0 _ rfl) rfl (lv_at hl 0 rfl) ?_
  refine cs_callV (tl := fun _ => []) (rest := []) S hS hl.1 rfl lk12_492 myJ0_isLatin1_aae02 vxJ0_isLatin1_aae02 rfl cs_isLatin1 rfl (Nat.le_of_ble_eq_true rfl) ⟨Nat.le_of_ble_eq_true rfl, Nat.le_of_ble_eq_true rfl⟩ ⟨Nat.le_refl 0, Nat.le_refl 0⟩ ?_
  refine lv_if_eq (x := 1) (rest := []) (tgt := 16) hx hb (hdc 4 _ rfl) rfl (fun h => absurd h (by decide)) (fun _ => ?_)
  refine lv_aload_n hx hb (hdc 7 _ rfl) rfl (lv_at hl 0 rfl) ?_
  refine vk_getf hx hb (hC.2.2.2.1.1 0 (by decide)).2.2.1 hS hown (hts _ (am_G_in cs_w1442 rfl)) (fun _ h => h) (hdc 8 _ rfl) ?_
  refine lv_iload_n hx hb (hdc 11 _ rfl) rfl (lv_at hl 1 rfl) ?_
  refine cs_callS (av := fun ad => [.ref (ad.2 0), .int x]) (rest := []) S hS hl.1 rfl lk12_495 myJ1_charAt_3b067 sxJ1_charAt_3b067 (cs_chr1 x h0 h1 hin) rfl (Nat.le_of_ble_eq_true rfl) ⟨Nat.le_of_ble_eq_true rfl, Nat.le_of_ble_eq_true rfl⟩ ⟨Nat.le_refl 0, Nat.le_refl 0⟩ ?_
  exact W.zret (v := am_chr x) hx hb hr (pk_nc _) (fun t ht _ => ⟨rfl, ht⟩) (fun q h => by cases h) (hdc 15 _ rfl) hlocks
/-- ldc; length() -/
theorem gd_wlen {y : am_MD} {o : am_O} {kc ks n pc q : Nat} {L : List (Option Value)} {st : List Value} {I : am_I} {J : am_J} {Q : am_Q} (hy : y.1 = 6) (hat : am_at y pc = some (.ldc 58, 2)) (hat2 : am_at y (pc + 2) = some (.invokevirtual 60, 3)) (hq : pc + 5 = q) (hcat : (st.map fun v => v.category).sum ≤ 8) (hR : 2 ≤ o.1.frames ∧ 60 ≤ o.1.locals) (hf : kc ≤ o.1.cells ∧ ks ≤ o.1.slots) (kk : Gd y o kc ks n q L (.int 61 :: st) I J Q) : Gd y o kc ks n pc L st I J Q := by
  subst hq
  intro p l e s m args below meth c H locs ls D dA ad al al0 n0 A S hkap hal hP hD hS hl
  have hC := S.2.2.2.2.2.2.2.2.2.1
  refine va_ldcS S.1 S.2.1 (own := RX6) (by have := S.2.2.2.2.2.2.1; rw [hy] at this; exact this) hC.2.2.2.2.1 (S.2.2.2.2.2.2.2.2.1 _ _ hat) ?_
  refine cs_callV (tl := fun _ => []) (rest := st.map (am_cv al)) S hS hl.1 hat2 (by rw [hy]; exact lk6_60) myJ0_length_8abf5 vxJ0_length_8abf5 rfl cs_length rfl (by rw [am_catsum]; exact hcat) ⟨hR.1, hR.2⟩ hf ?_
  exact kk p l e s m args below meth c H locs ls D dA ad al al0 n0 A S hkap hal hP hD hS hl
/-- ldc; iload; charAt() -/
theorem gd_wchr {y : am_MD} {o : am_O} {kc ks n pc q i : Nat} {x : Int32} {L : List (Option Value)} {st : List Value} {I : am_I} {J : am_J} {Q : am_Q} (hy : y.1 = 6) (hat : am_at y pc = some (.ldc 58, 2)) (hat1 : am_at y (pc + 2) = some (.iload i, 2)) (hL : L[i]? = some (some (.int x))) (hat2 : am_at y (pc + 2 + 2) = some (.invokevirtual 66, 3)) (hq : pc + 7 = q) (hcat : (st.map fun v => v.category).sum ≤ 8) (hR : 4 ≤ o.1.frames ∧ 141 ≤ o.1.locals) (hf : kc ≤ o.1.cells ∧ ks ≤ o.1.slots) (hin : vp_in x 61) (kk : Gd y o kc ks n q L (.int (am_chr x) :: st) I J Q) : Gd y o kc ks n pc L st I J Q := by
  subst hq
  have h0 : ¬ x < 0 := fun h => hin (Or.inl h)
  have h1 : x < 61 := by
    obtain ⟨j, hj, rfl⟩ := vp_in_of hin (by decide)
    exact nI_lt hj (by decide)
  intro p l e s m args below meth c H locs ls D dA ad al al0 n0 A S hkap hal hP hD hS hl
  have hC := S.2.2.2.2.2.2.2.2.2.1
  refine va_ldcS S.1 S.2.1 (own := RX6) (by have := S.2.2.2.2.2.2.1; rw [hy] at this; exact this) hC.2.2.2.2.1 (S.2.2.2.2.2.2.2.2.1 _ _ hat) ?_
  refine lv_iload S.1 S.2.1 (S.2.2.2.2.2.2.2.2.1 _ _ hat1) (hl.get hL) ?_
  refine cs_callV (tl := fun _ => [.int x]) (rest := st.map (am_cv al)) S hS hl.1 hat2 (by rw [hy]; exact lk6_66) myJ0_charAt_5068e vxJ0_charAt_5068e rfl (cs_charAt x h0 h1 hin) rfl (by rw [am_catsum]; exact hcat) ⟨hR.1, hR.2⟩ hf ?_
  exact kk p l e s m args below meth c H locs ls D dA ad al al0 n0 A S hkap hal hP hD hS hl
