/-! ===== a method's contract out of its walk; calls; ends; new cells ===== -/
theorem am_e0_len (al : Nat → Nat) (vs : List Value) : (am_e0 (vs.map (am_cv al))).length = (am_e0 vs).length := by
  induction vs with
  | nil => rfl
  | cons v vs ih =>
    rw [List.map_cons]
    unfold am_e0
    rw [am_cv_cat]
    split <;> simp [ih]
theorem cm_of {y : am_MD} {d mc ms n : Nat} {av : List Value} {I : am_I} {J : am_J} {Q : am_Q} {r : am_R} (hpl : plainName y.2.1.cls = true) (hcn : y.2.1.cls = am_cn y.1) (hdec : (y.2.2.2.2.2).all (fun e => decide (decode y.2.2.1 e.1 = .ok e.2)) = true) (hlen : (am_e0 av).length ≤ y.2.2.2.1)
    (h : Gd y (am_o d mc ms r) 0 0 n 0 (am_l0 y av) [] I J Q) : Cm y d mc ms n av I J Q r := by
  intro l D dA ad al sz
  refine Met.ofW (cc := y.2.2.1) (maxL := y.2.2.2.1) (ret := y.2.2.2.2.1) hpl rfl ?_
  intro p e s m args below meth c s₁ B hml hv
  obtain ⟨hargs, hsz, hP, hD0, hC⟩ := hv
  subst hargs
  have hts := atoms_spec (ws := am_ww y) B.pre
  have hS0 : am_S y p s m (av.map (am_cv al)).toArray meth c D dA ad (va_A (am_ws dA al n I J Q) sz) := by
    refine ⟨B.exec, B.bytes, hml, B.returns, B.notSynchronized, fun h => (name_of_methodNamed B.named B.method).1.trans h, ?_, fun w hw => hts w (List.mem_cons_of_mem _ hw), fun pc q hq => ?_, hC, fun q h => Or.inr (by rw [← hsz]; exact h)⟩
    · rw [← hcn]
      exact findClass_of_methodNamed B.named
    · have h1 := List.all_eq_true.mp hdec _ (am_lookup hq)
      exact of_decide_eq_true h1
  have hl := lv_entry (av.map (am_cv al)) (n := y.2.2.2.1) (by rw [am_sl_len, am_e0_len]; exact hlen)
  rw [lg_entry_eq]
  exact h p l e s m _ below meth c s.heap [] _ D dA ad al al n _ hS0 trivial ⟨fun _ _ => rfl, Nat.le_refl _⟩ hP hD0.self va_S.rf (am_H0 hl)
section Ends
variable {y : am_MD} {d mc ms kc ks n pc : Nat} {L : List (Option Value)} {I : am_I} {J : am_J} {Q : am_Q} {r : am_R}
theorem gd_ireturn {x : Int32} {ty : FieldType} (hat : am_at y pc = some (.ireturn, 1)) (hty : y.2.2.2.2.1 = some ty) (hn : narrow ty (.int x) = .int x) (hkc : kc ≤ mc) (hks : ks ≤ ms) (hr : r = (some (.int x), n, I, J, Q)) : Gd y (am_o d mc ms r) kc ks n pc L [.int x] I J Q := by
  subst hr
  intro p l e s m args below meth c H locs ls D dA ad al al0 n0 A S hkap hal hP hD hS hl
  refine W.widen hkc hks ?_
  exact W.zret S.1 S.2.1 (S.2.2.2.1.trans hty) hn (fun t ht _ => ⟨⟨al, hal.1, hal.2, rfl, by rw [ht]; exact hP, hD⟩, hS.F ht⟩) hS.2.2 (S.2.2.2.2.2.2.2.2.1 _ _ hat) S.2.2.2.2.1
theorem gd_lreturn {x : Int64} (hat : am_at y pc = some (.lreturn, 1)) (hty : y.2.2.2.2.1 = some .long) (hkc : kc ≤ mc) (hks : ks ≤ ms) (hr : r = (some (.long x), n, I, J, Q)) : Gd y (am_o d mc ms r) kc ks n pc L [.long x] I J Q := by
  subst hr
  intro p l e s m args below meth c H locs ls D dA ad al al0 n0 A S hkap hal hP hD hS hl
  refine W.widen hkc hks ?_
  exact W.lret S.1 S.2.1 (S.2.2.2.1.trans hty) (fun t ht _ => ⟨⟨al, hal.1, hal.2, rfl, by rw [ht]; exact hP, hD⟩, hS.F ht⟩) hS.2.2 (S.2.2.2.2.2.2.2.2.1 _ _ hat) S.2.2.2.2.1
theorem gd_return (hat : am_at y pc = some (.return_, 1)) (hty : y.2.2.2.2.1 = none) (hkc : kc ≤ mc) (hks : ks ≤ ms) (hr : r = (none, n, I, J, Q)) : Gd y (am_o d mc ms r) kc ks n pc L [] I J Q := by
  subst hr
  intro p l e s m args below meth c H locs ls D dA ad al al0 n0 A S hkap hal hP hD hS hl
  refine W.widen hkc hks ?_
  exact W.vret S.1 S.2.1 (S.2.2.2.1.trans hty) (fun t ht _ => ⟨⟨al, hal.1, hal.2, rfl, by rw [ht]; exact hP, hD⟩, hS.F ht⟩) hS.2.2 (S.2.2.2.2.2.2.2.2.1 _ _ hat) S.2.2.2.2.1
theorem gd_areturn {k : Nat} {cl : String} (hat : am_at y pc = some (.areturn, 1)) (hty : y.2.2.2.2.1 = some (.object cl)) (hkc : kc ≤ mc) (hks : ks ≤ ms) (hr : r = (some (.ref k), n, I, J, Q)) : Gd y (am_o d mc ms r) kc ks n pc L [.ref k] I J Q := by
  subst hr
  intro p l e s m args below meth c H locs ls D dA ad al al0 n0 A S hkap hal hP hD hS hl
  refine W.widen hkc hks ?_
  exact W.aret S.1 S.2.1 (S.2.2.2.1.trans hty) (Or.inl ⟨_, rfl⟩) (Or.inr ⟨_, rfl⟩) (fun t ht _ => ⟨⟨al, hal.1, hal.2, rfl, by rw [ht]; exact hP, hD⟩, hS.F ht⟩) hS.2.2 (S.2.2.2.2.2.2.2.2.1 _ _ hat) S.2.2.2.2.1
theorem gd_areturnN {cl : String} (hat : am_at y pc = some (.areturn, 1)) (hty : y.2.2.2.2.1 = some (.object cl)) (hkc : kc ≤ mc) (hks : ks ≤ ms) (hr : r = (some .null, n, I, J, Q)) : Gd y (am_o d mc ms r) kc ks n pc L [.null] I J Q := by
  subst hr
  intro p l e s m args below meth c H locs ls D dA ad al al0 n0 A S hkap hal hP hD hS hl
  refine W.widen hkc hks ?_
  exact W.aret S.1 S.2.1 (S.2.2.2.1.trans hty) (Or.inl ⟨_, rfl⟩) (Or.inl rfl) (fun t ht _ => ⟨⟨al, hal.1, hal.2, rfl, by rw [ht]; exact hP, hD⟩, hS.F ht⟩) hS.2.2 (S.2.2.2.2.2.2.2.2.1 _ _ hat) S.2.2.2.2.1
end Ends
/-! calls -/
def am_my (y : am_MD) (pn : Nat) : Prop := Cond.code y.2.1 y.2.2.1 y.2.2.2.1 y.2.2.2.2.1 ∈ lw_tbl ∧ Cond.initialized y.2.1.cls ∈ lw_tbl ∧ y.2.1.cls ≠ "java/lang/invoke/MethodHandle" ∧ y.2.1.cls ≠ "java/lang/invoke/VarHandle" ∧ (parseMethodDescriptor y.2.1.desc).map (fun d => d.parameters.length) = some pn
def am_vi (y : am_MD) : Prop := Cond.instanceMethod y.2.1 ∈ lw_tbl ∧ Cond.selects y.2.1.cls y.2.1 y.2.1 ∈ lw_tbl
def am_in0 (y : am_MD) : Prop := Cond.instanceMethod y.2.1 ∈ lw_tbl ∧ y.2.1.name = "<init>"
def am_sta (y : am_MD) : Prop := Cond.static y.2.1 ∈ lw_tbl
def am_lk (oc idx : Nat) (nb : Bool) (y : am_MD) : Prop := (if nb = true then Cond.methodLinkNest (am_cn oc) idx y.2.1 "TapeHouse" else Cond.methodLink (am_cn oc) idx y.2.1) ∈ lw_tbl
theorem am_good {y : am_MD} {pn : Nat} (h : am_my y pn) : GoodIn am_G (am_ww y) := by
  intro w hw
  rcases List.mem_cons.mp hw with rfl | hw
  · exact ⟨am_G_in h.1 rfl, good_of_word rfl⟩
  · exact ⟨hw, good_of_word (List.mem_filter.mp hw).2⟩
theorem am_callB {y y' : am_MD} {R : Room} {p : Program} {s : State} {m : MethodId} {args : Array Value} {meth : Method} {c : Code} {D : va_G} {dA : Nat → ClassId} {ad : am_AD} {A : Nat → Prop} {idx d' mc' ms' pn : Nat} (S : am_S y p s m args meth c D dA ad A) (hm : am_my y' pn) (hlk : am_lk y.1 idx false y') (hR : d' + 1 ≤ R.frames ∧ 8 + (y'.2.2.2.1 + 11) + 40 * d' ≤ R.locals) :
    CallB R s args (am_cn y.1) idx y'.2.1 y'.2.2.1 y'.2.2.2.1 y'.2.2.2.2.1 (am_ww y') (am_rm d' mc' ms') mc' ms' pn :=
  callB_of pn S.2.2.2.2.2.2.2.1 (am_good hm) rfl rfl rfl (S.2.2.2.2.2.2.2.1 _ (am_G_in hm.2.1 rfl)) (S.2.2.2.2.2.2.2.1 _ (am_G_in (by simpa [am_lk] using hlk) rfl)) hm.2.2 hR
theorem am_callN {y y' : am_MD} {R : Room} {p : Program} {s : State} {m : MethodId} {args : Array Value} {meth : Method} {c : Code} {D : va_G} {dA : Nat → ClassId} {ad : am_AD} {A : Nat → Prop} {idx d' mc' ms' pn : Nat} (S : am_S y p s m args meth c D dA ad A) (hm : am_my y' pn) (hlk : am_lk y.1 idx true y') (hR : d' + 1 ≤ R.frames ∧ 8 + (y'.2.2.2.1 + 11) + 40 * d' ≤ R.locals) :
    va_CN R s args (am_cn y.1) idx y'.2.1 "TapeHouse" y'.2.2.1 y'.2.2.2.1 y'.2.2.2.2.1 (am_ww y') (am_rm d' mc' ms') mc' ms' pn :=
  va_cnB pn S.2.2.2.2.2.2.2.1 (am_good hm) rfl rfl rfl (S.2.2.2.2.2.2.2.2.2.1.2.1 _ (am_N_in (by simpa [am_lk] using hlk) rfl)) (S.2.2.2.2.2.2.2.1 _ (am_G_in hm.2.1 rfl)) hm.2.2 hR
theorem am_sub {dA : Nat → ClassId} {al : Nat → Nat} {n : Nat} {I : am_I} {J : am_J} {Q : am_Q} {A : Nat → Prop} {H0 H : Heap} {locs : List Loc} (hD : va_D A (am_ws dA al n I J Q)) (hS : va_S A H0 H locs) (hA : ∀ q, H0.size ≤ q → A q) : ∀ q, va_A (am_ws dA al n I J Q) H.size q → A q := by
  rintro q (⟨k, e, h⟩ | h)
  · exact hD.2 k _ h
  · exact hA q (Nat.le_trans hS.1 h)
theorem am_pre {y : am_MD} {p : Program} {s : State} {m : MethodId} {args : Array Value} {meth : Method} {c : Code} {H : Heap} {locs : List Loc} {D : va_G} {dA : Nat → ClassId} {ad : am_AD} {A : Nat → Prop} {al : Nat → Nat} {n : Nat} {I : am_I} {J : am_J} {Q : am_Q} {av : List Value} (S : am_S y p s m args meth c D dA ad A) (hP : va_P D vwCl (am_ws dA al n I J Q) H) (hD : va_D A (am_ws dA al n I J Q)) (hS : va_S A s.heap H locs) :
    FrameBlind (va_Pc (av.map (am_cv al)) (fun U => U.heap.size = H.size ∧ va_P D vwCl (am_ws dA al n I J Q) U.heap ∧ va_D (fun _ => True) (am_ws dA al n I J Q) ∧ am_C D dA ad (va_A (am_ws dA al n I J Q) H.size) U)) ∧
    ∀ U : State, U.heap = H → s.WarmedH U.vm → va_Pc (av.map (am_cv al)) (fun U => U.heap.size = H.size ∧ va_P D vwCl (am_ws dA al n I J Q) U.heap ∧ va_D (fun _ => True) (am_ws dA al n I J Q) ∧ am_C D dA ad (va_A (am_ws dA al n I J Q) H.size) U) (av.map (am_cv al)).toArray U := by
  refine ⟨fun a U g mk h => ⟨h.1, h.2.1, h.2.2.1, h.2.2.2.1, h.2.2.2.2.calling⟩, fun U hU hW => ⟨rfl, by rw [hU], by rw [hU]; exact hP, hD.weaken (fun _ _ _ _ => trivial), ?_⟩⟩
  exact S.2.2.2.2.2.2.2.2.2.1.callee hS (am_sub hD hS S.2.2.2.2.2.2.2.2.2.2) hU hW
theorem am_after {p : Program} {l : Launch} {e : Env} {R : Room} {s : State} {m : MethodId} {args : Array Value} {below : List Frame} {meth : Method} {c : Code} {H : Heap} {locs : List Loc} {kc ks mc' ms' pc : Nat} {ls : Array Slot} {st0 rest : List Value} {Z : State → Prop} {D : va_G} {dA : Nat → ClassId} {A : Nat → Prop} {al : Nat → Nat} {n : Nat} {I : am_I} {J : am_J} {Q : am_Q} {r : am_R} {a : Array Value}
    (hr : va_Run p l e R s m args below meth c H locs kc ks mc' ms' (F0 m pc ls st0) rest (am_Qc D dA (va_A (am_ws dA al n I J Q) H.size) al n r a) (va_A (am_ws dA al n I J Q) H.size)) (hS : va_S A s.heap H locs) (hA : ∀ q, va_A (am_ws dA al n I J Q) H.size q → A q)
    (kk : ∀ (al' : Nat → Nat) (H1 : Heap) (locs1 : List Loc), (∀ k, k < n ∨ r.2.1 ≤ k → al' k = al k) → n ≤ r.2.1 → va_P D vwCl (am_ws dA al' r.2.1 r.2.2.1 r.2.2.2.1 r.2.2.2.2) H1 → va_D A (am_ws dA al' r.2.1 r.2.2.1 r.2.2.2.1 r.2.2.2.2) → va_S A s.heap H1 locs1 → W p l e R s m args below meth c H1 locs1 (kc + mc') (ks + ms') Z (F0 m (pc + 3) ls ((r.1.map (am_cv al')).toList ++ rest))) : W p l e R s m args below meth c H locs kc ks Z (F0 m pc ls st0) := by
  intro T hT X
  obtain ⟨v, st₀, t, T', L, h0, X', hL, e1, e2, ⟨⟨al', ha1, ha2, hv, hp, hd⟩, hz, hk⟩, st⟩ := hr T hT X
  cases hv
  rw [h0] at hz hk
  obtain ⟨t2, a1, b1⟩ := kk al' T'.heap (locs ++ L) ha1 ha2 (by rw [e1]; exact hp) (hd.weaken (fun _ _ _ h => hA _ h))
    ⟨Nat.le_trans hS.1 (by rw [e1]; exact hz), fun q h1 h2 => by rw [e1, hk q (Nat.lt_of_lt_of_le h1 hS.1) (fun z => h2 (hA q z))]; exact hS.2.1 q h1 h2, fun q hq => by
      rcases List.mem_append.mp hq with h | h
      · exact hS.2.2 q h
      · exact hA _ (hL q h)⟩ T' rfl X'
  exact ⟨t2, st t2 a1, b1⟩
theorem am_catsum (al : Nat → Nat) (st : List Value) : ((st.map (am_cv al)).map fun v => v.category) = st.map fun v => v.category := by
  rw [List.map_map]
  exact List.map_congr_left fun v _ => am_cv_cat al v
theorem am_stk (al : Nat → Nat) (As : List Value) (rest : List Value) : (As.reverse ++ rest).map (am_cv al) = (As.map (am_cv al)).reverse ++ rest.map (am_cv al) := by
  rw [List.map_append, List.map_reverse]
theorem am_cls {ci : Nat} (h : ci < 11) : ∃ r0 : vw_C, vwCl[ci]? = some r0 ∧ r0.1 = am_cn ci := by
  match ci, h with
  | 0, _ => exact ⟨_, rfl, rfl⟩
  | 1, _ => exact ⟨_, rfl, rfl⟩
  | 2, _ => exact ⟨_, rfl, rfl⟩
  | 3, _ => exact ⟨_, rfl, rfl⟩
  | 4, _ => exact ⟨_, rfl, rfl⟩
  | 5, _ => exact ⟨_, rfl, rfl⟩
  | 6, _ => exact ⟨_, rfl, rfl⟩
  | 7, _ => exact ⟨_, rfl, rfl⟩
  | 8, _ => exact ⟨_, rfl, rfl⟩
  | 9, _ => exact ⟨_, rfl, rfl⟩
  | 10, _ => exact ⟨_, rfl, rfl⟩
  | k + 11, h => exact absurd h (by omega)
section Calls
variable {y y' : am_MD} {o : am_O} {kc ks n pc q idx d' mc' ms' pn b ci : Nat} {nb : Bool} {L : List (Option Value)} {As st rest : List Value} {I I' : am_I} {J J' : am_J} {Q Q' : am_Q} {rv : Option Value}
theorem am_same {n : Nat} {al al' : Nat → Nat} (h : ∀ k, k < n ∨ n ≤ k → al' k = al k) : al' = al := funext fun k => h k (Nat.lt_or_ge k n)
theorem gd_callV (hat : am_at y pc = some (.invokevirtual idx, 3)) (hq : pc + 3 = q) (hlk : am_lk y.1 idx nb y') (hm : am_my y' pn) (hv : am_vi y') (hc : Cm y' d' mc' ms' n (.ref b :: As) I J Q (rv, n, I', J', Q')) (hst : st = As.reverse ++ .ref b :: rest) (hb : b < n) (hly : am_lay b = .inl ci) (hci : am_cn ci = y'.2.1.cls) (hci2 : ci < 11) (hn : As.length = pn) (hcat : (rest.map fun v => v.category).sum ≤ 8) (hR : d' + 1 ≤ o.1.frames ∧ 8 + (y'.2.2.2.1 + 11) + 40 * d' ≤ o.1.locals) (hf : kc + mc' ≤ o.1.cells ∧ ks + ms' ≤ o.1.slots)
    (kk : Gd y o (kc + mc') (ks + ms') n q L (rv.toList ++ rest) I' J' Q') : Gd y o kc ks n pc L st I J Q := by
  subst hq; subst hst
  intro p l e s m args below meth c H locs ls D dA ad al al0 n0 A S hkap hal hP hD hS hl
  have hpre := am_pre (av := .ref b :: As) S hP hD hS
  obtain ⟨r0, hr0, hr1⟩ : ∃ r0 : vw_C, vwCl[ci]? = some r0 ∧ r0.1 = am_cn ci := am_cls hci2
  have hrec := va_recv S.2.2.2.2.2.2.2.2.2.1.1 hP hr0 (show (am_ws dA al n I J Q)[b]? = some (al b, .inr (ci, am_fs al ci (I b) (Q b))) by rw [am_ws_at hb, am_en, hly])
  rw [hr1, hci] at hrec
  have hrun : va_Run p l e o.1 s m args below meth c H locs kc ks mc' ms' (F0 m pc ls ((As.reverse ++ .ref b :: rest).map (am_cv al))) (rest.map (am_cv al)) (am_Qc D dA (va_A (am_ws dA al n I J Q) H.size) al n (rv, n, I', J', Q') (Value.ref (al b) :: As.map (am_cv al)).toArray) (va_A (am_ws dA al n I J Q) H.size) := by
    cases nb with
    | false => exact va_runV (As := As.map (am_cv al)) ⟨S.1, S.2.1, S.2.2.1, S.2.2.2.2.2.2.1, S.2.2.2.2.2.2.2.1⟩ (hc l D dA ad al H.size) ⟨am_callB S hm hlk hR, S.2.2.2.2.2.2.2.1 _ (am_G_in hv.1 rfl), S.2.2.2.2.2.2.2.1 _ (am_G_in hv.2 rfl)⟩ ⟨hpre.1, hrec, hpre.2⟩ rfl (by rw [List.length_map]; exact hn) hl.1 (am_stk al As (.ref b :: rest)) (lv_room (by rw [am_catsum]; exact hcat)) (S.2.2.2.2.2.2.2.2.1 _ _ hat) hf
    | true => exact va_runVN (As := As.map (am_cv al)) ⟨S.1, S.2.1, S.2.2.1, S.2.2.2.2.2.2.1, S.2.2.2.2.2.2.2.1⟩ (hc l D dA ad al H.size) ⟨am_callN S hm hlk hR, S.2.2.2.2.2.2.2.1 _ (am_G_in hv.1 rfl), S.2.2.2.2.2.2.2.1 _ (am_G_in hv.2 rfl)⟩ ⟨hpre.1, hrec, hpre.2⟩ rfl (by rw [List.length_map]; exact hn) hl.1 (am_stk al As (.ref b :: rest)) (lv_room (by rw [am_catsum]; exact hcat)) (S.2.2.2.2.2.2.2.2.1 _ _ hat) hf
  refine am_after hrun hS (am_sub hD hS S.2.2.2.2.2.2.2.2.2.2) (fun al' H1 locs1 ha _ hP1 hD1 hS1 => ?_)
  have hal' : al' = al := am_same ha
  subst hal'
  have h := kk p l e s m args below meth c H1 locs1 ls D dA ad al' al0 n0 A S hkap hal hP1 hD1 hS1 hl
  rw [List.map_append, show rv.toList.map (am_cv al') = (rv.map (am_cv al')).toList by cases rv <;> rfl] at h
  exact h
theorem gd_callS (hat : am_at y pc = some (.invokestatic idx, 3)) (hq : pc + 3 = q) (hlk : am_lk y.1 idx nb y') (hm : am_my y' pn) (hv : am_sta y') (hc : Cm y' d' mc' ms' n As I J Q (rv, n, I', J', Q')) (hst : st = As.reverse ++ rest) (hn : As.length = pn) (hcat : (rest.map fun v => v.category).sum ≤ 8) (hR : d' + 1 ≤ o.1.frames ∧ 8 + (y'.2.2.2.1 + 11) + 40 * d' ≤ o.1.locals) (hf : kc + mc' ≤ o.1.cells ∧ ks + ms' ≤ o.1.slots)
    (kk : Gd y o (kc + mc') (ks + ms') n q L (rv.toList ++ rest) I' J' Q') : Gd y o kc ks n pc L st I J Q := by
  subst hq; subst hst
  intro p l e s m args below meth c H locs ls D dA ad al al0 n0 A S hkap hal hP hD hS hl
  have hpre := am_pre (av := As) S hP hD hS
  have hrun : va_Run p l e o.1 s m args below meth c H locs kc ks mc' ms' (F0 m pc ls ((As.reverse ++ rest).map (am_cv al))) (rest.map (am_cv al)) (am_Qc D dA (va_A (am_ws dA al n I J Q) H.size) al n (rv, n, I', J', Q') (As.map (am_cv al)).toArray) (va_A (am_ws dA al n I J Q) H.size) := by
    cases nb with
    | false => exact va_runS (As := As.map (am_cv al)) ⟨S.1, S.2.1, S.2.2.1, S.2.2.2.2.2.2.1, S.2.2.2.2.2.2.2.1⟩ (hc l D dA ad al H.size) ⟨am_callB S hm hlk hR, S.2.2.2.2.2.2.2.1 _ (am_G_in hv rfl)⟩ hpre rfl (by rw [List.length_map]; exact hn) hl.1 (am_stk al As rest) (lv_room (by rw [am_catsum]; exact hcat)) (S.2.2.2.2.2.2.2.2.1 _ _ hat) hf
    | true => exact va_runSN (As := As.map (am_cv al)) ⟨S.1, S.2.1, S.2.2.1, S.2.2.2.2.2.2.1, S.2.2.2.2.2.2.2.1⟩ (hc l D dA ad al H.size) ⟨am_callN S hm hlk hR, S.2.2.2.2.2.2.2.1 _ (am_G_in hv rfl), trivial⟩ hpre rfl (by rw [List.length_map]; exact hn) hl.1 (am_stk al As rest) (lv_room (by rw [am_catsum]; exact hcat)) (S.2.2.2.2.2.2.2.2.1 _ _ hat) hf
  refine am_after hrun hS (am_sub hD hS S.2.2.2.2.2.2.2.2.2.2) (fun al' H1 locs1 ha _ hP1 hD1 hS1 => ?_)
  have hal' : al' = al := am_same ha
  subst hal'
  have h := kk p l e s m args below meth c H1 locs1 ls D dA ad al' al0 n0 A S hkap hal hP1 hD1 hS1 hl
  rw [List.map_append, show rv.toList.map (am_cv al') = (rv.map (am_cv al')).toList by cases rv <;> rfl] at h
  exact h
end Calls
