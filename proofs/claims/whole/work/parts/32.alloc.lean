/-! ===== new cells ===== -/
def am_vk (n n' : Nat) : Value → Bool
  | .ref k => decide (k < n ∨ n' ≤ k)
  | _ => true
def am_lk2 (n n' : Nat) : List (Option Value) → Bool
  | [] => true
  | none :: L => am_lk2 n n' L
  | some v :: L => am_vk n n' v && am_lk2 n n' L
/-- no cell holds a reference to the numbers from n up to n' -/
def am_ql (n n' : Nat) (Q : am_Q) : Prop := ∀ k j r, Q k j = some r → r < n ∨ n' ≤ r
theorem am_cv_ag {al al' : Nat → Nat} {n n' : Nat} (h : ∀ k, k < n ∨ n' ≤ k → al' k = al k) {v : Value} (hv : am_vk n n' v = true) : am_cv al' v = am_cv al v := by
  cases v with
  | ref k =>
    have hk : k < n ∨ n' ≤ k := by simpa [am_vk] using hv
    show Value.ref _ = Value.ref _
    rw [h k hk]
  | _ => rfl
theorem am_st_ag {al al' : Nat → Nat} {n n' : Nat} (h : ∀ k, k < n ∨ n' ≤ k → al' k = al k) {st : List Value} (hv : st.all (am_vk n n') = true) : st.map (am_cv al') = st.map (am_cv al) :=
  List.map_congr_left fun v hm => am_cv_ag h (List.all_eq_true.mp hv v hm)
theorem am_ll_ag {al al' : Nat → Nat} {n n' : Nat} (h : ∀ k, k < n ∨ n' ≤ k → al' k = al k) : ∀ (L : List (Option Value)) (i : Nat), am_lk2 n n' L = true → am_ll al' i L = am_ll al i L
  | [], _, _ => rfl
  | none :: L, i, hL => am_ll_ag h L (i + 1) hL
  | some v :: L, i, hL => by
    have hL2 : am_vk n n' v = true ∧ am_lk2 n n' L = true := by simpa [am_lk2] using hL
    rw [am_ll, am_ll, am_cv_ag h hL2.1, am_ll_ag h L (i + 1) hL2.2]
theorem am_H_ag {al al' : Nat → Nat} {n n' : Nat} (h : ∀ k, k < n ∨ n' ≤ k → al' k = al k) {ls : Array Slot} {nL : Nat} {L : List (Option Value)} (hL : am_lk2 n n' L = true) (hl : am_H ls nL al L) : am_H ls nL al' L := by
  unfold am_H
  rw [am_ll_ag h L 0 hL]
  exact hl
theorem am_map_ag {al al' : Nat → Nat} {n n' : Nat} (h : ∀ k, k < n ∨ n' ≤ k → al' k = al k) {o : Option Nat} (ho : ∀ r, o = some r → r < n ∨ n' ≤ r) : o.map al' = o.map al := by
  cases o with
  | none => rfl
  | some r => simp [h r (ho r rfl)]
theorem am_en_ag {dA : Nat → ClassId} {al al' : Nat → Nat} {n n' : Nat} (h : ∀ k, k < n ∨ n' ≤ k → al' k = al k) {k : Nat} {i : Nat → Int32} {j : Nat → Int64} {q : Nat → Option Nat} (hq : ∀ a r, q a = some r → r < n ∨ n' ≤ r) : am_en dA al' k i j q = am_en dA al k i j q := by
  unfold am_en
  cases am_lay k with
  | inl c =>
    have hf : am_fs al' c i q = am_fs al c i q := by
      unfold am_fs
      refine List.map_congr_left fun a _ => ?_
      rw [am_map_ag h (hq a)]
    simp only [hf]
  | inr t =>
    obtain ⟨t, len⟩ := t
    have hf : (fun a => (q a).map al') = fun a => (q a).map al := funext fun a => am_map_ag h (hq a)
    simp only [hf]
theorem am_ws_new {dA : Nat → ClassId} {al : Nat → Nat} {n a : Nat} {I : am_I} {J : am_J} {Q : am_Q} (i : Nat → Int32) (j : Nat → Int64) (q : Nat → Option Nat) (hQ : am_ql n (n + 1) Q) (hq : ∀ b r, q b = some r → r < n ∨ n + 1 ≤ r) : am_ws dA (va_up al n a) (n + 1) (va_up I n i) (va_up J n j) (va_up Q n q) = am_ws dA al n I J Q ++ [(a, am_en dA al n i j q)] := by
  have hal : ∀ k, k < n ∨ n + 1 ≤ k → va_up al n a k = al k := fun k hk => by
    have : ¬ k = n := by omega
    simp [va_up, this]
  unfold am_ws
  rw [List.range_succ, List.map_append]
  congr 1
  · refine List.map_congr_left fun k hk => ?_
    have hkn : k < n := List.mem_range.mp hk
    have hne : ¬ k = n := by omega
    rw [hal k (Or.inl hkn)]
    have e1 : va_up I n i k = I k := by simp [va_up, hne]
    have e2 : va_up J n j k = J k := by simp [va_up, hne]
    have e3 : va_up Q n q k = Q k := by simp [va_up, hne]
    rw [e1, e2, e3, am_en_ag hal (fun b r h => hQ k b r h)]
  · simp only [List.map_cons, List.map_nil]
    have e0 : va_up al n a n = a := by simp [va_up]
    have e1 : va_up I n i n = i := by simp [va_up]
    have e2 : va_up J n j n = j := by simp [va_up]
    have e3 : va_up Q n q n = q := by simp [va_up]
    rw [e0, e1, e2, e3, am_en_ag hal hq]
theorem am_dflt {c : Nat} (hc : c < 11) : ∀ j, j < am_nf c → defaultValue (am_ty c j) = if am_rf c j = true then .null else .int 0 := by
  match c, hc with
  | 0, _ => decide +kernel
  | 1, _ => decide +kernel
  | 2, _ => decide +kernel
  | 3, _ => decide +kernel
  | 4, _ => decide +kernel
  | 5, _ => decide +kernel
  | 6, _ => decide +kernel
  | 7, _ => decide +kernel
  | 8, _ => decide +kernel
  | 9, _ => decide +kernel
  | 10, _ => decide +kernel
  | k + 11, h => exact absurd h (by omega)
section New
variable {y : am_MD} {o : am_O} {kc ks n pc q idx ci : Nat} {L : List (Option Value)} {st : List Value} {I : am_I} {J : am_J} {Q : am_Q}
theorem gd_new (hat : am_at y pc = some (.new idx, 3)) (hq : pc + 3 = q) (hly : am_lay n = .inl ci) (hci : ci < 11) (hcl : Cond.classLink (am_cn y.1) idx (am_cn ci) ∈ lw_tbl) (hin : Cond.instantiable (am_cn ci) (am_nf ci) ∈ lw_tbl) (hini : Cond.initialized (am_cn ci) ∈ lw_tbl) (hQ : am_ql n (n + 1) Q) (hL : am_lk2 n (n + 1) L = true) (hst : st.all (am_vk n (n + 1)) = true) (hf : kc + 1 ≤ o.1.cells ∧ ks + am_nf ci ≤ o.1.slots)
    (kk : Gd y o (kc + 1) (ks + am_nf ci) (n + 1) q L (.ref n :: st) (va_up I n (fun _ => 0)) J (va_up Q n (fun _ => none))) : Gd y o kc ks n pc L st I J Q := by
  subst hq
  intro p l e s m args below meth c H locs ls D dA ad al al0 n0 A S hkap hal hP hD hS hl
  obtain ⟨r0, hr0, hr1⟩ : ∃ r0 : vw_C, vwCl[ci]? = some r0 ∧ r0.1 = am_cn ci := am_cls hci
  have hnf := am_nf_ok hr0
  have hts := S.2.2.2.2.2.2.2.1
  refine va_new (ci := ci) (C := r0.1) (T := r0.2.1) (N := r0.2.2) (fs := am_fs al ci (fun _ => 0) (fun _ => none)) S.1 S.2.1 hts (am_in hr0) (am_ty ci) (am_ty_ok hr0) S.2.2.2.2.2.2.1 (by rw [hr1]; exact hts _ (am_G_in hcl rfl)) (by rw [hr1, hnf]; exact hts _ (am_G_in hin rfl)) (by rw [hr1]; exact hts _ (am_G_in hini rfl)) S.2.2.2.2.2.2.2.2.2.1.1 hP hD hS S.2.2.2.2.2.2.2.2.2.2 hr0 (fun j hj => ?_) hf.1 (by rw [hnf]; exact hf.2) (S.2.2.2.2.2.2.2.2.1 _ _ hat) (fun a H1 hP1 hD1 hS1 => ?_)
  · rw [am_dflt hci j (by rw [← hnf]; exact hj)]
    unfold vp_V
    rw [List.getD_eq_getElem?_getD, am_fs_at (by rw [← hnf]; exact hj)]
    split <;> rfl
  · have hag : ∀ k, k < n ∨ n + 1 ≤ k → va_up al n a k = al k := fun k hk => by
      have : ¬ k = n := by omega
      simp [va_up, this]
    have hen : am_en dA al n (fun _ => 0) (J n) (fun _ => none) = .inr (ci, am_fs al ci (fun _ => 0) (fun _ => none)) := by rw [am_en, hly]
    have hw := am_ws_new (dA := dA) (al := al) (a := a) (I := I) (J := J) (Q := Q) (fun _ => 0) (J n) (fun _ => none) hQ (fun b r h => by cases h)
    rw [am_up_id, hen] at hw
    rw [hnf]
    have h := kk p l e s m args below meth c H1 locs ls D dA ad (va_up al n a) al0 n0 A S hkap ⟨fun k hk => (hag k (by omega)).trans (hal.1 k (by omega)), by omega⟩ (by rw [hw]; exact hP1) (by rw [hw]; exact hD1) hS1 (am_H_ag hag hL hl)
    rw [List.map_cons, am_st_ag hag hst] at h
    have e0 : am_cv (va_up al n a) (.ref n) = .ref a := by simp [am_cv, va_up]
    rw [e0] at h
    exact h
end New
theorem am_RA_fun {s : State} {a b : ClassId} {ty : FieldType} (h1 : va_RA s a ty) (h2 : va_RA s b ty) : a = b := by
  cases ty with
  | object C =>
    obtain ⟨_, _, -, -, -, h1⟩ := h1
    obtain ⟨_, _, -, -, -, h2⟩ := h2
    exact Option.some.inj (h1.symm.trans h2)
  | _ => exact Option.some.inj (h1.symm.trans h2)
section New2
variable {y y' : am_MD} {o : am_O} {kc ks n pc q idx t len : Nat} {L : List (Option Value)} {st : List Value} {I : am_I} {J : am_J} {Q : am_Q}
theorem gd_newarr {x : Int32} {at' : ArrayType} {ty : FieldType} (hat : am_at y pc = some (.newarray at', 2)) (hq : pc + 2 = q) (hly : am_lay n = .inr (t, len)) (hty : newarray.typeOf at' = ty) (htt : ∀ dA : Nat → ClassId, (am_tys dA)[t]? = some (dA t, ty)) (hw : Cond.arrayClass ty ∈ lw_tbl) (hx0 : ¬ x < 0) (hxl : x.toNatClampNeg = len) (hcell : ∀ cA : ClassId, vp_cell cA (len, if t = 4 then .inr (.inl (fun _ => 0)) else if t = 5 then .inr (.inr (.inr (.inr (fun _ => none)))) else .inl (fun _ => 0)) = arrV cA len (fun _ => defaultValue ty)) (hbytes : len * componentBytes ty ≤ 536870912) (hQ : am_ql n (n + 1) Q) (hL : am_lk2 n (n + 1) L = true) (hst : st.all (am_vk n (n + 1)) = true) (hf : kc + 1 ≤ o.1.cells ∧ ks + len ≤ o.1.slots)
    (kk : Gd y o (kc + 1) (ks + len) (n + 1) q L (.ref n :: st) (va_up I n (fun _ => 0)) (va_up J n (fun _ => 0)) (va_up Q n (fun _ => none))) : Gd y o kc ks n pc L (.int x :: st) I J Q := by
  subst hq
  intro p l e s m args below meth c H locs ls D dA ad al al0 n0 A S hkap hal hP hD hS hl
  have hts := S.2.2.2.2.2.2.2.1
  have hK := S.2.2.2.2.2.2.2.2.2.1.1
  refine va_newa S.1 S.2.1 (hts _ (am_G_in (hty ▸ hw) rfl)) hty hK hP hD hS S.2.2.2.2.2.2.2.2.2.2 hcell hx0 hxl hbytes hf.1 hf.2 (S.2.2.2.2.2.2.2.2.1 _ _ hat) (fun a cA H1 hK1 hP1 hD1 hS1 => ?_)
  have hcA : cA = dA t := am_RA_fun (hK1.2 (am_tys dA).length (cA, ty) (by simp)).2 (hK.2 t _ (htt dA)).2
  subst hcA
  have hag : ∀ k, k < n ∨ n + 1 ≤ k → va_up al n a k = al k := fun k hk => by
    have : ¬ k = n := by omega
    simp [va_up, this]
  have hen : am_en dA al n (fun _ => 0) (fun _ => 0) (fun _ => none) = .inl (dA t, len, if t = 4 then .inr (.inl (fun _ => 0)) else if t = 5 then .inr (.inr (.inr (.inr (fun _ => none)))) else .inl (fun _ => 0)) := by rw [am_en, hly]; rfl
  have hw := am_ws_new (dA := dA) (al := al) (a := a) (I := I) (J := J) (Q := Q) (fun _ => 0) (fun _ => 0) (fun _ => none) hQ (fun b r h => by cases h)
  rw [hen] at hw
  have h := kk p l e s m args below meth c H1 locs ls D dA ad (va_up al n a) al0 n0 A S hkap ⟨fun k hk => (hag k (by omega)).trans (hal.1 k (by omega)), by omega⟩ (by rw [hw]; exact hP1) (by rw [hw]; exact hD1) hS1 (am_H_ag hag hL hl)
  rw [List.map_cons, am_st_ag hag hst] at h
  have e0 : am_cv (va_up al n a) (.ref n) = .ref a := by simp [am_cv, va_up]
  rw [e0] at h
  exact h
theorem gd_anew {x : Int32} (hat : am_at y pc = some (.anewarray idx, 3)) (hq : pc + 3 = q) (hly : am_lay n = .inr (5, len)) (hcl : Cond.classLink (am_cn y.1) idx "TapeHouse$Consent" ∈ lw_tbl) (hx0 : ¬ x < 0) (hxl : x.toNatClampNeg = len) (hbytes : len * 4 ≤ 536870912) (hQ : am_ql n (n + 1) Q) (hL : am_lk2 n (n + 1) L = true) (hst : st.all (am_vk n (n + 1)) = true) (hf : kc + 1 ≤ o.1.cells ∧ ks + len ≤ o.1.slots)
    (kk : Gd y o (kc + 1) (ks + len) (n + 1) q L (.ref n :: st) (va_up I n (fun _ => 0)) (va_up J n (fun _ => 0)) (va_up Q n (fun _ => none))) : Gd y o kc ks n pc L (.int x :: st) I J Q := by
  subst hq
  intro p l e s m args below meth c H locs ls D dA ad al al0 n0 A S hkap hal hP hD hS hl
  have hts := S.2.2.2.2.2.2.2.1
  have hK := S.2.2.2.2.2.2.2.2.2.1.1
  refine va_newq (C := "TapeHouse$Consent") S.1 S.2.1 S.2.2.2.2.2.2.1 (hts _ (am_G_in hcl rfl)) S.2.2.2.2.2.2.2.2.2.1.2.2.1 hK hP hD hS S.2.2.2.2.2.2.2.2.2.2 hx0 hxl hbytes hf.1 hf.2 (S.2.2.2.2.2.2.2.2.1 _ _ hat) (fun a cA H1 hK1 hP1 hD1 hS1 => ?_)
  have hcA : cA = dA 5 := am_RA_fun (hK1.2 (am_tys dA).length (cA, _) (by simp)).2 (hK.2 5 _ rfl).2
  subst hcA
  have hag : ∀ k, k < n ∨ n + 1 ≤ k → va_up al n a k = al k := fun k hk => by
    have : ¬ k = n := by omega
    simp [va_up, this]
  have hen : am_en dA al n (fun _ => 0) (fun _ => 0) (fun _ => none) = .inl (dA 5, len, .inr (.inr (.inr (.inr (fun _ => none))))) := by rw [am_en, hly]; rfl
  have hw := am_ws_new (dA := dA) (al := al) (a := a) (I := I) (J := J) (Q := Q) (fun _ => 0) (fun _ => 0) (fun _ => none) hQ (fun b r h => by cases h)
  rw [hen] at hw
  have h := kk p l e s m args below meth c H1 locs ls D dA ad (va_up al n a) al0 n0 A S hkap ⟨fun k hk => (hag k (by omega)).trans (hal.1 k (by omega)), by omega⟩ (by rw [hw]; exact hP1) (by rw [hw]; exact hD1) hS1 (am_H_ag hag hL hl)
  rw [List.map_cons, am_st_ag hag hst] at h
  have e0 : am_cv (va_up al n a) (.ref n) = .ref a := by simp [am_cv, va_up]
  rw [e0] at h
  exact h
theorem gd_objInit {b : Nat} (hat : am_at y pc = some (.invokespecial idx, 3)) (hq : pc + 3 = q) (hlk : Cond.methodLink (am_cn y.1) idx Lib.objectInit ∈ lw_tbl) (hin : Cond.instanceMethod Lib.objectInit ∈ lw_tbl) (hco : Cond.code Lib.objectInit ⟨#[0xb1]⟩ 1 none ∈ lw_tbl) (hR : 1 ≤ o.1.frames ∧ (st.map fun v => v.category).sum + 12 ≤ o.1.locals) (kk : Gd y o kc ks n q L st I J Q) : Gd y o kc ks n pc L (.ref b :: st) I J Q := by
  subst hq
  intro p l e s m args below meth c H locs ls D dA ad al al0 n0 A S hkap hal hP hD hS hl
  have hts := S.2.2.2.2.2.2.2.1
  refine W.objInit S.1 S.2.1 S.2.2.2.2.2.2.1 (hts _ (am_G_in hlk rfl)) (hts _ (am_G_in hin rfl)) (hts _ (am_G_in hco rfl)) rfl (hl.1.trans S.2.2.1.symm) rfl (S.2.2.2.2.2.2.2.2.1 _ _ hat) hR.1 ?_ ?_
  · have : 2 * (F0 m pc ls (am_cv al (.ref b) :: st.map (am_cv al))).monitorRoom = 0 := rfl
    rw [am_catsum]
    show 2 * (F0 m pc ls (am_cv al (.ref b) :: st.map (am_cv al))).monitorRoom + _ + 12 ≤ _
    omega
  · exact kk p l e s m args below meth c H locs ls D dA ad al al0 n0 A S hkap hal hP hD hS hl
/-- a constructor's call -/
theorem gd_callI {d' mc' ms' pn b n' : Nat} {nb : Bool} {As rest : List Value} {I' : am_I} {J' : am_J} {Q' : am_Q} (hat : am_at y pc = some (.invokespecial idx, 3)) (hq : pc + 3 = q) (hlk : am_lk y.1 idx nb y') (hm : am_my y' pn) (hv : am_in0 y') (hret : y'.2.2.2.2.1 = none) (hc : Cm y' d' mc' ms' n (.ref b :: As) I J Q (none, n', I', J', Q')) (hst : st = As.reverse ++ .ref b :: rest) (hn : As.length = pn) (hcat : (rest.map fun v => v.category).sum ≤ 8) (hR : d' + 1 ≤ o.1.frames ∧ 8 + (y'.2.2.2.1 + 11) + 40 * d' ≤ o.1.locals) (hf : kc + mc' ≤ o.1.cells ∧ ks + ms' ≤ o.1.slots) (hL : am_lk2 n n' L = true) (hrs : rest.all (am_vk n n') = true)
    (kk : Gd y o (kc + mc') (ks + ms') n' q L rest I' J' Q') : Gd y o kc ks n pc L st I J Q := by
  subst hq; subst hst
  intro p l e s m args below meth c H locs ls D dA ad al al0 n0 A S hkap hal hP hD hS hl
  have hpre := am_pre (av := .ref b :: As) S hP hD hS
  have hrun : va_Run p l e o.1 s m args below meth c H locs kc ks mc' ms' (F0 m pc ls ((As.reverse ++ .ref b :: rest).map (am_cv al))) (rest.map (am_cv al)) (am_Qc D dA (va_A (am_ws dA al n I J Q) H.size) al n (none, n', I', J', Q') (Value.ref (al b) :: As.map (am_cv al)).toArray) (va_A (am_ws dA al n I J Q) H.size) := by
    cases nb with
    | false =>
      have hb := am_callB (d' := d') (mc' := mc') (ms' := ms') S hm hlk hR
      rw [hret] at hb
      exact va_runI (As := As.map (am_cv al)) ⟨S.1, S.2.1, S.2.2.1, S.2.2.2.2.2.2.1, S.2.2.2.2.2.2.2.1⟩ (hc l D dA ad al H.size) ⟨hb, hv.2, S.2.2.2.2.2.2.2.1 _ (am_G_in hv.1 rfl)⟩ hpre rfl (by rw [List.length_map]; exact hn) hl.1 (am_stk al As (.ref b :: rest)) (lv_room (by rw [am_catsum]; exact hcat)) (S.2.2.2.2.2.2.2.2.1 _ _ hat) hf
    | true =>
      have hb := am_callN (d' := d') (mc' := mc') (ms' := ms') S hm hlk hR
      rw [hret] at hb
      exact va_runIN (As := As.map (am_cv al)) ⟨S.1, S.2.1, S.2.2.1, S.2.2.2.2.2.2.1, S.2.2.2.2.2.2.2.1⟩ (hc l D dA ad al H.size) ⟨hb, hv.2, S.2.2.2.2.2.2.2.1 _ (am_G_in hv.1 rfl)⟩ hpre rfl (by rw [List.length_map]; exact hn) hl.1 (am_stk al As (.ref b :: rest)) (lv_room (by rw [am_catsum]; exact hcat)) (S.2.2.2.2.2.2.2.2.1 _ _ hat) hf
  refine am_after hrun hS (am_sub hD hS S.2.2.2.2.2.2.2.2.2.2) (fun al' H1 locs1 ha hnn hP1 hD1 hS1 => ?_)
  have h := kk p l e s m args below meth c H1 locs1 ls D dA ad al' al0 n0 A S hkap ⟨fun k hk => (ha k (by rcases hk with h | h; exact Or.inl (Nat.lt_of_lt_of_le h hal.2); exact Or.inr h)).trans (hal.1 k (by rcases hk with h | h; exact Or.inl h; exact Or.inr (Nat.le_trans hnn h))), Nat.le_trans hal.2 hnn⟩ hP1 hD1 hS1 (am_H_ag ha hL hl)
  rw [am_st_ag ha hrs] at h
  exact h
end New2
