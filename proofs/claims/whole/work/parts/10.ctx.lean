/-! ===== words, fields, context ===== -/
def am_G : List Cond := lw_tbl.filter goodWord
theorem am_G_in {w : Cond} (h : w ∈ lw_tbl) (hg : goodWord w = true) : w ∈ am_G := List.mem_filter.mpr ⟨h, hg⟩
def am_isN : Cond → Bool
  | .fieldLinkNest .. => true
  | .methodLinkNest .. => true
  | _ => false
def am_N : List Cond := lw_tbl.filter am_isN
theorem am_N_in {w : Cond} (h : w ∈ lw_tbl) (hg : am_isN w = true) : w ∈ am_N := List.mem_filter.mpr ⟨h, hg⟩
theorem am_lookup {α : Type} {a : Nat} {b : α} : ∀ {l : List (Nat × α)}, l.lookup a = some b → (a, b) ∈ l
  | [], h => by simp at h
  | (c, d) :: l, h => by
    rw [List.lookup_cons] at h
    by_cases hc : a = c
    · subst hc
      simp at h
      subst h
      exact List.mem_cons_self
    · have : (a == c) = false := by simpa using hc
      rw [this] at h
      exact List.mem_cons_of_mem _ (am_lookup h)
def am_fl (oc idx : Nat) : Option (Bool × Nat × Nat × Nat) := (am_ft oc).lookup idx
theorem am_fl_ok {oc idx c j ps : Nat} {nb : Bool} (h : am_fl oc idx = some (nb, c, j, ps)) : ∃ q : vw_C, vwCl[c]? = some q ∧ j < q.2.2 ∧ am_fc oc (idx, nb, c, j, ps) q.2.1 ∈ lw_tbl := by
  have h1 := List.all_eq_true.mp (am_ft_ok oc) _ (am_lookup h)
  unfold am_fchk at h1
  cases hq : vwCl[c]? with
  | none => simp only [hq] at h1; cases h1
  | some q =>
    simp only [hq, Bool.and_eq_true, decide_eq_true_eq] at h1
    exact ⟨q, rfl, h1.1, List.mem_of_getElem? h1.2⟩
theorem am_wX0 : ∀ w ∈ u_ws RX0 TX0 3, w ∈ lw_tbl := by decide +kernel
theorem am_wX1 : ∀ w ∈ u_ws RX1 TX1 11, w ∈ lw_tbl := by decide +kernel
theorem am_wX2 : ∀ w ∈ u_ws RX2 TX2 8, w ∈ lw_tbl := by decide +kernel
theorem am_wX3 : ∀ w ∈ u_ws RX3 TX3 7, w ∈ lw_tbl := by decide +kernel
theorem am_wX4 : ∀ w ∈ u_ws RX4 TX4 12, w ∈ lw_tbl := by decide +kernel
theorem am_wX5 : ∀ w ∈ u_ws RX5 TX5 8, w ∈ lw_tbl := by decide +kernel
theorem am_wX6 : ∀ w ∈ u_ws RX6 TX6 6, w ∈ lw_tbl := by decide +kernel
theorem am_wX7 : ∀ w ∈ u_ws RX7 TX7 2, w ∈ lw_tbl := by decide +kernel
theorem am_wX8 : ∀ w ∈ u_ws RX8 TX8 4, w ∈ lw_tbl := by decide +kernel
theorem am_wX9 : ∀ w ∈ u_ws RX9 TX9 13, w ∈ lw_tbl := by decide +kernel
theorem am_wX10 : ∀ w ∈ u_ws RX10 TX10 69, w ∈ lw_tbl := by decide +kernel
theorem am_wgood {C : String} {T : u_T} {N : Nat} {w : Cond} (h : w ∈ u_ws C T N) : goodWord w = true := by
  obtain ⟨k, -, rfl⟩ := List.mem_map.mp h
  unfold u_lay
  split <;> rfl
theorem am_cl_lt {c : Nat} {q : vw_C} (h : vwCl[c]? = some q) : c < 11 := (List.getElem?_eq_some_iff.mp h).1
theorem am_in {c : Nat} {q : vw_C} (h : vwCl[c]? = some q) : ∀ w ∈ u_ws q.1 q.2.1 q.2.2, w ∈ am_G := by
  intro w hw
  refine am_G_in ?_ (am_wgood hw)
  match c, h with
  | 0, h => cases h; exact am_wX0 w hw
  | 1, h => cases h; exact am_wX1 w hw
  | 2, h => cases h; exact am_wX2 w hw
  | 3, h => cases h; exact am_wX3 w hw
  | 4, h => cases h; exact am_wX4 w hw
  | 5, h => cases h; exact am_wX5 w hw
  | 6, h => cases h; exact am_wX6 w hw
  | 7, h => cases h; exact am_wX7 w hw
  | 8, h => cases h; exact am_wX8 w hw
  | 9, h => cases h; exact am_wX9 w hw
  | 10, h => cases h; exact am_wX10 w hw
  | k + 11, h => exact absurd (am_cl_lt h) (by omega)
def am_ty (c : Nat) : Nat → FieldType := match c with
  | 0 => tyX0
  | 1 => tyX1
  | 2 => tyX2
  | 3 => tyX3
  | 4 => tyX4
  | 5 => tyX5
  | 6 => tyX6
  | 7 => tyX7
  | 8 => tyX8
  | 9 => tyX9
  | _ => tyX10
theorem am_ty_ok {c : Nat} {q : vw_C} (h : vwCl[c]? = some q) : ∀ k, k < q.2.2 → parseFieldDescriptor (q.2.1 k).2.2.1 = some (am_ty c k) := by
  match c, h with
  | 0, h => cases h; exact tyX0_ok
  | 1, h => cases h; exact tyX1_ok
  | 2, h => cases h; exact tyX2_ok
  | 3, h => cases h; exact tyX3_ok
  | 4, h => cases h; exact tyX4_ok
  | 5, h => cases h; exact tyX5_ok
  | 6, h => cases h; exact tyX6_ok
  | 7, h => cases h; exact tyX7_ok
  | 8, h => cases h; exact tyX8_ok
  | 9, h => cases h; exact tyX9_ok
  | 10, h => cases h; exact tyX10_ok
  | k + 11, h => exact absurd (am_cl_lt h) (by omega)
theorem am_nm {c : Nat} {q : vw_C} (h : vwCl[c]? = some q) : ∀ a, a < q.2.2 → ∀ b, b < q.2.2 → a ≠ b → (q.2.1 a).2.1 ≠ (q.2.1 b).2.1 := by
  match c, h with
  | 0, h => cases h; exact nmX0
  | 1, h => cases h; exact nmX1
  | 2, h => cases h; exact nmX2
  | 3, h => cases h; exact nmX3
  | 4, h => cases h; exact nmX4
  | 5, h => cases h; exact nmX5
  | 6, h => cases h; exact nmX6
  | 7, h => cases h; exact nmX7
  | 8, h => cases h; exact nmX8
  | 9, h => cases h; exact nmX9
  | 10, h => cases h; exact nmX10
  | k + 11, h => exact absurd (am_cl_lt h) (by omega)
theorem am_nf_ok {c : Nat} {q : vw_C} (h : vwCl[c]? = some q) : q.2.2 = am_nf c := by
  match c, h with
  | 0, h => cases h; rfl
  | 1, h => cases h; rfl
  | 2, h => cases h; rfl
  | 3, h => cases h; rfl
  | 4, h => cases h; rfl
  | 5, h => cases h; rfl
  | 6, h => cases h; rfl
  | 7, h => cases h; rfl
  | 8, h => cases h; rfl
  | 9, h => cases h; rfl
  | 10, h => cases h; rfl
  | k + 11, h => exact absurd (am_cl_lt h) (by omega)
def am_fin (c j : Nat) : Bool := match vwCl[c]? with
  | some q => (q.2.1 j).2.2.2
  | none => true
def am_tys (dA : Nat → ClassId) : List (ClassId × FieldType) := [(dA 0, .int), (dA 1, .byte), (dA 2, .short), (dA 3, .boolean), (dA 4, .long), (dA 5, .object "TapeHouse$Consent")]
/-- the String constant's bytes -/
def am_bW : List Int32 := [108, 101, 116, 32, 107, 101, 101, 112, 32, 109, 97, 115, 107, 32, 105, 102, 32, 111, 114, 32, 97, 110, 100, 32, 105, 110, 32, 107, 105, 110, 100, 32, 117, 115, 101, 32, 97, 103, 101, 32, 100, 101, 97, 100, 32, 112, 105, 101, 99, 101, 32, 110, 97, 109, 101, 115, 32, 111, 119, 110, 32]
abbrev am_AD : Type := (Nat → Nat) × (Nat → Nat)
def am_X (ad : am_AD) (A : Nat → Prop) (U : State) : Prop := vk_S 1 [61] [am_bW] ad.1 ad.2 A U U.heap ∧ vk_R RX6 58 "let keep mask if or and in kind use age dead piece names own " (ad.1 0) U ∧ va_Z "java/lang/String" "COMPACT_STRINGS" "Z" (.int 1) A U U.heap ∧ va_Zq "jdk/internal/util/Preconditions" "SIOOBE_FORMATTER" "Ljava/util/function/BiFunction;" A U U.heap
def am_C (D : va_G) (dA : Nat → ClassId) (ad : am_AD) (A : Nat → Prop) (U : State) : Prop := va_K D vwCl (am_tys dA) U ∧ (∀ w ∈ am_N, va_Nw w U) ∧ va_AO "TapeHouse$Consent" U ∧ am_X ad A U
theorem am_Nw_warm {s U : State} (hW : s.WarmedH U.vm) {w : Cond} (hw : w ∈ am_N) (h : va_Nw w s) : va_Nw w U := by
  have hg := (List.mem_filter.mp hw).2
  cases w <;> first | exact va_Nw.warmF hW h | exact va_Nw.warmM hW h | (simp [am_isN] at hg; done)
theorem am_C.calling {D : va_G} {dA : Nat → ClassId} {ad : am_AD} {A : Nat → Prop} {U : State} {g : JFrame} {mk : MethodId} {a : Array Value} (h : am_C D dA ad A U) : am_C D dA ad A (U.calling g mk a) := by
  obtain ⟨h1, h2, h3, h4, h5, h6, h7⟩ := h
  refine ⟨va_K.moved (u := U) (Vm.Alike.refl U.vm) h1, fun w hw => ?_, va_AO.moved (u := U) (Vm.Alike.refl U.vm) h3, vk_S.moved (u := U) (Vm.Alike.refl U.vm) h4, vk_R.same (u := U) rfl h5, va_Z.moved (u := U) (Vm.Alike.refl U.vm) h6, va_Zq.moved (u := U) (Vm.Alike.refl U.vm) h7⟩
  have hg := (List.mem_filter.mp hw).2
  have h := h2 w hw
  cases w <;> first | exact va_Nw.same (u := U) rfl rfl h | (simp [am_isN] at hg; done)
theorem am_C.callee {D : va_G} {dA : Nat → ClassId} {ad : am_AD} {A A1 : Nat → Prop} {s U : State} {H : Heap} {locs : List Loc} (h : am_C D dA ad A s) (hS : va_S A s.heap H locs) (hA : ∀ q, A1 q → A q) (hU : U.heap = H) (hW : s.WarmedH U.vm) : am_C D dA ad A1 U := by
  obtain ⟨h1, h2, h3, h4, h5, h6, h7⟩ := h
  subst hU
  exact ⟨va_K.moved hW.alike h1, fun w hw => am_Nw_warm hW hw (h2 w hw), va_AO.moved hW.alike h3, ((vk_S.moved hW.alike h4).kept hS.2.1).narrow hA, vk_R.warm hW h5, ((va_Z.moved hW.alike h6).kept hS.2.1).narrow hA, ((va_Zq.moved hW.alike h7).kept hS.2.1).narrow hA⟩
/-! ===== the judgement ===== -/
def am_rm (d mc ms : Nat) : Room := { frames := d, cells := mc, slots := ms, locals := 40 * d }
def am_ww (y : am_MD) : List Cond := .code y.2.1 y.2.2.1 y.2.2.2.1 y.2.2.2.2.1 :: am_G
def am_at (y : am_MD) (pc : Nat) : Option (Instr × Nat) := (y.2.2.2.2.2).lookup pc
def am_S (y : am_MD) (p : Program) (s : State) (m : MethodId) (args : Array Value) (meth : Method) (c : Code) (D : va_G) (dA : Nat → ClassId) (ad : am_AD) (A : Nat → Prop) : Prop :=
  p.tables.exec = Jvm.exec ∧ c.code = y.2.2.1 ∧ c.maxLocals = y.2.2.2.1 ∧ meth.sig.returnType = y.2.2.2.2.1 ∧ meth.locks = false ∧ (y.2.1.name = "<init>" → meth.name = "<init>") ∧ s.vm.findClass (am_cn y.1) = some m.cls ∧ (∀ w ∈ am_G, w.before args s = true) ∧ (∀ (pc : Nat) (q : Instr × Nat), am_at y pc = some q → decode y.2.2.1 pc = .ok q) ∧ am_C D dA ad A s ∧ (∀ q, s.heap.size ≤ q → A q)
abbrev am_R : Type := Option Value × Nat × am_I × am_J × am_Q
def am_Qc (D : va_G) (dA : Nat → ClassId) (A : Nat → Prop) (al0 : Nat → Nat) (n0 : Nat) (r : am_R) : Array Value → State → Outcome → State → Prop := fun _ st oc t =>
  (∃ al' : Nat → Nat, (∀ k, k < n0 ∨ r.2.1 ≤ k → al' k = al0 k) ∧ n0 ≤ r.2.1 ∧ oc = .returned (r.1.map (am_cv al')) ∧ va_P D vwCl (am_ws dA al' r.2.1 r.2.2.1 r.2.2.2.1 r.2.2.2.2) t.heap ∧ va_D A (am_ws dA al' r.2.1 r.2.2.1 r.2.2.2.1 r.2.2.2.2)) ∧ va_F A st t
/-- room; what more is known; the aim -/
abbrev am_O : Type := Room × (State → (Nat → Prop) → (Nat → Nat) → Prop) × (List Frame → Array Value → State → va_G → (Nat → ClassId) → (Nat → Prop) → (Nat → Nat) → Nat → State → Prop)
def am_o (d mc ms : Nat) (r : am_R) : am_O := (am_rm d mc ms, fun _ _ _ => True, fun below args s D dA A al0 n0 => MQ below (am_Qc D dA A al0 n0 r) args s mc ms A)
def Gd (y : am_MD) (o : am_O) (kc ks n pc : Nat) (L : List (Option Value)) (st : List Value) (I : am_I) (J : am_J) (Q : am_Q) : Prop :=
  ∀ (p : Program) (l : Launch) (e : Env) (s : State) (m : MethodId) (args : Array Value) (below : List Frame) (meth : Method) (c : Code) (H : Heap) (locs : List Loc) (ls : Array Slot) (D : va_G) (dA : Nat → ClassId) (ad : am_AD) (al al0 : Nat → Nat) (n0 : Nat) (A : Nat → Prop),
    am_S y p s m args meth c D dA ad A → o.2.1 s A al0 → ((∀ k, k < n0 ∨ n ≤ k → al k = al0 k) ∧ n0 ≤ n) → va_P D vwCl (am_ws dA al n I J Q) H → va_D A (am_ws dA al n I J Q) → va_S A s.heap H locs → am_H ls y.2.2.2.1 al L →
    W p l e o.1 s m args below meth c H locs kc ks (o.2.2 below args s D dA A al0 n0) (F0 m pc ls (st.map (am_cv al)))
/-- a method's contract at one start: arguments, memory; answer, memory behind -/
def Cm (y : am_MD) (d mc ms n : Nat) (av : List Value) (I : am_I) (J : am_J) (Q : am_Q) (r : am_R) : Prop :=
  ∀ (l : Launch) (D : va_G) (dA : Nat → ClassId) (ad : am_AD) (al : Nat → Nat) (sz : Nat),
    Met l y.2.1 (am_ww y) (am_rm d mc ms) (va_Pc (av.map (am_cv al)) (fun U => U.heap.size = sz ∧ va_P D vwCl (am_ws dA al n I J Q) U.heap ∧ va_D (fun _ => True) (am_ws dA al n I J Q) ∧ am_C D dA ad (va_A (am_ws dA al n I J Q) sz) U)) (am_Qc D dA (va_A (am_ws dA al n I J Q) sz) al n r) mc ms (va_A (am_ws dA al n I J Q) sz)
/-- the locals with which a method begins -/
def am_e0 : List Value → List (Option Value)
  | [] => []
  | v :: vs => if v.category = 2 then some v :: none :: am_e0 vs else some v :: am_e0 vs
def am_l0 (y : am_MD) (av : List Value) : List (Option Value) := am_e0 av ++ List.replicate (y.2.2.2.1 - (am_e0 av).length) none
theorem am_e0_args {al : Nat → Nat} : ∀ (vs : List Value) (k i : Nat) (v : Value), (am_e0 vs)[i]? = some (some v) → (k + i, am_cv al v) ∈ lv_args k (vs.map (am_cv al))
  | [], k, i, v, h => by simp [am_e0] at h
  | w :: vs, k, i, v, h => by
    rw [List.map_cons, lv_args, am_cv_cat]
    unfold am_e0 at h
    by_cases hc : w.category = 2
    · rw [if_pos hc] at h ⊢
      match i, h with
      | 0, h =>
        simp at h
        subst h
        exact List.mem_cons_self
      | 1, h => simp at h
      | i + 2, h =>
        have h1 := am_e0_args (al := al) vs (k + 2) i v (by simpa using h)
        refine List.mem_cons_of_mem _ ?_
        rw [show k + (i + 2) = k + 2 + i by omega]
        exact h1
    · rw [if_neg hc] at h ⊢
      match i, h with
      | 0, h =>
        simp at h
        subst h
        exact List.mem_cons_self
      | i + 1, h =>
        have h1 := am_e0_args (al := al) vs (k + 1) i v (by simpa using h)
        refine List.mem_cons_of_mem _ ?_
        rw [show k + (i + 1) = k + 1 + i by omega]
        exact h1
theorem am_H0 {y : am_MD} {av : List Value} {al : Nat → Nat} {ls : Array Slot} {nL : Nat} (h : lv_has ls nL (lv_args 0 (av.map (am_cv al)))) : am_H ls nL al (am_l0 y av) := by
  refine ⟨h.1, h.2.1, fun q hq => ?_⟩
  obtain ⟨i, v, h1, h2⟩ := (am_ll_mem _ 0 q).mp hq
  subst h2
  unfold am_l0 at h1
  by_cases hi : i < (am_e0 av).length
  · rw [List.getElem?_append_left hi] at h1
    exact h.2.2 _ (am_e0_args av 0 i v h1)
  · rw [List.getElem?_append_right (by omega)] at h1
    have := List.mem_of_getElem? h1
    have := (List.mem_replicate.mp this).2
    cases this
theorem am_sl_len (vs : List Value) : (lg_sl vs).length = (am_e0 vs).length := by
  induction vs with
  | nil => rfl
  | cons v vs ih =>
    have h : lg_sl (v :: vs) = (if v.category = 2 then [.val v, .second] else [.val v]) ++ lg_sl vs := by
      unfold lg_sl
      rw [List.flatMap_cons]
    unfold am_e0
    rw [h, List.length_append, ih]
    by_cases hc : v.category = 2
    · rw [if_pos hc, if_pos hc]
      simp
      omega
    · rw [if_neg hc, if_neg hc]
      simp
      omega
