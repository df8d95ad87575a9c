/-! ===== the abstract machine: the memory by cells' numbers ===== -/
abbrev am_I : Type := Nat → Nat → Int32
abbrev am_J : Type := Nat → Nat → Int64
abbrev am_Q : Type := Nat → Nat → Option Nat
/-- one place of one cell written -/
def am_w {α : Type} (f : Nat → Nat → α) (k j : Nat) (v : α) : Nat → Nat → α := va_up f k (va_up (f k) j v)
def am_rf (c j : Nat) : Bool := (am_rk c).getD j false
def am_cv (al : Nat → Nat) : Value → Value
  | .ref k => .ref (al k)
  | v => v
def am_fs (al : Nat → Nat) (c : Nat) (i : Nat → Int32) (q : Nat → Option Nat) : List Value := (List.range (am_nf c)).map fun j => if am_rf c j = true then va_rf ((q j).map al) else .int (i j)
def am_en (dA : Nat → ClassId) (al : Nat → Nat) (k : Nat) (i : Nat → Int32) (j : Nat → Int64) (q : Nat → Option Nat) : va_E := match am_lay k with
  | .inl c => .inr (c, am_fs al c i q)
  | .inr (t, n) => .inl (dA t, n, if t = 4 then .inr (.inl j) else if t = 5 then .inr (.inr (.inr (.inr (fun a => (q a).map al)))) else .inl i)
def am_ws (dA : Nat → ClassId) (al : Nat → Nat) (n : Nat) (I : am_I) (J : am_J) (Q : am_Q) : va_W := (List.range n).map fun k => (al k, am_en dA al k (I k) (J k) (Q k))
theorem am_ws_at {dA : Nat → ClassId} {al : Nat → Nat} {n : Nat} {I : am_I} {J : am_J} {Q : am_Q} {k : Nat} (h : k < n) : (am_ws dA al n I J Q)[k]? = some (al k, am_en dA al k (I k) (J k) (Q k)) := by
  simp [am_ws, h]
theorem am_ws_len {dA : Nat → ClassId} {al : Nat → Nat} {n : Nat} {I : am_I} {J : am_J} {Q : am_Q} : (am_ws dA al n I J Q).length = n := by simp [am_ws]
theorem am_ws_none {dA : Nat → ClassId} {al : Nat → Nat} {n : Nat} {I : am_I} {J : am_J} {Q : am_Q} {k : Nat} (h : ¬ k < n) : (am_ws dA al n I J Q)[k]? = none := by
  rw [List.getElem?_eq_none_iff, am_ws_len]
  omega
theorem am_up_id {α : Type} (f : Nat → α) (k : Nat) : va_up f k (f k) = f := by
  funext j
  unfold va_up
  split
  · next h => rw [h]
  · rfl
theorem am_ws_set {dA : Nat → ClassId} {al : Nat → Nat} {n : Nat} {I : am_I} {J : am_J} {Q : am_Q} {k : Nat} (h : k < n) (i : Nat → Int32) (j : Nat → Int64) (q : Nat → Option Nat) :
    (am_ws dA al n I J Q).set k (al k, am_en dA al k i j q) = am_ws dA al n (va_up I k i) (va_up J k j) (va_up Q k q) := by
  apply List.ext_getElem?
  intro a
  by_cases ha : a = k
  · subst ha
    rw [List.getElem?_set_self (by rw [am_ws_len]; exact h), am_ws_at h]
    simp [va_up]
  · rw [List.getElem?_set_ne (Ne.symm ha)]
    by_cases hn : a < n
    · rw [am_ws_at hn, am_ws_at hn]
      simp [va_up, ha]
    · rw [am_ws_none hn, am_ws_none hn]
theorem am_ws_setI {dA : Nat → ClassId} {al : Nat → Nat} {n : Nat} {I : am_I} {J : am_J} {Q : am_Q} {k : Nat} (h : k < n) (i : Nat → Int32) :
    (am_ws dA al n I J Q).set k (al k, am_en dA al k i (J k) (Q k)) = am_ws dA al n (va_up I k i) J Q := by
  rw [am_ws_set h, am_up_id, am_up_id]
theorem am_ws_setJ {dA : Nat → ClassId} {al : Nat → Nat} {n : Nat} {I : am_I} {J : am_J} {Q : am_Q} {k : Nat} (h : k < n) (j : Nat → Int64) :
    (am_ws dA al n I J Q).set k (al k, am_en dA al k (I k) j (Q k)) = am_ws dA al n I (va_up J k j) Q := by
  rw [am_ws_set h, am_up_id, am_up_id]
theorem am_ws_setQ {dA : Nat → ClassId} {al : Nat → Nat} {n : Nat} {I : am_I} {J : am_J} {Q : am_Q} {k : Nat} (h : k < n) (q : Nat → Option Nat) :
    (am_ws dA al n I J Q).set k (al k, am_en dA al k (I k) (J k) q) = am_ws dA al n I J (va_up Q k q) := by
  rw [am_ws_set h, am_up_id, am_up_id]
theorem am_fs_len {al : Nat → Nat} {c : Nat} {i : Nat → Int32} {q : Nat → Option Nat} : (am_fs al c i q).length = am_nf c := by simp [am_fs]
theorem am_fs_at {al : Nat → Nat} {c : Nat} {i : Nat → Int32} {q : Nat → Option Nat} {j : Nat} (h : j < am_nf c) : (am_fs al c i q)[j]? = some (if am_rf c j = true then va_rf ((q j).map al) else .int (i j)) := by
  simp [am_fs, h]
theorem am_fs_none {al : Nat → Nat} {c : Nat} {i : Nat → Int32} {q : Nat → Option Nat} {j : Nat} (h : ¬ j < am_nf c) : (am_fs al c i q)[j]? = none := by
  rw [List.getElem?_eq_none_iff, am_fs_len]
  omega
theorem am_fs_setI {al : Nat → Nat} {c : Nat} {i : Nat → Int32} {q : Nat → Option Nat} {j : Nat} (h : j < am_nf c) (hr : am_rf c j = false) (v : Int32) : (am_fs al c i q).set j (.int v) = am_fs al c (va_up i j v) q := by
  apply List.ext_getElem?
  intro a
  by_cases ha : a = j
  · subst ha
    rw [List.getElem?_set_self (by rw [am_fs_len]; exact h), am_fs_at h]
    simp [va_up, hr]
  · rw [List.getElem?_set_ne (Ne.symm ha)]
    by_cases hn : a < am_nf c
    · rw [am_fs_at hn, am_fs_at hn]
      simp [va_up, ha]
    · rw [am_fs_none hn, am_fs_none hn]
theorem am_fs_setQ {al : Nat → Nat} {c : Nat} {i : Nat → Int32} {q : Nat → Option Nat} {j : Nat} (h : j < am_nf c) (hr : am_rf c j = true) (v : Option Nat) : (am_fs al c i q).set j (va_rf (v.map al)) = am_fs al c i (va_up q j v) := by
  apply List.ext_getElem?
  intro a
  by_cases ha : a = j
  · subst ha
    rw [List.getElem?_set_self (by rw [am_fs_len]; exact h), am_fs_at h]
    simp [va_up, hr]
  · rw [List.getElem?_set_ne (Ne.symm ha)]
    by_cases hn : a < am_nf c
    · rw [am_fs_at hn, am_fs_at hn]
      simp [va_up, ha]
    · rw [am_fs_none hn, am_fs_none hn]
/-- the locals that are known -/
def am_ll (al : Nat → Nat) : Nat → List (Option Value) → List (Nat × Value)
  | _, [] => []
  | k, none :: L => am_ll al (k + 1) L
  | k, some v :: L => (k, am_cv al v) :: am_ll al (k + 1) L
theorem am_ll_mem {al : Nat → Nat} : ∀ (L : List (Option Value)) (k : Nat) (q : Nat × Value), q ∈ am_ll al k L ↔ ∃ (i : Nat) (v : Value), L[i]? = some (some v) ∧ q = (k + i, am_cv al v)
  | [], k, q => by simp [am_ll]
  | none :: L, k, q => by
    rw [am_ll, am_ll_mem L (k + 1) q]
    constructor
    · rintro ⟨i, v, h1, h2⟩
      exact ⟨i + 1, v, by simpa using h1, by rw [h2]; simp; omega⟩
    · rintro ⟨i, v, h1, h2⟩
      cases i with
      | zero => simp at h1
      | succ i => exact ⟨i, v, by simpa using h1, by rw [h2]; simp; omega⟩
  | some w :: L, k, q => by
    rw [am_ll, List.mem_cons, am_ll_mem L (k + 1) q]
    constructor
    · rintro (h | ⟨i, v, h1, h2⟩)
      · exact ⟨0, w, rfl, by rw [h]; simp⟩
      · exact ⟨i + 1, v, by simpa using h1, by rw [h2]; simp; omega⟩
    · rintro ⟨i, v, h1, h2⟩
      cases i with
      | zero =>
        simp at h1
        subst h1
        exact Or.inl (by rw [h2]; simp)
      | succ i => exact Or.inr ⟨i, v, by simpa using h1, by rw [h2]; simp; omega⟩
theorem am_ll_in {al : Nat → Nat} {L : List (Option Value)} {i : Nat} {v : Value} (h : L[i]? = some (some v)) : (i, am_cv al v) ∈ am_ll al 0 L := (am_ll_mem L 0 _).mpr ⟨i, v, h, by simp⟩
def am_H (ls : Array Slot) (nL : Nat) (al : Nat → Nat) (L : List (Option Value)) : Prop := lv_has ls nL (am_ll al 0 L)
theorem am_H.get {ls : Array Slot} {nL : Nat} {al : Nat → Nat} {L : List (Option Value)} (h : am_H ls nL al L) {i : Nat} {v : Value} (hi : L[i]? = some (some v)) : ls[i]? = some (.val (am_cv al v)) := h.2.2 _ (am_ll_in hi)
/-- no long stands just ahead of i -/
def am_nl : List (Option Value) → Nat → Bool
  | _, 0 => true
  | L, i + 1 => match L[i]? with
    | some (some (.long _)) => false
    | some (some (.double _)) => false
    | _ => true
theorem am_cv_cat (al : Nat → Nat) (v : Value) : (am_cv al v).category = v.category := by cases v <;> rfl
theorem am_nl_cat {L : List (Option Value)} {i : Nat} {v : Value} (h : am_nl L (i + 1) = true) (hv : L[i]? = some (some v)) : ¬ v.category = 2 := by
  simp only [am_nl, hv] at h
  cases v <;> simp [Value.category] at h ⊢
/-- storing a value of one slot -/
theorem am_H.st1 {ls ls' : Array Slot} {nL : Nat} {al : Nat → Nat} {L : List (Option Value)} {i : Nat} {v : Value} (hn : am_nl L i = true)
    (h' : lv_has ls' nL ((i, am_cv al v) :: (am_ll al 0 L).filter (fun q => !(q.1 == i) && !(q.1 + 1 == i && q.2.category == 2)))) : am_H ls' nL al (L.set i (some v)) := by
  refine ⟨h'.1, h'.2.1, fun q hq => ?_⟩
  obtain ⟨a, w, h1, h2⟩ := (am_ll_mem _ 0 q).mp hq
  subst h2
  by_cases ha : a = i
  · subst ha
    have hlt : a < L.length := by
      have := (List.getElem?_eq_some_iff.mp h1).1
      simpa using this
    rw [List.getElem?_set_self hlt] at h1
    cases h1
    have h3 := h'.2.2 (a, am_cv al v) List.mem_cons_self
    simpa using h3
  · rw [List.getElem?_set_ne (Ne.symm ha)] at h1
    refine h'.2.2 _ (List.mem_cons_of_mem _ (List.mem_filter.mpr ⟨?_, ?_⟩))
    · simpa using am_ll_in (al := al) h1
    · simp only [Nat.zero_add, Bool.and_eq_true, Bool.not_eq_true', beq_eq_false_iff_ne, ne_eq, Bool.and_eq_false_iff]
      refine ⟨ha, ?_⟩
      by_cases hb : a + 1 = i
      · subst hb
        right
        rw [am_cv_cat]
        exact am_nl_cat hn h1
      · exact Or.inl hb
/-- storing a long: its second half is unknown -/
theorem am_H.st2 {ls ls' : Array Slot} {nL : Nat} {al : Nat → Nat} {L : List (Option Value)} {i : Nat} {v : Value} (hn : am_nl L i = true)
    (h' : lv_has ls' nL ((i, am_cv al v) :: (am_ll al 0 L).filter (fun q => !(q.1 == i) && (!(q.1 == i + 1) && !(q.1 + 1 == i && q.2.category == 2))))) : am_H ls' nL al ((L.set i (some v)).set (i + 1) none) := by
  refine ⟨h'.1, h'.2.1, fun q hq => ?_⟩
  obtain ⟨a, w, h1, h2⟩ := (am_ll_mem _ 0 q).mp hq
  subst h2
  by_cases hb1 : a = i + 1
  · subst hb1
    have hlt : i + 1 < ((L.set i (some v)).set (i + 1) none).length := (List.getElem?_eq_some_iff.mp h1).1
    rw [List.getElem?_set_self (by simpa using hlt)] at h1
    cases h1
  rw [List.getElem?_set_ne (Ne.symm hb1)] at h1
  by_cases ha : a = i
  · subst ha
    have hlt : a < L.length := by
      have := (List.getElem?_eq_some_iff.mp h1).1
      simpa using this
    rw [List.getElem?_set_self hlt] at h1
    cases h1
    have h3 := h'.2.2 (a, am_cv al v) List.mem_cons_self
    simpa using h3
  · rw [List.getElem?_set_ne (Ne.symm ha)] at h1
    refine h'.2.2 _ (List.mem_cons_of_mem _ (List.mem_filter.mpr ⟨?_, ?_⟩))
    · simpa using am_ll_in (al := al) h1
    · simp only [Nat.zero_add, Bool.and_eq_true, Bool.not_eq_true', beq_eq_false_iff_ne, ne_eq, Bool.and_eq_false_iff]
      refine ⟨ha, hb1, ?_⟩
      by_cases hb : a + 1 = i
      · subst hb
        right
        rw [am_cv_cat]
        exact am_nl_cat hn h1
      · exact Or.inl hb
/-- another map of the addresses that agrees on what is held -/
def am_vok (n : Nat) : Value → Bool
  | .ref k => decide (k ≠ n)
  | _ => true
theorem am_cv_up {al : Nat → Nat} {n a : Nat} {v : Value} (h : am_vok n v = true) : am_cv (va_up al n a) v = am_cv al v := by
  cases v with
  | ref k =>
    have hk : k ≠ n := by simpa [am_vok] using h
    show Value.ref _ = Value.ref _
    simp [va_up, hk]
  | _ => rfl
