/-! ===== days pushed along tellings: the pure part ===== -/
abbrev Eg : Type := Nat × Nat × Int
def ePush (x : Nat → Int) (t : Eg) : Nat → Int := if x t.1 < x t.2.1 + t.2.2 then va_up x t.1 (x t.2.1 + t.2.2) else x
def eRun (x : Nat → Int) : List Eg → Nat → Int
  | [] => x
  | t :: l => eRun (ePush x t) l
def eMov (x : Nat → Int) : List Eg → Bool
  | [] => false
  | t :: l => decide (x t.1 < x t.2.1 + t.2.2) || eMov (ePush x t) l
def eOk (l : List Eg) (x : Nat → Int) : Prop := ∀ t, t ∈ l → x t.2.1 + t.2.2 ≤ x t.1
theorem ePush_ge {x : Nat → Int} {t : Eg} (e : Nat) : x e ≤ ePush x t e := by
  unfold ePush
  split
  · next h =>
    unfold va_up
    split
    · next he => rw [he]; omega
    · exact Int.le_refl _
  · exact Int.le_refl _
theorem ePush_at {x : Nat → Int} {t : Eg} : x t.2.1 + t.2.2 ≤ ePush x t t.1 := by
  unfold ePush
  split
  · unfold va_up
    rw [if_pos rfl]
    exact Int.le_refl _
  · omega
theorem ePush_le {x y : Nat → Int} {t : Eg} (h : ∀ e, x e ≤ y e) (ht : y t.2.1 + t.2.2 ≤ y t.1) (e : Nat) : ePush x t e ≤ y e := by
  unfold ePush
  split
  · unfold va_up
    split
    · next he => have := h t.2.1; rw [he]; omega
    · exact h e
  · exact h e
theorem eRun_ge {l : List Eg} : ∀ {x : Nat → Int} (e : Nat), x e ≤ eRun x l e := by
  induction l with
  | nil => intro x e; exact Int.le_refl _
  | cons t l ih => intro x e; exact Int.le_trans (ePush_ge e) (ih e)
theorem eRun_le {l : List Eg} {y : Nat → Int} : ∀ {x : Nat → Int}, (∀ e, x e ≤ y e) → eOk l y → ∀ e, eRun x l e ≤ y e := by
  induction l with
  | nil => intro x h _ e; exact h e
  | cons t l ih => intro x h ho e; exact ih (ePush_le h (ho t List.mem_cons_self)) (fun t' h' => ho t' (List.mem_cons_of_mem _ h')) e
theorem eRun_tight {l : List Eg} {y : Nat → Int} {t : Eg} : ∀ {x : Nat → Int}, (∀ e, x e ≤ y e) → eOk l y → t ∈ l → x t.2.1 = y t.2.1 → y t.1 = y t.2.1 + t.2.2 → eRun x l t.1 = y t.1 := by
  induction l with
  | nil => intro x _ _ h; cases h
  | cons t' l ih =>
    intro x h ho ht hx hy
    have h2 := ePush_le h (ho t' List.mem_cons_self)
    have ho2 : eOk l y := fun t'' h' => ho t'' (List.mem_cons_of_mem _ h')
    have hle := eRun_le h2 ho2 t.1
    rcases List.mem_cons.mp ht with rfl | ht
    · have a1 : x t.2.1 + t.2.2 ≤ ePush x t t.1 := ePush_at
      have a2 := eRun_ge (l := l) (x := ePush x t) t.1
      show eRun (ePush x t) l t.1 = _
      omega
    · refine ih h2 ho2 ht ?_ hy
      have a1 := ePush_ge (x := x) (t := t') t.2.1
      have a2 := h2 t.2.1
      omega
theorem eMov_no {l : List Eg} : ∀ {x : Nat → Int}, eMov x l = false → eRun x l = x ∧ eOk l x := by
  induction l with
  | nil => intro x _; exact ⟨rfl, fun t h => by cases h⟩
  | cons t l ih =>
    intro x h
    unfold eMov at h
    rw [Bool.or_eq_false_iff, decide_eq_false_iff_not] at h
    have e : ePush x t = x := if_neg h.1
    rw [e] at h
    obtain ⟨i1, i2⟩ := ih h.2
    refine ⟨?_, fun t' ht => ?_⟩
    · show eRun (ePush x t) l = x
      rw [e, i1]
    · rcases List.mem_cons.mp ht with rfl | ht
      · omega
      · exact i2 t' ht
theorem eMov_ok {l : List Eg} : ∀ {x : Nat → Int}, eOk l x → eMov x l = false := by
  induction l with
  | nil => intro x _; rfl
  | cons t l ih =>
    intro x h
    have h1 : ¬ x t.1 < x t.2.1 + t.2.2 := by have := h t List.mem_cons_self; omega
    have e : ePush x t = x := if_neg h1
    unfold eMov
    rw [e, ih (fun t' h' => h t' (List.mem_cons_of_mem _ h')), Bool.or_false, decide_eq_false_iff_not]
    exact h1
theorem eRun_app {l1 l2 : List Eg} : ∀ {x : Nat → Int}, eRun x (l1 ++ l2) = eRun (eRun x l1) l2 := by
  induction l1 with
  | nil => intro x; rfl
  | cons t l ih => intro x; exact ih
theorem eMov_app {l1 l2 : List Eg} : ∀ {x : Nat → Int}, eMov x (l1 ++ l2) = (eMov x l1 || eMov (eRun x l1) l2) := by
  induction l1 with
  | nil => intro x; rfl
  | cons t l ih =>
    intro x
    show (_ || eMov (ePush x t) (l ++ l2)) = ((_ || eMov (ePush x t) l) || eMov (eRun (ePush x t) l) l2)
    rw [ih, Bool.or_assoc]
/-- how many of the first n are not at their end -/
def nf (x y : Nat → Int) : Nat → Nat
  | 0 => 0
  | n + 1 => nf x y n + if x n < y n then 1 else 0
theorem nf_le {x y : Nat → Int} : ∀ n, nf x y n ≤ n := by
  intro n
  induction n with
  | zero => exact Nat.le_refl _
  | succ n ih => show nf x y n + _ ≤ _; split <;> omega
theorem nf_mono {x x' y : Nat → Int} (h : ∀ e, x e ≤ x' e) : ∀ n, nf x' y n ≤ nf x y n := by
  intro n
  induction n with
  | zero => exact Nat.le_refl _
  | succ n ih =>
    show nf x' y n + _ ≤ nf x y n + _
    have := h n
    split
    · rw [if_pos (by omega)]; omega
    · omega
theorem nf_lt {x x' y : Nat → Int} (h : ∀ e, x e ≤ x' e) {e : Nat} (h1 : x e < y e) (h2 : ¬ x' e < y e) : ∀ n, e < n → nf x' y n < nf x y n := by
  intro n
  induction n with
  | zero => intro h; omega
  | succ n ih =>
    intro he
    show nf x' y n + _ < nf x y n + _
    by_cases hen : e = n
    · subst hen
      rw [if_pos h1, if_neg h2]
      have := nf_mono (y := y) h e
      omega
    · have := ih (by omega)
      have := h n
      split
      · rw [if_pos (by omega)]; omega
      · omega
theorem nf_0 {x y : Nat → Int} : ∀ n, nf x y n = 0 → ∀ e, e < n → ¬ x e < y e := by
  intro n
  induction n with
  | zero => intro _ e h; omega
  | succ n ih =>
    intro h e he
    have h' : nf x y n + (if x n < y n then 1 else 0) = 0 := h
    by_cases hen : e = n
    · subst hen
      intro c
      rw [if_pos c] at h'
      omega
    · exact ih (by omega) e (by omega)
def sm (x y : Nat → Int) : Nat → Nat
  | 0 => 0
  | n + 1 => sm x y n + (y n - x n).toNat
theorem sm_le {x y y' : Nat → Int} (h : ∀ e, y' e ≤ y e) : ∀ n, sm x y' n ≤ sm x y n := by
  intro n
  induction n with
  | zero => exact Nat.le_refl _
  | succ n ih =>
    show sm x y' n + _ ≤ sm x y n + _
    have := h n
    omega
theorem sm_lt {x y y' : Nat → Int} (h : ∀ e, y' e ≤ y e) {e : Nat} (h1 : y' e < y e) (h2 : x e ≤ y' e) : ∀ n, e < n → sm x y' n < sm x y n := by
  intro n
  induction n with
  | zero => intro h; omega
  | succ n ih =>
    intro he
    show sm x y' n + _ < sm x y n + _
    by_cases hen : e = n
    · subst hen
      have := sm_le (x := x) h e
      omega
    · have := ih (by omega)
      have := h n
      omega
def eGood (l : List Eg) (x y : Nat → Int) : Prop := (∀ e, x e ≤ y e) ∧ (∀ e, 10 ≤ e → y e = x e) ∧ eOk l y
def eIt (l : List Eg) : Nat → (Nat → Int) → Nat → Int
  | 0, x => x
  | k + 1, x => eIt l k (eRun x l)
theorem eRun_out {l : List Eg} (hl : ∀ t, t ∈ l → t.1 < 10) : ∀ {x : Nat → Int} {e : Nat}, 10 ≤ e → eRun x l e = x e := by
  induction l with
  | nil => intro x e _; rfl
  | cons t l ih =>
    intro x e he
    show eRun (ePush x t) l e = x e
    rw [ih (fun t' h => hl t' (List.mem_cons_of_mem _ h)) he]
    unfold ePush
    split
    · unfold va_up
      have := hl t List.mem_cons_self
      rw [if_neg (by omega)]
    · rfl
/-- as many rounds as events, and all days stand -/
theorem e_conv {l : List Eg} (hl : ∀ t, t ∈ l → t.1 < 10) {x0 y : Nat → Int} (hy : eGood l x0 y) : eOk l (eIt l 10 x0) := by
  obtain ⟨k, ⟨μ, hμ, hk⟩, hmin⟩ := pk_least (fun k => ∃ y, eGood l x0 y ∧ sm x0 y 10 = k) ⟨_, y, hy, rfl⟩
  have hmin' : ∀ y, eGood l x0 y → ¬ sm x0 y 10 < sm x0 μ 10 := fun y h c => hmin _ (by rw [← hk]; exact c) ⟨y, h, rfl⟩
  have step : ∀ x : Nat → Int, (∀ e, x0 e ≤ x e) → (∀ e, x e ≤ μ e) → ∀ e, e < 10 → x e < μ e → ∃ t, t ∈ l ∧ x t.2.1 = μ t.2.1 ∧ μ t.1 = μ t.2.1 + t.2.2 ∧ x t.1 < μ t.1 := by
    intro x hx0 hx e he hlt
    refine Classical.byContradiction fun hno => ?_
    have hno' : ∀ t, t ∈ l → x t.2.1 = μ t.2.1 → x t.1 < μ t.1 → μ t.2.1 + t.2.2 + 1 ≤ μ t.1 := fun t ht h1 h2 => by
      have h3 := hμ.2.2 t ht
      have : ¬ μ t.1 = μ t.2.1 + t.2.2 := fun h => hno ⟨t, ht, h1, h, h2⟩
      omega
    have hlow : ∀ e', (if x e' < μ e' then μ e' - 1 else μ e') ≤ μ e' := fun e' => by split <;> omega
    refine hmin' (fun e' => if x e' < μ e' then μ e' - 1 else μ e') ⟨fun e' => ?_, fun e' h10 => ?_, fun t ht => ?_⟩ (sm_lt hlow (e := e) ?_ ?_ 10 he)
    · have := hx0 e'; have := hμ.1 e'
      show x0 e' ≤ if x e' < μ e' then μ e' - 1 else μ e'
      split <;> omega
    · have h1 := hμ.2.1 e' h10
      have := hx0 e'; have := hx e'
      show (if x e' < μ e' then μ e' - 1 else μ e') = x0 e'
      rw [if_neg (by omega)]
      exact h1
    · show (if x t.2.1 < μ t.2.1 then μ t.2.1 - 1 else μ t.2.1) + t.2.2 ≤ if x t.1 < μ t.1 then μ t.1 - 1 else μ t.1
      have h1 := hμ.2.2 t ht
      have h2 := hx t.2.1
      by_cases ho : x t.2.1 < μ t.2.1
      · rw [if_pos ho]
        split <;> omega
      · rw [if_neg ho]
        by_cases hE : x t.1 < μ t.1
        · rw [if_pos hE]
          have := hno' t ht (by omega) hE
          omega
        · rw [if_neg hE]; exact h1
    · show (if x e < μ e then μ e - 1 else μ e) < μ e
      rw [if_pos hlt]; omega
    · have := hx0 e
      show x0 e ≤ if x e < μ e then μ e - 1 else μ e
      rw [if_pos hlt]; omega
  have key : ∀ k (x : Nat → Int), (∀ e, x0 e ≤ x e) → (∀ e, x e ≤ μ e) → nf x μ 10 ≤ k → ∀ e, eIt l k x e = μ e := by
    intro k
    induction k with
    | zero =>
      intro x h0 h1 hn e
      show x e = μ e
      have h2 := h0 e; have h3 := h1 e
      by_cases he : e < 10
      · have := nf_0 (x := x) (y := μ) 10 (by omega) e he
        omega
      · have := hμ.2.1 e (by omega)
        omega
    | succ k ih =>
      intro x h0 h1 hn
      refine ih (eRun x l) (fun e => Int.le_trans (h0 e) (eRun_ge e)) (eRun_le h1 hμ.2.2) ?_
      by_cases hz : nf x μ 10 = 0
      · have := nf_mono (y := μ) (fun e => eRun_ge (l := l) (x := x) e) 10
        omega
      · obtain ⟨e, he, hlt⟩ : ∃ e, e < 10 ∧ x e < μ e := by
          refine Classical.byContradiction fun hno => hz ?_
          have : ∀ n, n ≤ 10 → nf x μ n = 0 := by
            intro n
            induction n with
            | zero => intro _; rfl
            | succ n ih2 =>
              intro hn10
              show nf x μ n + (if x n < μ n then 1 else 0) = 0
              rw [ih2 (by omega), if_neg (fun c => hno ⟨n, by omega, c⟩)]
          exact this 10 (Nat.le_refl _)
        obtain ⟨t, ht, t1, t2, t3⟩ := step x h0 h1 e he hlt
        have h4 := eRun_tight h1 hμ.2.2 ht t1 t2
        have := nf_lt (y := μ) (fun e => eRun_ge (l := l) (x := x) e) t3 (by rw [h4]; omega) 10 (hl t ht)
        omega
  have hfin := key 10 x0 (fun e => Int.le_refl _) hμ.1 (nf_le 10)
  have : eIt l 10 x0 = μ := funext hfin
  rw [this]
  exact hμ.2.2
/-- rounds until nothing moves -/
def stl (l : List Eg) : Nat → (Nat → Int) → Option (Nat → Int)
  | 0, _ => none
  | k + 1, x => if eMov x l = true then stl l k (eRun x l) else some x
theorem eIt_ge {l : List Eg} : ∀ k (x : Nat → Int) e, x e ≤ eIt l k x e := by
  intro k
  induction k with
  | zero => intro x e; exact Int.le_refl _
  | succ k ih => intro x e; exact Int.le_trans (eRun_ge e) (ih (eRun x l) e)
theorem stl_some {l : List Eg} : ∀ k (x z : Nat → Int), stl l k x = some z → eOk l z ∧ (∀ e, x e ≤ z e) ∧ ∀ y, (∀ e, x e ≤ y e) → eOk l y → ∀ e, z e ≤ y e := by
  intro k
  induction k with
  | zero => intro x z h; cases h
  | succ k ih =>
    intro x z h
    unfold stl at h
    split at h
    · obtain ⟨a, b, c⟩ := ih _ _ h
      exact ⟨a, fun e => Int.le_trans (eRun_ge e) (b e), fun y h1 h2 => c y (eRun_le h1 h2) h2⟩
    · next hm =>
      cases h
      have hm : eMov x l = false := by cases he : eMov x l <;> simp_all
      exact ⟨(eMov_no hm).2, fun e => Int.le_refl _, fun y h1 _ => h1⟩
theorem stl_ok {l : List Eg} : ∀ k (x : Nat → Int), eOk l (eIt l k x) → ∃ z, stl l (k + 1) x = some z := by
  intro k
  induction k with
  | zero =>
    intro x h
    refine ⟨x, ?_⟩
    have := eMov_ok h
    unfold stl
    rw [if_neg (by rw [show eIt l 0 x = x from rfl] at this; rw [this]; decide)]
  | succ k ih =>
    intro x h
    unfold stl
    by_cases hm : eMov x l = true
    · rw [if_pos hm]
      exact ih (eRun x l) h
    · rw [if_neg hm]
      exact ⟨x, rfl⟩
theorem stl_11 {l : List Eg} (hl : ∀ t, t ∈ l → t.1 < 10) {x0 y : Nat → Int} (hy : eGood l x0 y) : ∃ z, stl l 11 x0 = some z := stl_ok 10 x0 (e_conv hl hy)
