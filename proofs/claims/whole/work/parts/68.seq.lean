section
/-! ===== the row of tokens ===== -/
theorem wf_le {b : Nat → Int32} {p e : Nat} : ∀ (W : List (List Int32)) (k : Nat), k + W.length ≤ 14 → wfind b p e W k ≤ 14 := by
  intro W
  induction W with
  | nil => intro k _; exact Nat.le_refl 14
  | cons w W ih =>
    intro k hk
    rw [List.length_cons] at hk
    unfold wfind
    split
    · omega
    · exact ih (k + 1) (by omega)
theorem tcn_r {b : Nat → Int32} {n p : Nat} : tcn b n p < 28 ∧ (tcn b n p = 26 ↔ ¬ p < n) := by
  unfold tcn
  by_cases hp : p < n
  · rw [if_pos hp]
    by_cases hl : s_X6_isLetter (b p) = 0
    · rw [if_pos hl]
      by_cases hd : s_X6_isDigit (b p) = 0
      · rw [if_pos hd]
        have := sgq_r (b p) (decide (p + 1 < n ∧ b (p + 1) = 61))
        omega
      · rw [if_neg hd]
        split <;> omega
    · rw [if_neg hl]
      have := wf_le (b := b) (p := p) (e := rr s_X6_isLetter b n p) KW 0 (by decide)
      split <;> omega
  · rw [if_neg hp]
    omega
theorem sgl_r (c : Nat) : 1 ≤ sgl c ∧ sgl c ≤ 2 := by
  unfold sgl
  split <;> omega
theorem ten_b {b : Nat → Int32} {n p : Nat} (hp : p ≤ n) : (p ≤ ten b n p ∧ ten b n p ≤ n) ∧ (p < n → p < ten b n p) := by
  unfold ten
  by_cases h : p < n
  · rw [if_pos h]
    by_cases hl : s_X6_isLetter (b p) = 0
    · rw [if_pos hl]
      by_cases hd : s_X6_isDigit (b p) = 0
      · rw [if_pos hd]
        have r := sgl_r (sgq (b p) (decide (p + 1 < n ∧ b (p + 1) = 61)))
        have r2 : sgl (sgq (b p) (decide (p + 1 < n ∧ b (p + 1) = 61))) = 2 → p + 1 < n := by
          intro q
          unfold sgl at q
          split at q
          · next q1 => exact (of_decide_eq_true (sgq_2 q1)).1
          · omega
        omega
      · rw [if_neg hd]
        have h1 := rr_b (P := s_X6_isDigit) (b := b) hp
        have h2 := rr_lt (P := s_X6_isDigit) (b := b) h hd
        omega
    · rw [if_neg hl]
      have h1 := rr_b (P := s_X6_isLetter) (b := b) hp
      have h2 := rr_lt (P := s_X6_isLetter) (b := b) h hl
      omega
  · rw [if_neg h]
    omega
def ps (b : Nat → Int32) (n : Nat) : Nat → Nat
  | 0 => 0
  | k + 1 => ten b n (rr s_X6_isBlank b n (ps b n k))
def pl (b : Nat → Int32) (n k : Nat) : Nat := rr s_X6_isBlank b n (ps b n k)
def tk (b : Nat → Int32) (n k : Nat) : Nat := tcn b n (pl b n k)
def vl (b : Nat → Int32) (n k : Nat) : Int32 := dg b (pl b n k) (rr s_X6_isDigit b n (pl b n k) - pl b n k)
theorem ps_le {b : Nat → Int32} {n : Nat} : ∀ k, ps b n k ≤ n := by
  intro k
  induction k with
  | zero => exact Nat.zero_le n
  | succ k ih => exact (ten_b (rr_b ih).2).1.2
theorem pl_le {b : Nat → Int32} {n k : Nat} : pl b n k ≤ n := (rr_b (ps_le k)).2
theorem tk_lt {b : Nat → Int32} {n k : Nat} : tk b n k < 28 := tcn_r.1
theorem tk_26 {b : Nat → Int32} {n k : Nat} : tk b n k = 26 ↔ ¬ pl b n k < n := tcn_r.2
theorem pl_st {b : Nat → Int32} {n k : Nat} (h : tk b n k ≠ 26) : pl b n k < pl b n (k + 1) := by
  have h1 : pl b n k < n := Decidable.of_not_not (fun q => h (tk_26.mpr q))
  have h2 : pl b n k < ps b n (k + 1) := (ten_b pl_le).2 h1
  have h3 : ps b n (k + 1) ≤ pl b n (k + 1) := (rr_b (ps_le (k + 1))).1
  omega
theorem pl_mo {b : Nat → Int32} {n j : Nat} : ∀ k, j < k → (∀ q, j ≤ q → q < k → tk b n q ≠ 26) → pl b n j < pl b n k := by
  intro k
  induction k with
  | zero => intro h _; omega
  | succ k ih =>
    intro h hq
    have h1 := pl_st (hq k (by omega) (by omega))
    by_cases hj : j = k
    · subst hj; exact h1
    · have := ih (by omega) (fun q a c => hq q a (by omega))
      omega
theorem tk_15 {b : Nat → Int32} {n p : Nat} (h : tcn b n p = 15) : p < n ∧ s_X6_isLetter (b p) = 0 ∧ ¬ s_X6_isDigit (b p) = 0 ∧ rr s_X6_isDigit b n p - p ≤ 4 := by
  unfold tcn at h
  by_cases hp : p < n
  · rw [if_pos hp] at h
    by_cases hl : s_X6_isLetter (b p) = 0
    · rw [if_pos hl] at h
      by_cases hd : s_X6_isDigit (b p) = 0
      · rw [if_pos hd] at h
        have := sgq_r (b p) (decide (p + 1 < n ∧ b (p + 1) = 61))
        omega
      · rw [if_neg hd] at h
        by_cases hc : rr s_X6_isDigit b n p - p ≤ 4
        · exact ⟨hp, hl, hd, hc⟩
        · rw [if_neg hc] at h; omega
    · rw [if_neg hl] at h
      have := wf_le (b := b) (p := p) (e := rr s_X6_isLetter b n p) KW 0 (by decide)
      split at h <;> omega
  · rw [if_neg hp] at h; omega
theorem vl_nI {b : Nat → Int32} {n k : Nat} (h : tk b n k = 15) : ∃ x, x < 10000 ∧ vl b n k = nI x := by
  obtain ⟨h1, -, h3, h4⟩ := tk_15 h
  have hb := rr_b (P := s_X6_isDigit) (b := b) (pl_le (b := b) (n := n) (k := k))
  obtain ⟨x, hx, e⟩ := dg_nI (b := b) (i := pl b n k) (rr s_X6_isDigit b n (pl b n k) - pl b n k) h4 (fun j hj => rr_in (P := s_X6_isDigit) (n := n) pl_le (Nat.le_add_right _ _) (by omega))
  refine ⟨x, Nat.lt_of_lt_of_le hx ?_, e⟩
  exact Nat.le_trans (Nat.pow_le_pow_right (by decide) h4) (by decide)
/-! ===== names as numbers ===== -/
def dgt (c : Int32) : Nat := c.toNatClampNeg - 96
def nm (b : Nat → Int32) (p : Nat) : Nat → Nat
  | 0 => 0
  | m + 1 => 27 * nm b p m + dgt (b (p + m))
theorem let_1 {c : Int32} (h : ¬ s_X6_isLetter c = 0) : ∃ d, d < 26 ∧ c = nI (97 + d) ∧ dgt c = d + 1 := by
  have h1 : 97 ≤ c.toInt ∧ c.toInt ≤ 122 := by
    unfold s_X6_isLetter at h
    by_cases q : c < 97
    · rw [if_pos q] at h; exact absurd rfl h
    · rw [if_neg q] at h
      by_cases q2 : 122 < c
      · rw [if_pos q2] at h; exact absurd rfl h
      · rw [Int32.lt_iff_toInt_lt] at q q2
        have e1 : (97 : Int32).toInt = 97 := rfl
        have e2 : (122 : Int32).toInt = 122 := rfl
        omega
  have h2 := ia_nI c (by omega)
  have h3 := ia_cn (x := c) (by omega)
  refine ⟨c.toNatClampNeg - 97, by omega, ?_, ?_⟩
  · rw [show 97 + (c.toNatClampNeg - 97) = c.toNatClampNeg by omega]; exact h2
  · unfold dgt; omega
theorem nm_in {b b' : Nat → Int32} {p p' : Nat} : ∀ m m', (∀ i, i < m → ¬ s_X6_isLetter (b (p + i)) = 0) → (∀ i, i < m' → ¬ s_X6_isLetter (b' (p' + i)) = 0) → nm b p m = nm b' p' m' → m = m' ∧ ∀ i, i < m → b (p + i) = b' (p' + i) := by
  intro m
  induction m with
  | zero =>
    intro m' _ h2 e
    cases m' with
    | zero => exact ⟨rfl, fun i hi => by omega⟩
    | succ m' =>
      exfalso
      obtain ⟨d, -, -, hd⟩ := let_1 (h2 m' (by omega))
      have e' : (0 : Nat) = 27 * nm b' p' m' + dgt (b' (p' + m')) := e
      omega
  | succ m ih =>
    intro m' h1 h2 e
    obtain ⟨d, hd, c1, hd1⟩ := let_1 (h1 m (by omega))
    cases m' with
    | zero =>
      exfalso
      have e' : 27 * nm b p m + dgt (b (p + m)) = 0 := e
      omega
    | succ m' =>
      obtain ⟨d', hd', c2, hd2⟩ := let_1 (h2 m' (by omega))
      have e' : 27 * nm b p m + dgt (b (p + m)) = 27 * nm b' p' m' + dgt (b' (p' + m')) := e
      obtain ⟨a1, a2⟩ := ih m' (fun i hi => h1 i (by omega)) (fun i hi => h2 i (by omega)) (by omega)
      subst a1
      refine ⟨rfl, fun i hi => ?_⟩
      by_cases hi2 : i = m
      · subst hi2
        rw [c1, c2, show d = d' by omega]
      · exact a2 i (by omega)
theorem nm_eq {b b' : Nat → Int32} {p p' : Nat} : ∀ m, (∀ i, i < m → b (p + i) = b' (p' + i)) → nm b p m = nm b' p' m := by
  intro m
  induction m with
  | zero => intro _; rfl
  | succ m ih =>
    intro h
    show 27 * nm b p m + dgt (b (p + m)) = 27 * nm b' p' m + dgt (b' (p' + m))
    rw [ih (fun i hi => h i (by omega)), h m (by omega)]
theorem nm_lt {b : Nat → Int32} {p : Nat} : ∀ m, (∀ i, i < m → ¬ s_X6_isLetter (b (p + i)) = 0) → nm b p m < 27 ^ m := by
  intro m
  induction m with
  | zero => intro _; exact Nat.one_pos
  | succ m ih =>
    intro h
    obtain ⟨d, hd, -, hd1⟩ := let_1 (h m (by omega))
    have := ih (fun i hi => h i (by omega))
    show 27 * nm b p m + dgt (b (p + m)) < _
    rw [Nat.pow_succ]
    omega
theorem wp_iff {b : Nat → Int32} {e : Nat} : ∀ (ws : List Int32) (p : Nat), wp b e ws p = true ↔ ∀ i, i < ws.length → p + i < e ∧ b (p + i) = ws.getD i 0 := by
  intro ws
  induction ws with
  | nil => intro p; exact ⟨fun _ i hi => absurd hi (Nat.not_lt_zero i), fun _ => rfl⟩
  | cons c ws ih =>
    intro p
    show (decide (p < e) && decide (b p = c) && wp b e ws (p + 1)) = true ↔ _
    simp only [Bool.and_eq_true, decide_eq_true_eq]
    rw [ih (p + 1)]
    constructor
    · rintro ⟨⟨h1, h2⟩, h3⟩ i hi
      cases i with
      | zero => exact ⟨h1, h2⟩
      | succ i =>
        have := h3 i (by rw [List.length_cons] at hi; omega)
        rw [show p + (i + 1) = p + 1 + i by omega]
        exact this
    · intro h
      refine ⟨h 0 (by rw [List.length_cons]; omega), fun i hi => ?_⟩
      have := h (i + 1) (by rw [List.length_cons]; omega)
      rw [show p + (i + 1) = p + 1 + i by omega] at this
      exact this
def kws (q : Nat) : List Int32 := KW.getD q []
def kwn (q : Nat) : Nat := nm (fun i => (kws q).getD i 0) 0 (kws q).length
theorem kw_let : ∀ q, q < 14 → ∀ i, i < (kws q).length → ¬ s_X6_isLetter ((kws q).getD i 0) = 0 := by decide +kernel
theorem kw_J : ∀ q, q < 14 → k_J 53 q = lN (kwn q) := by decide +kernel
theorem kw_n : ∀ q, q < 14 → ∀ q', q' < 14 → kwn q = kwn q' → q = q' := by decide +kernel
theorem kw_lt : ∀ q, q < 14 → kwn q < 2 ^ 40 := by decide +kernel
theorem wf_mt {b : Nat → Int32} {p e : Nat} : ∀ (W : List (List Int32)) (k : Nat), k + W.length = 14 → (∀ q, k ≤ q → kws q = W.getD (q - k) []) → (∀ q, k ≤ q → q < 14 → (wp b e (kws q) p = true ∧ p + (kws q).length = e) → ∃ q', q' ≤ q ∧ wfind b p e W k = q' ∧ wp b e (kws q') p = true ∧ p + (kws q').length = e) ∧ (wfind b p e W k < 14 → wp b e (kws (wfind b p e W k)) p = true ∧ p + (kws (wfind b p e W k)).length = e) := by
  intro W
  induction W with
  | nil =>
    intro k hk _
    refine ⟨fun q h1 h2 => ?_, fun h => ?_⟩
    · have : k = 14 := hk
      omega
    · exact absurd h (Nat.lt_irrefl 14)
  | cons w W ih =>
    intro k hk hW
    rw [List.length_cons] at hk
    have hw : kws k = w := by rw [hW k (Nat.le_refl k), Nat.sub_self]; rfl
    obtain ⟨i1, i2⟩ := ih (k + 1) (by omega) (fun q hq => by
      rw [hW q (by omega), show q - k = (q - (k + 1)) + 1 by omega]
      rfl)
    by_cases hm : wp b e w p = true ∧ p + w.length = e
    · have he : wfind b p e (w :: W) k = k := by unfold wfind; rw [if_pos hm]
      rw [he, hw]
      exact ⟨fun q h1 _ _ => ⟨k, h1, rfl, by rw [hw]; exact hm⟩, fun _ => hm⟩
    · have he : wfind b p e (w :: W) k = wfind b p e W (k + 1) := by
        conv => lhs; unfold wfind
        rw [if_neg hm]
      rw [he]
      refine ⟨fun q h1 h2 h3 => ?_, i2⟩
      by_cases hq : q = k
      · subst hq
        rw [hw] at h3
        exact absurd h3 hm
      · exact i1 q (by omega) h2 h3
/-- a key is this word just where the number is that of the key -/
theorem kw_is {b : Nat → Int32} {p e : Nat} (hp : p ≤ e) (hl : ∀ i, i < e - p → ¬ s_X6_isLetter (b (p + i)) = 0) {q : Nat} (hq : q < 14) : kwn q = nm b p (e - p) ↔ wfind b p e KW 0 = q := by
  obtain ⟨w1, w2⟩ := wf_mt (b := b) (p := p) (e := e) KW 0 (by decide) (fun q _ => by unfold kws; rw [Nat.sub_zero])
  have m1 : ∀ q, q < 14 → (wp b e (kws q) p = true ∧ p + (kws q).length = e) → kwn q = nm b p (e - p) := by
    intro q hq ⟨h1, h2⟩
    rw [show e - p = (kws q).length by omega]
    refine nm_eq _ (fun i hi => ?_)
    rw [Nat.zero_add]
    exact (((wp_iff _ _).mp h1) i hi).2.symm
  have m2 : ∀ q, q < 14 → kwn q = nm b p (e - p) → wp b e (kws q) p = true ∧ p + (kws q).length = e := by
    intro q hq h
    obtain ⟨a1, a2⟩ := nm_in (b := fun i => (kws q).getD i 0) (p := 0) _ _ (fun i hi => by rw [Nat.zero_add]; exact kw_let q hq i hi) hl h
    refine ⟨(wp_iff _ _).mpr (fun i hi => ⟨by omega, ?_⟩), by omega⟩
    have := a2 i hi
    rw [Nat.zero_add] at this
    exact this.symm
  constructor
  · intro h
    obtain ⟨q', h1, h2, h3⟩ := w1 q (Nat.zero_le q) hq (m2 q hq h)
    have := m1 q' (by omega) h3
    rw [h2]
    exact kw_n q' (by omega) q hq (this.trans h.symm)
  · intro h
    have := w2 (by omega)
    rw [h] at this
    exact m1 q hq this
end
