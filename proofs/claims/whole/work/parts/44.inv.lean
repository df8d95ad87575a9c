/-! ===== numbers ===== -/
theorem ia_add {a b : Int32} (h1 : -2147483648 ≤ a.toInt + b.toInt) (h2 : a.toInt + b.toInt < 2147483648) : (a + b).toInt = a.toInt + b.toInt := by
  rw [Int32.toInt_add]
  exact Int.bmod_eq_of_le (by omega) (by omega)
theorem ia_sub {a b : Int32} (h1 : -2147483648 ≤ a.toInt - b.toInt) (h2 : a.toInt - b.toInt < 2147483648) : (a - b).toInt = a.toInt - b.toInt := by
  rw [Int32.toInt_sub]
  exact Int.bmod_eq_of_le (by omega) (by omega)
theorem ia_mul {a b : Int32} (h1 : -2147483648 ≤ a.toInt * b.toInt) (h2 : a.toInt * b.toInt < 2147483648) : (a * b).toInt = a.toInt * b.toInt := by
  rw [Int32.toInt_mul]
  exact Int.bmod_eq_of_le (by omega) (by omega)
theorem ia_p1 {a : Int32} (h : a.toInt < 2147483647) : (a + 1).toInt = a.toInt + 1 := by
  have h0 := Int32.le_toInt a
  exact ia_add (b := 1) (by show _ ≤ a.toInt + 1; omega) (by show a.toInt + 1 < _; omega)
theorem ia_cl (x : Int32) : (x.toNatClampNeg : Int) = if 0 ≤ x.toInt then x.toInt else 0 := by
  show (x.toInt.toNat : Int) = _
  split <;> omega
theorem ia_cn {x : Int32} (h : 0 ≤ x.toInt) : (x.toNatClampNeg : Int) = x.toInt := by
  rw [ia_cl, if_pos h]
theorem ia_eq {a b : Int32} : a = b ↔ a.toInt = b.toInt := Int32.toInt_inj.symm
theorem ia_nI (x : Int32) (h : 0 ≤ x.toInt) : x = nI x.toNatClampNeg := by
  have h1 := ia_cn h
  have h2 := Int32.toInt_lt x
  rw [ia_eq, nI_toInt (by omega), h1]
theorem ia_nat {x : Int32} {n : Nat} (h : x.toInt = n) : x.toNatClampNeg = n := by
  have := ia_cn (x := x) (by omega)
  omega
theorem isB_0 {a b : Int32} : s_X9_isBelow a b = 0 ↔ ¬ (0 ≤ a.toInt ∧ a.toInt < b.toInt) := by
  unfold s_X9_isBelow
  split
  · next h => rw [Int32.lt_iff_toInt_lt] at h; simp only [true_iff]; have : (0 : Int32).toInt = 0 := rfl; omega
  · next h =>
    rw [Int32.lt_iff_toInt_lt] at h
    have h0 : (0 : Int32).toInt = 0 := rfl
    split
    · next h2 => rw [Int32.le_iff_toInt_le] at h2; simp only [true_iff]; omega
    · next h2 => rw [Int32.le_iff_toInt_le] at h2; exact ⟨fun h => absurd h (by decide), fun h => absurd ⟨by omega, by omega⟩ h⟩
/-! ===== what the class and the reference have in common between two calls ===== -/
def scr (k a : Nat) : Bool := (k == 3 || k == 4 || k == 5 || k == 6 || k == 7 || k == 8 || k == 36 || k == 38 || k == 39 || k == 40 || k == 41 || k == 42 || k == 43 || k == 44 || k == 45 || k == 48 || k == 49 || k == 50 || k == 51 || k == 52 || k == 67 || k == 83 || k == 84 || k == 90 || k == 91) || (k == 1 && (a == 2 || a == 3 || a == 4 || a == 5)) || (k == 46 && (a == 0 || a == 4 || a == 10 || a == 11 || a == 12 || a == 13 || a == 14 || a == 15 || a == 16 || a == 19 || a == 30 || a == 34 || a == 59 || a == 68))
/-- alike beyond what a call leaves lying about -/
def Ag (I I' : am_I) : Prop := ∀ k a, scr k a = false → I' k a = I k a
theorem Ag.rf {I : am_I} : Ag I I := fun _ _ _ => rfl
theorem Ag.tr {I I' I'' : am_I} (h : Ag I I') (h2 : Ag I' I'') : Ag I I'' := fun k a s => (h2 k a s).trans (h k a s)
theorem Ag.w {I I' : am_I} {k a : Nat} {v : Int32} (h : Ag I I') (hs : scr k a = true) : Ag I (am_w I' k a v) := by
  intro k' a' s
  unfold am_w va_up
  split
  · next hk =>
    show (if a' = a then v else I' k a') = I k' a'
    split
    · next ha => rw [hk, ha, hs] at s; cases s
    · next ha => rw [← hk]; exact h k' a' s
  · exact h k' a' s
def VR (I : am_I) : Prop := (I 47 = I 2 ∧ ∀ k, vp_nar .byte (I 2 k) = I 2 k) ∧ I 46 2 = I 1 1 ∧ I 46 17 = I 0 11 ∧ I 68 = I 10 ∧ I 69 = I 11 ∧ I 46 35 = I 9 3 ∧ I 70 = I 14 ∧ I 46 38 = I 13 1 ∧ I 71 = I 16 ∧ I 72 = I 17 ∧ I 73 = I 18 ∧ I 46 40 = I 15 3
def VS (I : am_I) : Prop := I 74 = I 19 ∧ I 75 = I 20 ∧ I 76 = I 21 ∧ I 77 = I 22 ∧ I 78 = I 23 ∧ I 79 = I 24 ∧ I 80 = I 25 ∧ I 46 44 = I 15 11 ∧ I 81 = I 27 ∧ I 46 52 = I 26 2 ∧ I 85 = I 28 ∧ I 82 = I 37 ∧ I 46 54 = I 0 9 ∧ I 46 56 = I 0 10 ∧ I 46 61 = I 29 7
def VB (I : am_I) : Prop := (0 ≤ (I 1 1).toInt ∧ (I 1 1).toInt ≤ 2000) ∧ (0 ≤ (I 9 3).toInt ∧ (I 9 3).toInt ≤ 12) ∧ (0 ≤ (I 13 1).toInt ∧ (I 13 1).toInt ≤ 12) ∧ (0 ≤ (I 15 3).toInt ∧ (I 15 3).toInt ≤ 6) ∧ (0 ≤ (I 15 11).toInt ∧ (I 15 11).toInt ≤ 30) ∧ (0 ≤ (I 26 2).toInt ∧ (I 26 2).toInt ≤ 6) ∧ (0 ≤ (I 0 9).toInt ∧ (I 0 9).toInt ≤ 4) ∧ (0 ≤ (I 29 7).toInt ∧ (I 29 7).toInt ≤ 12)
def VP (I : am_I) : Prop := (∀ p : Nat, (p : Int) < (I 15 11).toInt → (0 ≤ (I 19 p).toInt ∧ (I 19 p).toInt < (I 15 3).toInt) ∧ (0 ≤ (I 22 p).toInt ∧ (I 22 p).toInt < (I 13 1).toInt) ∧ (-1 ≤ (I 23 p).toInt ∧ (I 23 p).toInt < (I 9 3).toInt)) ∧ (∀ t : Nat, (t : Int) < (I 15 3).toInt → 0 ≤ (I 16 t).toInt ∧ (I 16 t).toInt < (I 9 3).toInt)
/-- a telling holds -/
def tHold (I : am_I) (k : Nat) (x : Nat → Int) : Prop := if I 30 k = 0 then (I 33 k).toInt ≤ x (I 31 k).toNatClampNeg ∧ x (I 31 k).toNatClampNeg ≤ (I 34 k).toInt else if I 30 k = 1 then x (I 32 k).toNatClampNeg + (I 33 k).toInt ≤ x (I 31 k).toNatClampNeg else x (I 31 k).toNatClampNeg = x (I 32 k).toNatClampNeg
def tSol (I : am_I) (m s : Nat) (x : Nat → Int) : Prop := (∀ e, e < 10 → 0 ≤ x e ∧ x e ≤ 9999) ∧ ∀ k, k < m → s / 2 ^ k % 2 = 0 → tHold I k x
def tSat (I : am_I) (m s : Nat) : Prop := ∃ x : Nat → Int, tSol I m s x
def bcn : Nat → Nat → Nat
  | 0, _ => 0
  | n + 1, s => bcn n s + s / 2 ^ n % 2
def tLo (I : am_I) (m s : Nat) : Prop := s < 2 ^ m ∧ tSat I m s ∧ ∀ s', s' < 2 ^ m → tSat I m s' → bcn 12 s < bcn 12 s' ∨ (bcn 12 s = bcn 12 s' ∧ s' ≤ s)
def tW (I : am_I) (k : Nat) : Prop := (0 ≤ (I 31 k).toInt ∧ (I 31 k).toInt < 10) ∧ (0 ≤ (I 32 k).toInt ∧ (I 32 k).toInt < 10) ∧ ((I 30 k = 0 ∧ I 88 k = I 33 k ∧ I 89 k = I 34 k ∧ 0 ≤ (I 33 k).toInt ∧ (I 33 k).toInt ≤ (I 34 k).toInt ∧ (I 34 k).toInt ≤ 9999) ∨ (I 30 k = 1 ∧ I 88 k = I 32 k ∧ I 89 k = I 33 k ∧ -9999 ≤ (I 33 k).toInt ∧ (I 33 k).toInt ≤ 9999) ∨ (I 30 k = 2 ∧ I 88 k = I 32 k ∧ I 89 k = 0))
def VT (I : am_I) : Prop := I 86 = I 30 ∧ I 87 = I 31 ∧ (∀ k : Nat, (k : Int) < (I 29 7).toInt → tW I k) ∧ ∀ m : Nat, (m : Int) ≤ (I 29 7).toInt → ∃ s, tLo I m s ∧ I 35 m = nI s
/-- how many values lie there when n cells from i on are reckoned -/
def hgt (r : Nat → Int32) (i : Nat) : Nat → Option Nat
  | 0 => some 0
  | n + 1 => match hgt r i n with
    | none => none
    | some h => if 10017 ≤ (r (i + n)).toInt then (if 2 ≤ h then some (h - 1) else none) else (if h < 15 then some (h + 1) else none)
def cCl (x k v : Int32) : Prop := (∃ n, n < 10000 ∧ x = nI n ∧ k = 0 ∧ v = nI n) ∨ (∃ n, n < 7 ∧ x = nI (10007 + n) ∧ k = 1 ∧ v = nI n) ∨ (∃ n, n < 3 ∧ x = nI (10017 + n) ∧ k = nI (2 + n))
def cRu (c : am_I) (M : am_I) (g L : Nat) (rb : Nat → Nat) (r : Nat) : Prop := (c 1 r = 0 ∨ c 1 r = 1 ∨ c 1 r = 2) ∧ M 56 (16 * g + r) = c 1 r ∧ M 57 (16 * g + r) = nI (rb r) ∧ M 58 (16 * g + r) = nI (rb (r + 1)) ∧ c 2 r = nI (rb (r + 1)) ∧ rb r ≤ rb (r + 1) ∧ rb (r + 1) ≤ L ∧ (rb r < rb (r + 1) → c 5 (rb r) = 1)
def cLi (c : am_I) (M : am_I) (g S : Nat) (lb md : Nat → Nat) (l : Nat) : Prop := (c 5 l = 0 ∨ c 5 l = 1) ∧ M 64 (200 * g + l) = c 5 l ∧ M 61 (200 * g + l) = nI (500 * g + lb l) ∧ M 63 (200 * g + l) = nI (500 * g + lb (l + 1)) ∧ c 4 l = nI (lb (l + 1)) ∧ lb l ≤ lb (l + 1) ∧ lb (l + 1) ≤ S ∧ ((c 3 l = 6 ∧ M 60 (200 * g + l) = 4 ∧ lb (l + 1) = lb l + 1 ∧ ∃ v, v < 12 ∧ c 7 (lb l) = nI v) ∨ (∃ s, s < 4 ∧ c 3 l = nI (20 + s) ∧ M 60 (200 * g + l) = nI s ∧ lb l ≤ md l ∧ md l ≤ lb (l + 1) ∧ M 62 (200 * g + l) = nI (500 * g + md l) ∧ hgt (c 7) (lb l) (md l - lb l) = some 1 ∧ hgt (c 7) (md l) (lb (l + 1) - md l) = some 1)) ∧ (c 6 l = 0 ∨ c 6 l = 1) ∧ (c 6 l = 0 → ∀ i, lb l ≤ i → i < lb (l + 1) → c 7 i ≠ 10009 ∧ c 7 i ≠ 10010)
/-- a consent of the class and a page of the reference say the same -/
def CR (c : am_I) (M : am_I) (g : Nat) : Prop := ∃ (R L S : Nat) (rb lb md : Nat → Nat), R ≤ 16 ∧ L ≤ 133 ∧ S ≤ 400 ∧ c 0 7 = nI R ∧ M 55 g = nI R ∧ rb 0 = 0 ∧ lb 0 = 0 ∧ (∀ r, r < R → cRu c M g L rb r) ∧ (∀ l, l < L → cLi c M g S lb md l) ∧ (∀ i, i < S → cCl (c 7 i) (M 65 (500 * g + i)) (M 66 (500 * g + i))) ∧ (c 0 10 = 0 ∨ c 0 10 = 1) ∧ (c 0 10 = 0 → ∀ r, r < R → ¬ c 1 r = 2 → ∀ l, rb r ≤ l → l < rb (r + 1) → c 6 l = 0)
def VC (nc : Nat) (pn : Int32) (M : am_I) (Q : am_Q) (E : Nat → am_I) : Prop := ∃ (np : Nat) (σ : Nat → Nat), np ≤ 12 ∧ pn = nI np ∧ nc = np + 1 ∧ (∀ p, p ≤ np → σ p < nc) ∧ (∀ p q, p ≤ np → q ≤ np → σ p = σ q → p = q) ∧ Q 0 12 = some (1000 + 8 * σ np) ∧ (∀ p, p < np → Q 12 p = some (1000 + 8 * σ p) ∧ ∃ lv, lv < 2 ∧ M 54 p = nI lv ∧ CR (E (σ p)) M (2 * p + lv)) ∧ ∀ p, np ≤ p → p < 12 → M 54 p = 0 ∧ M 55 (2 * p) = 0
def VQ (nc : Nat) (Q : am_Q) : Prop := (∀ j, Gr (lQ j Q)) ∧ ∀ k f r, Q k f = some r → lv_l nc r
def VV : am_V := fun nc I J Q E => VR I ∧ VS I ∧ VB I ∧ VP I ∧ VT I ∧ VC nc (I 9 3) I Q E ∧ VQ nc Q ∧ J 53 = k_J 53
theorem Ag.row {I I' : am_I} (h : Ag I I') {k : Nat} (hs : ∀ a, scr k a = false) : I' k = I k := funext fun a => h k a (hs a)
set_option maxHeartbeats 4000000 in
theorem VV.ag {nc : Nat} {I I' : am_I} {J : am_J} {Q : am_Q} {E : Nat → am_I} (h : Ag I I') (hV : VV nc I J Q E) : VV nc I' J Q E := by
  have r2 : I' 2 = I 2 := h.row (fun _ => rfl)
  have r10 : I' 10 = I 10 := h.row (fun _ => rfl)
  have r11 : I' 11 = I 11 := h.row (fun _ => rfl)
  have r14 : I' 14 = I 14 := h.row (fun _ => rfl)
  have r16 : I' 16 = I 16 := h.row (fun _ => rfl)
  have r17 : I' 17 = I 17 := h.row (fun _ => rfl)
  have r18 : I' 18 = I 18 := h.row (fun _ => rfl)
  have r19 : I' 19 = I 19 := h.row (fun _ => rfl)
  have r20 : I' 20 = I 20 := h.row (fun _ => rfl)
  have r21 : I' 21 = I 21 := h.row (fun _ => rfl)
  have r22 : I' 22 = I 22 := h.row (fun _ => rfl)
  have r23 : I' 23 = I 23 := h.row (fun _ => rfl)
  have r24 : I' 24 = I 24 := h.row (fun _ => rfl)
  have r25 : I' 25 = I 25 := h.row (fun _ => rfl)
  have r27 : I' 27 = I 27 := h.row (fun _ => rfl)
  have r28 : I' 28 = I 28 := h.row (fun _ => rfl)
  have r30 : I' 30 = I 30 := h.row (fun _ => rfl)
  have r31 : I' 31 = I 31 := h.row (fun _ => rfl)
  have r32 : I' 32 = I 32 := h.row (fun _ => rfl)
  have r33 : I' 33 = I 33 := h.row (fun _ => rfl)
  have r34 : I' 34 = I 34 := h.row (fun _ => rfl)
  have r35 : I' 35 = I 35 := h.row (fun _ => rfl)
  have r37 : I' 37 = I 37 := h.row (fun _ => rfl)
  have r47 : I' 47 = I 47 := h.row (fun _ => rfl)
  have r54 : I' 54 = I 54 := h.row (fun _ => rfl)
  have r55 : I' 55 = I 55 := h.row (fun _ => rfl)
  have r56 : I' 56 = I 56 := h.row (fun _ => rfl)
  have r57 : I' 57 = I 57 := h.row (fun _ => rfl)
  have r58 : I' 58 = I 58 := h.row (fun _ => rfl)
  have r59 : I' 59 = I 59 := h.row (fun _ => rfl)
  have r60 : I' 60 = I 60 := h.row (fun _ => rfl)
  have r61 : I' 61 = I 61 := h.row (fun _ => rfl)
  have r62 : I' 62 = I 62 := h.row (fun _ => rfl)
  have r63 : I' 63 = I 63 := h.row (fun _ => rfl)
  have r64 : I' 64 = I 64 := h.row (fun _ => rfl)
  have r65 : I' 65 = I 65 := h.row (fun _ => rfl)
  have r66 : I' 66 = I 66 := h.row (fun _ => rfl)
  have r68 : I' 68 = I 68 := h.row (fun _ => rfl)
  have r69 : I' 69 = I 69 := h.row (fun _ => rfl)
  have r70 : I' 70 = I 70 := h.row (fun _ => rfl)
  have r71 : I' 71 = I 71 := h.row (fun _ => rfl)
  have r72 : I' 72 = I 72 := h.row (fun _ => rfl)
  have r73 : I' 73 = I 73 := h.row (fun _ => rfl)
  have r74 : I' 74 = I 74 := h.row (fun _ => rfl)
  have r75 : I' 75 = I 75 := h.row (fun _ => rfl)
  have r76 : I' 76 = I 76 := h.row (fun _ => rfl)
  have r77 : I' 77 = I 77 := h.row (fun _ => rfl)
  have r78 : I' 78 = I 78 := h.row (fun _ => rfl)
  have r79 : I' 79 = I 79 := h.row (fun _ => rfl)
  have r80 : I' 80 = I 80 := h.row (fun _ => rfl)
  have r81 : I' 81 = I 81 := h.row (fun _ => rfl)
  have r82 : I' 82 = I 82 := h.row (fun _ => rfl)
  have r85 : I' 85 = I 85 := h.row (fun _ => rfl)
  have r86 : I' 86 = I 86 := h.row (fun _ => rfl)
  have r87 : I' 87 = I 87 := h.row (fun _ => rfl)
  have r88 : I' 88 = I 88 := h.row (fun _ => rfl)
  have r89 : I' 89 = I 89 := h.row (fun _ => rfl)
  have q1_1 : I' 1 1 = I 1 1 := h 1 1 rfl
  have q9_3 : I' 9 3 = I 9 3 := h 9 3 rfl
  have q13_1 : I' 13 1 = I 13 1 := h 13 1 rfl
  have q15_3 : I' 15 3 = I 15 3 := h 15 3 rfl
  have q15_11 : I' 15 11 = I 15 11 := h 15 11 rfl
  have q26_2 : I' 26 2 = I 26 2 := h 26 2 rfl
  have q29_7 : I' 29 7 = I 29 7 := h 29 7 rfl
  have q0_9 : I' 0 9 = I 0 9 := h 0 9 rfl
  have q0_10 : I' 0 10 = I 0 10 := h 0 10 rfl
  have q0_11 : I' 0 11 = I 0 11 := h 0 11 rfl
  have q46_2 : I' 46 2 = I 46 2 := h 46 2 rfl
  have q46_17 : I' 46 17 = I 46 17 := h 46 17 rfl
  have q46_35 : I' 46 35 = I 46 35 := h 46 35 rfl
  have q46_38 : I' 46 38 = I 46 38 := h 46 38 rfl
  have q46_40 : I' 46 40 = I 46 40 := h 46 40 rfl
  have q46_44 : I' 46 44 = I 46 44 := h 46 44 rfl
  have q46_52 : I' 46 52 = I 46 52 := h 46 52 rfl
  have q46_54 : I' 46 54 = I 46 54 := h 46 54 rfl
  have q46_56 : I' 46 56 = I 46 56 := h 46 56 rfl
  have q46_61 : I' 46 61 = I 46 61 := h 46 61 rfl
  unfold VV VR VS VB VP VT VC CR cRu cLi tLo tSat tSol tHold tW at hV ⊢
  simp only [r2, r10, r11, r14, r16, r17, r18, r19, r20, r21, r22, r23, r24, r25, r27, r28, r30, r31, r32, r33, r34, r35, r37, r47, r54, r55, r56, r57, r58, r59, r60, r61, r62, r63, r64, r65, r66, r68, r69, r70, r71, r72, r73, r74, r75, r76, r77, r78, r79, r80, r81, r82, r85, r86, r87, r88, r89, q1_1, q9_3, q13_1, q15_3, q15_11, q26_2, q29_7, q0_9, q0_10, q0_11, q46_2, q46_17, q46_35, q46_38, q46_40, q46_44, q46_52, q46_54, q46_56, q46_61]
  exact hV
set_option maxHeartbeats 4000000 in
theorem CR.ex {c c' M : am_I} {g : Nat} (h : ∀ i, i < 8 → c' i = c i) (hC : CR c M g) : CR c' M g := by
  have h0 := h 0 (by decide)
  have h1 := h 1 (by decide)
  have h2 := h 2 (by decide)
  have h3 := h 3 (by decide)
  have h4 := h 4 (by decide)
  have h5 := h 5 (by decide)
  have h6 := h 6 (by decide)
  have h7 := h 7 (by decide)
  unfold CR cRu cLi at hC ⊢
  simp only [h0, h1, h2, h3, h4, h5, h6, h7]
  exact hC
theorem VV.ex {nc : Nat} {I : am_I} {J : am_J} {Q : am_Q} {E E' : Nat → am_I} (h : ∀ j i, i < 8 → E' j i = E j i) (hV : VV nc I J Q E) : VV nc I J Q E' := by
  obtain ⟨h1, h2, h3, h4, h5, ⟨np, σ, c1, c2, c3, c4, c5, c6, c7, c8⟩, h7⟩ := hV
  refine ⟨h1, h2, h3, h4, h5, ⟨np, σ, c1, c2, c3, c4, c5, c6, fun p hp => ?_, c8⟩, h7⟩
  obtain ⟨d1, lv, d2, d3, d4⟩ := c7 p hp
  exact ⟨d1, lv, d2, d3, d4.ex (h _)⟩
theorem ag_lI {j : Nat} {I : am_I} {E : Nat → am_I} : Ag I (lI j I E) := by
  intro k a s
  by_cases h : 38 ≤ k ∧ k < 46
  · exfalso
    have : k = 38 ∨ k = 39 ∨ k = 40 ∨ k = 41 ∨ k = 42 ∨ k = 43 ∨ k = 44 ∨ k = 45 := by omega
    rcases this with h | h | h | h | h | h | h | h <;> subst h <;> cases s
  · rw [lI_out h]
/-- a step of two methods that leave the consents alone -/
theorem st_e {yc ym : am_MD} {dc dm : Nat} {As : List Value} {pc pm : am_I → Prop} (sc sm : am_I → Int32 × am_I) (hc : ∀ I J Q, Gr Q → pc I → Cm yc dc 0 0 92 (.ref 0 :: As) I J Q (am_FiI J Q (sc I))) (hm : ∀ I J Q, Gr Q → pm I → Cm ym dm 0 0 92 (.ref 46 :: As) I J Q (am_FiI J Q (sm I)))
    (h : ∀ nc I J Q E, VV nc I J Q E → pc I ∧ pm (sc I).2 ∧ (sm (sc I).2).1 = (sc I).1 ∧ (∀ k, 38 ≤ k → k < 46 → (sm (sc I).2).2 k = I k) ∧ VV nc (sm (sc I).2).2 J Q E) : LStp VV yc ym dc dm 0 0 As := by
  refine st_II sc sm hc hm (fun nc I J Q E hV => ?_)
  have h0 : 0 < nc := by
    obtain ⟨-, -, -, -, -, ⟨np, σ, c1, c2, c3, -⟩, -⟩ := hV
    omega
  obtain ⟨a1, a2, a3, a4, a5⟩ := h nc (lI 0 I E) J Q E (hV.ag ag_lI)
  exact ⟨0, h0, hV.2.2.2.2.2.2.1.1 0, hV.2.2.2.2.2.2.1.2, a1, a2, a3, a5.ex (l_keep a4)⟩
/-- the same where nothing is written -/
theorem st_r {yc ym : am_MD} {dc dm : Nat} {As : List Value} {pc pm : am_I → Prop} (sc sm : am_I → Int32) (hc : ∀ I J Q, Gr Q → pc I → Cm yc dc 0 0 92 (.ref 0 :: As) I J Q (am_Fi I J Q (sc I))) (hm : ∀ I J Q, Gr Q → pm I → Cm ym dm 0 0 92 (.ref 46 :: As) I J Q (am_Fi I J Q (sm I)))
    (h : ∀ nc I J Q E, VV nc I J Q E → pc I ∧ pm I ∧ sm I = sc I) : LStp VV yc ym dc dm 0 0 As :=
  st_e (fun I => (sc I, I)) (fun I => (sm I, I)) hc hm (fun nc I J Q E hV => ⟨(h nc I J Q E hV).1, (h nc I J Q E hV).2.1, (h nc I J Q E hV).2.2, fun _ _ _ => rfl, hV⟩)
