section
/-! ===== a consent in the making ===== -/
theorem sho_1 {m : Nat} (h : m < 32768) : vp_nar .short ((nI m).toInt16.toInt32) = nI m := by
  have e : (nI m).toInt16.toInt32 = nI m := by
    apply Int32.toInt_inj.mp
    rw [Int16.toInt_toInt32, Int32.toInt_toInt16, nI_toInt (by omega)]
    exact Int.bmod_eq_of_le (by omega) (by omega)
  rw [pk_vs, e]
theorem bt_1 : ∀ c, c < 28 → vp_nar .byte ((nI c).toInt8.toInt32) = nI c := by decide +kernel
theorem bo_1 {x : Int32} (h : x = 0 ∨ x = 1) : vp_nar .boolean x = x := by
  rcases h with h | h <;> subst h <;> decide
theorem hgt_cg {r r' : Nat → Int32} {i : Nat} : ∀ n, (∀ j, j < n → r' (i + j) = r (i + j)) → hgt r' i n = hgt r i n := by
  intro n
  induction n with
  | zero => intro _; rfl
  | succ n ih =>
    intro h
    unfold hgt
    rw [ih (fun j hj => h j (by omega)), h n (by omega)]
def cLj (ok : Bool) (A M : am_I) (g S : Nat) (lb md : Nat → Nat) (l : Nat) : Prop := (A 43 l = 0 ∨ A 43 l = 1) ∧ M 64 (200 * g + l) = A 43 l ∧ M 61 (200 * g + l) = nI (500 * g + lb l) ∧ M 63 (200 * g + l) = nI (500 * g + lb (l + 1)) ∧ A 42 l = nI (lb (l + 1)) ∧ lb l ≤ lb (l + 1) ∧ lb (l + 1) ≤ S ∧ ((A 41 l = 6 ∧ M 60 (200 * g + l) = 4 ∧ lb (l + 1) = lb l + 1 ∧ ∃ v, (ok = true → v < 12) ∧ A 45 (lb l) = nI v) ∨ (∃ s, s < 4 ∧ A 41 l = nI (20 + s) ∧ M 60 (200 * g + l) = nI s ∧ lb l ≤ md l ∧ md l ≤ lb (l + 1) ∧ M 62 (200 * g + l) = nI (500 * g + md l) ∧ hgt (A 45) (lb l) (md l - lb l) = some 1 ∧ hgt (A 45) (md l) (lb (l + 1) - md l) = some 1)) ∧ (A 44 l = 0 ∨ A 44 l = 1) ∧ (A 44 l = 0 → ∀ i, lb l ≤ i → i < lb (l + 1) → A 45 i ≠ 10009 ∧ A 45 i ≠ 10010)
def cRj (A M : am_I) (g L : Nat) (rb : Nat → Nat) (r : Nat) : Prop := (A 39 r = 0 ∨ A 39 r = 1 ∨ A 39 r = 2) ∧ M 56 (16 * g + r) = A 39 r ∧ M 57 (16 * g + r) = nI (rb r) ∧ A 40 r = nI (rb (r + 1)) ∧ rb r ≤ rb (r + 1) ∧ rb (r + 1) ≤ L ∧ (rb r < rb (r + 1) → A 43 (rb r) = 1)
def CMk (ok : Bool) (A M : am_I) (g R R' L S : Nat) (rb lb md : Nat → Nat) : Prop := (R ≤ 16 ∧ L ≤ 133 ∧ S ≤ 400) ∧ A 38 7 = nI R ∧ A 38 8 = nI L ∧ A 38 9 = nI S ∧ (A 38 10 = 0 ∨ A 38 10 = 1) ∧ (rb 0 = 0 ∧ lb 0 = 0 ∧ rb R = L ∧ lb L ≤ S ∧ R' ≤ R) ∧ (∀ r, r < R → cRj A M g L rb r) ∧ (∀ r, r < R' → M 58 (16 * g + r) = nI (rb (r + 1))) ∧ (∀ l, l < L → cLj ok A M g S lb md l) ∧ (∀ i, i < S → cCl (A 45 i) (M 65 (500 * g + i)) (M 66 (500 * g + i))) ∧ (A 38 10 = 0 → ∀ r, r < R → ¬ A 39 r = 2 → ∀ l, rb r ≤ l → l < rb (r + 1) → A 44 l = 0)
theorem CMk.cg {ok : Bool} {A A' M M' : am_I} {g R R' L S : Nat} {rb lb md : Nat → Nat} (hA : ∀ k, 38 ≤ k → k < 46 → A' k = A k) (hM : ∀ k, 56 ≤ k → k ≤ 66 → k ≠ 59 → M' k = M k) (h : CMk ok A M g R R' L S rb lb md) : CMk ok A' M' g R R' L S rb lb md := by
  have a38 := hA 38 (by omega) (by omega)
  have a39 := hA 39 (by omega) (by omega)
  have a40 := hA 40 (by omega) (by omega)
  have a41 := hA 41 (by omega) (by omega)
  have a42 := hA 42 (by omega) (by omega)
  have a43 := hA 43 (by omega) (by omega)
  have a44 := hA 44 (by omega) (by omega)
  have a45 := hA 45 (by omega) (by omega)
  have m56 := hM 56 (by omega) (by omega) (by omega)
  have m57 := hM 57 (by omega) (by omega) (by omega)
  have m58 := hM 58 (by omega) (by omega) (by omega)
  have m60 := hM 60 (by omega) (by omega) (by omega)
  have m61 := hM 61 (by omega) (by omega) (by omega)
  have m62 := hM 62 (by omega) (by omega) (by omega)
  have m63 := hM 63 (by omega) (by omega) (by omega)
  have m64 := hM 64 (by omega) (by omega) (by omega)
  have m65 := hM 65 (by omega) (by omega) (by omega)
  have m66 := hM 66 (by omega) (by omega) (by omega)
  unfold CMk cRj cLj at h ⊢
  simp only [a38, a39, a40, a41, a42, a43, a44, a45, m56, m57, m58, m60, m61, m62, m63, m64, m65, m66]
  exact h
theorem CMk.wk {A M : am_I} {g R R' L S : Nat} {rb lb md : Nat → Nat} {ok : Bool} (h : CMk ok A M g R R' L S rb lb md) : CMk false A M g R R' L S rb lb md := by
  obtain ⟨h1, h2, h3, h4, h5, h6, h7, h8, h9, h10⟩ := h
  refine ⟨h1, h2, h3, h4, h5, h6, h7, h8, fun l hl => ?_, h10⟩
  obtain ⟨l1, l2, l3, l4, l5, l6, l7, l8, l9⟩ := h9 l hl
  refine ⟨l1, l2, l3, l4, l5, l6, l7, ?_, l9⟩
  rcases l8 with ⟨x1, x2, x3, v, x4, x5⟩ | x
  · exact Or.inl ⟨x1, x2, x3, v, (fun q => by cases q), x5⟩
  · exact Or.inr x
theorem vu_s {α : Type} {f : Nat → α} {k : Nat} {v : α} : va_up f k v k = v := va_up_self f k v
theorem vu_n {α : Type} {f : Nat → α} {k j : Nat} {v : α} (h : j ≠ k) : va_up f k v j = f j := va_up_ne f v h
theorem CMk.cell {ok : Bool} {A A' M M' : am_I} {g R R' L S : Nat} {rb lb md : Nat → Nat} {x kx vx : Int32} (h : CMk ok A M g R R' L S rb lb md) (hS : S < 400) (hx : cCl x kx vx) (hA : ∀ k, 39 ≤ k → k < 45 → A' k = A k) (a45 : A' 45 = va_up (A 45) S x) (a7 : A' 38 7 = A 38 7) (a8 : A' 38 8 = A 38 8) (a9 : A' 38 9 = nI (S + 1)) (a10 : A' 38 10 = A 38 10) (hM : ∀ k, 56 ≤ k → k ≤ 64 → k ≠ 59 → M' k = M k) (m65 : M' 65 = va_up (M 65) (500 * g + S) kx) (m66 : M' 66 = va_up (M 66) (500 * g + S) vx) : CMk ok A' M' g R R' L (S + 1) rb lb md := by
  obtain ⟨h1, h2, h3, h4, h5, h6, h7, h8, h9, h10, h11⟩ := h
  have a39 := hA 39 (by omega) (by omega)
  have a40 := hA 40 (by omega) (by omega)
  have a41 := hA 41 (by omega) (by omega)
  have a42 := hA 42 (by omega) (by omega)
  have a43 := hA 43 (by omega) (by omega)
  have a44 := hA 44 (by omega) (by omega)
  have m56 := hM 56 (by omega) (by omega) (by omega)
  have m57 := hM 57 (by omega) (by omega) (by omega)
  have m58 := hM 58 (by omega) (by omega) (by omega)
  have m60 := hM 60 (by omega) (by omega) (by omega)
  have m61 := hM 61 (by omega) (by omega) (by omega)
  have m62 := hM 62 (by omega) (by omega) (by omega)
  have m63 := hM 63 (by omega) (by omega) (by omega)
  have m64 := hM 64 (by omega) (by omega) (by omega)
  have ac : ∀ i, i < S → A' 45 i = A 45 i := fun i hi => by rw [a45, vu_n (by omega)]
  refine ⟨⟨h1.1, h1.2.1, by omega⟩, a7.trans h2, a8.trans h3, a9, by rw [a10]; exact h5, ⟨h6.1, h6.2.1, h6.2.2.1, by omega, h6.2.2.2.2⟩, fun r hr => ?_, fun r hr => by rw [m58]; exact h8 r hr, fun l hl => ?_, fun i hi => ?_, ?_⟩
  · have := h7 r hr
    unfold cRj at this ⊢
    rw [a39, a40, a43, m56, m57]
    exact this
  · obtain ⟨l1, l2, l3, l4, l5, l6, l7, l8, l9, l10⟩ := h9 l hl
    unfold cLj
    rw [a43, a42, a41, a44, m64, m61, m63, m60, m62]
    refine ⟨l1, l2, l3, l4, l5, l6, by omega, ?_, l9, fun q i i1 i2 => by rw [ac i (by omega)]; exact l10 q i i1 i2⟩
    rcases l8 with ⟨x1, x2, x3, v, x4, x5⟩ | ⟨s, x1, x2, x3, x4, x5, x6, x7, x8⟩
    · exact Or.inl ⟨x1, x2, x3, v, x4, by rw [ac _ (by omega)]; exact x5⟩
    · refine Or.inr ⟨s, x1, x2, x3, x4, x5, x6, ?_, ?_⟩
      · rw [hgt_cg _ (fun j hj => ac _ (by omega))]; exact x7
      · rw [hgt_cg _ (fun j hj => ac _ (by omega))]; exact x8
  · rw [a45, m65, m66]
    by_cases e : i = S
    · subst e
      rw [vu_s, vu_s, vu_s]
      exact hx
    · rw [vu_n e, vu_n (by omega), vu_n (by omega)]
      exact h10 i (by omega)
  · rw [a10, a39, a44]
    exact h11
theorem CMk.rule {ok : Bool} {A A' M M' : am_I} {g R R' L S : Nat} {rb lb md : Nat → Nat} {x : Int32} (h : CMk ok A M g R R' L S rb lb md) (hR : R < 16) (hx : x = 0 ∨ x = 1 ∨ x = 2) (hA : ∀ k, 41 ≤ k → k < 46 → A' k = A k) (a39 : A' 39 = va_up (A 39) R x) (a40 : A' 40 = va_up (A 40) R (nI L)) (a7 : A' 38 7 = nI (R + 1)) (a8 : A' 38 8 = A 38 8) (a9 : A' 38 9 = A 38 9) (a10 : A' 38 10 = A 38 10) (hM : ∀ k, 58 ≤ k → k ≤ 66 → k ≠ 59 → M' k = M k) (m56 : M' 56 = va_up (M 56) (16 * g + R) x) (m57 : M' 57 = va_up (M 57) (16 * g + R) (nI L)) : CMk ok A' M' g (R + 1) R' L S (va_up rb (R + 1) L) lb md := by
  obtain ⟨h1, h2, h3, h4, h5, h6, h7, h8, h9, h10, h11⟩ := h
  have a41 := hA 41 (by omega) (by omega)
  have a42 := hA 42 (by omega) (by omega)
  have a43 := hA 43 (by omega) (by omega)
  have a44 := hA 44 (by omega) (by omega)
  have a45 := hA 45 (by omega) (by omega)
  have m58 := hM 58 (by omega) (by omega) (by omega)
  have m60 := hM 60 (by omega) (by omega) (by omega)
  have m61 := hM 61 (by omega) (by omega) (by omega)
  have m62 := hM 62 (by omega) (by omega) (by omega)
  have m63 := hM 63 (by omega) (by omega) (by omega)
  have m64 := hM 64 (by omega) (by omega) (by omega)
  have m65 := hM 65 (by omega) (by omega) (by omega)
  have m66 := hM 66 (by omega) (by omega) (by omega)
  refine ⟨⟨by omega, h1.2⟩, a7, a8.trans h3, a9.trans h4, by rw [a10]; exact h5, ⟨by rw [vu_n (by omega)]; exact h6.1, h6.2.1, vu_s, h6.2.2.2.1, by omega⟩, fun r hr => ?_, fun r hr => by rw [m58, vu_n (by omega)]; exact h8 r hr, fun l hl => ?_, fun i hi => ?_, ?_⟩
  · unfold cRj
    rw [a39, a40, a43, m56, m57]
    by_cases e : r = R
    · subst e
      rw [vu_s, vu_s, vu_s, vu_s, vu_s, vu_n (by omega), h6.2.2.1]
      exact ⟨hx, rfl, rfl, rfl, Nat.le_refl _, Nat.le_refl _, fun q => by omega⟩
    · rw [vu_n e, vu_n e, vu_n (j := 16 * g + r) (by omega), vu_n (j := 16 * g + r) (by omega), vu_n (j := r) (k := R + 1) (by omega), vu_n (j := r + 1) (k := R + 1) (by omega)]
      exact h7 r (by omega)
  · have := h9 l hl
    unfold cLj at this ⊢
    rw [a41, a42, a43, a44, a45, m60, m61, m62, m63, m64]
    exact this
  · rw [a45, m65, m66]; exact h10 i hi
  · rw [a10, a39, a44]
    intro q r hr hn l q1 q2
    by_cases e : r = R
    · subst e
      rw [vu_s] at q2
      rw [vu_n (by omega), h6.2.2.1] at q1
      omega
    · rw [vu_n e] at hn
      rw [vu_n (by omega)] at q1 q2
      exact h11 q r (by omega) hn l q1 q2
theorem CMk.done {ok : Bool} {A A' M M' : am_I} {g R L S : Nat} {rb lb md : Nat → Nat} (h : CMk ok A M g (R + 1) R L S rb lb md) (hA : ∀ k, 38 ≤ k → k < 46 → A' k = A k) (hM : ∀ k, 56 ≤ k → k ≤ 66 → k ≠ 58 → k ≠ 59 → M' k = M k) (m58 : M' 58 = va_up (M 58) (16 * g + R) (nI L)) : CMk ok A' M' g (R + 1) (R + 1) L S rb lb md := by
  have h' : CMk ok A' M g (R + 1) R L S rb lb md := h.cg hA (fun _ _ _ _ => rfl)
  obtain ⟨h1, h2, h3, h4, h5, h6, h7, h8, h9, h10, h11⟩ := h'
  have m56 := hM 56 (by omega) (by omega) (by omega) (by omega)
  have m57 := hM 57 (by omega) (by omega) (by omega) (by omega)
  have m60 := hM 60 (by omega) (by omega) (by omega) (by omega)
  have m61 := hM 61 (by omega) (by omega) (by omega) (by omega)
  have m62 := hM 62 (by omega) (by omega) (by omega) (by omega)
  have m63 := hM 63 (by omega) (by omega) (by omega) (by omega)
  have m64 := hM 64 (by omega) (by omega) (by omega) (by omega)
  have m65 := hM 65 (by omega) (by omega) (by omega) (by omega)
  have m66 := hM 66 (by omega) (by omega) (by omega) (by omega)
  refine ⟨h1, h2, h3, h4, h5, ⟨h6.1, h6.2.1, h6.2.2.1, h6.2.2.2.1, Nat.le_refl _⟩, fun r hr => ?_, fun r hr => ?_, fun l hl => ?_, fun i hi => ?_, h11⟩
  · have := h7 r hr
    unfold cRj at this ⊢
    rw [m56, m57]
    exact this
  · rw [m58]
    by_cases e : r = R
    · subst e
      rw [vu_s, h6.2.2.1]
    · rw [vu_n (by omega)]
      exact h8 r (by omega)
  · have := h9 l hl
    unfold cLj at this ⊢
    rw [m60, m61, m62, m63, m64]
    exact this
  · rw [m65, m66]; exact h10 i hi
theorem CMk.lit {ok : Bool} {A A' M M' : am_I} {g R R' L S m0 : Nat} {rb lb md : Nat → Nat} {t so al mv mo : Int32} (h : CMk ok A M g (R + 1) R' L S rb lb md) (hR' : R' ≤ R) (hL : L < 133) (hal : al = 0 ∨ al = 1) (hal1 : rb R = L → al = 1) (hc : (t = 6 ∧ so = 4 ∧ S = lb L + 1 ∧ ∃ v, (ok = true → v < 12) ∧ A 45 (lb L) = nI v) ∨ (∃ s, s < 4 ∧ t = nI (20 + s) ∧ so = nI s ∧ lb L ≤ m0 ∧ m0 ≤ S ∧ hgt (A 45) (lb L) (m0 - lb L) = some 1 ∧ hgt (A 45) m0 (S - m0) = some 1)) (hmv : mv = 0 ∨ mv = 1) (hmv0 : mv = 0 → ∀ i, lb L ≤ i → i < S → A 45 i ≠ 10009 ∧ A 45 i ≠ 10010) (hmo : mo = 0 ∨ mo = 1) (hmo0 : mo = 0 → A 38 10 = 0 ∧ (mv = 0 ∨ A 39 R = 2))
    (a41 : A' 41 = va_up (A 41) L t) (a43 : A' 43 = va_up (A 43) L al) (a42 : A' 42 = va_up (A 42) L (nI S)) (a44 : A' 44 = va_up (A 44) L mv) (a39 : A' 39 = A 39) (a45 : A' 45 = A 45) (a40 : A' 40 = va_up (A 40) R (nI (L + 1))) (a7 : A' 38 7 = A 38 7) (a8 : A' 38 8 = nI (L + 1)) (a9 : A' 38 9 = A 38 9) (a10 : A' 38 10 = mo)
    (m56 : M' 56 = M 56) (m57 : M' 57 = M 57) (m58 : M' 58 = M 58) (m65 : M' 65 = M 65) (m66 : M' 66 = M 66) (m60 : M' 60 = va_up (M 60) (200 * g + L) so) (m61 : M' 61 = va_up (M 61) (200 * g + L) (nI (500 * g + lb L))) (m62 : M' 62 = va_up (M 62) (200 * g + L) (nI (500 * g + m0))) (m63 : M' 63 = va_up (M 63) (200 * g + L) (nI (500 * g + S))) (m64 : M' 64 = va_up (M 64) (200 * g + L) al) : CMk ok A' M' g (R + 1) R' (L + 1) S (va_up rb (R + 1) (L + 1)) (va_up lb (L + 1) S) (va_up md L m0) := by
  obtain ⟨h1, h2, h3, h4, h5, h6, h7, h8, h9, h10, h11⟩ := h
  have hrL : ∀ r, r < R → rb (r + 1) ≤ L := fun r hr => (h7 r (by omega)).2.2.2.2.2.1
  refine ⟨⟨h1.1, by omega, h1.2.2⟩, a7.trans h2, a8, a9.trans h4, by rw [a10]; exact hmo, ⟨by rw [vu_n (by omega)]; exact h6.1, by rw [vu_n (by omega)]; exact h6.2.1, vu_s, by rw [vu_s]; exact Nat.le_refl _, by omega⟩, fun r hr => ?_, fun r hr => ?_, fun l hl => ?_, fun i hi => by rw [a45, m65, m66]; exact h10 i hi, ?_⟩
  · obtain ⟨r1, r2, r3, r4, r5, r6, r7⟩ := h7 r hr
    unfold cRj
    rw [a39, a40, a43, m56, m57, vu_n (j := r) (k := R + 1) (by omega)]
    by_cases e : r = R
    · subst e
      rw [vu_s, vu_s]
      refine ⟨r1, r2, r3, rfl, by omega, Nat.le_refl _, fun _ => ?_⟩
      by_cases e2 : rb r = L
      · rw [e2, vu_s]; exact hal1 e2
      · rw [vu_n e2]; exact r7 (by omega)
    · rw [vu_n e, vu_n (j := r + 1) (k := R + 1) (by omega)]
      refine ⟨r1, r2, r3, r4, r5, by omega, fun q => ?_⟩
      rw [vu_n (by omega)]; exact r7 q
  · rw [m58, vu_n (j := r + 1) (k := R + 1) (by omega)]
    exact h8 r hr
  · unfold cLj
    rw [a41, a42, a43, a44, a45, m60, m61, m62, m63, m64]
    by_cases e : l = L
    · subst e
      rw [vu_s, vu_s, vu_s, vu_s, vu_s, vu_s, vu_s, vu_s, vu_s, vu_s, vu_s, vu_n (j := l) (k := l + 1) (by omega)]
      refine ⟨hal, rfl, rfl, rfl, rfl, h6.2.2.2.1, Nat.le_refl _, ?_, hmv, hmv0⟩
      rcases hc with ⟨c1, c2, c3, v, c4, c5⟩ | ⟨s, c1, c2, c3, c4, c5, c6, c7⟩
      · exact Or.inl ⟨c1, c2, c3, v, c4, c5⟩
      · exact Or.inr ⟨s, c1, c2, c3, c4, c5, rfl, c6, c7⟩
    · rw [vu_n e, vu_n e, vu_n e, vu_n e, vu_n e, vu_n (j := 200 * g + l) (by omega), vu_n (j := 200 * g + l) (by omega), vu_n (j := 200 * g + l) (by omega), vu_n (j := 200 * g + l) (by omega), vu_n (j := 200 * g + l) (by omega), vu_n (j := l) (k := L + 1) (by omega), vu_n (j := l + 1) (k := L + 1) (by omega)]
      exact h9 l (by omega)
  · rw [a10, a39, a44]
    intro q r hr hn l q1 q2
    obtain ⟨z1, z2⟩ := hmo0 q
    rw [vu_n (j := r) (k := R + 1) (by omega)] at q1
    by_cases e : r = R
    · subst e
      rw [vu_s] at q2
      by_cases e2 : l = L
      · subst e2
        rw [vu_s]
        rcases z2 with z2 | z2
        · exact z2
        · exact absurd z2 hn
      · rw [vu_n e2]
        exact h11 z1 r (by omega) hn l q1 (by rw [h6.2.2.1]; omega)
    · rw [vu_n (j := r + 1) (k := R + 1) (by omega)] at q2
      have := hrL r (by omega)
      rw [vu_n (by omega)]
      exact h11 z1 r (by omega) hn l q1 q2
theorem CMk.fin {A M : am_I} {g R L S : Nat} {rb lb md : Nat → Nat} (h : CMk true A M g R R L S rb lb md) (h55 : M 55 g = nI R) : CR (fun i => A (38 + i)) M g := by
  obtain ⟨h1, h2, h3, h4, h5, h6, h7, h8, h9, h10, h11⟩ := h
  refine ⟨R, L, S, rb, lb, md, h1.1, h1.2.1, h1.2.2, h2, h55, h6.1, h6.2.1, fun r hr => ?_, fun l hl => ?_, h10, h5, h11⟩
  · obtain ⟨r1, r2, r3, r4, r5, r6, r7⟩ := h7 r hr
    exact ⟨r1, r2, r3, h8 r hr, r4, r5, r6, r7⟩
  · obtain ⟨l1, l2, l3, l4, l5, l6, l7, l8, l9⟩ := h9 l hl
    refine ⟨l1, l2, l3, l4, l5, l6, l7, ?_, l9⟩
    rcases l8 with ⟨x1, x2, x3, v, x4, x5⟩ | x
    · exact Or.inl ⟨x1, x2, x3, v, x4 rfl, x5⟩
    · exact Or.inr x
/-! ===== what the methods do to it ===== -/
theorem ce_1 {A : am_I} {S m : Nat} (h : A 38 9 = nI S) (hS : S < 400) (hm : m < 32768) : s_X1_addCell A (nI m) = am_w (am_w A 45 S (nI m)) 38 9 (nI (S + 1)) ∧ p_X1_addCell A (nI m) := by
  have c : ¬ (400 : Int32) ≤ nI S := nI_ge (b := 400) hS (by omega)
  unfold s_X1_addCell p_X1_addCell
  rw [h, if_neg c, if_neg c, nI_clamp (by omega), nI_1, sho_1 hm]
  exact ⟨rfl, vp_in_nI hS (by omega)⟩
theorem ru_1 {A : am_I} {R L c : Nat} (h7 : A 38 7 = nI R) (hR : R < 16) (h8 : A 38 8 = nI L) (hL : L ≤ 133) (hc : c < 28) : s_X1_addRule A (nI c) = am_w (am_w (am_w A 39 R (nI c)) 40 R (nI L)) 38 7 (nI (R + 1)) ∧ p_X1_addRule A (nI c) := by
  have c16 : ¬ (16 : Int32) ≤ nI R := nI_ge (b := 16) hR (by omega)
  unfold s_X1_addRule p_X1_addRule
  rw [h7, h8, if_neg c16, if_neg c16, nI_clamp (by omega), nI_1, sho_1 (by omega), bt_1 c hc]
  exact ⟨rfl, vp_in_nI hR (by omega), vp_in_nI hR (by omega)⟩
theorem fc_1 {A : am_I} {L : Nat} {lb : Nat → Nat} (h0 : lb 0 = 0) (h : ∀ l, l < L → A 42 l = nI (lb (l + 1))) (hL : L ≤ 133) : s_X1_firstCell A (nI L) = nI (lb L) ∧ p_X1_firstCell (nI L) := by
  unfold s_X1_firstCell p_X1_firstCell
  cases L with
  | zero =>
    have c : nI 0 ≤ 0 := by decide
    rw [if_pos c, if_pos c, h0]
    exact ⟨rfl, trivial⟩
  | succ L =>
    have c : ¬ nI (L + 1) ≤ 0 := nI_nle (by omega) (by omega)
    have c2 : ¬ (133 : Int32) < nI (L + 1) := nI_nlt (a := 133) (by omega) (by omega)
    rw [if_neg c, if_neg c, if_neg c2, if_neg c2, nI_pred, nI_clamp (by omega), h L (by omega)]
    exact ⟨rfl, vp_in_nI (by omega) (by omega)⟩
theorem hd_1 {A : am_I} {a1 : Int32} {S : Nat} (hS : S ≤ 400) : ∀ d i g, i + d = S → d < g → p_X1_hasDay_L2 a1 (nI S) A g (nI i) ∧ (s_X1_hasDay_L2 a1 (nI S) A g (nI i) = 0 ∨ s_X1_hasDay_L2 a1 (nI S) A g (nI i) = 1) ∧ (s_X1_hasDay_L2 a1 (nI S) A g (nI i) = 0 → ∀ j, i ≤ j → j < S → A 45 j ≠ 10009 ∧ A 45 j ≠ 10010) := by
  intro d
  induction d with
  | zero =>
    intro i g hi hg
    obtain ⟨g, rfl⟩ : ∃ k, g = k + 1 := ⟨g - 1, by omega⟩
    have c : nI S ≤ nI i := nI_le (by omega) (by omega)
    rw [u_p_X1_hasDay_L2, u_s_X1_hasDay_L2, if_pos c, if_pos c]
    exact ⟨trivial, Or.inl rfl, fun _ j h1 h2 => by omega⟩
  | succ d ih =>
    intro i g hi hg
    obtain ⟨g, rfl⟩ : ∃ k, g = k + 1 := ⟨g - 1, by omega⟩
    have c : ¬ nI S ≤ nI i := nI_ge (by omega) (by omega)
    have v : vp_in (nI i) 400 := vp_in_nI (by omega) (by omega)
    obtain ⟨i1, i2, i3⟩ := ih (i + 1) g (by omega) (by omega)
    rw [u_p_X1_hasDay_L2, u_s_X1_hasDay_L2, if_neg c, if_neg c, nI_clamp (by omega), nI_1]
    have e9 : s_X1_codeOf 9 = 10009 := by decide
    have e10 : s_X1_codeOf 10 = 10010 := by decide
    rw [e9, e10]
    by_cases c9 : A 45 i = 10009
    · rw [if_pos c9, if_pos c9]
      exact ⟨⟨v, trivial⟩, Or.inr rfl, fun q => absurd q (by decide)⟩
    · rw [if_neg c9, if_neg c9]
      by_cases c10 : A 45 i = 10010
      · rw [if_pos c10, if_pos c10]
        exact ⟨⟨v, v, trivial⟩, Or.inr rfl, fun q => absurd q (by decide)⟩
      · rw [if_neg c10, if_neg c10]
        refine ⟨⟨v, v, i1⟩, i2, fun q j h1 h2 => ?_⟩
        by_cases e : j = i
        · subst e; exact ⟨c9, c10⟩
        · exact i3 q j (by omega) h2
theorem al_1 {f : Nat} {A : am_I} {R L S t : Nat} {lb : Nat → Nat} {al : Int32} (hf : 1000 ≤ f) (h7 : A 38 7 = nI (R + 1)) (hR : R < 16) (h8 : A 38 8 = nI L) (hL : L < 133) (h9 : A 38 9 = nI S) (hS : S ≤ 400) (h10 : A 38 10 = 0 ∨ A 38 10 = 1) (h0 : lb 0 = 0) (h42 : ∀ l, l < L → A 42 l = nI (lb (l + 1))) (hlS : lb L ≤ S) (ht : t < 28) (hal : al = 0 ∨ al = 1) : p_X1_addLiteral f A (nI t) al ∧ ∃ mv mo : Int32, s_X1_addLiteral f A (nI t) al = am_w (am_w (am_w (am_w (am_w (am_w (am_w A 41 L (nI t)) 43 L al) 42 L (nI S)) 44 L mv) 38 10 mo) 38 8 (nI (L + 1))) 40 R (nI (L + 1)) ∧ (mv = 0 ∨ mv = 1) ∧ (mv = 0 → ∀ i, lb L ≤ i → i < S → A 45 i ≠ 10009 ∧ A 45 i ≠ 10010) ∧ (mo = 0 ∨ mo = 1) ∧ (mo = 0 → A 38 10 = 0 ∧ (mv = 0 ∨ A 39 R = 2)) := by
  have c1 : ¬ nI (R + 1) < 1 := nI_nlt (b := 1) (by omega) (by omega)
  have c2 : ¬ (16 : Int32) < nI (R + 1) := nI_nlt (a := 16) (by omega) (by omega)
  have c3 : nI L < 133 := nI_lt (b := 133) hL (by omega)
  have v1 : vp_in (nI L) 133 := vp_in_nI hL (by omega)
  have v2 : vp_in (nI R) 16 := vp_in_nI hR (by omega)
  have f1 := fc_1 (L := L) (A := am_w (am_w (am_w A 41 L (nI t)) 43 L al) 42 L (nI S)) h0 (fun l hl => by
    show va_up (A 42) L (nI S) l = _
    rw [vu_n (by omega)]; exact h42 l hl) (by omega)
  obtain ⟨d1, d2, d3⟩ := hd_1 (A := am_w (am_w (am_w A 41 L (nI t)) 43 L al) 42 L (nI S)) (a1 := nI (lb L)) hS (S - lb L) (lb L) f (by omega) (by omega)
  unfold p_X1_addLiteral s_X1_addLiteral s_X1_hasDay p_X1_hasDay
  rw [h7, h8, h9, if_neg c1, if_neg c1, if_neg c2, if_neg c2, if_pos c3, if_pos c3, nI_pred, nI_1, nI_clamp (n := L) (by omega), nI_clamp (n := R) (by omega), bt_1 t ht, bo_1 hal, sho_1 (m := S) (by omega), sho_1 (m := L + 1) (by omega), f1.1]
  generalize hmv : s_X1_hasDay_L2 (nI (lb L)) (nI S) (am_w (am_w (am_w A 41 L (nI t)) 43 L al) 42 L (nI S)) f (nI (lb L)) = mv at d2 d3
  rw [bo_1 d2]
  have e44 : (am_w (am_w (am_w (am_w A 41 L (nI t)) 43 L al) 42 L (nI S)) 44 L mv) 44 L = mv := aw_s
  rw [e44]
  by_cases q10 : A 38 10 = 0
  · rw [if_pos q10, if_pos q10]
    by_cases qm : mv = 0
    · rw [if_pos qm, if_pos qm]
      exact ⟨⟨v1, v1, v1, f1.2, d1, v1, v1, v2⟩, mv, 0, rfl, d2, d3, Or.inl rfl, fun _ => ⟨q10, Or.inl qm⟩⟩
    · rw [if_neg qm, if_neg qm]
      by_cases q2 : A 39 R = 2
      · rw [if_pos q2, if_pos q2]
        exact ⟨⟨v1, v1, v1, f1.2, d1, v1, v1, v2, v2⟩, mv, 0, rfl, d2, d3, Or.inl rfl, fun _ => ⟨q10, Or.inr q2⟩⟩
      · rw [if_neg q2, if_neg q2]
        exact ⟨⟨v1, v1, v1, f1.2, d1, v1, v1, v2, v2⟩, mv, 1, rfl, d2, d3, Or.inr rfl, fun q => absurd q (by decide)⟩
  · rw [if_neg q10, if_neg q10]
    exact ⟨⟨v1, v1, v1, f1.2, d1, v1, v2⟩, mv, 1, rfl, d2, d3, Or.inr rfl, fun q => absurd q (by decide)⟩
end
