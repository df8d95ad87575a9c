section
/-! ===== a literal ===== -/
theorem j146 {M : am_I} {g L S : Nat} {al v2 v3 v4 : Int32} (h13 : M 46 13 = 0) (h19 : M 46 19 = nI g) (h59 : M 59 g = nI L) (hL : L < 200) (hg : g < 24) (h30 : M 46 30 = nI (500 * g + S)) (hal : al = 0 ∨ al = 1) : s_X10_literal_J146 al v2 v3 v4 M = am_w (am_w (am_w (am_w (am_w (am_w M 60 (200 * g + L) v4) 61 (200 * g + L) v2) 62 (200 * g + L) v3) 63 (200 * g + L) (nI (500 * g + S))) 64 (200 * g + L) al) 59 g (nI (L + 1)) ∧ p_X10_literal_J146 al v2 v3 v4 M := by
  have le : (0 : Int32) ≤ 0 := by decide
  have e : (200 : Int32) * nI g + nI L = nI (200 * g + L) := by
    show nI 200 * nI g + nI L = _
    rw [pk_mul, nI_add]
  have v : vp_in (nI (200 * g + L)) 4800 := vp_in_nI (by omega) (by omega)
  have u : vp_in (nI g) 24 := vp_in_nI hg (by omega)
  unfold s_X10_literal_J146 p_X10_literal_J146
  rw [h13, if_pos le, if_pos le, h19, nI_clamp (n := g) (by omega), h59, e, nI_clamp (n := 200 * g + L) (by omega), h30, bo_1 hal, nI_1]
  exact ⟨rfl, u, v, v, v, v, v, u, u⟩
theorem j146f {g q : Nat} {M0 M : am_I} {F al v2 v3 v4 : Int32} (h : Ft g M0 M F q) : s_X10_literal_J146 al v2 v3 v4 M = M ∧ p_X10_literal_J146 al v2 v3 v4 M := by
  unfold s_X10_literal_J146 p_X10_literal_J146
  rw [if_neg h.nl, if_neg h.nl]
  exact ⟨rfl, trivial⟩
theorem lit_fin {b : Nat → Int32} {n T tp f g : Nat} {A0 M0 : am_I} {ok : Bool} {R L : Nat} {rb lb md : Nat → Nat} {S m0 t : Nat} {A M : am_I} {al so : Int32} (hx : Cx b n T tp f g A0 M0) (c3 : M 46 13 = 0) (c5 : FrM g M0 M) (c7 : CMk ok A M g (R + 1) R L S rb lb md) (c8 : M 46 30 = nI (500 * g + S)) (c9 : M 59 g = nI L) (hL : L < 133) (hal : al = 0 ∨ al = 1) (hal1 : rb R = L → al = 1) (ht : t < 28) (hc : (nI t = 6 ∧ so = 4 ∧ S = lb L + 1 ∧ ∃ v, (ok = true → v < 12) ∧ A 45 (lb L) = nI v) ∨ (∃ s, s < 4 ∧ nI t = nI (20 + s) ∧ so = nI s ∧ lb L ≤ m0 ∧ m0 ≤ S ∧ hgt (A 45) (lb L) (m0 - lb L) = some 1 ∧ hgt (A 45) m0 (S - m0) = some 1)) : ∃ U X : am_I, (s_X1_addLiteral f A (nI t) al = U ∧ p_X1_addLiteral f A (nI t) al) ∧ (s_X10_literal_J146 al (nI (500 * g + lb L)) (nI (500 * g + m0)) so M = X ∧ p_X10_literal_J146 al (nI (500 * g + lb L)) (nI (500 * g + m0)) so M) ∧ CMk ok U X g (R + 1) R (L + 1) S (va_up rb (R + 1) (L + 1)) (va_up lb (L + 1) S) (va_up md L m0) ∧ (∀ r, r < 38 → U r = A r) ∧ X 46 = M 46 ∧ X 55 = M 55 ∧ X 59 g = nI (L + 1) ∧ FrM g M0 X ∧ FrC A U := by
  have hg := hx.2.2.1
  have hf := hx.2.1
  have c7' := c7
  obtain ⟨h1, h2, h3, h4, h5, h6, h7, h8, h9, h10, h11⟩ := c7
  obtain ⟨p1, mv, mo, u1, u2, u3, u4, u5⟩ := al_1 (f := f) (A := A) (R := R) (L := L) (S := S) (t := t) (lb := lb) (al := al) (by omega) h2 (by omega) h3 hL h4 h1.2.2 h5 h6.2.1 (fun l hl => (h9 l hl).2.2.2.2.1) h6.2.2.2.1 ht hal
  have m19 : M 46 19 = nI g := by rw [c5 46 19 (by unfold scM; omega)]; exact hx.2.2.2.2.2.2.2.2.2.2.1
  obtain ⟨j1, j2⟩ := j146 (v2 := nI (500 * g + lb L)) (v3 := nI (500 * g + m0)) (v4 := so) c3 m19 c9 (by omega) hg c8 hal
  refine ⟨_, _, ⟨u1, p1⟩, ⟨j1, j2⟩, ?_, fun r hr => ?_, rfl, rfl, aw_s, ?_, ?_⟩
  · exact c7'.lit (m0 := m0) (Nat.le_refl R) hL hal hal1 hc u2 u3 u4 u5 rfl rfl rfl rfl rfl rfl rfl rfl rfl rfl rfl rfl rfl rfl rfl rfl rfl rfl rfl rfl rfl
  · rw [aw_k (by omega), aw_k (by omega), aw_k (by omega), aw_k (by omega), aw_k (by omega), aw_k (by omega), aw_k (by omega)]
  · exact (((((c5.w (by unfold scM; omega)).w (by unfold scM; omega)).w (by unfold scM; omega)).w (by unfold scM; omega)).w (by unfold scM; omega)).w (by unfold scM; omega)
  · exact ((((((FrC.rf.w (by omega)).w (by omega)).w (by omega)).w (by omega)).w (by omega)).w (by omega)).w (by omega)
def LiI (b : Nat → Int32) (n T : Nat) (A0 M0 : am_I) (g : Nat) (ok : Bool) (R L : Nat) (rb lb md : Nat → Nat) (al : Int32) (k : Nat) (A M : am_I) (S : Nat) : Prop := Com b n T A0 M0 g ok (R + 1) R L rb lb md k A M S ∧ (A 3 3 = 2 ∧ A 3 4 = -1 ∧ A 3 5 = al ∧ (al = 0 ∨ al = 1) ∧ A 3 1 = 0 ∧ A 3 2 = 0 ∧ M 46 12 = 0) ∧ lb L = S ∧ S ≤ k ∧ 3 * L + 2 ≤ k ∧ (rb R = L → al = 1)
def LiO (b : Nat → Int32) (n T : Nat) (A0 M0 : am_I) (g : Nat) (R L : Nat) (rb : Nat → Nat) (tp f k : Nat) (A X : am_I) : Prop := ∃ (k' : Nat) (A' U : am_I) (S' : Nat) (ok : Bool) (lb md : Nat → Nat), Rch (nI tp) f k A k' A' ∧ (Tok b n k' A' ∧ A' 3 2 = 0 ∧ A' 38 7 = nI (R + 1) ∧ FrC A0 A') ∧ ((s_X2_goesOn A' (nI (tk b n k')) = 0 ↔ ¬ (tk b n k' = 4 ∨ tk b n k' = 5 ∨ tk b n k' = 16)) ∧ ((tk b n k' = 4 ∨ tk b n k' = 5 ∨ tk b n k' = 16) → s_X2_take f A' (nI tp) = am_w (am_w U 3 5 (if tk b n k' = 4 then 1 else 0)) 3 3 (if tk b n k' = 16 then 0 else 2) ∧ p_X2_take f A' (nI tp))) ∧ Com b n T A0 M0 g ok (R + 1) R (L + 1) (va_up rb (R + 1) (L + 1)) lb md k' U X S' ∧ (U 3 4 = -1 ∧ U 3 1 = 0 ∧ U 3 2 = 0 ∧ X 46 12 = 0) ∧ lb (L + 1) = S' ∧ S' ≤ k' ∧ 3 * (L + 1) + 1 ≤ k'
theorem tle_1 {A : am_I} {f c : Nat} (h : A 3 4 = -1) (hc : c = 4 ∨ c = 5 ∨ c = 16) : s_X2_takeLiteralEnd f A (nI c) = am_w (am_w A 3 5 (if c = 4 then 1 else 0)) 3 3 (if c = 16 then 0 else 2) ∧ p_X2_takeLiteralEnd f A (nI c) := by
  unfold s_X2_takeLiteralEnd p_X2_takeLiteralEnd
  rw [if_pos h, if_pos h]
  rcases hc with q | q | q <;> subst q <;> exact ⟨rfl, trivial⟩
theorem tle_2 {A U V : am_I} {f c : Nat} (h : ¬ A 3 4 = -1) (hu : s_X2_unload f A 17 = U) (pu : p_X2_unload f A 17) (hv : s_X1_addLiteral f U (U 3 4) (U 3 5) = V) (pv : p_X1_addLiteral f U (U 3 4) (U 3 5)) (hc : c = 4 ∨ c = 5 ∨ c = 16) : s_X2_takeLiteralEnd f A (nI c) = am_w (am_w (am_w V 3 4 (-1)) 3 5 (if c = 4 then 1 else 0)) 3 3 (if c = 16 then 0 else 2) ∧ p_X2_takeLiteralEnd f A (nI c) := by
  unfold s_X2_takeLiteralEnd p_X2_takeLiteralEnd
  rw [if_neg h, if_neg h, hu, hv]
  rcases hc with q | q | q <;> subst q <;> exact ⟨rfl, pu, pv⟩
/-- an expression behind a fault -/
theorem ex_f {g f q : Nat} {M0 M : am_I} {F : Int32} (hf : 100 ≤ f) (h : Ft g M0 M F q) : Ft g M0 (s_X10_expression f M) F q ∧ p_X10_expression f M := by
  obtain ⟨f, rfl⟩ : ∃ x, f = x + 1 := ⟨f - 1, by omega⟩
  have h2 := h.w (k := 46) (a := 34) (v := 0) (sc46 (by omega)) (by omega)
  unfold s_X10_expression p_X10_expression
  have n1 : ¬ (1 : Int32) = 0 := by decide
  rw [u_s_X10_expression_L12_0, u_p_X10_expression_L12_0, if_neg n1, if_neg n1, if_neg h2.ne, if_neg h2.ne]
  exact ⟨h2, trivial⟩
theorem must_f {g q : Nat} {M0 M : am_I} {F x : Int32} (h : Ft g M0 M F q) : s_X10_must M x = M ∧ p_X10_must M x := by
  obtain ⟨i1, i2⟩ := is_f (x := x) h.ne
  obtain ⟨f1, f2⟩ := fa_f (F := 1) h.2.1 h.1
  unfold s_X10_must p_X10_must
  rw [i1, if_pos rfl, if_pos rfl, f1]
  exact ⟨rfl, i2, f2⟩
/-- the second half of a literal behind a fault -/
theorem l108_f {g f q : Nat} {M0 M : am_I} {F al v2 : Int32} (hf : 100 ≤ f) (h : Ft g M0 M F q) : Ft g M0 (s_X10_literal_J108 al f v2 0 M) F q ∧ p_X10_literal_J108 al f v2 0 M := by
  obtain ⟨n1, n2⟩ := h.nx
  obtain ⟨e1, e2⟩ := ex_f (f := f) hf n2
  obtain ⟨j1, j2⟩ := j146f (al := al) (v2 := v2) (v3 := (s_X10_next M) 46 30) (v4 := 0) e1
  unfold s_X10_literal_J108 p_X10_literal_J108
  rw [if_neg h.ne, if_neg h.ne, j1]
  exact ⟨e1, n1, e2, j2⟩
theorem l128_f {g f q : Nat} {M0 M : am_I} {F al v2 v4 : Int32} (hf : 100 ≤ f) (pf : p_X10_fail M 1) (h : Ft g M0 (s_X10_fail M 1) F q) : Ft g M0 (s_X10_literal_J128 al f v2 v4 M) F q ∧ p_X10_literal_J128 al f v2 v4 M := by
  obtain ⟨n1, n2⟩ := h.nx
  obtain ⟨e1, e2⟩ := ex_f (f := f) hf n2
  obtain ⟨j1, j2⟩ := j146f (al := al) (v2 := v2) (v3 := (s_X10_next (s_X10_fail M 1)) 46 30) (v4 := v4) e1
  unfold s_X10_literal_J128 p_X10_literal_J128
  rw [j1]
  exact ⟨e1, pf, n1, e2, j2⟩
end
