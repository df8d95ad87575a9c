section
/-! ===== reading a text: what both sides have in common on the way ===== -/
def scM (g k a : Nat) : Prop := (k = 46 ∧ (a = 11 ∨ a = 12 ∨ a = 13 ∨ a = 14 ∨ a = 15 ∨ a = 16 ∨ a = 30 ∨ a = 34)) ∨ k = 67 ∨ ((k = 55 ∨ k = 59) ∧ a = g) ∨ ((k = 56 ∨ k = 57 ∨ k = 58) ∧ 16 * g ≤ a ∧ a < 16 * g + 16) ∨ ((60 ≤ k ∧ k ≤ 64) ∧ 200 * g ≤ a ∧ a < 200 * g + 200) ∨ ((k = 65 ∨ k = 66) ∧ 500 * g ≤ a ∧ a < 500 * g + 500)
def FrM (g : Nat) (M0 M : am_I) : Prop := ∀ k a, ¬ scM g k a → M k a = M0 k a
theorem FrM.rf {g : Nat} {M : am_I} : FrM g M M := fun _ _ _ => rfl
theorem FrM.w {g k a : Nat} {M0 M : am_I} {v : Int32} (h : FrM g M0 M) (hs : scM g k a) : FrM g M0 (am_w M k a v) := fun k' a' q => by
  by_cases hk : k' = k
  · subst hk
    rw [aw_n (fun e => q (by rw [e]; exact hs))]
    exact h _ a' q
  · rw [aw_k hk]
    exact h k' a' q
theorem FrM.v {g : Nat} {M0 M M' : am_I} (h : FrM g M0 M) (h2 : FVn g M M') : FrM g M0 M' := fun k a q => by
  rw [h2 k a (fun x => q (by unfold scM; omega)) (fun x => q (by unfold scM; omega))]
  exact h k a q
theorem FrM.row {g k : Nat} {M0 M : am_I} (h : FrM g M0 M) (h1 : k ≠ 46) (h2 : k < 55 ∨ 67 < k) : M k = M0 k := funext fun a => h k a (fun q => by unfold scM at q; omega)
theorem sc46 {g a : Nat} (h : a = 11 ∨ a = 12 ∨ a = 13 ∨ a = 14 ∨ a = 15 ∨ a = 16 ∨ a = 30 ∨ a = 34) : scM g 46 a := Or.inl ⟨rfl, h⟩
theorem sc67 {g a : Nat} : scM g 67 a := Or.inr (Or.inl rfl)
def Cx (b : Nat → Int32) (n T tp f g : Nat) (A0 M0 : am_I) : Prop := n ≤ 2000 ∧ 100000 ≤ f ∧ g < 24 ∧ tp ≤ 12 ∧ T ≤ 400 ∧ (∀ q, q ≤ T → TE b n M0 q) ∧ (∀ q, q < T → tk b n q ≠ 26) ∧ (tk b n T = 26 ∨ T = 400) ∧ A0 1 1 = nI n ∧ A0 2 = b ∧ M0 46 19 = nI g ∧ M0 46 38 = nI tp
def Tok (b : Nat → Int32) (n k : Nat) (A : am_I) : Prop := A 1 1 = nI n ∧ A 1 2 = nI (ps b n (k + 1)) ∧ A 1 3 = nI (tk b n k) ∧ A 1 4 = nI (pl b n k) ∧ (tk b n k = 15 → A 1 5 = vl b n k) ∧ A 2 = b
def Bad (b : Nat → Int32) (n : Nat) (ok : Bool) (k : Nat) (A M : am_I) : Prop := (ok = true ∧ A 3 6 = -1 ∧ M 46 15 = 0) ∨ (ok = false ∧ ∃ j, j < k ∧ A 3 6 = nI (pl b n j) ∧ M 46 15 = 4 ∧ M 46 16 = nI (pl b n j))
def Com (b : Nat → Int32) (n T : Nat) (A0 M0 : am_I) (g : Nat) (ok : Bool) (R R' L : Nat) (rb lb md : Nat → Nat) (k : Nat) (A M : am_I) (S : Nat) : Prop := Tok b n k A ∧ k ≤ T ∧ M 46 11 = nI k ∧ M 46 13 = 0 ∧ FrC A0 A ∧ FrM g M0 M ∧ Bad b n ok k A M ∧ CMk ok A M g R R' L S rb lb md ∧ M 46 30 = nI (500 * g + S) ∧ M 59 g = nI L ∧ M 55 g = nI R'
theorem Bad.up {b : Nat → Int32} {n k k' : Nat} {ok : Bool} {A A' M M' : am_I} (h : Bad b n ok k A M) (hk : k ≤ k') (h1 : A' 3 6 = A 3 6) (h2 : M' 46 15 = M 46 15) (h3 : M' 46 16 = M 46 16) : Bad b n ok k' A' M' := by
  unfold Bad
  rw [h1, h2, h3]
  rcases h with h | ⟨h, j, hj, h'⟩
  · exact Or.inl h
  · exact Or.inr ⟨h, j, by omega, h'⟩
theorem Cx.nx {b : Nat → Int32} {n T tp f g k : Nat} {A0 M0 : am_I} (h : Cx b n T tp f g A0 M0) (hk : k ≤ T) (h26 : tk b n k ≠ 26) (h4 : k < 400) : k + 1 ≤ T := by
  obtain ⟨-, -, -, -, -, -, -, h8, -⟩ := h
  have : k ≠ T := fun e => by
    subst e
    rcases h8 with h8 | h8
    · exact h26 h8
    · omega
  omega
theorem kd_lt : ∀ c, c < 28 → kd c < 34 := by decide +kernel
theorem kd_in : ∀ c, c < 28 → ∀ c', c' < 28 → (kd c = kd c' ↔ c = c') := by decide +kernel
theorem m49 {b : Nat → Int32} {n T tp f g k : Nat} {A0 M0 M : am_I} (hx : Cx b n T tp f g A0 M0) (hM : FrM g M0 M) (hk : k ≤ T) : M 49 k = nI (kd (tk b n k)) ∧ M 50 k = nI (pl b n k) ∧ (tk b n k = 15 → M 51 k = vl b n k) := by
  have t := hx.2.2.2.2.2.1 k hk
  unfold TE at t
  rw [hM.row (k := 49) (by decide) (by decide), hM.row (k := 50) (by decide) (by decide), hM.row (k := 51) (by decide) (by decide)]
  exact t
theorem is_k {b : Nat → Int32} {n T tp f g k : Nat} {A0 M0 M : am_I} (hx : Cx b n T tp f g A0 M0) (hM : FrM g M0 M) (hk : k ≤ T) (h11 : M 46 11 = nI k) (h13 : M 46 13 = 0) (c : Nat) (hc : c < 28) : s_X10_is M (nI (kd c)) = bI (decide (tk b n k = c)) ∧ ∀ x, p_X10_is M x := by
  have h4 := hx.2.2.2.2.1
  have v : vp_in (nI k) 403 := vp_in_nI (by omega) (by omega)
  unfold s_X10_is p_X10_is
  rw [h13, if_pos rfl, if_pos rfl, h11, nI_clamp (by omega), (m49 hx hM hk).1]
  refine ⟨?_, fun _ => v⟩
  have k1 := kd_lt (tk b n k) tk_lt
  have k2 := kd_lt c hc
  by_cases e : tk b n k = c
  · rw [e, if_pos rfl, decide_eq_true rfl]; rfl
  · rw [if_neg (fun q => e ((kd_in _ tk_lt c hc).mp ((nI_eq (by omega) (by omega)).mp q))), decide_eq_false e]; rfl
theorem is_f {M : am_I} {x : Int32} (h13 : ¬ M 46 13 = 0) : s_X10_is M x = 0 ∧ p_X10_is M x := by
  unfold s_X10_is p_X10_is
  rw [if_neg h13, if_neg h13]
  exact ⟨rfl, trivial⟩
theorem fa_0 {b : Nat → Int32} {n T tp f g k : Nat} {A0 M0 M : am_I} {F : Int32} (hx : Cx b n T tp f g A0 M0) (hM : FrM g M0 M) (hk : k ≤ T) (h11 : M 46 11 = nI k) (h13 : M 46 13 = 0) : s_X10_fail M F = am_w (am_w M 46 13 F) 46 14 (nI (pl b n k)) ∧ p_X10_fail M F := by
  have h4 := hx.2.2.2.2.1
  have c : (0 : Int32) ≤ 0 := by decide
  unfold s_X10_fail p_X10_fail
  rw [h13, if_pos c, if_pos c, h11, nI_clamp (by omega), (m49 hx hM hk).2.1]
  exact ⟨rfl, vp_in_nI (by omega) (by omega)⟩
theorem fa_f {M : am_I} {F G : Int32} (h13 : M 46 13 = G) (hG : G = 1 ∨ G = 2) : s_X10_fail M F = M ∧ p_X10_fail M F := by
  have c : ¬ G ≤ 0 := by rcases hG with q | q <;> rw [q] <;> decide
  unfold s_X10_fail p_X10_fail
  rw [h13, if_neg c, if_neg c]
  exact ⟨rfl, trivial⟩
theorem nx_k {M : am_I} {k : Nat} (h11 : M 46 11 = nI k) (hk : k < 400) : s_X10_next M = am_w M 46 11 (nI (k + 1)) ∧ p_X10_next M := by
  have c : ¬ nI k = 400 := fun q => absurd ((nI_eq (b := 400) (by omega) (by omega)).mp q) (by omega)
  unfold s_X10_next p_X10_next
  rw [h11, if_neg c, if_neg c, nI_1]
  exact ⟨rfl, trivial⟩
theorem nx_4 {M : am_I} (h11 : M 46 11 = nI 400) : s_X10_next M = s_X10_fail M 2 ∧ (p_X10_fail M 2 → p_X10_next M) := by
  have c : nI 400 = 400 := rfl
  unfold s_X10_next p_X10_next
  rw [h11, if_pos c, if_pos c]
  exact ⟨rfl, id⟩
/-- a fault that stands -/
def Ft (g : Nat) (M0 M : am_I) (F : Int32) (q : Nat) : Prop := (F = 1 ∨ F = 2) ∧ M 46 13 = F ∧ M 46 14 = nI q ∧ FrM g M0 M ∧ ∃ t, t ≤ 400 ∧ M 46 11 = nI t
theorem Ft.ne {g q : Nat} {M0 M : am_I} {F : Int32} (h : Ft g M0 M F q) : ¬ M 46 13 = 0 := by
  rw [h.2.1]
  rcases h.1 with e | e <;> rw [e] <;> decide
theorem Ft.nl {g q : Nat} {M0 M : am_I} {F : Int32} (h : Ft g M0 M F q) : ¬ M 46 13 ≤ 0 := by
  rw [h.2.1]
  rcases h.1 with e | e <;> rw [e] <;> decide
theorem Ft.nx {g q : Nat} {M0 M : am_I} {F : Int32} (h : Ft g M0 M F q) : p_X10_next M ∧ Ft g M0 (s_X10_next M) F q := by
  obtain ⟨h1, h2, h3, h4, t, ht, h5⟩ := h
  by_cases e : t = 400
  · subst e
    obtain ⟨a1, a2⟩ := nx_4 h5
    obtain ⟨b1, b2⟩ := fa_f (F := 2) h2 h1
    rw [a1, b1]
    exact ⟨a2 b2, h1, h2, h3, h4, 400, Nat.le_refl _, h5⟩
  · obtain ⟨a1, a2⟩ := nx_k h5 (by omega)
    rw [a1]
    exact ⟨a2, h1, h2, h3, h4.w (sc46 (by omega)), t + 1, by omega, rfl⟩
theorem Ft.w {g q k a : Nat} {M0 M : am_I} {F v : Int32} (h : Ft g M0 M F q) (hs : scM g k a) (hn : k ≠ 46 ∨ a = 12 ∨ a = 30 ∨ a = 34) : Ft g M0 (am_w M k a v) F q := by
  obtain ⟨h1, h2, h3, h4, t, ht, h5⟩ := h
  have x : ∀ a', a' = 11 ∨ a' = 13 ∨ a' = 14 → am_w M k a v 46 a' = M 46 a' := by
    intro a' ha
    by_cases hk : 46 = k
    · subst hk
      exact aw_n (by omega)
    · rw [aw_k hk]
  exact ⟨h1, (x 13 (by omega)).trans h2, (x 14 (by omega)).trans h3, h4.w hs, t, ht, (x 11 (by omega)).trans h5⟩
theorem Ft.v {g q : Nat} {M0 M M' : am_I} {F : Int32} (h : Ft g M0 M F q) (hv : FVn g M M') : Ft g M0 M' F q := by
  obtain ⟨h1, h2, h3, h4, t, ht, h5⟩ := h
  have x : ∀ a', a' = 11 ∨ a' = 13 ∨ a' = 14 → M' 46 a' = M 46 a' := fun a' ha => hv 46 a' (by omega) (by omega)
  exact ⟨h1, (x 13 (by omega)).trans h2, (x 14 (by omega)).trans h3, h4.v hv, t, ht, (x 11 (by omega)).trans h5⟩
theorem Ft.mk {b : Nat → Int32} {n T tp f g k : Nat} {A0 M0 M : am_I} {F : Int32} (hx : Cx b n T tp f g A0 M0) (hM : FrM g M0 M) (hk : k ≤ T) (h11 : M 46 11 = nI k) (h13 : M 46 13 = 0) (hF : F = 1 ∨ F = 2) : p_X10_fail M F ∧ Ft g M0 (s_X10_fail M F) F (pl b n k) := by
  have h4 := hx.2.2.2.2.1
  obtain ⟨a1, a2⟩ := fa_0 (F := F) hx hM hk h11 h13
  rw [a1]
  exact ⟨a2, hF, rfl, rfl, (hM.w (sc46 (by omega))).w (sc46 (by omega)), k, by omega, h11⟩
theorem Ft.n4 {b : Nat → Int32} {n T tp f g k : Nat} {A0 M0 M : am_I} (hx : Cx b n T tp f g A0 M0) (hM : FrM g M0 M) (hk : k ≤ T) (h4 : ¬ k < 400) (h11 : M 46 11 = nI k) (h13 : M 46 13 = 0) : p_X10_next M ∧ Ft g M0 (s_X10_next M) 2 (pl b n k) := by
  have hT := hx.2.2.2.2.1
  have e : k = 400 := by omega
  subst e
  obtain ⟨a1, a2⟩ := nx_4 h11
  obtain ⟨b1, b2⟩ := Ft.mk (F := 2) hx hM hk h11 h13 (Or.inr rfl)
  rw [a1]
  exact ⟨a2 b1, b2⟩
/-- what waits goes out, whatever it is -/
theorem co_l {a1 : Int32} {g : Nat} (hg : g < 24) : ∀ (w : Nat) (M : am_I) (c gm : Nat), M 46 34 = nI w → w ≤ 40 → M 46 30 = nI (500 * g + c) → c + w ≤ 500 → 2 * w + 1 ≤ gm → ∃ M' : am_I, s_X10_comesOut_L0 a1 gm 0 M = M' ∧ p_X10_comesOut_L0 a1 gm 0 M ∧ FVn g M M' := by
  intro w
  induction w with
  | zero =>
    intro M c gm h1 h2 h3 h4 h5
    obtain ⟨gm, rfl⟩ : ∃ k, gm = k + 1 := ⟨gm - 1, by omega⟩
    have c0 : nI 0 ≤ 0 := by decide
    rw [u_s_X10_comesOut_L0_0, u_p_X10_comesOut_L0_0, h1, if_pos c0, if_pos c0]
    exact ⟨M, rfl, trivial, FVn.rf⟩
  | succ w ih =>
    intro M c gm h1 h2 h3 h4 h5
    obtain ⟨gm, rfl⟩ : ∃ k, gm = k + 1 + 1 := ⟨gm - 2, by omega⟩
    have c0 : ¬ nI (w + 1) ≤ 0 := nI_nle (by omega) (by omega)
    have v48 : vp_in (nI w) 48 := vp_in_nI (by omega) (by omega)
    rw [u_s_X10_comesOut_L0_0, u_p_X10_comesOut_L0_0, h1, if_neg c0, if_neg c0, nI_pred, nI_clamp (by omega)]
    have em : ∀ k : Int32, ∃ M' : am_I, s_X10_comesOut_L0 a1 gm 0 (s_X10_emit (am_w M 46 34 (nI w)) k 0) = M' ∧ (p_X10_emit (am_w M 46 34 (nI w)) k 0 ∧ p_X10_comesOut_L0 a1 gm 0 (s_X10_emit (am_w M 46 34 (nI w)) k 0)) ∧ FVn g M M' := by
      intro k
      obtain ⟨x1, x2⟩ := em_1 (M := am_w M 46 34 (nI w)) (c := 500 * g + c) (k := k) (v := 0) h3 (by omega)
      rw [x1]
      obtain ⟨M', y1, y2, y3⟩ := ih (am_w (am_w (am_w (am_w M 46 34 (nI w)) 65 (500 * g + c) k) 66 (500 * g + c) 0) 46 30 (nI (500 * g + c + 1))) (c + 1) gm rfl (by omega) rfl (by omega) (by omega)
      refine ⟨M', y1, ⟨x2, y2⟩, FVn.tr (fun k' a q1 q2 => ?_) y3⟩
      by_cases k46 : k' = 46
      · subst k46
        rw [aw_n (fun e => q2 ⟨rfl, Or.inr e⟩)]
        show am_w M 46 34 (nI w) 46 a = _
        rw [aw_n (fun e => q2 ⟨rfl, Or.inl e⟩)]
      · rw [aw_k k46]
        by_cases k66 : k' = 66
        · subst k66
          rw [aw_n (fun e => q1 ⟨Or.inr rfl, by omega, by omega⟩)]
          rfl
        · rw [aw_k k66]
          by_cases k65 : k' = 65
          · subst k65
            rw [aw_n (fun e => q1 ⟨Or.inl rfl, by omega, by omega⟩)]
            rfl
          · rw [aw_k k65, aw_k k46]
    have go : ∃ M' : am_I, s_X10_comesOut_L0 a1 (gm + 1) 1 M = M' ∧ p_X10_comesOut_L0 a1 (gm + 1) 1 M ∧ FVn g M M' := by
      rw [u_s_X10_comesOut_L0_1, u_p_X10_comesOut_L0_1, h1, nI_pred, nI_clamp (by omega)]
      by_cases d8 : M 67 w = 8
      · rw [if_pos d8, if_pos d8]
        obtain ⟨M', y1, y2, y3⟩ := em 2
        exact ⟨M', y1, ⟨v48, y2⟩, y3⟩
      · rw [if_neg d8, if_neg d8]
        by_cases d9 : M 67 w = 9
        · rw [if_pos d9, if_pos d9]
          obtain ⟨M', y1, y2, y3⟩ := em 3
          exact ⟨M', y1, ⟨v48, y2⟩, y3⟩
        · rw [if_neg d9, if_neg d9]
          obtain ⟨M', y1, y2, y3⟩ := em 4
          exact ⟨M', y1, ⟨v48, y2⟩, y3⟩
    obtain ⟨M', y1, y2, y3⟩ := go
    by_cases d6 : M 67 w = 6
    · rw [if_pos d6, if_pos d6]
      exact ⟨M, rfl, ⟨v48, trivial⟩, FVn.rf⟩
    · rw [if_neg d6, if_neg d6]
      by_cases a0 : a1 = 0
      · rw [if_pos a0, if_pos a0]
        exact ⟨M', y1, ⟨v48, y2⟩, y3⟩
      · rw [if_neg a0, if_neg a0]
        by_cases d10 : M 67 w = 10
        · rw [if_pos d10, if_pos d10]
          exact ⟨M', y1, ⟨v48, v48, y2⟩, y3⟩
        · rw [if_neg d10, if_neg d10]
          exact ⟨M, rfl, ⟨v48, v48, trivial⟩, FVn.rf⟩
theorem co_r {a1 : Int32} {g w c f : Nat} {M : am_I} (hg : g < 24) (hf : 100 ≤ f) (h1 : M 46 34 = nI w) (h2 : w ≤ 40) (h3 : M 46 30 = nI (500 * g + c)) (h4 : c + w ≤ 500) : p_X10_comesOut f M a1 ∧ FVn g M (s_X10_comesOut f M a1) := by
  have e3 : s_X10_comesOut f M a1 = s_X10_comesOut_L0 a1 (f + 1) 0 M := by rw [u_s_X10_comesOut_L0_0]; rfl
  have e4 : p_X10_comesOut f M a1 = p_X10_comesOut_L0 a1 (f + 1) 0 M := by rw [u_p_X10_comesOut_L0_0]; rfl
  obtain ⟨M', y1, y2, y3⟩ := co_l (a1 := a1) hg w M c (f + 1) h1 h2 h3 h4 (by omega)
  rw [e3, e4, y1]
  exact ⟨y2, y3⟩
/-- on to the next token -/
theorem adv_k {b : Nat → Int32} {n T tp f g k : Nat} {A0 M0 I : am_I} (hx : Cx b n T tp f g A0 M0) (t1 : I 1 1 = nI n) (t2 : I 1 2 = nI (ps b n (k + 1))) (t3 : I 2 = b) : p_X6_advance f I ∧ ∃ A1, s_X6_advance f I = A1 ∧ Tok b n (k + 1) A1 ∧ (∀ r, r ≠ 1 → A1 r = I r) ∧ FrC I A1 := by
  obtain ⟨q1, A1, q2, q3, q4, q5, q6, q7⟩ := ad_c (b := b) (n := n) (f := f) (i := ps b n (k + 1)) hx.1 (by have := hx.2.1; omega) t1 t2 t3 (ps_le _)
  refine ⟨q1, A1, q2, ⟨(q3 1 1 (by omega)).trans t1, q4, q5, q6, q7, (q3.row (by decide)).trans t3⟩, fun r hr => q3.row hr, FrC.ad q3⟩
end
