section
/-! ===== a rule ===== -/
def RuI (b : Nat → Int32) (n T : Nat) (A0 M0 : am_I) (g : Nat) (ok : Bool) (R L : Nat) (rb lb md : Nat → Nat) (k : Nat) (A M : am_I) (S : Nat) : Prop := Com b n T A0 M0 g ok R R L rb lb md k A M S ∧ (A 3 3 = 0 ∧ A 3 4 = -1 ∧ A 3 1 = 0 ∧ A 3 2 = 0 ∧ M 46 12 = 0) ∧ lb L = S ∧ S ≤ k ∧ 3 * L ≤ k
def RuO (b : Nat → Int32) (n T : Nat) (A0 M0 : am_I) (g R tp f k : Nat) (A X : am_I) : Prop := ∃ (k' : Nat) (A' : am_I) (S' : Nat) (ok : Bool) (L : Nat) (rb lb md : Nat → Nat), Rch (nI tp) f k A k' A' ∧ RuI b n T A0 M0 g ok R L rb lb md k' A' X S' ∧ k < k'
theorem RuO.rch {b : Nat → Int32} {n T g R tp f k k1 : Nat} {A0 M0 A A1 X : am_I} (h : Rch (nI tp) f k A k1 A1) (hk : k1 ≤ 400) (h2 : Flt A0 M0 g tp f k1 A1 X ∨ RuO b n T A0 M0 g R tp f k1 A1 X) : Flt A0 M0 g tp f k A X ∨ RuO b n T A0 M0 g R tp f k A X := by
  rcases h2 with h2 | ⟨k', A', S', ok, L, rb, lb, md, x1, x2, x3⟩
  · exact Or.inl (Flt.rch h hk h2)
  · exact Or.inr ⟨k', A', S', ok, L, rb, lb, md, h.tr x1, x2, by have := h.1; omega⟩
theorem m19 {b : Nat → Int32} {n T tp f g : Nat} {A0 M0 M : am_I} (hx : Cx b n T tp f g A0 M0) (h : FrM g M0 M) : M 46 19 = nI g := by
  rw [h 46 19 (by unfold scM; omega)]
  exact hx.2.2.2.2.2.2.2.2.2.2.1
theorem j187_f {g q : Nat} {M0 M : am_I} {F v1 : Int32} (h : Ft g M0 M F q) : s_X10_tellRule_J187 v1 M = M ∧ p_X10_tellRule_J187 v1 M := by
  obtain ⟨m1, m2⟩ := must_f (x := 4) h
  unfold s_X10_tellRule_J187 p_X10_tellRule_J187
  rw [m1, if_neg h.nl, if_neg h.nl]
  exact ⟨rfl, m2, trivial⟩
theorem ru_16 {b : Nat → Int32} {n T tp f g : Nat} {A0 M0 : am_I} {ok : Bool} {R L : Nat} {rb lb md : Nat → Nat} {k S : Nat} {A U M : am_I} {x : Int32} (hx : Cx b n T tp f g A0 M0) (tok : Tok b n k A) (h32 : A 3 2 = 0) (h7 : A 38 7 = nI (R + 1)) (fc : FrC A0 A) (hC : Com b n T A0 M0 g ok (R + 1) R L rb lb md k U M S) (hU : U 3 4 = -1 ∧ U 3 1 = 0 ∧ U 3 2 = 0 ∧ M 46 12 = 0) (hl : lb L = S) (hS : S ≤ k) (hL : 3 * L ≤ k + 1) (hy : tk b n k = 16 → ¬ s_X2_goesOn A (nI (tk b n k)) = 0 ∧ s_X2_take f A (nI tp) = am_w (am_w U 3 5 x) 3 3 0 ∧ p_X2_take f A (nI tp)) (hn : ¬ tk b n k = 16 → s_X2_goesOn A (nI (tk b n k)) = 0) : (Flt A0 M0 g tp f k A (s_X10_tellRule_J187 (nI (16 * g + R)) M) ∨ RuO b n T A0 M0 g (R + 1) tp f k A (s_X10_tellRule_J187 (nI (16 * g + R)) M)) ∧ p_X10_tellRule_J187 (nI (16 * g + R)) M := by
  have hT := hx.2.2.2.2.1
  have hg := hx.2.2.1
  have hC' := hC
  obtain ⟨tok', c1, c2, c3, c4, c5, c6, c7, c8, c9, c10⟩ := hC
  have hR16 := c7.1.1
  have x4 : s_X10_is M 4 = bI (decide (tk b n k = 16)) := (is_k hx c5 c1 c2 c3 16 (by decide)).1
  have pp := (is_k hx c5 c1 c2 c3 16 (by decide)).2
  by_cases h16 : tk b n k = 16
  · obtain ⟨y1, y2, y3⟩ := hy h16
    have bt : ¬ bI true = 0 := by decide
    have em : s_X10_must M 4 = s_X10_next M ∧ (p_X10_next M → p_X10_must M 4) := by
      unfold s_X10_must p_X10_must
      rw [x4, decide_eq_true h16, if_neg bt, if_neg bt]
      exact ⟨rfl, fun q => ⟨pp _, q⟩⟩
    unfold s_X10_tellRule_J187 p_X10_tellRule_J187
    rw [em.1]
    by_cases hk : k < 400
    · obtain ⟨A1, r1, tok1, rows, fc1, hT1⟩ := stp_2 (dp := 0) hx tok c1 h7 hR16 y1 (by omega) hk h32 (by omega) (by omega) (by omega) y3 y2 tok'.1 tok'.2.1 tok'.2.2.2.2.2 ((c4.w (Or.inl ⟨rfl, by decide⟩)).w (Or.inl ⟨rfl, by decide⟩))
      have a3 := rows 3 (by decide)
      obtain ⟨n1, n2⟩ := nx_k (M := M) c2 hk
      have le : (am_w M 46 11 (nI (k + 1))) 46 13 ≤ 0 := by
        show M 46 13 ≤ 0
        rw [c3]; decide
      have e19 : (am_w M 46 11 (nI (k + 1))) 46 19 = nI g := m19 hx (c5.w (sc46 (by omega)))
      have e59 : (am_w M 46 11 (nI (k + 1))) 59 g = nI L := c9
      have e55 : (am_w M 46 11 (nI (k + 1))) 55 g = nI R := c10
      have vg : vp_in (nI g) 24 := vp_in_nI hg (by omega)
      have vr : vp_in (nI (16 * g + R)) 384 := vp_in_nI (by omega) (by omega)
      rw [n1, if_pos le, if_pos le, e19, nI_clamp (n := g) (by omega), nI_clamp (n := 16 * g + R) (by omega), e59, e55, nI_1]
      refine ⟨Or.inr ⟨k + 1, A1, S, ok, L, rb, lb, md, r1, ⟨?_, ⟨?_, ?_, ?_, ?_, hU.2.2.2⟩, hl, by omega, by omega⟩, by omega⟩, em.2 n2, vg, vr, vg, vg⟩
      · refine ⟨tok1, hT1, rfl, c3, fc1, ((c5.w (sc46 (by omega))).w (by unfold scM; omega)).w (by unfold scM; omega), c6.up (by omega) (by rw [a3]; rfl) rfl rfl, ?_, c8, c9, aw_s⟩
        exact c7.done (fun r h1 h2 => by rw [rows r (by omega), aw_k (by omega), aw_k (by omega)]) (fun r h1 h2 h3 h4 => by rw [aw_k (by omega), aw_k (by omega), aw_k (by omega)]) rfl
      · rw [a3]; rfl
      · rw [a3]; exact hU.1
      · rw [a3]; exact hU.2.1
      · rw [a3]; exact hU.2.2.1
    · obtain ⟨f1, f2⟩ := Ft.n4 (M := M) hx c5 c1 hk c2 c3
      have hfo : s_X2_faultOf A (nI (tk b n k)) (nI k) (nI (R + 1)) = 2 := fo_rm (dp := 0) y1 tk_lt (by omega) (by omega) h32 (by omega) hR16 (by omega)
      rw [if_neg f2.nl, if_neg f2.nl]
      exact ⟨Or.inl ⟨2, _, f2, flt_2 hx tok c1 h7 fc hfo (Or.inr rfl)⟩, em.2 f1, trivial⟩
  · have y1 := hn h16
    have bf : bI false = 0 := rfl
    obtain ⟨f1, f2⟩ := Ft.mk (M := M) (F := 1) hx c5 c1 c2 c3 (Or.inl rfl)
    have hfo := fo_no (c := tk b n k) (k := nI k) (R := nI (R + 1)) y1
    have em : s_X10_must M 4 = s_X10_fail M 1 ∧ p_X10_must M 4 := by
      unfold s_X10_must p_X10_must
      rw [x4, decide_eq_false h16, if_pos bf, if_pos bf]
      exact ⟨rfl, pp _, f1⟩
    unfold s_X10_tellRule_J187 p_X10_tellRule_J187
    rw [em.1, if_neg f2.nl, if_neg f2.nl]
    exact ⟨Or.inl ⟨1, _, f2, flt_2 hx tok c1 h7 fc hfo (Or.inl rfl)⟩, em.2, trivial⟩
theorem ru_l {b : Nat → Int32} {n T tp f g R : Nat} {A0 M0 : am_I} (hx : Cx b n T tp f g A0 M0) : ∀ m k, 401 - k ≤ m → ∀ (A M : am_I) (S gm : Nat) (ok : Bool) (L : Nat) (rb lb md : Nat → Nat) (al : Int32), LiI b n T A0 M0 g ok R L rb lb md al k A M S → 2 * (401 - k) + 5 ≤ gm → (Flt A0 M0 g tp f k A (s_X10_tellRule_L134 f gm (nI (16 * g + R)) 1 al M) ∨ RuO b n T A0 M0 g (R + 1) tp f k A (s_X10_tellRule_L134 f gm (nI (16 * g + R)) 1 al M)) ∧ p_X10_tellRule_L134 f gm (nI (16 * g + R)) 1 al M := by
  intro m
  have hT := hx.2.2.2.2.1
  have hg := hx.2.2.1
  have hf := hx.2.1
  induction m with
  | zero =>
    intro k hm A M S gm ok L rb lb md al hI
    have := hI.1.k4 hx
    omega
  | succ m ih =>
    intro k hm A M S gm ok L rb lb md al hI hgm
    have hk4 := hI.1.k4 hx
    have h13 : M 46 13 = 0 := hI.1.2.2.2.1
    have hrL : rb R ≤ L := by
      have c7 := hI.1.2.2.2.2.2.2.2.1
      have h1 := (c7.2.2.2.2.2.2.1 R (by omega)).2.2.2.2.1
      have h2 := c7.2.2.2.2.2.1.2.2.1
      omega
    obtain ⟨G1, G2⟩ := lit_go hx hI
    obtain ⟨gm, rfl⟩ : ∃ x, gm = x + 1 + 1 := ⟨gm - 2, by omega⟩
    have n1 : ¬ (1 : Int32) = 0 := by decide
    rw [u_s_X10_tellRule_L134, u_p_X10_tellRule_L134, if_neg n1, if_neg n1, if_pos h13, if_pos h13]
    generalize s_X10_literal f M al = X at G1 ⊢
    rcases G1 with ⟨F, q, hFt, hPF⟩ | ⟨k', A', U, S', ok', lb', md', r1, ⟨t1, t2, t3, t4⟩, ⟨t5, t6⟩, hC, hU, hl, hS, hL⟩
    · obtain ⟨i1, i2⟩ := is_f (x := 24) hFt.ne
      obtain ⟨i3, i4⟩ := is_f (x := 25) hFt.ne
      obtain ⟨j1, j2⟩ := j187_f (v1 := nI (16 * g + R)) hFt
      rw [i1, i3, if_pos rfl, if_pos rfl, if_pos rfl, if_pos rfl, u_s_X10_tellRule_L134, u_p_X10_tellRule_L134, if_pos rfl, if_pos rfl, j1]
      exact ⟨Or.inl ⟨F, q, hFt, hPF⟩, G2, i2, i4, j2⟩
    · have hk' := hC.k4 hx
      have hC' := hC
      obtain ⟨tok', c1, c2, c3, c4, c5, c6, c7, c8, c9, c10⟩ := hC
      have hR16 := c7.1.1
      have x24 : s_X10_is X 24 = bI (decide (tk b n k' = 4)) := (is_k hx c5 c1 c2 c3 4 (by decide)).1
      have x25 : s_X10_is X 25 = bI (decide (tk b n k' = 5)) := (is_k hx c5 c1 c2 c3 5 (by decide)).1
      have pp := (is_k hx c5 c1 c2 c3 4 (by decide)).2
      have bt : ¬ bI true = 0 := by decide
      have bf : bI false = 0 := rfl
      -- one more literal
      have more : ∀ al2 : Int32, (tk b n k' = 4 ∧ al2 = 1 ∨ tk b n k' = 5 ∧ al2 = 0) → ((Flt A0 M0 g tp f k A (s_X10_tellRule_L134 f (gm + 1) (nI (16 * g + R)) 1 al2 (s_X10_next X)) ∨ RuO b n T A0 M0 g (R + 1) tp f k A (s_X10_tellRule_L134 f (gm + 1) (nI (16 * g + R)) 1 al2 (s_X10_next X))) ∧ p_X10_next X ∧ p_X10_tellRule_L134 f (gm + 1) (nI (16 * g + R)) 1 al2 (s_X10_next X)) := by
        intro al2 hal
        have h45 : tk b n k' = 4 ∨ tk b n k' = 5 ∨ tk b n k' = 16 := by omega
        have hgo : ¬ s_X2_goesOn A' (nI (tk b n k')) = 0 := fun q => t5.mp q h45
        obtain ⟨e1, e2⟩ := t6 h45
        by_cases hk : k' < 400
        · obtain ⟨A2, r2, tok2, rows, fc2, hT2⟩ := stp_2 (dp := 0) hx t1 c1 t3 hR16 hgo (by omega) hk t2 (by omega) (by omega) (by omega) e2 e1 tok'.1 tok'.2.1 tok'.2.2.2.2.2 ((c4.w (Or.inl ⟨rfl, by decide⟩)).w (Or.inl ⟨rfl, by decide⟩))
          have a3 := rows 3 (by decide)
          obtain ⟨n1', n2'⟩ := nx_k (M := X) c2 hk
          rw [n1']
          have hI2 : LiI b n T A0 M0 g ok' R (L + 1) (va_up rb (R + 1) (L + 1)) lb' md' al2 (k' + 1) A2 (am_w X 46 11 (nI (k' + 1))) S' := by
            refine ⟨?_, ⟨?_, ?_, ?_, ?_, ?_, ?_, hU.2.2.2⟩, hl, by omega, by omega, ?_⟩
            · refine hC'.up tok2 hT2 rfl rfl fc2 (c5.w (sc46 (by omega))) (by rw [a3]; rfl) rfl rfl ?_ c8 rfl rfl
              exact c7.cg (fun r h1 h2 => by rw [rows r (by omega), aw_k (by omega), aw_k (by omega)]) (fun r h1 h2 h3 => by rw [aw_k (by omega)])
            · rw [a3]
              show (if tk b n k' = 16 then (0 : Int32) else 2) = 2
              rw [if_neg (by omega)]
            · rw [a3]; exact hU.1
            · rw [a3]
              show (if tk b n k' = 4 then (1 : Int32) else 0) = al2
              rcases hal with ⟨q1, q2⟩ | ⟨q1, q2⟩
              · rw [if_pos q1, q2]
              · rw [if_neg (by omega), q2]
            · rcases hal with ⟨-, q2⟩ | ⟨-, q2⟩
              · exact Or.inr q2
              · exact Or.inl q2
            · rw [a3]; exact hU.2.1
            · rw [a3]; exact hU.2.2.1
            · intro q
              rw [vu_n (by omega)] at q
              omega
          obtain ⟨y1, y2⟩ := ih (k' + 1) (by have := r1.1; omega) A2 _ S' (gm + 1) ok' (L + 1) _ lb' md' al2 hI2 (by have := r1.1; omega)
          exact ⟨RuO.rch (r1.tr r2) (by omega) y1, n2', y2⟩
        · obtain ⟨f1, f2⟩ := Ft.n4 (M := X) hx c5 c1 hk c2 c3
          have hfo : s_X2_faultOf A' (nI (tk b n k')) (nI k') (nI (R + 1)) = 2 := fo_rm (dp := 0) hgo tk_lt (by omega) (by omega) t2 (by omega) hR16 (by omega)
          obtain ⟨j1, j2⟩ := j187_f (v1 := nI (16 * g + R)) f2
          rw [u_s_X10_tellRule_L134, u_p_X10_tellRule_L134, if_neg n1, if_neg n1, if_neg f2.ne, if_neg f2.ne, j1]
          exact ⟨Or.inl (Flt.rch r1 (by omega) ⟨2, _, f2, flt_2 hx t1 c1 t3 t4 hfo (Or.inr rfl)⟩), f1, j2⟩
      rw [x24, x25]
      by_cases h4 : tk b n k' = 4
      · rw [decide_eq_true h4, if_neg bt, if_neg bt]
        obtain ⟨y1, y2, y3⟩ := more 1 (Or.inl ⟨h4, rfl⟩)
        exact ⟨y1, G2, pp _, y2, y3⟩
      · rw [decide_eq_false h4, if_pos bf, if_pos bf]
        by_cases h5 : tk b n k' = 5
        · rw [decide_eq_true h5, if_neg bt, if_neg bt]
          obtain ⟨y1, y2, y3⟩ := more 0 (Or.inr ⟨h5, rfl⟩)
          exact ⟨y1, G2, pp _, pp _, y2, y3⟩
        · rw [decide_eq_false h5, if_pos bf, if_pos bf, u_s_X10_tellRule_L134, u_p_X10_tellRule_L134, if_pos rfl, if_pos rfl]
          obtain ⟨y1, y2⟩ := ru_16 (x := if tk b n k' = 4 then 1 else 0) hx t1 t2 t3 t4 hC' hU hl hS (by omega) (fun h16 => ⟨fun q => t5.mp q (by omega), by
            obtain ⟨e1, e2⟩ := t6 (by omega)
            rw [if_pos h16] at e1
            exact ⟨e1, e2⟩⟩) (fun h16 => t5.mpr (by omega))
          exact ⟨RuO.rch r1 (by omega) y1, G2, pp _, pp _, y2⟩
end
