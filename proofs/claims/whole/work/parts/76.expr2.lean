section
/-! ===== an expression, on and to its end ===== -/
theorem FrC.u {A U : am_I} (h : FUn A U) : FrC A U := fun k a q1 q2 q3 q4 => h k a (by omega) (by omega) (by omega)
theorem opn_0 {r : Nat → Int32} : ∀ w, opn r w = 0 → ∀ i, i < w → ¬ r i = 24 := by
  intro w
  induction w with
  | zero => intro _ i hi; omega
  | succ w ih =>
    intro h i hi
    have e : opn r w + (if r w = 24 then 1 else 0) = 0 := h
    by_cases c : r w = 24
    · rw [if_pos c] at e; omega
    · rw [if_neg c] at e
      by_cases x : i = w
      · subst x; exact c
      · exact ih (by omega) i (by omega)
theorem go_s {b : Nat → Int32} {n T g : Nat} {A0 M0 : am_I} {ok : Bool} {R R' L : Nat} {rb lb md : Nat → Nat} {cm al : Int32} {B k w dp S : Nat} {A M : am_I} (hE : ExI b n T A0 M0 g ok R R' L rb lb md cm al B true k A M w dp S) : s_X2_goesOn A (nI (tk b n k)) = 0 ↔ ¬ ((tk b n k = 17 ∨ tk b n k = 18 ∨ tk b n k = 19) ∨ (0 < dp ∧ tk b n k = 25) ∨ (dp = 0 ∧ A 3 4 = -1 ∧ 20 ≤ tk b n k ∧ tk b n k ≤ 23) ∨ (dp = 0 ∧ ¬ A 3 4 = -1 ∧ (tk b n k = 4 ∨ tk b n k = 5 ∨ tk b n k = 16))) := by
  rcases hE.2.1 with h | ⟨h, -⟩
  · exact go_6 h hE.2.2.2.2.1.2.2.1 hE.2.2.2.2.1.w20.2.2 tk_lt
  · cases h
theorem ex_cl {b : Nat → Int32} {n T tp f g : Nat} {A0 M0 : am_I} {ok : Bool} {R R' L : Nat} {rb lb md : Nat → Nat} {cm al : Int32} {B k w d S : Nat} {A M : am_I} (hx : Cx b n T tp f g A0 M0) (hE : ExI b n T A0 M0 g ok R R' L rb lb md cm al B true k A M w (d + 1) S) (h25 : tk b n k = 25) : ∃ (M1 : am_I) (w1 S1 : Nat), (k < 400 → ∃ A1, Rch (nI tp) f k A (k + 1) A1 ∧ ExI b n T A0 M0 g ok R R' L rb lb md cm al B true (k + 1) A1 (s_X10_next M1) w1 d S1 ∧ S ≤ S1 ∧ (∀ i, i < S → A1 45 i = A 45 i)) ∧ (M1 46 11 = nI k ∧ M1 46 13 = 0 ∧ FrM g M0 M1 ∧ M1 46 34 = nI w1 ∧ w1 ≤ 40 ∧ M1 46 30 = nI (500 * g + S1) ∧ S1 ≤ 400) ∧ ∀ gm, s_X10_expression_L12 f (gm + 1) 3 0 0 0 0 0 M = s_X10_expression_L12 f gm 3 0 0 0 0 0 (s_X10_next M1) ∧ (p_X10_next M1 → p_X10_expression_L12 f gm 3 0 0 0 0 0 (s_X10_next M1) → p_X10_expression_L12 f (gm + 1) 3 0 0 0 0 0 M) := by
  have hgo : ¬ s_X2_goesOn A (nI (tk b n k)) = 0 := fun q => (go_s hE).mp q (Or.inr (Or.inl ⟨by omega, h25⟩))
  have hs3 := ex_s3 hE
  obtain ⟨hC, e2, e3, e4, hS, e6, e7, e8⟩ := hE
  have hw := hS.w20
  have hC' := hC
  have hT := hx.2.2.2.2.1
  have hg := hx.2.2.1
  obtain ⟨⟨t1, t2, t3, t4, t5, t6⟩, c1, c2, c3, c4, c5, c6, c7, c8, c9, c10⟩ := hC
  obtain ⟨U, M', w', S', ⟨u1, u2⟩, ⟨m1, m2⟩, hS', c7', h30', hh', ⟨z1, z2, z3⟩, cells, fu, fv, top⟩ := unl false (f := f) (by have := hx.2.1; omega) hg hS c7 c8 e6 e7 (by omega)
  have hw' := hS'.w20
  obtain ⟨w1, rfl⟩ : ∃ w1, w' = w1 + 1 := ⟨w' - 1, by omega⟩
  have h24 : U 4 w1 = 24 := by
    rw [fu.row (k := 4) (by decide) (by decide) (by decide)]
    rcases top with q | q | ⟨q, -⟩
    · omega
    · exact q
    · cases q
  have eu : uA false = 17 := rfl
  rw [eu] at u1 u2
  have eb : bI false = 0 := rfl
  rw [eb] at m1 m2
  rw [h25] at t3
  obtain ⟨y1, y2⟩ := ta_b (f := f) (a3 := nI tp) t3 (Or.inr rfl) hs3
  have n24 : ¬ nI 25 = 24 := by decide
  have eT : s_X2_take f A (nI tp) = am_w (am_w (am_w U 3 1 (nI w1)) 3 2 (nI d)) 3 3 6 := by
    rw [y1]
    unfold s_X2_takeBracket
    rw [if_neg n24, u1, hS'.1, if_neg (nI_nle (by omega) (by omega)), nI_pred, hS'.2.2.1, nI_pred]
  have pT : p_X2_take f A (nI tp) := y2 (by unfold p_X2_takeBracket; rw [if_neg n24]; exact u2)
  have m13 : M' 46 13 = 0 := (fv 46 13 (by omega) (by omega)).trans c3
  have m11 : M' 46 11 = nI k := (fv 46 11 (by omega) (by omega)).trans c2
  have fm : FrM g M0 (am_w (am_w M' 46 34 (nI w1)) 46 12 (nI d)) := ((c5.v fv).w (sc46 (by omega))).w (sc46 (by omega))
  refine ⟨am_w (am_w M' 46 34 (nI w1)) 46 12 (nI d), w1, S', fun hk => ?_, ⟨m11, m13, fm, rfl, by omega, h30', by omega⟩, fun gm => ?_⟩
  · obtain ⟨A1, r1, r2, r3, r4, r5⟩ := stp_1 hx hC' hgo (by omega) hk hS.2.2.1 (by omega) (by omega) (by omega) pT eT (fu.row (k := 1) (by decide) (by decide) (by decide)) (fu.row (k := 2) (by decide) (by decide) (by decide)) (((FrC.u fu).w (Or.inl ⟨rfl, by decide⟩)).w (Or.inl ⟨rfl, by decide⟩) |>.w (Or.inl ⟨rfl, by decide⟩))
    have a3 := r3 3 (by decide)
    have a4 := r3 4 (by decide)
    have a45 := r3 45 (by decide)
    obtain ⟨v1, v2⟩ := nx_k (M := am_w (am_w M' 46 34 (nI w1)) 46 12 (nI d)) (k := k) m11 hk
    rw [v1]
    refine ⟨A1, r1, ⟨?_, Or.inl (by rw [a3]; rfl), by rw [a3]; exact (fu 3 4 (by decide) (by decide) (by decide)).trans e3, by rw [a3]; exact (fu 3 5 (by decide) (by decide) (by decide)).trans e4, ?_, by omega, ?_, by omega⟩, z1, fun i hi => by rw [a45]; exact cells i hi⟩
    · refine hC'.up r2 r5 rfl (m13.trans c3.symm) r4 (fm.w (sc46 (by omega))) (by rw [a3]; exact fu 3 6 (by decide) (by decide) (by decide)) (fv 46 15 (by omega) (by omega)) (fv 46 16 (by omega) (by omega)) ?_ h30' (fv.row (k := 59) (by decide) (by decide) (by decide)) (fv.row (k := 55) (by decide) (by decide) (by decide))
      exact c7'.cg (fun r h1 h2 => by rw [r3 r (by omega), aw_k (by omega), aw_k (by omega), aw_k (by omega)]) (fun r h1 h2 h3 => by rw [aw_k (by omega), aw_k (by omega), aw_k (by omega)])
    · exact hS'.pop h24 (by rw [a4]; rfl) rfl (by rw [a3]; rfl) rfl (by rw [a3]; rfl) rfl
    · rw [a45]
      show hgt (U 45) B (S' - B) = _
      rw [hh']
      congr 2
      omega
  · have x7 : s_X10_is M 7 = 1 := by
      have := (is_k hx c5 c1 c2 c3 25 (by decide)).1
      rw [decide_eq_true h25] at this
      exact this
    have pp := (is_k hx c5 c1 c2 c3 25 (by decide)).2
    have n1 : ¬ (1 : Int32) = 0 := by decide
    have nd : ¬ M 46 12 ≤ 0 := by rw [hS.2.2.2.1]; exact nI_nle (by omega) (by omega)
    have w34 : (am_w M' 46 34 (nI w1)) 46 12 = nI (d + 1) := hS'.2.2.2.1
    rw [u_s_X10_expression_L12_3, u_p_X10_expression_L12_3, x7, if_neg n1, if_neg n1, if_neg nd, if_neg nd, m1, hS'.2.1, hS'.2.2.2.1, nI_pred, nI_pred]
    exact ⟨rfl, fun q1 q2 => ⟨pp _, m2, q1, q2⟩⟩
theorem ex_ar {b : Nat → Int32} {n T tp f g : Nat} {A0 M0 : am_I} {ok : Bool} {R R' L : Nat} {rb lb md : Nat → Nat} {cm al : Int32} {B k w dp S : Nat} {A M : am_I} (hx : Cx b n T tp f g A0 M0) (hE : ExI b n T A0 M0 g ok R R' L rb lb md cm al B true k A M w dp S) (ho : tk b n k = 17 ∨ tk b n k = 18 ∨ tk b n k = 19) : ∃ (M1 : am_I) (w1 S1 : Nat), (k < 400 → ∃ A1, Rch (nI tp) f k A (k + 1) A1 ∧ ExI b n T A0 M0 g ok R R' L rb lb md cm al B false (k + 1) A1 (s_X10_next M1) w1 dp S1 ∧ S ≤ S1 ∧ (∀ i, i < S → A1 45 i = A 45 i)) ∧ (M1 46 11 = nI k ∧ M1 46 13 = 0 ∧ FrM g M0 M1) ∧ ∀ gm, s_X10_expression_L12 f (gm + 4) 3 0 0 0 0 0 M = s_X10_expression_L12 f gm 0 0 1 0 0 0 (s_X10_next M1) ∧ (p_X10_next M1 → p_X10_expression_L12 f gm 0 0 1 0 0 0 (s_X10_next M1) → p_X10_expression_L12 f (gm + 4) 3 0 0 0 0 0 M) := by
  have hgo : ¬ s_X2_goesOn A (nI (tk b n k)) = 0 := fun q => (go_s hE).mp q (Or.inl ho)
  have hs3 := ex_s3 hE
  obtain ⟨hC, e2, e3, e4, hS, e6, e7, e8⟩ := hE
  have hw := hS.w20
  have hC' := hC
  have hT := hx.2.2.2.2.1
  have hg := hx.2.2.1
  obtain ⟨⟨t1, t2, t3, t4, t5, t6⟩, c1, c2, c3, c4, c5, c6, c7, c8, c9, c10⟩ := hC
  obtain ⟨tm, htm⟩ : ∃ tm : Bool, tm = decide (tk b n k = 19) := ⟨_, rfl⟩
  obtain ⟨U, M', w', S', ⟨u1, u2⟩, ⟨m1, m2⟩, hS', c7', h30', hh', ⟨z1, z2, z3⟩, cells, fu, fv, top⟩ := unl tm (f := f) (by have := hx.2.1; omega) hg hS c7 c8 e6 e7 (by omega)
  have hw' := hS'.w20
  have r4u := fu.row (k := 4) (by decide) (by decide) (by decide)
  have eu : (if tk b n k = 19 then (19 : Int32) else 17) = uA tm := by
    rw [htm]
    by_cases q : tk b n k = 19
    · rw [if_pos q, decide_eq_true q]; rfl
    · rw [if_neg q, decide_eq_false q]; rfl
  obtain ⟨y1, y2⟩ := ta_o (f := f) (a3 := nI tp) t3 ho hs3
  rw [eu, u1] at y1 y2
  obtain ⟨h1, h2⟩ := hold_1 (A := U) (x := nI (tk b n k)) hS'.1 (by omega)
  rw [h1] at y1
  have m13 : M' 46 13 = 0 := (fv 46 13 (by omega) (by omega)).trans c3
  have m11 : M' 46 11 = nI k := (fv 46 11 (by omega) (by omega)).trans c2
  have fm : FrM g M0 (am_w (am_w M' 67 w' (nI (kd (tk b n k)))) 46 34 (nI (w' + 1))) := ((c5.v fv).w sc67).w (sc46 (by omega))
  refine ⟨am_w (am_w M' 67 w' (nI (kd (tk b n k)))) 46 34 (nI (w' + 1)), w' + 1, S', fun hk => ?_, ⟨m11, m13, fm⟩, fun gm => ?_⟩
  · obtain ⟨A1, r1, r2, r3, r4, r5⟩ := stp_1 hx hC' hgo (by omega) hk hS.2.2.1 (by omega) (by omega) (by omega) (y2 ⟨u2, h2⟩) y1 (fu.row (k := 1) (by decide) (by decide) (by decide)) (fu.row (k := 2) (by decide) (by decide) (by decide)) (((FrC.u fu).w (Or.inr (Or.inl rfl))).w (Or.inl ⟨rfl, by decide⟩) |>.w (Or.inl ⟨rfl, by decide⟩))
    have a3 := r3 3 (by decide)
    have a4 := r3 4 (by decide)
    have a45 := r3 45 (by decide)
    obtain ⟨v1, v2⟩ := nx_k (M := am_w (am_w M' 67 w' (nI (kd (tk b n k)))) 46 34 (nI (w' + 1))) (k := k) m11 hk
    rw [v1]
    refine ⟨A1, r1, ⟨?_, Or.inl (by rw [a3]; rfl), by rw [a3]; exact (fu 3 4 (by decide) (by decide) (by decide)).trans e3, by rw [a3]; exact (fu 3 5 (by decide) (by decide) (by decide)).trans e4, ?_, by omega, ?_, by omega⟩, z1, fun i hi => by rw [a45]; exact cells i hi⟩
    · refine hC'.up r2 r5 rfl (m13.trans c3.symm) r4 (fm.w (sc46 (by omega))) (by rw [a3]; exact fu 3 6 (by decide) (by decide) (by decide)) (fv 46 15 (by omega) (by omega)) (fv 46 16 (by omega) (by omega)) ?_ h30' (fv.row (k := 59) (by decide) (by decide) (by decide)) (fv.row (k := 55) (by decide) (by decide) (by decide))
      exact c7'.cg (fun r h1 h2 => by rw [r3 r (by omega), aw_k (by omega), aw_k (by omega), aw_k (by omega)]) (fun r h1 h2 h3 => by rw [aw_k (by omega), aw_k (by omega), aw_k (by omega)])
    · refine hS'.push (x := nI (tk b n k)) (y := nI (kd (tk b n k))) (by rw [a4]; rfl) rfl ?_ (by rw [a3]; rfl) rfl (by rw [a3]; exact hS'.2.2.1) hS'.2.2.2.1 ?_ hw'.2.2 ?_
      · rcases ho with q | q | q <;> rw [q]
        · exact Or.inr (Or.inl ⟨rfl, rfl⟩)
        · exact Or.inr (Or.inr (Or.inl ⟨rfl, rfl⟩))
        · exact Or.inr (Or.inr (Or.inr ⟨rfl, rfl⟩))
      · have n24 : ¬ nI (tk b n k) = 24 := fun q => absurd ((tb_n _ tk_lt 24 (by decide)).mp q) (by omega)
        rw [if_neg n24, Nat.add_zero]
      · rw [r4u]
        rcases top with q | q | ⟨q1, q2⟩
        · exact Or.inl q
        · exact Or.inr (Or.inl q)
        · refine Or.inr (Or.inr (Or.inr ⟨q2, ?_⟩))
          rw [htm] at q1
          rw [of_decide_eq_true q1]
          rfl
    · rw [a45]
      show hgt (U 45) B (S' - B) = _
      have e : w' - dp + 1 = w' + 1 - dp + 0 := by omega
      rw [hh', e]
      rfl
  · have x7 : s_X10_is M 7 = 0 := by
      have := (is_k hx c5 c1 c2 c3 25 (by decide)).1
      rw [decide_eq_false (by omega)] at this
      exact this
    have pp := (is_k hx c5 c1 c2 c3 25 (by decide)).2
    have x8 : s_X10_is M 8 = bI (decide (tk b n k = 17)) := (is_k hx c5 c1 c2 c3 17 (by decide)).1
    have x9 : s_X10_is M 9 = bI (decide (tk b n k = 18)) := (is_k hx c5 c1 c2 c3 18 (by decide)).1
    have x10 : s_X10_is M 10 = bI (decide (tk b n k = 19)) := (is_k hx c5 c1 c2 c3 19 (by decide)).1
    have n1 : ¬ (1 : Int32) = 0 := by decide
    have bt : ¬ bI true = 0 := by decide
    have bf : bI false = 0 := rfl
    have v : vp_in (nI k) 403 := vp_in_nI (by omega) (by omega)
    have v2 : vp_in (nI w') 48 := vp_in_nI (by omega) (by omega)
    obtain ⟨u49, -, -⟩ := m49 hx c5 c1
    have step6 : s_X10_expression_L12 f (gm + 1) 6 0 1 0 (nI (kd (tk b n k))) (bI tm) M = s_X10_expression_L12 f gm 0 0 1 0 0 0 (s_X10_next (am_w (am_w M' 67 w' (nI (kd (tk b n k)))) 46 34 (nI (w' + 1)))) ∧ (p_X10_next (am_w (am_w M' 67 w' (nI (kd (tk b n k)))) 46 34 (nI (w' + 1))) → p_X10_expression_L12 f gm 0 0 1 0 0 0 (s_X10_next (am_w (am_w M' 67 w' (nI (kd (tk b n k)))) 46 34 (nI (w' + 1)))) → p_X10_expression_L12 f (gm + 1) 6 0 1 0 (nI (kd (tk b n k))) (bI tm) M) := by
      rw [u_s_X10_expression_L12_6, u_p_X10_expression_L12_6, m1, hS'.2.1, nI_clamp (by omega), nI_1]
      exact ⟨rfl, fun q1 q2 => ⟨m2, v2, q1, q2⟩⟩
    have step5 : s_X10_expression_L12 f (gm + 2) 5 0 0 0 0 1 M = s_X10_expression_L12 f (gm + 1) 6 0 1 0 (nI (kd (tk b n k))) (bI tm) M ∧ (p_X10_expression_L12 f (gm + 1) 6 0 1 0 (nI (kd (tk b n k))) (bI tm) M → p_X10_expression_L12 f (gm + 2) 5 0 0 0 0 1 M) := by
      rw [show gm + 2 = gm + 1 + 1 from rfl, u_s_X10_expression_L12_5, u_p_X10_expression_L12_5, if_neg n1, if_neg n1, c2, nI_clamp (by omega), u49]
      by_cases q : tk b n k = 19
      · have e10 : nI (kd (tk b n k)) = 10 := by rw [q]; rfl
        rw [if_pos e10, if_pos e10, htm, decide_eq_true q]
        exact ⟨rfl, fun h => ⟨v, h⟩⟩
      · have e10 : ¬ nI (kd (tk b n k)) = 10 := by
          rcases ho with q1 | q1 | q1
          · rw [q1]; decide
          · rw [q1]; decide
          · exact absurd q1 q
        rw [if_neg e10, if_neg e10, htm, decide_eq_false q]
        exact ⟨rfl, fun h => ⟨v, h⟩⟩
    have step4 : s_X10_expression_L12 f (gm + 3) 4 0 0 0 0 0 M = s_X10_expression_L12 f (gm + 2) 5 0 0 0 0 1 M ∧ (p_X10_expression_L12 f (gm + 2) 5 0 0 0 0 1 M → p_X10_expression_L12 f (gm + 3) 4 0 0 0 0 0 M) := by
      rw [show gm + 3 = gm + 2 + 1 from rfl, u_s_X10_expression_L12_4, u_p_X10_expression_L12_4, x8, x9, x10]
      rcases ho with q | q | q
      · rw [decide_eq_true q, if_neg bt, if_neg bt]
        exact ⟨rfl, fun h => ⟨pp _, h⟩⟩
      · rw [decide_eq_false (show ¬ tk b n k = 17 by omega), decide_eq_true q, if_pos bf, if_pos bf, if_neg bt, if_neg bt]
        exact ⟨rfl, fun h => ⟨pp _, pp _, h⟩⟩
      · rw [decide_eq_false (show ¬ tk b n k = 17 by omega), decide_eq_false (show ¬ tk b n k = 18 by omega), decide_eq_true q, if_pos bf, if_pos bf, if_pos bf, if_pos bf, if_neg bt, if_neg bt]
        exact ⟨rfl, fun h => ⟨pp _, pp _, pp _, h⟩⟩
    rw [show gm + 4 = gm + 3 + 1 from rfl, u_s_X10_expression_L12_3, u_p_X10_expression_L12_3, x7, if_pos rfl, if_pos rfl, step4.1, step5.1, step6.1]
    exact ⟨rfl, fun q1 q2 => ⟨pp _, step4.2 (step5.2 (step6.2 q1 q2))⟩⟩
theorem ex_45 {b : Nat → Int32} {n T tp f g : Nat} {A0 M0 : am_I} {ok : Bool} {R R' L : Nat} {rb lb md : Nat → Nat} {k S : Nat} {A M : am_I} (hx : Cx b n T tp f g A0 M0) (hC : Com b n T A0 M0 g ok R R' L rb lb md k A M S) (ho : ¬ (tk b n k = 17 ∨ tk b n k = 18 ∨ tk b n k = 19)) (h7 : ¬ tk b n k = 25 ∨ M 46 12 ≤ 0) : ∀ gm, s_X10_expression_L12 f (gm + 3) 3 0 0 0 0 0 M = (if M 46 12 ≤ 0 then s_X10_comesOut f M 0 else s_X10_comesOut f (s_X10_fail M 1) 0) ∧ ((if M 46 12 ≤ 0 then p_X10_comesOut f M 0 else (p_X10_fail M 1 ∧ p_X10_comesOut f (s_X10_fail M 1) 0)) → p_X10_expression_L12 f (gm + 3) 3 0 0 0 0 0 M) := by
  intro gm
  obtain ⟨t, c1, c2, c3, c4, c5, c6, c7, c8, c9, c10⟩ := hC
  have pp := (is_k hx c5 c1 c2 c3 25 (by decide)).2
  have x7 : s_X10_is M 7 = bI (decide (tk b n k = 25)) := (is_k hx c5 c1 c2 c3 25 (by decide)).1
  have x8 : s_X10_is M 8 = 0 := by
    have := (is_k hx c5 c1 c2 c3 17 (by decide)).1
    rw [decide_eq_false (by omega)] at this
    exact this
  have x9 : s_X10_is M 9 = 0 := by
    have := (is_k hx c5 c1 c2 c3 18 (by decide)).1
    rw [decide_eq_false (by omega)] at this
    exact this
  have x10 : s_X10_is M 10 = 0 := by
    have := (is_k hx c5 c1 c2 c3 19 (by decide)).1
    rw [decide_eq_false (by omega)] at this
    exact this
  have s45 : s_X10_expression_L12 f (gm + 2) 4 0 0 0 0 0 M = (if M 46 12 ≤ 0 then s_X10_comesOut f M 0 else s_X10_comesOut f (s_X10_fail M 1) 0) ∧ ((if M 46 12 ≤ 0 then p_X10_comesOut f M 0 else (p_X10_fail M 1 ∧ p_X10_comesOut f (s_X10_fail M 1) 0)) → p_X10_expression_L12 f (gm + 2) 4 0 0 0 0 0 M) := by
    rw [show gm + 2 = gm + 1 + 1 from rfl, u_s_X10_expression_L12_4, u_p_X10_expression_L12_4, x8, x9, x10, if_pos rfl, if_pos rfl, if_pos rfl, if_pos rfl, if_pos rfl, if_pos rfl, u_s_X10_expression_L12_5, u_p_X10_expression_L12_5, if_pos rfl, if_pos rfl]
    exact ⟨rfl, fun h => ⟨pp _, pp _, pp _, h⟩⟩
  rw [show gm + 3 = gm + 2 + 1 from rfl, u_s_X10_expression_L12_3, u_p_X10_expression_L12_3, x7]
  by_cases q : tk b n k = 25
  · have le : M 46 12 ≤ 0 := by rcases h7 with h7 | h7; exact absurd q h7; exact h7
    have bt : ¬ bI true = 0 := by decide
    rw [decide_eq_true q, if_neg bt, if_neg bt, if_pos le, if_pos le, if_pos le, if_pos le, s45.1, if_pos le]
    exact ⟨rfl, fun h => ⟨pp _, s45.2 (by rw [if_pos le]; exact h)⟩⟩
  · have bf : bI false = 0 := rfl
    rw [decide_eq_false q, if_pos bf, if_pos bf, s45.1]
    exact ⟨rfl, fun h => ⟨pp _, s45.2 h⟩⟩
theorem ex_end {b : Nat → Int32} {n T tp f g : Nat} {A0 M0 : am_I} {ok : Bool} {R R' L : Nat} {rb lb md : Nat → Nat} {cm al : Int32} {B k w S : Nat} {A M : am_I} (hx : Cx b n T tp f g A0 M0) (hE : ExI b n T A0 M0 g ok R R' L rb lb md cm al B true k A M w 0 S) (ho : ¬ (tk b n k = 17 ∨ tk b n k = 18 ∨ tk b n k = 19)) : ∀ gm, ExO b n T A0 M0 g ok R R' L rb lb md cm al B tp f k A (s_X10_expression_L12 f (gm + 3) 3 0 0 0 0 0 M) S ∧ p_X10_expression_L12 f (gm + 3) 3 0 0 0 0 0 M := by
  intro gm
  obtain ⟨hC, e2, e3, e4, hS, e6, e7, e8⟩ := hE
  have hw := hS.w20
  have hC' := hC
  have hT := hx.2.2.2.2.1
  have hg := hx.2.2.1
  obtain ⟨tok, c1, c2, c3, c4, c5, c6, c7, c8, c9, c10⟩ := hC
  obtain ⟨U, M', w', S', ⟨u1, u2⟩, ⟨m1, m2⟩, hS', c7', h30', hh', ⟨z1, z2, z3⟩, cells, fu, fv, top⟩ := unl false (f := f) (by have := hx.2.1; omega) hg hS c7 c8 e6 e7 (by omega)
  have eu : uA false = 17 := rfl
  rw [eu] at u1 u2
  have eb : bI false = 0 := rfl
  rw [eb] at m1 m2
  have hw0 : w' = 0 := by
    rcases top with q | q | ⟨q, -⟩
    · exact q
    · by_cases x : w' = 0
      · exact x
      · exact absurd q (opn_0 w hS.2.2.2.2.2.2.1 (w' - 1) (by omega))
    · cases q
  subst hw0
  have le : M 46 12 ≤ 0 := by rw [hS.2.2.2.1]; decide
  obtain ⟨x1, x2⟩ := ex_45 hx hC' ho (Or.inr le) gm
  rw [x1, if_pos le, m1]
  refine ⟨⟨k, A, U, S', Rch.rf, ⟨tok, ?_, hS.2.2.1, e3, c7.2.1, c4⟩, ⟨u1, u2⟩, ?_, ⟨(fu 3 4 (by decide) (by decide) (by decide)).trans e3, (fu 3 5 (by decide) (by decide) (by decide)).trans e4, hS'.1, hS'.2.2.1, hS'.2.2.2.1⟩, hh', ⟨by omega, z1, by omega⟩, cells, ho, Or.inr ?_⟩, x2 (by rw [if_pos le]; exact m2)⟩
  · rcases e2 with q | ⟨q, -⟩
    · exact q
    · cases q
  · obtain ⟨t1, t2, t3, t4, t5, t6⟩ := tok
    have r1 := fu.row (k := 1) (by decide) (by decide) (by decide)
    have r2 := fu.row (k := 2) (by decide) (by decide) (by decide)
    exact ⟨⟨by rw [r1]; exact t1, by rw [r1]; exact t2, by rw [r1]; exact t3, by rw [r1]; exact t4, by rw [r1]; exact t5, by rw [r2]; exact t6⟩, c1, (fv 46 11 (by omega) (by omega)).trans c2, (fv 46 13 (by omega) (by omega)).trans c3, c4.tr (FrC.u fu), c5.v fv, c6.up (Nat.le_refl k) (fu 3 6 (by decide) (by decide) (by decide)) (fv 46 15 (by omega) (by omega)) (fv 46 16 (by omega) (by omega)), c7', h30', by rw [fv.row (k := 59) (by decide) (by decide) (by decide)]; exact c9, by rw [fv.row (k := 55) (by decide) (by decide) (by decide)]; exact c10⟩
  · rcases e2 with q | ⟨q, -⟩
    · exact q
    · cases q
/-- behind a fault -/
theorem ex_t3 {g w c f q : Nat} {M0 M : am_I} {F : Int32} (hf : 100 ≤ f) (hg : g < 24) (h : Ft g M0 M F q) (h1 : M 46 34 = nI w) (h2 : w ≤ 40) (h3 : M 46 30 = nI (500 * g + c)) (h4 : c + w ≤ 500) : ∀ gm, Ft g M0 (s_X10_expression_L12 f (gm + 3) 3 0 0 0 0 0 M) F q ∧ p_X10_expression_L12 f (gm + 3) 3 0 0 0 0 0 M := by
  intro gm
  have i0 := fun x => is_f (x := x) h.ne
  obtain ⟨f1, f2⟩ := fa_f (F := 1) h.2.1 h.1
  obtain ⟨o1, o2⟩ := co_r (a1 := 0) hg hf h1 h2 h3 h4
  rw [show gm + 3 = gm + 2 + 1 from rfl, u_s_X10_expression_L12_3, u_p_X10_expression_L12_3, (i0 7).1, if_pos rfl, if_pos rfl, show gm + 2 = gm + 1 + 1 from rfl, u_s_X10_expression_L12_4, u_p_X10_expression_L12_4, (i0 8).1, (i0 9).1, (i0 10).1, if_pos rfl, if_pos rfl, if_pos rfl, if_pos rfl, if_pos rfl, if_pos rfl, u_s_X10_expression_L12_5, u_p_X10_expression_L12_5, if_pos rfl, if_pos rfl, f1]
  by_cases le : M 46 12 ≤ 0
  · rw [if_pos le, if_pos le]
    exact ⟨h.v o2, (i0 7).2, (i0 8).2, (i0 9).2, (i0 10).2, o1⟩
  · rw [if_neg le, if_neg le]
    exact ⟨h.v o2, (i0 7).2, (i0 8).2, (i0 9).2, (i0 10).2, f2, o1⟩
theorem ex_t0 {g f q : Nat} {v2 : Int32} {M0 M : am_I} {F : Int32} (h : Ft g M0 M F q) : ∀ gm, s_X10_expression_L12 f (gm + 1) 0 0 v2 0 0 0 M = M ∧ p_X10_expression_L12 f (gm + 1) 0 0 v2 0 0 0 M := by
  intro gm
  rw [u_s_X10_expression_L12_0, u_p_X10_expression_L12_0]
  by_cases c : v2 = 0
  · rw [if_pos c, if_pos c]
    exact ⟨rfl, trivial⟩
  · rw [if_neg c, if_neg c, if_neg h.ne, if_neg h.ne]
    exact ⟨rfl, trivial⟩
end
