section
/-! ===== an expression as a whole ===== -/
theorem Com.k4 {b : Nat → Int32} {n T tp f g : Nat} {A0 M0 : am_I} {ok : Bool} {R R' L : Nat} {rb lb md : Nat → Nat} {k S : Nat} {A M : am_I} (hx : Cx b n T tp f g A0 M0) (hC : Com b n T A0 M0 g ok R R' L rb lb md k A M S) : k ≤ 400 := by
  have hT := hx.2.2.2.2.1
  have := hC.2.1
  omega
/-- a fault at this very token -/
theorem fl_at {b : Nat → Int32} {n T tp f g : Nat} {A0 M0 : am_I} {ok : Bool} {R R' L : Nat} {rb lb md : Nat → Nat} {k S : Nat} {A M X : am_I} {F : Int32} (hx : Cx b n T tp f g A0 M0) (hC : Com b n T A0 M0 g ok R R' L rb lb md k A M S) (h : s_X2_faultOf A (nI (tk b n k)) (nI k) (nI R) = F) (hX : Ft g M0 X F (pl b n k)) : Flt A0 M0 g tp f k A X := ⟨F, pl b n k, hX, flt_1 hx hC h hX.1⟩
theorem exo_rch {b : Nat → Int32} {n T tp f g : Nat} {A0 M0 : am_I} {ok : Bool} {R R' L : Nat} {rb lb md : Nat → Nat} {cm al : Int32} {B k k1 S S1 : Nat} {A A1 X : am_I} (h : Rch (nI tp) f k A k1 A1) (hS : S ≤ S1) (hc : ∀ i, i < S → A1 45 i = A 45 i) (hk : k1 ≤ 400) (hlt : k < k1) (h2 : Flt A0 M0 g tp f k1 A1 X ∨ ExO b n T A0 M0 g ok R R' L rb lb md cm al B tp f k1 A1 X S1) : Flt A0 M0 g tp f k A X ∨ ExO b n T A0 M0 g ok R R' L rb lb md cm al B tp f k A X S := by
  rcases h2 with h2 | ⟨k', A', U, S', x1, x2, x3, x4, x5, x6, x7, x8, x9⟩
  · exact Or.inl (Flt.rch h hk h2)
  · exact Or.inr ⟨k', A', U, S', h.tr x1, x2, x3, x4, x5, x6, ⟨x7.1, by omega, x7.2.2⟩, fun i hi => (x8 i (by omega)).trans (hc i hi), x9.1, Or.inl (by have := x1.1; omega)⟩
theorem ex_all {b : Nat → Int32} {n T tp f g : Nat} {A0 M0 : am_I} {ok : Bool} {R R' L : Nat} {rb lb md : Nat → Nat} {cm al : Int32} {B : Nat} (hx : Cx b n T tp f g A0 M0) : ∀ m k, 401 - k ≤ m → ∀ (A M : am_I) (w dp S : Nat), (ExI b n T A0 M0 g ok R R' L rb lb md cm al B false k A M w dp S → ∀ gm, 10 * (401 - k) + 10 ≤ gm → (Flt A0 M0 g tp f k A (s_X10_expression_L12 f gm 0 0 1 0 0 0 M) ∨ ExO b n T A0 M0 g ok R R' L rb lb md cm al B tp f k A (s_X10_expression_L12 f gm 0 0 1 0 0 0 M) S) ∧ p_X10_expression_L12 f gm 0 0 1 0 0 0 M) ∧ (ExI b n T A0 M0 g ok R R' L rb lb md cm al B true k A M w dp S → ∀ gm, 10 * (401 - k) + 5 ≤ gm → (Flt A0 M0 g tp f k A (s_X10_expression_L12 f gm 3 0 0 0 0 0 M) ∨ ExO b n T A0 M0 g ok R R' L rb lb md cm al B tp f k A (s_X10_expression_L12 f gm 3 0 0 0 0 0 M) S) ∧ p_X10_expression_L12 f gm 3 0 0 0 0 0 M) := by
  intro m
  have hT := hx.2.2.2.2.1
  have hg := hx.2.2.1
  have hf := hx.2.1
  induction m with
  | zero =>
    intro k hm A M w dp S
    exact ⟨fun hE => by have := hE.1.k4 hx; omega, fun hE => by have := hE.1.k4 hx; omega⟩
  | succ m ih =>
    intro k hm A M w dp S
    refine ⟨fun hE gm hgm => ?_, fun hE gm hgm => ?_⟩
    · have hk4 := hE.1.k4 hx
      have hgo := go_u hE
      by_cases h24 : tk b n k = 24
      · have hgo' : ¬ s_X2_goesOn A (nI (tk b n k)) = 0 := fun q => hgo.mp q (Or.inr (Or.inl h24))
        by_cases hok : dp < 6 ∧ k < 400
        · obtain ⟨A1, M1, r1, r2, r3, r4⟩ := ex_op hx hE h24 hok.1 hok.2
          obtain ⟨gm, rfl⟩ : ∃ x, gm = x + 2 := ⟨gm - 2, by omega⟩
          obtain ⟨y1, y2⟩ := (ih (k + 1) (by omega) A1 M1 (w + 1) (dp + 1) S).1 r2 gm (by omega)
          rw [(r4 gm).1]
          exact ⟨exo_rch r1 (Nat.le_refl S) (fun i _ => by rw [r3]) (by omega) (by omega) y1, (r4 gm).2 y2⟩
        · obtain ⟨hC, e2, e3, e4, hS, e6, e7, e8⟩ := hE
          have hw := hS.w20
          obtain ⟨s1, s2, s3, s4, s5, s6, s7, s8⟩ := id hS
          have hC' := hC
          obtain ⟨t, c1, c2, c3, c4, c5, c6, c7, c8, c9, c10⟩ := hC
          have hfo : s_X2_faultOf A (nI (tk b n k)) (nI k) (nI R) = 2 := fo_rm hgo' tk_lt (by omega) hk4 s3 (by omega) c7.1.1 (by omega)
          have x6 : s_X10_is M 6 = 1 := by
            have := (is_k hx c5 c1 c2 c3 24 (by decide)).1
            rw [decide_eq_true h24] at this
            exact this
          have p6 := (is_k hx c5 c1 c2 c3 24 (by decide)).2 6
          have n1 : ¬ (1 : Int32) = 0 := by decide
          by_cases hd : dp < 6
          · obtain ⟨gm, rfl⟩ : ∃ x, gm = x + 1 + 1 + 1 := ⟨gm - 3, by omega⟩
            have n6 : ¬ M 46 12 = 6 := by rw [s4]; exact fun q => absurd ((nI_eq (b := 6) (by omega) (by omega)).mp q) (by omega)
            have le : M 46 13 ≤ 0 := by rw [c3]; decide
            obtain ⟨f1, f2⟩ := Ft.n4 (M := am_w M 46 12 (nI (dp + 1))) hx (c5.w (sc46 (by omega))) c1 (by omega) c2 c3
            have e400 : k = 400 := by omega
            have w34 : (s_X10_next (am_w M 46 12 (nI (dp + 1)))) 46 34 = nI w := by
              subst e400
              rw [(nx_4 (M := am_w M 46 12 (nI (dp + 1))) c2).1, (fa_0 (M := am_w M 46 12 (nI (dp + 1))) (F := 2) hx (c5.w (sc46 (by omega))) c1 c2 c3).1]
              exact s2
            have v : vp_in (nI w) 48 := vp_in_nI (by omega) (by omega)
            have fz := (f2.w (k := 67) (a := w) (v := 6) sc67 (Or.inl (by decide))).w (k := 46) (a := 34) (v := nI (w + 1)) (sc46 (by omega)) (by omega)
            obtain ⟨z1, z2⟩ := ex_t0 (f := f) (v2 := 1) fz gm
            rw [u_s_X10_expression_L12_0, u_p_X10_expression_L12_0, if_neg n1, if_neg n1, if_pos c3, if_pos c3, if_pos c3, if_pos c3, x6, if_neg n1, if_neg n1, if_neg n6, if_neg n6, u_s_X10_expression_L12_1, u_p_X10_expression_L12_1, if_pos le, if_pos le, s4, nI_1, w34, nI_clamp (by omega), nI_1, z1]
            exact ⟨Or.inl (fl_at hx hC' hfo fz), p6, f1, v, z2⟩
          · obtain ⟨gm, rfl⟩ : ∃ x, gm = x + 1 + 1 := ⟨gm - 2, by omega⟩
            have e6d : M 46 12 = 6 := by rw [s4, show dp = 6 by omega]; rfl
            obtain ⟨f1, f2⟩ := Ft.mk (F := 2) hx c5 c1 c2 c3 (Or.inr rfl)
            rw [u_s_X10_expression_L12_0, u_p_X10_expression_L12_0, if_neg n1, if_neg n1, if_pos c3, if_pos c3, if_pos c3, if_pos c3, x6, if_neg n1, if_neg n1, if_pos e6d, if_pos e6d, u_s_X10_expression_L12_1, u_p_X10_expression_L12_1, if_neg f2.nl, if_neg f2.nl]
            exact ⟨Or.inl (fl_at hx hC' hfo f2), p6, f1, trivial⟩
      · by_cases hu : tk b n k = 15 ∨ (7 ≤ tk b n k ∧ tk b n k ≤ 13)
        · have hgo' : ¬ s_X2_goesOn A (nI (tk b n k)) = 0 := fun q => hgo.mp q (by omega)
          obtain ⟨M1, x1, ⟨x2, x3, x4, x5, x6⟩, x7⟩ := ex_un hx hE hu
          by_cases hk : k < 400
          · obtain ⟨A1, r1, r2, r3⟩ := x1 hk
            obtain ⟨gm, rfl⟩ : ∃ x, gm = x + 2 := ⟨gm - 2, by omega⟩
            obtain ⟨y1, y2⟩ := (ih (k + 1) (by omega) A1 _ w dp (S + 1)).2 r2 gm (by omega)
            rw [(x7 gm).1]
            exact ⟨exo_rch r1 (by omega) r3 (by omega) (by omega) y1, (x7 gm).2 (nx_k x2 hk).2 y2⟩
          · obtain ⟨hC, e2, e3, e4, hS, e6, e7, e8⟩ := hE
            have hw := hS.w20
            obtain ⟨f1, f2⟩ := Ft.n4 (M := M1) hx x4 hC.2.1 hk x2 x3
            have e400 : k = 400 := by omega
            have hfo : s_X2_faultOf A (nI (tk b n k)) (nI k) (nI R) = 2 := fo_rm hgo' tk_lt (by omega) hk4 hS.2.2.1 (by omega) hC.2.2.2.2.2.2.2.1.1.1 (by omega)
            have nn : s_X10_next M1 = am_w (am_w M1 46 13 2) 46 14 (nI (pl b n k)) := by
              rw [(nx_4 (M := M1) (by rw [x2, e400])).1]
              exact (fa_0 (F := 2) hx x4 hC.2.1 x2 x3).1
            obtain ⟨gm, rfl⟩ : ∃ x, gm = x + 3 + 2 := ⟨gm - 5, by omega⟩
            obtain ⟨z1, z2⟩ := ex_t3 (f := f) (w := w) (c := S + 1) (by omega) hg f2 (by rw [nn]; exact x5) (by omega) (by rw [nn]; exact x6) (by omega) gm
            rw [(x7 (gm + 3)).1]
            exact ⟨Or.inl (fl_at hx hC hfo z1), (x7 (gm + 3)).2 f1 z2⟩
        · have hgo' : s_X2_goesOn A (nI (tk b n k)) = 0 := hgo.mpr (by omega)
          obtain ⟨hC, e2, e3, e4, hS, e6, e7, e8⟩ := hE
          have hC' := hC
          obtain ⟨t, c1, c2, c3, c4, c5, c6, c7, c8, c9, c10⟩ := hC
          have x6 : s_X10_is M 6 = 0 := by
            have := (is_k hx c5 c1 c2 c3 24 (by decide)).1
            rw [decide_eq_false h24] at this
            exact this
          have x2 : s_X10_is M 2 = 0 := by
            have := (is_k hx c5 c1 c2 c3 15 (by decide)).1
            rw [decide_eq_false (by omega)] at this
            exact this
          have pp := (is_k hx c5 c1 c2 c3 24 (by decide)).2
          have n1 : ¬ (1 : Int32) = 0 := by decide
          have v : vp_in (nI k) 403 := vp_in_nI (by omega) (by omega)
          obtain ⟨u49, -, -⟩ := m49 hx c5 c1
          obtain ⟨f1, f2⟩ := Ft.mk (F := 1) hx c5 c1 c2 c3 (Or.inl rfl)
          have hfo := fo_no (c := tk b n k) (k := nI k) (R := nI R) hgo'
          obtain ⟨gm, rfl⟩ : ∃ x, gm = x + 1 + 1 := ⟨gm - 2, by omega⟩
          rw [u_s_X10_expression_L12_0, u_p_X10_expression_L12_0, if_neg n1, if_neg n1, if_pos c3, if_pos c3, x6, if_pos rfl, if_pos rfl, if_pos c3, if_pos c3, c2, nI_clamp (by omega), u49, x2]
          by_cases k27 : nI (kd (tk b n k)) < 27
          · rw [if_pos k27, if_pos k27, if_pos rfl, if_pos rfl, u_s_X10_expression_L12_2, u_p_X10_expression_L12_2, if_neg f2.nl, if_neg f2.nl]
            exact ⟨Or.inl (fl_at hx hC' hfo f2), pp _, v, pp _, f1, trivial⟩
          · have kv : ∀ c, c < 28 → ¬ (7 ≤ c ∧ c ≤ 13) → ¬ nI (kd c) < 27 → False := by
              have : ∀ c, c < 28 → ¬ (7 ≤ c ∧ c ≤ 13) → nI (kd c) < 27 := by decide +kernel
              exact fun c h1 h2 h3 => h3 (this c h1 h2)
            exact absurd k27 (fun q => kv _ tk_lt (by omega) q)
    · have hk4 := hE.1.k4 hx
      have hgo := go_s hE
      by_cases ho : tk b n k = 17 ∨ tk b n k = 18 ∨ tk b n k = 19
      · have hgo' : ¬ s_X2_goesOn A (nI (tk b n k)) = 0 := fun q => hgo.mp q (Or.inl ho)
        obtain ⟨M1, w1, S1, x1, ⟨x2, x3, x4⟩, x7⟩ := ex_ar hx hE ho
        by_cases hk : k < 400
        · obtain ⟨A1, r1, r2, r3, r4⟩ := x1 hk
          obtain ⟨gm, rfl⟩ : ∃ x, gm = x + 4 := ⟨gm - 4, by omega⟩
          obtain ⟨y1, y2⟩ := (ih (k + 1) (by omega) A1 _ w1 dp S1).1 r2 gm (by omega)
          rw [(x7 gm).1]
          exact ⟨exo_rch r1 r3 r4 (by omega) (by omega) y1, (x7 gm).2 (nx_k x2 hk).2 y2⟩
        · obtain ⟨hC, e2, e3, e4, hS, e6, e7, e8⟩ := hE
          have hw := hS.w20
          obtain ⟨f1, f2⟩ := Ft.n4 (M := M1) hx x4 hC.2.1 hk x2 x3
          have hfo : s_X2_faultOf A (nI (tk b n k)) (nI k) (nI R) = 2 := fo_rm hgo' tk_lt (by omega) hk4 hS.2.2.1 (by omega) hC.2.2.2.2.2.2.2.1.1.1 (by omega)
          obtain ⟨gm, rfl⟩ : ∃ x, gm = x + 1 + 4 := ⟨gm - 5, by omega⟩
          obtain ⟨z1, z2⟩ := ex_t0 (f := f) (v2 := 1) f2 gm
          rw [(x7 (gm + 1)).1, z1]
          exact ⟨Or.inl (fl_at hx hC hfo f2), (x7 (gm + 1)).2 f1 z2⟩
      · by_cases hd : dp = 0
        · subst hd
          obtain ⟨gm, rfl⟩ : ∃ x, gm = x + 3 := ⟨gm - 3, by omega⟩
          obtain ⟨y1, y2⟩ := ex_end hx hE ho gm
          exact ⟨Or.inr y1, y2⟩
        · by_cases h25 : tk b n k = 25
          · have hgo' : ¬ s_X2_goesOn A (nI (tk b n k)) = 0 := fun q => hgo.mp q (Or.inr (Or.inl ⟨by omega, h25⟩))
            obtain ⟨d, rfl⟩ : ∃ d, dp = d + 1 := ⟨dp - 1, by omega⟩
            obtain ⟨M1, w1, S1, x1, ⟨x2, x3, x4, x5, x6, x8, x9⟩, x7⟩ := ex_cl hx hE h25
            by_cases hk : k < 400
            · obtain ⟨A1, r1, r2, r3, r4⟩ := x1 hk
              obtain ⟨gm, rfl⟩ : ∃ x, gm = x + 1 := ⟨gm - 1, by omega⟩
              obtain ⟨y1, y2⟩ := (ih (k + 1) (by omega) A1 _ w1 d S1).2 r2 gm (by omega)
              rw [(x7 gm).1]
              exact ⟨exo_rch r1 r3 r4 (by omega) (by omega) y1, (x7 gm).2 (nx_k x2 hk).2 y2⟩
            · obtain ⟨hC, e2, e3, e4, hS, e6, e7, e8⟩ := hE
              have hw := hS.w20
              obtain ⟨f1, f2⟩ := Ft.n4 (M := M1) hx x4 hC.2.1 hk x2 x3
              have e400 : k = 400 := by omega
              have hfo : s_X2_faultOf A (nI (tk b n k)) (nI k) (nI R) = 2 := fo_rm hgo' tk_lt (by omega) hk4 hS.2.2.1 (by omega) hC.2.2.2.2.2.2.2.1.1.1 (by omega)
              have nn : s_X10_next M1 = am_w (am_w M1 46 13 2) 46 14 (nI (pl b n k)) := by
                rw [(nx_4 (M := M1) (by rw [x2, e400])).1]
                exact (fa_0 (F := 2) hx x4 hC.2.1 x2 x3).1
              obtain ⟨gm, rfl⟩ : ∃ x, gm = x + 3 + 1 := ⟨gm - 4, by omega⟩
              obtain ⟨z1, z2⟩ := ex_t3 (f := f) (w := w1) (c := S1) (by omega) hg f2 (by rw [nn]; exact x5) (by omega) (by rw [nn]; exact x8) (by omega) gm
              rw [(x7 (gm + 3)).1]
              exact ⟨Or.inl (fl_at hx hC hfo z1), (x7 (gm + 3)).2 f1 z2⟩
          · have hgo' : s_X2_goesOn A (nI (tk b n k)) = 0 := hgo.mpr (by omega)
            obtain ⟨hC, e2, e3, e4, hS, e6, e7, e8⟩ := hE
            have hw := hS.w20
            have hC' := hC
            obtain ⟨t, c1, c2, c3, c4, c5, c6, c7, c8, c9, c10⟩ := hC
            obtain ⟨f1, f2⟩ := Ft.mk (F := 1) hx c5 c1 c2 c3 (Or.inl rfl)
            have hfo := fo_no (c := tk b n k) (k := nI k) (R := nI R) hgo'
            have nl : ¬ M 46 12 ≤ 0 := by rw [hS.2.2.2.1]; exact nI_nle (by omega) (by omega)
            have nn := (fa_0 (F := 1) hx c5 c1 c2 c3).1
            obtain ⟨o1, o2⟩ := co_r (M := s_X10_fail M 1) (f := f) (a1 := 0) (w := w) (c := S) hg (by omega) (by rw [nn]; exact hS.2.1) (by omega) (by rw [nn]; exact c8) (by omega)
            obtain ⟨gm, rfl⟩ : ∃ x, gm = x + 3 := ⟨gm - 3, by omega⟩
            obtain ⟨y1, y2⟩ := ex_45 hx hC' ho (Or.inl h25) gm
            rw [y1, if_neg nl]
            exact ⟨Or.inl (fl_at hx hC' hfo (f2.v o2)), y2 (by rw [if_neg nl]; exact ⟨f1, o1⟩)⟩
/-- an expression from its start -/
theorem ex_go {b : Nat → Int32} {n T tp f g : Nat} {A0 M0 : am_I} {ok : Bool} {R R' L : Nat} {rb lb md : Nat → Nat} {cm al : Int32} {k S : Nat} {A M : am_I} (hx : Cx b n T tp f g A0 M0) (hC : Com b n T A0 M0 g ok R R' L rb lb md k A M S) (h33 : A 3 3 = 5 ∨ (A 3 3 = 2 ∧ tk b n k ≠ 6)) (h34 : A 3 4 = cm) (h35 : A 3 5 = al) (h31 : A 3 1 = 0) (h32 : A 3 2 = 0) (m12 : M 46 12 = 0) (hS : S ≤ k) : (Flt A0 M0 g tp f k A (s_X10_expression f M) ∨ ExO b n T A0 M0 g ok R R' L rb lb md cm al S tp f k A (s_X10_expression f M) S) ∧ p_X10_expression f M := by
  have hf := hx.2.1
  have hC2 : Com b n T A0 M0 g ok R R' L rb lb md k A (am_w M 46 34 0) S := by
    obtain ⟨t, c1, c2, c3, c4, c5, c6, c7, c8, c9, c10⟩ := hC
    exact ⟨t, c1, c2, c3, c4, c5.w (sc46 (by omega)), c6.up (Nat.le_refl k) rfl rfl rfl, c7.cg (fun _ _ _ => rfl) (fun r h1 h2 h3 => by rw [aw_k (by omega)]), c8, c9, c10⟩
  unfold s_X10_expression p_X10_expression
  rw [m12]
  refine (ex_all (cm := cm) (al := al) (B := S) hx 401 k (by omega) A (am_w M 46 34 0) 0 0 S).1 ⟨hC2, ?_, h34, h35, ⟨h31, rfl, h32, m12, fun i hi => by omega, fun i hi => by omega, rfl, by omega⟩, Nat.le_refl S, by rw [Nat.sub_self]; rfl, by omega⟩ f (by omega)
  rcases h33 with q | q
  · exact Or.inl q
  · exact Or.inr ⟨rfl, q⟩
end
