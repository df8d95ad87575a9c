section
/-! ===== an expression ===== -/
theorem hold_1 {A : am_I} {w : Nat} {x : Int32} (h : A 3 1 = nI w) (hw : w < 21) : s_X2_hold A x = am_w (am_w A 4 w x) 3 1 (nI (w + 1)) ∧ p_X2_hold A x := by
  have c : ¬ (21 : Int32) ≤ nI w := nI_ge (b := 21) hw (by omega)
  unfold s_X2_hold p_X2_hold
  rw [h, if_neg c, if_neg c, nI_clamp (by omega), nI_1]
  exact ⟨rfl, vp_in_nI hw (by omega)⟩
theorem Stk.w20 {A M : am_I} {w dp : Nat} (h : Stk A M w dp) : w ≤ 3 * dp + 2 ∧ dp ≤ w ∧ dp ≤ 6 := by
  obtain ⟨-, -, -, -, -, s6, s7, s8⟩ := h
  have h1 := opn_2 s6
  have h2 := opn_le (r := A 4) w
  rw [s7] at h1 h2
  exact ⟨h1, h2, s8⟩
theorem Stk.push {A A1 M M1 : am_I} {w dp dp' : Nat} {x y : Int32} (h : Stk A M w dp) (a4 : A1 4 = va_up (A 4) w x) (m67 : M1 67 = va_up (M 67) w y) (hxy : sOp x y) (a31 : A1 3 1 = nI (w + 1)) (m34 : M1 46 34 = nI (w + 1)) (a32 : A1 3 2 = nI dp') (m12 : M1 46 12 = nI dp') (hd : dp' = dp + (if x = 24 then 1 else 0)) (hd6 : dp' ≤ 6) (ht : w = 0 ∨ A 4 (w - 1) = 24 ∨ x = 24 ∨ (¬ A 4 (w - 1) = 19 ∧ x = 19)) : Stk A1 M1 (w + 1) dp' := by
  obtain ⟨s1, s2, s3, s4, s5, s6, s7, s8⟩ := h
  refine ⟨a31, m34, a32, m12, fun i hi => ?_, fun i hi => ?_, ?_, hd6⟩
  · rw [a4, m67]
    by_cases e : i = w
    · subst e; rw [vu_s, vu_s]; exact hxy
    · rw [vu_n e, vu_n e]; exact s5 i (by omega)
  · rw [a4, vu_n (j := i) (by omega)]
    by_cases e : i + 1 = w
    · rw [← e, vu_s]
      rw [← e] at ht
      rcases ht with ht | ht | ht | ht
      · omega
      · exact Or.inl ht
      · exact Or.inr (Or.inl ht)
      · exact Or.inr (Or.inr ht)
    · rw [vu_n e]; exact s6 i (by omega)
  · show opn (A1 4) w + (if A1 4 w = 24 then 1 else 0) = dp'
    rw [a4, vu_s, opn_cg (r := A 4) w (fun i hi => vu_n (by omega)), s7, hd]
theorem Stk.pop {A A1 M M1 : am_I} {w dp : Nat} (h : Stk A M (w + 1) (dp + 1)) (h24 : A 4 w = 24) (a4 : A1 4 = A 4) (m67 : M1 67 = M 67) (a31 : A1 3 1 = nI w) (m34 : M1 46 34 = nI w) (a32 : A1 3 2 = nI dp) (m12 : M1 46 12 = nI dp) : Stk A1 M1 w dp := by
  obtain ⟨s1, s2, s3, s4, s5, s6, s7, s8⟩ := h
  refine ⟨a31, m34, a32, m12, fun i hi => by rw [a4, m67]; exact s5 i (by omega), fun i hi => by rw [a4]; exact s6 i (by omega), ?_, by omega⟩
  have e : opn (A 4) w + (if A 4 w = 24 then 1 else 0) = dp + 1 := s7
  rw [if_pos h24] at e
  rw [a4]
  omega
theorem Stk.cg {A A1 M M1 : am_I} {w dp : Nat} (h : Stk A M w dp) (a4 : A1 4 = A 4) (m67 : M1 67 = M 67) (a31 : A1 3 1 = A 3 1) (m34 : M1 46 34 = M 46 34) (a32 : A1 3 2 = A 3 2) (m12 : M1 46 12 = M 46 12) : Stk A1 M1 w dp := by
  unfold Stk
  rw [a4, m67, a31, m34, a32, m12]
  exact h
def ExI (b : Nat → Int32) (n T : Nat) (A0 M0 : am_I) (g : Nat) (ok : Bool) (R R' L : Nat) (rb lb md : Nat → Nat) (cm al : Int32) (B : Nat) (six : Bool) (k : Nat) (A M : am_I) (w dp S : Nat) : Prop := Com b n T A0 M0 g ok R R' L rb lb md k A M S ∧ (A 3 3 = (if six then 6 else 5) ∨ (six = false ∧ A 3 3 = 2 ∧ tk b n k ≠ 6)) ∧ A 3 4 = cm ∧ A 3 5 = al ∧ Stk A M w dp ∧ B ≤ S ∧ hgt (A 45) B (S - B) = some (w - dp + (if six then 1 else 0)) ∧ S + (w - dp) ≤ k
def Flt (A0 M0 : am_I) (g tp f k : Nat) (A X : am_I) : Prop := ∃ (F : Int32) (q : Nat), Ft g M0 X F q ∧ PF (nI tp) f A0 k A F q
def ExO (b : Nat → Int32) (n T : Nat) (A0 M0 : am_I) (g : Nat) (ok : Bool) (R R' L : Nat) (rb lb md : Nat → Nat) (cm al : Int32) (B : Nat) (tp f k : Nat) (A X : am_I) (S : Nat) : Prop := ∃ (k' : Nat) (A' U : am_I) (S' : Nat), Rch (nI tp) f k A k' A' ∧ (Tok b n k' A' ∧ A' 3 3 = 6 ∧ A' 3 2 = 0 ∧ A' 3 4 = cm ∧ A' 38 7 = nI R ∧ FrC A0 A') ∧ (s_X2_unload f A' 17 = U ∧ p_X2_unload f A' 17) ∧ Com b n T A0 M0 g ok R R' L rb lb md k' U X S' ∧ (U 3 4 = cm ∧ U 3 5 = al ∧ U 3 1 = 0 ∧ U 3 2 = 0 ∧ X 46 12 = 0) ∧ hgt (U 45) B (S' - B) = some 1 ∧ (B ≤ S' ∧ S ≤ S' ∧ S' ≤ k') ∧ (∀ i, i < S → U 45 i = A 45 i) ∧ ¬ (tk b n k' = 17 ∨ tk b n k' = 18 ∨ tk b n k' = 19) ∧ (k < k' ∨ A 3 3 = 6)
theorem Flt.rch {A0 M0 : am_I} {g tp f k k' : Nat} {A A' X : am_I} (h : Rch (nI tp) f k A k' A') (hk : k' ≤ 400) (h2 : Flt A0 M0 g tp f k' A' X) : Flt A0 M0 g tp f k A X := by
  obtain ⟨F, q, h3, h4⟩ := h2
  exact ⟨F, q, h3, PF.rch h hk h4⟩
theorem flt_1 {b : Nat → Int32} {n T tp f g : Nat} {A0 M0 : am_I} {ok : Bool} {R R' L : Nat} {rb lb md : Nat → Nat} {k S : Nat} {A M : am_I} {F : Int32} (hx : Cx b n T tp f g A0 M0) (hC : Com b n T A0 M0 g ok R R' L rb lb md k A M S) (h : s_X2_faultOf A (nI (tk b n k)) (nI k) (nI R) = F) (hF : F = 1 ∨ F = 2) : PF (nI tp) f A0 k A F (pl b n k) := by
  obtain ⟨⟨t1, t2, t3, t4, t5, t6⟩, c1, c2, c3, c4, c5, c6, c7, c8⟩ := hC
  have hT := hx.2.2.2.2.1
  refine PF.mk (by omega) (by rw [t3, c7.2.1]; exact h) (by rcases hF with e | e <;> rw [e] <;> decide) t4 c4
theorem stp_1 {b : Nat → Int32} {n T tp f g : Nat} {A0 M0 : am_I} {ok : Bool} {R R' L : Nat} {rb lb md : Nat → Nat} {k S dp : Nat} {A M I : am_I} (hx : Cx b n T tp f g A0 M0) (hC : Com b n T A0 M0 g ok R R' L rb lb md k A M S) (hgo : ¬ s_X2_goesOn A (nI (tk b n k)) = 0) (h26 : tk b n k ≠ 26) (hk : k < 400) (hd : A 3 2 = nI dp) (hd6 : dp ≤ 6) (hh : tk b n k < 3 → R < 16) (ho : tk b n k = 24 → dp < 6) (pt : p_X2_take f A (nI tp)) (eT : s_X2_take f A (nI tp) = I) (i1 : I 1 = A 1) (i2 : I 2 = A 2) (hF : FrC A I) : ∃ A1, Rch (nI tp) f k A (k + 1) A1 ∧ Tok b n (k + 1) A1 ∧ (∀ r, r ≠ 1 → A1 r = I r) ∧ FrC A0 A1 ∧ k + 1 ≤ T := by
  obtain ⟨⟨t1, t2, t3, t4, t5, t6⟩, c1, c2, c3, c4, c5, c6, c7, c8⟩ := hC
  obtain ⟨q1, A1, q2, q3, q4, q5⟩ := adv_k (k := k) (I := I) hx (by rw [i1]; exact t1) (by rw [i1]; exact t2) (by rw [i2]; exact t6)
  have f0 : s_X2_faultOf A (A 1 3) (nI k) (A 38 7) = 0 := by
    rw [t3, c7.2.1]
    exact fo_ok hgo tk_lt h26 hk hd hd6 c7.1.1 hh ho
  have n26 : ¬ A 1 3 = 26 := by
    rw [t3]
    exact fun q => h26 ((tb_n _ tk_lt 26 (by decide)).mp q)
  exact ⟨A1, Rch.st f0 n26 hk pt eT q1 q2, q3, q4, (c4.tr hF).tr q5, hx.nx c1 h26 hk⟩
theorem Com.up {b : Nat → Int32} {n T g : Nat} {A0 M0 : am_I} {ok : Bool} {R R' L : Nat} {rb lb md : Nat → Nat} {k S S1 : Nat} {A M A1 M1 : am_I} (hC : Com b n T A0 M0 g ok R R' L rb lb md k A M S) (tok : Tok b n (k + 1) A1) (hT : k + 1 ≤ T) (h11 : M1 46 11 = nI (k + 1)) (h13 : M1 46 13 = M 46 13) (fc : FrC A0 A1) (fm : FrM g M0 M1) (a36 : A1 3 6 = A 3 6) (m15 : M1 46 15 = M 46 15) (m16 : M1 46 16 = M 46 16) (c : CMk ok A1 M1 g R R' L S1 rb lb md) (h30 : M1 46 30 = nI (500 * g + S1)) (h59 : M1 59 = M 59) (h55 : M1 55 = M 55) : Com b n T A0 M0 g ok R R' L rb lb md (k + 1) A1 M1 S1 := by
  obtain ⟨t, c1, c2, c3, c4, c5, c6, c7, c8, c9, c10⟩ := hC
  exact ⟨tok, hT, h11, h13.trans c3, fc, fm, c6.up (by omega) a36 m15 m16, c, h30, by rw [h59]; exact c9, by rw [h55]; exact c10⟩
theorem go_u {b : Nat → Int32} {n T g : Nat} {A0 M0 : am_I} {ok : Bool} {R R' L : Nat} {rb lb md : Nat → Nat} {cm al : Int32} {B k w dp S : Nat} {A M : am_I} (hE : ExI b n T A0 M0 g ok R R' L rb lb md cm al B false k A M w dp S) : s_X2_goesOn A (nI (tk b n k)) = 0 ↔ ¬ (tk b n k = 15 ∨ tk b n k = 24 ∨ (7 ≤ tk b n k ∧ tk b n k ≤ 13)) := by
  rcases hE.2.1 with h | ⟨-, h, h6⟩
  · exact go_5 h tk_lt
  · rw [go_2 h tk_lt]
    refine not_congr ⟨fun q => ?_, fun q => Or.inr q⟩
    rcases q with q | q
    · exact absurd q h6
    · exact q
theorem ex_s3 {b : Nat → Int32} {n T g : Nat} {A0 M0 : am_I} {ok : Bool} {R R' L : Nat} {rb lb md : Nat → Nat} {cm al : Int32} {B k w dp S : Nat} {A M : am_I} {six : Bool} (hE : ExI b n T A0 M0 g ok R R' L rb lb md cm al B six k A M w dp S) : ¬ A 3 3 = 3 := by
  rcases hE.2.1 with h | ⟨-, h, -⟩
  · rw [h]; cases six <;> decide
  · rw [h]; decide
theorem ex_op {b : Nat → Int32} {n T tp f g : Nat} {A0 M0 : am_I} {ok : Bool} {R R' L : Nat} {rb lb md : Nat → Nat} {cm al : Int32} {B k w dp S : Nat} {A M : am_I} (hx : Cx b n T tp f g A0 M0) (hE : ExI b n T A0 M0 g ok R R' L rb lb md cm al B false k A M w dp S) (h24 : tk b n k = 24) (hd : dp < 6) (hk : k < 400) : ∃ A1 M1 : am_I, Rch (nI tp) f k A (k + 1) A1 ∧ ExI b n T A0 M0 g ok R R' L rb lb md cm al B false (k + 1) A1 M1 (w + 1) (dp + 1) S ∧ A1 45 = A 45 ∧ ∀ gm, s_X10_expression_L12 f (gm + 2) 0 0 1 0 0 0 M = s_X10_expression_L12 f gm 0 0 1 0 0 0 M1 ∧ (p_X10_expression_L12 f gm 0 0 1 0 0 0 M1 → p_X10_expression_L12 f (gm + 2) 0 0 1 0 0 0 M) := by
  have hgo : ¬ s_X2_goesOn A (nI (tk b n k)) = 0 := fun q => (go_u hE).mp q (Or.inr (Or.inl h24))
  have hs3 := ex_s3 hE
  obtain ⟨hC, e2, e3, e4, hS, e6, e7, e8⟩ := hE
  have hw := hS.w20
  obtain ⟨s1, s2, s3, s4, s5, s6, s7, s8⟩ := id hS
  have hC' := hC
  obtain ⟨⟨t1, t2, t3, t4, t5, t6⟩, c1, c2, c3, c4, c5, c6, c7, c8, c9, c10⟩ := hC
  rw [h24] at t3
  obtain ⟨z1, z2⟩ := ta_b (f := f) (a3 := nI tp) t3 (Or.inl rfl) hs3
  obtain ⟨h1, h2⟩ := hold_1 (x := 24) s1 (by omega)
  have eT : s_X2_take f A (nI tp) = am_w (am_w (am_w (am_w A 4 w 24) 3 1 (nI (w + 1))) 3 2 (nI (dp + 1))) 3 3 5 := by
    rw [z1]
    unfold s_X2_takeBracket
    rw [if_pos (show nI 24 = 24 from rfl), h1]
    show am_w (am_w (am_w (am_w A 4 w 24) 3 1 (nI (w + 1))) 3 2 (A 3 2 + 1)) 3 3 5 = _
    rw [s3, nI_1]
  have pT : p_X2_take f A (nI tp) := z2 (by unfold p_X2_takeBracket; rw [if_pos (show nI 24 = 24 from rfl)]; exact h2)
  obtain ⟨A1, r1, r2, r3, r4, r5⟩ := stp_1 hx hC' hgo (by omega) hk s3 (by omega) (by omega) (fun _ => hd) pT eT rfl rfl ((((FrC.rf.w (Or.inr (Or.inl rfl))).w (Or.inl ⟨rfl, by decide⟩)).w (Or.inl ⟨rfl, by decide⟩)).w (Or.inl ⟨rfl, by decide⟩))
  have a3 := r3 3 (by decide)
  have a4 := r3 4 (by decide)
  have a45 := r3 45 (by decide)
  refine ⟨A1, am_w (am_w (am_w (am_w M 46 12 (nI (dp + 1))) 46 11 (nI (k + 1))) 67 w 6) 46 34 (nI (w + 1)), r1, ⟨?_, Or.inl (by rw [a3]; rfl), by rw [a3]; exact e3, by rw [a3]; exact e4, ?_, e6, ?_, by omega⟩, a45, fun gm => ?_⟩
  · refine hC'.up r2 r5 rfl rfl r4 ((((c5.w (sc46 (by omega))).w (sc46 (by omega))).w sc67).w (sc46 (by omega))) (by rw [a3]; rfl) rfl rfl ?_ c8 rfl rfl
    exact c7.cg (fun r h1 h2 => by rw [r3 r (by omega), aw_k (by omega), aw_k (by omega), aw_k (by omega), aw_k (by omega)]) (fun r h1 h2 h3 => by rw [aw_k (by omega), aw_k (by omega), aw_k (by omega), aw_k (by omega)])
  · exact hS.push (x := 24) (y := 6) (by rw [a4]; rfl) rfl (Or.inl ⟨rfl, rfl⟩) (by rw [a3]; rfl) rfl (by rw [a3]; rfl) rfl (by rw [if_pos rfl]) (by omega) (Or.inr (Or.inr (Or.inl rfl)))
  · rw [a45]
    show hgt (A 45) B (S - B) = _
    rw [e7]
    congr 2
    omega
  · have x6 : s_X10_is M 6 = 1 := by
      have := (is_k hx c5 c1 c2 c3 24 (by decide)).1
      rw [decide_eq_true h24] at this
      exact this
    have p6 := (is_k hx c5 c1 c2 c3 24 (by decide)).2 6
    have n1 : ¬ (1 : Int32) = 0 := by decide
    have n6 : ¬ M 46 12 = 6 := by rw [s4]; exact fun q => absurd ((nI_eq (b := 6) (by omega) (by omega)).mp q) (by omega)
    have le : M 46 13 ≤ 0 := by rw [c3]; decide
    obtain ⟨y1, y2⟩ := nx_k (M := am_w M 46 12 (nI (dp + 1))) (k := k) c2 hk
    have v : vp_in (nI w) 48 := vp_in_nI (by omega) (by omega)
    have w34 : (am_w (am_w M 46 12 (nI (dp + 1))) 46 11 (nI (k + 1))) 46 34 = nI w := s2
    rw [show gm + 2 = gm + 1 + 1 from rfl, u_s_X10_expression_L12_0, u_p_X10_expression_L12_0, if_neg n1, if_neg n1, if_pos c3, if_pos c3, if_pos c3, if_pos c3, x6, if_neg n1, if_neg n1, if_neg n6, if_neg n6, u_s_X10_expression_L12_1, u_p_X10_expression_L12_1, if_pos le, if_pos le, s4, nI_1, y1, w34, nI_clamp (by omega), nI_1]
    exact ⟨rfl, fun q => ⟨p6, y2, v, q⟩⟩
theorem ex_un {b : Nat → Int32} {n T tp f g : Nat} {A0 M0 : am_I} {ok : Bool} {R R' L : Nat} {rb lb md : Nat → Nat} {cm al : Int32} {B k w dp S : Nat} {A M : am_I} (hx : Cx b n T tp f g A0 M0) (hE : ExI b n T A0 M0 g ok R R' L rb lb md cm al B false k A M w dp S) (hu : tk b n k = 15 ∨ (7 ≤ tk b n k ∧ tk b n k ≤ 13)) : (∃ M1 : am_I, (k < 400 → ∃ A1, Rch (nI tp) f k A (k + 1) A1 ∧ ExI b n T A0 M0 g ok R R' L rb lb md cm al B true (k + 1) A1 (s_X10_next M1) w dp (S + 1) ∧ (∀ i, i < S → A1 45 i = A 45 i)) ∧ (M1 46 11 = nI k ∧ M1 46 13 = 0 ∧ FrM g M0 M1 ∧ M1 46 34 = nI w ∧ M1 46 30 = nI (500 * g + (S + 1))) ∧ ∀ gm, s_X10_expression_L12 f (gm + 2) 0 0 1 0 0 0 M = s_X10_expression_L12 f gm 3 0 0 0 0 0 (s_X10_next M1) ∧ (p_X10_next M1 → p_X10_expression_L12 f gm 3 0 0 0 0 0 (s_X10_next M1) → p_X10_expression_L12 f (gm + 2) 0 0 1 0 0 0 M)) := by
  have hgo : ¬ s_X2_goesOn A (nI (tk b n k)) = 0 := fun q => (go_u hE).mp q (by omega)
  have hs3 := ex_s3 hE
  obtain ⟨hC, e2, e3, e4, hS, e6, e7, e8⟩ := hE
  have hw := hS.w20
  obtain ⟨s1, s2, s3, s4, s5, s6, s7, s8⟩ := id hS
  have hC' := hC
  have hT := hx.2.2.2.2.1
  have hg := hx.2.2.1
  obtain ⟨⟨t1, t2, t3, t4, t5, t6⟩, c1, c2, c3, c4, c5, c6, c7, c8, c9, c10⟩ := hC
  obtain ⟨u49, u50, u51⟩ := m49 hx c5 c1
  -- the cell
  obtain ⟨m, kx, vx, hm, hcl, hux, hop⟩ : ∃ (m : Nat) (kx vx : Int32), m < 10017 ∧ cCl (nI m) kx vx ∧ ucl A (tk b n k) = nI m ∧ ((tk b n k = 15 ∧ kx = 0 ∧ vx = M 51 k) ∨ (¬ tk b n k = 15 ∧ kx = 1 ∧ vx = nI (kd (tk b n k)) - 27)) := by
    by_cases h15 : tk b n k = 15
    · obtain ⟨x, x1, x2⟩ := vl_nI h15
      refine ⟨x, 0, nI x, by omega, Or.inl ⟨x, x1, rfl, rfl, rfl⟩, ?_, Or.inl ⟨h15, rfl, ?_⟩⟩
      · unfold ucl; rw [if_pos h15, t5 h15, x2]
      · rw [u51 h15, x2]
    · have hk7 : ∀ c, 7 ≤ c ∧ c ≤ 13 → s_X1_codeOf (nI c) = nI (10007 + (c - 7)) ∧ nI (kd c) - 27 = nI (c - 7) := by
        intro c hc
        have : ∀ c, c < 14 → 7 ≤ c → s_X1_codeOf (nI c) = nI (10007 + (c - 7)) ∧ nI (kd c) - 27 = nI (c - 7) := by decide +kernel
        exact this c (by omega) hc.1
      obtain ⟨k1, k2⟩ := hk7 (tk b n k) (by omega)
      refine ⟨10007 + (tk b n k - 7), 1, nI (tk b n k - 7), by omega, Or.inr (Or.inl ⟨tk b n k - 7, by omega, rfl, rfl, rfl⟩), ?_, Or.inr ⟨h15, rfl, k2.symm⟩⟩
      unfold ucl; rw [if_neg h15, k1]
  obtain ⟨z1, z2⟩ := ta_u (f := f) (a3 := nI tp) t3 hu hs3
  rw [hux] at z1 z2
  obtain ⟨b1, b2⟩ := em_1 (M := M) (c := 500 * g + S) (k := kx) (v := vx) c8 (by omega)
  have m1 : s_X10_emit M kx vx = am_w (am_w (am_w M 65 (500 * g + S) kx) 66 (500 * g + S) vx) 46 30 (nI (500 * g + (S + 1))) := b1
  refine ⟨s_X10_emit M kx vx, fun hk => ?_, by rw [m1]; exact ⟨c2, c3, (((c5.w (by unfold scM; omega)).w (by unfold scM; omega)).w (sc46 (by omega))), s2, rfl⟩, fun gm => ?_⟩
  · obtain ⟨a1, a2⟩ := ce_1 (A := A) (S := S) (m := m) c7.2.2.2.1 (by omega) (by omega)
    rw [a1] at z1
    obtain ⟨A1, r1, r2, r3, r4, r5⟩ := stp_1 hx hC' hgo (by omega) hk s3 (by omega) (by omega) (by omega) (z2 a2) z1 rfl rfl (((FrC.rf.w (by omega)).w (by omega)).w (Or.inl ⟨rfl, by decide⟩))
    have a3 := r3 3 (by decide)
    have a4 := r3 4 (by decide)
    have a45 := r3 45 (by decide)
    have a38 := r3 38 (by decide)
    obtain ⟨y1, y2⟩ := nx_k (M := s_X10_emit M kx vx) (k := k) (by rw [m1]; exact c2) hk
    rw [y1, m1]
    have cells : ∀ i, i < S → A1 45 i = A 45 i := fun i hi => by
      rw [a45]
      show va_up (A 45) S (nI m) i = _
      rw [vu_n (by omega)]
    refine ⟨A1, r1, ⟨?_, Or.inl (by rw [a3]; rfl), by rw [a3]; exact e3, by rw [a3]; exact e4, ?_, by omega, ?_, by omega⟩, cells⟩
    · refine hC'.up r2 r5 rfl rfl r4 ((((c5.w (by unfold scM; omega)).w (by unfold scM; omega)).w (sc46 (by omega))).w (sc46 (by omega))) (by rw [a3]; rfl) rfl rfl ?_ rfl rfl rfl
      exact c7.cell (x := nI m) (kx := kx) (vx := vx) (by omega) hcl (fun r h1 h2 => by rw [r3 r (by omega), aw_k (by omega), aw_k (by omega), aw_k (by omega)]) (by rw [a45]; rfl) (by rw [a38]; rfl) (by rw [a38]; rfl) (by rw [a38]; rfl) (by rw [a38]; rfl) (fun r h1 h2 h3 => by rw [aw_k (by omega), aw_k (by omega), aw_k (by omega), aw_k (by omega)]) rfl rfl
    · exact hS.cg (by rw [a4]; rfl) rfl (by rw [a3]; rfl) rfl (by rw [a3]; rfl) rfl
    · have e7' : hgt (A 45) B (S - B) = some (w - dp) := e7
      exact hgt_v e6 e7' (by omega) (by
        rw [a45]
        show ¬ 10017 ≤ (va_up (A 45) S (nI m) S).toInt
        rw [vu_s, nI_toInt (by omega)]
        omega) cells
  · have x6 : s_X10_is M 6 = 0 := by
      have := (is_k hx c5 c1 c2 c3 24 (by decide)).1
      rw [decide_eq_false (by omega)] at this
      exact this
    have pp := (is_k hx c5 c1 c2 c3 24 (by decide)).2
    have x2 : s_X10_is M 2 = bI (decide (tk b n k = 15)) := (is_k hx c5 c1 c2 c3 15 (by decide)).1
    have n1 : ¬ (1 : Int32) = 0 := by decide
    have le : M 46 13 ≤ 0 := by rw [c3]; decide
    have v : vp_in (nI k) 403 := vp_in_nI (by omega) (by omega)
    rw [show gm + 2 = gm + 1 + 1 from rfl, u_s_X10_expression_L12_0, u_p_X10_expression_L12_0, if_neg n1, if_neg n1, if_pos c3, if_pos c3, x6, if_pos rfl, if_pos rfl, if_pos c3, if_pos c3, c2, nI_clamp (by omega), u49, x2]
    rcases hop with ⟨h15, hk1, hv1⟩ | ⟨h15, hk1, hv1⟩
    · have lt : nI (kd (tk b n k)) < 27 := by rw [h15]; decide
      have nb : ¬ bI true = 0 := by decide
      rw [if_pos lt, if_pos lt, decide_eq_true h15, if_neg nb, if_neg nb, u_s_X10_expression_L12_2, u_p_X10_expression_L12_2, if_pos le, if_pos le, if_pos rfl, if_pos rfl, c2, nI_clamp (by omega), ← hk1, ← hv1]
      exact ⟨rfl, fun q1 q2 => ⟨pp _, v, pp _, v, b2, q1, q2⟩⟩
    · have kv : ∀ c, c < 14 → 7 ≤ c → ¬ nI (kd c) < 27 ∧ ¬ (33 : Int32) < nI (kd c) := by decide +kernel
      obtain ⟨k1, k2⟩ := kv (tk b n k) (by omega) (by omega)
      have nb : bI false = 0 := rfl
      rw [if_neg k1, if_neg k1, if_neg k2, if_neg k2, decide_eq_false h15, if_pos nb, if_pos nb, u_s_X10_expression_L12_2, u_p_X10_expression_L12_2, if_pos le, if_pos le, if_neg n1, if_neg n1, c2, nI_clamp (by omega), u49, ← hk1, ← hv1]
      exact ⟨rfl, fun q1 q2 => ⟨pp _, v, v, pp _, v, b2, q1, q2⟩⟩
end
