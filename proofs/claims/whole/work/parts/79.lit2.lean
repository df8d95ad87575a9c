section
/-! ===== a literal of either kind ===== -/
theorem flt_2 {b : Nat → Int32} {n T tp f g k R : Nat} {A0 M0 A : am_I} {F : Int32} (hx : Cx b n T tp f g A0 M0) (tok : Tok b n k A) (hk : k ≤ T) (h7 : A 38 7 = nI R) (fc : FrC A0 A) (h : s_X2_faultOf A (nI (tk b n k)) (nI k) (nI R) = F) (hF : F = 1 ∨ F = 2) : PF (nI tp) f A0 k A F (pl b n k) := by
  have hT := hx.2.2.2.2.1
  refine PF.mk (by omega) (by rw [tok.2.2.1, h7]; exact h) (by rcases hF with e | e <;> rw [e] <;> decide) tok.2.2.2.1 fc
theorem stp_2 {b : Nat → Int32} {n T tp f g k R dp : Nat} {A0 M0 A I : am_I} (hx : Cx b n T tp f g A0 M0) (tok : Tok b n k A) (hkT : k ≤ T) (h7 : A 38 7 = nI R) (hR : R ≤ 16) (hgo : ¬ s_X2_goesOn A (nI (tk b n k)) = 0) (h26 : tk b n k ≠ 26) (hk : k < 400) (hd : A 3 2 = nI dp) (hd6 : dp ≤ 6) (hh : tk b n k < 3 → R < 16) (ho : tk b n k = 24 → dp < 6) (pt : p_X2_take f A (nI tp)) (eT : s_X2_take f A (nI tp) = I) (i1 : I 1 1 = nI n) (i2 : I 1 2 = nI (ps b n (k + 1))) (i3 : I 2 = b) (hF : FrC A0 I) : ∃ A1, Rch (nI tp) f k A (k + 1) A1 ∧ Tok b n (k + 1) A1 ∧ (∀ r, r ≠ 1 → A1 r = I r) ∧ FrC A0 A1 ∧ k + 1 ≤ T := by
  obtain ⟨q1, A1, q2, q3, q4, q5⟩ := adv_k (k := k) (I := I) hx i1 i2 i3
  have f0 : s_X2_faultOf A (A 1 3) (nI k) (A 38 7) = 0 := by
    rw [tok.2.2.1, h7]
    exact fo_ok hgo tk_lt h26 hk hd hd6 hR hh ho
  have n26 : ¬ A 1 3 = 26 := by
    rw [tok.2.2.1]
    exact fun q => h26 ((tb_n _ tk_lt 26 (by decide)).mp q)
  exact ⟨A1, Rch.st f0 n26 hk pt eT q1 q2, q3, q4, hF.tr q5, hx.nx hkT h26 hk⟩
theorem lit_c {b : Nat → Int32} {n T tp f g : Nat} {A0 M0 : am_I} {ok : Bool} {R L : Nat} {rb lb md : Nat → Nat} {al : Int32} {k S : Nat} {A M : am_I} (hx : Cx b n T tp f g A0 M0) (hI : LiI b n T A0 M0 g ok R L rb lb md al k A M S) (h6 : tk b n k ≠ 6) : (Flt A0 M0 g tp f k A (s_X10_literal f M al) ∨ LiO b n T A0 M0 g R L rb tp f k A (s_X10_literal f M al)) ∧ p_X10_literal f M al := by
  have hT := hx.2.2.2.2.1
  have hg := hx.2.2.1
  have hf := hx.2.1
  obtain ⟨hC, ⟨i1, i2, i3, i4, i5, i6, i7⟩, j1, j2, j3, j4⟩ := hI
  obtain ⟨E1, E2⟩ := ex_go (cm := -1) (al := al) hx hC (Or.inr ⟨i1, h6⟩) i2 i3 i5 i6 i7 j2
  obtain ⟨tok, c1, c2, c3, c4, c5, c6, c7, c8, c9, c10⟩ := hC
  have x26 : s_X10_is M 26 = 0 := by
    have := (is_k hx c5 c1 c2 c3 6 (by decide)).1
    rw [decide_eq_false h6] at this
    exact this
  have pp := (is_k hx c5 c1 c2 c3 6 (by decide)).2
  unfold s_X10_literal p_X10_literal
  rw [x26, if_pos rfl, if_pos rfl]
  rcases E1 with ⟨F, q, hFt, hPF⟩ | ⟨k1, A1, U1, S1, r1, ⟨t1, t2, t3, t4, t5, t6⟩, ⟨u1, u2⟩, hC1, ⟨v1, v2, v3, v4, v5⟩, hh1, ⟨w1, w2, w3⟩, cells, hno, hlt⟩
  · obtain ⟨z1, z2⟩ := l108_f (f := f) (al := al) (v2 := M 46 30) (by omega) hFt
    rw [if_neg hFt.nl, if_neg hFt.nl]
    exact ⟨Or.inl ⟨F, q, z1, hPF⟩, pp _, E2, z2⟩
  · have hlt' : k < k1 := by
      rcases hlt with q | q
      · exact q
      · rw [i1] at q; exact absurd q (by decide)
    have hC1' := hC1
    obtain ⟨tok1, d1, d2, d3, d4, d5, d6, d7, d8, d9, d10⟩ := hC1
    have hR16 := d7.1.1
    have le : (s_X10_expression f M) 46 13 ≤ 0 := by rw [d3]; decide
    have e49 : (s_X10_expression f M) 49 ((s_X10_expression f M) 46 11).toNatClampNeg = nI (kd (tk b n k1)) := by
      rw [d2, nI_clamp (by omega)]; exact (m49 hx d5 d1).1
    have v403 : vp_in ((s_X10_expression f M) 46 11) 403 := by rw [d2]; exact vp_in_nI (by omega) (by omega)
    rw [if_pos le, if_pos le, e49]
    have hgo6 := go_6 (c := tk b n k1) t2 (dp := 0) t3 (by omega) tk_lt
    by_cases hcmp : 20 ≤ tk b n k1 ∧ tk b n k1 ≤ 23
    · have hgo : ¬ s_X2_goesOn A1 (nI (tk b n k1)) = 0 := fun q => hgo6.mp q (Or.inr (Or.inr (Or.inl ⟨rfl, t4, hcmp⟩)))
      have tb : ∀ c, c < 24 → 20 ≤ c → nI (kd c) - 11 = nI (c - 20) := by decide +kernel
      rw [tb _ (by omega) hcmp.1]
      have n0 : ¬ nI (tk b n k1 - 20) < 0 := nI_pos (by omega)
      have l3 : nI (tk b n k1 - 20) ≤ 3 := nI_le (b := 3) (by omega) (by omega)
      by_cases hk : k1 < 400
      · obtain ⟨y1, y2⟩ := ta_c (f := f) (a3 := nI tp) t1.2.2.1 hcmp (by rw [t2]; decide)
        rw [u1] at y1
        obtain ⟨A2, r2, tok2, rows, fc2, hT2⟩ := stp_2 (dp := 0) hx t1 d1 t5 hR16 hgo (by omega) hk t3 (by omega) (by omega) (by omega) (y2 u2) y1 tok1.1 tok1.2.1 tok1.2.2.2.2.2 ((d4.w (Or.inl ⟨rfl, by decide⟩)).w (Or.inl ⟨rfl, by decide⟩))
        have a3 := rows 3 (by decide)
        have a45 := rows 45 (by decide)
        obtain ⟨n1, n2⟩ := nx_k (M := s_X10_expression f M) d2 hk
        have hC2 : Com b n T A0 M0 g ok (R + 1) R L rb lb md (k1 + 1) A2 (s_X10_next (s_X10_expression f M)) S1 := by
          rw [n1]
          refine hC1'.up tok2 hT2 rfl rfl fc2 (d5.w (sc46 (by omega))) (by rw [a3]; rfl) rfl rfl ?_ d8 rfl rfl
          exact d7.cg (fun r h1 h2 => by rw [rows r (by omega), aw_k (by omega), aw_k (by omega)]) (fun r h1 h2 h3 => by rw [aw_k (by omega)])
        obtain ⟨G1, G2⟩ := ex_go (cm := nI (tk b n k1)) (al := al) hx hC2 (Or.inl (by rw [a3]; rfl)) (by rw [a3]; rfl) (by rw [a3]; exact v2) (by rw [a3]; exact v3) (by rw [a3]; exact v4) (by rw [n1]; exact v5) (by omega)
        have m30 : (s_X10_next (s_X10_expression f M)) 46 30 = nI (500 * g + S1) := by rw [n1]; exact d8
        unfold s_X10_literal_J108 p_X10_literal_J108
        rw [if_pos d3, if_pos d3, if_neg n0, if_neg n0, if_pos l3, if_pos l3, m30, c8, ← j1]
        rcases G1 with ⟨F, q, hFt, hPF⟩ | ⟨k2, A3, U2, S2, s1, ⟨p1, p2, p3, p4, p5, p6⟩, ⟨o1, o2⟩, hC3, ⟨x1, x2, x3, x4, x5⟩, hh2, ⟨z1, z2, z3⟩, cells2, hno2, hlt2⟩
        · obtain ⟨y3, y4⟩ := j146f (al := al) (v2 := nI (500 * g + lb L)) (v3 := nI (500 * g + S1)) (v4 := nI (tk b n k1 - 20)) hFt
          rw [y3]
          exact ⟨Or.inl (Flt.rch (r1.tr r2) (by omega) ⟨F, q, hFt, hPF⟩), pp _, E2, v403, n2, G2, y4⟩
        · have hlt2' : k1 + 1 < k2 := by
            rcases hlt2 with q | q
            · exact q
            · rw [a3] at q; exact absurd (show (5 : Int32) = 6 from q) (by decide)
          have hk2 := hC3.k4 hx
          have hC3' := hC3
          obtain ⟨tok3, e1, e2, e3, e4, e5, e6, e7, e8, e9, e10⟩ := hC3
          have lbS : lb L ≤ S1 := by omega
          have g1 : hgt (U2 45) (lb L) (S1 - lb L) = some 1 := by
            rw [j1, hgt_cg (r := U1 45) _ (fun j hj => by rw [cells2 _ (by omega), a45]; rfl)]
            exact hh1
          obtain ⟨V, X, ⟨f1, f2⟩, ⟨f3, f4⟩, f5, f6, f7, f8, f9, f10, f11⟩ := lit_fin (f := f) (t := tk b n k1) (so := nI (tk b n k1 - 20)) (m0 := S1) (al := al) hx e3 e5 e7 e8 e9 (by omega) i4 j4 tk_lt (Or.inr ⟨tk b n k1 - 20, by omega, by rw [show 20 + (tk b n k1 - 20) = tk b n k1 by omega], rfl, lbS, z1, g1, hh2⟩)
          rw [f3]
          refine ⟨Or.inr ⟨k2, A3, am_w V 3 4 (-1), S2, ok, va_up lb (L + 1) S2, va_up md L S1, (r1.tr r2).tr s1, ⟨p1, p3, p5, p6⟩, ⟨?_, fun hc => ?_⟩, ?_, ⟨rfl, ?_, ?_, ?_⟩, vu_s, z3, by omega⟩, pp _, E2, v403, n2, G2, f4⟩
          · have n34 : ¬ A3 3 4 = -1 := by
              rw [p4]
              have : ∀ c, c < 24 → 20 ≤ c → ¬ nI c = -1 := by decide +kernel
              exact this _ (by omega) hcmp.1
            rw [go_6 (c := tk b n k2) p2 (dp := 0) p3 (by omega) tk_lt]
            refine not_congr ⟨fun q => ?_, fun q => Or.inr (Or.inr (Or.inr ⟨rfl, n34, q⟩))⟩
            rcases q with q | q | q | q
            · exact absurd q hno2
            · exact absurd q.1 (by decide)
            · exact absurd q.2.1 n34
            · exact q.2.2
          · have n34 : ¬ A3 3 4 = -1 := by
              rw [p4]
              have : ∀ c, c < 24 → 20 ≤ c → ¬ nI c = -1 := by decide +kernel
              exact this _ (by omega) hcmp.1
            obtain ⟨l1, l2⟩ := ta_l (f := f) (a3 := nI tp) p1.2.2.1 hc (by rw [p2]; decide)
            obtain ⟨l3, l4⟩ := tle_2 (V := V) (f := f) n34 o1 o2 (by rw [x1, x2]; exact f1) (by rw [x1, x2]; exact f2) hc
            rw [l1, l3]
            exact ⟨rfl, l2 l4⟩
          · have r1' := f6 1 (by decide)
            have r2' := f6 2 (by decide)
            refine ⟨⟨?_, ?_, ?_, ?_, ?_, ?_⟩, e1, by rw [f7]; exact e2, by rw [f7]; exact e3, (e4.tr f11).w (Or.inl ⟨rfl, by decide⟩), f10, ?_, f5.cg (fun r h1 h2 => by rw [aw_k (by omega)]) (fun _ _ _ _ => rfl), by rw [f7]; exact e8, f9, by rw [f8]; exact e10⟩
            · show V 1 1 = _; rw [r1']; exact tok3.1
            · show V 1 2 = _; rw [r1']; exact tok3.2.1
            · show V 1 3 = _; rw [r1']; exact tok3.2.2.1
            · show V 1 4 = _; rw [r1']; exact tok3.2.2.2.1
            · show _ → V 1 5 = _; rw [r1']; exact tok3.2.2.2.2.1
            · show V 2 = _; rw [r2']; exact tok3.2.2.2.2.2
            · exact e6.up (Nat.le_refl _) (by show V 3 6 = _; rw [f6 3 (by decide)]) (by rw [f7]) (by rw [f7])
          · show V 3 1 = 0; rw [f6 3 (by decide)]; exact x3
          · show V 3 2 = 0; rw [f6 3 (by decide)]; exact x4
          · rw [f7]; exact x5
      · obtain ⟨n1, n2⟩ := Ft.n4 (M := s_X10_expression f M) hx d5 d1 hk d2 d3
        obtain ⟨e1, e2⟩ := ex_f (f := f) (by omega) n2
        have hfo : s_X2_faultOf A1 (nI (tk b n k1)) (nI k1) (nI (R + 1)) = 2 := fo_rm (dp := 0) hgo tk_lt (by omega) (by omega) t3 (by omega) hR16 (by omega)
        unfold s_X10_literal_J108 p_X10_literal_J108
        rw [if_pos d3, if_pos d3, if_neg n0, if_neg n0, if_pos l3, if_pos l3]
        obtain ⟨y3, y4⟩ := j146f (al := al) (v2 := M 46 30) (v3 := (s_X10_next (s_X10_expression f M)) 46 30) (v4 := nI (tk b n k1 - 20)) e1
        rw [y3]
        exact ⟨Or.inl (Flt.rch r1 (by omega) ⟨2, _, e1, flt_2 hx t1 d1 t5 t6 hfo (Or.inr rfl)⟩), pp _, E2, v403, n1, e2, y4⟩
    · have hgo : s_X2_goesOn A1 (nI (tk b n k1)) = 0 := hgo6.mpr (fun q => by
        rcases q with q | q | q | q
        · exact hno q
        · exact absurd q.1 (by decide)
        · exact hcmp q.2.2
        · exact q.2.1 t4)
      have tb : ∀ c, c < 28 → ¬ (20 ≤ c ∧ c ≤ 23) → ¬ nI (kd c) - 11 < 0 → ¬ nI (kd c) - 11 ≤ 3 := by decide +kernel
      obtain ⟨f1, f2⟩ := Ft.mk (M := s_X10_expression f M) (F := 1) hx d5 d1 d2 d3 (Or.inl rfl)
      obtain ⟨g1, g2⟩ := l128_f (f := f) (al := al) (v2 := M 46 30) (v4 := nI (kd (tk b n k1)) - 11) (by omega) f1 f2
      have hfo := fo_no (c := tk b n k1) (k := nI k1) (R := nI (R + 1)) hgo
      have res : Flt A0 M0 g tp f k A (s_X10_literal_J128 al f (M 46 30) (nI (kd (tk b n k1)) - 11) (s_X10_expression f M)) := Flt.rch r1 (by omega) ⟨1, _, g1, flt_2 hx t1 d1 t5 t6 hfo (Or.inl rfl)⟩
      unfold s_X10_literal_J108 p_X10_literal_J108
      rw [if_pos d3, if_pos d3]
      by_cases lt : nI (kd (tk b n k1)) - 11 < 0
      · rw [if_pos lt, if_pos lt]
        exact ⟨Or.inl res, pp _, E2, v403, g2⟩
      · have nle := tb _ tk_lt hcmp lt
        rw [if_neg lt, if_neg lt, if_neg nle, if_neg nle]
        exact ⟨Or.inl res, pp _, E2, v403, g2⟩
end
