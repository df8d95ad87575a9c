section
/-! ===== rule after rule ===== -/
theorem j54_f {g f q : Nat} {M0 M : am_I} {F : Int32} (h : Ft g M0 M F q) : s_X10_tellRule_J54 f M = M ∧ p_X10_tellRule_J54 f M := by
  unfold s_X10_tellRule_J54 p_X10_tellRule_J54
  rw [if_neg h.nl, if_neg h.nl]
  exact ⟨rfl, trivial⟩
theorem l134_f {g f gm q : Nat} {v2 v3 v1 : Int32} {M0 M : am_I} {F : Int32} (hg : 1 ≤ gm) (h : Ft g M0 M F q) : s_X10_tellRule_L134 f gm v1 v2 v3 M = M ∧ p_X10_tellRule_L134 f gm v1 v2 v3 M := by
  obtain ⟨gm, rfl⟩ : ∃ x, gm = x + 1 := ⟨gm - 1, by omega⟩
  obtain ⟨j1, j2⟩ := j187_f (v1 := v1) h
  rw [u_s_X10_tellRule_L134, u_p_X10_tellRule_L134]
  by_cases c : v2 = 0
  · rw [if_pos c, if_pos c]; exact ⟨j1, j2⟩
  · rw [if_neg c, if_neg c, if_neg h.ne, if_neg h.ne]; exact ⟨j1, j2⟩
theorem ru_54 {b : Nat → Int32} {n T tp f g : Nat} {A0 M0 : am_I} {ok : Bool} {R L : Nat} {rb lb md : Nat → Nat} {k S : Nat} {A M : am_I} (hx : Cx b n T tp f g A0 M0) (hI : RuI b n T A0 M0 g ok R L rb lb md k A M S) (hc : tk b n k < 3) (hR : R < 16) : (Flt A0 M0 g tp f k A (s_X10_tellRule_J54 f M) ∨ RuO b n T A0 M0 g (R + 1) tp f k A (s_X10_tellRule_J54 f M)) ∧ p_X10_tellRule_J54 f M := by
  have hT := hx.2.2.2.2.1
  have hg := hx.2.2.1
  have hf := hx.2.1
  obtain ⟨hC, ⟨i1, i2, i3, i4, i5⟩, j1, j2, j3⟩ := hI
  have hC' := hC
  obtain ⟨tok, c1, c2, c3, c4, c5, c6, c7, c8, c9, c10⟩ := hC
  have hgo : ¬ s_X2_goesOn A (nI (tk b n k)) = 0 := fun q => (go_0 i1 tk_lt).mp q (Or.inl hc)
  have le : M 46 13 ≤ 0 := by rw [c3]; decide
  have e16 : (16 : Int32) * nI g + nI R = nI (16 * g + R) := by
    show nI 16 * nI g + nI R = _
    rw [pk_mul, nI_add]
  have tb : ∀ c, c < 3 → nI (kd c) - 20 = nI c ∧ (nI c = 0 ∨ nI c = 1 ∨ nI c = 2) := by decide +kernel
  obtain ⟨tb1, tb2⟩ := tb (tk b n k) hc
  have vg : vp_in (nI g) 24 := vp_in_nI hg (by omega)
  have vr : vp_in (nI (16 * g + R)) 384 := vp_in_nI (by omega) (by omega)
  have vk : vp_in (nI k) 403 := vp_in_nI (by omega) (by omega)
  unfold s_X10_tellRule_J54 p_X10_tellRule_J54
  rw [if_pos le, if_pos le, m19 hx c5, nI_clamp (n := g) (by omega), c10, e16, nI_clamp (n := 16 * g + R) (by omega), c2, nI_clamp (n := k) (by omega), (m49 hx c5 c1).1, tb1]
  have f1 : FrM g M0 (am_w M 56 (16 * g + R) (nI (tk b n k))) := c5.w (by unfold scM; omega)
  by_cases hk : k < 400
  · obtain ⟨y1, y2⟩ := ta_h (f := f) (a3 := nI tp) tok.2.2.1 hc
    obtain ⟨ru1, ru2⟩ := ru_1 (A := A) (R := R) (L := L) (c := tk b n k) c7.2.1 hR c7.2.2.1 c7.1.2.1 tk_lt
    rw [ru1] at y1
    obtain ⟨A1, r1, tok1, rows, fc1, hT1⟩ := stp_2 (dp := 0) hx tok c1 c7.2.1 c7.1.1 hgo (by omega) hk i4 (by omega) (fun _ => hR) (by omega) (y2 ru2) y1 tok.1 tok.2.1 tok.2.2.2.2.2 ((((c4.w (by omega)).w (by omega)).w (by omega)).w (Or.inl ⟨rfl, by decide⟩))
    have a3 := rows 3 (by decide)
    have a38 := rows 38 (by decide)
    obtain ⟨n1, n2⟩ := nx_k (M := am_w M 56 (16 * g + R) (nI (tk b n k))) (k := k) c2 hk
    have e19 : (am_w (am_w M 56 (16 * g + R) (nI (tk b n k))) 46 11 (nI (k + 1))) 46 19 = nI g := m19 hx (f1.w (sc46 (by omega)))
    have e59 : (am_w (am_w M 56 (16 * g + R) (nI (tk b n k))) 46 11 (nI (k + 1))) 59 g = nI L := c9
    rw [n1, e19, nI_clamp (n := g) (by omega), e59]
    obtain ⟨N, hN⟩ : ∃ N, N = am_w (am_w (am_w M 56 (16 * g + R) (nI (tk b n k))) 46 11 (nI (k + 1))) 57 (16 * g + R) (nI L) := ⟨_, rfl⟩
    rw [← hN]
    have hC1 : Com b n T A0 M0 g ok (R + 1) R L (va_up rb (R + 1) L) lb md (k + 1) A1 N S := by
      rw [hN]
      refine ⟨tok1, hT1, rfl, c3, fc1, (f1.w (sc46 (by omega))).w (by unfold scM; omega), c6.up (by omega) (by rw [a3]; rfl) rfl rfl, ?_, c8, c9, c10⟩
      exact c7.rule (x := nI (tk b n k)) hR tb2 (fun r h1 h2 => by rw [rows r (by omega), aw_k (by omega), aw_k (by omega), aw_k (by omega), aw_k (by omega)]) (by rw [rows 39 (by decide)]; rfl) (by rw [rows 40 (by decide)]; rfl) (by rw [a38]; rfl) (by rw [a38]; rfl) (by rw [a38]; rfl) (by rw [a38]; rfl) (fun r h1 h2 h3 => by rw [aw_k (by omega), aw_k (by omega), aw_k (by omega)]) rfl rfl
    have m12 : N 46 12 = 0 := by rw [hN]; exact i5
    have hC1' := hC1
    obtain ⟨-, d1, d2, d3, d4, d5, d6, d7, d8, d9, d10⟩ := hC1
    have s33 : A1 3 3 = 1 := by rw [a3]; rfl
    have s32 : A1 3 2 = nI 0 := by rw [a3]; exact i4
    have s34 : A1 3 4 = -1 := by rw [a3]; exact i2
    have s31 : A1 3 1 = 0 := by rw [a3]; exact i3
    have hgo1 := go_1 (c := tk b n (k + 1)) s33 tk_lt
    have x23 : s_X10_is N 23 = bI (decide (tk b n (k + 1) = 3)) := (is_k hx d5 d1 d2 d3 3 (by decide)).1
    have pp := (is_k hx d5 d1 d2 d3 3 (by decide)).2
    have bt : ¬ bI true = 0 := by decide
    have bf : bI false = 0 := rfl
    rw [x23]
    by_cases h3 : tk b n (k + 1) = 3
    · rw [decide_eq_true h3, if_neg bt, if_neg bt]
      have hgo' : ¬ s_X2_goesOn A1 (nI (tk b n (k + 1))) = 0 := fun q => hgo1.mp q (Or.inl h3)
      by_cases hk1 : k + 1 < 400
      · obtain ⟨z1, z2⟩ := ta_3 (f := f) (a3 := nI tp) (A := A1) (by rw [tok1.2.2.1, h3])
        obtain ⟨A2, r2, tok2, rows2, fc2, hT2⟩ := stp_2 (dp := 0) hx tok1 hT1 d7.2.1 d7.1.1 hgo' (by omega) hk1 s32 (by omega) (by omega) (by omega) z2 z1 tok1.1 tok1.2.1 tok1.2.2.2.2.2 ((fc1.w (Or.inl ⟨rfl, by decide⟩)).w (Or.inl ⟨rfl, by decide⟩))
        have b3 := rows2 3 (by decide)
        obtain ⟨n1', n2'⟩ := nx_k (M := N) d2 hk1
        rw [n1']
        have hI2 : LiI b n T A0 M0 g ok R L (va_up rb (R + 1) L) lb md 1 (k + 1 + 1) A2 (am_w N 46 11 (nI (k + 1 + 1))) S := by
          refine ⟨?_, ⟨?_, ?_, ?_, Or.inr rfl, ?_, ?_, m12⟩, j1, by omega, by omega, fun _ => rfl⟩
          · refine hC1'.up tok2 hT2 rfl rfl fc2 (d5.w (sc46 (by omega))) (by rw [b3]; rfl) rfl rfl ?_ d8 rfl rfl
            exact d7.cg (fun r h1 h2 => by rw [rows2 r (by omega), aw_k (by omega), aw_k (by omega)]) (fun r h1 h2 h3 => by rw [aw_k (by omega)])
          · rw [b3]; rfl
          · rw [b3]; exact s34
          · rw [b3]; rfl
          · rw [b3]; exact s31
          · rw [b3]; exact s32
        obtain ⟨w1, w2⟩ := ru_l hx 401 (k + 1 + 1) (by omega) A2 _ S f ok L _ lb md 1 hI2 (by omega)
        have w1' := RuO.rch (r1.tr r2) (by omega) w1
        exact ⟨w1', vg, vk, vr, n2, vg, vr, pp _, n2', w2⟩
      · obtain ⟨g1, g2⟩ := Ft.n4 (M := N) hx d5 d1 hk1 d2 d3
        have hfo : s_X2_faultOf A1 (nI (tk b n (k + 1))) (nI (k + 1)) (nI (R + 1)) = 2 := fo_rm (dp := 0) hgo' tk_lt (by omega) (by omega) s32 (by omega) d7.1.1 (by omega)
        obtain ⟨l1, l2⟩ := l134_f (f := f) (gm := f) (v1 := nI (16 * g + R)) (v2 := bI true) (v3 := 1) (by omega) g2
        rw [l1]
        exact ⟨Or.inl (Flt.rch r1 (by omega) ⟨2, _, g2, flt_2 hx tok1 hT1 d7.2.1 fc1 hfo (Or.inr rfl)⟩), vg, vk, vr, n2, vg, vr, pp _, g1, l2⟩
    · rw [decide_eq_false h3, if_pos bf, if_pos bf]
      obtain ⟨ff, hff⟩ : ∃ x, f = x + 1 := ⟨f - 1, by omega⟩
      have e134 : s_X10_tellRule_L134 f f (nI (16 * g + R)) (bI false) 1 N = s_X10_tellRule_J187 (nI (16 * g + R)) N ∧ (p_X10_tellRule_J187 (nI (16 * g + R)) N → p_X10_tellRule_L134 f f (nI (16 * g + R)) (bI false) 1 N) := by
        have u1 := u_s_X10_tellRule_L134 (f := f) (g := ff) (v1 := nI (16 * g + R)) (v2 := bI false) (v3 := 1) (I := N)
        have u2 := u_p_X10_tellRule_L134 (f := f) (g := ff) (v1 := nI (16 * g + R)) (v2 := bI false) (v3 := 1) (I := N)
        rw [← hff, if_pos bf] at u1 u2
        rw [u1, u2]
        exact ⟨rfl, id⟩
      rw [e134.1]
      obtain ⟨w1, w2⟩ := ru_16 (x := 0) hx tok1 s32 d7.2.1 fc1 hC1' ⟨s34, s31, s32, m12⟩ j1 (by omega) (by omega) (fun h16 => ⟨fun q => hgo1.mp q (Or.inr h16), by
        obtain ⟨l1, l2⟩ := ta_l (f := f) (a3 := nI tp) tok1.2.2.1 (Or.inr (Or.inr h16)) (by rw [s33]; decide)
        obtain ⟨l3, l4⟩ := tle_1 (f := f) (c := tk b n (k + 1)) s34 (Or.inr (Or.inr h16))
        rw [l1, l3, if_pos h16, if_neg (show ¬ tk b n (k + 1) = 4 by omega)]
        exact ⟨rfl, l2 l4⟩⟩) (fun h16 => hgo1.mpr (by omega))
      exact ⟨RuO.rch r1 (by omega) w1, vg, vk, vr, n2, vg, vr, pp _, e134.2 w2⟩
  · obtain ⟨g1, g2⟩ := Ft.n4 (M := am_w M 56 (16 * g + R) (nI (tk b n k))) hx f1 c1 hk c2 c3
    have e19 : (s_X10_next (am_w M 56 (16 * g + R) (nI (tk b n k)))) 46 19 = nI g := m19 hx g2.2.2.2.1
    rw [e19]
    have hfo : s_X2_faultOf A (nI (tk b n k)) (nI k) (nI R) = 2 := fo_rm (dp := 0) hgo tk_lt (by omega) (by omega) i4 (by omega) c7.1.1 (by omega)
    have g3 := g2.w (k := 57) (a := 16 * g + R) (v := (s_X10_next (am_w M 56 (16 * g + R) (nI (tk b n k)))) 59 (nI g).toNatClampNeg) (by unfold scM; omega) (by omega)
    obtain ⟨i23, p23⟩ := is_f (x := 23) g3.ne
    rw [i23, if_pos rfl, if_pos rfl]
    obtain ⟨l1, l2⟩ := l134_f (f := f) (gm := f) (v1 := nI (16 * g + R)) (v2 := 0) (v3 := 1) (by omega) g3
    rw [l1]
    exact ⟨Or.inl ⟨2, _, g3, flt_2 hx tok c1 c7.2.1 c4 hfo (Or.inr rfl)⟩, vg, vk, vr, g1, vg, vr, p23, l2⟩
theorem ru_go {b : Nat → Int32} {n T tp f g : Nat} {A0 M0 : am_I} {ok : Bool} {R L : Nat} {rb lb md : Nat → Nat} {k S : Nat} {A M : am_I} (hx : Cx b n T tp f g A0 M0) (hI : RuI b n T A0 M0 g ok R L rb lb md k A M S) (h26 : tk b n k ≠ 26) : (Flt A0 M0 g tp f k A (s_X10_tellRule f M) ∨ RuO b n T A0 M0 g (R + 1) tp f k A (s_X10_tellRule f M)) ∧ p_X10_tellRule f M := by
  have hT := hx.2.2.2.2.1
  have hg := hx.2.2.1
  have hI' := hI
  obtain ⟨hC, ⟨i1, i2, i3, i4, i5⟩, j1, j2, j3⟩ := hI
  obtain ⟨tok, c1, c2, c3, c4, c5, c6, c7, c8, c9, c10⟩ := hC
  have x20 : s_X10_is M 20 = bI (decide (tk b n k = 0)) := (is_k hx c5 c1 c2 c3 0 (by decide)).1
  have x21 : s_X10_is M 21 = bI (decide (tk b n k = 1)) := (is_k hx c5 c1 c2 c3 1 (by decide)).1
  have x22 : s_X10_is M 22 = bI (decide (tk b n k = 2)) := (is_k hx c5 c1 c2 c3 2 (by decide)).1
  have pp := (is_k hx c5 c1 c2 c3 0 (by decide)).2
  have bt : ¬ bI true = 0 := by decide
  have bf : bI false = 0 := rfl
  have vg : vp_in (nI g) 24 := vp_in_nI hg (by omega)
  have hgo0 := go_0 (c := tk b n k) i1 tk_lt
  unfold s_X10_tellRule p_X10_tellRule
  rw [m19 hx c5, nI_clamp (n := g) (by omega), c10, x20, x21, x22]
  have body : tk b n k < 3 → ((Flt A0 M0 g tp f k A (if nI R = 16 then s_X10_tellRule_J54 f (s_X10_fail M 2) else s_X10_tellRule_J54 f M) ∨ RuO b n T A0 M0 g (R + 1) tp f k A (if nI R = 16 then s_X10_tellRule_J54 f (s_X10_fail M 2) else s_X10_tellRule_J54 f M)) ∧ (if nI R = 16 then (p_X10_fail M 2 ∧ p_X10_tellRule_J54 f (s_X10_fail M 2)) else p_X10_tellRule_J54 f M)) := by
    intro hc
    have hR16 := c7.1.1
    by_cases hR : R < 16
    · have n16 : ¬ nI R = 16 := fun q => absurd ((nI_eq (b := 16) (by omega) (by omega)).mp q) (by omega)
      rw [if_neg n16, if_neg n16]
      exact ru_54 hx hI' hc hR
    · have e16 : nI R = 16 := by rw [show R = 16 by omega]; rfl
      rw [if_pos e16, if_pos e16]
      obtain ⟨f1, f2⟩ := Ft.mk (M := M) (F := 2) hx c5 c1 c2 c3 (Or.inr rfl)
      obtain ⟨j1, j2⟩ := j54_f (f := f) f2
      have hgo : ¬ s_X2_goesOn A (nI (tk b n k)) = 0 := fun q => hgo0.mp q (Or.inl hc)
      have hfo : s_X2_faultOf A (nI (tk b n k)) (nI k) (nI R) = 2 := fo_rm (dp := 0) hgo tk_lt (by omega) (by omega) i4 (by omega) c7.1.1 (by omega)
      rw [j1]
      exact ⟨Or.inl ⟨2, _, f2, flt_2 hx tok c1 c7.2.1 c4 hfo (Or.inr rfl)⟩, f1, j2⟩
  by_cases h0 : tk b n k = 0
  · obtain ⟨y1, y2⟩ := body (by omega)
    rw [decide_eq_true h0, if_neg bt, if_neg bt]
    exact ⟨y1, pp _, vg, y2⟩
  · rw [decide_eq_false h0, if_pos bf, if_pos bf]
    by_cases h1 : tk b n k = 1
    · obtain ⟨y1, y2⟩ := body (by omega)
      rw [decide_eq_true h1, if_neg bt, if_neg bt]
      exact ⟨y1, pp _, pp _, vg, y2⟩
    · rw [decide_eq_false h1, if_pos bf, if_pos bf]
      by_cases h2 : tk b n k = 2
      · obtain ⟨y1, y2⟩ := body (by omega)
        rw [decide_eq_true h2, if_neg bt, if_neg bt]
        exact ⟨y1, pp _, pp _, pp _, vg, y2⟩
      · rw [decide_eq_false h2, if_pos bf, if_pos bf]
        obtain ⟨f1, f2⟩ := Ft.mk (M := M) (F := 1) hx c5 c1 c2 c3 (Or.inl rfl)
        obtain ⟨j1, j2⟩ := j54_f (f := f) f2
        have hfo := fo_no (c := tk b n k) (k := nI k) (R := nI R) (hgo0.mpr (by omega))
        rw [j1]
        exact ⟨Or.inl ⟨1, _, f2, flt_2 hx tok c1 c7.2.1 c4 hfo (Or.inl rfl)⟩, pp _, pp _, pp _, f1, j2⟩
theorem rd_l {b : Nat → Int32} {n T tp f g p : Nat} {A0 M0 : am_I} {J : am_J} (hx : Cx b n T tp f g A0 M0) (hp : p < 12) (h37 : A0 3 7 = -1) : ∀ m k, 401 - k ≤ m → ∀ (A M : am_I) (S gm : Nat) (ok : Bool) (R L : Nat) (rb lb md : Nat → Nat), RuI b n T A0 M0 g ok R L rb lb md k A M S → 401 - k + 2 ≤ gm → ∃ (x : Int32) (I' M' : am_I), (∀ gg, pbS (nI tp) f (gg + (401 - k)) (nI k) A = (x, I') ∧ pbP (nI tp) f (gg + (401 - k)) (nI k) A) ∧ (s_X10_read_L123 (nI p) f gm M J = (x, M', J) ∧ p_X10_read_L123 (nI p) f gm M J) ∧ FrD A0 I' ∧ (∀ k a, ¬ scM g k a → ¬ (k = 46 ∧ a = 17) → ¬ (k = 54 ∧ a = p) → M' k a = M0 k a) ∧ M' 46 17 = I' 3 7 ∧ (¬ x = 0 → M' 54 p = M0 54 p) ∧ (x = 0 → M' 54 p = 1 - M0 54 p ∧ CR (fun i => I' (38 + i)) M' g) := by
  intro m
  have hT := hx.2.2.2.2.1
  have hg := hx.2.2.1
  induction m with
  | zero =>
    intro k hm A M S gm ok R L rb lb md hI
    have := hI.1.k4 hx
    omega
  | succ m ih =>
    intro k hm A M S gm ok R L rb lb md hI hgm
    have hk4 := hI.1.k4 hx
    obtain ⟨gm, rfl⟩ : ∃ x, gm = x + 1 := ⟨gm - 1, by omega⟩
    have hI' := hI
    obtain ⟨hC, ⟨i1, i2, i3, i4, i5⟩, j1, j2, j3⟩ := hI
    obtain ⟨tok, c1, c2, c3, c4, c5, c6, c7, c8, c9, c10⟩ := hC
    have x0 : s_X10_is M 0 = bI (decide (tk b n k = 26)) := (is_k hx c5 c1 c2 c3 26 (by decide)).1
    have pp := (is_k hx c5 c1 c2 c3 26 (by decide)).2
    have bt : ¬ bI true = 0 := by decide
    have bf : bI false = 0 := rfl
    have vp12 : vp_in (nI p) 12 := vp_in_nI hp (by omega)
    have s54 : ∀ (M : am_I), FrM g M0 M → M 54 = M0 54 := fun M h => h.row (by decide) (by decide)
    by_cases h26 : tk b n k = 26
    · have hgo : ¬ s_X2_goesOn A (nI 26) = 0 := fun q => (go_0 (c := 26) i1 (by decide)).mp q (Or.inr rfl)
      have hfo : s_X2_faultOf A (A 1 3) (nI k) (A 38 7) = 0 := by
        rw [tok.2.2.1, h26]
        exact fo_end hgo
      have pe := PE_0 (a3 := nI tp) (f := f) hk4 hfo (by rw [tok.2.2.1, h26]; rfl)
      have le : M 46 13 ≤ 0 := by rw [c3]; decide
      rw [u_s_X10_read_L123, u_p_X10_read_L123, if_pos c3, if_pos c3, x0, decide_eq_true h26, if_neg bt, if_neg bt, if_pos le, if_pos le]
      unfold s_X10_read_J175 p_X10_read_J175
      rw [nI_clamp (n := p) (by omega)]
      rcases c6 with ⟨k1, k2, k3⟩ | ⟨k1, j, k2, k3, k4, k5⟩
      · have l15 : M 46 15 ≤ 0 := by rw [k3]; decide
        subst k1
        simp only [if_pos l15, if_pos le]
        refine ⟨0, A, am_w (am_w M 46 17 (-1)) 54 p (1 - M 54 p), fun gg => ?_, ⟨rfl, pp _, vp12, vp12⟩, c4.d, fun k' a h1 h2 h3 => ?_, ?_, fun q => absurd rfl q, fun _ => ⟨?_, ?_⟩⟩
        · have := pe gg
          rw [if_pos k2] at this
          exact this
        · by_cases e : k' = 54
          · subst e
            rw [aw_n (fun q => h3 ⟨rfl, q⟩)]
            exact c5 54 a h1
          · rw [aw_k e]
            by_cases e2 : k' = 46
            · subst e2
              rw [aw_n (fun q => h2 ⟨rfl, q⟩)]
              exact c5 46 a h1
            · rw [aw_k e2]
              exact c5 k' a h1
        · show (-1 : Int32) = A 3 7
          rw [c4 3 7 (by omega) (by omega) (by omega) (by omega), h37]
        · rw [aw_s, s54 M c5]
        · exact CMk.fin (c7.cg (M' := am_w (am_w M 46 17 (-1)) 54 p (1 - M 54 p)) (fun _ _ _ => rfl) (fun r h1 h2 h3 => by rw [aw_k (by omega), aw_k (by omega)])) c10
      · have n15 : ¬ M 46 15 ≤ 0 := by rw [k4]; decide
        have hpn := pl_le (b := b) (n := n) (k := j)
        have hn2 := hx.1
        have n36 : ¬ A 3 6 = -1 := by
          rw [k3, ia_eq, nI_toInt (by omega)]
          show ¬ _ = (-1 : Int)
          omega
        simp only [if_neg n15, if_pos le]
        refine ⟨4, am_w A 3 7 (A 3 6), am_w M 46 17 (M 46 16), fun gg => ?_, ⟨by rw [k4], pp _, trivial⟩, c4.d.w, fun k' a h1 h2 h3 => ?_, ?_, fun _ => ?_, fun q => absurd q (by decide)⟩
        · have := pe gg
          rw [if_neg n36] at this
          exact this
        · by_cases e2 : k' = 46
          · subst e2
            rw [aw_n (fun q => h2 ⟨rfl, q⟩)]
            exact c5 46 a h1
          · rw [aw_k e2]
            exact c5 k' a h1
        · rw [aw_s, aw_s, k3, k5]
        · rw [aw_k (by decide), s54 M c5]
    · obtain ⟨G1, G2⟩ := ru_go hx hI' h26
      rw [u_s_X10_read_L123, u_p_X10_read_L123, if_pos c3, if_pos c3, x0, decide_eq_false h26, if_pos bf, if_pos bf]
      generalize s_X10_tellRule f M = X at G1 ⊢
      rcases G1 with ⟨F, q, hFt, I', hPF, hq, hD⟩ | ⟨k', A', S', ok', L', rb', lb', md', r1, hI2, hlt⟩
      · obtain ⟨gm, rfl⟩ : ∃ x, gm = x + 1 := ⟨gm - 1, by omega⟩
        rw [u_s_X10_read_L123, u_p_X10_read_L123, if_neg hFt.ne, if_neg hFt.ne, if_neg hFt.nl, if_neg hFt.nl]
        unfold s_X10_read_J175 p_X10_read_J175
        rw [if_neg hFt.nl, if_neg hFt.nl]
        have hF0 : ¬ F = 0 := by rw [← hFt.2.1]; exact hFt.ne
        refine ⟨F, I', am_w X 46 17 (X 46 14), hPF, ⟨by rw [hFt.2.1], pp _, G2, trivial⟩, hD, fun k' a h1 h2 h3 => ?_, ?_, fun _ => ?_, fun z => absurd z hF0⟩
        · by_cases e2 : k' = 46
          · subst e2
            rw [aw_n (fun q => h2 ⟨rfl, q⟩)]
            exact hFt.2.2.2.1 46 a h1
          · rw [aw_k e2]
            exact hFt.2.2.2.1 k' a h1
        · rw [aw_s, hFt.2.2.1, hq]
        · rw [aw_k (by decide), s54 X hFt.2.2.2.1]
      · have hk' := hI2.1.k4 hx
        obtain ⟨x, I', M', y1, ⟨y2, y3⟩, y4⟩ := ih k' (by omega) A' X S' gm ok' (R + 1) L' rb' lb' md' hI2 (by omega)
        refine ⟨x, I', M', fun gg => ?_, ⟨y2, pp _, G2, y3⟩, y4⟩
        obtain ⟨z1, z2⟩ := r1.2 (gg + (401 - k'))
        obtain ⟨w1, w2⟩ := y1 gg
        rw [show gg + (401 - k) = gg + (401 - k') + (k' - k) by omega, z1]
        exact ⟨w1, z2 w2⟩
end
