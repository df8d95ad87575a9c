section
/-! ===== a literal that asks for a topic ===== -/
theorem wr_1 {b : Nat → Int32} {n j k : Nat} {M : am_I} (h13 : M 46 13 = 0) (h50 : M 50 k = nI (pl b n k)) (hk : k ≤ 400) (hn : n ≤ 2000) : (M 46 15 = 0 → s_X10_wrong M 4 (nI k) = am_w (am_w M 46 15 4) 46 16 (nI (pl b n k))) ∧ ((M 46 15 = 4 ∧ M 46 16 = nI (pl b n j) ∧ pl b n j < pl b n k) → s_X10_wrong M 4 (nI k) = M) ∧ p_X10_wrong 4 (nI k) := by
  have n0 : ¬ (0 : Int32) < M 46 13 := by rw [h13]; decide
  have e50 : M 50 (nI k).toNatClampNeg = nI (pl b n k) := by rw [nI_clamp (by omega)]; exact h50
  refine ⟨fun h => ?_, fun ⟨h1, h2, h3⟩ => ?_, vp_in_nI (by omega) (by omega)⟩
  · unfold s_X10_wrong
    rw [if_neg n0, if_pos h, e50]
  · have q1 : ¬ M 46 15 = 0 := by rw [h1]; decide
    have hp := pl_le (b := b) (n := n) (k := k)
    have q2 : M 46 16 < nI (pl b n k) := by rw [h2]; exact nI_lt h3 (by omega)
    unfold s_X10_wrong
    rw [if_neg n0, if_neg q1, e50, if_pos q2]
theorem lit_i {b : Nat → Int32} {n T tp f g : Nat} {A0 M0 : am_I} {ok : Bool} {R L : Nat} {rb lb md : Nat → Nat} {al : Int32} {k S : Nat} {A M : am_I} (hx : Cx b n T tp f g A0 M0) (hI : LiI b n T A0 M0 g ok R L rb lb md al k A M S) (h6 : tk b n k = 6) : (Flt A0 M0 g tp f k A (s_X10_literal f M al) ∨ LiO b n T A0 M0 g R L rb tp f k A (s_X10_literal f M al)) ∧ p_X10_literal f M al := by
  have hT := hx.2.2.2.2.1
  have hg := hx.2.2.1
  have hf := hx.2.1
  obtain ⟨hC, ⟨i1, i2, i3, i4, i5, i6, i7⟩, j1, j2, j3, j4⟩ := hI
  have hC' := hC
  obtain ⟨tok, c1, c2, c3, c4, c5, c6, c7, c8, c9, c10⟩ := hC
  have hR16 := c7.1.1
  have x26 : s_X10_is M 26 = 1 := by
    have := (is_k hx c5 c1 c2 c3 6 (by decide)).1
    rw [decide_eq_true h6] at this
    exact this
  have pp := (is_k hx c5 c1 c2 c3 6 (by decide)).2
  have n1 : ¬ (1 : Int32) = 0 := by decide
  have hgo : ¬ s_X2_goesOn A (nI (tk b n k)) = 0 := fun q => (go_2 i1 tk_lt).mp q (Or.inl h6)
  unfold s_X10_literal p_X10_literal
  rw [x26, if_neg n1, if_neg n1]
  by_cases hk : k < 400
  · obtain ⟨y1, y2⟩ := ta_6 (f := f) (a3 := nI tp) (A := A) (by rw [tok.2.2.1, h6])
    obtain ⟨A1, r1, tok1, rows1, fc1, hT1⟩ := stp_2 (dp := 0) hx tok c1 c7.2.1 hR16 hgo (by omega) hk i6 (by omega) (by omega) (by omega) y2 y1 tok.1 tok.2.1 tok.2.2.2.2.2 (c4.w (Or.inl ⟨rfl, by decide⟩))
    have a3 := rows1 3 (by decide)
    obtain ⟨nn1, nn2⟩ := nx_k (M := M) c2 hk
    rw [nn1]
    have m5 : FrM g M0 (am_w M 46 11 (nI (k + 1))) := c5.w (sc46 (by omega))
    have x2 : s_X10_is (am_w M 46 11 (nI (k + 1))) 2 = bI (decide (tk b n (k + 1) = 15)) := (is_k (M := am_w M 46 11 (nI (k + 1))) hx m5 hT1 rfl c3 15 (by decide)).1
    have pp2 := (is_k (M := am_w M 46 11 (nI (k + 1))) hx m5 hT1 rfl c3 15 (by decide)).2
    have s33 : A1 3 3 = 3 := by rw [a3]; rfl
    have s32 : A1 3 2 = nI 0 := by rw [a3]; exact i6
    have s387 : A1 38 7 = nI (R + 1) := by rw [rows1 38 (by decide)]; exact c7.2.1
    have hgo3 := go_3 (c := tk b n (k + 1)) s33 tk_lt
    unfold s_X10_must p_X10_must
    rw [x2]
    by_cases h15 : tk b n (k + 1) = 15
    · have bt : ¬ bI true = 0 := by decide
      rw [decide_eq_true h15, if_neg bt, if_neg bt]
      have hgo1 : ¬ s_X2_goesOn A1 (nI (tk b n (k + 1))) = 0 := fun q => hgo3.mp q h15
      by_cases hk1 : k + 1 < 400
      · obtain ⟨mm1, mm2⟩ := nx_k (M := am_w M 46 11 (nI (k + 1))) (k := k + 1) rfl hk1
        rw [mm1]
        obtain ⟨v, hv, ev⟩ := vl_nI h15
        have m5' : FrM g M0 (am_w (am_w M 46 11 (nI (k + 1))) 46 11 (nI (k + 1 + 1))) := m5.w (sc46 (by omega))
        obtain ⟨u49, u50, u51⟩ := m49 hx m5' hT1
        have v403 : vp_in ((am_w M 46 11 (nI (k + 1))) 46 11) 403 := vp_in_nI (by omega) (by omega)
        have le : (am_w (am_w M 46 11 (nI (k + 1))) 46 11 (nI (k + 1 + 1))) 46 13 ≤ 0 := by
          show M 46 13 ≤ 0
          rw [c3]; decide
        have ecl : ((am_w M 46 11 (nI (k + 1))) 46 11).toNatClampNeg = k + 1 := nI_clamp (by omega)
        have e51 : (am_w (am_w M 46 11 (nI (k + 1))) 46 11 (nI (k + 1 + 1))) 51 (k + 1) = nI v := by rw [u51 h15, ev]
        have e38 : (am_w (am_w M 46 11 (nI (k + 1))) 46 11 (nI (k + 1 + 1))) 46 38 = nI tp := by
          rw [m5' 46 38 (by unfold scM; omega)]
          exact hx.2.2.2.2.2.2.2.2.2.2.2
        have a15 : A1 1 5 = nI v := by rw [tok1.2.2.2.2.1 h15, ev]
        have e11 : (am_w M 46 11 (nI (k + 1))) 46 11 = nI (k + 1) := rfl
        rw [if_pos le, if_pos le, ecl, e51, e38, e11]
        -- what is common from here on
        have fin : ∀ (ok2 : Bool) (Aw Nw : am_I), (∀ r, r ≠ 3 → Aw r = A1 r) → (∀ a, a ≠ 6 → Aw 3 a = A1 3 a) → (∀ r, r ≠ 46 → Nw r = M r) → (∀ a, a ≠ 11 → a ≠ 15 → a ≠ 16 → Nw 46 a = M 46 a) → Nw 46 11 = nI (k + 1 + 1) → FrM g M0 Nw → (ok2 = true → ok = true ∧ v < 12) → Bad b n ok2 (k + 1 + 1) Aw Nw → s_X2_take f A1 (nI tp) = s_X2_takeTopic_J24 (nI tp) f Aw → (p_X2_takeTopic_J24 (nI tp) f Aw → p_X2_take f A1 (nI tp)) → (Flt A0 M0 g tp f k A (s_X10_literal_J146 al (M 46 30) (M 46 30) 4 (s_X10_emit Nw 0 (nI v))) ∨ LiO b n T A0 M0 g R L rb tp f k A (s_X10_literal_J146 al (M 46 30) (M 46 30) 4 (s_X10_emit Nw 0 (nI v)))) ∧ p_X10_emit Nw 0 (nI v) ∧ p_X10_literal_J146 al (M 46 30) (M 46 30) 4 (s_X10_emit Nw 0 (nI v)) := by
          intro ok2 Aw Nw b1 b2 b3 b4 b5 b6 b7 b8 b9 b10
          have hS : S < 400 := by omega
          have w38 := b1 38 (by decide)
          have r38 := rows1 38 (by decide)
          have h9 : Aw 38 9 = nI S := by rw [w38, r38]; exact c7.2.2.2.1
          have w15 : Aw 1 5 = nI v := by rw [b1 1 (by decide)]; exact a15
          obtain ⟨ce1, ce2⟩ := ce_1 (A := Aw) (S := S) (m := v) h9 hS (by omega)
          have n30 : Nw 46 30 = nI (500 * g + S) := (b4 30 (by decide) (by decide) (by decide)).trans c8
          obtain ⟨em1, em2⟩ := em_1 (M := Nw) (c := 500 * g + S) (k := 0) (v := nI v) n30 (by omega)
          have cmw : CMk ok2 Aw Nw g (R + 1) R L S rb lb md := by
            have c7' : CMk ok Aw Nw g (R + 1) R L S rb lb md := c7.cg (fun r h1 h2 => by rw [b1 r (by omega), rows1 r (by omega), aw_k (by omega)]) (fun r h1 h2 h3 => b3 r (by omega))
            cases ok2 with
            | false => exact c7'.wk
            | true => rw [(b7 rfl).1] at c7'; exact c7'
          have cmc : CMk ok2 (am_w (am_w Aw 45 S (nI v)) 38 9 (nI (S + 1))) (am_w (am_w (am_w Nw 65 (500 * g + S) 0) 66 (500 * g + S) (nI v)) 46 30 (nI (500 * g + S + 1))) g (R + 1) R L (S + 1) rb lb md := cmw.cell (x := nI v) (kx := 0) (vx := nI v) hS (Or.inl ⟨v, hv, rfl, rfl, rfl⟩) (fun r h1 h2 => by rw [aw_k (by omega), aw_k (by omega)]) rfl rfl rfl rfl rfl (fun r h1 h2 h3 => by rw [aw_k (by omega), aw_k (by omega), aw_k (by omega)]) rfl rfl
          have f3 : (am_w (am_w (am_w Nw 65 (500 * g + S) 0) 66 (500 * g + S) (nI v)) 46 30 (nI (500 * g + S + 1))) 46 13 = 0 := (b4 13 (by decide) (by decide) (by decide)).trans c3
          have fm : FrM g M0 (am_w (am_w (am_w Nw 65 (500 * g + S) 0) 66 (500 * g + S) (nI v)) 46 30 (nI (500 * g + S + 1))) := ((b6.w (by unfold scM; omega)).w (by unfold scM; omega)).w (sc46 (by omega))
          have f59 : (am_w (am_w (am_w Nw 65 (500 * g + S) 0) 66 (500 * g + S) (nI v)) 46 30 (nI (500 * g + S + 1))) 59 g = nI L := by
            show Nw 59 g = nI L
            rw [b3 59 (by decide)]; exact c9
          obtain ⟨V, X, ⟨g1, g2⟩, ⟨g3, g4⟩, g5, g6, g7, g8, g9, g10, g11⟩ := lit_fin (ok := ok2) (f := f) (t := 6) (so := 4) (m0 := S) (al := al) hx f3 fm cmc rfl f59 (by omega) i4 j4 (by decide) (Or.inl ⟨rfl, rfl, by omega, v, fun q => (b7 q).2, by
            show va_up (Aw 45) S (nI v) (lb L) = nI v
            rw [j1, vu_s]⟩)
          have e35 : (am_w (am_w Aw 45 S (nI v)) 38 9 (nI (S + 1))) 3 5 = al := by
            show Aw 3 5 = al
            rw [b2 5 (by decide), a3]; exact i3
          have eT : s_X2_take f A1 (nI tp) = am_w V 3 3 4 := by
            rw [b9]
            unfold s_X2_takeTopic_J24
            rw [w15, ce1, e35]
            have g1' : s_X1_addLiteral f (am_w (am_w Aw 45 S (nI v)) 38 9 (nI (S + 1))) 6 al = V := g1
            rw [g1']
          have pT : p_X2_take f A1 (nI tp) := by
            apply b10
            unfold p_X2_takeTopic_J24
            rw [w15, ce1, e35]
            exact ⟨ce2, g2⟩
          have v1 : V 1 = A1 1 := by rw [g6 1 (by decide)]; exact b1 1 (by decide)
          have v2 : V 2 = A1 2 := by rw [g6 2 (by decide)]; exact b1 2 (by decide)
          have v3 : ∀ a, a ≠ 6 → V 3 a = A1 3 a := fun a ha => by rw [g6 3 (by decide)]; exact b2 a ha
          have v36 : V 3 6 = Aw 3 6 := by rw [g6 3 (by decide)]; rfl
          have fcw : FrC A1 Aw := fun r a q1 q2 q3 q4 => by
            by_cases e : r = 3
            · subst e
              exact b2 a (by omega)
            · rw [b1 r e]
          have fcV : FrC A0 (am_w V 3 3 4) := (FrC.tr (FrC.tr fc1 fcw) (FrC.tr ((FrC.rf.w (by omega)).w (by omega)) g11)).w (Or.inl ⟨rfl, by decide⟩)
          obtain ⟨A2, r2, tok2, rows2, fc2, hT2⟩ := stp_2 (dp := 0) hx tok1 hT1 s387 hR16 hgo1 (by omega) hk1 s32 (by omega) (by omega) (by omega) pT eT (by show V 1 1 = _; rw [v1]; exact tok1.1) (by show V 1 2 = _; rw [v1]; exact tok1.2.1) (by show V 2 = _; rw [v2]; exact tok1.2.2.2.2.2) fcV
          have q3 := rows2 3 (by decide)
          have w3 : ∀ a, a ≠ 3 → a ≠ 6 → A2 3 a = A1 3 a := fun a h1 h2 => by rw [q3, aw_n h1]; exact v3 a h2
          have e34 : A2 3 4 = -1 := by rw [w3 4 (by decide) (by decide), a3]; exact i2
          have e33 : A2 3 3 = 4 := by rw [q3]; rfl
          rw [em1, c8]
          have g3' : s_X10_literal_J146 al (nI (500 * g + S)) (nI (500 * g + S)) 4 (am_w (am_w (am_w Nw 65 (500 * g + S) 0) 66 (500 * g + S) (nI v)) 46 30 (nI (500 * g + S + 1))) = X := by rw [← g3, j1]
          have g4' : p_X10_literal_J146 al (nI (500 * g + S)) (nI (500 * g + S)) 4 (am_w (am_w (am_w Nw 65 (500 * g + S) 0) 66 (500 * g + S) (nI v)) 46 30 (nI (500 * g + S + 1))) := by rw [← j1] at g4 ⊢; exact g4
          rw [g3']
          refine ⟨Or.inr ⟨k + 1 + 1, A2, A2, S + 1, ok2, va_up lb (L + 1) (S + 1), va_up md L S, r1.tr r2, ⟨tok2, ?_, ?_, fc2⟩, ⟨go_4 e33 tk_lt, fun hc => ?_⟩, ?_, ⟨e34, ?_, ?_, ?_⟩, vu_s, by omega, by omega⟩, em2, g4'⟩
          · rw [w3 2 (by decide) (by decide)]; exact s32
          · rw [rows2 38 (by decide)]
            show V 38 7 = _
            exact g5.2.1
          · obtain ⟨l1, l2⟩ := ta_l (f := f) (a3 := nI tp) tok2.2.2.1 hc (by rw [e33]; decide)
            obtain ⟨l3, l4⟩ := tle_1 (f := f) e34 hc
            rw [l1, l3]
            exact ⟨rfl, l2 l4⟩
          · refine ⟨tok2, hT2, ?_, ?_, fc2, g10, ?_, g5.cg (fun r h1 h2 => by rw [rows2 r (by omega), aw_k (by omega)]) (fun _ _ _ _ => rfl), ?_, g9, ?_⟩
            · rw [g7]; exact b5
            · rw [g7]; exact f3
            · exact b8.up (Nat.le_refl _) (by rw [q3]; exact v36) (by rw [g7]; rfl) (by rw [g7]; rfl)
            · rw [g7]; rfl
            · rw [g8]; show Nw 55 g = _; rw [b3 55 (by decide)]; exact c10
          · rw [w3 1 (by decide) (by decide), a3]; exact i5
          · rw [w3 2 (by decide) (by decide)]; exact s32
          · rw [g7]
            show Nw 46 12 = 0
            exact (b4 12 (by decide) (by decide) (by decide)).trans i7
        obtain ⟨z1, z2⟩ := ta_t (f := f) (a3 := nI tp) (A := A1) (by rw [tok1.2.2.1, h15]) s33
        have tp12 := hx.2.2.2.1
        have b3 : ∀ r, r ≠ 46 → (am_w (am_w M 46 11 (nI (k + 1))) 46 11 (nI (k + 1 + 1))) r = M r := fun r hr => by rw [aw_k hr, aw_k hr]
        have b4 : ∀ a, a ≠ 11 → a ≠ 15 → a ≠ 16 → (am_w (am_w M 46 11 (nI (k + 1))) 46 11 (nI (k + 1 + 1))) 46 a = M 46 a := fun a h1 _ _ => by rw [aw_n h1, aw_n h1]
        by_cases hvt : v < tp
        · have ct : nI v < nI tp := nI_lt hvt (by omega)
          rw [if_pos ct, if_pos ct]
          obtain ⟨o1, o2, o3⟩ := fin ok A1 _ (fun _ _ => rfl) (fun _ _ => rfl) b3 b4 rfl m5' (fun q => ⟨q, by omega⟩) (c6.up (by omega) (by rw [a3]; rfl) rfl rfl) (by
            rw [z1]; unfold s_X2_takeTopic; rw [a15, if_pos ct]) (fun q => z2 (by unfold p_X2_takeTopic; rw [a15, if_pos ct]; exact q))
          exact ⟨o1, pp _, nn2, ⟨pp2 _, mm2⟩, v403, v403, o2, o3⟩
        · have ct : ¬ nI v < nI tp := nI_nlt (by omega) (by omega)
          rw [if_neg ct, if_neg ct]
          rcases c6 with ⟨k1, k2, k3⟩ | ⟨k1, j, k2, k3, k4, k5⟩
          · obtain ⟨w1, -, w3⟩ := wr_1 (b := b) (n := n) (j := 0) (k := k + 1) (M := am_w (am_w M 46 11 (nI (k + 1))) 46 11 (nI (k + 1 + 1))) c3 u50 (by omega) hx.1
            rw [w1 k3]
            have e51' : (am_w (am_w (am_w (am_w M 46 11 (nI (k + 1))) 46 11 (nI (k + 1 + 1))) 46 15 4) 46 16 (nI (pl b n (k + 1)))) 51 (k + 1) = nI v := e51
            rw [e51']
            have c36 : A1 3 6 = -1 := by rw [a3]; exact k2
            obtain ⟨o1, o2, o3⟩ := fin false (am_w A1 3 6 (A1 1 4)) (am_w (am_w (am_w (am_w M 46 11 (nI (k + 1))) 46 11 (nI (k + 1 + 1))) 46 15 4) 46 16 (nI (pl b n (k + 1)))) (fun r hr => by rw [aw_k hr]) (fun a ha => by rw [aw_n ha]) (fun r hr => by rw [aw_k hr, aw_k hr]; exact b3 r hr) (fun a h1 h2 h3 => by rw [aw_n h3, aw_n h2]; exact b4 a h1 h2 h3) rfl ((m5'.w (sc46 (by omega))).w (sc46 (by omega))) (fun q => by cases q) (Or.inr ⟨rfl, k + 1, by omega, by rw [aw_s]; exact tok1.2.2.2.1, rfl, rfl⟩) (by
              rw [z1]; unfold s_X2_takeTopic; rw [a15, if_neg ct, if_pos c36]) (fun q => z2 (by unfold p_X2_takeTopic; rw [a15, if_neg ct, if_pos c36]; exact q))
            exact ⟨o1, pp _, nn2, ⟨pp2 _, mm2⟩, v403, w3, v403, o2, o3⟩
          · have hp : pl b n j < pl b n (k + 1) := pl_mo (k + 1) (by omega) (fun q h1 h2 => hx.2.2.2.2.2.2.1 q (by omega))
            obtain ⟨-, w2, w3⟩ := wr_1 (b := b) (n := n) (j := j) (k := k + 1) (M := am_w (am_w M 46 11 (nI (k + 1))) 46 11 (nI (k + 1 + 1))) c3 u50 (by omega) hx.1
            rw [w2 ⟨k4, k5, hp⟩, e51]
            have hpn := pl_le (b := b) (n := n) (k := j)
            have hn2 := hx.1
            have c36 : ¬ A1 3 6 = -1 := by
              rw [a3]
              show ¬ A 3 6 = -1
              rw [k3, ia_eq, nI_toInt (by omega)]
              show ¬ _ = (-1 : Int)
              omega
            obtain ⟨o1, o2, o3⟩ := fin false A1 _ (fun _ _ => rfl) (fun _ _ => rfl) b3 b4 rfl m5' (fun q => by cases q) (Or.inr ⟨rfl, j, by omega, by rw [a3]; exact k3, k4, k5⟩) (by
              rw [z1]; unfold s_X2_takeTopic; rw [a15, if_neg ct, if_neg c36]) (fun q => z2 (by unfold p_X2_takeTopic; rw [a15, if_neg ct, if_neg c36]; exact q))
            exact ⟨o1, pp _, nn2, ⟨pp2 _, mm2⟩, v403, w3, v403, o2, o3⟩
      · obtain ⟨f1, f2⟩ := Ft.n4 (M := am_w M 46 11 (nI (k + 1))) (k := k + 1) hx m5 hT1 hk1 rfl c3
        have hfo : s_X2_faultOf A1 (nI (tk b n (k + 1))) (nI (k + 1)) (nI (R + 1)) = 2 := fo_rm (dp := 0) hgo1 tk_lt (by omega) (by omega) s32 (by omega) hR16 (by omega)
        rw [if_neg f2.nl, if_neg f2.nl]
        exact ⟨Or.inl (Flt.rch r1 (by omega) ⟨2, _, f2, flt_2 hx tok1 hT1 s387 fc1 hfo (Or.inr rfl)⟩), pp _, nn2, ⟨pp2 _, f1⟩, trivial⟩
    · have bf : bI false = 0 := rfl
      rw [decide_eq_false h15, if_pos bf, if_pos bf]
      have hgo1 : s_X2_goesOn A1 (nI (tk b n (k + 1))) = 0 := hgo3.mpr h15
      obtain ⟨f1, f2⟩ := Ft.mk (M := am_w M 46 11 (nI (k + 1))) (k := k + 1) (F := 1) hx m5 hT1 rfl c3 (Or.inl rfl)
      have hfo := fo_no (c := tk b n (k + 1)) (k := nI (k + 1)) (R := nI (R + 1)) hgo1
      rw [if_neg f2.nl, if_neg f2.nl]
      exact ⟨Or.inl (Flt.rch r1 (by omega) ⟨1, _, f2, flt_2 hx tok1 hT1 s387 fc1 hfo (Or.inl rfl)⟩), pp _, nn2, ⟨pp2 _, f1⟩, trivial⟩
  · obtain ⟨f1, f2⟩ := Ft.n4 (M := M) hx c5 c1 hk c2 c3
    obtain ⟨m1, m2⟩ := must_f (x := 2) f2
    have hfo : s_X2_faultOf A (nI (tk b n k)) (nI k) (nI (R + 1)) = 2 := fo_rm (dp := 0) hgo tk_lt (by omega) (by omega) i6 (by omega) hR16 (by omega)
    rw [m1, if_neg f2.nl, if_neg f2.nl]
    exact ⟨Or.inl ⟨2, _, f2, flt_2 hx tok c1 c7.2.1 c4 hfo (Or.inr rfl)⟩, pp _, f1, m2, trivial⟩
theorem lit_go {b : Nat → Int32} {n T tp f g : Nat} {A0 M0 : am_I} {ok : Bool} {R L : Nat} {rb lb md : Nat → Nat} {al : Int32} {k S : Nat} {A M : am_I} (hx : Cx b n T tp f g A0 M0) (hI : LiI b n T A0 M0 g ok R L rb lb md al k A M S) : (Flt A0 M0 g tp f k A (s_X10_literal f M al) ∨ LiO b n T A0 M0 g R L rb tp f k A (s_X10_literal f M al)) ∧ p_X10_literal f M al := by
  by_cases h6 : tk b n k = 6
  · exact lit_i hx hI h6
  · exact lit_c hx hI h6
end
