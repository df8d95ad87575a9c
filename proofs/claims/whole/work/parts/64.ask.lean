/-! ===== the steps would, ask ===== -/
theorem ak_l {j : Nat} {I : am_I} {E : Nat → am_I} {a b c d e : Int32} : s_X9_isAsking (lI j I E) a b c d e = s_X9_isAsking I a b c d e := by
  unfold s_X9_isAsking s_X9_isAsking_J21 s_X0_has s_X4_has
  rw [lI_out (k := 0) (by omega), lI_out (k := 26) (by omega), lI_out (k := 15) (by omega)]
theorem ak_m {K M : am_I} {w : Nat} (e1 : M 46 44 = K 15 11) (e2 : M 46 52 = K 26 2) (e3 : M 46 54 = K 0 9) (hw : K 0 9 = nI w) (h4 : w ≤ 4) {a b c d e : Int32} : s_X10_isAsking M a b c d e = s_X9_isAsking K a b c d e := by
  have f0 : s_X10_isPiece M b = s_X4_has K b := by show s_X9_isBelow b (M 46 44) = s_X9_isBelow b (K 15 11); rw [e1]
  have f1 : s_X10_isAsker M a = s_X0_has K a := by show s_X9_isBelow a (M 46 52) = s_X9_isBelow a (K 26 2); rw [e2]
  have f2 : s_X10_isDay d = s_X9_isDay d := rfl
  have f3 : s_X10_isFour e = s_X9_isBelow e 4 := rfl
  have m1 : (-1 : Int32).toInt = -1 := rfl
  have wt : (nI w).toInt = w := nI_toInt (by omega)
  unfold s_X10_isAsking s_X9_isAsking s_X9_isAsking_J21
  rw [f0, f1, f2, f3, e3, hw]
  by_cases hc : c = -1
  · have n1 : ¬ c < -1 := by rw [hc]; decide
    have n2 : ¬ nI w ≤ c := by rw [Int32.le_iff_toInt_le, hc, wt, m1]; omega
    simp only [if_pos hc, if_neg n1, if_neg n2, if_neg (show ¬ (1 : Int32) = 0 by decide)]
  · simp only [if_neg hc]
    by_cases hb : s_X9_isBelow c (nI w) = 0
    · simp only [if_pos hb, if_true]
      have hb' := isB_0.mp hb
      rw [ia_eq, m1] at hc
      by_cases n1 : c < -1
      · simp only [if_pos n1]
        repeat' split
        all_goals rfl
      · have n2 : nI w ≤ c := by
          rw [Int32.lt_iff_toInt_lt, m1] at n1
          rw [Int32.le_iff_toInt_le]
          omega
        simp only [if_neg n1, if_pos n2]
        repeat' split
        all_goals rfl
    · have hb' : 0 ≤ c.toInt ∧ c.toInt < (nI w).toInt := Decidable.of_not_not (fun q => hb (isB_0.mpr q))
      have n1 : ¬ c < -1 := by rw [Int32.lt_iff_toInt_lt, m1]; omega
      have n2 : ¬ nI w ≤ c := by rw [Int32.le_iff_toInt_le]; omega
      simp only [if_neg hb, if_neg n1, if_neg n2, if_neg (show ¬ (1 : Int32) = 0 by decide)]
theorem ak_d {K : am_I} {n m w : Nat} (en : K 15 11 = nI n) (hn : n ≤ 30) (em : K 26 2 = nI m) (hm : m ≤ 6) (hw : K 0 9 = nI w) (h4 : w ≤ 4) {a b c d e : Int32} (h : ¬ s_X9_isAsking K a b c d e = 0) : (∃ aa, aa < m ∧ a = nI aa) ∧ (∃ p, p < n ∧ b = nI p) ∧ (c = -1 ∨ ∃ k w, c = nI k ∧ k < w ∧ w ≤ 4 ∧ K 0 9 = nI w) := by
  have hJ : ∀ t0, ¬ s_X9_isAsking_J21 a b c d e K t0 = 0 → (∃ aa, aa < m ∧ a = nI aa) ∧ (∃ p, p < n ∧ b = nI p) ∧ ¬ t0 = 0 := by
    intro t0 hh
    unfold s_X9_isAsking_J21 at hh
    by_cases h1 : s_X0_has K a = 0
    · rw [if_pos h1] at hh; exact absurd rfl hh
    · rw [if_neg h1] at hh
      by_cases h2 : s_X4_has K b = 0
      · rw [if_pos h2] at hh; exact absurd rfl hh
      · rw [if_neg h2] at hh
        by_cases h3 : t0 = 0
        · rw [if_pos h3] at hh; exact absurd rfl hh
        · exact ⟨isB_of h1 em (by omega), isB_of h2 en (by omega), h3⟩
  unfold s_X9_isAsking at h
  by_cases hc : c = -1
  · rw [if_pos hc] at h
    obtain ⟨h1, h2, -⟩ := hJ 1 h
    exact ⟨h1, h2, Or.inl hc⟩
  · rw [if_neg hc] at h
    by_cases hb : s_X9_isBelow c (K 0 9) = 0
    · rw [if_pos hb] at h
      exact absurd rfl (hJ 0 h).2.2
    · rw [if_neg hb] at h
      obtain ⟨h1, h2, -⟩ := hJ 1 h
      obtain ⟨k, k1, k2⟩ := isB_of hb hw (by omega)
      exact ⟨h1, h2, Or.inr ⟨k, w, k2, k1, h4, hw⟩⟩
theorem sp_would (a b c d e : Int32) : LStp VV MX9_would MX10_would 7 5 0 0 [.int a, .int b, .int c, .int d, .int e] := by
  obtain ⟨f, hf⟩ : ∃ f : Nat, 1000 ≤ f := ⟨1000, Nat.le_refl _⟩
  exact st_q (pc := fun I Q => p_X9_would f I Q a b c d e) (pm := fun I => p_X10_would f I a b c d e) (fun I Q => s_X9_would f I Q a b c d e) (fun I => s_X10_would f I a b c d e) (fun I J Q hG h => ct_X9_would f I J Q hG a b c d e h) (fun I J Q hG h => ct_X10_would f I J Q hG a b c d e h) (fun nc I J Q E hV => by
    obtain ⟨n, hn, en⟩ := v_nI (m := 30) hV.2.2.1.2.2.2.2.1
    obtain ⟨m, hm, em⟩ := v_nI (m := 6) hV.2.2.1.2.2.2.2.2.1
    obtain ⟨w, hw, ew⟩ := v_nI (m := 4) hV.2.2.1.2.2.2.2.2.2.1
    by_cases hq : s_X9_isAsking I a b c d e = 0
    · have hVK := hV.ag (ag_lI (j := 0) (E := E))
      have hq' : s_X9_isAsking (lI 0 I E) a b c d e = 0 := by rw [ak_l]; exact hq
      have ew' : lI 0 I E 0 9 = nI w := by rw [lI_out (by omega)]; exact ew
      have hm' : s_X10_isAsking (lI 0 I E) a b c d e = 0 := by rw [ak_m hVK.2.1.2.2.2.2.2.2.2.1 hVK.2.1.2.2.2.2.2.2.2.2.2.1 hVK.2.1.2.2.2.2.2.2.2.2.2.2.2.2.1 ew' hw]; exact hq'
      refine ⟨0, -1, lI 0 I E, lI 0 I E, hV.p0, ?_, ?_, ?_, ?_, fun _ _ _ => rfl, hVK⟩
      · unfold p_X9_would; rw [if_pos hq']; trivial
      · unfold s_X9_would; rw [if_pos hq']
      · unfold p_X10_would; rw [if_pos hm']; trivial
      · unfold s_X10_would; rw [if_pos hm']
    · obtain ⟨⟨aa, haa, rfl⟩, ⟨p, hp, rfl⟩, hc⟩ := ak_d en hn em hm ew hw hq
      obtain ⟨j, t, s, tp, g, R, L, S, rb, lb, md, hj, hQ, -⟩ := qx_of hV en hn hp
      have hVK := hV.ag (ag_lI (j := j) (E := E))
      have hq' : ¬ s_X9_isAsking (lI j I E) (nI aa) (nI p) c d e = 0 := by rw [ak_l]; exact hq
      have ew' : lI j I E 0 9 = nI w := by rw [lI_out (by omega)]; exact ew
      have em' : lI j I E 26 2 = nI m := by rw [lI_out (by omega)]; exact em
      have hc' : c = -1 ∨ ∃ k w, c = nI k ∧ k < w ∧ w ≤ 4 ∧ lI j I E 0 9 = nI w := by rw [lI_out (by omega)]; exact hc
      obtain ⟨K2, a1, a2, a3⟩ := an_c hVK hQ hf em' hm haa c d e hc'
      obtain ⟨K3, b1, b2, b3⟩ := an_m hVK hQ hf em' hm haa c d e hc' (M := K2) (fun k h5 h6 h7 h8 _ => a3 k h5 h6 h7 h8)
      have hV2 := hVK.ag a3.ag
      have ew2 : K2 0 9 = nI w := by rw [a3 0 (by decide) (by decide) (by decide) (by decide)]; exact ew'
      have hm' : ¬ s_X10_isAsking K2 (nI aa) (nI p) c d e = 0 := by
        rw [ak_m hV2.2.1.2.2.2.2.2.2.2.1 hV2.2.1.2.2.2.2.2.2.2.2.2.1 hV2.2.1.2.2.2.2.2.2.2.2.2.2.2.2.1 ew2 hw]
        unfold s_X9_isAsking s_X9_isAsking_J21 s_X0_has s_X4_has at hq' ⊢
        rw [a3 0 (by decide) (by decide) (by decide) (by decide), a3 26 (by decide) (by decide) (by decide) (by decide), a3 15 (by decide) (by decide) (by decide) (by decide)]
        exact hq'
      refine ⟨j, anV f (lI j I E) aa p t s tp R rb lb md c d e, K2, K3, hj, ?_, ?_, ?_, ?_, fun k k1 k2 => ?_, hV2.ag b3.ag⟩
      · unfold p_X9_would; rw [if_neg hq']; exact a2
      · unfold s_X9_would; rw [if_neg hq', a1]
      · unfold p_X10_would; rw [if_neg hm']; exact b2
      · unfold s_X10_would; rw [if_neg hm', b1]
      · rw [b3.r (by omega) (by omega) (by omega), a3 k (by omega) (by omega) (by omega) (by omega)])
theorem an_v {f : Nat} {K : am_I} {aa p t s tp R : Nat} {rb lb md : Nat → Nat} {c day use : Int32} : anV f K aa p t s tp R rb lb md c day use = 0 ∨ anV f K aa p t s tp R rb lb md c day use = 1 ∨ anV f K aa p t s tp R rb lb md c day use = 2 ∨ anV f K aa p t s tp R rb lb md c day use = 3 ∨ anV f K aa p t s tp R rb lb md c day use = 4 := by
  unfold anV anJ
  repeat' split
  all_goals decide
theorem va_id {f : Nat → Int32} {k : Nat} {v : Int32} (h : f k = v) : va_up f k v = f := by
  funext j
  unfold va_up
  split
  · next hj => rw [hj, h]
  · rfl
theorem VV.hear {nc : Nat} {I : am_I} {J : am_J} {Q : am_Q} {E : Nat → am_I} (hV : VV nc I J Q E) (r : Nat → Int32) : VV nc (va_up (va_up I 28 r) 85 r) J Q E := by
  obtain ⟨hr, ⟨f1, f2, f3, f4, f5, f6, f7, f8, f9, f10, f11, f12, f13, f14, f15⟩, hs⟩ := hV
  exact ⟨hr, ⟨f1, f2, f3, f4, f5, f6, f7, f8, f9, f10, rfl, f12, f13, f14, f15⟩, hs⟩
theorem sp_ask (a b c d e : Int32) : LStp VV MX9_ask MX10_ask 7 5 0 0 [.int a, .int b, .int c, .int d, .int e] := by
  obtain ⟨f, hf⟩ : ∃ f : Nat, 1000 ≤ f := ⟨1000, Nat.le_refl _⟩
  exact st_q (pc := fun I Q => p_X9_ask f I Q a b c d e) (pm := fun I => p_X10_ask f I a b c d e) (fun I Q => s_X9_ask f I Q a b c d e) (fun I => s_X10_ask f I a b c d e) (fun I J Q hG h => ct_X9_ask f I J Q hG a b c d e h) (fun I J Q hG h => ct_X10_ask f I J Q hG a b c d e h) (fun nc I J Q E hV => by
    obtain ⟨n, hn, en⟩ := v_nI (m := 30) hV.2.2.1.2.2.2.2.1
    obtain ⟨m, hm, em⟩ := v_nI (m := 6) hV.2.2.1.2.2.2.2.2.1
    obtain ⟨w, hw, ew⟩ := v_nI (m := 4) hV.2.2.1.2.2.2.2.2.2.1
    by_cases hq : s_X9_isAsking I a b c d e = 0
    · have hVK := hV.ag (ag_lI (j := 0) (E := E))
      have hq' : s_X9_isAsking (lI 0 I E) a b c d e = 0 := by rw [ak_l]; exact hq
      have ew' : lI 0 I E 0 9 = nI w := by rw [lI_out (by omega)]; exact ew
      have hm' : s_X10_isAsking (lI 0 I E) a b c d e = 0 := by rw [ak_m hVK.2.1.2.2.2.2.2.2.2.1 hVK.2.1.2.2.2.2.2.2.2.2.2.1 hVK.2.1.2.2.2.2.2.2.2.2.2.2.2.2.1 ew' hw]; exact hq'
      refine ⟨0, -1, lI 0 I E, lI 0 I E, hV.p0, ?_, ?_, ?_, ?_, fun _ _ _ => rfl, hVK⟩
      · unfold p_X9_ask; rw [if_pos hq']; trivial
      · unfold s_X9_ask; rw [if_pos hq']
      · unfold p_X10_ask; rw [if_pos hm']; trivial
      · unfold s_X10_ask; rw [if_pos hm']
    · obtain ⟨⟨aa, haa, rfl⟩, ⟨p, hp, rfl⟩, hc⟩ := ak_d en hn em hm ew hw hq
      obtain ⟨j, t, s, tp, g, R, L, S, rb, lb, md, hj, hQ, -⟩ := qx_of hV en hn hp
      have hVK := hV.ag (ag_lI (j := j) (E := E))
      have hq' : ¬ s_X9_isAsking (lI j I E) (nI aa) (nI p) c d e = 0 := by rw [ak_l]; exact hq
      have ew' : lI j I E 0 9 = nI w := by rw [lI_out (by omega)]; exact ew
      have em' : lI j I E 26 2 = nI m := by rw [lI_out (by omega)]; exact em
      have hc' : c = -1 ∨ ∃ k w, c = nI k ∧ k < w ∧ w ≤ 4 ∧ lI j I E 0 9 = nI w := by rw [lI_out (by omega)]; exact hc
      obtain ⟨K2, a1, a2, a3⟩ := an_c hVK hQ hf em' hm haa c d e hc'
      have hV2 := hVK.ag a3.ag
      have em2 : K2 26 2 = nI m := by rw [a3 26 (by decide) (by decide) (by decide) (by decide)]; exact em'
      have ew2 : K2 0 9 = nI w := by rw [a3 0 (by decide) (by decide) (by decide) (by decide)]; exact ew'
      have hx := an_v (f := f) (K := lI j I E) (aa := aa) (p := p) (t := t) (s := s) (tp := tp) (R := R) (rb := rb) (lb := lb) (md := md) (c := c) (day := d) (use := e)
      generalize hxx : anV f (lI j I E) aa p t s tp R rb lb md c d e = x at *
      have v180 : vp_in (nI (30 * aa + p)) 180 := vp_in_nI (by omega) (by omega)
      have hw2 := way_s (i := p) em2 hm haa (by omega)
      have c30 := nI_clamp (n := 30 * aa + p) (by omega)
      -- what the class hears
      have hear : (x = 2 ∨ x = 3) → s_X0_hear K2 (nI aa) (nI p) x = (if K2 28 (30 * aa + p) = 2 then K2 else am_w K2 28 (30 * aa + p) x) ∧ p_X0_hear K2 (nI aa) (nI p) x := fun hx23 => by
        have h1 : ¬ s_X0_has K2 (nI aa) = 0 := by unfold s_X0_has; rw [em2]; exact isB_nI haa (by omega)
        have h2 : ¬ s_X9_isBelow (nI p) 30 = 0 := isB_nI (b := 30) (by omega) (by omega)
        have hb : vp_nar .byte (x.toInt8.toInt32) = x := by rcases hx23 with rfl | rfl <;> decide
        unfold s_X0_hear p_X0_hear s_X0_hear_J22 p_X0_hear_J22
        simp only [if_neg h1, if_neg h2, if_neg (show ¬ (1 : Int32) = 0 by decide)]
        rw [hw2.1, hb, nI30', c30]
        refine ⟨rfl, hw2.2, ?_⟩
        split
        · trivial
        · exact v180
      -- the reference from a state M
      have ref : ∀ M : am_I, Fz (lI j I E) M → ∃ K3, (p_X10_ask f M (nI aa) (nI p) c d e) ∧ s_X10_ask f M (nI aa) (nI p) c d e = (x, if x = 2 then am_w K3 85 (30 * aa + p) 2 else if x = 3 then (if K2 28 (30 * aa + p) = 2 then K3 else am_w K3 85 (30 * aa + p) 3) else K3) ∧ Fm M K3 := fun M hM => by
        obtain ⟨K3, b1, b2, b3⟩ := an_m hVK hQ hf em' hm haa c d e hc' hM
        rw [hxx] at b1
        have rw' : ∀ k, 37 ≤ k → M k = lI j I E k := fun k hk => hM k (by omega) (by omega) (by omega) (by omega) (by omega)
        have hm' : ¬ s_X10_isAsking M (nI aa) (nI p) c d e = 0 := by
          rw [ak_m (K := lI j I E) (by rw [rw' 46 (by omega)]; exact hVK.2.1.2.2.2.2.2.2.2.1) (by rw [rw' 46 (by omega)]; exact hVK.2.1.2.2.2.2.2.2.2.2.2.1) (by rw [rw' 46 (by omega)]; exact hVK.2.1.2.2.2.2.2.2.2.2.2.2.2.2.1) ew' hw]
          exact hq'
        have r85 : K3 85 (30 * aa + p) = K2 28 (30 * aa + p) := by
          rw [b3.r (k := 85) (by decide) (by decide) (by decide), rw' 85 (by omega), hVK.2.1.2.2.2.2.2.2.2.2.2.2.1, a3 28 (by decide) (by decide) (by decide) (by decide)]
        refine ⟨K3, ?_, ?_, b3⟩
        · unfold p_X10_ask
          rw [if_neg hm', b1]
          simp only
          rw [nI30, c30]
          refine ⟨b2, ?_⟩
          split
          · exact v180
          · split
            · refine ⟨v180, ?_⟩
              split
              · trivial
              · exact v180
            · trivial
        · unfold s_X10_ask
          rw [if_neg hm', b1]
          simp only
          rw [nI30, c30, r85]
          by_cases x2 : x = 2
          · rw [if_pos x2, if_pos x2, x2]
          · rw [if_neg x2, if_neg x2]
            by_cases x3 : x = 3
            · rw [if_pos x3, if_pos x3, x3]
              by_cases h28 : K2 28 (30 * aa + p) = 2
              · rw [if_pos h28, if_pos h28]
              · rw [if_neg h28, if_neg h28]
            · rw [if_neg x3, if_neg x3]
      have hcl : ∀ (K' : am_I), (if x = 2 then K' = (if K2 28 (30 * aa + p) = 2 then K2 else am_w K2 28 (30 * aa + p) 2) else if x = 3 then K' = (if K2 28 (30 * aa + p) = 2 then K2 else am_w K2 28 (30 * aa + p) 3) else K' = K2) → s_X9_ask f (lI j I E) (lQ j Q) (nI aa) (nI p) c d e = (x, K') ∧ p_X9_ask f (lI j I E) (lQ j Q) (nI aa) (nI p) c d e := fun K' hK => by
        unfold s_X9_ask p_X9_ask
        rw [if_neg hq', if_neg hq', a1]
        simp only
        by_cases x2 : x = 2
        · rw [if_pos x2] at hK
          simp only [if_pos x2]
          rw [(hear (Or.inl x2)).1, hK]
          refine ⟨?_, a2, (hear (Or.inl x2)).2⟩
          rw [x2]
        · rw [if_neg x2] at hK
          simp only [if_neg x2]
          by_cases x3 : x = 3
          · rw [if_pos x3] at hK
            simp only [if_pos x3]
            rw [(hear (Or.inr x3)).1, hK]
            refine ⟨?_, a2, (hear (Or.inr x3)).2⟩
            rw [x3]
          · rw [if_neg x3] at hK
            simp only [if_neg x3]
            rw [hK]
            exact ⟨rfl, a2, trivial⟩
      -- both together
      have fz2 : Fz (lI j I E) K2 := fun k h5 h6 h7 h8 _ => a3 k h5 h6 h7 h8
      have fzw : ∀ v, Fz (lI j I E) (am_w K2 28 (30 * aa + p) v) := fun v k h5 h6 h7 h8 h28 => by rw [aw_k h28]; exact a3 k h5 h6 h7 h8
      have done : ∀ (K' K3 K4 : am_I), s_X9_ask f (lI j I E) (lQ j Q) (nI aa) (nI p) c d e = (x, K') ∧ p_X9_ask f (lI j I E) (lQ j Q) (nI aa) (nI p) c d e → p_X10_ask f K' (nI aa) (nI p) c d e → s_X10_ask f K' (nI aa) (nI p) c d e = (x, K4) → (∀ k, 38 ≤ k → k < 46 → K4 k = lI j I E k) → VV nc K4 J Q E → ∃ (j : Nat) (x : Int32) (I1 I2 : am_I), j < nc ∧ p_X9_ask f (lI j I E) (lQ j Q) (nI aa) (nI p) c d e ∧ s_X9_ask f (lI j I E) (lQ j Q) (nI aa) (nI p) c d e = (x, I1) ∧ p_X10_ask f I1 (nI aa) (nI p) c d e ∧ s_X10_ask f I1 (nI aa) (nI p) c d e = (x, I2) ∧ (∀ k, 38 ≤ k → k < 46 → I2 k = lI j I E k) ∧ VV nc I2 J Q E := fun K' K3 K4 h1 h2 h3 h4 h5 => ⟨j, x, K', K4, hj, h1.2, h1.1, h2, h3, h4, h5⟩
      have e85 : K2 85 = K2 28 := hV2.2.1.2.2.2.2.2.2.2.2.2.2.1
      -- the class wrote v, and so did the reference
      have wrote : ∀ (v : Int32) (K3 : am_I), Fm (am_w K2 28 (30 * aa + p) v) K3 → VV nc (am_w K3 85 (30 * aa + p) v) J Q E ∧ ∀ k, 38 ≤ k → k < 46 → am_w K3 85 (30 * aa + p) v k = lI j I E k := fun v K3 h3 => by
        have r85 : K3 85 = K2 28 := by rw [h3.r (k := 85) (by decide) (by decide) (by decide), aw_k (by decide), e85]
        refine ⟨(hV2.hear (va_up (K2 28) (30 * aa + p) v)).ag (fun k a' hs => ?_), fun k k1 k2 => ?_⟩
        · by_cases hk85 : k = 85
          · subst hk85
            show va_up (K3 85) _ v a' = va_up (K2 28) _ v a'
            rw [r85]
          · rw [aw_k hk85, h3 k a' (fun h => by subst h; cases hs) (fun h => by subst h; cases hs) (fun h => by rw [h.1, h.2] at hs; cases hs), va_ne hk85]
            by_cases hk28 : k = 28
            · subst hk28
              rw [va_eq]
              show va_up K2 28 _ 28 a' = _
              rw [va_eq]
            · rw [va_ne hk28, aw_k hk28]
        · rw [aw_k (by omega), h3.r (by omega) (by omega) (by omega), aw_k (by omega), a3 k (by omega) (by omega) (by omega) (by omega)]
      have quiet : ∀ (K3 : am_I), Fm K2 K3 → VV nc K3 J Q E ∧ ∀ k, 38 ≤ k → k < 46 → K3 k = lI j I E k := fun K3 h3 => ⟨hV2.ag h3.ag, fun k k1 k2 => by rw [h3.r (by omega) (by omega) (by omega), a3 k (by omega) (by omega) (by omega) (by omega)]⟩
      by_cases x2 : x = 2
      · by_cases h28 : K2 28 (30 * aa + p) = 2
        · obtain ⟨K3, c1, c2, c3⟩ := ref K2 fz2
          rw [if_pos x2] at c2
          have e2 : am_w K3 85 (30 * aa + p) 2 = K3 := by
            have r85 : K3 85 (30 * aa + p) = 2 := by rw [c3.r (k := 85) (by decide) (by decide) (by decide), e85]; exact h28
            unfold am_w
            rw [va_id r85]
            funext k
            unfold va_up
            split
            · next hk => rw [hk]
            · rfl
          rw [e2] at c2
          exact done K2 K3 K3 (hcl K2 (by rw [if_pos x2, if_pos h28])) c1 c2 (quiet K3 c3).2 (quiet K3 c3).1
        · obtain ⟨K3, c1, c2, c3⟩ := ref (am_w K2 28 (30 * aa + p) 2) (fzw 2)
          rw [if_pos x2] at c2
          exact done _ K3 _ (hcl _ (by rw [if_pos x2, if_neg h28])) c1 c2 (wrote 2 K3 c3).2 (wrote 2 K3 c3).1
      · by_cases x3 : x = 3
        · by_cases h28 : K2 28 (30 * aa + p) = 2
          · obtain ⟨K3, c1, c2, c3⟩ := ref K2 fz2
            rw [if_neg x2, if_pos x3, if_pos h28] at c2
            exact done K2 K3 K3 (hcl K2 (by rw [if_neg x2, if_pos x3, if_pos h28])) c1 c2 (quiet K3 c3).2 (quiet K3 c3).1
          · obtain ⟨K3, c1, c2, c3⟩ := ref (am_w K2 28 (30 * aa + p) 3) (fzw 3)
            rw [if_neg x2, if_pos x3, if_neg h28] at c2
            exact done _ K3 _ (hcl _ (by rw [if_neg x2, if_pos x3, if_neg h28])) c1 c2 (wrote 3 K3 c3).2 (wrote 3 K3 c3).1
        · obtain ⟨K3, c1, c2, c3⟩ := ref K2 fz2
          rw [if_neg x2, if_neg x3] at c2
          exact done K2 K3 K3 (hcl K2 (by rw [if_neg x2, if_neg x3])) c1 c2 (quiet K3 c3).2 (quiet K3 c3).1)
