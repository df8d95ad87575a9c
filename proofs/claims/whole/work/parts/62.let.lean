/-! ===== let, mask ===== -/
theorem QX.mv {K K' : am_I} {Q : am_Q} {n p t s tp g R L S : Nat} {rb lb md : Nat → Nat} (hQ : QX K Q n p t s tp g R L S rb lb md) (h : ∀ k, (k = 9 ∨ k = 13 ∨ k = 15 ∨ k = 16 ∨ k = 19 ∨ k = 22 ∨ (54 ≤ k ∧ k ≤ 66)) → K' k = K k) (hc : cfo K' = cfo K) : QX K' Q n p t s tp g R L S rb lb md := by
  obtain ⟨q1, q2, q3, q4, q5, q6, q7, q8, q9, q10, q11, q12, q13⟩ := hQ
  unfold QX
  rw [h 9 (by omega), h 13 (by omega), h 15 (by omega), h 16 (by omega), h 19 (by omega), h 22 (by omega), h 54 (by omega), hc]
  exact ⟨q1, q2, q3, q4, q5, q6, q7, q8, q9, q10, q11, q12, q13.mx (fun k k1 k2 => h k (by omega))⟩
theorem QX.fp {K K' : am_I} {Q : am_Q} {n p t s tp g R L S : Nat} {rb lb md : Nat → Nat} (hQ : QX K Q n p t s tp g R L S rb lb md) (h : Fp K K') : QX K' Q n p t s tp g R L S rb lb md := hQ.mv (fun k hk => h k (by omega) (by omega) (by omega) (by omega)) h.c
theorem QX.fm {K K' : am_I} {Q : am_Q} {n p t s tp g R L S : Nat} {rb lb md : Nat → Nat} (hQ : QX K Q n p t s tp g R L S rb lb md) (h : Fm K K') : QX K' Q n p t s tp g R L S rb lb md := by
  obtain ⟨q1, q2, q3, q4, q5, q6, q7, q8, q9, q10, q11, q12, q13⟩ := hQ
  have hc : ∀ i, i < 8 → cfo K' i = cfo K i := fun i hi => h.r (by omega) (by omega) (by omega)
  have h' : ∀ k, (k = 9 ∨ k = 13 ∨ k = 15 ∨ k = 16 ∨ k = 19 ∨ k = 22 ∨ (54 ≤ k ∧ k ≤ 66)) → K' k = K k := fun k hk => h.r (by omega) (by omega) (by omega)
  unfold QX
  rw [h' 9 (by omega), h' 13 (by omega), h' 15 (by omega), h' 16 (by omega), h' 19 (by omega), h' 22 (by omega), h' 54 (by omega)]
  refine ⟨q1, q2, q3, q4, q5, q6, q7, q8, q9, q10, q11, q12, CX.mx (fun k k1 k2 => h' k (by omega)) ?_⟩
  unfold CX cRu cLi at q13 ⊢
  rw [hc 0 (by omega), hc 1 (by omega), hc 2 (by omega), hc 3 (by omega), hc 4 (by omega), hc 5 (by omega), hc 6 (by omega), hc 7 (by omega)]
  exact q13
theorem QR.fp {K K' : am_I} (hR : QR K) (h : Fp K K') : QR K' := by
  unfold QR at hR ⊢
  rw [h 74 (by decide) (by decide) (by decide) (by decide), h 19 (by decide) (by decide) (by decide) (by decide), h 71 (by decide) (by decide) (by decide) (by decide), h 16 (by decide) (by decide) (by decide) (by decide), h 72 (by decide) (by decide) (by decide) (by decide), h 17 (by decide) (by decide) (by decide) (by decide), h 69 (by decide) (by decide) (by decide) (by decide), h 11 (by decide) (by decide) (by decide) (by decide), h 77 (by decide) (by decide) (by decide) (by decide), h 22 (by decide) (by decide) (by decide) (by decide), h 70 (by decide) (by decide) (by decide) (by decide), h 14 (by decide) (by decide) (by decide) (by decide), h 78 (by decide) (by decide) (by decide) (by decide), h 23 (by decide) (by decide) (by decide) (by decide)]
  exact hR
theorem QR.fm {K K' : am_I} (hR : QR K) (h : Fm K K') : QR K' := by
  unfold QR at hR ⊢
  rw [h.r (k := 74) (by decide) (by decide) (by decide), h.r (k := 19) (by decide) (by decide) (by decide), h.r (k := 71) (by decide) (by decide) (by decide), h.r (k := 16) (by decide) (by decide) (by decide), h.r (k := 72) (by decide) (by decide) (by decide), h.r (k := 17) (by decide) (by decide) (by decide), h.r (k := 69) (by decide) (by decide) (by decide), h.r (k := 11) (by decide) (by decide) (by decide), h.r (k := 77) (by decide) (by decide) (by decide), h.r (k := 22) (by decide) (by decide) (by decide), h.r (k := 70) (by decide) (by decide) (by decide), h.r (k := 14) (by decide) (by decide) (by decide), h.r (k := 78) (by decide) (by decide) (by decide), h.r (k := 23) (by decide) (by decide) (by decide)]
  exact hR
/-- the variables, and what the rules say -/
def qvv (K : am_I) (p t s : Nat) (day kind use : Int32) : Nat → Int32 := vvf (K 17 t) (K 11 s) p (K 23 p) (nI s) day kind use
def qle (K : am_I) (p t s tp R : Nat) (rb lb md : Nat → Nat) (day kind use : Int32) : Int32 := leV (cfo K 1) (rhB (cfo K) rb (ltB (cfo K) lb md (qvv K p t s day kind use) (K 14 tp))) R 0
def qma (K : am_I) (p t s tp R : Nat) (rb lb md : Nat → Nat) (day kind use : Int32) : Int32 := maV (cfo K 1) (rhB (cfo K) rb (ltB (cfo K) lb md (qvv K p t s day kind use) (K 14 tp))) R 0
theorem lt_c {K : am_I} {Q : am_Q} {n p t s tp g R L S f : Nat} {rb lb md : Nat → Nat} (hQ : QX K Q n p t s tp g R L S rb lb md) (day kind use : Int32) (hf : 1000 ≤ f) : ∃ K1, s_X9_pose f K Q (nI p) day kind use = K1 ∧ p_X9_pose f K Q (nI p) day kind use ∧ Fp K K1 ∧ ES (cfo K) L (ltB (cfo K) lb md (qvv K p t s day kind use) (K 14 tp)) (qvv K p t s day kind use) (K 14 tp) K1 ∧ K1 5 5 = K 17 t ∧ K1 5 6 = K 11 s := by
  obtain ⟨K1, a1, a2, a3, a4, a5, a6, a7, a8⟩ := po_c hQ day kind use hf
  have hL := hQ.2.2.2.2.2.2.2.2.2.2.2.2.2.1
  exact ⟨K1, a1, a2, a8, ⟨a8.c, a3, a4, fun l hl _ => Or.inl (a7 l (by omega))⟩, a5, a6⟩
theorem le_C {K K1 : am_I} {Q : am_Q} {n p t s tp g R L S f : Nat} {rb lb md : Nat → Nat} {vv : Nat → Int32} {tl : Int32} (hQ : QX K Q n p t s tp g R L S rb lb md) (hf : 1000 ≤ f) (hE : ES (cfo K) L (ltB (cfo K) lb md vv tl) vv tl K1) : (∃ K2, s_X1_letBy f K1 = (leV (cfo K 1) (rhB (cfo K) rb (ltB (cfo K) lb md vv tl)) R 0, K2) ∧ p_X1_letBy f K1 ∧ Fq K1 K2 ∧ ES (cfo K) L (ltB (cfo K) lb md vv tl) vv tl K2) ∧ ∃ K2, s_X1_maskedBy f K1 = (maV (cfo K 1) (rhB (cfo K) rb (ltB (cfo K) lb md vv tl)) R 0, K2) ∧ p_X1_maskedBy f K1 ∧ Fq K1 K2 ∧ ES (cfo K) L (ltB (cfo K) lb md vv tl) vv tl K2 := by
  have hX := hQ.2.2.2.2.2.2.2.2.2.2.2.2
  have hR := hX.1
  exact le_c hX hf R 0 (by omega) K1 f hE (by omega)
theorem le_M {K : am_I} {Q : am_Q} {n p t s tp g R L S f : Nat} {rb lb md : Nat → Nat} (hQ : QX K Q n p t s tp g R L S rb lb md) (hR : QR K) (day kind use : Int32) (hf : 1000 ≤ f) : (∃ K2, s_X10_letBy f K (nI p) day kind use = (qle K p t s tp R rb lb md day kind use, K2) ∧ p_X10_letBy f K (nI p) day kind use ∧ Fm K K2) ∧ (¬ K 23 p = -1 → ∃ K2, s_X10_maskBy f K (nI p) day kind use = (qma K p t s tp R rb lb md day kind use, K2) ∧ p_X10_maskBy f K (nI p) day kind use ∧ Fm K K2) := by
  obtain ⟨A, a1, a2, a3, a4, a5⟩ := as_m hQ hR day kind use
  obtain ⟨q1, q2, q3, q4, ⟨tn, q5, q6, q7⟩, q8, ⟨np, q9, q10, q11⟩, q12, ⟨tk, q13, q14, q15⟩, q16, q17, ⟨lv, q18, q19⟩, hX⟩ := hQ
  have hR16 := hX.1
  have hXA : CX (cfo K) A g R L S rb lb md := hX.mx (fun k k1 k2 => a5.r (by omega) (by omega) (by omega))
  have cp := nI_clamp (n := p) (by omega)
  have ct := nI_clamp (n := t) (by omega)
  have cs := nI_clamp (n := s) (by omega)
  have w74 : A 74 p = nI t := by rw [a5.r (k := 74) (by decide) (by decide) (by decide), hR.1]; exact q4
  have w71 : A 71 t = nI s := by rw [a5.r (k := 71) (by decide) (by decide) (by decide), hR.2.1]; exact q8
  have w54 : A 54 s = nI lv := by rw [a5.r (k := 54) (by decide) (by decide) (by decide)]; exact q19
  have hgn : 2 * nI s + nI lv = nI g := by
    show nI 2 * nI s + nI lv = _
    rw [pk_mul, nI_add, q18]
  have v30 : vp_in (nI p) 30 := vp_in_nI (by omega) (by omega)
  have v6 : vp_in (nI t) 6 := vp_in_nI (by omega) (by omega)
  have v12 : vp_in (nI s) 12 := vp_in_nI (by omega) (by omega)
  have hEM : EM A (qvv K p t s day kind use) (K 14 tp) A := ⟨Fr.rf, a3, a4⟩
  obtain ⟨⟨B, b1, b2, b3⟩, C, c1, c2, c3⟩ := le_m (a1 := nI p) (a2 := day) (a3 := kind) (a4 := use) hXA q17 hf R 0 (by omega) A f hEM (by omega)
  have tm : ∀ K', Fr 84 A K' → Fm K K' := fun K' h => a5.tr (fun k a h0 h1 h2 => by rw [h k h1])
  rw [nI_0] at b1 b2 c1 c2
  refine ⟨⟨B, ?_, ?_, tm B b3.1⟩, fun hn => ⟨C, ?_, ?_, tm C c3.1⟩⟩
  · unfold s_X10_letBy
    rw [a1, cp, w74, ct, w71, cs, w54, hgn]
    exact b1
  · unfold p_X10_letBy
    rw [a1, cp, w74, ct, w71, cs, w54, hgn]
    exact ⟨a2, v30, v6, v12, b2⟩
  · unfold s_X10_maskBy
    have h78 : ¬ K 78 p = -1 := by rw [hR.2.2.2.2.2.2]; exact hn
    rw [cp, if_neg h78, a1, w74, ct, w71, cs, w54, hgn]
    exact c1
  · unfold p_X10_maskBy
    have h78 : ¬ K 78 p = -1 := by rw [hR.2.2.2.2.2.2]; exact hn
    rw [cp, if_neg h78, a1, w74, ct, w71, cs, w54, hgn]
    exact ⟨v30, a2, v30, v6, v12, c2⟩
/-- the same question, another state -/
theorem q_eq {K K' : am_I} (h : ∀ k, (k = 11 ∨ k = 14 ∨ k = 17 ∨ k = 23) → K' k = K k) (hc : cfo K' = cfo K) {p t s tp R : Nat} {rb lb md : Nat → Nat} {day kind use : Int32} : qle K' p t s tp R rb lb md day kind use = qle K p t s tp R rb lb md day kind use ∧ qma K' p t s tp R rb lb md day kind use = qma K p t s tp R rb lb md day kind use := by
  unfold qle qma qvv
  rw [h 11 (by omega), h 14 (by omega), h 17 (by omega), h 23 (by omega), hc]
  exact ⟨rfl, rfl⟩
theorem q_fp {K K' : am_I} (h : Fp K K') {p t s tp R : Nat} {rb lb md : Nat → Nat} {day kind use : Int32} : qle K' p t s tp R rb lb md day kind use = qle K p t s tp R rb lb md day kind use ∧ qma K' p t s tp R rb lb md day kind use = qma K p t s tp R rb lb md day kind use := q_eq (fun k hk => h k (by omega) (by omega) (by omega) (by omega)) h.c
theorem cfo_fm {K K' : am_I} (h : Fm K K') {i : Nat} (hi : i < 8) : cfo K' i = cfo K i := h.r (by omega) (by omega) (by omega)
/-- validity of a question does not hang on the focus -/
theorem isQ_l {j : Nat} {I : am_I} {E : Nat → am_I} {a b c d : Int32} : s_X9_isQuestion (lI j I E) a b c d = s_X9_isQuestion I a b c d := by
  unfold s_X9_isQuestion s_X4_has
  rw [lI_out (by omega)]
theorem isQ_m {K : am_I} (e : K 46 44 = K 15 11) {a b c d : Int32} : s_X10_isAsked K a b c d = s_X9_isQuestion K a b c d := by
  have e0 : s_X10_isPiece K a = s_X4_has K a := by show s_X9_isBelow a (K 46 44) = s_X9_isBelow a (K 15 11); rw [e]
  unfold s_X10_isAsked s_X9_isQuestion
  rw [e0]
  rfl
theorem isQ_p {I : am_I} {n : Nat} (en : I 15 11 = nI n) (hn : n ≤ 30) {a b c d : Int32} (h : ¬ s_X9_isQuestion I a b c d = 0) : ∃ p, p < n ∧ a = nI p := by
  unfold s_X9_isQuestion at h
  by_cases h1 : s_X4_has I a = 0
  · rw [if_pos h1] at h; exact absurd rfl h
  · exact isB_of h1 en (by omega)
theorem sp_let (a b c d : Int32) : LStp VV MX9_let MX10_let 6 4 0 0 [.int a, .int b, .int c, .int d] := by
  obtain ⟨f, hf⟩ : ∃ f : Nat, 1000 ≤ f := ⟨1000, Nat.le_refl _⟩
  exact st_q (pc := fun I Q => p_X9_let f I Q a b c d) (pm := fun I => p_X10_let f I a b c d) (fun I Q => s_X9_let f I Q a b c d) (fun I => s_X10_let f I a b c d) (fun I J Q hG h => ct_X9_let f I J Q hG a b c d h) (fun I J Q hG h => ct_X10_let f I J Q hG a b c d h) (fun nc I J Q E hV => by
    obtain ⟨n, hn, en⟩ := v_nI (m := 30) hV.2.2.1.2.2.2.2.1
    by_cases hq : s_X9_isQuestion I a b c d = 0
    · have hVK := hV.ag (ag_lI (j := 0) (E := E))
      have hq' : s_X9_isQuestion (lI 0 I E) a b c d = 0 := by rw [isQ_l]; exact hq
      have hm' : s_X10_isAsked (lI 0 I E) a b c d = 0 := by rw [isQ_m hVK.2.1.2.2.2.2.2.2.2.1]; exact hq'
      refine ⟨0, -1, lI 0 I E, lI 0 I E, hV.p0, ?_, ?_, ?_, ?_, fun _ _ _ => rfl, hVK⟩
      · unfold p_X9_let; rw [if_pos hq']; trivial
      · unfold s_X9_let; rw [if_pos hq']
      · unfold p_X10_let; rw [if_pos hm']; trivial
      · unfold s_X10_let; rw [if_pos hm']
    · obtain ⟨p, hp, rfl⟩ := isQ_p en hn hq
      obtain ⟨j, t, s, tp, g, R, L, S, rb, lb, md, hj, hQ, -⟩ := qx_of hV en hn hp
      have hVK := hV.ag (ag_lI (j := j) (E := E))
      have hq' : ¬ s_X9_isQuestion (lI j I E) (nI p) b c d = 0 := by rw [isQ_l]; exact hq
      obtain ⟨K1, a1, a2, a3, a4, -⟩ := lt_c hQ b c d hf
      obtain ⟨⟨K2, b1, b2, b3, b4⟩, -⟩ := le_C hQ hf a4
      have hF : Fp (lI j I E) K2 := a3.tr b3.p
      have hV2 := hVK.ag hF.ag
      obtain ⟨⟨K3, c1, c2, c3⟩, -⟩ := le_M (hQ.fp hF) hV2.qr b c d hf
      have hm' : ¬ s_X10_isAsked K2 (nI p) b c d = 0 := by
        rw [isQ_m hV2.2.1.2.2.2.2.2.2.2.1]
        unfold s_X9_isQuestion s_X4_has at hq' ⊢
        rw [hF 15 (by decide) (by decide) (by decide) (by decide)]
        exact hq'
      rw [(q_fp hF).1] at c1
      refine ⟨j, qle (lI j I E) p t s tp R rb lb md b c d, K2, K3, hj, ?_, ?_, ?_, ?_, fun k k1 k2 => ?_, hV2.ag c3.ag⟩
      · unfold p_X9_let; rw [if_neg hq', a1]; exact ⟨a2, b2⟩
      · unfold s_X9_let; rw [if_neg hq', a1, b1]; rfl
      · unfold p_X10_let; rw [if_neg hm']; exact c2
      · unfold s_X10_let; rw [if_neg hm', c1]
      · rw [c3.r (by omega) (by omega) (by omega), hF k (by omega) (by omega) (by omega) (by omega)])
theorem sp_mask (a b c d : Int32) : LStp VV MX9_mask MX10_mask 6 4 0 0 [.int a, .int b, .int c, .int d] := by
  obtain ⟨f, hf⟩ : ∃ f : Nat, 1000 ≤ f := ⟨1000, Nat.le_refl _⟩
  exact st_q (pc := fun I Q => p_X9_mask f I Q a b c d) (pm := fun I => p_X10_mask f I a b c d) (fun I Q => s_X9_mask f I Q a b c d) (fun I => s_X10_mask f I a b c d) (fun I J Q hG h => ct_X9_mask f I J Q hG a b c d h) (fun I J Q hG h => ct_X10_mask f I J Q hG a b c d h) (fun nc I J Q E hV => by
    obtain ⟨n, hn, en⟩ := v_nI (m := 30) hV.2.2.1.2.2.2.2.1
    by_cases hq : s_X9_isQuestion I a b c d = 0
    · have hVK := hV.ag (ag_lI (j := 0) (E := E))
      have hq' : s_X9_isQuestion (lI 0 I E) a b c d = 0 := by rw [isQ_l]; exact hq
      have hm' : s_X10_isAsked (lI 0 I E) a b c d = 0 := by rw [isQ_m hVK.2.1.2.2.2.2.2.2.2.1]; exact hq'
      refine ⟨0, -1, lI 0 I E, lI 0 I E, hV.p0, ?_, ?_, ?_, ?_, fun _ _ _ => rfl, hVK⟩
      · unfold p_X9_mask; rw [if_pos hq']; trivial
      · unfold s_X9_mask; rw [if_pos hq']
      · unfold p_X10_mask; rw [if_pos hm']; trivial
      · unfold s_X10_mask; rw [if_pos hm']
    · obtain ⟨p, hp, rfl⟩ := isQ_p en hn hq
      obtain ⟨j, t, s, tp, g, R, L, S, rb, lb, md, hj, hQ, -⟩ := qx_of hV en hn hp
      have hVK := hV.ag (ag_lI (j := j) (E := E))
      have hq' : ¬ s_X9_isQuestion (lI j I E) (nI p) b c d = 0 := by rw [isQ_l]; exact hq
      have cp := nI_clamp (n := p) (by omega)
      have v30 : vp_in (nI p) 30 := vp_in_nI (by omega) (by omega)
      by_cases hnm : lI j I E 23 p = -1
      · have hm' : ¬ s_X10_isAsked (lI j I E) (nI p) b c d = 0 := by rw [isQ_m hVK.2.1.2.2.2.2.2.2.2.1]; exact hq'
        have h78 : lI j I E 78 p = -1 := by rw [hVK.qr.2.2.2.2.2.2]; exact hnm
        refine ⟨j, -1, lI j I E, lI j I E, hj, ?_, ?_, ?_, ?_, fun _ _ _ => rfl, hVK⟩
        · unfold p_X9_mask; rw [if_neg hq', cp, if_pos hnm]; exact ⟨v30, trivial⟩
        · unfold s_X9_mask; rw [if_neg hq', cp, if_pos hnm]
        · unfold p_X10_mask p_X10_maskBy; rw [if_neg hm', cp, if_pos h78]; exact ⟨v30, trivial⟩
        · unfold s_X10_mask s_X10_maskBy; rw [if_neg hm', cp, if_pos h78]
      · obtain ⟨K1, a1, a2, a3, a4, -⟩ := lt_c hQ b c d hf
        obtain ⟨-, ⟨K2, b1, b2, b3, b4⟩⟩ := le_C hQ hf a4
        have hF : Fp (lI j I E) K2 := a3.tr b3.p
        have hV2 := hVK.ag hF.ag
        have hnm2 : ¬ K2 23 p = -1 := by rw [hF 23 (by decide) (by decide) (by decide) (by decide)]; exact hnm
        obtain ⟨K3, c1, c2, c3⟩ := (le_M (hQ.fp hF) hV2.qr b c d hf).2 hnm2
        have hm' : ¬ s_X10_isAsked K2 (nI p) b c d = 0 := by
          rw [isQ_m hV2.2.1.2.2.2.2.2.2.2.1]
          unfold s_X9_isQuestion s_X4_has at hq' ⊢
          rw [hF 15 (by decide) (by decide) (by decide) (by decide)]
          exact hq'
        rw [(q_fp hF).2] at c1
        refine ⟨j, qma (lI j I E) p t s tp R rb lb md b c d, K2, K3, hj, ?_, ?_, ?_, ?_, fun k k1 k2 => ?_, hV2.ag c3.ag⟩
        · unfold p_X9_mask; rw [if_neg hq', cp, if_neg hnm, a1]; exact ⟨v30, a2, b2⟩
        · unfold s_X9_mask; rw [if_neg hq', cp, if_neg hnm, a1, b1]; rfl
        · unfold p_X10_mask; rw [if_neg hm']; exact c2
        · unfold s_X10_mask; rw [if_neg hm', c1]
        · rw [c3.r (by omega) (by omega) (by omega), hF k (by omega) (by omega) (by omega) (by omega)])
