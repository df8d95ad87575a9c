/-! ===== a question is posed ===== -/
theorem st_q {yc ym : am_MD} {dc dm : Nat} {As : List Value} {pc : am_I → am_Q → Prop} {pm : am_I → Prop} (sc : am_I → am_Q → Int32 × am_I) (sm : am_I → Int32 × am_I) (hc : ∀ I J Q, Gr Q → pc I Q → Cm yc dc 0 0 92 (.ref 0 :: As) I J Q (am_FiI J Q (sc I Q))) (hm : ∀ I J Q, Gr Q → pm I → Cm ym dm 0 0 92 (.ref 46 :: As) I J Q (am_FiI J Q (sm I)))
    (h : ∀ nc I J Q E, VV nc I J Q E → ∃ (j : Nat) (x : Int32) (I1 I2 : am_I), j < nc ∧ pc (lI j I E) (lQ j Q) ∧ sc (lI j I E) (lQ j Q) = (x, I1) ∧ pm I1 ∧ sm I1 = (x, I2) ∧ (∀ k, 38 ≤ k → k < 46 → I2 k = lI j I E k) ∧ VV nc I2 J Q E) : LStp VV yc ym dc dm 0 0 As := by
  intro nc I J Q E hV
  obtain ⟨j, x, I1, I2, hj, h1, h2, h3, h4, h5, h6⟩ := h nc I J Q E hV
  have hG := hV.2.2.2.2.2.2.1.1 j
  have a1 := hc _ J (lQ j Q) hG h1
  have a2 := hm I1 J (lQ j Q) hG h3
  rw [h2] at a1
  rw [h4] at a2
  refine ⟨j, x, I1, J, Q, hj, a1, hV.2.2.2.2.2.2.1.2, j, I2, J, hj, ?_, ?_⟩
  · rw [l_back]
    exact a2
  · rw [l_twice]
    exact h6.ex (l_keep h5)
theorem VV.p0 {nc : Nat} {I : am_I} {J : am_J} {Q : am_Q} {E : Nat → am_I} (hV : VV nc I J Q E) : 0 < nc := by
  obtain ⟨-, -, -, -, -, ⟨np, σ, c1, c2, c3, -⟩, -⟩ := hV
  omega
set_option maxHeartbeats 4000000 in
theorem CR.mx {c M M' : am_I} {g : Nat} (h : ∀ k, 55 ≤ k → k ≤ 66 → M' k = M k) (hC : CR c M g) : CR c M' g := by
  have h55 := h 55 (by decide) (by decide)
  have h56 := h 56 (by decide) (by decide)
  have h57 := h 57 (by decide) (by decide)
  have h58 := h 58 (by decide) (by decide)
  have h60 := h 60 (by decide) (by decide)
  have h61 := h 61 (by decide) (by decide)
  have h62 := h 62 (by decide) (by decide)
  have h63 := h 63 (by decide) (by decide)
  have h64 := h 64 (by decide) (by decide)
  have h65 := h 65 (by decide) (by decide)
  have h66 := h 66 (by decide) (by decide)
  unfold CR cRu cLi at hC ⊢
  simp only [h55, h56, h57, h58, h60, h61, h62, h63, h64, h65, h66]
  exact hC
set_option maxHeartbeats 4000000 in
theorem CX.mx {c M M' : am_I} {g R L S : Nat} {rb lb md : Nat → Nat} (h : ∀ k, 55 ≤ k → k ≤ 66 → M' k = M k) (hC : CX c M g R L S rb lb md) : CX c M' g R L S rb lb md := by
  have h55 := h 55 (by decide) (by decide)
  have h56 := h 56 (by decide) (by decide)
  have h57 := h 57 (by decide) (by decide)
  have h58 := h 58 (by decide) (by decide)
  have h60 := h 60 (by decide) (by decide)
  have h61 := h 61 (by decide) (by decide)
  have h62 := h 62 (by decide) (by decide)
  have h63 := h 63 (by decide) (by decide)
  have h64 := h 64 (by decide) (by decide)
  have h65 := h 65 (by decide) (by decide)
  have h66 := h 66 (by decide) (by decide)
  unfold CX cRu cLi at hC ⊢
  simp only [h55, h56, h57, h58, h60, h61, h62, h63, h64, h65, h66]
  exact hC
/-- where a piece's question leads -/
def QX (K : am_I) (Q : am_Q) (n p t s tp g R L S : Nat) (rb lb md : Nat → Nat) : Prop := K 15 11 = nI n ∧ p < n ∧ n ≤ 30 ∧ K 19 p = nI t ∧ (∃ tn, K 15 3 = nI tn ∧ t < tn ∧ tn ≤ 6) ∧ K 16 t = nI s ∧ (∃ np, K 9 3 = nI np ∧ s < np ∧ np ≤ 12) ∧ K 22 p = nI tp ∧ (∃ tk, K 13 1 = nI tk ∧ tp < tk ∧ tk ≤ 12) ∧ Q 12 s = some 38 ∧ g < 24 ∧ (∃ lv, g = 2 * s + lv ∧ K 54 s = nI lv) ∧ CX (cfo K) K g R L S rb lb md
def CM (c : am_I) (R : Nat) (rb : Nat → Nat) : Prop := (c 0 10 = 0 ∨ c 0 10 = 1) ∧ (c 0 10 = 0 → ∀ r, r < R → ¬ c 1 r = 2 → ∀ l, rb r ≤ l → l < rb (r + 1) → c 6 l = 0)
theorem qx_of {nc : Nat} {I : am_I} {J : am_J} {Q : am_Q} {E : Nat → am_I} (hV : VV nc I J Q E) {n p : Nat} (en : I 15 11 = nI n) (hn : n ≤ 30) (hp : p < n) : ∃ (j t s tp g R L S : Nat) (rb lb md : Nat → Nat), j < nc ∧ QX (lI j I E) (lQ j Q) n p t s tp g R L S rb lb md ∧ CM (cfo (lI j I E)) R rb := by
  have hVP := hV.2.2.2.1
  obtain ⟨tn, htn, etn⟩ := v_nI (m := 6) hV.2.2.1.2.2.2.1
  obtain ⟨tk, htk, etk⟩ := v_nI (m := 12) hV.2.2.1.2.2.1
  obtain ⟨-, -, -, -, -, ⟨np, σ, c1, c2, c3, c4, c5, c6, c7, c8⟩, -⟩ := hV
  obtain ⟨⟨a1, a2⟩, ⟨a3, a4⟩, a5⟩ := hVP.1 p (by rw [en, nI_toInt (by omega)]; omega)
  have et := ia_nI _ a1
  have ct := ia_cn a1
  have etp := ia_nI _ a3
  have ctp := ia_cn a3
  rw [etn, nI_toInt (by omega)] at a2
  rw [etk, nI_toInt (by omega)] at a4
  obtain ⟨b1, b2⟩ := hVP.2 (I 19 p).toNatClampNeg (by rw [etn, nI_toInt (by omega)]; omega)
  have es := ia_nI _ b1
  have cs := ia_cn b1
  rw [c2, nI_toInt (by omega)] at b2
  obtain ⟨d1, lv, d2, d3, d4⟩ := c7 (I 16 (I 19 p).toNatClampNeg).toNatClampNeg (by omega)
  have out : ∀ j k, ¬ (38 ≤ k ∧ k < 46) → lI j I E k = I k := fun j k h => lI_out h
  have hC : CR (cfo (lI (σ (I 16 (I 19 p).toNatClampNeg).toNatClampNeg) I E)) (lI (σ (I 16 (I 19 p).toNatClampNeg).toNatClampNeg) I E) (2 * (I 16 (I 19 p).toNatClampNeg).toNatClampNeg + lv) := by
    refine CR.mx (fun k k1 k2 => out _ k (by omega)) (CR.ex (fun i hi => ?_) d4)
    show lI _ I E (38 + i) = E _ i
    rw [lI_in (by omega), show 38 + i - 38 = i by omega]
  obtain ⟨R, L, S, rb, lb, md, e1, e2, e3, e4, e5, e6, e7, e8, e9, e10, e11, e12⟩ := hC
  refine ⟨σ (I 16 (I 19 p).toNatClampNeg).toNatClampNeg, (I 19 p).toNatClampNeg, (I 16 (I 19 p).toNatClampNeg).toNatClampNeg, (I 22 p).toNatClampNeg, 2 * (I 16 (I 19 p).toNatClampNeg).toNatClampNeg + lv, R, L, S, rb, lb, md, c4 _ (by omega), ⟨?_, hp, hn, ?_, ⟨tn, ?_, by omega, htn⟩, ?_, ⟨np, ?_, by omega, c1⟩, ?_, ⟨tk, ?_, by omega, htk⟩, ?_, by omega, ⟨lv, rfl, ?_⟩, e1, e2, e3, e4, e5, e6, e7, e8, e9, e10⟩, e11, e12⟩
  · rw [out _ 15 (by omega)]; exact en
  · rw [out _ 19 (by omega)]; exact et
  · rw [out _ 15 (by omega)]; exact etn
  · rw [out _ 16 (by omega)]; exact es
  · rw [out _ 9 (by omega)]; exact c2
  · rw [out _ 22 (by omega)]; exact etp
  · rw [out _ 13 (by omega)]; exact etk
  · rw [lQ_out (by omega)]
    show (Q 12 _).map (lqm _) = _
    rw [d1]
    show some (lqm _ _) = _
    unfold lqm
    rw [if_pos rfl]
  · rw [out _ 54 (by omega)]; exact d3
def vvf (md dd : Int32) (p : Nat) (nm sp day kind use : Int32) : Nat → Int32
  | 0 => kind
  | 1 => use
  | 2 => day - md
  | 3 => if dd = -1 then -1 else if day < dd then -1 else day - dd
  | 4 => nI p
  | 5 => nm
  | 6 => if nm = sp then 1 else 0
  | _ => 0
theorem fl_8 : ∀ d i g (I : am_I), i + d = 133 → d < g → ∃ I', s_J7_fill_031fb_8_L5 0 g (nI i) 133 I = I' ∧ p_J7_fill_031fb_8_L5 0 g (nI i) 133 I ∧ Fr 8 I I' ∧ (∀ e, i ≤ e → e < 133 → I' 8 e = 0) ∧ ∀ e, e < i → I' 8 e = I 8 e := by
  have b0 : vp_nar .byte (0 : Int32) = 0 := by decide
  intro d
  induction d with
  | zero =>
    intro i g I hi hg
    obtain ⟨g, rfl⟩ : ∃ k, g = k + 1 := ⟨g - 1, by omega⟩
    have hc : (133 : Int32) ≤ nI i := nI_le (a := 133) (by omega) (by omega)
    rw [u_s_J7_fill_031fb_8_L5, u_p_J7_fill_031fb_8_L5, if_pos hc, if_pos hc]
    exact ⟨I, rfl, trivial, Fr.rf, fun e h1 h2 => by omega, fun e _ => rfl⟩
  | succ d ih =>
    intro i g I hi hg
    obtain ⟨g, rfl⟩ : ∃ k, g = k + 1 := ⟨g - 1, by omega⟩
    have hc : ¬ (133 : Int32) ≤ nI i := nI_ge (b := 133) (by omega) (by omega)
    rw [u_s_J7_fill_031fb_8_L5, u_p_J7_fill_031fb_8_L5, if_neg hc, if_neg hc, nI_1, nI_clamp (by omega), b0]
    obtain ⟨I', a1, a2, a3, a4, a5⟩ := ih (i + 1) g (am_w I 8 i 0) (by omega) (by omega)
    refine ⟨I', a1, ⟨vp_in_nI (by omega) (by omega), a2⟩, Fr.tr (Fr.w Fr.rf) a3, fun e h1 h2 => ?_, fun e h => ?_⟩
    · by_cases he : e = i
      · subst he
        rw [a5 _ (by omega), aw_s]
      · exact a4 e (by omega) h2
    · rw [a5 _ (by omega), aw_n (by omega)]
theorem gv_d : ∀ j, j < 7 → ¬ s_X9_isVar (nI (7 + j)) = 0 ∧ nI (7 + j) - 7 = nI j := by decide +kernel
theorem gv {I : am_I} {x v : Int32} (j : Nat) (hj : j < 7) (hx : x = nI (7 + j)) : s_X3_give I x v = am_w I 6 j v ∧ p_X3_give x v := by
  obtain ⟨a1, a2⟩ := gv_d j hj
  unfold s_X3_give p_X3_give
  rw [hx, if_neg a1, if_neg a1, a2, nI_clamp (by omega)]
  exact ⟨rfl, vp_in_nI hj (by omega)⟩
/-- turning to a day -/
theorem tt_c {I : am_I} {day : Int32} : s_X3_turnTo I day = am_w (am_w I 6 2 (day - I 5 5)) 6 3 (if I 5 6 = -1 then -1 else if day < I 5 6 then -1 else day - I 5 6) ∧ p_X3_turnTo I day := by
  have g2 : ∀ v, s_X3_give I 9 v = am_w I 6 2 v ∧ p_X3_give 9 v := fun v => gv 2 (by decide) rfl
  have g3 : ∀ K v, s_X3_give K 10 v = am_w K 6 3 v ∧ p_X3_give 10 v := fun K v => gv 3 (by decide) rfl
  unfold s_X3_turnTo p_X3_turnTo
  rw [(g2 _).1, aw_k (by decide), (g3 _ _).1, (g3 _ _).1]
  refine ⟨?_, (g2 _).2, ?_⟩
  · by_cases h1 : I 5 6 = -1
    · rw [if_pos h1, if_pos h1]
    · rw [if_neg h1, if_neg h1]
      by_cases h2 : day < I 5 6
      · rw [if_pos h2, if_pos h2]
      · rw [if_neg h2, if_neg h2]
  · split
    · exact (g3 I _).2
    · split
      · exact (g3 I _).2
      · exact (g3 I _).2
def Fp (I I' : am_I) : Prop := ∀ k, k ≠ 5 → k ≠ 6 → k ≠ 7 → k ≠ 8 → I' k = I k
theorem Fp.tr {I I' I'' : am_I} (h : Fp I I') (h2 : Fp I' I'') : Fp I I'' := fun k h0 h1 h3 h4 => (h2 k h0 h1 h3 h4).trans (h k h0 h1 h3 h4)
theorem Fq.p {I I' : am_I} (h : Fq I I') : Fp I I' := fun k h0 _ h2 h3 => h.r h2 h3 h0
theorem Fp.c {I I' : am_I} (h : Fp I I') : cfo I' = cfo I := funext fun i => h _ (by omega) (by omega) (by omega) (by omega)
theorem Fp.ag {I I' : am_I} (h : Fp I I') : Ag I I' := by
  intro k a s
  rw [h k (fun c => by subst c; cases s) (fun c => by subst c; cases s) (fun c => by subst c; cases s) (fun c => by subst c; cases s)]
theorem po_c {K : am_I} {Q : am_Q} {n p t s tp g R L S f : Nat} {rb lb md : Nat → Nat} (hQ : QX K Q n p t s tp g R L S rb lb md) (day kind use : Int32) (hf : 1000 ≤ f) : ∃ K', s_X9_pose f K Q (nI p) day kind use = K' ∧ p_X9_pose f K Q (nI p) day kind use ∧ (∀ q, q < 7 → K' 6 q = vvf (K 17 t) (K 11 s) p (K 23 p) (nI s) day kind use q) ∧ K' 5 4 = K 14 tp ∧ K' 5 5 = K 17 t ∧ K' 5 6 = K 11 s ∧ (∀ l, l < 133 → K' 8 l = 0) ∧ Fp K K' := by
  obtain ⟨q1, q2, q3, q4, ⟨tn, q5, q6, q7⟩, q8, ⟨np, q9, q10, q11⟩, q12, ⟨tk, q13, q14, q15⟩, q16, -⟩ := hQ
  have v30 : vp_in (nI p) 30 := vp_in_nI (by omega) (by omega)
  have v12 : vp_in (nI s) 12 := vp_in_nI (by omega) (by omega)
  have hp : ¬ s_X4_has K (nI p) = 0 := by unfold s_X4_has; rw [q1]; exact isB_nI q2 (by omega)
  have ht : ¬ s_X9_isBelow (nI t) (nI tn) = 0 := isB_nI q6 (by omega)
  have cp := nI_clamp (n := p) (by omega)
  have ct := nI_clamp (n := t) (by omega)
  have cs := nI_clamp (n := s) (by omega)
  have ctp := nI_clamp (n := tp) (by omega)
  have sp : s_X4_speakerOf K (nI p) = nI s ∧ p_X4_speakerOf K (nI p) := by
    unfold s_X4_speakerOf p_X4_speakerOf
    rw [if_neg hp, if_neg hp, cp, q4, q5, if_neg ht, if_neg ht, ct, q8]
    exact ⟨rfl, v30, v30, vp_in_nI (by omega) (by omega)⟩
  have mo : s_X4_madeOn K (nI p) = K 17 t ∧ p_X4_madeOn K (nI p) := by
    unfold s_X4_madeOn p_X4_madeOn
    rw [if_neg hp, if_neg hp, cp, q4, q5, if_neg ht, if_neg ht, ct]
    exact ⟨rfl, v30, v30, vp_in_nI (by omega) (by omega)⟩
  have hs : ∀ I : am_I, I 9 = K 9 → ¬ s_X8_has I (nI s) = 0 := fun I h9 => by unfold s_X8_has; rw [h9, q9]; exact isB_nI q10 (by omega)
  have de : s_X8_deathOf K (nI s) = K 11 s ∧ p_X8_deathOf K (nI s) := by
    unfold s_X8_deathOf p_X8_deathOf
    rw [if_neg (hs K rfl), if_neg (hs K rfl), cs]
    exact ⟨rfl, v12⟩
  have htk : ¬ s_X7_has K (nI tp) = 0 := by unfold s_X7_has; rw [q13]; exact isB_nI q14 (by omega)
  have li : s_X7_lineOf K (nI tp) = K 14 tp ∧ p_X7_lineOf K (nI tp) := by
    unfold s_X7_lineOf p_X7_lineOf
    rw [if_neg htk, if_neg htk, ctp]
    exact ⟨rfl, vp_in_nI (by omega) (by omega)⟩
  obtain ⟨K1, a1, a2, a3, a4, -⟩ := fl_8 133 0 f K (by omega) (by omega)
  rw [nI_0] at a1 a2
  have be : s_X3_begin f K (K 17 t) (K 11 s) (K 14 tp) = am_w (am_w (am_w K1 5 5 (K 17 t)) 5 6 (K 11 s)) 5 4 (K 14 tp) ∧ p_X3_begin f K (K 17 t) (K 11 s) (K 14 tp) := by
    unfold s_X3_begin p_X3_begin s_J7_fill_031fb_8 p_J7_fill_031fb_8
    rw [a1]
    exact ⟨rfl, a2⟩
  have g0 : ∀ I v, s_X3_give I 7 v = am_w I 6 0 v ∧ p_X3_give 7 v := fun I v => gv 0 (by decide) rfl
  have g1 : ∀ I v, s_X3_give I 8 v = am_w I 6 1 v ∧ p_X3_give 8 v := fun I v => gv 1 (by decide) rfl
  have g4 : ∀ I v, s_X3_give I 11 v = am_w I 6 4 v ∧ p_X3_give 11 v := fun I v => gv 4 (by decide) rfl
  have g5 : ∀ I v, s_X3_give I 12 v = am_w I 6 5 v ∧ p_X3_give 12 v := fun I v => gv 5 (by decide) rfl
  have g6 : ∀ I v, s_X3_give I 13 v = am_w I 6 6 v ∧ p_X3_give 13 v := fun I v => gv 6 (by decide) rfl
  have e1 : ∀ I : am_I, s_X3_give (s_X3_give (s_X3_give (s_X3_give I 7 kind) 8 use) 11 (nI p)) 12 (K 23 p) = am_w (am_w (am_w (am_w I 6 0 kind) 6 1 use) 6 4 (nI p)) 6 5 (K 23 p) := fun I => by
    rw [(g0 _ _).1, (g1 _ _).1, (g4 _ _).1, (g5 _ _).1]
  unfold s_X9_pose p_X9_pose
  rw [cp, sp.1, mo.1, de.1, q12, li.1, be.1, e1]
  have J : ∀ w : Int32, (w = if K 23 p = nI s then 1 else 0) → ∃ K', s_X9_pose_J121 (nI p) day kind use Q (nI s) 13 w (am_w (am_w (am_w (am_w (am_w (am_w (am_w K1 5 5 (K 17 t)) 5 6 (K 11 s)) 5 4 (K 14 tp)) 6 0 kind) 6 1 use) 6 4 (nI p)) 6 5 (K 23 p)) = K' ∧ p_X9_pose_J121 (nI p) day kind use Q (nI s) 13 w (am_w (am_w (am_w (am_w (am_w (am_w (am_w K1 5 5 (K 17 t)) 5 6 (K 11 s)) 5 4 (K 14 tp)) 6 0 kind) 6 1 use) 6 4 (nI p)) 6 5 (K 23 p)) ∧ (∀ q, q < 7 → K' 6 q = vvf (K 17 t) (K 11 s) p (K 23 p) (nI s) day kind use q) ∧ K' 5 4 = K 14 tp ∧ K' 5 5 = K 17 t ∧ K' 5 6 = K 11 s ∧ (∀ l, l < 133 → K' 8 l = 0) ∧ Fp K K' := by
    intro w hw
    unfold s_X9_pose_J121 p_X9_pose_J121
    rw [(g6 _ _).1]
    generalize hB : am_w (am_w (am_w (am_w (am_w (am_w (am_w (am_w K1 5 5 (K 17 t)) 5 6 (K 11 s)) 5 4 (K 14 tp)) 6 0 kind) 6 1 use) 6 4 (nI p)) 6 5 (K 23 p)) 6 6 w = B
    have b54 : B 5 4 = K 14 tp := by rw [← hB]; rfl
    have b55 : B 5 5 = K 17 t := by rw [← hB]; rfl
    have b56 : B 5 6 = K 11 s := by rw [← hB]; rfl
    have b8 : B 8 = K1 8 := by rw [← hB]; rfl
    have bF : ∀ k, k ≠ 5 → k ≠ 6 → B k = K1 k := fun k h5 h6 => by
      rw [← hB, aw_k h6, aw_k h6, aw_k h6, aw_k h6, aw_k h6, aw_k h5, aw_k h5, aw_k h5]
    obtain ⟨t1, t2⟩ := tt_c (I := B) (day := day)
    rw [t1]
    refine ⟨_, rfl, ⟨(g6 K w).2, t2, ?_⟩, fun q hq => ?_, ?_, ?_, ?_, fun l hl => ?_, fun k h5 h6 h7 h8 => ?_⟩
    · unfold p_X8_consentOf
      rw [if_neg (hs _ (by rw [aw_k (by decide), aw_k (by decide), bF 9 (by decide) (by decide), a3 9 (by decide)])), cs]
      exact ⟨v12, q16⟩
    · have hq7 : q = 0 ∨ q = 1 ∨ q = 2 ∨ q = 3 ∨ q = 4 ∨ q = 5 ∨ q = 6 := by omega
      rcases hq7 with rfl | rfl | rfl | rfl | rfl | rfl | rfl
      · rw [aw_n (by decide), aw_n (by decide), ← hB]; rfl
      · rw [aw_n (by decide), aw_n (by decide), ← hB]; rfl
      · rw [aw_n (by decide), aw_s, b55]; rfl
      · rw [aw_s, b56]; rfl
      · rw [aw_n (by decide), aw_n (by decide), ← hB]; rfl
      · rw [aw_n (by decide), aw_n (by decide), ← hB]; rfl
      · rw [aw_n (by decide), aw_n (by decide), ← hB, aw_s, hw]; rfl
    · rw [aw_k (by decide), aw_k (by decide)]; exact b54
    · rw [aw_k (by decide), aw_k (by decide)]; exact b55
    · rw [aw_k (by decide), aw_k (by decide)]; exact b56
    · rw [aw_k (by decide), aw_k (by decide), b8]
      exact a4 l (by omega) hl
    · rw [aw_k h6, aw_k h6, bF k h5 h6, a3 k h8]
  by_cases hw : K 23 p = nI s
  · rw [if_pos hw, if_pos hw]
    obtain ⟨K', j1, j2, j3⟩ := J 1 (by rw [if_pos hw])
    exact ⟨K', j1, ⟨sp.2, v30, mo.2, de.2, v30, li.2, be.2, (g0 K _).2, (g1 K _).2, (g4 K _).2, (g5 K _).2, j2⟩, j3⟩
  · rw [if_neg hw, if_neg hw]
    obtain ⟨K', j1, j2, j3⟩ := J 0 (by rw [if_neg hw])
    exact ⟨K', j1, ⟨sp.2, v30, mo.2, de.2, v30, li.2, be.2, (g0 K _).2, (g1 K _).2, (g4 K _).2, (g5 K _).2, j2⟩, j3⟩
/-- the reference's question -/
def Fm (I I' : am_I) : Prop := ∀ k a, k ≠ 83 → k ≠ 84 → ¬ (k = 46 ∧ a = 59) → I' k a = I k a
theorem Fm.tr {I I' I'' : am_I} (h : Fm I I') (h2 : Fm I' I'') : Fm I I'' := fun k a h0 h1 h3 => (h2 k a h0 h1 h3).trans (h k a h0 h1 h3)
theorem Fm.r {I I' : am_I} (h : Fm I I') {k : Nat} (h0 : k ≠ 83) (h1 : k ≠ 84) (h2 : k ≠ 46) : I' k = I k := funext fun a => h k a h0 h1 (fun c => h2 c.1)
theorem Fm.ag {I I' : am_I} (h : Fm I I') : Ag I I' := by
  intro k a s
  refine h k a ?_ ?_ ?_
  · intro c; subst c; cases s
  · intro c; subst c; cases s
  · rintro ⟨rfl, rfl⟩; cases s
/-- the rows that the reference has of the pieces -/
def QR (K : am_I) : Prop := K 74 = K 19 ∧ K 71 = K 16 ∧ K 72 = K 17 ∧ K 69 = K 11 ∧ K 77 = K 22 ∧ K 70 = K 14 ∧ K 78 = K 23
theorem VV.qr {nc : Nat} {I : am_I} {J : am_J} {Q : am_Q} {E : Nat → am_I} (hV : VV nc I J Q E) : QR I := by
  obtain ⟨⟨-, -, -, -, r5, -, r7, -, r9, r10, -⟩, ⟨s1, -, -, s4, s5, -⟩, -⟩ := hV
  exact ⟨s1, r9, r10, r5, s4, r7, s5⟩
theorem as_m {K : am_I} {Q : am_Q} {n p t s tp g R L S : Nat} {rb lb md : Nat → Nat} (hQ : QX K Q n p t s tp g R L S rb lb md) (hR : QR K) (day kind use : Int32) : ∃ K', s_X10_asks K (nI p) day kind use = K' ∧ p_X10_asks K (nI p) day kind use ∧ (∀ q, q < 7 → K' 83 q = vvf (K 17 t) (K 11 s) p (K 23 p) (nI s) day kind use q) ∧ K' 46 59 = K 14 tp ∧ Fm K K' := by
  obtain ⟨q1, q2, q3, q4, ⟨tn, q5, q6, q7⟩, q8, ⟨np, q9, q10, q11⟩, q12, ⟨tk, q13, q14, q15⟩, q16, -⟩ := hQ
  obtain ⟨r1, r2, r3, r4, r5, r6, r7⟩ := hR
  have v30 : vp_in (nI p) 30 := vp_in_nI (by omega) (by omega)
  have v6 : vp_in (nI t) 6 := vp_in_nI (by omega) (by omega)
  have v12 : vp_in (nI s) 12 := vp_in_nI (by omega) (by omega)
  have v12' : vp_in (nI tp) 12 := vp_in_nI (by omega) (by omega)
  have cp := nI_clamp (n := p) (by omega)
  have ct := nI_clamp (n := t) (by omega)
  have cs := nI_clamp (n := s) (by omega)
  have ctp := nI_clamp (n := tp) (by omega)
  have c0 : (0 : Int32).toNatClampNeg = 0 := rfl
  have c1 : (1 : Int32).toNatClampNeg = 1 := rfl
  have c2 : (2 : Int32).toNatClampNeg = 2 := rfl
  have c3 : (3 : Int32).toNatClampNeg = 3 := rfl
  have c4 : (4 : Int32).toNatClampNeg = 4 := rfl
  have c5 : (5 : Int32).toNatClampNeg = 5 := rfl
  have c6 : (6 : Int32).toNatClampNeg = 6 := rfl
  have J : ∀ dv : Int32, (dv = if K 11 s = -1 then -1 else if day < K 11 s then -1 else day - K 11 s) → ∃ K', s_X10_asks_J87 (nI p) day kind use (nI s) 3 dv (am_w (am_w (am_w K 83 0 kind) 83 1 use) 83 2 (day - K 17 t)) = K' ∧ p_X10_asks_J87 (nI p) day kind use (nI s) 3 dv (am_w (am_w (am_w K 83 0 kind) 83 1 use) 83 2 (day - K 17 t)) ∧ (∀ q, q < 7 → K' 83 q = vvf (K 17 t) (K 11 s) p (K 23 p) (nI s) day kind use q) ∧ K' 46 59 = K 14 tp ∧ Fm K K' := by
    intro dv hdv
    have fin : ∀ w : Int32, (w = if K 23 p = nI s then 1 else 0) → (∀ q, q < 7 → am_w (am_w (am_w (am_w (am_w (am_w (am_w (am_w K 83 0 kind) 83 1 use) 83 2 (day - K 17 t)) 83 3 dv) 83 4 (nI p)) 83 5 (K 23 p)) 83 6 w) 46 59 (K 14 tp) 83 q = vvf (K 17 t) (K 11 s) p (K 23 p) (nI s) day kind use q) ∧ am_w (am_w (am_w (am_w (am_w (am_w (am_w (am_w K 83 0 kind) 83 1 use) 83 2 (day - K 17 t)) 83 3 dv) 83 4 (nI p)) 83 5 (K 23 p)) 83 6 w) 46 59 (K 14 tp) 46 59 = K 14 tp ∧ Fm K (am_w (am_w (am_w (am_w (am_w (am_w (am_w (am_w K 83 0 kind) 83 1 use) 83 2 (day - K 17 t)) 83 3 dv) 83 4 (nI p)) 83 5 (K 23 p)) 83 6 w) 46 59 (K 14 tp)) := fun w hw => by
      refine ⟨fun q hq => ?_, aw_s, fun k a h83 h84 h46 => ?_⟩
      · have hq7 : q = 0 ∨ q = 1 ∨ q = 2 ∨ q = 3 ∨ q = 4 ∨ q = 5 ∨ q = 6 := by omega
        rcases hq7 with rfl | rfl | rfl | rfl | rfl | rfl | rfl
        · rfl
        · rfl
        · rfl
        · show dv = _; rw [hdv]; rfl
        · rfl
        · rfl
        · show w = _; rw [hw]; rfl
      · by_cases hk : k = 46
        · subst hk
          rw [aw_n (fun c => h46 ⟨rfl, c⟩), aw_k h83, aw_k h83, aw_k h83, aw_k h83, aw_k h83, aw_k h83, aw_k h83]
        · rw [aw_k hk, aw_k h83, aw_k h83, aw_k h83, aw_k h83, aw_k h83, aw_k h83, aw_k h83]
    unfold s_X10_asks_J87 p_X10_asks_J87
    have wk : ∀ k, k ≠ 83 → am_w (am_w (am_w K 83 0 kind) 83 1 use) 83 2 (day - K 17 t) k = K k := fun k h => by rw [aw_k h, aw_k h, aw_k h]
    rw [cp, c3, c4, c5, c6, wk 78 (by decide), r7, wk 77 (by decide), r5, q12, ctp, wk 70 (by decide), r6]
    have v7 : vp_in (3 : Int32) 7 := vp_in_nI (n := 3) (by omega) (by omega)
    by_cases hw : K 23 p = nI s
    · rw [if_pos hw, if_pos hw]
      exact ⟨_, rfl, ⟨v7, v30, v30, v30, v12'⟩, fin 1 (by rw [if_pos hw])⟩
    · rw [if_neg hw, if_neg hw]
      exact ⟨_, rfl, ⟨v7, v30, v30, v30, v12'⟩, fin 0 (by rw [if_neg hw])⟩
  unfold s_X10_asks p_X10_asks
  rw [cp, r1, q4, ct, r2, q8, cs, r3, r4, c0, c1, c2]
  by_cases d1 : K 11 s = -1
  · rw [if_pos d1, if_pos d1]
    obtain ⟨K', j1, j2, j3⟩ := J (-1) (by rw [if_pos d1])
    exact ⟨K', j1, ⟨v30, v6, v30, v6, v12, j2⟩, j3⟩
  · rw [if_neg d1, if_neg d1]
    by_cases d2 : K 11 s ≤ day
    · have d2' : ¬ day < K 11 s := by rw [Int32.lt_iff_toInt_lt]; rw [Int32.le_iff_toInt_le] at d2; omega
      rw [if_pos d2, if_pos d2]
      obtain ⟨K', j1, j2, j3⟩ := J (day - K 11 s) (by rw [if_neg d1, if_neg d2'])
      exact ⟨K', j1, ⟨v30, v6, v30, v6, v12, v12, v12, j2⟩, j3⟩
    · have d2' : day < K 11 s := by rw [Int32.lt_iff_toInt_lt]; rw [Int32.le_iff_toInt_le] at d2; omega
      rw [if_neg d2, if_neg d2]
      obtain ⟨K', j1, j2, j3⟩ := J (-1) (by rw [if_neg d1, if_pos d2'])
      exact ⟨K', j1, ⟨v30, v6, v30, v6, v12, v12, j2⟩, j3⟩
