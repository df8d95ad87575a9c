/-! ===== opens ===== -/
theorem evf_cg {vv vv' r : Nat → Int32} {i : Nat} : ∀ n, (∀ j, j < n → vlv vv (r (i + j)) = vlv vv' (r (i + j))) → evf vv r i n = evf vv' r i n := by
  intro n
  induction n with
  | zero => intro _; rfl
  | succ n ih =>
    intro h
    have e := ih (fun j hj => h j (by omega))
    unfold evf
    rw [e, h n (by omega)]
theorem lt_nd {c M : am_I} {g R L S : Nat} {rb lb md : Nat → Nat} {vv vv' : Nat → Int32} {tl : Int32} (hX : CX c M g R L S rb lb md) (hv : ∀ q, q ≠ 2 → q ≠ 3 → vv q = vv' q) {l : Nat} (hl : l < L) (h6 : c 6 l = 0) : ltB c lb md vv tl l = ltB c lb md vv' tl l := by
  obtain ⟨x1, x2, x3, x4, x5, x6, x7, x8, x9, x10⟩ := hX
  obtain ⟨u1, u2, u3, u4, u5, u6, u7, u8, u9, u10⟩ := x9 l hl
  have hcell : ∀ i, lb l ≤ i → i < lb (l + 1) → vlv vv (c 7 i) = vlv vv' (c 7 i) := fun i h1 h2 => by
    have hn := u10 h6 i h1 h2
    rcases cCl_t (x10 i (by omega)) with ⟨n, m1, m2, m3, -⟩ | ⟨n, m1, m2, m3, -⟩ | ⟨n, m1, m2, m3, -⟩
    · rw [m2, vlv_i m1, vlv_i m1]
    · rw [m2] at hn
      rw [m2, vlv_v m1, vlv_v m1]
      refine hv n (fun hc => hn.1 ?_) (fun hc => hn.2 ?_)
      · rw [hc]; rfl
      · rw [hc]; rfl
    · rw [m2]
      unfold vlv
      have e : ((nI (10017 + n)).toInt - 10007).toNat = 10 + n := by rw [nI_toInt (by omega)]; omega
      rw [e, hv (10 + n) (by omega) (by omega)]
  rcases u8 with ⟨t6, -⟩ | ⟨s, hs4, ts, -, m1, m2, -⟩
  · unfold ltB
    rw [if_pos t6, if_pos t6]
  · have e1 : evf vv (c 7) (lb l) (md l - lb l) = evf vv' (c 7) (lb l) (md l - lb l) := evf_cg _ (fun j hj => hcell _ (by omega) (by omega))
    have e2 : evf vv (c 7) (md l) (lb (l + 1) - md l) = evf vv' (c 7) (md l) (lb (l + 1) - md l) := evf_cg _ (fun j hj => hcell _ (by omega) (by omega))
    unfold ltB
    rw [e1, e2]
theorem rht_cg {so lt lt' : Nat → Bool} : ∀ d l all, (∀ q, l ≤ q → q < l + d → lt q = lt' q) → rht so lt d l all = rht so lt' d l all := by
  intro d
  induction d with
  | zero => intro l all _; rfl
  | succ d ih =>
    intro l all h
    unfold rht
    rw [h l (by omega) (by omega), ih (l + 1) _ (fun q h1 h2 => h q (by omega) (by omega)), ih (l + 1) _ (fun q h1 h2 => h q (by omega) (by omega))]
theorem rhB_cg {c : am_I} {rb : Nat → Nat} {lt lt' : Nat → Bool} {r : Nat} (hr : rb r ≤ rb (r + 1)) (h : ∀ q, rb r ≤ q → q < rb (r + 1) → lt q = lt' q) : rhB c rb lt r = rhB c rb lt' r := by
  unfold rhB
  by_cases he : rb r = rb (r + 1)
  · rw [if_pos he, if_pos he]
  · rw [if_neg he, if_neg he, h (rb r) (by omega) (by omega)]
    exact rht_cg _ _ _ (fun q h1 h2 => h q (by omega) (by omega))
theorem leV_cg {hd : Nat → Int32} {rh rh' : Nat → Bool} {R : Nat} (h : ∀ r, r < R → ¬ hd r = 2 → rh r = rh' r) : ∀ d r, r + d = R → leV hd rh d r = leV hd rh' d r := by
  intro d
  induction d with
  | zero => intro r _; rfl
  | succ d ih =>
    intro r hr
    unfold leV
    rw [ih (r + 1) (by omega)]
    by_cases h2 : hd r = 2
    · rw [if_pos h2, if_pos h2]
    · rw [if_neg h2, if_neg h2, h r (by omega) h2]
def opV (le : Nat → Int32) : Nat → Nat → Int32
  | 0, _ => -1
  | d + 1, today => if le today < 0 then opV le d (today + 1) else nI today
theorem opV_cs {le : Nat → Int32} {x : Int32} (h : ∀ d, le d = x) : ∀ d today, opV le (d + 1) today = if x < 0 then -1 else nI today := by
  intro d
  induction d with
  | zero => intro today; show (if le today < 0 then _ else _) = _; rw [h]; rfl
  | succ d ih =>
    intro today
    show (if le today < 0 then opV le (d + 1) (today + 1) else _) = _
    rw [h, ih]
    by_cases hx : x < 0
    · rw [if_pos hx, if_pos hx, if_pos hx]
    · rw [if_neg hx, if_neg hx]
theorem vvf_nd {md dd : Int32} {p : Nat} {nm sp d d' k u : Int32} : ∀ q, q ≠ 2 → q ≠ 3 → vvf md dd p nm sp d k u q = vvf md dd p nm sp d' k u q := by
  intro q h2 h3
  have h : q = 0 ∨ q = 1 ∨ q = 4 ∨ q = 5 ∨ q = 6 ∨ ∃ j, q = j + 7 := by
    by_cases h7 : 7 ≤ q
    · exact Or.inr (Or.inr (Or.inr (Or.inr (Or.inr ⟨q - 7, by omega⟩))))
    · omega
  rcases h with rfl | rfl | rfl | rfl | rfl | ⟨j, rfl⟩
  · show k = k; rfl
  · show u = u; rfl
  · show nI p = nI p; rfl
  · show nm = nm; rfl
  · show (if nm = sp then (1 : Int32) else 0) = if nm = sp then 1 else 0; rfl
  · simp only [vvf]
/-- the class turns to another day -/
theorem tn_c {K I : am_I} {Q : am_Q} {n p t s tp g R L S : Nat} {rb lb md : Nat → Nat} {d0 d kind use : Int32} (hQ : QX K Q n p t s tp g R L S rb lb md) (hE : ES (cfo K) L (ltB (cfo K) lb md (qvv K p t s d0 kind use) (K 14 tp)) (qvv K p t s d0 kind use) (K 14 tp) I) (h55 : I 5 5 = K 17 t) (h56 : I 5 6 = K 11 s) : ∃ I', s_X3_turnTo I d = I' ∧ p_X3_turnTo I d ∧ Fp I I' ∧ ES (cfo K) L (ltB (cfo K) lb md (qvv K p t s d kind use) (K 14 tp)) (qvv K p t s d kind use) (K 14 tp) I' ∧ I' 5 5 = K 17 t ∧ I' 5 6 = K 11 s := by
  obtain ⟨t1, t2⟩ := tt_c (I := I) (day := d)
  have hX := hQ.2.2.2.2.2.2.2.2.2.2.2.2
  obtain ⟨e1, e2, e3, e4⟩ := hE
  refine ⟨_, t1, t2, fun k h5 h6 h7 h8 => by rw [aw_k h6, aw_k h6], ⟨?_, fun q hq => ?_, ?_, fun l hl h0 => ?_⟩, ?_, ?_⟩
  · rw [← e1]
    funext i
    show am_w (am_w I 6 2 _) 6 3 _ (38 + i) = I (38 + i)
    rw [aw_k (by omega), aw_k (by omega)]
  · by_cases q3 : q = 3
    · subst q3
      rw [aw_s, h56]
      rfl
    · by_cases q2 : q = 2
      · subst q2
        rw [aw_n q3, aw_s, h55]
        rfl
      · rw [aw_n q3, aw_n q2, e2 q hq]
        exact vvf_nd q q2 q3
  · rw [aw_k (by decide), aw_k (by decide)]
    exact e3
  · rw [aw_k (by decide), aw_k (by decide), ← lt_nd (vv := qvv K p t s d0 kind use) (vv' := qvv K p t s d kind use) (tl := K 14 tp) hX (fun q q2 q3 => vvf_nd q q2 q3) hl h0]
    exact e4 l hl h0
  · rw [aw_k (by decide), aw_k (by decide)]; exact h55
  · rw [aw_k (by decide), aw_k (by decide)]; exact h56
/-- one day of the class -/
theorem od_c {K I : am_I} {Q : am_Q} {n p t s tp g R L S f : Nat} {rb lb md : Nat → Nat} {d0 kind use : Int32} (d : Int32) (hQ : QX K Q n p t s tp g R L S rb lb md) (hf : 1000 ≤ f) (hE : ES (cfo K) L (ltB (cfo K) lb md (qvv K p t s d0 kind use) (K 14 tp)) (qvv K p t s d0 kind use) (K 14 tp) I) (h55 : I 5 5 = K 17 t) (h56 : I 5 6 = K 11 s) : ∃ I', s_X1_letBy f (s_X3_turnTo I d) = (qle K p t s tp R rb lb md d kind use, I') ∧ p_X3_turnTo I d ∧ p_X1_letBy f (s_X3_turnTo I d) ∧ Fp I I' ∧ ES (cfo K) L (ltB (cfo K) lb md (qvv K p t s d kind use) (K 14 tp)) (qvv K p t s d kind use) (K 14 tp) I' ∧ I' 5 5 = K 17 t ∧ I' 5 6 = K 11 s := by
  obtain ⟨I1, t1, t2, t3, t4, t5, t6⟩ := tn_c (d := d) hQ hE h55 h56
  obtain ⟨⟨I2, b1, b2, b3, b4⟩, -⟩ := le_C hQ hf t4
  rw [t1]
  exact ⟨I2, b1, t2, b2, t3.tr b3.p, b4, by rw [b3 5 5 (by decide) (by decide) (by decide)]; exact t5, by rw [b3 5 6 (by decide) (by decide) (by decide)]; exact t6⟩
theorem op_c {K : am_I} {Q : am_Q} {n p t s tp g R L S f la : Nat} {rb lb md : Nat → Nat} {kind use a1 a2 a3 a4 : Int32} (hQ : QX K Q n p t s tp g R L S rb lb md) (hf : 1000 ≤ f) (hla : la ≤ 9999) : ∀ d today, today + d = la + 1 → ∀ (I : am_I) (g' : Nat) (d0 : Int32), ES (cfo K) L (ltB (cfo K) lb md (qvv K p t s d0 kind use) (K 14 tp)) (qvv K p t s d0 kind use) (K 14 tp) I → I 5 5 = K 17 t → I 5 6 = K 11 s → d < g' → ∃ I', s_X9_opens_L52 a1 a2 a3 a4 f g' (nI la) (nI today) I = (opV (fun d => qle K p t s tp R rb lb md (nI d) kind use) d today, I') ∧ p_X9_opens_L52 a1 a2 a3 a4 f g' (nI la) (nI today) I ∧ Fp I I' := by
  intro d
  induction d with
  | zero =>
    intro today ht I g' d0 hE h55 h56 hg
    obtain ⟨g', rfl⟩ : ∃ k, g' = k + 1 := ⟨g' - 1, by omega⟩
    have hc : nI la < nI today := nI_lt (by omega) (by omega)
    rw [u_s_X9_opens_L52, u_p_X9_opens_L52, if_pos hc, if_pos hc]
    exact ⟨I, rfl, trivial, fun _ _ _ _ _ => rfl⟩
  | succ d ih =>
    intro today ht I g' d0 hE h55 h56 hg
    obtain ⟨g', rfl⟩ : ∃ k, g' = k + 1 := ⟨g' - 1, by omega⟩
    have hc : ¬ nI la < nI today := nI_nlt (by omega) (by omega)
    rw [u_s_X9_opens_L52, u_p_X9_opens_L52, if_neg hc, if_neg hc, nI_1]
    obtain ⟨I1, a1, a2, a3, a4, a5, a6, a7⟩ := od_c (nI today) hQ hf hE h55 h56
    rw [a1]
    simp only
    unfold opV
    by_cases h0 : qle K p t s tp R rb lb md (nI today) kind use < 0
    · simp only [if_pos h0]
      obtain ⟨I', q1, q2, q3⟩ := ih (today + 1) (by omega) I1 g' (nI today) a5 a6 a7 (by omega)
      exact ⟨I', q1, ⟨a2, a3, q2⟩, a4.tr q3⟩
    · simp only [if_neg h0]
      exact ⟨I1, rfl, ⟨a2, a3, trivial⟩, a4⟩
theorem q_cf {K K' : am_I} (h : ∀ k, (k = 11 ∨ k = 14 ∨ k = 17 ∨ k = 23) → K' k = K k) (hc : ∀ i, i < 8 → cfo K' i = cfo K i) {p t s tp R : Nat} {rb lb md : Nat → Nat} {day kind use : Int32} : qle K' p t s tp R rb lb md day kind use = qle K p t s tp R rb lb md day kind use := by
  have el : ∀ vv tl, ltB (cfo K') lb md vv tl = ltB (cfo K) lb md vv tl := fun vv tl => funext fun l => by
    unfold ltB
    rw [hc 3 (by omega), hc 7 (by omega)]
  have er : ∀ lt, rhB (cfo K') rb lt = rhB (cfo K) rb lt := fun lt => funext fun r => by
    unfold rhB
    rw [hc 5 (by omega)]
  unfold qle qvv
  rw [h 11 (by omega), h 14 (by omega), h 17 (by omega), h 23 (by omega), el, er, hc 1 (by omega)]
theorem op_m {K : am_I} {Q : am_Q} {n p t s tp g R L S f : Nat} {rb lb md : Nat → Nat} {kind use a2 : Int32} (hQ : QX K Q n p t s tp g R L S rb lb md) (hR : QR K) (hf : 1000 ≤ f) : ∀ d today, today + d = 10000 → ∀ (I : am_I) (g' : Nat), Fm K I → d < g' → ∃ I', s_X10_opens_L17 (nI p) a2 kind use f g' (nI today) I = (opV (fun d => qle K p t s tp R rb lb md (nI d) kind use) d today, I') ∧ p_X10_opens_L17 (nI p) a2 kind use f g' (nI today) I ∧ Fm K I' := by
  intro d
  induction d with
  | zero =>
    intro today ht I g' hF hg
    obtain ⟨g', rfl⟩ : ∃ k, g' = k + 1 := ⟨g' - 1, by omega⟩
    have hc : (9999 : Int32) < nI today := nI_lt (a := 9999) (by omega) (by omega)
    rw [u_s_X10_opens_L17, u_p_X10_opens_L17, if_pos hc, if_pos hc]
    exact ⟨I, rfl, trivial, hF⟩
  | succ d ih =>
    intro today ht I g' hF hg
    obtain ⟨g', rfl⟩ : ∃ k, g' = k + 1 := ⟨g' - 1, by omega⟩
    have hc : ¬ (9999 : Int32) < nI today := nI_nlt (a := 9999) (by omega) (by omega)
    rw [u_s_X10_opens_L17, u_p_X10_opens_L17, if_neg hc, if_neg hc, nI_1]
    obtain ⟨⟨I1, a1, a2, a3⟩, -⟩ := le_M (hQ.fm hF) (hR.fm hF) (nI today) kind use hf
    rw [q_cf (fun k hk => hF.r (by omega) (by omega) (by omega)) (fun i hi => cfo_fm hF hi)] at a1
    rw [a1]
    simp only
    unfold opV
    by_cases h0 : qle K p t s tp R rb lb md (nI today) kind use < 0
    · simp only [if_pos h0]
      obtain ⟨I', q1, q2, q3⟩ := ih (today + 1) (by omega) I1 g' (hF.tr a3) (by omega)
      exact ⟨I', q1, ⟨a2, q2⟩, q3⟩
    · simp only [if_neg h0]
      exact ⟨I1, rfl, ⟨a2, trivial⟩, hF.tr a3⟩
theorem isQ_d {I : am_I} {a b c d : Int32} (h : ¬ s_X9_isQuestion I a b c d = 0) : ∃ dd, dd ≤ 9999 ∧ b = nI dd := by
  unfold s_X9_isQuestion at h
  by_cases h1 : s_X4_has I a = 0
  · rw [if_pos h1] at h; exact absurd rfl h
  · rw [if_neg h1] at h
    by_cases h2 : s_X9_isDay b = 0
    · rw [if_pos h2] at h; exact absurd rfl h
    · have := day_of h2
      have hc := ia_cn this.1
      exact ⟨_, by omega, ia_nI b this.1⟩
theorem sp_opens (a b c d : Int32) : LStp VV MX9_opens MX10_opens 6 4 0 0 [.int a, .int b, .int c, .int d] := by
  obtain ⟨f, hf⟩ : ∃ f : Nat, 20000 ≤ f := ⟨20000, Nat.le_refl _⟩
  exact st_q (pc := fun I Q => p_X9_opens f I Q a b c d) (pm := fun I => p_X10_opens f I a b c d) (fun I Q => s_X9_opens f I Q a b c d) (fun I => s_X10_opens f I a b c d) (fun I J Q hG h => ct_X9_opens f I J Q hG a b c d h) (fun I J Q hG h => ct_X10_opens f I J Q hG a b c d h) (fun nc I J Q E hV => by
    obtain ⟨n, hn, en⟩ := v_nI (m := 30) hV.2.2.1.2.2.2.2.1
    by_cases hq : s_X9_isQuestion I a b c d = 0
    · have hVK := hV.ag (ag_lI (j := 0) (E := E))
      have hq' : s_X9_isQuestion (lI 0 I E) a b c d = 0 := by rw [isQ_l]; exact hq
      have hm' : s_X10_isAsked (lI 0 I E) a b c d = 0 := by rw [isQ_m hVK.2.1.2.2.2.2.2.2.2.1]; exact hq'
      refine ⟨0, -1, lI 0 I E, lI 0 I E, hV.p0, ?_, ?_, ?_, ?_, fun _ _ _ => rfl, hVK⟩
      · unfold p_X9_opens; rw [if_pos hq']; trivial
      · unfold s_X9_opens; rw [if_pos hq']
      · unfold p_X10_opens; rw [if_pos hm']; trivial
      · unfold s_X10_opens; rw [if_pos hm']
    · obtain ⟨p, hp, rfl⟩ := isQ_p en hn hq
      obtain ⟨dd, hdd, rfl⟩ := isQ_d hq
      obtain ⟨j, t, s, tp, g, R, L, S, rb, lb, md, hj, hQ, hM⟩ := qx_of hV en hn hp
      have hVK := hV.ag (ag_lI (j := j) (E := E))
      have hq' : ¬ s_X9_isQuestion (lI j I E) (nI p) (nI dd) c d = 0 := by rw [isQ_l]; exact hq
      obtain ⟨K1, a1, a2, a3, a4, a5, a6⟩ := lt_c hQ (nI dd) c d (show 1000 ≤ f by omega)
      have h38 : K1 38 10 = cfo (lI j I E) 0 10 := by rw [a3 38 (by decide) (by decide) (by decide) (by decide)]; rfl
      have hX := hQ.2.2.2.2.2.2.2.2.2.2.2.2
      -- the class's answer
      have cls : ∃ K2, s_X9_opens f (lI j I E) (lQ j Q) (nI p) (nI dd) c d = (opV (fun d' => qle (lI j I E) p t s tp R rb lb md (nI d') c d) (10000 - dd) dd, K2) ∧ p_X9_opens f (lI j I E) (lQ j Q) (nI p) (nI dd) c d ∧ Fp (lI j I E) K2 := by
        unfold s_X9_opens p_X9_opens
        rw [if_neg hq', if_neg hq', a1, h38]
        rcases hM.1 with m0 | m1
        · rw [if_pos m0, if_pos m0]
          obtain ⟨K2, q1, q2, q3⟩ := op_c (a1 := nI p) (a2 := nI dd) (a3 := c) (a4 := d) (la := dd) hQ (show 1000 ≤ f by omega) hdd 1 dd (by omega) K1 f (nI dd) a4 a5 a6 (by omega)
          refine ⟨K2, ?_, ⟨a2, q2⟩, a3.tr q3⟩
          rw [q1]
          congr 1
          have hcst : ∀ d', qle (lI j I E) p t s tp R rb lb md (nI d') c d = qle (lI j I E) p t s tp R rb lb md (nI dd) c d := fun d' => by
            unfold qle
            refine leV_cg (fun r hr h2 => rhB_cg (hX.2.2.2.2.2.2.2.1 r hr).2.2.2.2.2.1 (fun l l1 l2 => ?_)) R 0 (by omega)
            have h3 := (hX.2.2.2.2.2.2.2.1 r hr).2.2.2.2.2.2.1
            exact lt_nd hX (fun q q2 q3 => vvf_nd q q2 q3) (by omega) (hM.2 m0 r hr h2 l l1 l2)
          obtain ⟨e, he⟩ : ∃ e, 10000 - dd = e + 1 := ⟨9999 - dd, by omega⟩
          rw [he, opV_cs hcst, opV_cs hcst]
        · have n0 : ¬ cfo (lI j I E) 0 10 = 0 := by rw [m1]; decide
          rw [if_neg n0, if_neg n0]
          obtain ⟨K2, q1, q2, q3⟩ := op_c (a1 := nI p) (a2 := nI dd) (a3 := c) (a4 := d) (la := 9999) hQ (show 1000 ≤ f by omega) (Nat.le_refl _) (10000 - dd) dd (by omega) K1 f (nI dd) a4 a5 a6 (by omega)
          exact ⟨K2, q1, ⟨a2, q2⟩, a3.tr q3⟩
      obtain ⟨K2, b1, b2, hF⟩ := cls
      have hV2 := hVK.ag hF.ag
      obtain ⟨K3, c1, c2, c3⟩ := op_m (a2 := nI dd) (kind := c) (use := d) (hQ.fp hF) hV2.qr (show 1000 ≤ f by omega) (10000 - dd) dd (by omega) K2 f (fun _ _ _ _ _ => rfl) (by omega)
      have hm' : ¬ s_X10_isAsked K2 (nI p) (nI dd) c d = 0 := by
        rw [isQ_m hV2.2.1.2.2.2.2.2.2.2.1]
        unfold s_X9_isQuestion s_X4_has at hq' ⊢
        rw [hF 15 (by decide) (by decide) (by decide) (by decide)]
        exact hq'
      have hle : (fun d' => qle K2 p t s tp R rb lb md (nI d') c d) = fun d' => qle (lI j I E) p t s tp R rb lb md (nI d') c d := funext fun d' => (q_fp hF).1
      rw [hle] at c1
      refine ⟨j, opV (fun d' => qle (lI j I E) p t s tp R rb lb md (nI d') c d) (10000 - dd) dd, K2, K3, hj, b2, b1, ?_, ?_, fun k k1 k2 => ?_, hV2.ag c3.ag⟩
      · unfold p_X10_opens; rw [if_neg hm']; exact c2
      · unfold s_X10_opens; rw [if_neg hm']; exact c1
      · rw [c3.r (by omega) (by omega) (by omega), hF k (by omega) (by omega) (by omega) (by omega)])
