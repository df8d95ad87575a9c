/-! ===== would, ask ===== -/
/-- what the class's loops over pieces answer, by the reference's at a state K -/
theorem kn_c {nc : Nat} {K I1 : am_I} {J : am_J} {Q : am_Q} {E : Nat → am_I} (hV : VV nc K J Q E) {f n m np aa b : Nat} (hf : 1000 ≤ f) (en : K 15 11 = nI n) (hn : n ≤ 30) (em : K 26 2 = nI m) (hm : m ≤ 6) (ha : aa < m) (ep : K 9 3 = nI np) (hp : np ≤ 12) (hb : b < np) (h : ∀ k, (k = 9 ∨ k = 10 ∨ k = 15 ∨ k = 23 ∨ k = 24 ∨ k = 26 ∨ k = 28) → I1 k = K k) : (s_X9_knowsByName f I1 (nI aa) (nI b) = s_X10_hasName f K (nI aa) (nI b) ∧ p_X9_knowsByName f I1 (nI aa) (nI b)) ∧ (s_X9_knownTraits f I1 (nI aa) (nI b) = s_X10_traitsHeard f K (nI aa) (nI b) ∧ p_X9_knownTraits f I1 (nI aa) (nI b)) ∧ ∀ x, s_X8_alikeTo f I1 (nI b) x = s_X10_alike f K (nI b) x ∧ p_X8_alikeTo f I1 (nI b) x := by
  have e2 := hV.2.1.2.2.2.2.2.2.2.1
  have e4 := hV.2.1.2.2.2.2.2.2.2.2.2.2.1
  have e5 := hV.1.2.2.2.2.2.1
  have r23 : K 78 = I1 23 := by rw [h 23 (by omega)]; exact hV.2.1.2.2.2.2.1
  have r28 : K 85 = I1 28 := by rw [h 28 (by omega)]; exact e4
  have r24 : K 79 = I1 24 := by rw [h 24 (by omega)]; exact hV.2.1.2.2.2.2.2.1
  have r10 : K 68 = I1 10 := by rw [h 10 (by omega)]; exact hV.1.2.2.2.1
  have en1 : I1 15 11 = nI n := by rw [h 15 (by omega)]; exact en
  have em1 : I1 26 2 = nI m := by rw [h 26 (by omega)]; exact em
  have ep1 : I1 9 3 = nI np := by rw [h 9 (by omega)]; exact ep
  obtain ⟨q1, q2, q3⟩ := lp_name (x := nI b) (b := 0) en1 (e2.trans en) r23 r28 hn em1 hm ha f 0 (by omega) (by omega)
  obtain ⟨r1, r2, r3⟩ := lp_trait (x := nI b) en1 (e2.trans en) r23 r28 r24 hn em1 hm ha f 0 0 (by omega) (by omega)
  rw [nI_0] at q1 q2 q3 r1 r2 r3
  refine ⟨⟨q3.symm, q1⟩, ⟨r3.symm, r1⟩, fun x => ?_⟩
  obtain ⟨t1, t2, t3⟩ := lp_alike (x := x) ep1 (e5.trans ep) r10 hp hb (show 5 ≤ f by omega) f f 0 0 (by omega) (by omega) (by omega)
  rw [nI_0] at t1 t2 t3
  exact ⟨t3.symm, t1⟩
theorem kn_m {nc : Nat} {K M : am_I} {J : am_J} {Q : am_Q} {E : Nat → am_I} (hV : VV nc K J Q E) {f n m np aa b : Nat} (hf : 1000 ≤ f) (en : K 15 11 = nI n) (hn : n ≤ 30) (em : K 26 2 = nI m) (hm : m ≤ 6) (ha : aa < m) (ep : K 9 3 = nI np) (hp : np ≤ 12) (hb : b < np) (h : ∀ k, (k = 68 ∨ k = 78 ∨ k = 79 ∨ k = 85) → M k = K k) (h1 : M 46 44 = K 46 44) (h2 : M 46 35 = K 46 35) : (s_X10_hasName f M (nI aa) (nI b) = s_X10_hasName f K (nI aa) (nI b) ∧ p_X10_hasName f M (nI aa) (nI b)) ∧ (s_X10_traitsHeard f M (nI aa) (nI b) = s_X10_traitsHeard f K (nI aa) (nI b) ∧ p_X10_traitsHeard f M (nI aa) (nI b)) ∧ ∀ x, s_X10_alike f M (nI b) x = s_X10_alike f K (nI b) x ∧ p_X10_alike f M (nI b) x := by
  obtain ⟨⟨c1, -⟩, ⟨c2, -⟩, c3⟩ := kn_c hV hf en hn em hm ha ep hp hb (I1 := K) (fun _ _ => rfl)
  have e2 := hV.2.1.2.2.2.2.2.2.2.1
  have e4 := hV.2.1.2.2.2.2.2.2.2.2.2.2.1
  have e5 := hV.1.2.2.2.2.2.1
  have r23 : M 78 = K 23 := by rw [h 78 (by omega)]; exact hV.2.1.2.2.2.2.1
  have r28 : M 85 = K 28 := by rw [h 85 (by omega)]; exact e4
  have r24 : M 79 = K 24 := by rw [h 79 (by omega)]; exact hV.2.1.2.2.2.2.2.1
  have r10 : M 68 = K 10 := by rw [h 68 (by omega)]; exact hV.1.2.2.2.1
  obtain ⟨q1, q2, q3⟩ := lp_name (x := nI b) (b := 0) en ((h1.trans e2).trans en) r23 r28 hn em hm ha f 0 (by omega) (by omega)
  obtain ⟨r1, r2, r3⟩ := lp_trait (x := nI b) en ((h1.trans e2).trans en) r23 r28 r24 hn em hm ha f 0 0 (by omega) (by omega)
  rw [nI_0] at q1 q2 q3 r1 r2 r3
  refine ⟨⟨q3.trans c1, q2⟩, ⟨r3.trans c2, r2⟩, fun x => ?_⟩
  obtain ⟨t1, t2, t3⟩ := lp_alike (x := x) ep ((h2.trans e5).trans ep) r10 hp hb (show 5 ≤ f by omega) f f 0 0 (by omega) (by omega) (by omega)
  rw [nI_0] at t1 t2 t3
  exact ⟨t3.trans (c3 x).1, t2⟩
def lagV (K : am_I) (c : Int32) : Int32 := if c = -1 then 0 else K 37 c.toNatClampNeg
def anJ (f : Nat) (K : am_I) (aa p t s tp R : Nat) (rb lb md : Nat → Nat) (day use : Int32) : Int32 := if 0 ≤ qle K p t s tp R rb lb md day (K 27 aa) use then (if K 23 p = -1 then 2 else if qma K p t s tp R rb lb md day (K 27 aa) use = -1 then 2 else if s_X10_hasName f K (nI aa) (K 23 p) = 0 then (if K 0 10 ≤ s_X10_alike f K (K 23 p) (s_X10_traitsHeard f K (nI aa) (K 23 p) ||| K 24 p) then 3 else 4) else 3) else 1
def anV (f : Nat) (K : am_I) (aa p t s tp R : Nat) (rb lb md : Nat → Nat) (c day use : Int32) : Int32 := if K 25 p = -1 then anJ f K aa p t s tp R rb lb md day use else if day < K 25 p + lagV K c then anJ f K aa p t s tp R rb lb md day use else 0
theorem nm_b {nc : Nat} {K : am_I} {J : am_J} {Q : am_Q} {E : Nat → am_I} (hV : VV nc K J Q E) {n np p : Nat} (en : K 15 11 = nI n) (hn : n ≤ 30) (hp : p < n) (ep : K 9 3 = nI np) (hnp : np ≤ 12) (hne : ¬ K 23 p = -1) : ∃ b, b < np ∧ K 23 p = nI b := by
  obtain ⟨-, -, a5, a6⟩ := hV.2.2.2.1.1 p (by rw [en, nI_toInt (by omega)]; omega)
  rw [ep, nI_toInt (by omega)] at a6
  have : (-1 : Int32).toInt = -1 := rfl
  rw [ia_eq, this] at hne
  have h0 : 0 ≤ (K 23 p).toInt := by omega
  have := ia_cn h0
  exact ⟨_, by omega, ia_nI _ h0⟩
theorem an_c {nc : Nat} {K : am_I} {J : am_J} {Q Qf : am_Q} {E : Nat → am_I} (hV : VV nc K J Q E) {n p t s tp g R L S f m aa : Nat} {rb lb md : Nat → Nat} (hQ : QX K Qf n p t s tp g R L S rb lb md) (hf : 1000 ≤ f) (em : K 26 2 = nI m) (hm : m ≤ 6) (ha : aa < m) (c day use : Int32) (hc : c = -1 ∨ ∃ k w, c = nI k ∧ k < w ∧ w ≤ 4 ∧ K 0 9 = nI w) : ∃ K2, s_X9_answerTo f K Qf (nI aa) (nI p) c day use = (anV f K aa p t s tp R rb lb md c day use, K2) ∧ p_X9_answerTo f K Qf (nI aa) (nI p) c day use ∧ Fp K K2 := by
  obtain ⟨q1, q2, q3, q4, q5, q6, ⟨np, q9, q10, q11⟩, -⟩ := id hQ
  have cp := nI_clamp (n := p) (by omega)
  have ca := nI_clamp (n := aa) (by omega)
  have v30 : vp_in (nI p) 30 := vp_in_nI (by omega) (by omega)
  have hk : s_X0_kindOf K (nI aa) = K 27 aa ∧ p_X0_kindOf K (nI aa) := by
    have h1 : ¬ s_X0_has K (nI aa) = 0 := by unfold s_X0_has; rw [em]; exact isB_nI ha (by omega)
    unfold s_X0_kindOf p_X0_kindOf
    rw [if_neg h1, if_neg h1, ca]
    exact ⟨rfl, vp_in_nI (by omega) (by omega)⟩
  have J52 : ∃ K2, s_X9_answerTo_J52 (nI aa) (nI p) c day use f Qf K = (anJ f K aa p t s tp R rb lb md day use, K2) ∧ p_X9_answerTo_J52 (nI aa) (nI p) c day use f Qf K ∧ Fp K K2 := by
    obtain ⟨K1, a1, a2, a3, a4, -⟩ := lt_c hQ day (K 27 aa) use hf
    obtain ⟨⟨K2, b1, b2, b3, b4⟩, -⟩ := le_C hQ hf a4
    obtain ⟨-, K3, d1, d2, d3, d4⟩ := le_C hQ hf b4
    have e : leV (cfo K 1) (rhB (cfo K) rb (ltB (cfo K) lb md (qvv K p t s day (K 27 aa) use) (K 14 tp))) R 0 = qle K p t s tp R rb lb md day (K 27 aa) use := rfl
    have e' : maV (cfo K 1) (rhB (cfo K) rb (ltB (cfo K) lb md (qvv K p t s day (K 27 aa) use) (K 14 tp))) R 0 = qma K p t s tp R rb lb md day (K 27 aa) use := rfl
    rw [e] at b1
    rw [e'] at d1
    have F2 : Fp K K2 := a3.tr b3.p
    have F3 : Fp K K3 := F2.tr d3.p
    unfold s_X9_answerTo_J52 p_X9_answerTo_J52 anJ
    rw [hk.1, a1, b1]
    simp only
    rw [d1]
    simp only
    rw [cp, F2 23 (by decide) (by decide) (by decide) (by decide)]
    by_cases h0 : 0 ≤ qle K p t s tp R rb lb md day (K 27 aa) use
    · simp only [if_pos h0]
      by_cases h1 : K 23 p = -1
      · simp only [if_pos h1]
        exact ⟨K2, rfl, ⟨hk.2, a2, b2, v30, trivial⟩, F2⟩
      · simp only [if_neg h1]
        by_cases h2 : qma K p t s tp R rb lb md day (K 27 aa) use = -1
        · simp only [if_pos h2]
          exact ⟨K3, rfl, ⟨hk.2, a2, b2, v30, d2, trivial⟩, F3⟩
        · simp only [if_neg h2]
          obtain ⟨b, hb, eb⟩ := nm_b hV q1 q3 q2 q9 q11 h1
          obtain ⟨⟨k1, k2⟩, ⟨k3, k4⟩, k5⟩ := kn_c hV hf q1 q3 em hm ha q9 q11 hb (I1 := K3) (fun k hk => F3 k (by omega) (by omega) (by omega) (by omega))
          have wu : s_X9_wouldUnmask f K3 (nI aa) (nI p) = (if K 0 10 ≤ s_X10_alike f K (nI b) (s_X10_traitsHeard f K (nI aa) (nI b) ||| K 24 p) then 0 else if s_X10_hasName f K (nI aa) (nI b) = 0 then 1 else 0) ∧ p_X9_wouldUnmask f K3 (nI aa) (nI p) := by
            unfold s_X9_wouldUnmask p_X9_wouldUnmask
            rw [cp, F3 23 (by decide) (by decide) (by decide) (by decide), F3 24 (by decide) (by decide) (by decide) (by decide), F3 0 (by decide) (by decide) (by decide) (by decide), eb, k3, (k5 _).1, k1]
            refine ⟨rfl, v30, k4, v30, (k5 _).2, ?_⟩
            split
            · trivial
            · exact k2
          rw [wu.1, eb]
          refine ⟨K3, ?_, ⟨hk.2, a2, b2, v30, d2, wu.2⟩, F3⟩
          by_cases h3 : K 0 10 ≤ s_X10_alike f K (nI b) (s_X10_traitsHeard f K (nI aa) (nI b) ||| K 24 p)
          · simp only [if_pos h3, if_true]
            split <;> rfl
          · simp only [if_neg h3]
            by_cases h4 : s_X10_hasName f K (nI aa) (nI b) = 0
            · simp only [if_pos h4, if_neg (show ¬ (1 : Int32) = 0 by decide)]
            · simp only [if_neg h4, if_true]
    · simp only [if_neg h0]
      exact ⟨K2, rfl, ⟨hk.2, a2, b2, trivial⟩, F2⟩
  obtain ⟨K2, j1, j2, j3⟩ := J52
  have fpr : Fp K K := fun _ _ _ _ _ => rfl
  unfold s_X9_answerTo p_X9_answerTo anV lagV
  rw [cp, j1]
  rcases hc with rfl | ⟨k, w, rfl, k1, k2, k3⟩
  · have hb : s_X9_isBelow (-1) (K 0 9) = 0 := by
      rw [isB_0]
      have : (-1 : Int32).toInt = -1 := rfl
      omega
    simp only [if_pos hb, if_true]
    by_cases h1 : K 25 p = -1
    · simp only [if_pos h1]
      exact ⟨K2, rfl, ⟨v30, j2⟩, j3⟩
    · simp only [if_neg h1]
      by_cases h2 : day < K 25 p + 0
      · simp only [if_pos h2]
        exact ⟨K2, rfl, ⟨v30, j2⟩, j3⟩
      · simp only [if_neg h2]
        exact ⟨K, rfl, ⟨v30, trivial⟩, fpr⟩
  · have hb : ¬ s_X9_isBelow (nI k) (K 0 9) = 0 := by rw [k3]; exact isB_nI k1 (by omega)
    have hne : ¬ nI k = -1 := fun h => by
      have : ¬ nI k < 0 := nI_pos (by omega)
      rw [h] at this
      exact this (by decide)
    have v4 : vp_in (nI k) 4 := vp_in_nI (by omega) (by omega)
    simp only [if_neg hb, if_neg hne]
    by_cases h1 : K 25 p = -1
    · simp only [if_pos h1]
      exact ⟨K2, rfl, ⟨v4, v30, j2⟩, j3⟩
    · simp only [if_neg h1]
      by_cases h2 : day < K 25 p + K 37 (nI k).toNatClampNeg
      · simp only [if_pos h2]
        exact ⟨K2, rfl, ⟨v4, v30, j2⟩, j3⟩
      · simp only [if_neg h2]
        exact ⟨K, rfl, ⟨v4, v30, trivial⟩, fpr⟩
/-- M is K but for what the class wrote -/
def Fz (K M : am_I) : Prop := ∀ k, k ≠ 5 → k ≠ 6 → k ≠ 7 → k ≠ 8 → k ≠ 28 → M k = K k
theorem an_m {nc : Nat} {K M : am_I} {J : am_J} {Q Qf : am_Q} {E : Nat → am_I} (hV : VV nc K J Q E) {n p t s tp g R L S f m aa : Nat} {rb lb md : Nat → Nat} (hQ : QX K Qf n p t s tp g R L S rb lb md) (hf : 1000 ≤ f) (em : K 26 2 = nI m) (hm : m ≤ 6) (ha : aa < m) (c day use : Int32) (hc : c = -1 ∨ ∃ k w, c = nI k ∧ k < w ∧ w ≤ 4 ∧ K 0 9 = nI w) (hM : Fz K M) : ∃ M2, s_X10_wouldGet f M (nI aa) (nI p) c day use = (anV f K aa p t s tp R rb lb md c day use, M2) ∧ p_X10_wouldGet f M (nI aa) (nI p) c day use ∧ Fm M M2 := by
  obtain ⟨q1, q2, q3, q4, q5, q6, ⟨np, q9, q10, q11⟩, -⟩ := id hQ
  have cp := nI_clamp (n := p) (by omega)
  have ca := nI_clamp (n := aa) (by omega)
  have v30 : vp_in (nI p) 30 := vp_in_nI (by omega) (by omega)
  have v6 : vp_in (nI aa) 6 := vp_in_nI (by omega) (by omega)
  have rw' : ∀ k, 37 ≤ k → M k = K k := fun k hk => hM k (by omega) (by omega) (by omega) (by omega) (by omega)
  have cM : cfo M = cfo K := funext fun i => rw' _ (by omega)
  have hQM : QX M Qf n p t s tp g R L S rb lb md := hQ.mv (fun k hk => hM k (by omega) (by omega) (by omega) (by omega) (by omega)) cM
  have hRM : QR M := by
    have := hV.qr
    unfold QR at this ⊢
    rw [rw' 74 (by omega), rw' 71 (by omega), rw' 72 (by omega), rw' 69 (by omega), rw' 77 (by omega), rw' 70 (by omega), rw' 78 (by omega), hM 19 (by decide) (by decide) (by decide) (by decide) (by decide), hM 16 (by decide) (by decide) (by decide) (by decide) (by decide), hM 17 (by decide) (by decide) (by decide) (by decide) (by decide), hM 11 (by decide) (by decide) (by decide) (by decide) (by decide), hM 22 (by decide) (by decide) (by decide) (by decide) (by decide), hM 14 (by decide) (by decide) (by decide) (by decide) (by decide), hM 23 (by decide) (by decide) (by decide) (by decide) (by decide)]
    exact this
  have r81 : K 81 = K 27 := hV.2.1.2.2.2.2.2.2.2.2.1
  have r78 : K 78 = K 23 := hV.qr.2.2.2.2.2.2
  have r79 : K 79 = K 24 := hV.2.1.2.2.2.2.2.1
  have r80 : K 80 = K 25 := hV.2.1.2.2.2.2.2.2.1
  have r82 : K 82 = K 37 := hV.2.1.2.2.2.2.2.2.2.2.2.2.2.1
  have r56 : K 46 56 = K 0 10 := hV.2.1.2.2.2.2.2.2.2.2.2.2.2.2.2.1
  have J39 : ∃ M2, s_X10_wouldGet_J39 (nI aa) (nI p) c day use f M = (anJ f K aa p t s tp R rb lb md day use, M2) ∧ p_X10_wouldGet_J39 (nI aa) (nI p) c day use f M ∧ Fm M M2 := by
    obtain ⟨⟨M1, a1, a2, a3⟩, -⟩ := le_M hQM hRM day (K 27 aa) use hf
    rw [(q_eq (fun k hk => hM k (by omega) (by omega) (by omega) (by omega) (by omega)) cM).1] at a1
    have k81 : M1 81 aa = K 27 aa := by rw [a3.r (k := 81) (by decide) (by decide) (by decide), rw' 81 (by omega), r81]
    have h81 : M 81 aa = K 27 aa := by rw [rw' 81 (by omega), r81]
    unfold s_X10_wouldGet_J39 p_X10_wouldGet_J39 anJ
    rw [ca, h81, a1]
    simp only
    rw [k81]
    by_cases h0 : 0 ≤ qle K p t s tp R rb lb md day (K 27 aa) use
    · simp only [if_pos h0]
      by_cases h1 : K 23 p = -1
      · have h78 : M1 78 p = -1 := by rw [a3.r (k := 78) (by decide) (by decide) (by decide), rw' 78 (by omega), r78]; exact h1
        have e1 : s_X10_maskBy f M1 (nI p) day (K 27 aa) use = (-1, M1) ∧ p_X10_maskBy f M1 (nI p) day (K 27 aa) use := by
          unfold s_X10_maskBy p_X10_maskBy
          rw [cp, if_pos h78, if_pos h78]
          exact ⟨rfl, v30, trivial⟩
        simp only [if_pos h1, e1.1, if_true]
        exact ⟨M1, rfl, ⟨v6, a2, v6, e1.2, trivial⟩, a3⟩
      · simp only [if_neg h1]
        have h23 : ¬ M1 23 p = -1 := by
          rw [a3.r (k := 23) (by decide) (by decide) (by decide), hM 23 (by decide) (by decide) (by decide) (by decide) (by decide)]
          exact h1
        obtain ⟨M2, b1, b2, b3⟩ := (le_M (hQM.fm a3) (hRM.fm a3) day (K 27 aa) use hf).2 h23
        have hcc : qma M1 p t s tp R rb lb md day (K 27 aa) use = qma K p t s tp R rb lb md day (K 27 aa) use := by
          have c1 : cfo M1 1 = cfo K 1 := by rw [cfo_fm a3 (by omega), cM]
          have cR : ∀ i, i < 8 → cfo M1 i = cfo K i := fun i hi => by rw [cfo_fm a3 hi, cM]
          have rr : ∀ k, (k = 11 ∨ k = 14 ∨ k = 17 ∨ k = 23) → M1 k = K k := fun k hk => by rw [a3.r (by omega) (by omega) (by omega), hM k (by omega) (by omega) (by omega) (by omega) (by omega)]
          have el : ∀ vv tl l, ltB (cfo M1) lb md vv tl l = ltB (cfo K) lb md vv tl l := fun vv tl l => by
            unfold ltB
            rw [cR 3 (by omega), cR 7 (by omega)]
          have el' : ∀ vv tl, ltB (cfo M1) lb md vv tl = ltB (cfo K) lb md vv tl := fun vv tl => funext (el vv tl)
          have er : ∀ lt, rhB (cfo M1) rb lt = rhB (cfo K) rb lt := fun lt => funext fun r => by
            unfold rhB
            rw [cR 5 (by omega)]
          unfold qma qvv
          rw [rr 11 (by omega), rr 14 (by omega), rr 17 (by omega), rr 23 (by omega), el', er, c1]
        rw [hcc] at b1
        have F2 : Fm M M2 := a3.tr b3
        rw [b1]
        simp only
        by_cases h2 : qma K p t s tp R rb lb md day (K 27 aa) use = -1
        · simp only [if_pos h2]
          exact ⟨M2, rfl, ⟨v6, a2, v6, b2, trivial⟩, F2⟩
        · simp only [if_neg h2]
          obtain ⟨b, hb, eb⟩ := nm_b hV q1 q3 q2 q9 q11 h1
          have g46 : ∀ a, a ≠ 59 → M2 46 a = K 46 a := fun a ha => by rw [F2 46 a (by decide) (by decide) (fun h => ha h.2), rw' 46 (by omega)]
          obtain ⟨⟨k1, k2⟩, ⟨k3, k4⟩, k5⟩ := kn_m hV hf q1 q3 em hm ha q9 q11 hb (M := M2) (fun k hk => by rw [F2.r (by omega) (by omega) (by omega), rw' k (by omega)]) (g46 44 (by decide)) (g46 35 (by decide))
          have w78 : M2 78 p = nI b := by rw [F2.r (k := 78) (by decide) (by decide) (by decide), rw' 78 (by omega), r78]; exact eb
          have w79 : M2 79 p = K 24 p := by rw [F2.r (k := 79) (by decide) (by decide) (by decide), rw' 79 (by omega), r79]
          rw [cp, w78, w79, k1, k3, (k5 _).1, g46 56 (by decide), r56, eb]
          refine ⟨M2, ?_, ⟨v6, a2, v6, b2, v30, k2, ?_⟩, F2⟩
          · by_cases h4 : s_X10_hasName f K (nI aa) (nI b) = 0
            · simp only [if_pos h4]
              split <;> rfl
            · simp only [if_neg h4]
          · split
            · exact ⟨k4, v30, (k5 _).2⟩
            · trivial
    · simp only [if_neg h0]
      exact ⟨M1, rfl, ⟨v6, a2, trivial⟩, a3⟩
  obtain ⟨M2, j1, j2, j3⟩ := J39
  have fmr : Fm M M := fun _ _ _ _ _ => rfl
  have w80 : M 80 = K 25 := by rw [rw' 80 (by omega)]; exact r80
  have w82 : M 82 = K 37 := by rw [rw' 82 (by omega)]; exact r82
  unfold s_X10_wouldGet p_X10_wouldGet anV lagV
  rw [cp, j1, w80, w82]
  by_cases h1 : K 25 p = -1
  · simp only [if_pos h1]
    exact ⟨M2, rfl, ⟨v30, j2⟩, j3⟩
  · simp only [if_neg h1]
    rcases hc with rfl | ⟨k, w, rfl, k1, k2, k3⟩
    · simp only [if_true]
      by_cases h2 : day < K 25 p + 0
      · simp only [if_pos h2]
        exact ⟨M2, rfl, ⟨v30, v30, j2⟩, j3⟩
      · simp only [if_neg h2]
        exact ⟨M, rfl, ⟨v30, v30, trivial⟩, fmr⟩
    · have hne : ¬ nI k = -1 := fun h => by
        have : ¬ nI k < 0 := nI_pos (by omega)
        rw [h] at this
        exact this (by decide)
      have v4 : vp_in (nI k) 4 := vp_in_nI (by omega) (by omega)
      simp only [if_neg hne]
      by_cases h2 : day < K 25 p + K 37 (nI k).toNatClampNeg
      · simp only [if_pos h2]
        exact ⟨M2, rfl, ⟨v30, v30, v4, j2⟩, j3⟩
      · simp only [if_neg h2]
        exact ⟨M, rfl, ⟨v30, v30, v4, trivial⟩, fmr⟩
