section
/-! ===== the whole table of tokens ===== -/
theorem bl_n {c : Int32} (h : s_X6_isBlank c = 0) : ¬ c = 9 ∧ ¬ c = 10 ∧ ¬ c = 13 ∧ ¬ c = 32 := by
  refine ⟨fun e => ?_, fun e => ?_, fun e => ?_, fun e => ?_⟩ <;> subst e <;> exact absurd h (by decide)
theorem bl_y {c : Int32} (h : ¬ s_X6_isBlank c = 0) : c = 9 ∨ c = 10 ∨ c = 13 ∨ c = 32 := by
  unfold s_X6_isBlank at h
  by_cases h1 : c = 9
  · exact Or.inl h1
  · by_cases h2 : c = 10
    · exact Or.inr (Or.inl h2)
    · by_cases h3 : c = 13
      · exact Or.inr (Or.inr (Or.inl h3))
      · by_cases h4 : c = 32
        · exact Or.inr (Or.inr (Or.inr h4))
        · rw [if_neg h1, if_neg h2, if_neg h3, if_neg h4] at h
          exact absurd rfl h
theorem bl_4 {α : Sort _} {c : Int32} (hb : vp_nar .byte c = c) (h : ¬ s_X6_isBlank c = 0) (X Y : α) : (if c &&& 255 = 9 then X else (if c &&& 255 = 10 then X else (if c &&& 255 = 13 then X else (if c &&& 255 = 32 then X else Y)))) = X := by
  have e : ∀ k, k < 128 → c = nI k → c &&& 255 = nI k := fun k hk q => (by_k hb hk).mpr q
  by_cases h1 : c &&& 255 = 9
  · rw [if_pos h1]
  rw [if_neg h1]
  by_cases h2 : c &&& 255 = 10
  · rw [if_pos h2]
  rw [if_neg h2]
  by_cases h3 : c &&& 255 = 13
  · rw [if_pos h3]
  rw [if_neg h3]
  by_cases h4 : c &&& 255 = 32
  · rw [if_pos h4]
  exfalso
  rcases bl_y h with q | q | q | q
  · exact h1 (e 9 (by decide) q)
  · exact h2 (e 10 (by decide) q)
  · exact h3 (e 13 (by decide) q)
  · exact h4 (e 32 (by decide) q)
theorem bl_5 {α : Sort _} {c : Int32} (hb : vp_nar .byte c = c) (h : s_X6_isBlank c = 0) (X Y : α) : (if c &&& 255 = 9 then X else (if c &&& 255 = 10 then X else (if c &&& 255 = 13 then X else (if c &&& 255 = 32 then X else Y)))) = Y := by
  have e : ∀ k, k < 128 → ¬ c = nI k → ¬ c &&& 255 = nI k := fun k hk q x => q ((by_k hb hk).mp x)
  obtain ⟨a1, a2, a3, a4⟩ := bl_n h
  have h1 : ¬ c &&& 255 = 9 := e 9 (by decide) a1
  have h2 : ¬ c &&& 255 = 10 := e 10 (by decide) a2
  have h3 : ¬ c &&& 255 = 13 := e 13 (by decide) a3
  have h4 : ¬ c &&& 255 = 32 := e 32 (by decide) a4
  rw [if_neg h1, if_neg h2, if_neg h3, if_neg h4]
def CutO (b : Nat → Int32) (n g i : Nat) (M : am_I) (J : am_J) : Prop := ∃ (M' : am_I) (J' : am_J) (T : Nat), s_X10_cut_L7 g 0 (nI i) 0 0 0 0 0 M J = (M', J') ∧ p_X10_cut_L7 g 0 (nI i) 0 0 0 0 0 M J ∧ FrK M M' ∧ J' 53 = J 53 ∧ T ≤ 400 ∧ (∀ q, q ≤ T → TE b n M' q) ∧ (∀ q, q < T → tk b n q ≠ 26) ∧ (tk b n T = 26 ∨ T = 400)
theorem cut_0 {b : Nat → Int32} {n g i j : Nat} {M : am_I} {J : am_J} (hn : n ≤ 2000) (hi : i ≤ n) (hc : j = 401 ∨ i = n) (hg : 1 ≤ g) (hj : j ≤ 401) (H : H48 b n M) (h10 : M 46 10 = nI j) (hpl : rr s_X6_isBlank b n i = pl b n j) (hT : ∀ q, q < j → TE b n M q) (hN : ∀ q, q < j → tk b n q ≠ 26) : CutO b n g i M J := by
  obtain ⟨g, rfl⟩ : ∃ k, g = k + 1 := ⟨g - 1, by omega⟩
  unfold CutO
  rw [u_s_X10_cut_L7_0, u_p_X10_cut_L7_0, h10]
  by_cases h4 : j = 401
  · have c : (400 : Int32) < nI j := nI_lt (a := 400) (by omega) (by omega)
    rw [if_pos c, if_pos c]
    exact ⟨M, J, 400, rfl, trivial, fun _ _ _ _ _ _ => rfl, rfl, Nat.le_refl _, fun q hq => hT q (by omega), fun q hq => hN q (by omega), Or.inr rfl⟩
  · have hin : i = n := by omega
    have c : ¬ (400 : Int32) < nI j := nI_nlt (a := 400) (by omega) (by omega)
    have c2 : ¬ nI i < nI n := nI_nlt (by omega) (by omega)
    have ep : pl b n j = n := by rw [← hpl, hin]; exact rr_no (by omega)
    have et : tk b n j = 26 := tk_26.mpr (by omega)
    obtain ⟨k1, k2, k3, k4⟩ := cut_nx (b := b) (n := n) (j := j) (M := M) (v := 0) (fun h => by omega) H
    obtain ⟨t1, t2⟩ := tok_m (J := J) h10 (by omega) 0 (nI n) 0 0
    rw [if_neg c, if_neg c, H.1, if_neg c2, if_neg c2, t1]
    have em : tkM b n M j 0 = am_w (am_w (am_w (am_w M 49 j 0) 50 j (nI n)) 51 j 0) 46 10 (nI (j + 1)) := by
      unfold tkM
      rw [et, ep]
      rfl
    rw [← em]
    exact ⟨_, _, j, rfl, ⟨(at_out H (by omega) (by omega)).2, t2⟩, k4, rfl, by omega, fun q hq => k3 hT q (by omega), hN, Or.inl et⟩
theorem cut_r {b : Nat → Int32} {n : Nat} (hn : n ≤ 2000) (hb : ∀ k, vp_nar .byte (b k) = b k) : ∀ d i, n - i ≤ d → i ≤ n → ∀ g (M : am_I) (J : am_J) j, 20 * (n - i) + 30 ≤ g → j ≤ 401 → H48 b n M → J 53 = k_J 53 → M 46 10 = nI j → rr s_X6_isBlank b n i = pl b n j → (∀ q, q < j → TE b n M q) → (∀ q, q < j → tk b n q ≠ 26) → CutO b n g i M J := by
  intro d
  induction d with
  | zero =>
    intro i hd hi g M J j hg hj H hJ h10 hpl hT hN
    exact cut_0 hn hi (Or.inr (by omega)) (by omega) hj H h10 hpl hT hN
  | succ d ih =>
    intro i hd hi g M J j hg hj H hJ h10 hpl hT hN
    by_cases hc : j = 401 ∨ i = n
    · exact cut_0 hn hi hc (by omega) hj H h10 hpl hT hN
    have hi' : i < n := by omega
    obtain ⟨g, rfl⟩ : ∃ k, g = k + 1 := ⟨g - 1, by omega⟩
    have c : ¬ (400 : Int32) < nI j := nI_nlt (a := 400) (by omega) (by omega)
    have c2 : nI i < nI n := nI_lt hi' (by omega)
    obtain ⟨x1, x2⟩ := at_in H hn hi'
    have nx : ∀ (e : Nat) (v : Int32) (J1 : am_J) (g' : Nat), ten b n i = e → pl b n j = i → (tk b n j = 15 → v = vl b n j) → J1 53 = J 53 → 20 * (n - e) + 30 ≤ g' → (∃ (M' : am_I) (J' : am_J) (T : Nat), s_X10_cut_L7 g' 0 (nI e) 0 0 0 0 0 (tkM b n M j v) J1 = (M', J') ∧ p_X10_cut_L7 g' 0 (nI e) 0 0 0 0 0 (tkM b n M j v) J1 ∧ FrK M M' ∧ J' 53 = J 53 ∧ T ≤ 400 ∧ (∀ q, q ≤ T → TE b n M' q) ∧ (∀ q, q < T → tk b n q ≠ 26) ∧ (tk b n T = 26 ∨ T = 400)) := by
      intro e v J1 g' he hp hv hJ1 hg'
      obtain ⟨k1, k2, k3, k4⟩ := cut_nx (b := b) (n := n) (j := j) (M := M) (v := v) hv H
      have hte := ten_b (b := b) (n := n) (p := i) hi
      obtain ⟨M', J', T, y1, y2, y3, y4, y5⟩ := ih e (by omega) (by omega) g' (tkM b n M j v) J1 (j + 1) hg' (by omega) k1 (hJ1.trans hJ) k2 (by
        show _ = rr s_X6_isBlank b n (ten b n (pl b n j))
        rw [hp, he]) (k3 hT) (fun q hq => by
        by_cases hqj : q = j
        · subst hqj
          rw [ne_eq, tk_26, hp]
          omega
        · exact hN q (by omega))
      exact ⟨M', J', T, y1, y2, k4.tr y3, y4.trans hJ1, y5⟩
    unfold CutO
    rw [u_s_X10_cut_L7_0, u_p_X10_cut_L7_0, h10, if_neg c, if_neg c, H.1, if_pos c2, if_pos c2, x1, nI_1]
    by_cases hbl : s_X6_isBlank (b i) = 0
    · rw [bl_5 (hb i) hbl, bl_5 (hb i) hbl, by_L (hb i), by_D (hb i)]
      have hp : pl b n j = i := by rw [← hpl]; exact rr_no (fun q => q.2 hbl)
      have etk : tk b n j = tcn b n i := by unfold tk; rw [hp]
      by_cases hl : s_X6_isLetter (b i) = 0
      · rw [if_pos hl, if_pos hl]
        by_cases hdg : s_X6_isDigit (b i) = 0
        · rw [if_pos hdg, if_pos hdg]
          have at2 : p_X10_at M (nI (i + 1)) ∧ decide (s_X10_at M (nI (i + 1)) = 61) = decide (i + 1 < n ∧ b (i + 1) = 61) := by
            by_cases h1 : i + 1 < n
            · obtain ⟨z1, z2⟩ := at_in H hn h1
              refine ⟨z2, ?_⟩
              rw [z1]
              have z3 : b (i + 1) &&& 255 = 61 ↔ b (i + 1) = 61 := by_k (hb _) (k := 61) (by decide)
              by_cases h2 : b (i + 1) = 61
              · rw [decide_eq_true (z3.mpr h2), decide_eq_true ⟨h1, h2⟩]
              · rw [decide_eq_false (fun q => h2 (z3.mp q)), decide_eq_false (fun q => h2 q.2)]
            · obtain ⟨z1, z2⟩ := at_out H (q := i + 1) (by omega) (by omega)
              refine ⟨z2, ?_⟩
              rw [z1, decide_eq_false (show ¬ (0 : Int32) = 61 by decide), decide_eq_false (fun q => h1 q.1)]
          obtain ⟨s1, s2⟩ := sg_0 (M := M) (J := J) (a1 := nI i) (c := b i &&& 255) (d := s_X10_at M (nI (i + 1)))
          rw [at2.2, sgq_b (hb i)] at s1
          have et : tk b n j = sgq (b i) (decide (i + 1 < n ∧ b (i + 1) = 61)) := by
            rw [etk]; unfold tcn; rw [if_pos hi', if_pos hl, if_pos hdg]
          have ee : ten b n i = i + sgl (tk b n j) := by
            unfold ten; rw [if_pos hi', if_pos hl, if_pos hdg, et]
          rw [← et] at s1
          have tm := tok_m (J := J) h10 (by omega) (nI (kd (tk b n j))) (nI i) 0 0
          have em : am_w (am_w (am_w (am_w M 49 j (nI (kd (tk b n j)))) 50 j (nI i)) 51 j 0) 46 10 (nI (j + 1)) = tkM b n M j 0 := by
            unfold tkM; rw [hp]
          rw [s1, tm.1, em]
          show ∃ (M' : am_I) (J' : am_J) (T : Nat), s_X10_cut_L7 g 0 (nI i + nI (sgl (tk b n j))) 0 0 0 0 0 (tkM b n M j 0) (am_w J 52 j 0) = (M', J') ∧ (p_X10_at M (nI i) ∧ p_X10_at M (nI (i + 1)) ∧ p_X10_sign M J (nI i) (b i &&& 255) (s_X10_at M (nI (i + 1))) ∧ p_X10_cut_L7 g 0 (nI i + nI (sgl (tk b n j))) 0 0 0 0 0 (tkM b n M j 0) (am_w J 52 j 0)) ∧ _
          rw [nI_add]
          obtain ⟨M', J', T, y1, y2, y3⟩ := nx _ 0 (am_w J 52 j 0) g ee hp (fun h => by
            have := sgq_r (b i) (decide (i + 1 < n ∧ b (i + 1) = 61))
            omega) rfl (by have := (sgl_r (tk b n j)).1; omega)
          exact ⟨M', J', T, y1, ⟨x2, at2.1, s2 tm.2, y2⟩, y3⟩
        · rw [if_neg hdg, if_neg hdg]
          have hr := rr_b (P := s_X6_isDigit) (b := b) hi
          have hte := ten_b (b := b) (n := n) (p := i) hi
          obtain ⟨e, he⟩ : ∃ e, e = rr s_X6_isDigit b n i := ⟨_, rfl⟩
          have et : tk b n j = if e - i ≤ 4 then 15 else 27 := by
            rw [etk, he]; unfold tcn; rw [if_pos hi', if_pos hl, if_neg hdg]
          have ee : ten b n i = e := by
            rw [he]; unfold ten; rw [if_pos hi', if_pos hl, if_neg hdg]
          obtain ⟨g2, hg2⟩ : ∃ g2, g = g2 + (e - i + 1) := ⟨g - (e - i + 1), by omega⟩
          obtain ⟨q1, q2⟩ := cut_d (J := J) hn hb H h10 (by omega) hi' he (e - i) 0 g2 (by omega)
          rw [← et] at q1 q2
          have em : am_w (am_w (am_w (am_w M 49 j (nI (kd (tk b n j)))) 50 j (nI i)) 51 j (dg b i (min (e - i) 4))) 46 10 (nI (j + 1)) = tkM b n M j (dg b i (min (e - i) 4)) := by
            unfold tkM; rw [hp]
          rw [em] at q1 q2
          have q1' : s_X10_cut_L7 g 3 (nI i) 0 0 0 0 0 M J = s_X10_cut_L7 g2 0 (nI e) 0 0 0 0 0 (tkM b n M j (dg b i (min (e - i) 4))) (am_w J 52 j 0) := by rw [hg2]; exact q1
          have q2' : p_X10_cut_L7 g2 0 (nI e) 0 0 0 0 0 (tkM b n M j (dg b i (min (e - i) 4))) (am_w J 52 j 0) → p_X10_cut_L7 g 3 (nI i) 0 0 0 0 0 M J := by rw [hg2]; exact q2
          obtain ⟨M', J', T, y1, y2, y3⟩ := nx e (dg b i (min (e - i) 4)) (am_w J 52 j 0) g2 ee hp (fun h => by
            rw [et] at h
            have h4 : e - i ≤ 4 := by
              by_cases q : e - i ≤ 4
              · exact q
              · rw [if_neg q] at h; omega
            unfold vl
            rw [hp, ← he, show min (e - i) 4 = e - i by omega]) rfl (by omega)
          exact ⟨M', J', T, q1'.trans y1, ⟨x2, q2' y2⟩, y3⟩
      · rw [if_neg hl, if_neg hl]
        have hr := rr_b (P := s_X6_isLetter) (b := b) hi
        have hte := ten_b (b := b) (n := n) (p := i) hi
        obtain ⟨e, he⟩ : ∃ e, e = rr s_X6_isLetter b n i := ⟨_, rfl⟩
        have et : tk b n j = if e - i ≤ 8 then wfind b i e KW 0 else 27 := by
          rw [etk, he]; unfold tcn; rw [if_pos hi', if_neg hl]
        have ee : ten b n i = e := by
          rw [he]; unfold ten; rw [if_pos hi', if_neg hl]
        obtain ⟨g2, hg2⟩ : ∃ g2, g = g2 + (e - i + 17) := ⟨g - (e - i + 17), by omega⟩
        obtain ⟨g', w, h1, q1, q2⟩ := cut_w (J := J) hn hb H hJ h10 (by omega) hi' he (e - i) 0 g2 (by omega)
        rw [← et] at q1 q2
        have em : am_w (am_w (am_w (am_w M 49 j (nI (kd (tk b n j)))) 50 j (nI i)) 51 j 0) 46 10 (nI (j + 1)) = tkM b n M j 0 := by
          unfold tkM; rw [hp]
        rw [em] at q1 q2
        have q1' : s_X10_cut_L7 g 1 (nI i) 0 0 0 0 0 M J = s_X10_cut_L7 g' 0 (nI e) 0 0 0 0 0 (tkM b n M j 0) (am_w J 52 j w) := by rw [hg2]; exact q1
        have q2' : p_X10_cut_L7 g' 0 (nI e) 0 0 0 0 0 (tkM b n M j 0) (am_w J 52 j w) → p_X10_cut_L7 g 1 (nI i) 0 0 0 0 0 M J := by rw [hg2]; exact q2
        obtain ⟨M', J', T, y1, y2, y3⟩ := nx e 0 (am_w J 52 j w) g' ee hp (fun h => by
          exfalso
          have := (tk_15 (b := b) (n := n) (p := i) (etk.symm.trans h)).2.1
          exact hl this) rfl (by omega)
        exact ⟨M', J', T, q1'.trans y1, ⟨x2, q2' y2⟩, y3⟩
    · rw [bl_4 (hb i) hbl, bl_4 (hb i) hbl]
      obtain ⟨M', J', T, y1, y2, y3⟩ := ih (i + 1) (by omega) (by omega) g M J j (by omega) hj H hJ h10 (by rw [← hpl]; exact (rr_go hi' hbl).symm) hT hN
      exact ⟨M', J', T, y1, ⟨x2, y2⟩, y3⟩
end
