/-! ===== a new telling ===== -/
def tN (fm ev oth lo hi A B : Int32) : Prop := (0 ≤ ev.toInt ∧ ev.toInt < 10) ∧ (0 ≤ oth.toInt ∧ oth.toInt < 10) ∧ ((fm = 0 ∧ A = lo ∧ B = hi ∧ 0 ≤ lo.toInt ∧ lo.toInt ≤ hi.toInt ∧ hi.toInt ≤ 9999) ∨ (fm = 1 ∧ A = oth ∧ B = lo ∧ -9999 ≤ lo.toInt ∧ lo.toInt ≤ 9999) ∨ (fm = 2 ∧ A = oth ∧ B = 0))
def ad_I (I : am_I) (n : Nat) (fm ev oth lo hi : Int32) : am_I := am_w (am_w (am_w (am_w (am_w (am_w I 30 n fm) 31 n ev) 32 n oth) 33 n lo) 34 n hi) 29 7 (nI n + 1)
def ad_M (I : am_I) (n : Nat) (fm ev A B : Int32) : am_I := am_w (am_w (am_w (am_w (am_w I 86 n fm) 87 n ev) 88 n A) 89 n B) 46 61 (nI n + 1)
theorem ad_r {I : am_I} {n : Nat} {fm ev oth lo hi : Int32} {r k : Nat} (h : k ≠ n) (hr : r ≠ 29) : ad_I I n fm ev oth lo hi r k = I r k := by
  unfold ad_I
  rw [aw_k hr]
  have st : ∀ (K : am_I) (q : Nat) (v : Int32), am_w K q n v r k = K r k := fun K q v => by
    by_cases hq : r = q
    · subst hq; exact aw_n h
    · rw [aw_k hq]
  rw [st, st, st, st, st]
theorem VV.tell {nc : Nat} {I : am_I} {J : am_J} {Q : am_Q} {E : Nat → am_I} (hV : VV nc I J Q E) {n s : Nat} (hn : n < 12) (en : I 29 7 = nI n) {fm ev oth lo hi A B : Int32} (hN : tN fm ev oth lo hi A B) (hs : tLo (ad_I I n fm ev oth lo hi) (n + 1) s) : VV nc (ad_M (am_w (ad_I I n fm ev oth lo hi) 35 (n + 1) (nI s)) n fm ev A B) J Q E := by
  have k1 : (nI n + 1).toInt = n + 1 := by rw [nI_1, nI_toInt (by omega)]; omega
  have k2 : (I 29 7).toInt = n := by rw [en, nI_toInt (by omega)]
  obtain ⟨hr, ⟨f1, f2, f3, f4, f5, f6, f7, f8, f9, f10, f11, f12, f13, f14, f15⟩, ⟨b1, b2, b3, b4, b5, b6, b7, b8⟩, hp, ⟨t1, t2, t3, t4⟩, hq⟩ := hV
  refine ⟨hr, ⟨f1, f2, f3, f4, f5, f6, f7, f8, f9, f10, f11, f12, f13, f14, rfl⟩, ⟨b1, b2, b3, b4, b5, b6, b7, ?_⟩, hp, ⟨?_, ?_, fun k hk => ?_, fun m hm => ?_⟩, hq⟩
  · show 0 ≤ (nI n + 1).toInt ∧ (nI n + 1).toInt ≤ 12
    omega
  · show va_up (I 86) n fm = va_up (I 30) n fm
    rw [t1]
  · show va_up (I 87) n ev = va_up (I 31) n ev
    rw [t2]
  · have hk' : (k : Int) < (nI n + 1).toInt := hk
    show (0 ≤ (va_up (I 31) n ev k).toInt ∧ (va_up (I 31) n ev k).toInt < 10) ∧ (0 ≤ (va_up (I 32) n oth k).toInt ∧ (va_up (I 32) n oth k).toInt < 10) ∧ ((va_up (I 30) n fm k = 0 ∧ va_up (I 88) n A k = va_up (I 33) n lo k ∧ va_up (I 89) n B k = va_up (I 34) n hi k ∧ 0 ≤ (va_up (I 33) n lo k).toInt ∧ (va_up (I 33) n lo k).toInt ≤ (va_up (I 34) n hi k).toInt ∧ (va_up (I 34) n hi k).toInt ≤ 9999) ∨ (va_up (I 30) n fm k = 1 ∧ va_up (I 88) n A k = va_up (I 32) n oth k ∧ va_up (I 89) n B k = va_up (I 33) n lo k ∧ -9999 ≤ (va_up (I 33) n lo k).toInt ∧ (va_up (I 33) n lo k).toInt ≤ 9999) ∨ (va_up (I 30) n fm k = 2 ∧ va_up (I 88) n A k = va_up (I 32) n oth k ∧ va_up (I 89) n B k = 0))
    unfold va_up
    by_cases hkn : k = n
    · simp only [if_pos hkn]
      exact hN
    · simp only [if_neg hkn]
      exact t3 k (by omega)
  · have hm' : (m : Int) ≤ (nI n + 1).toInt := hm
    have al : ∀ q, tAl q (ad_I I n fm ev oth lo hi) (ad_M (am_w (ad_I I n fm ev oth lo hi) 35 (n + 1) (nI s)) n fm ev A B) := fun q r h1 h2 k hk => by
      unfold ad_M
      rw [aw_k (by omega), aw_k (by omega), aw_k (by omega), aw_k (by omega), aw_k (by omega), aw_k (by omega)]
    by_cases hmn : m = n + 1
    · refine ⟨s, ?_, ?_⟩
      · rw [tL_cg (al m), hmn]
        exact hs
      · show va_up (I 35) (n + 1) (nI s) m = nI s
        unfold va_up
        rw [if_pos hmn]
    · obtain ⟨s', u1, u2⟩ := t4 m (by omega)
      refine ⟨s', ?_, ?_⟩
      · rw [tL_cg (al m)]
        refine (tL_cg (I := I) (fun r h1 h2 k hk => ?_)).mpr u1
        exact ad_r (by omega) (by omega)
      · show va_up (I 35) (n + 1) (nI s) m = nI s'
        unfold va_up
        rw [if_neg hmn]
        exact u2
/-- the class takes a telling, and the reference -/
theorem ad_all {nc : Nat} {I : am_I} {J : am_J} {Q : am_Q} {E : Nat → am_I} (hV : VV nc I J Q E) {n f : Nat} (hn : n < 12) (en : I 29 7 = nI n) (hf : 5000 ≤ f) {fm ev oth lo hi A B : Int32} (hN : tN fm ev oth lo hi A B) : ∃ (I1 I2 : am_I), p_X5_add f I fm ev oth lo hi ∧ s_X5_add f I fm ev oth lo hi = (nI n, I1) ∧ I1 46 61 = nI n ∧ p_X10_telling I1 fm ev A B ∧ s_X10_telling I1 fm ev A B = (nI n, I2) ∧ (∀ k, 38 ≤ k → k < 46 → I2 k = I k) ∧ VV nc I2 J Q E := by
  have hT := hV.2.2.2.2.1
  have e2 := hV.2.1.2.2.2.2.2.2.2.2.2.2.2.2.2.2
  have hT2 := hT.2.2
  rw [en, nI_toInt (by omega)] at hT2
  obtain ⟨b, c1, c2⟩ := hT2.2 n (by omega)
  have hlt : nI n < 12 := nI_lt (b := 12) (by omega) (by omega)
  have v12 : vp_in (nI n) 12 := vp_in_nI hn (by omega)
  have eA : ad_I I n fm ev oth lo hi = am_w (am_w (am_w (am_w (am_w (am_w I 30 n fm) 31 n ev) 32 n oth) 33 n lo) 34 n hi) 29 7 (nI n + 1) := rfl
  have hw : ∀ k, k < n + 1 → tU (ad_I I n fm ev oth lo hi) k := fun k hk => by
    show (0 ≤ (va_up (I 31) n ev k).toInt ∧ (va_up (I 31) n ev k).toInt < 10) ∧ (0 ≤ (va_up (I 32) n oth k).toInt ∧ (va_up (I 32) n oth k).toInt < 10) ∧ ((va_up (I 30) n fm k = 0 ∧ True ∧ True ∧ 0 ≤ (va_up (I 33) n lo k).toInt ∧ (va_up (I 33) n lo k).toInt ≤ (va_up (I 34) n hi k).toInt ∧ (va_up (I 34) n hi k).toInt ≤ 9999) ∨ (va_up (I 30) n fm k = 1 ∧ True ∧ True ∧ -9999 ≤ (va_up (I 33) n lo k).toInt ∧ (va_up (I 33) n lo k).toInt ≤ 9999) ∨ (va_up (I 30) n fm k = 2 ∧ True ∧ True))
    unfold va_up
    by_cases hkn : k = n
    · simp only [if_pos hkn]
      refine ⟨hN.1, hN.2.1, ?_⟩
      rcases hN.2.2 with ⟨f0, -, -, l⟩ | ⟨f1, -, -, l⟩ | ⟨f2, -, -⟩
      · exact Or.inl ⟨f0, trivial, trivial, l⟩
      · exact Or.inr (Or.inl ⟨f1, trivial, trivial, l⟩)
      · exact Or.inr (Or.inr ⟨f2, trivial, trivial⟩)
    · simp only [if_neg hkn]
      exact (hT2.1 k (by omega)).u
  have h7 : ad_I I n fm ev oth lo hi 29 7 = nI (n + 1) := by
    rw [eA, aw_s, nI_1]
  have h35 : ad_I I n fm ev oth lo hi 35 n = nI b := by
    rw [← c2]
    unfold ad_I
    rw [aw_k (by decide), aw_k (by decide), aw_k (by decide), aw_k (by decide), aw_k (by decide), aw_k (by decide)]
  have hb : tLo (ad_I I n fm ev oth lo hi) n b := (tL_cg (I := I) (fun r h1 h2 k hk => ad_r (by omega) (by omega))).mpr c1
  obtain ⟨s, K, q1, q2, q3, q4⟩ := fl_all (f := f) hn hw h7 hb h35 hf
  have hK7 : K 29 7 = nI (n + 1) := by rw [q3 29 (by decide), h7]
  have hK46 : K 46 = I 46 := by
    rw [q3 46 (by decide), eA, aw_k (by decide), aw_k (by decide), aw_k (by decide), aw_k (by decide), aw_k (by decide), aw_k (by decide)]
  refine ⟨am_w K 35 (n + 1) (nI s), ad_M (am_w K 35 (n + 1) (nI s)) n fm ev A B, ?_, ?_, ?_, ?_, ?_, ?_, ?_⟩
  · unfold p_X5_add
    rw [en, if_pos hlt, nI_clamp (by omega), ← eA]
    exact ⟨v12, v12, v12, v12, v12, q2, by rw [nI_1]; exact vp_in_nI (by omega) (by omega)⟩
  · unfold s_X5_add
    rw [en, if_pos hlt, nI_clamp (by omega), ← eA, q1]
    simp only
    rw [hK7, nI_pred, nI_1, nI_clamp (by omega)]
  · rw [aw_k (by decide), hK46, e2, en]
  · unfold p_X10_telling
    rw [aw_k (by decide), hK46, e2, en]
    exact ⟨v12, v12, v12, v12⟩
  · unfold s_X10_telling ad_M
    rw [aw_k (by decide), hK46, e2, en, nI_clamp (by omega), nI_1, nI_pred]
  · intro k k1 k2
    unfold ad_M
    rw [aw_k (by omega), aw_k (by omega), aw_k (by omega), aw_k (by omega), aw_k (by omega), aw_k (by omega), q3 k (by omega)]
    unfold ad_I
    rw [aw_k (by omega), aw_k (by omega), aw_k (by omega), aw_k (by omega), aw_k (by omega), aw_k (by omega)]
  · refine (hV.tell hn en hN q4).ag (fun k a hs => ?_)
    have hst : ∀ (X Y : am_I) (r j : Nat) (v : Int32), X k a = Y k a → am_w X r j v k a = am_w Y r j v k a := fun X Y r j v h => by
      by_cases hr : k = r
      · subst hr
        by_cases ha : a = j
        · subst ha; rw [aw_s, aw_s]
        · rw [aw_n ha, aw_n ha]; exact h
      · rw [aw_k hr, aw_k hr]; exact h
    unfold ad_M
    refine hst _ _ _ _ _ (hst _ _ _ _ _ (hst _ _ _ _ _ (hst _ _ _ _ _ (hst _ _ _ _ _ (hst _ _ _ _ _ ?_)))))
    rw [q3 k (fun c => by subst c; cases hs)]
theorem ad_full {I : am_I} {f : Nat} {fm ev oth lo hi : Int32} (h : ¬ I 29 7 < 12) : p_X5_add f I fm ev oth lo hi ∧ s_X5_add f I fm ev oth lo hi = (-1, I) := by
  unfold p_X5_add s_X5_add
  rw [if_neg h, if_neg h]
  exact ⟨trivial, rfl⟩
theorem v_12 {I : am_I} {n : Nat} (hn : n ≤ 12) (en : I 29 7 = nI n) : (¬ I 29 7 < 12 ∧ nI n = 12) ∨ (n < 12 ∧ ¬ nI n = 12) := by
  by_cases h : n < 12
  · exact Or.inr ⟨h, fun c => by
      have : nI n = nI 12 := c
      rw [nI_eq (by omega) (by omega)] at this
      omega⟩
  · have hn : n = 12 := by omega
    subst hn
    refine Or.inl ⟨?_, rfl⟩
    rw [en]
    exact nI_nlt (b := 12) (Nat.le_refl _) (by omega)
theorem day_of {a : Int32} (h : ¬ s_X9_isDay a = 0) : 0 ≤ a.toInt ∧ a.toInt ≤ 9999 := by
  unfold s_X9_isDay at h
  have z0 : (0 : Int32).toInt = 0 := rfl
  have z9 : (9999 : Int32).toInt = 9999 := rfl
  by_cases h1 : a < 0
  · rw [if_pos h1] at h; exact absurd rfl h
  · by_cases h2 : 9999 < a
    · rw [if_neg h1, if_pos h2] at h; exact absurd rfl h
    · rw [Int32.lt_iff_toInt_lt] at h1 h2
      omega
theorem ev_b {a : Int32} (h : ¬ s_X9_isEvent a = 0) : 0 ≤ a.toInt ∧ a.toInt < 10 := by
  obtain ⟨e, he, rfl⟩ := ev_of h
  rw [nI_toInt (by omega)]
  omega
theorem sp_span (a b c : Int32) : LStp VV MX9_span MX10_span 6 1 0 0 [.int a, .int b, .int c] := by
  obtain ⟨f, hf⟩ : ∃ f : Nat, 5000 ≤ f := ⟨5000, Nat.le_refl _⟩
  exact st_x (pc := fun I => p_X9_span f I a b c) (pm := fun I => p_X10_span I a b c) (fun I => s_X9_span f I a b c) (fun I => s_X10_span I a b c) (fun I J Q hG h => ct_X9_span f I J Q hG a b c h) (fun I J Q hG h => ct_X10_span f I J Q hG a b c h) (fun nc I J Q E hV => by
    obtain ⟨n, hn, en⟩ := v_nI (m := 12) hV.2.2.1.2.2.2.2.2.2.2
    have e2 := hV.2.1.2.2.2.2.2.2.2.2.2.2.2.2.2.2
    have e0 : s_X10_isEvent a = s_X9_isEvent a := rfl
    have e1 : s_X10_isDay b = s_X9_isDay b := rfl
    have e3 : s_X10_isDay c = s_X9_isDay c := rfl
    by_cases g : s_X9_isEvent a = 0 ∨ s_X9_isDay b = 0 ∨ s_X9_isDay c = 0 ∨ c < b
    · refine ⟨-1, I, I, ?_, ?_, ?_, ?_, fun _ _ _ => rfl, hV⟩
      · unfold p_X9_span; rcases g with g | g | g | g <;> (simp only [if_pos g]; repeat' split) <;> trivial
      · unfold s_X9_span; rcases g with g | g | g | g <;> (simp only [if_pos g]; repeat' split) <;> trivial
      · unfold p_X10_span; rw [e0, e1, e3]
        rcases g with g | g | g | g
        · simp only [if_pos g]; repeat' split
          all_goals trivial
        · simp only [if_pos g]; repeat' split
          all_goals trivial
        · simp only [if_pos g]; repeat' split
          all_goals trivial
        · have g' : ¬ b ≤ c := by rw [Int32.le_iff_toInt_le]; rw [Int32.lt_iff_toInt_lt] at g; omega
          simp only [if_neg g']; repeat' split
          all_goals trivial
      · unfold s_X10_span; rw [e0, e1, e3]
        rcases g with g | g | g | g
        · simp only [if_pos g]; repeat' split
          all_goals trivial
        · simp only [if_pos g]; repeat' split
          all_goals trivial
        · simp only [if_pos g]; repeat' split
          all_goals trivial
        · have g' : ¬ b ≤ c := by rw [Int32.le_iff_toInt_le]; rw [Int32.lt_iff_toInt_lt] at g; omega
          simp only [if_neg g']; repeat' split
          all_goals trivial
    · have g1 : ¬ s_X9_isEvent a = 0 := fun h => g (Or.inl h)
      have g2 : ¬ s_X9_isDay b = 0 := fun h => g (Or.inr (Or.inl h))
      have g3 : ¬ s_X9_isDay c = 0 := fun h => g (Or.inr (Or.inr (Or.inl h)))
      have g4 : ¬ c < b := fun h => g (Or.inr (Or.inr (Or.inr h)))
      have g5 : b ≤ c := by rw [Int32.le_iff_toInt_le]; rw [Int32.lt_iff_toInt_lt] at g4; omega
      have k1 := ev_b g1
      have k2 := day_of g2
      have k3 := day_of g3
      have k5 := g5
      rw [Int32.le_iff_toInt_le] at k5
      unfold p_X9_span s_X9_span p_X10_span s_X10_span
      simp only [e0, e1, e3, if_neg g1, if_neg g2, if_neg g3, if_neg g4, if_pos g5]
      rcases v_12 hn en with ⟨h1, h2⟩ | ⟨h1, h2⟩
      · obtain ⟨q1, q2⟩ := ad_full (f := f) (fm := 0) (ev := a) (oth := a) (lo := b) (hi := c) h1
        refine ⟨-1, I, I, q1, by rw [q2], ?_, ?_, fun _ _ _ => rfl, hV⟩
        · rw [if_pos (by rw [e2, en, h2])]; trivial
        · rw [if_pos (by rw [e2, en, h2])]
      · obtain ⟨I1, I2, q1, q2, q3, q4, q5, q6, q7⟩ := ad_all hV h1 en hf (fm := 0) (ev := a) (oth := a) (lo := b) (hi := c) (A := b) (B := c) ⟨k1, k1, Or.inl ⟨rfl, rfl, rfl, k2.1, k5, k3.2⟩⟩
        refine ⟨nI n, I1, I2, q1, by rw [q2], ?_, ?_, q6, q7⟩
        · rw [if_neg (by rw [q3]; exact h2)]; exact q4
        · rw [if_neg (by rw [q3]; exact h2), q5])
theorem sp_same (a b : Int32) : LStp VV MX9_same MX10_same 6 1 0 0 [.int a, .int b] := by
  obtain ⟨f, hf⟩ : ∃ f : Nat, 5000 ≤ f := ⟨5000, Nat.le_refl _⟩
  exact st_x (pc := fun I => p_X9_same f I a b) (pm := fun I => p_X10_same I a b) (fun I => s_X9_same f I a b) (fun I => s_X10_same I a b) (fun I J Q hG h => ct_X9_same f I J Q hG a b h) (fun I J Q hG h => ct_X10_same f I J Q hG a b h) (fun nc I J Q E hV => by
    obtain ⟨n, hn, en⟩ := v_nI (m := 12) hV.2.2.1.2.2.2.2.2.2.2
    have e2 := hV.2.1.2.2.2.2.2.2.2.2.2.2.2.2.2.2
    have e0 : s_X10_isEvent a = s_X9_isEvent a := rfl
    have e1 : s_X10_isEvent b = s_X9_isEvent b := rfl
    by_cases g : s_X9_isEvent a = 0 ∨ s_X9_isEvent b = 0 ∨ a = b
    · have g0 : s_X9_areTwoEvents a b = 0 := by
        unfold s_X9_areTwoEvents
        rcases g with g | g | g <;> (simp only [if_pos g]; repeat' split) <;> rfl
      refine ⟨-1, I, I, ?_, ?_, ?_, ?_, fun _ _ _ => rfl, hV⟩
      · unfold p_X9_same; rw [if_pos g0]; trivial
      · unfold s_X9_same; rw [if_pos g0]
      · unfold p_X10_same; rw [e0, e1]
        rcases g with g | g | g <;> (simp only [if_pos g]; repeat' split) <;> trivial
      · unfold s_X10_same; rw [e0, e1]
        rcases g with g | g | g <;> (simp only [if_pos g]; repeat' split) <;> trivial
    · have g1 : ¬ s_X9_isEvent a = 0 := fun h => g (Or.inl h)
      have g2 : ¬ s_X9_isEvent b = 0 := fun h => g (Or.inr (Or.inl h))
      have g3 : ¬ a = b := fun h => g (Or.inr (Or.inr h))
      have g0 : ¬ s_X9_areTwoEvents a b = 0 := by
        unfold s_X9_areTwoEvents
        rw [if_neg g1, if_neg g2, if_neg g3]
        decide
      have k1 := ev_b g1
      have k2 := ev_b g2
      unfold p_X9_same s_X9_same p_X10_same s_X10_same
      simp only [e0, e1, if_neg g0, if_neg g1, if_neg g2, if_neg g3]
      rcases v_12 hn en with ⟨h1, h2⟩ | ⟨h1, h2⟩
      · obtain ⟨q1, q2⟩ := ad_full (f := f) (fm := 2) (ev := a) (oth := b) (lo := 0) (hi := 0) h1
        refine ⟨-1, I, I, q1, by rw [q2], ?_, ?_, fun _ _ _ => rfl, hV⟩
        · rw [if_pos (by rw [e2, en, h2])]; trivial
        · rw [if_pos (by rw [e2, en, h2])]
      · obtain ⟨I1, I2, q1, q2, q3, q4, q5, q6, q7⟩ := ad_all hV h1 en hf (fm := 2) (ev := a) (oth := b) (lo := 0) (hi := 0) (A := b) (B := 0) ⟨k1, k2, Or.inr (Or.inr ⟨rfl, rfl, rfl⟩)⟩
        refine ⟨nI n, I1, I2, q1, by rw [q2], ?_, ?_, q6, q7⟩
        · rw [if_neg (by rw [q3]; exact h2)]; exact q4
        · rw [if_neg (by rw [q3]; exact h2), q5])
theorem sp_behind (a b c : Int32) : LStp VV MX9_behind MX10_behind 6 1 0 0 [.int a, .int b, .int c] := by
  obtain ⟨f, hf⟩ : ∃ f : Nat, 5000 ≤ f := ⟨5000, Nat.le_refl _⟩
  exact st_x (pc := fun I => p_X9_behind f I a b c) (pm := fun I => p_X10_behind I a b c) (fun I => s_X9_behind f I a b c) (fun I => s_X10_behind I a b c) (fun I J Q hG h => ct_X9_behind f I J Q hG a b c h) (fun I J Q hG h => ct_X10_behind f I J Q hG a b c h) (fun nc I J Q E hV => by
    obtain ⟨n, hn, en⟩ := v_nI (m := 12) hV.2.2.1.2.2.2.2.2.2.2
    have e2 := hV.2.1.2.2.2.2.2.2.2.2.2.2.2.2.2.2
    have e0 : s_X10_isEvent a = s_X9_isEvent a := rfl
    have e1 : s_X10_isEvent b = s_X9_isEvent b := rfl
    have z1 : (-9999 : Int32).toInt = -9999 := rfl
    have z2 : (9999 : Int32).toInt = 9999 := rfl
    by_cases g : s_X9_isEvent a = 0 ∨ s_X9_isEvent b = 0 ∨ a = b
    · have g0 : s_X9_areTwoEvents a b = 0 := by
        unfold s_X9_areTwoEvents
        rcases g with g | g | g <;> (simp only [if_pos g]; repeat' split) <;> rfl
      refine ⟨-1, I, I, ?_, ?_, ?_, ?_, fun _ _ _ => rfl, hV⟩
      · unfold p_X9_behind p_X9_behind_J19; simp only [if_pos g0]; repeat' split
        all_goals trivial
      · unfold s_X9_behind s_X9_behind_J19; simp only [if_pos g0]; repeat' split
        all_goals trivial
      · unfold p_X10_behind; rw [e0, e1]
        rcases g with g | g | g <;> (simp only [if_pos g]; repeat' split) <;> trivial
      · unfold s_X10_behind; rw [e0, e1]
        rcases g with g | g | g <;> (simp only [if_pos g]; repeat' split) <;> trivial
    · have g1 : ¬ s_X9_isEvent a = 0 := fun h => g (Or.inl h)
      have g2 : ¬ s_X9_isEvent b = 0 := fun h => g (Or.inr (Or.inl h))
      have g3 : ¬ a = b := fun h => g (Or.inr (Or.inr h))
      have g0 : ¬ s_X9_areTwoEvents a b = 0 := by
        unfold s_X9_areTwoEvents
        rw [if_neg g1, if_neg g2, if_neg g3]
        decide
      have k1 := ev_b g1
      have k2 := ev_b g2
      by_cases d1 : c < -9999
      · refine ⟨-1, I, I, ?_, ?_, ?_, ?_, fun _ _ _ => rfl, hV⟩
        · unfold p_X9_behind p_X9_behind_J19; rw [if_pos d1, if_neg g0, if_pos rfl]; trivial
        · unfold s_X9_behind s_X9_behind_J19; rw [if_pos d1, if_neg g0, if_pos rfl]
        · unfold p_X10_behind; rw [e0, e1]; simp only [if_pos d1]; repeat' split
          all_goals trivial
        · unfold s_X10_behind; rw [e0, e1]; simp only [if_pos d1]; repeat' split
          all_goals trivial
      · by_cases d2 : 9999 < c
        · have d2' : ¬ c ≤ 9999 := by rw [Int32.le_iff_toInt_le]; rw [Int32.lt_iff_toInt_lt] at d2; omega
          refine ⟨-1, I, I, ?_, ?_, ?_, ?_, fun _ _ _ => rfl, hV⟩
          · unfold p_X9_behind p_X9_behind_J19; rw [if_neg d1, if_pos d2, if_neg g0, if_pos rfl]; trivial
          · unfold s_X9_behind s_X9_behind_J19; rw [if_neg d1, if_pos d2, if_neg g0, if_pos rfl]
          · unfold p_X10_behind; rw [e0, e1]; simp only [if_neg d2']; repeat' split
            all_goals trivial
          · unfold s_X10_behind; rw [e0, e1]; simp only [if_neg d2']; repeat' split
            all_goals trivial
        · have d2' : c ≤ 9999 := by rw [Int32.le_iff_toInt_le]; rw [Int32.lt_iff_toInt_lt] at d2; omega
          have k3 : -9999 ≤ c.toInt ∧ c.toInt ≤ 9999 := by
            rw [Int32.lt_iff_toInt_lt] at d1 d2
            omega
          unfold p_X9_behind s_X9_behind p_X9_behind_J19 s_X9_behind_J19 p_X10_behind s_X10_behind
          simp only [e0, e1, if_neg g0, if_neg g1, if_neg g2, if_neg g3, if_neg d1, if_neg d2, if_pos d2', if_neg (show ¬ (1 : Int32) = 0 by decide)]
          rcases v_12 hn en with ⟨h1, h2⟩ | ⟨h1, h2⟩
          · obtain ⟨q1, q2⟩ := ad_full (f := f) (fm := 1) (ev := a) (oth := b) (lo := c) (hi := 0) h1
            refine ⟨-1, I, I, q1, by rw [q2], ?_, ?_, fun _ _ _ => rfl, hV⟩
            · rw [if_pos (by rw [e2, en, h2])]; trivial
            · rw [if_pos (by rw [e2, en, h2])]
          · obtain ⟨I1, I2, q1, q2, q3, q4, q5, q6, q7⟩ := ad_all hV h1 en hf (fm := 1) (ev := a) (oth := b) (lo := c) (hi := 0) (A := b) (B := c) ⟨k1, k2, Or.inr (Or.inl ⟨rfl, rfl, rfl, k3⟩)⟩
            refine ⟨nI n, I1, I2, q1, by rw [q2], ?_, ?_, q6, q7⟩
            · rw [if_neg (by rw [q3]; exact h2)]; exact q4
            · rw [if_neg (by rw [q3]; exact h2), q5])
