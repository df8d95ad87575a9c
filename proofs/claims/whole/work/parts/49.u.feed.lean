/-! ===== feed ===== -/
/-- the text, new on both sides -/
theorem VV.text {nc : Nat} {I : am_I} {J : am_J} {Q : am_Q} {E : Nat → am_I} (hV : VV nc I J Q E) (r : Nat → Int32) (hb : ∀ k, vp_nar .byte (r k) = r k) (x : Int32) (hx : 0 ≤ x.toInt ∧ x.toInt ≤ 2000) : VV nc (va_up (va_up (am_w (am_w I 1 1 x) 46 2 x) 2 r) 47 r) J Q E := by
  obtain ⟨⟨r1, r2, r3⟩, hs, ⟨b1, b2⟩, hq⟩ := hV
  exact ⟨⟨⟨rfl, hb⟩, rfl, r3⟩, hs, ⟨hx, b2⟩, hq⟩
def fd_c (I : am_I) (b : Int32) : am_I := am_w (am_w I 2 (I 1 1).toNatClampNeg b) 1 1 (I 1 1 + 1)
def fd_m (I : am_I) (b : Int32) : am_I := am_w (am_w I 47 (I 46 2).toNatClampNeg b) 46 2 (I 46 2 + 1)
def fd_R (n : Nat) (I K : am_I) : Prop := I 1 1 = nI n ∧ K 46 2 = nI n ∧ K 47 = I 2
def fd_F (I I' : am_I) : Prop := ∀ k a, k ≠ 2 → ¬ (k = 1 ∧ a = 1) → I' k a = I k a
def fd_G (I I' : am_I) : Prop := ∀ k a, k ≠ 47 → ¬ (k = 46 ∧ a = 2) → I' k a = I k a
theorem fd_st {n : Nat} {I K : am_I} (b : Int32) (h : fd_R n I K) : fd_R (n + 1) (fd_c I b) (fd_m K b) := by
  obtain ⟨h1, h2, h3⟩ := h
  refine ⟨?_, ?_, ?_⟩
  · show I 1 1 + 1 = _
    rw [h1, nI_1]
  · show K 46 2 + 1 = _
    rw [h2, nI_1]
  · show va_up (K 47) (K 46 2).toNatClampNeg b = va_up (I 2) (I 1 1).toNatClampNeg b
    rw [h1, h2, h3]
theorem fd_cF {I I' : am_I} {b : Int32} (h : fd_F I I') : fd_F I (fd_c I' b) := by
  intro k a h1 h2
  rw [← h k a h1 h2]
  unfold fd_c am_w va_up
  by_cases hk : k = 1
  · subst hk
    have : ¬ a = 1 := fun h => h2 ⟨rfl, h⟩
    simp [this]
  · simp [hk, h1]
theorem fd_mG {I I' : am_I} {b : Int32} (h : fd_G I I') : fd_G I (fd_m I' b) := by
  intro k a h1 h2
  rw [← h k a h1 h2]
  unfold fd_m am_w va_up
  by_cases hk : k = 46
  · subst hk
    have : ¬ a = 2 := fun h => h2 ⟨rfl, h⟩
    simp [this]
  · simp [hk, h1]
def fd_b (a : Int32) (s : Int32) : Int32 := vp_nar .byte ((a >>> (s &&& 31)).toInt8.toInt32)
def fd_c4 (I : am_I) (a : Int32) : am_I := fd_c (fd_c (fd_c (fd_c I (fd_b a 24)) (fd_b a 16)) (fd_b a 8)) (fd_b a 0)
def fd_m4 (I : am_I) (a : Int32) : am_I := fd_m (fd_m (fd_m (fd_m I (fd_b a 24)) (fd_b a 16)) (fd_b a 8)) (fd_b a 0)
theorem fd_s1 {I : am_I} {n g : Nat} {a v v' : Int32} (h : I 1 1 = nI n) (hn : n < 2000) (hv : ¬ v < 0) (hv' : v + -8 = v') : s_X6_addFour_L3 a (g + 1) v I = s_X6_addFour_L3 a g v' (fd_c I (fd_b a v)) ∧ (p_X6_addFour_L3 a g v' (fd_c I (fd_b a v)) → p_X6_addFour_L3 a (g + 1) v I) := by
  subst hv'
  have h2 : ¬ 2000 ≤ I 1 1 := by rw [h]; exact nI_ge (b := 2000) (by omega) (by omega)
  rw [u_s_X6_addFour_L3, u_p_X6_addFour_L3, if_neg hv, if_neg hv, if_neg h2, if_neg h2]
  exact ⟨rfl, fun hp => ⟨by rw [h]; exact vp_in_nI (by omega) (by omega), hp⟩⟩
theorem fd_t1 {I : am_I} {n g : Nat} {a v v' : Int32} (h : I 46 2 = nI n) (hn : n < 2000) (hv : ¬ v < 0) (hv' : v + -8 = v') : s_X10_put_L3 a (g + 1) v I = s_X10_put_L3 a g v' (fd_m I (fd_b a v)) ∧ (p_X10_put_L3 a g v' (fd_m I (fd_b a v)) → p_X10_put_L3 a (g + 1) v I) := by
  subst hv'
  rw [u_s_X10_put_L3, u_p_X10_put_L3, if_neg hv, if_neg hv]
  exact ⟨rfl, fun hp => ⟨by rw [h]; exact vp_in_nI (by omega) (by omega), hp⟩⟩
theorem fd_4 {I : am_I} {n g : Nat} {a : Int32} (h : I 1 1 = nI n) (hn : n + 4 ≤ 2000) (hg : 5 ≤ g) : s_X6_addFour g I a = fd_c4 I a ∧ p_X6_addFour g I a ∧ (fd_c4 I a) 1 1 = nI (n + 4) := by
  obtain ⟨g, rfl⟩ : ∃ k, g = k + 1 + 1 + 1 + 1 + 1 := ⟨g - 5, by omega⟩
  have i1 : (fd_c I (fd_b a 24)) 1 1 = nI (n + 1) := by show I 1 1 + 1 = _; rw [h, nI_1]
  have i2 : (fd_c (fd_c I (fd_b a 24)) (fd_b a 16)) 1 1 = nI (n + 2) := by show (fd_c I (fd_b a 24)) 1 1 + 1 = _; rw [i1, nI_1]
  have i3 : (fd_c (fd_c (fd_c I (fd_b a 24)) (fd_b a 16)) (fd_b a 8)) 1 1 = nI (n + 3) := by show (fd_c (fd_c I (fd_b a 24)) (fd_b a 16)) 1 1 + 1 = _; rw [i2, nI_1]
  have a1 := fd_s1 (g := g + 1 + 1 + 1 + 1) (a := a) (v := 24) (v' := 16) h (by omega) (by decide) (by decide)
  have a2 := fd_s1 (g := g + 1 + 1 + 1) (a := a) (v := 16) (v' := 8) i1 (by omega) (by decide) (by decide)
  have a3 := fd_s1 (g := g + 1 + 1) (a := a) (v := 8) (v' := 0) i2 (by omega) (by decide) (by decide)
  have a4 := fd_s1 (g := g + 1) (a := a) (v := 0) (v' := -8) i3 (by omega) (by decide) (by decide)
  have a5 : s_X6_addFour_L3 a (g + 1) (-8) (fd_c4 I a) = fd_c4 I a ∧ p_X6_addFour_L3 a (g + 1) (-8) (fd_c4 I a) := by
    rw [u_s_X6_addFour_L3, u_p_X6_addFour_L3, if_pos (by decide), if_pos (by decide)]
    exact ⟨rfl, trivial⟩
  refine ⟨?_, a1.2 (a2.2 (a3.2 (a4.2 a5.2))), ?_⟩
  · unfold s_X6_addFour
    rw [a1.1, a2.1, a3.1, a4.1]
    exact a5.1
  · show (fd_c (fd_c (fd_c I (fd_b a 24)) (fd_b a 16)) (fd_b a 8)) 1 1 + 1 = _
    rw [i3, nI_1]
theorem fd_5 {I : am_I} {n g : Nat} {a : Int32} (h : I 46 2 = nI n) (hn : n + 4 ≤ 2000) (hg : 5 ≤ g) : s_X10_put g I a = fd_m4 I a ∧ p_X10_put g I a ∧ (fd_m4 I a) 46 2 = nI (n + 4) := by
  obtain ⟨g, rfl⟩ : ∃ k, g = k + 1 + 1 + 1 + 1 + 1 := ⟨g - 5, by omega⟩
  have i1 : (fd_m I (fd_b a 24)) 46 2 = nI (n + 1) := by show I 46 2 + 1 = _; rw [h, nI_1]
  have i2 : (fd_m (fd_m I (fd_b a 24)) (fd_b a 16)) 46 2 = nI (n + 2) := by show (fd_m I (fd_b a 24)) 46 2 + 1 = _; rw [i1, nI_1]
  have i3 : (fd_m (fd_m (fd_m I (fd_b a 24)) (fd_b a 16)) (fd_b a 8)) 46 2 = nI (n + 3) := by show (fd_m (fd_m I (fd_b a 24)) (fd_b a 16)) 46 2 + 1 = _; rw [i2, nI_1]
  have a1 := fd_t1 (g := g + 1 + 1 + 1 + 1) (a := a) (v := 24) (v' := 16) h (by omega) (by decide) (by decide)
  have a2 := fd_t1 (g := g + 1 + 1 + 1) (a := a) (v := 16) (v' := 8) i1 (by omega) (by decide) (by decide)
  have a3 := fd_t1 (g := g + 1 + 1) (a := a) (v := 8) (v' := 0) i2 (by omega) (by decide) (by decide)
  have a4 := fd_t1 (g := g + 1) (a := a) (v := 0) (v' := -8) i3 (by omega) (by decide) (by decide)
  have a5 : s_X10_put_L3 a (g + 1) (-8) (fd_m4 I a) = fd_m4 I a ∧ p_X10_put_L3 a (g + 1) (-8) (fd_m4 I a) := by
    rw [u_s_X10_put_L3, u_p_X10_put_L3, if_pos (by decide), if_pos (by decide)]
    exact ⟨rfl, trivial⟩
  refine ⟨?_, a1.2 (a2.2 (a3.2 (a4.2 a5.2))), ?_⟩
  · unfold s_X10_put
    rw [a1.1, a2.1, a3.1, a4.1]
    exact a5.1
  · show (fd_m (fd_m (fd_m I (fd_b a 24)) (fd_b a 16)) (fd_b a 8)) 46 2 + 1 = _
    rw [i3, nI_1]
theorem fd_R4 {n : Nat} {I K : am_I} (a : Int32) (h : fd_R n I K) : fd_R (n + 4) (fd_c4 I a) (fd_m4 K a) := fd_st _ (fd_st _ (fd_st _ (fd_st _ h)))
theorem fd_F4 {I I' : am_I} {a : Int32} (h : fd_F I I') : fd_F I (fd_c4 I' a) := fd_cF (fd_cF (fd_cF (fd_cF h)))
theorem fd_G4 {I I' : am_I} {a : Int32} (h : fd_G I I') : fd_G I (fd_m4 I' a) := fd_mG (fd_mG (fd_mG (fd_mG h)))
def fd_N (I : am_I) : Prop := ∀ k, vp_nar .byte (I 2 k) = I 2 k
theorem fd_bN {a s : Int32} : vp_nar .byte (fd_b a s) = fd_b a s := by
  unfold fd_b
  rw [pk_vb, pk_vb]
theorem fd_cN {I : am_I} {b : Int32} (h : fd_N I) (hb : vp_nar .byte b = b) : fd_N (fd_c I b) := by
  intro k
  show vp_nar .byte (va_up (I 2) (I 1 1).toNatClampNeg b k) = va_up (I 2) (I 1 1).toNatClampNeg b k
  unfold va_up
  split
  · exact hb
  · exact h k
theorem fd_N4 {I : am_I} {a : Int32} (h : fd_N I) : fd_N (fd_c4 I a) := fd_cN (fd_cN (fd_cN (fd_cN h fd_bN) fd_bN) fd_bN) fd_bN
theorem fd_6 {I : am_I} {n m g : Nat} (a : Int32) (h : I 1 1 = nI n) (hm : m = n + 4) (hn : m ≤ 2000) (hg : 5 ≤ g) : ∃ I' : am_I, s_X6_addFour g I a = I' ∧ p_X6_addFour g I a ∧ I' 1 1 = nI m ∧ (fd_F I I' ∧ (fd_N I → fd_N I')) ∧ ∀ K : am_I, fd_R n I K → ∃ K' : am_I, s_X10_put g K a = K' ∧ p_X10_put g K a ∧ fd_R m I' K' ∧ fd_G K K' := by
  subst hm
  obtain ⟨x1, p1, s1⟩ := fd_4 (a := a) h (by omega) hg
  refine ⟨fd_c4 I a, x1, p1, s1, ⟨fd_F4 (fun _ _ _ _ => rfl), fd_N4⟩, fun K hR => ?_⟩
  obtain ⟨y1, q1, t1⟩ := fd_5 (a := a) hR.2.1 (by omega) hg
  exact ⟨fd_m4 K a, y1, q1, fd_R4 a hR, fd_G4 (fun _ _ _ _ => rfl)⟩
theorem fd_F.tr {I I' I'' : am_I} (h : fd_F I I') (h2 : fd_F I' I'') : fd_F I I'' := fun k a c d => (h2 k a c d).trans (h k a c d)
theorem fd_G.tr {I I' I'' : am_I} (h : fd_G I I') (h2 : fd_G I' I'') : fd_G I I'' := fun k a c d => (h2 k a c d).trans (h k a c d)
theorem fd_fin {I K M : am_I} {x : Int32} (hF : fd_F I K) (hG : fd_G K M) (h1 : K 1 1 = x) (h2 : M 46 2 = x) (h3 : M 47 = K 2) : Ag (va_up (va_up (am_w (am_w I 1 1 x) 46 2 x) 2 (K 2)) 47 (K 2)) M := by
  intro k a' _
  by_cases k47 : k = 47
  · subst k47
    exact congrFun h3 a'
  · by_cases k2 : k = 2
    · subst k2
      exact hG 2 a' (by decide) (by omega)
    · by_cases k46 : k = 46 ∧ a' = 2
      · obtain ⟨rfl, rfl⟩ := k46
        exact h2
      · rw [hG k a' k47 k46]
        by_cases k1 : k = 1 ∧ a' = 1
        · obtain ⟨rfl, rfl⟩ := k1
          exact h1
        · rw [hF k a' k2 k1]
          unfold am_w va_up
          by_cases z1 : k = 1
          · subst z1
            have : ¬ a' = 1 := fun h => k1 ⟨rfl, h⟩
            simp [this]
          · by_cases z2 : k = 46
            · subst z2
              have : ¬ a' = 2 := fun h => k46 ⟨rfl, h⟩
              simp [this]
            · simp [k47, k2, z1, z2]
theorem sp_feed (a b c d e : Int32) : LStp VV MX9_feed MX10_feed 2 1 0 0 [.int a, .int b, .int c, .int d, .int e] := by
  obtain ⟨f, hf⟩ : ∃ f : Nat, 100 ≤ f := ⟨100, Nat.le_refl _⟩
  refine st_x (pc := fun I => p_X9_feed f I a b c d e) (pm := fun I => p_X10_feed f I a b c d e) (fun I => s_X9_feed f I a b c d e) (fun I => s_X10_feed f I a b c d e) (fun I J Q hG h => ct_X9_feed f I J Q hG a b c d e h) (fun I J Q hG h => ct_X10_feed f I J Q hG a b c d e h) (fun nc I J Q E hV => ?_)
  obtain ⟨n, hn, en⟩ := v_nI (m := 2000) hV.2.2.1.1
  have e2 : I 46 2 = nI n := hV.1.2.1.trans en
  by_cases hc : n + 20 ≤ 2000
  · have c0 : I 1 1 + 20 ≤ 2000 := by rw [en]; show nI n + nI 20 ≤ nI 2000; rw [nI_add]; exact nI_le hc (by omega)
    obtain ⟨I1, x1, p1, s1, ⟨F1, N1⟩, R1⟩ := fd_6 (m := n + 4) (g := f) a en rfl (by omega) (by omega)
    obtain ⟨I2, x2, p2, s2, ⟨F2, N2⟩, R2⟩ := fd_6 (m := n + 8) (g := f) b s1 (by omega) (by omega) (by omega)
    obtain ⟨I3, x3, p3, s3, ⟨F3, N3⟩, R3⟩ := fd_6 (m := n + 12) (g := f) c s2 (by omega) (by omega) (by omega)
    obtain ⟨I4, x4, p4, s4, ⟨F4, N4⟩, R4⟩ := fd_6 (m := n + 16) (g := f) d s3 (by omega) (by omega) (by omega)
    obtain ⟨K, x5, p5, s5, ⟨F5, N5⟩, R5⟩ := fd_6 (m := n + 20) (g := f) e s4 (by omega) (by omega) (by omega)
    have hF : fd_F I K := (((F1.tr F2).tr F3).tr F4).tr F5
    have hR0 : fd_R n I K := ⟨en, (hF 46 2 (by decide) (by decide)).trans e2, (funext fun k => hF 47 k (by decide) (by omega)).trans hV.1.1.1⟩
    obtain ⟨K1, y1, q1, r1, G1⟩ := R1 K hR0
    obtain ⟨K2, y2, q2, r2, G2⟩ := R2 K1 r1
    obtain ⟨K3, y3, q3, r3, G3⟩ := R3 K2 r2
    obtain ⟨K4, y4, q4, r4, G4⟩ := R4 K3 r3
    obtain ⟨M, y5, q5, r5, G5⟩ := R5 K4 r4
    have hG : fd_G K M := (((G1.tr G2).tr G3).tr G4).tr G5
    have c1 : K 46 2 + 20 ≤ 2000 := by rw [hR0.2.1]; show nI n + nI 20 ≤ nI 2000; rw [nI_add]; exact nI_le hc (by omega)
    refine ⟨nI (n + 20), K, M, ?_, ?_, ?_, ?_, fun k h1 h2 => ?_, ?_⟩
    · unfold p_X9_feed p_X6_addTwenty
      rw [if_pos c0, x1, x2, x3, x4]
      exact ⟨p1, p2, p3, p4, p5⟩
    · unfold s_X9_feed s_X6_addTwenty
      rw [if_pos c0, x1, x2, x3, x4, x5, s5]
    · unfold p_X10_feed
      rw [if_pos c1, y1, y2, y3, y4]
      exact ⟨q1, q2, q3, q4, q5⟩
    · unfold s_X10_feed
      rw [if_pos c1, y1, y2, y3, y4, y5, r5.2.1]
    · funext a'
      rw [hG k a' (by omega) (by omega), hF k a' (by omega) (by omega)]
    · exact VV.ag (fd_fin hF hG s5 r5.2.1 r5.2.2) (hV.text (K 2) (N5 (N4 (N3 (N2 (N1 hV.1.1.2))))) (nI (n + 20)) (by rw [nI_toInt (by omega)]; omega))
  · have c0 : ¬ I 1 1 + 20 ≤ 2000 := by rw [en]; show ¬ nI n + nI 20 ≤ nI 2000; rw [nI_add]; exact nI_ge (by omega) (by omega)
    have c1 : ¬ I 46 2 + 20 ≤ 2000 := by rw [hV.1.2.1]; exact c0
    refine ⟨-1, I, I, ?_, ?_, ?_, ?_, fun _ _ _ => rfl, hV⟩
    · unfold p_X9_feed p_X6_addTwenty; rw [if_neg c0]; trivial
    · unfold s_X9_feed s_X6_addTwenty; rw [if_neg c0]
    · unfold p_X10_feed; rw [if_neg c1]; trivial
    · unfold s_X10_feed; rw [if_neg c1]
