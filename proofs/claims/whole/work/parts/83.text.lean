section
/-! ===== a whole text, both sides ===== -/
theorem cp_l {b : Nat → Int32} {n f : Nat} {a1 : Int32} {J : am_J} (hn : n ≤ 2000) (hb : ∀ k, vp_nar .byte (b k) = b k) : ∀ d i g (N : am_I), i + d = n → N 46 4 = nI n → N 47 = b → (∀ q, q < i → N 48 q = b q) → ∃ N' : am_I, (∀ r, r ≠ 48 → N' r = N r) ∧ (∀ q, q < n → N' 48 q = b q) ∧ s_X10_read_L20 a1 f (g + d) (nI i) N J = s_X10_read_L20 a1 f g (nI n) N' J ∧ (p_X10_read_L20 a1 f g (nI n) N' J → p_X10_read_L20 a1 f (g + d) (nI i) N J) := by
  intro d
  induction d with
  | zero =>
    intro i g N hi h1 h2 h3
    have e : i = n := by omega
    subst e
    exact ⟨N, fun _ _ => rfl, h3, rfl, id⟩
  | succ d ih =>
    intro i g N hi h1 h2 h3
    have c : ¬ nI n ≤ nI i := nI_ge (by omega) (by omega)
    have v : vp_in (nI i) 2000 := vp_in_nI (by omega) (by omega)
    obtain ⟨N', y1, y2, y3, y4⟩ := ih (i + 1) g (am_w N 48 i (b i)) (by omega) h1 h2 (fun q hq => by
      by_cases e : q = i
      · subst e; rw [aw_s]
      · rw [aw_n e]; exact h3 q (by omega))
    refine ⟨N', fun r hr => (y1 r hr).trans (aw_k hr), y2, ?_, ?_⟩
    · rw [show g + (d + 1) = (g + d) + 1 by omega, u_s_X10_read_L20, h1, if_neg c, nI_clamp (by omega), nI_1, h2, hb i]
      exact y3
    · intro q
      rw [show g + (d + 1) = (g + d) + 1 by omega, u_p_X10_read_L20, h1, if_neg c, nI_clamp (by omega), nI_1, h2, hb i]
      exact ⟨v, v, y4 q⟩
/-- where the reference may write when it reads a text of person p -/
def scR (p g k a : Nat) : Prop := scM g k a ∨ (k = 46 ∧ (a = 2 ∨ a = 4 ∨ a = 10 ∨ a = 17 ∨ a = 19)) ∨ k = 48 ∨ k = 49 ∨ k = 50 ∨ k = 51 ∨ (k = 54 ∧ a = p)
theorem rd_b {n tp p np lv f : Nat} {K N : am_I} {J : am_J} (hf : 100000 ≤ f) (hn : n ≤ 2000) (k1 : K 1 1 = nI n) (hb : ∀ k, vp_nar .byte (K 2 k) = K 2 k) (htp : tp ≤ 12) (n2 : N 46 2 = nI n) (n47 : N 47 = K 2) (n38 : N 46 38 = nI tp) (n35 : N 46 35 = nI np) (hnp : np ≤ 12) (hp : p < np) (n54 : N 54 p = nI lv) (hlv : lv < 2) (hJ : J 53 = k_J 53) : ∃ (x : Int32) (I' M' : am_I) (J' : am_J), (s_X2_parse f K (nI tp) = (x, I') ∧ p_X2_parse f K (nI tp)) ∧ (s_X10_read f N J (nI p) = (x, M', J') ∧ p_X10_read f N J (nI p)) ∧ FrD K I' ∧ (∀ k a, ¬ scR p (2 * p + 1 - lv) k a → M' k a = N k a) ∧ M' 46 17 = I' 3 7 ∧ M' 46 2 = 0 ∧ J' 53 = J 53 ∧ (¬ x = 0 → M' 54 p = N 54 p) ∧ (x = 0 → M' 54 p = nI (1 - lv) ∧ CR (fun i => I' (38 + i)) M' (2 * p + 1 - lv)) := by
  obtain ⟨g, hg⟩ : ∃ g, g = 2 * p + 1 - lv := ⟨_, rfl⟩
  have hg24 : g < 24 := by omega
  obtain ⟨b, hbd⟩ : ∃ b, b = K 2 := ⟨_, rfl⟩
  rw [← hbd] at hb n47
  -- the reference copies and cuts
  have per : ¬ s_X10_isPerson N (nI p) = 0 := by
    unfold s_X10_isPerson
    rw [n35, if_neg (nI_pos (by omega)), if_neg (nI_ge hp (by omega))]
    decide
  obtain ⟨N', y1, y2, y3, y4⟩ := cp_l (b := b) (f := f) (a1 := nI p) (J := J) hn hb n 0 (f - n) (am_w N 46 4 (nI n)) (by omega) rfl n47 (fun q hq => by omega)
  rw [show f - n + n = f by omega] at y3 y4
  have y46 := y1 46 (by decide)
  obtain ⟨gf, hgf⟩ : ∃ x, f - n = x + 1 := ⟨f - n - 1, by omega⟩
  have c0 : nI n ≤ nI n := nI_le (Nat.le_refl n) (by omega)
  have H : H48 b n (am_w (am_w N' 46 2 0) 46 10 0) := ⟨by show N' 46 4 = _; rw [y46]; rfl, fun q hq => y2 q hq⟩
  obtain ⟨C, J', T, z1, z2, z3, z4, z5, z6, z7, z8⟩ := cut_r hn hb n 0 (by omega) (by omega) f (am_w (am_w N' 46 2 0) 46 10 0) J 0 (by omega) (by omega) H hJ rfl rfl (fun q hq => by omega) (fun q hq => by omega)
  have ecut : s_X10_cut f (am_w N' 46 2 0) J = (C, J') := z1
  have pcut : p_X10_cut f (am_w N' 46 2 0) J := z2
  have c54 : C 54 p = nI lv := by
    rw [z3 54 p (by decide) (by decide) (by decide) (by omega)]
    show N' 54 p = _
    rw [y1 54 (by decide)]
    exact n54
  have eG : ((2 : Int32) * nI p + 1) - nI lv = nI g := by
    show (nI 2 * nI p + nI 1) - nI lv = _
    rw [pk_mul, nI_add, pk_sub (by omega), hg]
  have e5 : (500 : Int32) * nI g = nI (500 * g) := by
    show nI 500 * nI g = _
    rw [pk_mul]
  obtain ⟨M0, hM0⟩ : ∃ M0, M0 = am_w (am_w (am_w (am_w (am_w (am_w (am_w (am_w C 46 11 0) 46 12 0) 46 13 0) 46 15 0) 46 19 (nI g)) 55 g 0) 59 g 0) 46 30 (nI (500 * g)) := ⟨_, rfl⟩
  have vg : vp_in (nI g) 24 := vp_in_nI hg24 (by omega)
  have vp : vp_in (nI p) 12 := vp_in_nI (by omega) (by omega)
  have eread : s_X10_read f N J (nI p) = s_X10_read_L123 (nI p) f f M0 J' ∧ (p_X10_read_L123 (nI p) f f M0 J' → p_X10_read f N J (nI p)) := by
    have a4 : N' 46 4 = nI n := by rw [y46]; rfl
    have l20 : s_X10_read_L20 (nI p) f (f - n) (nI n) N' J = s_X10_read_L123 (nI p) f f M0 J' ∧ (p_X10_read_L123 (nI p) f f M0 J' → p_X10_read_L20 (nI p) f (f - n) (nI n) N' J) := by
      rw [hgf, u_s_X10_read_L20, u_p_X10_read_L20, a4, if_pos c0, if_pos c0, ecut]
      simp only []
      rw [nI_clamp (n := p) (by omega), c54, eG, nI_clamp (n := g) (by omega), e5, ← hM0]
      exact ⟨rfl, fun q => ⟨pcut, vp, vg, vg, q⟩⟩
    unfold s_X10_read p_X10_read
    rw [if_neg per, if_neg per, n2]
    have y3' : s_X10_read_L20 (nI p) f f 0 (am_w N 46 4 (nI n)) J = _ := y3
    rw [y3', l20.1]
    exact ⟨rfl, fun q => y4 (l20.2 q)⟩
  -- the other side begins
  obtain ⟨A00, hA00⟩ : ∃ A, A = s_X1_clear (s_X6_rewind (s_X2_begin K)) := ⟨_, rfl⟩
  have q11 : A00 1 1 = nI n := by rw [hA00]; exact k1
  have q2 : A00 2 = b := by rw [hA00, hbd]; rfl
  obtain ⟨w1, A0, w2, w3, w4, w5, w6, w7⟩ := ad_c (b := b) (n := n) (f := f) (i := 0) (I := A00) hn (by omega) q11 (by rw [hA00]; rfl) q2 (by omega)
  have tok : Tok b n 0 A0 := ⟨(w3 1 1 (by omega)).trans q11, w4, w5, w6, w7, (w3.row (by decide)).trans q2⟩
  have rows : ∀ r, r ≠ 1 → A0 r = A00 r := fun r hr => w3.row hr
  have fK : FrD K A00 := fun k a h1 h2 h3 h4 => by
    rw [hA00]
    unfold s_X1_clear s_X6_rewind s_X2_begin
    rw [aw_k (by omega), aw_k (by omega), aw_k (by omega), aw_k (by omega)]
    by_cases e : k = 1
    · subst e
      rw [aw_n (by omega), aw_k h2, aw_k h2, aw_k h2, aw_k h2, aw_k h2, aw_k h2, aw_k h2]
    · rw [aw_k e, aw_k h2, aw_k h2, aw_k h2, aw_k h2, aw_k h2, aw_k h2, aw_k h2]
  have hx : Cx b n T tp f g A00 M0 := by
    refine ⟨hn, hf, hg24, htp, z5, fun q hq => ?_, z7, z8, q11, q2, ?_, ?_⟩
    · have := z6 q hq
      rw [hM0]
      exact this
    · rw [hM0]; rfl
    · rw [hM0]
      show C 46 38 = _
      rw [z3 46 38 (by decide) (by decide) (by decide) (by omega)]
      show N' 46 38 = _
      rw [y46]
      exact n38
  have hI : RuI b n T A00 M0 g true 0 0 (fun _ => 0) (fun _ => 0) (fun _ => 0) 0 A0 M0 0 := by
    have r3 := rows 3 (by decide)
    have r38 := rows 38 (by decide)
    refine ⟨⟨tok, by omega, by rw [hM0]; rfl, by rw [hM0]; rfl, FrC.ad w3, FrM.rf, Or.inl ⟨rfl, by rw [r3, hA00]; rfl, by rw [hM0]; rfl⟩, ?_, by rw [hM0]; rfl, by rw [hM0, aw_k (by decide), aw_s]; rfl, ?_⟩, ⟨by rw [r3, hA00]; rfl, by rw [r3, hA00]; rfl, by rw [r3, hA00]; rfl, by rw [r3, hA00]; rfl, by rw [hM0]; rfl⟩, rfl, by omega, by omega⟩
    · refine ⟨⟨by omega, by omega, by omega⟩, by rw [r38, hA00]; rfl, by rw [r38, hA00]; rfl, by rw [r38, hA00]; rfl, Or.inl (by rw [r38, hA00]; rfl), ⟨rfl, rfl, rfl, Nat.le_refl 0, Nat.le_refl 0⟩, fun r hr => absurd hr (by omega), fun r hr => absurd hr (by omega), fun r hr => absurd hr (by omega), fun r hr => absurd hr (by omega), fun _ r hr => absurd hr (by omega)⟩
    · rw [hM0]
      show (am_w (am_w (am_w (am_w (am_w (am_w C 46 11 0) 46 12 0) 46 13 0) 46 15 0) 46 19 (nI g)) 55 g 0) 55 g = nI 0
      rw [aw_s]; rfl
  have h37 : A00 3 7 = -1 := by rw [hA00]; rfl
  obtain ⟨x, I', M', u1, ⟨u2, u3⟩, u4, u5, u6, u7, u8⟩ := rd_l (J := J') (p := p) hx (by omega) h37 401 0 (by omega) A0 M0 0 f true 0 0 _ _ _ hI (by omega)
  refine ⟨x, I', M', J', ?_, ⟨by rw [eread.1, u2], eread.2 u3⟩, ?_, ?_, u6, ?_, z4, ?_, ?_⟩
  · obtain ⟨pf, hpf⟩ : ∃ q, f = q + 401 + 1 := ⟨f - 402, by omega⟩
    obtain ⟨v1, v2⟩ := u1 pf
    have pb := pb_in (a3 := nI tp) (f := f) (g := pf + 401) (v4 := 0) (k := 0) (I := A00) (by omega) w1
    rw [w2] at pb
    have ef : pf + 401 + 1 = f := hpf.symm
    unfold s_X2_parse p_X2_parse
    rw [← hA00]
    rw [ef] at pb
    exact ⟨pb.1.trans v1, pb.2 v2⟩
  · exact fun k a h1 h2 h3 h4 => (u4 k a h1 h2 h3 h4).trans (fK k a h1 h2 h3 h4)
  · intro k a hs
    unfold scR at hs
    rw [u5 k a (fun q => hs (Or.inl (by rw [← hg]; exact q))) (by omega) (by omega)]
    have hk48 : k ≠ 48 := by omega
    rw [hM0]
    have hsM : ¬ scM g k a := fun q => hs (Or.inl (by rw [← hg]; exact q))
    have out : am_w (am_w (am_w (am_w (am_w (am_w (am_w (am_w C 46 11 0) 46 12 0) 46 13 0) 46 15 0) 46 19 (nI g)) 55 g 0) 59 g 0) 46 30 (nI (500 * g)) k a = C k a := by
      have ne : ∀ (I : am_I) (k' a' : Nat) (v : Int32), (scM g k' a' ∨ (k' = 46 ∧ a' = 19)) → am_w I k' a' v k a = I k a := by
        intro I k' a' v h
        by_cases e : k = k'
        · subst e
          refine aw_n (fun e2 => ?_)
          subst e2
          rcases h with h | h
          · exact hsM h
          · exact hs (Or.inr (Or.inl (by omega)))
        · rw [aw_k e]
      rw [ne _ _ _ _ (Or.inl (sc46 (by omega))), ne _ _ _ _ (Or.inl (by unfold scM; omega)), ne _ _ _ _ (Or.inl (by unfold scM; omega)), ne _ _ _ _ (Or.inr ⟨rfl, rfl⟩), ne _ _ _ _ (Or.inl (sc46 (by omega))), ne _ _ _ _ (Or.inl (sc46 (by omega))), ne _ _ _ _ (Or.inl (sc46 (by omega))), ne _ _ _ _ (Or.inl (sc46 (by omega)))]
    rw [out, z3 k a (by omega) (by omega) (by omega) (by omega)]
    by_cases e46 : k = 46
    · subst e46
      rw [aw_n (by omega), aw_n (by omega), y46, aw_n (by omega)]
    · rw [aw_k e46, aw_k e46, y1 k hk48, aw_k e46]
  · rw [u5 46 2 (by unfold scM; omega) (by omega) (by omega), hM0]
    show C 46 2 = 0
    rw [z3 46 2 (by decide) (by decide) (by decide) (by omega)]
    rfl
  · intro hx0
    rw [u7 hx0, hM0]
    show C 54 p = N 54 p
    rw [c54, n54]
  · intro hx0
    obtain ⟨t1, t2⟩ := u8 hx0
    rw [← hg]
    refine ⟨?_, t2⟩
    rw [t1, hM0]
    show 1 - C 54 p = _
    rw [c54]
    show nI 1 - nI lv = _
    rw [pk_sub (by omega)]
end
