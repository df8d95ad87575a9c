section
/-! ===== the automaton that takes tokens ===== -/
def pbS (a3 : Int32) (f g : Nat) (k : Int32) (A : am_I) : Int32 × am_I := if s_X2_faultOf A (A 1 3) k (A 38 7) = 0 then (if A 1 3 = 26 then s_X2_parse_L21 a3 f g (s_X2_faultOf A (A 1 3) k (A 38 7)) 0 (k + 1) A else s_X2_parse_L21 a3 f g (s_X2_faultOf A (A 1 3) k (A 38 7)) 1 (k + 1) (s_X2_take f A a3)) else s_X2_parse_L21 a3 f g (s_X2_faultOf A (A 1 3) k (A 38 7)) 0 (k + 1) A
def pbP (a3 : Int32) (f g : Nat) (k : Int32) (A : am_I) : Prop := if s_X2_faultOf A (A 1 3) k (A 38 7) = 0 then (if A 1 3 = 26 then p_X2_parse_L21 a3 f g (s_X2_faultOf A (A 1 3) k (A 38 7)) 0 (k + 1) A else (p_X2_take f A a3 ∧ p_X2_parse_L21 a3 f g (s_X2_faultOf A (A 1 3) k (A 38 7)) 1 (k + 1) (s_X2_take f A a3))) else p_X2_parse_L21 a3 f g (s_X2_faultOf A (A 1 3) k (A 38 7)) 0 (k + 1) A
theorem pb_in {a3 : Int32} {f g k : Nat} {v4 : Int32} {I : am_I} (hk : k ≤ 400) (hp : p_X6_advance f I) : s_X2_parse_L21 a3 f (g + 1) v4 1 (nI k) I = pbS a3 f g (nI k) (s_X6_advance f I) ∧ (pbP a3 f g (nI k) (s_X6_advance f I) → p_X2_parse_L21 a3 f (g + 1) v4 1 (nI k) I) := by
  have c1 : ¬ (1 : Int32) = 0 := by decide
  have c2 : ¬ (400 : Int32) < nI k := nI_nlt (a := 400) hk (by omega)
  rw [u_s_X2_parse_L21, u_p_X2_parse_L21, if_neg c1, if_neg c1, if_neg c2, if_neg c2]
  exact ⟨rfl, fun h => ⟨hp, h⟩⟩
def Rch (a3 : Int32) (f k : Nat) (A : am_I) (k' : Nat) (A' : am_I) : Prop := k ≤ k' ∧ ∀ g, pbS a3 f (g + (k' - k)) (nI k) A = pbS a3 f g (nI k') A' ∧ (pbP a3 f g (nI k') A' → pbP a3 f (g + (k' - k)) (nI k) A)
theorem Rch.rf {a3 : Int32} {f k : Nat} {A : am_I} : Rch a3 f k A k A := ⟨Nat.le_refl k, fun g => by rw [Nat.sub_self]; exact ⟨rfl, id⟩⟩
theorem Rch.tr {a3 : Int32} {f k k' k'' : Nat} {A A' A'' : am_I} (h : Rch a3 f k A k' A') (h2 : Rch a3 f k' A' k'' A'') : Rch a3 f k A k'' A'' := by
  obtain ⟨a1, a2⟩ := h
  obtain ⟨b1, b2⟩ := h2
  refine ⟨by omega, fun g => ?_⟩
  obtain ⟨x1, x2⟩ := a2 (g + (k'' - k'))
  obtain ⟨y1, y2⟩ := b2 g
  rw [show g + (k'' - k) = g + (k'' - k') + (k' - k) by omega, x1]
  exact ⟨y1, fun q => x2 (y2 q)⟩
theorem Rch.st {a3 : Int32} {f k : Nat} {A T A' : am_I} (h0 : s_X2_faultOf A (A 1 3) (nI k) (A 38 7) = 0) (h26 : ¬ A 1 3 = 26) (hk : k < 400) (pt : p_X2_take f A a3) (eT : s_X2_take f A a3 = T) (pa : p_X6_advance f T) (e : s_X6_advance f T = A') : Rch a3 f k A (k + 1) A' := by
  refine ⟨by omega, fun g => ?_⟩
  rw [show g + (k + 1 - k) = g + 1 by omega]
  unfold pbS pbP
  rw [if_pos h0, if_pos h0, if_neg h26, if_neg h26, h0, nI_1, eT]
  obtain ⟨q1, q2⟩ := pb_in (a3 := a3) (g := g) (v4 := 0) (k := k + 1) (by omega) pa
  rw [e] at q1 q2
  rw [q1]
  exact ⟨rfl, fun q => ⟨pt, q2 q⟩⟩
/-- alike but for what reading a text writes -/
def FrC (I I' : am_I) : Prop := ∀ k a, ¬ (k = 1 ∧ 2 ≤ a ∧ a ≤ 5) → ¬ (k = 3 ∧ a ≠ 7) → k ≠ 4 → ¬ (38 ≤ k ∧ k < 46) → I' k a = I k a
def FrD (I I' : am_I) : Prop := ∀ k a, ¬ (k = 1 ∧ 2 ≤ a ∧ a ≤ 5) → k ≠ 3 → k ≠ 4 → ¬ (38 ≤ k ∧ k < 46) → I' k a = I k a
theorem FrC.d {I I' : am_I} (h : FrC I I') : FrD I I' := fun k a q1 q2 q3 q4 => h k a q1 (fun q => q2 q.1) q3 q4
theorem FrD.w {I I' : am_I} {a : Nat} {v : Int32} (h : FrD I I') : FrD I (am_w I' 3 a v) := fun k' a' q1 q2 q3 q4 => by
  rw [aw_k q2]
  exact h k' a' q1 q2 q3 q4
theorem FrC.rf {I : am_I} : FrC I I := fun _ _ _ _ _ _ => rfl
theorem FrC.tr {I I' I'' : am_I} (h : FrC I I') (h2 : FrC I' I'') : FrC I I'' := fun k a q1 q2 q3 q4 => (h2 k a q1 q2 q3 q4).trans (h k a q1 q2 q3 q4)
theorem FrC.ad {I I' : am_I} (h : Ad I I') : FrC I I' := fun k a q1 _ _ _ => h k a q1
theorem FrC.w {I I' : am_I} {k a : Nat} {v : Int32} (h : FrC I I') (hk : (k = 3 ∧ a ≠ 7) ∨ k = 4 ∨ (38 ≤ k ∧ k < 46)) : FrC I (am_w I' k a v) := fun k' a' q1 q2 q3 q4 => by
  by_cases e : k' = k
  · subst e
    rw [aw_n (by omega)]
    exact h _ a' q1 q2 q3 q4
  · rw [aw_k e]
    exact h k' a' q1 q2 q3 q4
def PF (a3 : Int32) (f : Nat) (A0 : am_I) (k : Nat) (A : am_I) (F : Int32) (q : Nat) : Prop := ∃ I' : am_I, (∀ g, pbS a3 f (g + (401 - k)) (nI k) A = (F, I') ∧ pbP a3 f (g + (401 - k)) (nI k) A) ∧ I' 3 7 = nI q ∧ FrD A0 I'
theorem PF.mk {a3 F : Int32} {f k q : Nat} {A0 A : am_I} (hk : k ≤ 400) (h : s_X2_faultOf A (A 1 3) (nI k) (A 38 7) = F) (hF : ¬ F = 0) (hq : A 1 4 = nI q) (hA : FrC A0 A) : PF a3 f A0 k A F q := by
  refine ⟨am_w A 3 7 (A 1 4), fun g => ?_, ?_, hA.d.w⟩
  · obtain ⟨g, hg⟩ : ∃ g', g + (401 - k) = g' + 1 := ⟨g + (401 - k) - 1, by omega⟩
    unfold pbS pbP
    rw [h, if_neg hF, if_neg hF, hg, u_s_X2_parse_L21, u_p_X2_parse_L21, if_pos rfl, if_pos rfl, if_neg hF]
    exact ⟨rfl, trivial⟩
  · rw [aw_s]; exact hq
theorem PF.rch {a3 F : Int32} {f k k' q : Nat} {A0 A A' : am_I} (h : Rch a3 f k A k' A') (hk : k' ≤ 400) (h2 : PF a3 f A0 k' A' F q) : PF a3 f A0 k A F q := by
  obtain ⟨a1, a2⟩ := h
  obtain ⟨I', b1, b2⟩ := h2
  refine ⟨I', fun g => ?_, b2⟩
  obtain ⟨x1, x2⟩ := a2 (g + (401 - k'))
  obtain ⟨y1, y2⟩ := b1 g
  rw [show g + (401 - k) = g + (401 - k') + (k' - k) by omega, x1]
  exact ⟨y1, x2 y2⟩
theorem PE_0 {a3 : Int32} {f k : Nat} {A : am_I} (hk : k ≤ 400) (h0 : s_X2_faultOf A (A 1 3) (nI k) (A 38 7) = 0) (h26 : A 1 3 = 26) : ∀ g, pbS a3 f (g + (401 - k)) (nI k) A = (if A 3 6 = -1 then (0, A) else (4, am_w A 3 7 (A 3 6))) ∧ pbP a3 f (g + (401 - k)) (nI k) A := by
  intro g
  obtain ⟨g, hg⟩ : ∃ g', g + (401 - k) = g' + 1 := ⟨g + (401 - k) - 1, by omega⟩
  unfold pbS pbP
  rw [if_pos h0, if_pos h0, if_pos h26, if_pos h26, h0, hg, u_s_X2_parse_L21, u_p_X2_parse_L21, if_pos rfl, if_pos rfl, if_pos rfl]
  exact ⟨rfl, trivial⟩
theorem tb_h : ∀ c, c < 28 → (s_X2_isHead (nI c) = 0 ↔ ¬ c < 3) := by decide +kernel
theorem tb_o : ∀ c, c < 28 → (s_X9_isOperator (nI c) = 0 ↔ ¬ (c = 17 ∨ c = 18 ∨ c = 19)) := by decide +kernel
theorem tb_v : ∀ c, c < 28 → (s_X9_isVar (nI c) = 0 ↔ ¬ (7 ≤ c ∧ c ≤ 13)) := by decide +kernel
theorem tb_c : ∀ c, c < 28 → (s_X2_isComparison (nI c) = 0 ↔ ¬ (20 ≤ c ∧ c ≤ 23)) := by decide +kernel
theorem tb_n : ∀ c, c < 28 → ∀ d, d < 28 → (nI c = nI d ↔ c = d) := fun c hc d hd => nI_eq (by omega) (by omega)
theorem go_0 {A : am_I} {c : Nat} (h : A 3 3 = 0) (hc : c < 28) : s_X2_goesOn A (nI c) = 0 ↔ ¬ (c < 3 ∨ c = 26) := by
  have t : ∀ c, c < 28 → ((if s_X2_isHead (nI c) = 0 then (if nI c = 26 then (1 : Int32) else 0) else 1) = 0 ↔ ¬ (c < 3 ∨ c = 26)) := by decide +kernel
  unfold s_X2_goesOn
  rw [h, if_pos rfl]
  exact t c hc
theorem go_1 {A : am_I} {c : Nat} (h : A 3 3 = 1) (hc : c < 28) : s_X2_goesOn A (nI c) = 0 ↔ ¬ (c = 3 ∨ c = 16) := by
  have t : ∀ c, c < 28 → ((if nI c = 3 then (1 : Int32) else (if nI c = 16 then 1 else 0)) = 0 ↔ ¬ (c = 3 ∨ c = 16)) := by decide +kernel
  unfold s_X2_goesOn
  rw [h, if_neg (by decide), if_pos rfl]
  exact t c hc
theorem go_2 {A : am_I} {c : Nat} (h : A 3 3 = 2) (hc : c < 28) : s_X2_goesOn A (nI c) = 0 ↔ ¬ (c = 6 ∨ c = 15 ∨ c = 24 ∨ (7 ≤ c ∧ c ≤ 13)) := by
  have t : ∀ c, c < 28 → ((if nI c = 6 then (1 : Int32) else (if s_X2_startsUnit (nI c) = 0 then 0 else 1)) = 0 ↔ ¬ (c = 6 ∨ c = 15 ∨ c = 24 ∨ (7 ≤ c ∧ c ≤ 13))) := by decide +kernel
  unfold s_X2_goesOn
  rw [h, if_neg (by decide), if_neg (by decide), if_pos rfl]
  exact t c hc
theorem go_3 {A : am_I} {c : Nat} (h : A 3 3 = 3) (hc : c < 28) : s_X2_goesOn A (nI c) = 0 ↔ ¬ c = 15 := by
  have t : ∀ c, c < 28 → ((if nI c = 15 then (1 : Int32) else 0) = 0 ↔ ¬ c = 15) := by decide +kernel
  unfold s_X2_goesOn
  rw [h, if_neg (by decide), if_neg (by decide), if_neg (by decide), if_pos rfl]
  exact t c hc
theorem go_4 {A : am_I} {c : Nat} (h : A 3 3 = 4) (hc : c < 28) : s_X2_goesOn A (nI c) = 0 ↔ ¬ (c = 4 ∨ c = 5 ∨ c = 16) := by
  have t : ∀ c, c < 28 → (s_X2_endsLiteral (nI c) = 0 ↔ ¬ (c = 4 ∨ c = 5 ∨ c = 16)) := by decide +kernel
  unfold s_X2_goesOn
  rw [h, if_neg (by decide), if_neg (by decide), if_neg (by decide), if_neg (by decide), if_pos rfl]
  exact t c hc
theorem go_5 {A : am_I} {c : Nat} (h : A 3 3 = 5) (hc : c < 28) : s_X2_goesOn A (nI c) = 0 ↔ ¬ (c = 15 ∨ c = 24 ∨ (7 ≤ c ∧ c ≤ 13)) := by
  have t : ∀ c, c < 28 → (s_X2_startsUnit (nI c) = 0 ↔ ¬ (c = 15 ∨ c = 24 ∨ (7 ≤ c ∧ c ≤ 13))) := by decide +kernel
  unfold s_X2_goesOn
  rw [h, if_neg (by decide), if_neg (by decide), if_neg (by decide), if_neg (by decide), if_neg (by decide), if_pos rfl]
  exact t c hc
theorem go_6 {A : am_I} {c dp : Nat} (h : A 3 3 = 6) (hd : A 3 2 = nI dp) (hdp : dp ≤ 6) (hc : c < 28) : s_X2_goesOn A (nI c) = 0 ↔ ¬ ((c = 17 ∨ c = 18 ∨ c = 19) ∨ (0 < dp ∧ c = 25) ∨ (dp = 0 ∧ A 3 4 = -1 ∧ 20 ≤ c ∧ c ≤ 23) ∨ (dp = 0 ∧ ¬ A 3 4 = -1 ∧ (c = 4 ∨ c = 5 ∨ c = 16))) := by
  have t : ∀ c, c < 28 → (s_X2_endsLiteral (nI c) = 0 ↔ ¬ (c = 4 ∨ c = 5 ∨ c = 16)) := by decide +kernel
  have t2 : ∀ c, c < 28 → ((if nI c = 25 then (1 : Int32) else 0) = 0 ↔ ¬ c = 25) := by decide +kernel
  have x1 : ∀ x : Int32, (if x = 0 then (0 : Int32) else 1) = 0 ↔ x = 0 := by
    intro x
    by_cases q : x = 0
    · rw [if_pos q]; exact ⟨fun _ => q, fun _ => rfl⟩
    · rw [if_neg q]; exact ⟨fun z => absurd z (by decide), fun z => absurd z q⟩
  unfold s_X2_goesOn
  rw [h, if_neg (by decide), if_neg (by decide), if_neg (by decide), if_neg (by decide), if_neg (by decide), if_neg (by decide)]
  by_cases ho : s_X9_isOperator (nI c) = 0
  · have ho' := (tb_o c hc).mp ho
    rw [if_pos ho, x1]
    unfold s_X2_endsSide
    rw [hd]
    by_cases h0 : dp = 0
    · subst h0
      have c0 : nI 0 ≤ 0 := by decide
      rw [if_pos c0]
      by_cases h4 : A 3 4 = -1
      · rw [if_pos h4, tb_c c hc]
        refine not_congr ⟨fun q => Or.inr (Or.inr (Or.inl ⟨rfl, h4, q⟩)), fun q => ?_⟩
        rcases q with q | q | q | q
        · exact absurd q ho'
        · exact absurd q.1 (by decide)
        · exact q.2.2
        · exact absurd h4 q.2.1
      · rw [if_neg h4, t c hc]
        refine not_congr ⟨fun q => Or.inr (Or.inr (Or.inr ⟨rfl, h4, q⟩)), fun q => ?_⟩
        rcases q with q | q | q | q
        · exact absurd q ho'
        · exact absurd q.1 (by decide)
        · exact absurd q.2.1 h4
        · exact q.2.2
    · have c0 : ¬ nI dp ≤ 0 := nI_nle (by omega) (by omega)
      rw [if_neg c0, t2 c hc]
      refine not_congr ⟨fun q => Or.inr (Or.inl ⟨by omega, q⟩), fun q => ?_⟩
      rcases q with q | q | q | q
      · exact absurd q ho'
      · exact q.2
      · exact absurd q.1 h0
      · exact absurd q.1 h0
  · rw [if_neg ho]
    have ho' : c = 17 ∨ c = 18 ∨ c = 19 := Decidable.of_not_not (fun q => ho ((tb_o c hc).mpr q))
    exact ⟨fun q => absurd q (by decide), fun q => absurd (Or.inl ho') q⟩
theorem fo_no {A : am_I} {c : Nat} {k R : Int32} (h : s_X2_goesOn A (nI c) = 0) : s_X2_faultOf A (nI c) k R = 1 := by
  unfold s_X2_faultOf
  rw [if_pos h]
theorem fo_ok {A : am_I} {c k R dp : Nat} (h : ¬ s_X2_goesOn A (nI c) = 0) (hc : c < 28) (h26 : c ≠ 26) (hk : k < 400) (hd : A 3 2 = nI dp) (hd2 : dp ≤ 6) (hR : R ≤ 16) (hh : c < 3 → R < 16) (ho : c = 24 → dp < 6) : s_X2_faultOf A (nI c) (nI k) (nI R) = 0 := by
  have n26 : ¬ nI c = 26 := fun q => h26 ((tb_n c hc 26 (by decide)).mp q)
  have ck : nI k < 400 := nI_lt (b := 400) hk (by omega)
  unfold s_X2_faultOf s_X2_faultOf_J28
  rw [if_neg h, if_neg n26, if_pos ck, hd]
  by_cases c24 : c = 24
  · have e24 : nI c = 24 := by rw [c24]; rfl
    have hs : s_X2_isHead (nI c) = 0 := (tb_h c hc).mpr (by omega)
    have cd : nI dp < 6 := nI_lt (b := 6) (ho c24) (by omega)
    rw [if_pos hs, if_pos e24, if_pos cd, if_pos rfl]
  · have e24 : ¬ nI c = 24 := fun q => c24 ((tb_n c hc 24 (by decide)).mp q)
    by_cases c3 : c < 3
    · have hs : ¬ s_X2_isHead (nI c) = 0 := fun q => (tb_h c hc).mp q c3
      have cR : nI R < 16 := nI_lt (b := 16) (hh c3) (by omega)
      rw [if_neg hs, if_pos cR, if_neg e24, if_pos rfl]
    · have hs : s_X2_isHead (nI c) = 0 := (tb_h c hc).mpr c3
      rw [if_pos hs, if_neg e24, if_pos rfl]
theorem fo_end {A : am_I} {k R : Int32} (h : ¬ s_X2_goesOn A (nI 26) = 0) : s_X2_faultOf A (nI 26) k R = 0 := by
  unfold s_X2_faultOf s_X2_faultOf_J28
  rw [if_neg h, if_pos (show nI 26 = 26 from rfl), if_pos (show s_X2_isHead (nI 26) = 0 by decide), if_neg (show ¬ nI 26 = 24 by decide), if_pos rfl]
theorem fo_rm {A : am_I} {c k R dp : Nat} (h : ¬ s_X2_goesOn A (nI c) = 0) (hc : c < 28) (h26 : c ≠ 26) (hk4 : k ≤ 400) (hd : A 3 2 = nI dp) (hd2 : dp ≤ 6) (hR : R ≤ 16) (hx : 400 ≤ k ∨ (c < 3 ∧ R = 16) ∨ (c = 24 ∧ dp = 6)) : s_X2_faultOf A (nI c) (nI k) (nI R) = 2 := by
  have n26 : ¬ nI c = 26 := fun q => h26 ((tb_n c hc 26 (by decide)).mp q)
  have n10 : ¬ (1 : Int32) = 0 := by decide
  unfold s_X2_faultOf s_X2_faultOf_J28
  rw [if_neg h, if_neg n26, hd]
  by_cases ck : nI k < 400
  · have hk : k < 400 := (nI_ltI (b := 400) (by omega) (by omega)).mp ck
    rw [if_pos ck]
    by_cases c24 : c = 24
    · have e24 : nI c = 24 := by rw [c24]; rfl
      have hs : s_X2_isHead (nI c) = 0 := (tb_h c hc).mpr (by omega)
      have cd : ¬ nI dp < 6 := nI_nlt (b := 6) (by omega) (by omega)
      rw [if_pos hs, if_pos e24, if_neg cd, if_pos rfl]
    · have e24 : ¬ nI c = 24 := fun q => c24 ((tb_n c hc 24 (by decide)).mp q)
      have c3 : c < 3 := by omega
      have hs : ¬ s_X2_isHead (nI c) = 0 := fun q => (tb_h c hc).mp q c3
      have cR : ¬ nI R < 16 := nI_nlt (b := 16) (by omega) (by omega)
      rw [if_neg hs, if_neg cR, if_neg e24, if_pos rfl]
  · rw [if_neg ck]
    simp only [if_neg n10, ite_self]
theorem ta_h {A : am_I} {a3 : Int32} {f c : Nat} (h : A 1 3 = nI c) (hc : c < 3) : s_X2_take f A a3 = am_w (s_X1_addRule A (nI c)) 3 3 1 ∧ (p_X1_addRule A (nI c) → p_X2_take f A a3) := by
  have hs : ¬ s_X2_isHead (nI c) = 0 := fun q => (tb_h c (by omega)).mp q hc
  unfold s_X2_take p_X2_take
  rw [h, if_neg hs, if_neg hs]
  exact ⟨rfl, id⟩
theorem ta_3 {A : am_I} {a3 : Int32} {f : Nat} (h : A 1 3 = nI 3) : s_X2_take f A a3 = am_w (am_w A 3 5 1) 3 3 2 ∧ p_X2_take f A a3 := by
  have hs : s_X2_isHead (nI 3) = 0 := by decide
  unfold s_X2_take p_X2_take
  rw [h, if_pos hs, if_pos hs, if_pos (show nI 3 = 3 from rfl), if_pos (show nI 3 = 3 from rfl)]
  exact ⟨rfl, trivial⟩
theorem ta_6 {A : am_I} {a3 : Int32} {f : Nat} (h : A 1 3 = nI 6) : s_X2_take f A a3 = am_w A 3 3 3 ∧ p_X2_take f A a3 := by
  have hs : s_X2_isHead (nI 6) = 0 := by decide
  have n3 : ¬ nI 6 = 3 := by decide
  unfold s_X2_take p_X2_take
  rw [h, if_pos hs, if_pos hs, if_neg n3, if_neg n3, if_pos (show nI 6 = 6 from rfl), if_pos (show nI 6 = 6 from rfl)]
  exact ⟨rfl, trivial⟩
theorem ta_t {A : am_I} {a3 : Int32} {f : Nat} (h : A 1 3 = nI 15) (hs3 : A 3 3 = 3) : s_X2_take f A a3 = s_X2_takeTopic f A a3 ∧ (p_X2_takeTopic f A a3 → p_X2_take f A a3) := by
  have hs : s_X2_isHead (nI 15) = 0 := by decide
  have n3 : ¬ nI 15 = 3 := by decide
  have n6 : ¬ nI 15 = 6 := by decide
  unfold s_X2_take p_X2_take
  rw [h, if_pos hs, if_pos hs, if_neg n3, if_neg n3, if_neg n6, if_neg n6, if_pos hs3, if_pos hs3]
  exact ⟨rfl, id⟩
/-- past the first four questions -/
theorem ta_n {A : am_I} {a3 : Int32} {f c : Nat} (h : A 1 3 = nI c) (hc : c < 28) (h1 : ¬ c < 3) (h3 : c ≠ 3) (h6 : c ≠ 6) (hs3 : ¬ A 3 3 = 3) : s_X2_take f A a3 = (if nI c = 15 then (s_X2_take_J95 a3 (nI c) A) else (if s_X9_isVar (nI c) = 0 then (if nI c = 24 then (s_X2_takeBracket f A (nI c)) else (if nI c = 25 then (s_X2_takeBracket f A (nI c)) else (if s_X9_isOperator (nI c) = 0 then (if s_X2_isComparison (nI c) = 0 then (s_X2_takeLiteralEnd f A (nI c)) else (am_w (am_w (s_X2_unload f A 17) 3 4 (nI c)) 3 3 5)) else (if nI c = 19 then (am_w (s_X2_hold (s_X2_unload f A 19) (nI c)) 3 3 5) else (am_w (s_X2_hold (s_X2_unload f A 17) (nI c)) 3 3 5))))) else (s_X2_take_J95 a3 (nI c) A))) ∧ p_X2_take f A a3 = (if nI c = 15 then (p_X2_take_J95 a3 (nI c) A) else (if s_X9_isVar (nI c) = 0 then (if nI c = 24 then (p_X2_takeBracket f A (nI c)) else (if nI c = 25 then (p_X2_takeBracket f A (nI c)) else (if s_X9_isOperator (nI c) = 0 then (if s_X2_isComparison (nI c) = 0 then (p_X2_takeLiteralEnd f A (nI c)) else (p_X2_unload f A 17)) else (if nI c = 19 then ((p_X2_unload f A 19) ∧ (p_X2_hold (s_X2_unload f A 19) (nI c))) else ((p_X2_unload f A 17) ∧ (p_X2_hold (s_X2_unload f A 17) (nI c))))))) else (p_X2_take_J95 a3 (nI c) A))) := by
  have hs : s_X2_isHead (nI c) = 0 := (tb_h c hc).mpr h1
  have n3 : ¬ nI c = 3 := fun q => h3 ((tb_n c hc 3 (by decide)).mp q)
  have n6 : ¬ nI c = 6 := fun q => h6 ((tb_n c hc 6 (by decide)).mp q)
  unfold s_X2_take p_X2_take
  rw [h, if_pos hs, if_pos hs, if_neg n3, if_neg n3, if_neg n6, if_neg n6, if_neg hs3, if_neg hs3]
  exact ⟨rfl, rfl⟩
def ucl (A : am_I) (c : Nat) : Int32 := if c = 15 then A 1 5 else s_X1_codeOf (nI c)
theorem ta_u {A : am_I} {a3 : Int32} {f c : Nat} (h : A 1 3 = nI c) (hc : c = 15 ∨ (7 ≤ c ∧ c ≤ 13)) (hs3 : ¬ A 3 3 = 3) : s_X2_take f A a3 = am_w (s_X1_addCell A (ucl A c)) 3 3 6 ∧ (p_X1_addCell A (ucl A c) → p_X2_take f A a3) := by
  obtain ⟨e1, e2⟩ := ta_n (f := f) (a3 := a3) h (by omega) (by omega) (by omega) (by omega) hs3
  rw [e1, e2]
  unfold s_X2_take_J95 p_X2_take_J95 ucl
  by_cases c15 : c = 15
  · have x : nI c = 15 := by rw [c15]; rfl
    simp only [if_pos x, if_pos c15]
    exact ⟨trivial, id⟩
  · have x : ¬ nI c = 15 := fun q => c15 ((tb_n c (by omega) 15 (by decide)).mp q)
    have y : ¬ s_X9_isVar (nI c) = 0 := fun q => (tb_v c (by omega)).mp q (by omega)
    simp only [if_neg x, if_neg c15, if_neg y]
    exact ⟨trivial, id⟩
theorem ta_b {A : am_I} {a3 : Int32} {f c : Nat} (h : A 1 3 = nI c) (hc : c = 24 ∨ c = 25) (hs3 : ¬ A 3 3 = 3) : s_X2_take f A a3 = s_X2_takeBracket f A (nI c) ∧ (p_X2_takeBracket f A (nI c) → p_X2_take f A a3) := by
  obtain ⟨e1, e2⟩ := ta_n (f := f) (a3 := a3) h (by omega) (by omega) (by omega) (by omega) hs3
  have x : ¬ nI c = 15 := fun q => absurd ((tb_n c (by omega) 15 (by decide)).mp q) (by omega)
  have y : s_X9_isVar (nI c) = 0 := (tb_v c (by omega)).mpr (by omega)
  rw [e1, e2, if_neg x, if_neg x, if_pos y, if_pos y]
  rcases hc with hc | hc <;> subst hc
  · exact ⟨rfl, id⟩
  · exact ⟨rfl, id⟩
theorem ta_o {A : am_I} {a3 : Int32} {f c : Nat} (h : A 1 3 = nI c) (hc : c = 17 ∨ c = 18 ∨ c = 19) (hs3 : ¬ A 3 3 = 3) : s_X2_take f A a3 = am_w (s_X2_hold (s_X2_unload f A (if c = 19 then 19 else 17)) (nI c)) 3 3 5 ∧ ((p_X2_unload f A (if c = 19 then 19 else 17) ∧ p_X2_hold (s_X2_unload f A (if c = 19 then 19 else 17)) (nI c)) → p_X2_take f A a3) := by
  obtain ⟨e1, e2⟩ := ta_n (f := f) (a3 := a3) h (by omega) (by omega) (by omega) (by omega) hs3
  have x : ¬ nI c = 15 := fun q => absurd ((tb_n c (by omega) 15 (by decide)).mp q) (by omega)
  have y : s_X9_isVar (nI c) = 0 := (tb_v c (by omega)).mpr (by omega)
  have z1 : ¬ nI c = 24 := fun q => absurd ((tb_n c (by omega) 24 (by decide)).mp q) (by omega)
  have z2 : ¬ nI c = 25 := fun q => absurd ((tb_n c (by omega) 25 (by decide)).mp q) (by omega)
  have z3 : ¬ s_X9_isOperator (nI c) = 0 := fun q => (tb_o c (by omega)).mp q hc
  rw [e1, e2, if_neg x, if_neg x, if_pos y, if_pos y, if_neg z1, if_neg z1, if_neg z2, if_neg z2, if_neg z3, if_neg z3]
  by_cases c19 : c = 19
  · have w : nI c = 19 := by rw [c19]; rfl
    simp only [if_pos w, if_pos c19]
    exact ⟨trivial, id⟩
  · have w : ¬ nI c = 19 := fun q => c19 ((tb_n c (by omega) 19 (by decide)).mp q)
    simp only [if_neg w, if_neg c19]
    exact ⟨trivial, id⟩
theorem ta_c {A : am_I} {a3 : Int32} {f c : Nat} (h : A 1 3 = nI c) (hc : 20 ≤ c ∧ c ≤ 23) (hs3 : ¬ A 3 3 = 3) : s_X2_take f A a3 = am_w (am_w (s_X2_unload f A 17) 3 4 (nI c)) 3 3 5 ∧ (p_X2_unload f A 17 → p_X2_take f A a3) := by
  obtain ⟨e1, e2⟩ := ta_n (f := f) (a3 := a3) h (by omega) (by omega) (by omega) (by omega) hs3
  have x : ¬ nI c = 15 := fun q => absurd ((tb_n c (by omega) 15 (by decide)).mp q) (by omega)
  have y : s_X9_isVar (nI c) = 0 := (tb_v c (by omega)).mpr (by omega)
  have z1 : ¬ nI c = 24 := fun q => absurd ((tb_n c (by omega) 24 (by decide)).mp q) (by omega)
  have z2 : ¬ nI c = 25 := fun q => absurd ((tb_n c (by omega) 25 (by decide)).mp q) (by omega)
  have z3 : s_X9_isOperator (nI c) = 0 := (tb_o c (by omega)).mpr (by omega)
  have z4 : ¬ s_X2_isComparison (nI c) = 0 := fun q => (tb_c c (by omega)).mp q hc
  rw [e1, e2, if_neg x, if_neg x, if_pos y, if_pos y, if_neg z1, if_neg z1, if_neg z2, if_neg z2, if_pos z3, if_pos z3, if_neg z4, if_neg z4]
  exact ⟨rfl, id⟩
theorem ta_l {A : am_I} {a3 : Int32} {f c : Nat} (h : A 1 3 = nI c) (hc : c = 4 ∨ c = 5 ∨ c = 16) (hs3 : ¬ A 3 3 = 3) : s_X2_take f A a3 = s_X2_takeLiteralEnd f A (nI c) ∧ (p_X2_takeLiteralEnd f A (nI c) → p_X2_take f A a3) := by
  obtain ⟨e1, e2⟩ := ta_n (f := f) (a3 := a3) h (by omega) (by omega) (by omega) (by omega) hs3
  have x : ¬ nI c = 15 := fun q => absurd ((tb_n c (by omega) 15 (by decide)).mp q) (by omega)
  have y : s_X9_isVar (nI c) = 0 := (tb_v c (by omega)).mpr (by omega)
  have z1 : ¬ nI c = 24 := fun q => absurd ((tb_n c (by omega) 24 (by decide)).mp q) (by omega)
  have z2 : ¬ nI c = 25 := fun q => absurd ((tb_n c (by omega) 25 (by decide)).mp q) (by omega)
  have z3 : s_X9_isOperator (nI c) = 0 := (tb_o c (by omega)).mpr (by omega)
  have z4 : s_X2_isComparison (nI c) = 0 := (tb_c c (by omega)).mpr (by omega)
  rw [e1, e2, if_neg x, if_neg x, if_pos y, if_pos y, if_neg z1, if_neg z1, if_neg z2, if_neg z2, if_pos z3, if_pos z3, if_pos z4, if_pos z4]
  exact ⟨rfl, id⟩
end
