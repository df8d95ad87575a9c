section
/-! ===== operators that wait ===== -/
def sOp (x y : Int32) : Prop := (x = 24 ∧ y = 6) ∨ (x = 17 ∧ y = 8) ∨ (x = 18 ∧ y = 9) ∨ (x = 19 ∧ y = 10)
def opn (r : Nat → Int32) : Nat → Nat
  | 0 => 0
  | w + 1 => opn r w + (if r w = 24 then 1 else 0)
def adj (r : Nat → Int32) (w : Nat) : Prop := ∀ i, i + 1 < w → (r i = 24 ∨ r (i + 1) = 24 ∨ (¬ r i = 19 ∧ r (i + 1) = 19))
def tpv (x : Int32) : Nat := if x = 24 then 0 else if x = 19 then 2 else 1
theorem opn_le {r : Nat → Int32} : ∀ w, opn r w ≤ w := by
  intro w
  induction w with
  | zero => exact Nat.le_refl 0
  | succ w ih =>
    show opn r w + _ ≤ w + 1
    split <;> omega
theorem opn_b {r : Nat → Int32} : ∀ w, adj r w → w - opn r w ≤ 2 * opn r w + (if w = 0 then 0 else tpv (r (w - 1))) := by
  intro w
  induction w with
  | zero => intro _; rw [if_pos rfl]; exact Nat.le_refl 0
  | succ w ih =>
    intro ha
    have i := ih (fun j hj => ha j (by omega))
    have l := opn_le (r := r) w
    rw [if_neg (by omega), show w + 1 - 1 = w by omega]
    show w + 1 - (opn r w + _) ≤ 2 * (opn r w + _) + _
    by_cases h24 : r w = 24
    · rw [if_pos h24]
      have : (if w = 0 then 0 else tpv (r (w - 1))) ≤ 2 := by
        split
        · omega
        · unfold tpv
          split
          · omega
          · split <;> omega
      omega
    · rw [if_neg h24]
      have t1 : 1 ≤ tpv (r w) := by
        unfold tpv
        rw [if_neg h24]
        split <;> omega
      by_cases h0 : w = 0
      · subst h0
        omega
      · rw [if_neg h0] at i
        have a := ha (w - 1) (by omega)
        rw [show w - 1 + 1 = w by omega] at a
        rcases a with a | a | ⟨a1, a2⟩
        · have : tpv (r (w - 1)) = 0 := by unfold tpv; rw [if_pos a]
          omega
        · exact absurd a h24
        · have x1 : tpv (r (w - 1)) ≤ 1 := by
            unfold tpv
            split
            · omega
            · exact Nat.le_refl 1
          have x2 : tpv (r w) = 2 := by unfold tpv; rw [if_neg h24, if_pos a2]
          omega
theorem opn_2 {r : Nat → Int32} {w : Nat} (h : adj r w) : w ≤ 3 * opn r w + 2 := by
  have := opn_b w h
  have l := opn_le (r := r) w
  have : (if w = 0 then 0 else tpv (r (w - 1))) ≤ 2 := by
    split
    · omega
    · unfold tpv
      split
      · omega
      · split <;> omega
  omega
theorem opn_cg {r r' : Nat → Int32} : ∀ w, (∀ i, i < w → r' i = r i) → opn r' w = opn r w := by
  intro w
  induction w with
  | zero => intro _; rfl
  | succ w ih =>
    intro h
    show opn r' w + _ = opn r w + _
    rw [ih (fun i hi => h i (by omega)), h w (by omega)]
theorem hgt_o {r r' : Nat → Int32} {B S h : Nat} (hB : B ≤ S) (hh : hgt r B (S - B) = some h) (h2 : 2 ≤ h) (hx : 10017 ≤ (r' S).toInt) (he : ∀ i, i < S → r' i = r i) : hgt r' B (S + 1 - B) = some (h - 1) := by
  rw [show S + 1 - B = (S - B) + 1 by omega]
  unfold hgt
  rw [hgt_cg (S - B) (fun j hj => he (B + j) (by omega)), hh, show B + (S - B) = S by omega]
  show (if _ then _ else _) = _
  rw [if_pos hx, if_pos h2]
theorem hgt_v {r r' : Nat → Int32} {B S h : Nat} (hB : B ≤ S) (hh : hgt r B (S - B) = some h) (h2 : h < 15) (hx : ¬ 10017 ≤ (r' S).toInt) (he : ∀ i, i < S → r' i = r i) : hgt r' B (S + 1 - B) = some (h + 1) := by
  rw [show S + 1 - B = (S - B) + 1 by omega]
  unfold hgt
  rw [hgt_cg (S - B) (fun j hj => he (B + j) (by omega)), hh, show B + (S - B) = S by omega]
  show (if _ then _ else _) = _
  rw [if_neg hx, if_pos h2]
theorem em_1 {M : am_I} {c : Nat} {k v : Int32} (h : M 46 30 = nI c) (hc : c < 12000) : s_X10_emit M k v = am_w (am_w (am_w M 65 c k) 66 c v) 46 30 (nI (c + 1)) ∧ p_X10_emit M k v := by
  have x : vp_in (nI c) 12000 := vp_in_nI hc (by omega)
  unfold s_X10_emit p_X10_emit
  rw [h, nI_clamp (by omega), nI_1]
  exact ⟨rfl, x, x⟩
def Stk (A M : am_I) (w dp : Nat) : Prop := A 3 1 = nI w ∧ M 46 34 = nI w ∧ A 3 2 = nI dp ∧ M 46 12 = nI dp ∧ (∀ i, i < w → sOp (A 4 i) (M 67 i)) ∧ adj (A 4) w ∧ opn (A 4) w = dp ∧ dp ≤ 6
def FUn (A A' : am_I) : Prop := ∀ k a, k ≠ 45 → ¬ (k = 3 ∧ a = 1) → ¬ (k = 38 ∧ a = 9) → A' k a = A k a
def FVn (g : Nat) (M M' : am_I) : Prop := ∀ k a, ¬ ((k = 65 ∨ k = 66) ∧ 500 * g ≤ a ∧ a < 500 * g + 500) → ¬ (k = 46 ∧ (a = 34 ∨ a = 30)) → M' k a = M k a
theorem FUn.rf {A : am_I} : FUn A A := fun _ _ _ _ _ => rfl
theorem FVn.rf {g : Nat} {A : am_I} : FVn g A A := fun _ _ _ _ => rfl
theorem FUn.tr {A A' A'' : am_I} (h : FUn A A') (h2 : FUn A' A'') : FUn A A'' := fun k a q1 q2 q3 => (h2 k a q1 q2 q3).trans (h k a q1 q2 q3)
theorem FVn.tr {g : Nat} {A A' A'' : am_I} (h : FVn g A A') (h2 : FVn g A' A'') : FVn g A A'' := fun k a q1 q2 => (h2 k a q1 q2).trans (h k a q1 q2)
theorem FUn.row {A A' : am_I} (h : FUn A A') {k : Nat} (h1 : k ≠ 45) (h2 : k ≠ 3) (h3 : k ≠ 38) : A' k = A k := funext fun a => h k a h1 (fun q => h2 q.1) (fun q => h3 q.1)
theorem FVn.row {g : Nat} {A A' : am_I} (h : FVn g A A') {k : Nat} (h1 : k ≠ 65) (h2 : k ≠ 66) (h3 : k ≠ 46) : A' k = A k := funext fun a => h k a (fun q => by omega) (fun q => h3 q.1)
/-- one operator goes out -/
theorem unl_1 {ok : Bool} {A M : am_I} {g R R' L S B w dp : Nat} {rb lb md : Nat → Nat} (hS : Stk A M (w + 1) dp) (hC : CMk ok A M g R R' L S rb lb md) (h30 : M 46 30 = nI (500 * g + S)) (hB : B ≤ S) (hh : hgt (A 45) B (S - B) = some (w + 1 - dp + 1)) (hs : S + (w + 1 - dp) ≤ 400) (hg : g < 24) (h24 : ¬ A 4 w = 24) : ∃ (n : Nat) (A' M' : am_I), n < 3 ∧ A 4 w = nI (17 + n) ∧ M 67 w = nI (8 + n) ∧ s_X1_addCell (am_w A 3 1 (nI w)) (s_X1_codeOf (A 4 w)) = A' ∧ p_X1_addCell (am_w A 3 1 (nI w)) (s_X1_codeOf (A 4 w)) ∧ s_X10_emit (am_w M 46 34 (nI w)) (nI (2 + n)) 0 = M' ∧ (∀ k v, p_X10_emit (am_w M 46 34 (nI w)) k v) ∧ Stk A' M' w dp ∧ CMk ok A' M' g R R' L (S + 1) rb lb md ∧ M' 46 30 = nI (500 * g + (S + 1)) ∧ hgt (A' 45) B (S + 1 - B) = some (w - dp + 1) ∧ (∀ i, i < S → A' 45 i = A 45 i) ∧ FUn A A' ∧ FVn g M M' ∧ dp ≤ w := by
  obtain ⟨s1, s2, s3, s4, s5, s6, s7, s8⟩ := hS
  have hop : opn (A 4) w = dp := by
    have e : opn (A 4) w + (if A 4 w = 24 then 1 else 0) = dp := s7
    rw [if_neg h24] at e
    exact e
  have hdw : dp ≤ w := by rw [← hop]; exact opn_le w
  obtain ⟨n, hn, e1, e2⟩ : ∃ n, n < 3 ∧ A 4 w = nI (17 + n) ∧ M 67 w = nI (8 + n) := by
    rcases s5 w (by omega) with ⟨x, -⟩ | ⟨x, y⟩ | ⟨x, y⟩ | ⟨x, y⟩
    · exact absurd x h24
    · exact ⟨0, by decide, x, y⟩
    · exact ⟨1, by decide, x, y⟩
    · exact ⟨2, by decide, x, y⟩
  have ec : s_X1_codeOf (A 4 w) = nI (10017 + n) := by
    rw [e1]
    unfold s_X1_codeOf
    rw [show (10000 : Int32) = nI 10000 from rfl, nI_add, show 10000 + (17 + n) = 10017 + n by omega]
  have hS4 : S < 400 := by omega
  obtain ⟨a1, a2⟩ := ce_1 (A := am_w A 3 1 (nI w)) (S := S) (m := 10017 + n) hC.2.2.2.1 hS4 (by omega)
  have b := fun (k v : Int32) => em_1 (M := am_w M 46 34 (nI w)) (c := 500 * g + S) (k := k) (v := v) h30 (by omega)
  refine ⟨n, am_w (am_w (am_w A 3 1 (nI w)) 45 S (nI (10017 + n))) 38 9 (nI (S + 1)), am_w (am_w (am_w (am_w M 46 34 (nI w)) 65 (500 * g + S) (nI (2 + n))) 66 (500 * g + S) 0) 46 30 (nI (500 * g + S + 1)), hn, e1, e2, (by rw [ec]; exact a1), (by rw [ec]; exact a2), (b (nI (2 + n)) 0).1, fun k v => (b k v).2, ⟨rfl, rfl, s3, s4, fun i hi => s5 i (by omega), fun i hi => s6 i (by omega), hop, s8⟩, ?_, rfl, ?_, fun i hi => ?_, ?_, ?_, hdw⟩
  · refine CMk.cell (x := nI (10017 + n)) (kx := nI (2 + n)) (vx := 0) hC hS4 (Or.inr (Or.inr ⟨n, hn, rfl, rfl⟩)) (fun k h1 h2 => ?_) rfl rfl rfl rfl rfl (fun k h1 h2 h3 => ?_) rfl rfl
    · rw [aw_k (by omega), aw_k (by omega), aw_k (by omega)]
    · rw [aw_k (by omega), aw_k (by omega), aw_k (by omega), aw_k (by omega)]
  · have h1 := hgt_o (r' := (am_w (am_w (am_w A 3 1 (nI w)) 45 S (nI (10017 + n))) 38 9 (nI (S + 1))) 45) hB hh (by omega) (by
      show 10017 ≤ (va_up (A 45) S (nI (10017 + n)) S).toInt
      rw [vu_s, nI_toInt (by omega)]
      omega) (fun i hi => by
      show va_up (A 45) S (nI (10017 + n)) i = _
      rw [vu_n (by omega)])
    rw [h1]
    congr 1
    omega
  · show va_up (A 45) S (nI (10017 + n)) i = _
    rw [vu_n (by omega)]
  · intro k a q1 q2 q3
    by_cases k38 : k = 38
    · subst k38
      rw [aw_n (fun e => q3 ⟨rfl, e⟩)]
      rfl
    · rw [aw_k k38, aw_k q1]
      by_cases k3 : k = 3
      · subst k3
        rw [aw_n (fun e => q2 ⟨rfl, e⟩)]
      · rw [aw_k k3]
  · intro k a q1 q2
    by_cases k46 : k = 46
    · subst k46
      rw [aw_n (fun e => q2 ⟨rfl, Or.inr e⟩)]
      show am_w M 46 34 (nI w) 46 a = _
      rw [aw_n (fun e => q2 ⟨rfl, Or.inl e⟩)]
    · rw [aw_k k46]
      by_cases k66 : k = 66
      · subst k66
        rw [aw_n (fun e => q1 ⟨Or.inr rfl, by omega, by omega⟩)]
        rfl
      · rw [aw_k k66]
        by_cases k65 : k = 65
        · subst k65
          rw [aw_n (fun e => q1 ⟨Or.inl rfl, by omega, by omega⟩)]
          rfl
        · rw [aw_k k65, aw_k k46]
def uA (tm : Bool) : Int32 := if tm then 19 else 17
theorem unl_l {ok : Bool} {tm : Bool} {g R R' L B dp : Nat} {rb lb md : Nat → Nat} (hg : g < 24) : ∀ (w : Nat) (A M : am_I) (S ga gm : Nat), Stk A M w dp → CMk ok A M g R R' L S rb lb md → M 46 30 = nI (500 * g + S) → B ≤ S → hgt (A 45) B (S - B) = some (w - dp + 1) → S + (w - dp) ≤ 400 → 2 * w + 1 ≤ ga → 2 * w + 1 ≤ gm → ∃ (A' M' : am_I) (w' S' : Nat), (s_X2_unload_L0 (uA tm) ga 0 A = A' ∧ p_X2_unload_L0 (uA tm) ga 0 A) ∧ (s_X10_comesOut_L0 (bI tm) gm 0 M = M' ∧ p_X10_comesOut_L0 (bI tm) gm 0 M) ∧ Stk A' M' w' dp ∧ CMk ok A' M' g R R' L S' rb lb md ∧ M' 46 30 = nI (500 * g + S') ∧ hgt (A' 45) B (S' - B) = some (w' - dp + 1) ∧ (S ≤ S' ∧ S' + (w' - dp) = S + (w - dp) ∧ w' ≤ w) ∧ (∀ i, i < S → A' 45 i = A 45 i) ∧ FUn A A' ∧ FVn g M M' ∧ (w' = 0 ∨ A 4 (w' - 1) = 24 ∨ (tm = true ∧ ¬ A 4 (w' - 1) = 19)) := by
  intro w
  induction w with
  | zero =>
    intro A M S ga gm hS hC h30 hB hh hs h1 h2
    obtain ⟨ga, rfl⟩ : ∃ k, ga = k + 1 := ⟨ga - 1, by omega⟩
    obtain ⟨gm, rfl⟩ : ∃ k, gm = k + 1 := ⟨gm - 1, by omega⟩
    have c0 : nI 0 ≤ 0 := by decide
    rw [u_s_X2_unload_L0_0, u_p_X2_unload_L0_0, u_s_X10_comesOut_L0_0, u_p_X10_comesOut_L0_0, hS.1, hS.2.1, if_pos c0, if_pos c0, if_pos c0, if_pos c0]
    exact ⟨A, M, 0, S, ⟨rfl, trivial⟩, ⟨rfl, trivial⟩, hS, hC, h30, hh, ⟨Nat.le_refl _, rfl, Nat.le_refl _⟩, fun _ _ => rfl, FUn.rf, FVn.rf, Or.inl rfl⟩
  | succ w ih =>
    intro A M S ga gm hS hC h30 hB hh hs h1 h2
    obtain ⟨ga, rfl⟩ : ∃ k, ga = k + 1 + 1 := ⟨ga - 2, by omega⟩
    obtain ⟨gm, rfl⟩ : ∃ k, gm = k + 1 + 1 := ⟨gm - 2, by omega⟩
    have hw := opn_2 hS.2.2.2.2.2.1
    rw [hS.2.2.2.2.2.2.1] at hw
    have h6 := hS.2.2.2.2.2.2.2
    have c0 : ¬ nI (w + 1) ≤ 0 := nI_nle (by omega) (by omega)
    have v21 : vp_in (nI w) 21 := vp_in_nI (by omega) (by omega)
    have v48 : vp_in (nI w) 48 := vp_in_nI (by omega) (by omega)
    rw [u_s_X2_unload_L0_0, u_p_X2_unload_L0_0, u_s_X10_comesOut_L0_0, u_p_X10_comesOut_L0_0, hS.1, hS.2.1, if_neg c0, if_neg c0, if_neg c0, if_neg c0, nI_pred, nI_clamp (by omega)]
    have stay : (A 4 w = 24 ∨ (tm = true ∧ ¬ A 4 w = 19)) → ∃ (A' M' : am_I) (w' S' : Nat), (A = A' ∧ True) ∧ (M = M' ∧ True) ∧ Stk A' M' w' dp ∧ CMk ok A' M' g R R' L S' rb lb md ∧ M' 46 30 = nI (500 * g + S') ∧ hgt (A' 45) B (S' - B) = some (w' - dp + 1) ∧ (S ≤ S' ∧ S' + (w' - dp) = S + (w + 1 - dp) ∧ w' ≤ w + 1) ∧ (∀ i, i < S → A' 45 i = A 45 i) ∧ FUn A A' ∧ FVn g M M' ∧ (w' = 0 ∨ A 4 (w' - 1) = 24 ∨ (tm = true ∧ ¬ A 4 (w' - 1) = 19)) := fun hq => ⟨A, M, w + 1, S, ⟨rfl, trivial⟩, ⟨rfl, trivial⟩, hS, hC, h30, hh, ⟨Nat.le_refl _, rfl, Nat.le_refl _⟩, fun _ _ => rfl, FUn.rf, FVn.rf, Or.inr hq⟩
    have hso := hS.2.2.2.2.1 w (by omega)
    by_cases h24 : A 4 w = 24
    · have m6 : M 67 w = 6 := by
        rcases hso with ⟨-, y⟩ | ⟨x, -⟩ | ⟨x, -⟩ | ⟨x, -⟩
        · exact y
        all_goals rw [h24] at x; exact absurd x (by decide)
      have o0 : s_X9_isOperator (A 4 w) = 0 := by rw [h24]; decide
      rw [if_pos o0, if_pos o0, if_pos m6, if_pos m6]
      obtain ⟨A', M', w', S', ⟨x1, -⟩, ⟨x2, -⟩, x3⟩ := stay (Or.inl h24)
      exact ⟨A', M', w', S', ⟨x1, v21, trivial⟩, ⟨x2, v48, trivial⟩, x3⟩
    · obtain ⟨n, A1, M1, n1, n2, n3, k1, k2, k3, k4, k5, k6, k7, k8, k9, k10, k11, k12⟩ := unl_1 hS hC h30 hB hh hs hg h24
      have o0 : ¬ s_X9_isOperator (A 4 w) = 0 := by
        rw [n2]
        exact fun q => (tb_o (17 + n) (by omega)).mp q (by omega)
      have m6 : ¬ M 67 w = 6 := by
        rw [n3]
        exact fun q => absurd ((nI_eq (b := 6) (by omega) (by omega)).mp q) (by omega)
      rw [if_neg o0, if_neg o0, if_neg m6, if_neg m6]
      have go : ∃ (A' M' : am_I) (w' S' : Nat), (s_X2_unload_L0 (uA tm) (ga + 1) 1 A = A' ∧ p_X2_unload_L0 (uA tm) (ga + 1) 1 A) ∧ (s_X10_comesOut_L0 (bI tm) (gm + 1) 1 M = M' ∧ p_X10_comesOut_L0 (bI tm) (gm + 1) 1 M) ∧ Stk A' M' w' dp ∧ CMk ok A' M' g R R' L S' rb lb md ∧ M' 46 30 = nI (500 * g + S') ∧ hgt (A' 45) B (S' - B) = some (w' - dp + 1) ∧ (S ≤ S' ∧ S' + (w' - dp) = S + (w + 1 - dp) ∧ w' ≤ w + 1) ∧ (∀ i, i < S → A' 45 i = A 45 i) ∧ FUn A A' ∧ FVn g M M' ∧ (w' = 0 ∨ A 4 (w' - 1) = 24 ∨ (tm = true ∧ ¬ A 4 (w' - 1) = 19)) := by
        obtain ⟨A', M', w', S', y1, y2, y3, y4, y5, y6, y7, y8, y9, y10, y11⟩ := ih A1 M1 (S + 1) ga gm k5 k6 k7 (by omega) k8 (by omega) (by omega) (by omega)
        have r4 : A1 4 = A 4 := k10.row (by decide) (by decide) (by decide)
        rw [r4] at y11
        have z : S ≤ S' ∧ S' + (w' - dp) = S + (w + 1 - dp) ∧ w' ≤ w + 1 := by
          obtain ⟨z1, z2, z3⟩ := y7
          clear stay ih hso
          exact ⟨by omega, by omega, by omega⟩
        refine ⟨A', M', w', S', ?_, ?_, y3, y4, y5, y6, z, fun i hi => (y8 i (by omega)).trans (k9 i hi), k10.tr y9, k11.tr y10, y11⟩
        · rw [u_s_X2_unload_L0_1, u_p_X2_unload_L0_1, hS.1, nI_pred, nI_clamp (by omega), k1]
          exact ⟨y1.1, v21, k2, y1.2⟩
        · rw [u_s_X10_comesOut_L0_1, u_p_X10_comesOut_L0_1, hS.2.1, nI_pred, nI_clamp (by omega), n3]
          have e8 : nI (8 + n) = 8 ↔ n = 0 := by rw [show (8 : Int32) = nI 8 from rfl, nI_eq (by omega) (by omega)]; omega
          have e9 : nI (8 + n) = 9 ↔ n = 1 := by rw [show (9 : Int32) = nI 9 from rfl, nI_eq (by omega) (by omega)]; omega
          by_cases d0 : n = 0
          · subst d0
            rw [if_pos (e8.mpr rfl), if_pos (e8.mpr rfl)]
            have k3' : s_X10_emit (am_w M 46 34 (nI w)) 2 0 = M1 := k3
            rw [k3']
            exact ⟨y2.1, v48, k4 _ _, y2.2⟩
          · rw [if_neg (fun q => d0 (e8.mp q)), if_neg (fun q => d0 (e8.mp q))]
            by_cases d1 : n = 1
            · subst d1
              rw [if_pos (e9.mpr rfl), if_pos (e9.mpr rfl)]
              have k3' : s_X10_emit (am_w M 46 34 (nI w)) 3 0 = M1 := k3
              rw [k3']
              exact ⟨y2.1, v48, k4 _ _, y2.2⟩
            · rw [if_neg (fun q => d1 (e9.mp q)), if_neg (fun q => d1 (e9.mp q))]
              have d2 : n = 2 := by omega
              subst d2
              have k3' : s_X10_emit (am_w M 46 34 (nI w)) 4 0 = M1 := k3
              rw [k3']
              exact ⟨y2.1, v48, k4 _ _, y2.2⟩
      cases tm with
      | false =>
        have c17 : uA false = 17 := rfl
        have cb : bI false = 0 := rfl
        rw [if_pos c17, if_pos c17, if_pos cb, if_pos cb]
        obtain ⟨A', M', w', S', ⟨x1, x2⟩, ⟨x3, x4⟩, x5⟩ := go
        exact ⟨A', M', w', S', ⟨x1, v21, x2⟩, ⟨x3, v48, x4⟩, x5⟩
      | true =>
        have c17 : ¬ uA true = 17 := by decide
        have cb : ¬ bI true = 0 := by decide
        rw [if_neg c17, if_neg c17, if_neg cb, if_neg cb]
        by_cases h19 : A 4 w = 19
        · have m10 : M 67 w = 10 := by
            rcases hso with ⟨x, -⟩ | ⟨x, -⟩ | ⟨x, -⟩ | ⟨-, y⟩
            · rw [h19] at x; exact absurd x (by decide)
            · rw [h19] at x; exact absurd x (by decide)
            · rw [h19] at x; exact absurd x (by decide)
            · exact y
          rw [if_pos h19, if_pos h19, if_pos m10, if_pos m10]
          obtain ⟨A', M', w', S', ⟨x1, x2⟩, ⟨x3, x4⟩, x5⟩ := go
          exact ⟨A', M', w', S', ⟨x1, v21, v21, x2⟩, ⟨x3, v48, v48, x4⟩, x5⟩
        · have m10 : ¬ M 67 w = 10 := by
            intro q
            rcases hso with ⟨-, y⟩ | ⟨-, y⟩ | ⟨-, y⟩ | ⟨x, -⟩
            · rw [q] at y; exact absurd y (by decide)
            · rw [q] at y; exact absurd y (by decide)
            · rw [q] at y; exact absurd y (by decide)
            · exact h19 x
          rw [if_neg h19, if_neg h19, if_neg m10, if_neg m10]
          obtain ⟨A', M', w', S', ⟨x1, -⟩, ⟨x2, -⟩, x3⟩ := stay (Or.inr ⟨rfl, h19⟩)
          exact ⟨A', M', w', S', ⟨x1, v21, v21, trivial⟩, ⟨x2, v48, v48, trivial⟩, x3⟩
/-- both sides let their operators go alike -/
theorem unl {ok : Bool} (tm : Bool) {A M : am_I} {f g R R' L S B w dp : Nat} {rb lb md : Nat → Nat} (hf : 100 ≤ f) (hg : g < 24) (hS : Stk A M w dp) (hC : CMk ok A M g R R' L S rb lb md) (h30 : M 46 30 = nI (500 * g + S)) (hB : B ≤ S) (hh : hgt (A 45) B (S - B) = some (w - dp + 1)) (hs : S + (w - dp) ≤ 400) : ∃ (A' M' : am_I) (w' S' : Nat), (s_X2_unload f A (uA tm) = A' ∧ p_X2_unload f A (uA tm)) ∧ (s_X10_comesOut f M (bI tm) = M' ∧ p_X10_comesOut f M (bI tm)) ∧ Stk A' M' w' dp ∧ CMk ok A' M' g R R' L S' rb lb md ∧ M' 46 30 = nI (500 * g + S') ∧ hgt (A' 45) B (S' - B) = some (w' - dp + 1) ∧ (S ≤ S' ∧ S' + (w' - dp) = S + (w - dp) ∧ w' ≤ w) ∧ (∀ i, i < S → A' 45 i = A 45 i) ∧ FUn A A' ∧ FVn g M M' ∧ (w' = 0 ∨ A 4 (w' - 1) = 24 ∨ (tm = true ∧ ¬ A 4 (w' - 1) = 19)) := by
  have hw := opn_2 hS.2.2.2.2.2.1
  rw [hS.2.2.2.2.2.2.1] at hw
  have h6 := hS.2.2.2.2.2.2.2
  have e1 : s_X2_unload f A (uA tm) = s_X2_unload_L0 (uA tm) (f + 1) 0 A := by rw [u_s_X2_unload_L0_0]; rfl
  have e2 : p_X2_unload f A (uA tm) = p_X2_unload_L0 (uA tm) (f + 1) 0 A := by rw [u_p_X2_unload_L0_0]; rfl
  have e3 : s_X10_comesOut f M (bI tm) = s_X10_comesOut_L0 (bI tm) (f + 1) 0 M := by rw [u_s_X10_comesOut_L0_0]; rfl
  have e4 : p_X10_comesOut f M (bI tm) = p_X10_comesOut_L0 (bI tm) (f + 1) 0 M := by rw [u_p_X10_comesOut_L0_0]; rfl
  rw [e1, e2, e3, e4]
  exact unl_l hg w A M S (f + 1) (f + 1) hS hC h30 hB hh hs (by omega) (by omega)
end
