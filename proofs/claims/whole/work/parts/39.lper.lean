/-! ===== the law calls person ===== -/
/-- only the cells that are there count -/
theorem gl_ext {b N kc ks nc pc : Nat} {xs : Nat → Int32} {L : List (Option Value)} {st : List Value} {I I2 : am_I} {J J2 : am_J} {Q : am_Q} {E E2 : Nat → am_I} (hI : ∀ k, k < 92 → ¬ (38 ≤ k ∧ k < 46) → I k = I2 k) (hJ : ∀ k, k < 92 → ¬ (38 ≤ k ∧ k < 46) → J k = J2 k) (hE : ∀ j i, j < nc → i < 8 → E j i = E2 j i) (kk : GL b N xs kc ks pc L st nc I2 J2 Q E2) : GL b N xs kc ks pc L st nc I J Q E := by
  intro p l e s m below meth c H locs ls D dA ad al C0 S hb2 hW hS hl
  refine kk p l e s m below meth c H locs ls D dA ad al C0 S hb2 ⟨fun k h1 h2 => ?_, fun j i h1 h2 => ?_, hW.2.2.1, hW.2.2.2.1, hW.2.2.2.2⟩ hS hl
  · rw [← hI k h1 h2, ← hJ k h1 h2]
    exact hW.1 k h1 h2
  · rw [← hE j i h1 h2]
    exact hW.2.1 j i h1 h2
theorem gl_callA {y' : am_MD} {b0 N kc ks nc pc q idx d' mc' ms' pn b ci j : Nat} {xs : Nat → Int32} {L : List (Option Value)} {As st rest : List Value} {I I' : am_I} {J J' : am_J} {Q Q' Q2 : am_Q} {E : Nat → am_I} {x : Int32} (hat : am_at ML_law pc = some (.invokevirtual idx, 3)) (hq : pc + 3 = q) (hlk : am_lk 11 idx false y') (hm : am_my y' pn) (hv : am_vi y') (hj : j < nc) (hc : Cm y' d' mc' ms' 92 (.ref b :: As) (lI j I E) J (lQ j Q) (some (.int x), 100, I', J', Q')) (hst : st = As.reverse ++ .ref b :: rest) (hb : b < 92) (hbf : ¬ (38 ≤ b ∧ b < 46)) (hly : am_lay b = .inl ci) (hci : am_cn ci = y'.2.1.cls) (hci2 : ci < 11) (hn : As.length = pn) (hcat : (rest.map fun v => v.category).sum ≤ 8) (hAs : As.all am_nfv = true) (hR : d' + 1 ≤ 12 ∧ 8 + (y'.2.2.2.1 + 11) + 40 * d' ≤ 446) (hf : kc + mc' ≤ 600000 ∧ ks + ms' ≤ 7302250)
    (hI : ∀ i, i < 8 → I' (38 + i) = E j i) (hqf : ∀ i, i < 8 → Q' (38 + i) = lqc (38 + i)) (hqn : ∀ i, i < 8 → Q' (92 + i) = lq92 (92 + i)) (hQ2 : ∀ k f r, Q2 k f = some r → lv_l (nc + 1) r) (hqodd : ∀ k f r, Q2 k f = some r → r ≤ 1000 + 8 * nc) (hQQ : ∀ k, k < 92 → ¬ (38 ≤ k ∧ k < 46) → ∀ f, Q' k f = (Q2 k f).map (fun r => if r = 1000 + 8 * j then 38 else if r = 1000 + 8 * nc then 92 else r)) (hnc : nc < 100) (hL : am_lk2 1000 2000 L = true) (hrs : rest.all (am_vk 1000 2000) = true)
    (kk : GL b0 N xs (kc + mc') (ks + ms') q L (.int x :: rest) (nc + 1) I' J' Q2 (fun j' i => if j' = nc then I' (92 + i) else E j' i)) : GL b0 N xs kc ks pc L st nc I J Q E := by
  subst hq; subst hst
  intro p l e s m below meth c H locs ls D dA ad al C0 S hb2 hW hS hl
  obtain ⟨hP, hD⟩ := l_foc hW hj
  have hAA := am_sub hD hS S.2.2.2.2.2.2.2.2.2.2
  refine am_afterF (gl_run hat hlk hm hv hj hc hb hbf hly hci hci2 hn hcat hAs hR hf S hW hS hl) hS hAA (fun al' H1 locs1 ha _ hP1 hD1 hz hk hS1 => ?_)
  have hag : ∀ k, k < 1000 ∨ 2000 ≤ k → la2 nc al al' k = al k := fun k hk => la2_out (by omega)
  have h := kk p l e s m below meth c H1 locs1 ls D dA ad (la2 nc al al') C0 S (by rw [hag 2000 (by omega)]; exact hb2) (l_new hW hj ha hP1 hD1 hAA hk hI hqf hqn hQ2 hqodd hQQ) hS1 (am_H_ag hag hL hl)
  rw [List.map_cons, am_st_ag hag hrs] at h
  exact h
theorem l_nQ92 {Q : am_Q} {k : Nat} (h : k < 92) : nQ_X1_init_92 Q k = Q k := by
  unfold nQ_X1_init_92 am_w va_up
  simp only [if_neg (show ¬ k = 92 by omega), if_neg (show ¬ k = 93 by omega), if_neg (show ¬ k = 94 by omega), if_neg (show ¬ k = 95 by omega), if_neg (show ¬ k = 96 by omega), if_neg (show ¬ k = 97 by omega), if_neg (show ¬ k = 98 by omega), if_neg (show ¬ k = 99 by omega)]
theorem l_nI92 {I : am_I} {k : Nat} (h : k < 92) : nI_X1_init_92 I k = I k := by
  unfold nI_X1_init_92 va_up
  simp only [if_neg (show ¬ k = 93 by omega), if_neg (show ¬ k = 94 by omega), if_neg (show ¬ k = 95 by omega), if_neg (show ¬ k = 96 by omega), if_neg (show ¬ k = 97 by omega), if_neg (show ¬ k = 98 by omega), if_neg (show ¬ k = 99 by omega)]
theorem l_upk {α : Type} {f : Nat → α} {n k : Nat} {v : α} (h : k < n) : va_up f n v k = f k := by
  unfold va_up
  rw [if_neg (by omega)]
theorem l_upo {α : Type} {f : Nat → α} {n k : Nat} {v : α} (h : ¬ k = n) : va_up f n v k = f k := by
  unfold va_up
  rw [if_neg h]
theorem l_q92 {Q : am_Q} {i : Nat} (hi : i < 8) : nQ_X1_init_92 (va_up Q 92 (fun _ => none)) (92 + i) = lq92 (92 + i) := by
  match i, hi with
  | 0, _ =>
    funext f
    match f with
    | 0 => rfl
    | 1 => rfl
    | 2 => rfl
    | 3 => rfl
    | 4 => rfl
    | 5 => rfl
    | 6 => rfl
    | f + 7 =>
      show nQ_X1_init_92 (va_up Q 92 (fun _ => none)) 92 (f + 7) = none
      unfold nQ_X1_init_92 am_w va_up
      simp
  | 1, _ => rfl
  | 2, _ => rfl
  | 3, _ => rfl
  | 4, _ => rfl
  | 5, _ => rfl
  | 6, _ => rfl
  | 7, _ => rfl
  | i + 8, h => exact absurd h (by omega)
/-- the memory behind a person, without what is no cell of the law's world -/
def lp_I (I : am_I) (a1 a2 a3 a4 : Int32) : am_I := am_w (am_w (am_w (am_w (am_w (am_w I 10 ((I 9 3) * 4).toNatClampNeg a1) 10 (((I 9 3) * 4) + 1).toNatClampNeg a2) 10 (((I 9 3) * 4) + 2).toNatClampNeg a3) 10 (((I 9 3) * 4) + 3).toNatClampNeg a4) 11 (I 9 3).toNatClampNeg (-1)) 9 3 (I 9 3 + 1)
theorem l_naI {I : am_I} {a1 a2 a3 a4 : Int32} {k : Nat} (h : k < 92) : na_I I a1 a2 a3 a4 k = lp_I I a1 a2 a3 a4 k := by
  have e : ∀ X : am_I, nI_X1_init_92 (va_up X 92 (fun _ => 0)) 9 = X 9 := fun X => rfl
  unfold na_I lp_I
  by_cases hk : k = 9
  · subst hk
    rfl
  · unfold am_w
    rw [show ∀ (X : am_I) (r : Nat → Int32), va_up X 9 r k = X k from fun X r => by unfold va_up; rw [if_neg hk], show ∀ (X : am_I) (r : Nat → Int32), va_up X 9 r k = X k from fun X r => by unfold va_up; rw [if_neg hk], l_nI92 h, l_upk h]
theorem gl_person {b0 N kc ks nc pc q idx j : Nat} {xs : Nat → Int32} {L : List (Option Value)} {st rest : List Value} {I : am_I} {J : am_J} {Q : am_Q} {E : Nat → am_I} (a1 a2 a3 a4 : Int32) (hat : am_at ML_law pc = some (.invokevirtual idx, 3)) (hq : pc + 3 = q) (hlk : am_lk 11 idx false MX9_person) (hj : j < nc) (hG : Gr (lQ j Q)) (hst : st = [.int a4, .int a3, .int a2, .int a1, .ref 0] ++ rest) (hcat : (rest.map fun v => v.category).sum ≤ 8) (hf : kc + 8 ≤ 600000 ∧ ks + 975 ≤ 7302250) (hnc : nc < 100) (hL : am_lk2 1000 2000 L = true) (hrs : rest.all (am_vk 1000 2000) = true)
    (hQ : ∀ k f r, Q k f = some r → lv_l nc r) (h1 : ¬ s_X9_isBelow a1 4 = 0) (h2 : ¬ s_X9_isBelow a2 4 = 0) (h3 : ¬ s_X9_isBelow a3 4 = 0) (h4 : ¬ s_X9_isBelow a4 4 = 0) (h : I 9 3 < 12) (g0 : vp_in ((I 9 3) * 4) 48) (g1 : vp_in (((I 9 3) * 4) + 1) 48) (g2 : vp_in (((I 9 3) * 4) + 2) 48) (g3 : vp_in (((I 9 3) * 4) + 3) 48) (g4 : vp_in (I 9 3) 12)
    (kk : GL b0 N xs (kc + 8) (ks + 975) q L (.int (I 9 3 + 1 - 1) :: rest) (nc + 1) (lp_I I a1 a2 a3 a4) J (am_w Q 12 (I 9 3).toNatClampNeg (some (1000 + 8 * nc))) (fun j' i => if j' = nc then fun _ => 0 else E j' i)) : GL b0 N xs kc ks pc L st nc I J Q E := by
  have hqb : am_qb 92 (lQ j Q) := by
    intro k f r hr
    by_cases hf : 38 ≤ k ∧ k < 46
    · rw [lQ_in hf] at hr
      have := l_lqc hr
      exact Or.inl (by omega)
    · rw [lQ_out hf] at hr
      dsimp only at hr
      cases hq : Q k f with
      | none => rw [hq] at hr; cases hr
      | some r0 =>
        rw [hq] at hr
        have hr1 : lqm j r0 = r := Option.some.inj hr
        subst hr1
        have := hQ k f r0 hq
        unfold lqm
        split
        · exact Or.inl (by omega)
        · rcases this with t | t
          · exact Or.inl t.1
          · exact Or.inr t.1
  have e9 : ∀ k, k < 38 → lI j I E k = I k := fun k hk => lI_out (by omega)
  have hc := ct_person_new (lI j I E) J (lQ j Q) hG hqb a1 a2 a3 a4 h1 h2 h3 h4 h g0 g1 g2 g3 g4 g4
  refine gl_callA (Q2 := am_w Q 12 (I 9 3).toNatClampNeg (some (1000 + 8 * nc))) hat hq hlk myX9_person vxX9_person hj hc (rest := rest) hst (Nat.le_of_ble_eq_true rfl) (by decide) rfl rfl (Nat.le_of_ble_eq_true rfl) rfl hcat rfl ⟨Nat.le_of_ble_eq_true rfl, Nat.le_of_ble_eq_true rfl⟩ hf (fun i hi => ?_) (fun i hi => ?_) (fun i hi => ?_) (fun k f r hr => ?_) (fun k f r hr => ?_) (fun k hk9 hkf f => ?_) hnc hL hrs ?_
  · rw [l_naI (by omega)]
    unfold lp_I am_w
    rw [l_upo (show ¬ 38 + i = 9 by omega), l_upo (show ¬ 38 + i = 11 by omega), l_upo (show ¬ 38 + i = 10 by omega), l_upo (show ¬ 38 + i = 10 by omega), l_upo (show ¬ 38 + i = 10 by omega), l_upo (show ¬ 38 + i = 10 by omega), lI_in (by omega), show 38 + i - 38 = i by omega]
  · unfold na_Q
    unfold am_w
    rw [l_upo (show ¬ 38 + i = 12 by omega), l_nQ92 (by omega), l_upk (by omega), lQ_in (by omega)]
  · unfold na_Q
    unfold am_w
    rw [l_upo (show ¬ 92 + i = 12 by omega)]
    exact l_q92 hi
  · have : Q k f = some r ∨ r = 1000 + 8 * nc := by
      unfold am_w va_up at hr
      split at hr
      · next hk =>
        dsimp only at hr
        split at hr
        · cases hr; exact Or.inr rfl
        · rw [hk]; exact Or.inl hr
      · exact Or.inl hr
    rcases this with t | t
    · rcases hQ k f r t with u | u
      · exact Or.inl u
      · exact Or.inr (by omega)
    · exact Or.inr (by omega)
  · have : Q k f = some r ∨ r = 1000 + 8 * nc := by
      unfold am_w va_up at hr
      split at hr
      · next hk =>
        dsimp only at hr
        split at hr
        · cases hr; exact Or.inr rfl
        · rw [hk]; exact Or.inl hr
      · exact Or.inl hr
    rcases this with t | t
    · rcases hQ k f r t with u | u <;> omega
    · omega
  · have key : ∀ f, (lQ j Q) k f = (Q k f).map (fun r => if r = 1000 + 8 * j then 38 else if r = 1000 + 8 * nc then 92 else r) := by
      intro f
      rw [lQ_out hkf]
      show (Q k f).map (lqm j) = _
      cases hq : Q k f with
      | none => rfl
      | some r =>
        simp only [Option.map_some]
        congr 1
        unfold lqm
        split
        · rfl
        · rw [if_neg]
          rcases hQ k f r hq with u | u <;> omega
    unfold na_Q am_w
    by_cases hk : k = 12
    · subst hk
      rw [show ∀ (X : am_Q) (r : Nat → Option Nat), va_up X 12 r 12 = r from fun X r => by simp [va_up], show ∀ (X : am_Q) (r : Nat → Option Nat), va_up X 12 r 12 = r from fun X r => by simp [va_up]]
      rw [l_nQ92 (show (12 : Nat) < 92 by omega), l_upk (show (12 : Nat) < 92 by omega)]
      rw [show (lI j I E 9 3) = I 9 3 from congrFun (e9 9 (by omega)) 3]
      by_cases hff : f = (I 9 3).toNatClampNeg
      · subst hff
        simp only [va_up, if_true, Option.map_some]
        rw [if_neg (by omega)]
      · simp only [va_up, if_neg hff]
        exact key f
    · rw [l_upo hk, l_upo hk, l_nQ92 hk9, l_upk hk9]
      exact key f
  · refine gl_ext (I2 := lp_I I a1 a2 a3 a4) (J2 := J) (E2 := fun j' i => if j' = nc then fun _ => 0 else E j' i) (fun k hk9 hkf => ?_) (fun k hk9 _ => ?_) (fun j' i hj' hi => ?_) ?_
    · rw [l_naI hk9]
      unfold lp_I
      rw [show (lI j I E 9 3) = I 9 3 from congrFun (e9 9 (by omega)) 3]
      unfold am_w
      by_cases c9 : k = 9
      · subst c9; rfl
      by_cases c10 : k = 10
      · subst c10; rfl
      by_cases c11 : k = 11
      · subst c11; rfl
      rw [l_upo c9, l_upo c11, l_upo c10, l_upo c10, l_upo c10, l_upo c10, l_upo c9, l_upo c11, l_upo c10, l_upo c10, l_upo c10, l_upo c10, lI_out hkf]
    · unfold na_J nJ_X1_init_92
      rw [l_upk (by omega), l_upk (by omega), l_upk (by omega), l_upk (by omega), l_upk (by omega), l_upk (by omega), l_upk (by omega)]
    · by_cases hjn : j' = nc
      · rw [if_pos hjn, if_pos hjn]
        unfold na_I
        match i, hi with
        | 0, _ => rfl
        | 1, _ => rfl
        | 2, _ => rfl
        | 3, _ => rfl
        | 4, _ => rfl
        | 5, _ => rfl
        | 6, _ => rfl
        | 7, _ => rfl
        | i + 8, h => exact absurd h (by omega)
      · rw [if_neg hjn, if_neg hjn]
    · exact kk
