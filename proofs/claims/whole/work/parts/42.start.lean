/-! ===== from the law's entry to its loop ===== -/
def GS (b N : Nat) (xs : Nat → Int32) (kc ks n pc : Nat) (L : List (Option Value)) (st : List Value) (I : am_I) (J : am_J) (Q : am_Q) : Prop :=
  ∀ (p : Program) (l : Launch) (e : Env) (s : State) (m : MethodId) (below : List Frame) (meth : Method) (c : Code) (H : Heap) (locs : List Loc) (ls : Array Slot) (D : va_G) (dA : Nat → ClassId) (ad : am_AD) (al : Nat → Nat),
    lw_At p s m meth c b N xs → am_S ML_law p s m #[Value.ref b] meth c D dA ad (lA s) → al 2000 = b → va_P D vwCl (am_ws dA al n I J Q) H → va_D (lA s) (am_ws dA al n I J Q) → va_S (lA s) s.heap H locs → am_H ls 4 al L →
    W p l e room_1 s m #[Value.ref b] below meth c H locs kc ks (lw_Z below #[Value.ref b] s) (F0 m pc ls (st.map (am_cv al)))
section GSr
variable {b N kc ks n pc q idx ci : Nat} {xs : Nat → Int32} {L : List (Option Value)} {st : List Value} {I : am_I} {J : am_J} {Q : am_Q}
theorem gs_new (hat : am_at ML_law pc = some (.new idx, 3)) (hq : pc + 3 = q) (hly : am_lay n = .inl ci) (hci : ci < 11) (hcl : Cond.classLink (am_cn 11) idx (am_cn ci) ∈ lw_tbl) (hin : Cond.instantiable (am_cn ci) (am_nf ci) ∈ lw_tbl) (hini : Cond.initialized (am_cn ci) ∈ lw_tbl) (hQ : am_ql n (n + 1) Q) (hL : am_lk2 n (n + 1) L = true) (hst : st.all (am_vk n (n + 1)) = true) (hn : n < 2000) (hf : kc + 1 ≤ 600000 ∧ ks + am_nf ci ≤ 7302250)
    (kk : GS b N xs (kc + 1) (ks + am_nf ci) (n + 1) q L (.ref n :: st) (va_up I n (fun _ => 0)) J (va_up Q n (fun _ => none))) : GS b N xs kc ks n pc L st I J Q := by
  subst hq
  intro p l e s m below meth c H locs ls D dA ad al C0 S hb2 hP hD hS hl
  obtain ⟨r0, hr0, hr1⟩ : ∃ r0 : vw_C, vwCl[ci]? = some r0 ∧ r0.1 = am_cn ci := am_cls hci
  have hnf := am_nf_ok hr0
  have hts := S.2.2.2.2.2.2.2.1
  refine va_new (ci := ci) (C := r0.1) (T := r0.2.1) (N := r0.2.2) (fs := am_fs al ci (fun _ => 0) (fun _ => none)) S.1 S.2.1 hts (am_in hr0) (am_ty ci) (am_ty_ok hr0) S.2.2.2.2.2.2.1 (by rw [hr1]; exact hts _ (am_G_in hcl rfl)) (by rw [hr1, hnf]; exact hts _ (am_G_in hin rfl)) (by rw [hr1]; exact hts _ (am_G_in hini rfl)) S.2.2.2.2.2.2.2.2.2.1.1 hP hD hS S.2.2.2.2.2.2.2.2.2.2 hr0 (fun j hj => ?_) hf.1 (by rw [hnf]; exact hf.2) (S.2.2.2.2.2.2.2.2.1 _ _ hat) (fun a H1 hP1 hD1 hS1 => ?_)
  · rw [am_dflt hci j (by rw [← hnf]; exact hj)]
    unfold vp_V
    rw [List.getD_eq_getElem?_getD, am_fs_at (by rw [← hnf]; exact hj)]
    split <;> rfl
  · have hag : ∀ k, k < n ∨ n + 1 ≤ k → va_up al n a k = al k := fun k hk => by
      have : ¬ k = n := by omega
      simp [va_up, this]
    have hen : am_en dA al n (fun _ => 0) (J n) (fun _ => none) = .inr (ci, am_fs al ci (fun _ => 0) (fun _ => none)) := by rw [am_en, hly]
    have hw := am_ws_new (dA := dA) (al := al) (a := a) (I := I) (J := J) (Q := Q) (fun _ => 0) (J n) (fun _ => none) hQ (fun b r h => by cases h)
    rw [am_up_id, hen] at hw
    rw [hnf]
    have h := kk p l e s m below meth c H1 locs ls D dA ad (va_up al n a) C0 S (by rw [hag 2000 (by omega)]; exact hb2) (by rw [hw]; exact hP1) (by rw [hw]; exact hD1) hS1 (am_H_ag hag hL hl)
    rw [List.map_cons, am_st_ag hag hst] at h
    have e0 : am_cv (va_up al n a) (.ref n) = .ref a := by simp [am_cv, va_up]
    rw [e0] at h
    exact h
theorem gs_callI {y' : am_MD} {d' mc' ms' pn a n' : Nat} {As rest : List Value} {I' : am_I} {J' : am_J} {Q' : am_Q} (hat : am_at ML_law pc = some (.invokespecial idx, 3)) (hq : pc + 3 = q) (hlk : am_lk 11 idx false y') (hm : am_my y' pn) (hv : am_in0 y') (hret : y'.2.2.2.2.1 = none) (hc : Cm y' d' mc' ms' n (.ref a :: As) I J Q (none, n', I', J', Q')) (hst : st = As.reverse ++ .ref a :: rest) (hn : As.length = pn) (hcat : (rest.map fun v => v.category).sum ≤ 8) (hR : d' + 1 ≤ 12 ∧ 8 + (y'.2.2.2.1 + 11) + 40 * d' ≤ 446) (hf : kc + mc' ≤ 600000 ∧ ks + ms' ≤ 7302250) (hL : am_lk2 n n' L = true) (hrs : rest.all (am_vk n n') = true) (hn2 : n' ≤ 2000)
    (kk : GS b N xs (kc + mc') (ks + ms') n' q L rest I' J' Q') : GS b N xs kc ks n pc L st I J Q := by
  subst hq; subst hst
  intro p l e s m below meth c H locs ls D dA ad al C0 S hb2 hP hD hS hl
  have hpre := am_pre (av := .ref a :: As) S hP hD hS
  have hrun : va_Run p l e room_1 s m #[Value.ref b] below meth c H locs kc ks mc' ms' (F0 m pc ls ((As.reverse ++ .ref a :: rest).map (am_cv al))) (rest.map (am_cv al)) (am_Qc D dA (va_A (am_ws dA al n I J Q) H.size) al n (none, n', I', J', Q') (Value.ref (al a) :: As.map (am_cv al)).toArray) (va_A (am_ws dA al n I J Q) H.size) := by
    have hb := am_callB (R := room_1) (d' := d') (mc' := mc') (ms' := ms') S hm hlk hR
    rw [hret] at hb
    exact va_runI (As := As.map (am_cv al)) ⟨S.1, S.2.1, S.2.2.1, S.2.2.2.2.2.2.1, S.2.2.2.2.2.2.2.1⟩ (hc l D dA ad al H.size) ⟨hb, hv.2, S.2.2.2.2.2.2.2.1 _ (am_G_in hv.1 rfl)⟩ hpre rfl (by rw [List.length_map]; exact hn) hl.1 (am_stk al As (.ref a :: rest)) (lv_room (by rw [am_catsum]; exact hcat)) (S.2.2.2.2.2.2.2.2.1 _ _ hat) hf
  refine am_after hrun hS (am_sub hD hS S.2.2.2.2.2.2.2.2.2.2) (fun al' H1 locs1 ha hnn hP1 hD1 hS1 => ?_)
  have h := kk p l e s m below meth c H1 locs1 ls D dA ad al' C0 S (by rw [ha 2000 (Or.inr hn2)]; exact hb2) hP1 hD1 hS1 (am_H_ag ha hL hl)
  rw [am_st_ag ha hrs] at h
  exact h
theorem gs_dup {v : Value} (hat : am_at ML_law pc = some (.dup, 1)) (hq : pc + 1 = q) (hv : v.category = 1) (kk : GS b N xs kc ks n q L (v :: v :: st) I J Q) : GS b N xs kc ks n pc L (v :: st) I J Q := by
  subst hq
  intro p l e s m below meth c H locs ls D dA ad al C0 S hb2 hP hD hS hl
  exact lv_dup S.1 S.2.1 (S.2.2.2.2.2.2.2.2.1 _ _ hat) ((am_cv_cat al v).trans hv) (kk p l e s m below meth c H locs ls D dA ad al C0 S hb2 hP hD hS hl)
theorem gs_iconst {k : Int} {v : Int32} (hat : am_at ML_law pc = some (.iconst k, 1)) (hq : pc + 1 = q) (hv : Int32.ofInt k = v) (kk : GS b N xs kc ks n q L (.int v :: st) I J Q) : GS b N xs kc ks n pc L st I J Q := by
  subst hq
  intro p l e s m below meth c H locs ls D dA ad al C0 S hb2 hP hD hS hl
  exact lv_iconst S.1 S.2.1 (S.2.2.2.2.2.2.2.2.1 _ _ hat) hv (kk p l e s m below meth c H locs ls D dA ad al C0 S hb2 hP hD hS hl)
theorem gs_istore_n {k : Fin 4} {x : Int32} (hat : am_at ML_law pc = some (.istore_n k, 1)) (hq : pc + 1 = q) (hn : (k : Nat) < 4) (hnl : am_nl L k = true) (kk : GS b N xs kc ks n q (L.set (k : Nat) (some (.int x))) st I J Q) : GS b N xs kc ks n pc L (.int x :: st) I J Q := by
  subst hq
  intro p l e s m below meth c H locs ls D dA ad al C0 S hb2 hP hD hS hl
  exact lv_istore_n S.1 S.2.1 (S.2.2.2.2.2.2.2.2.1 _ _ hat) rfl hl hn rfl (fun ls2 hl2 => kk p l e s m below meth c H locs ls2 D dA ad al C0 S hb2 hP hD hS (am_H.st1 (ls := ls) hnl hl2))
theorem gs_astore_n {k : Fin 4} {x : Nat} (hat : am_at ML_law pc = some (.astore_n k, 1)) (hq : pc + 1 = q) (hn : (k : Nat) < 4) (hnl : am_nl L k = true) (kk : GS b N xs kc ks n q (L.set (k : Nat) (some (.ref x))) st I J Q) : GS b N xs kc ks n pc L (.ref x :: st) I J Q := by
  subst hq
  intro p l e s m below meth c H locs ls D dA ad al C0 S hb2 hP hD hS hl
  exact lv_astore_n S.1 S.2.1 (S.2.2.2.2.2.2.2.2.1 _ _ hat) rfl hl hn rfl (fun ls2 hl2 => kk p l e s m below meth c H locs ls2 D dA ad al C0 S hb2 hP hD hS (am_H.st1 (ls := ls) hnl hl2))
end GSr
/-- the first consent gets its number -/
theorem gs_GL {b N kc ks pc : Nat} {xs : Nat → Int32} {L : List (Option Value)} {st : List Value} {I : am_I} {J : am_J} {Q Q2 : am_Q} {E : Nat → am_I} (hq : ∀ k f r, Q2 k f = some r → (r < 92 ∧ ¬ (38 ≤ r ∧ r < 46)) ∨ r = 1000) (hQ : ∀ k, k < 92 → ¬ (38 ≤ k ∧ k < 46) → ∀ f, Q k f = (Q2 k f).map (fun r => if r = 1000 then 38 else r)) (hqc : ∀ i, i < 8 → Q (38 + i) = lqc (38 + i)) (hE : ∀ i, i < 8 → E 0 i = I (38 + i)) (hL : am_lk2 1000 2000 L = true) (hst : st.all (am_vk 1000 2000) = true)
    (kk : GL b N xs kc ks pc L st 1 I J Q2 E) : GS b N xs kc ks 92 pc L st I J Q := by
  intro p l e s m below meth c H locs ls D dA ad al C0 S hb2 hP hD hS hl
  have e1 : ∀ i, i < 8 → (fun k => if 1000 ≤ k ∧ k < 1008 then al (38 + (k - 1000)) else al k) (1000 + i) = al (38 + i) := fun i hi => by
    simp only
    rw [if_pos (by omega), show 1000 + i - 1000 = i by omega]
  have e2 : ∀ k, k < 1000 ∨ 2000 ≤ k → (fun k => if 1000 ≤ k ∧ k < 1008 then al (38 + (k - 1000)) else al k) k = al k := fun k hk => by
    simp only
    rw [if_neg (by omega)]
  generalize (fun k => if 1000 ≤ k ∧ k < 1008 then al (38 + (k - 1000)) else al k) = al2 at e1 e2
  have inj : ∀ a a', a < 92 → a' < 92 → al a = al a' → a = a' := fun a a' h h' he => hD.1 a a' _ _ (am_ws_at h) (am_ws_at h') he
  have cls : ∀ k, lv_l 1 k → ∃ a, a < 92 ∧ al2 k = al a ∧ ((k < 92 ∧ ¬ (38 ≤ k ∧ k < 46) ∧ a = k) ∨ (1000 ≤ k ∧ k < 1008 ∧ a = k - 962)) := by
    intro k hk
    rcases hk with hk | hk
    · exact ⟨k, hk.1, e2 k (by omega), Or.inl ⟨hk.1, hk.2, rfl⟩⟩
    · refine ⟨k - 962, by omega, ?_, Or.inr ⟨hk.1, by omega, rfl⟩⟩
      have := e1 (k - 1000) (by omega)
      rw [show 1000 + (k - 1000) = k by omega, show 38 + (k - 1000) = k - 962 by omega] at this
      exact this
  have hW : lW D dA al2 (lA s) 1 I J Q2 E H := by
    refine ⟨fun k hk hf => ?_, fun j i hj hi => ?_, fun k k' hk hk' he => ?_, fun k hk => ?_, fun k f r hr => ?_⟩
    · have hp := hP k _ (am_ws_at hk)
      rw [e2 k (by omega)]
      have e3 : am_en dA al2 k (I k) (J k) (Q2 k) = am_en dA al k (I k) (J k) (Q k) := by
        refine l_enag fun f => ?_
        rw [hQ k hk hf f]
        cases hqq : Q2 k f with
        | none => rfl
        | some r =>
          simp only [Option.map_some]
          congr 1
          rcases hq k f r hqq with h | h
          · rw [if_neg (by omega), e2 r (by omega)]
          · rw [if_pos h, h]
            exact e1 0 (by omega)
      rw [e3]
      exact hp
    · have hj0 : j = 0 := by omega
      subst hj0
      have hp := hP (38 + i) _ (am_ws_at (by omega))
      rw [show 1000 + 8 * 0 + i = 1000 + i by omega, e1 i hi, hE i hi]
      have e3 : am_en dA (la 0 al2) (38 + i) (I (38 + i)) (fun _ => 0) (lqc (38 + i)) = am_en dA al (38 + i) (I (38 + i)) (J (38 + i)) (Q (38 + i)) := by
        rw [hqc i hi, l_enJ hi _ _ (J (38 + i))]
        refine l_enag fun f => ?_
        cases hqq : lqc (38 + i) f with
        | none => rfl
        | some r =>
          have hr := l_lqc hqq
          simp only [Option.map_some]
          congr 1
          rw [la_in (by omega)]
          have := e1 (r - 38) (by omega)
          rw [show 38 + (r - 38) = r by omega] at this
          exact this
      rw [e3]
      exact hp
    · obtain ⟨a, ha, ea, hca⟩ := cls k hk
      obtain ⟨a', ha', ea', hca'⟩ := cls k' hk'
      have := inj a a' ha ha' (by rw [← ea, ← ea']; exact he)
      omega
    · obtain ⟨a, ha, ea, -⟩ := cls k hk
      rw [ea]
      exact hD.2 a _ (am_ws_at ha)
    · rcases hq k f r hr with h | h
      · exact Or.inl h
      · exact Or.inr (by omega)
  have h := kk p l e s m below meth c H locs ls D dA ad al2 C0 S (by rw [e2 2000 (by omega)]; exact hb2) hW hS (am_H_ag e2 hL hl)
  rw [am_st_ag e2 hst] at h
  exact h
/-! the memory with which the loop begins -/
def k_I : am_I := nI_X10_init_46 (va_up (nI_X9_init_0 (va_up (fun _ _ => 0) 0 (fun _ => 0))) 46 (fun _ => 0))
def k_J : am_J := nJ_X10_init_46 (nJ_X9_init_0 (fun _ _ => 0))
def k_Q : am_Q := nQ_X10_init_46 (va_up (nQ_X9_init_0 (va_up (fun _ _ => none) 0 (fun _ => none))) 46 (fun _ => none))
def k_Q2 : am_Q := fun k => if 38 ≤ k ∧ k < 46 then fun _ => none else am_w k_Q 0 12 (some 1000) k
def k_E : Nat → am_I := fun _ i => k_I (38 + i)
def k_ok (k f r : Nat) : Bool := (decide (38 ≤ k) && decide (k < 46)) || (decide (k = 0) && decide (f = 12)) || (decide (r < 92) && (decide (r < 38) || decide (46 ≤ r)))
def k_q8 (Q : am_Q) : Prop := ∀ k f r, Q k f = some r → k_ok k f r = true
theorem k_up {Q : am_Q} {n : Nat} (h : k_q8 Q) : k_q8 (va_up Q n (fun _ => none)) := by
  intro k f r hr
  unfold va_up at hr
  split at hr
  · cases hr
  · exact h k f r hr
theorem k_w {Q : am_Q} {n j r0 : Nat} (h : k_q8 Q) (h0 : k_ok n j r0 = true) : k_q8 (am_w Q n j (some r0)) := by
  intro k f r hr
  unfold am_w va_up at hr
  split at hr
  · next hk =>
    dsimp only at hr
    split at hr
    · next hf => cases hr; rw [hk, hf]; exact h0
    · rw [hk]; exact h n f r hr
  · exact h k f r hr
set_option maxRecDepth 100000 in
theorem k_Q8 : k_q8 k_Q := by
  unfold k_Q nQ_X10_init_46 nQ_X9_init_0 nQ_X1_init_38 nQ_X6_init_1  nQ_X2_init_3  nQ_X3_init_5  nQ_X8_init_9  nQ_X7_init_13  nQ_X4_init_15  nQ_X0_init_26  nQ_X5_init_29
  repeat first | refine k_w ?_ (by decide) | refine k_up ?_
  intro k f r hr
  cases hr
theorem k_q2 : ∀ k f r, k_Q2 k f = some r → (r < 92 ∧ ¬ (38 ≤ r ∧ r < 46)) ∨ r = 1000 := by
  intro k f r hr
  unfold k_Q2 at hr
  split at hr
  · cases hr
  · next hk =>
    unfold am_w va_up at hr
    split at hr
    · next h0 =>
      dsimp only at hr
      split at hr
      · cases hr; exact Or.inr rfl
      · next hf =>
        have := k_Q8 0 f r hr
        unfold k_ok at this
        simp only [Bool.or_eq_true, Bool.and_eq_true, decide_eq_true_eq] at this
        omega
    · next h0 =>
      have := k_Q8 k f r hr
      unfold k_ok at this
      simp only [Bool.or_eq_true, Bool.and_eq_true, decide_eq_true_eq] at this
      omega
theorem k_QQ : ∀ k, k < 92 → ¬ (38 ≤ k ∧ k < 46) → ∀ f, k_Q k f = (k_Q2 k f).map (fun r => if r = 1000 then 38 else r) := by
  intro k hk hf f
  have e : k_Q2 k = am_w k_Q 0 12 (some 1000) k := by
    unfold k_Q2
    rw [if_neg hf]
  by_cases h : k = 0 ∧ f = 12
  · obtain ⟨rfl, rfl⟩ := h
    rw [e]
    rfl
  · have e2 : am_w k_Q 0 12 (some 1000) k f = k_Q k f := by
      unfold am_w va_up
      split
      · next h0 =>
        dsimp only
        split
        · next h1 => exact absurd ⟨h0, h1⟩ h
        · rw [h0]
      · rfl
    rw [e, e2]
    cases hq : k_Q k f with
    | none => rfl
    | some r =>
      have := k_q2 k f r (by rw [e, e2]; exact hq)
      have h8 := k_Q8 k f r hq
      unfold k_ok at h8
      simp only [Bool.or_eq_true, Bool.and_eq_true, decide_eq_true_eq] at h8
      simp only [Option.map_some]
      rw [if_neg (by omega)]
set_option maxRecDepth 100000 in
theorem k_qc : ∀ i, i < 8 → k_Q (38 + i) = lqc (38 + i) := by
  intro i hi
  match i, hi with
  | 0, _ =>
    funext f
    match f with
    | 0 => rfl
    | 1 => rfl
    | 2 => rfl
    | 3 => rfl
    | 4 => rfl
    | 5 => rfl
    | 6 => rfl
    | f + 7 => rfl
  | 1, _ => rfl
  | 2, _ => rfl
  | 3, _ => rfl
  | 4, _ => rfl
  | 5, _ => rfl
  | 6, _ => rfl
  | 7, _ => rfl
  | i + 8, h => exact absurd h (by omega)
theorem k_qb0 : am_qb 0 (fun _ _ => none) := fun k j r h => by cases h
set_option maxRecDepth 100000 in
set_option maxHeartbeats 4000000 in
/-- from the entry, over an invariant that holds at the loop's start -/
theorem l_start {p : Program} {e : Env} {s : State} {m : MethodId} {below : List Frame} {meth : Method} {c : Code} (l : Launch) {b N : Nat} {xs : Nat → Int32} {V : am_V} (hN : N ≤ 3584) (hA : l_all V) (hV : V 1 k_I k_J k_Q2 k_E) (C0 : lw_At p s m meth c b N xs) : W p l e room_1 s m #[Value.ref b] below meth c s.heap [] 0 0 (lw_Z below #[Value.ref b] s) (entryFrame m ([Value.ref b] : List Value).toArray 4) := by
  obtain ⟨D, dA, ad, S⟩ := l_ctx C0
  have hl := lv_entry ([.ref b]) (n := 4) (Nat.le_of_ble_eq_true rfl)
  rw [lg_entry_eq]
  have hgs : GS b N xs 0 0 0 0 [some (.ref 2000), none, none, none] [] (fun _ _ => 0) (fun _ _ => 0) (fun _ _ => none) := by
    refine gs_new (ci := 9) (q := 3) rfl rfl rfl (Nat.le_of_ble_eq_true rfl) (List.mem_of_getElem? (i := 86) (by decide +kernel)) (List.mem_of_getElem? (i := 87) (by decide +kernel)) (List.mem_of_getElem? (i := 69) (by decide +kernel)) (am_qb.ql k_qb0 (Nat.le_of_ble_eq_true rfl)) rfl rfl (Nat.le_of_ble_eq_true rfl) ⟨(Nat.le_of_ble_eq_true rfl), (Nat.le_of_ble_eq_true rfl)⟩ ?_
    refine gs_dup (q := 4) rfl rfl rfl ?_
    refine gs_callI (q := 7) rfl rfl lk11_9 myX9_init nxX9_init rfl (ct_X9_init_0 _ _ _ (am_qb.up k_qb0)) rfl rfl (Nat.le_of_ble_eq_true rfl) ⟨(Nat.le_of_ble_eq_true rfl), (Nat.le_of_ble_eq_true rfl)⟩ ⟨(Nat.le_of_ble_eq_true rfl), (Nat.le_of_ble_eq_true rfl)⟩ rfl rfl (Nat.le_of_ble_eq_true rfl) ?_
    refine gs_astore_n (q := 8) rfl rfl (Nat.le_of_ble_eq_true rfl) rfl ?_
    refine gs_new (ci := 10) (q := 11) rfl rfl rfl (Nat.le_of_ble_eq_true rfl) (List.mem_of_getElem? (i := 955) (by decide +kernel)) (List.mem_of_getElem? (i := 956) (by decide +kernel)) (List.mem_of_getElem? (i := 79) (by decide +kernel)) (am_qb.ql (qb_X9_init_0 (am_qb.up k_qb0)) (Nat.le_of_ble_eq_true rfl)) rfl rfl (Nat.le_of_ble_eq_true rfl) ⟨(Nat.le_of_ble_eq_true rfl), (Nat.le_of_ble_eq_true rfl)⟩ ?_
    refine gs_dup (q := 12) rfl rfl rfl ?_
    refine gs_callI (q := 15) rfl rfl lk11_12 myX10_init nxX10_init rfl (ct_X10_init_46 _ _ _ (am_qb.up (qb_X9_init_0 (am_qb.up k_qb0)))) rfl rfl (Nat.le_of_ble_eq_true rfl) ⟨(Nat.le_of_ble_eq_true rfl), (Nat.le_of_ble_eq_true rfl)⟩ ⟨(Nat.le_of_ble_eq_true rfl), (Nat.le_of_ble_eq_true rfl)⟩ rfl rfl (Nat.le_of_ble_eq_true rfl) ?_
    refine gs_astore_n (q := 16) rfl rfl (Nat.le_of_ble_eq_true rfl) rfl ?_
    refine gs_iconst (v := 0) (q := 17) rfl rfl rfl ?_
    refine gs_istore_n (q := 18) rfl rfl (Nat.le_of_ble_eq_true rfl) rfl ?_
    refine gs_GL (Q2 := k_Q2) (E := k_E) k_q2 k_QQ k_qc (fun i _ => rfl) rfl rfl ?_
    exact l_loop hN hA (N + 1) 0 0 _ _ 1 k_I k_J k_Q2 k_E (by omega) rfl (Nat.zero_le N) (Nat.le_of_ble_eq_true rfl) (Nat.le_of_ble_eq_true rfl) hV
  refine hgs p l e s m below meth c s.heap [] _ D dA ad (fun k => if k = 2000 then b else 0) C0 S rfl (fun k q h => by simp [am_ws] at h) ⟨fun i j p q h => by simp [am_ws] at h, fun k q h => by simp [am_ws] at h⟩ va_S.rf ⟨hl.1, hl.2.1, fun q hq => ?_⟩
  obtain ⟨i, v, h1, h2⟩ := (am_ll_mem _ 0 q).mp hq
  match i, h1 with
  | 0, h1 =>
    cases h1
    subst h2
    exact hl.2.2 (0, .ref b) (by simp [lv_args])
  | 1, h1 => simp at h1
  | 2, h1 => simp at h1
  | 3, h1 => simp at h1
  | i + 4, h1 => simp at h1
