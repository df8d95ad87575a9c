/-! ===== the law's own world: all consents; one of them in focus ===== -/
def la (j : Nat) (al : Nat → Nat) : Nat → Nat := fun k => if 38 ≤ k ∧ k < 46 then al (1000 + 8 * j + (k - 38)) else al k
def lI (j : Nat) (I : am_I) (E : Nat → am_I) : am_I := fun k => if 38 ≤ k ∧ k < 46 then E j (k - 38) else I k
def lqc (k : Nat) : Nat → Option Nat := if k = 38 then (fun f => if f < 7 then some (39 + f) else none) else fun _ => none
def lqm (j r : Nat) : Nat := if r = 1000 + 8 * j then 38 else r
def lQ (j : Nat) (Q : am_Q) : am_Q := fun k => if 38 ≤ k ∧ k < 46 then lqc k else fun f => (Q k f).map (lqm j)
def lv_l (nc k : Nat) : Prop := (k < 92 ∧ ¬ (38 ≤ k ∧ k < 46)) ∨ (1000 ≤ k ∧ k < 1000 + 8 * nc)
def lW (D : va_G) (dA : Nat → ClassId) (al : Nat → Nat) (A : Nat → Prop) (nc : Nat) (I : am_I) (J : am_J) (Q : am_Q) (E : Nat → am_I) (H : Heap) : Prop :=
  (∀ k, k < 92 → ¬ (38 ≤ k ∧ k < 46) → va_at D vwCl (al k, am_en dA al k (I k) (J k) (Q k)) H) ∧
  (∀ j i, j < nc → i < 8 → va_at D vwCl (al (1000 + 8 * j + i), am_en dA (la j al) (38 + i) (E j i) (fun _ => 0) (lqc (38 + i))) H) ∧
  (∀ k k', lv_l nc k → lv_l nc k' → al k = al k' → k = k') ∧ (∀ k, lv_l nc k → A (al k)) ∧ (∀ k f r, Q k f = some r → lv_l nc r)
theorem lv_nf {nc r : Nat} (h : lv_l nc r) : ¬ (38 ≤ r ∧ r < 46) := by
  rcases h with h | h
  · exact h.2
  · omega
theorem la_in {j k : Nat} {al : Nat → Nat} (h : 38 ≤ k ∧ k < 46) : la j al k = al (1000 + 8 * j + (k - 38)) := if_pos h
theorem la_out {j k : Nat} {al : Nat → Nat} (h : ¬ (38 ≤ k ∧ k < 46)) : la j al k = al k := if_neg h
theorem lI_in {j k : Nat} {I : am_I} {E : Nat → am_I} (h : 38 ≤ k ∧ k < 46) : lI j I E k = E j (k - 38) := if_pos h
theorem lI_out {j k : Nat} {I : am_I} {E : Nat → am_I} (h : ¬ (38 ≤ k ∧ k < 46)) : lI j I E k = I k := if_neg h
theorem lQ_in {j k : Nat} {Q : am_Q} (h : 38 ≤ k ∧ k < 46) : lQ j Q k = lqc k := if_pos h
theorem lQ_out {j k : Nat} {Q : am_Q} (h : ¬ (38 ≤ k ∧ k < 46)) : lQ j Q k = fun f => (Q k f).map (lqm j) := if_neg h
theorem l_enJ {dA : Nat → ClassId} {al : Nat → Nat} {i : Nat} (hi : i < 8) (r : Nat → Int32) (jj jj' : Nat → Int64) (q : Nat → Option Nat) : am_en dA al (38 + i) r jj q = am_en dA al (38 + i) r jj' q := by
  match i, hi with
  | 0, _ => rfl
  | 1, _ => rfl
  | 2, _ => rfl
  | 3, _ => rfl
  | 4, _ => rfl
  | 5, _ => rfl
  | 6, _ => rfl
  | 7, _ => rfl
  | i + 8, h => exact absurd h (by omega)
theorem l_map {j : Nat} {al : Nat → Nat} {o : Option Nat} (ho : ∀ r, o = some r → ¬ (38 ≤ r ∧ r < 46)) : (o.map (lqm j)).map (la j al) = o.map al := by
  cases o with
  | none => rfl
  | some r =>
    have hr := ho r rfl
    simp only [Option.map_some]
    congr 1
    unfold lqm
    split
    · next h =>
      rw [la_in (by omega), h]
      rfl
    · exact la_out hr
theorem l_en {dA : Nat → ClassId} {al : Nat → Nat} {j k : Nat} {i : Nat → Int32} {jj : Nat → Int64} {q : Nat → Option Nat} (hq : ∀ f r, q f = some r → ¬ (38 ≤ r ∧ r < 46)) : am_en dA (la j al) k i jj (fun f => (q f).map (lqm j)) = am_en dA al k i jj q := by
  unfold am_en
  cases am_lay k with
  | inl c =>
    have hf : am_fs (la j al) c i (fun f => (q f).map (lqm j)) = am_fs al c i q := by
      unfold am_fs
      refine List.map_congr_left fun a _ => ?_
      rw [l_map (hq a)]
    simp only [hf]
  | inr t =>
    obtain ⟨t, len⟩ := t
    have hf : (fun a => ((fun f => (q f).map (lqm j)) a).map (la j al)) = fun a => (q a).map al := funext fun a => l_map (hq a)
    simp only [hf]
theorem l_foc {D : va_G} {dA : Nat → ClassId} {al : Nat → Nat} {A : Nat → Prop} {nc : Nat} {I : am_I} {J : am_J} {Q : am_Q} {E : Nat → am_I} {H : Heap} (h : lW D dA al A nc I J Q E H) {j : Nat} (hj : j < nc) :
    va_P D vwCl (am_ws dA (la j al) 92 (lI j I E) J (lQ j Q)) H ∧ va_D A (am_ws dA (la j al) 92 (lI j I E) J (lQ j Q)) := by
  obtain ⟨h1, h2, h3, h4, h5⟩ := h
  have key : ∀ (k : Nat) (q : Nat × va_E), (am_ws dA (la j al) 92 (lI j I E) J (lQ j Q))[k]? = some q → k < 92 ∧ q = (la j al k, am_en dA (la j al) k (lI j I E k) (J k) (lQ j Q k)) := by
    intro k q hq
    by_cases hk : k < 92
    · rw [am_ws_at hk] at hq
      exact ⟨hk, (Option.some.inj hq).symm⟩
    · rw [am_ws_none hk] at hq
      cases hq
  have live : ∀ k, k < 92 → lv_l nc (if 38 ≤ k ∧ k < 46 then 1000 + 8 * j + (k - 38) else k) ∧ la j al k = al (if 38 ≤ k ∧ k < 46 then 1000 + 8 * j + (k - 38) else k) := by
    intro k hk
    by_cases hf : 38 ≤ k ∧ k < 46
    · rw [if_pos hf, la_in hf]
      exact ⟨Or.inr (by omega), rfl⟩
    · rw [if_neg hf, la_out hf]
      exact ⟨Or.inl ⟨hk, hf⟩, rfl⟩
  refine ⟨fun k q hq => ?_, fun a b x y hx hy hxy => ?_, fun k q hq => ?_⟩
  · obtain ⟨hk, rfl⟩ := key k q hq
    by_cases hf : 38 ≤ k ∧ k < 46
    · have h2' := h2 j (k - 38) hj (by omega)
      rw [show 38 + (k - 38) = k by omega] at h2'
      rw [la_in hf, lI_in hf, lQ_in hf]
      have e := l_enJ (dA := dA) (al := la j al) (i := k - 38) (by omega) (E j (k - 38)) (J k) (fun _ => 0) (lqc k)
      rw [show 38 + (k - 38) = k by omega] at e
      rw [e]
      exact h2'
    · rw [la_out hf, lI_out hf, lQ_out hf, l_en (fun f r h => lv_nf (h5 k f r h))]
      exact h1 k hk hf
  · obtain ⟨ha, rfl⟩ := key a x hx
    obtain ⟨hb, rfl⟩ := key b y hy
    have e1 := live a ha
    have e2 := live b hb
    have := h3 _ _ e1.1 e2.1 (by rw [← e1.2, ← e2.2]; exact hxy)
    split at this <;> split at this <;> omega
  · obtain ⟨hk, rfl⟩ := key k q hq
    have e1 := live k hk
    show A (la j al k)
    rw [e1.2]
    exact h4 _ e1.1
theorem l_unf {D : va_G} {dA : Nat → ClassId} {al : Nat → Nat} {A : Nat → Prop} {nc : Nat} {I I' : am_I} {J J' : am_J} {Q Q2 : am_Q} {E : Nat → am_I} {H H1 : Heap} (h : lW D dA al A nc I J Q E H) {j : Nat} (hj : j < nc) (hQ2 : ∀ k f r, Q2 k f = some r → lv_l nc r) (hP : va_P D vwCl (am_ws dA (la j al) 92 I' J' (lQ j Q2)) H1) (hk : ∀ q : Nat, q < H.size → ¬ va_A (am_ws dA (la j al) 92 (lI j I E) J (lQ j Q)) H.size q → H1[q]? = H[q]?) :
    lW D dA al A nc I' J' Q2 (fun j' i => if j' = j then I' (38 + i) else E j' i) H1 := by
  obtain ⟨h1, h2, h3, h4, h5⟩ := h
  refine ⟨fun k hk9 hf => ?_, fun j' i hj' hi => ?_, h3, h4, hQ2⟩
  · have := hP k _ (am_ws_at hk9)
    rw [la_out hf, lQ_out hf, l_en (fun f r h => lv_nf (hQ2 k f r h))] at this
    exact this
  · by_cases hjj : j' = j
    · subst hjj
      have hf : 38 ≤ 38 + i ∧ 38 + i < 46 := by omega
      have := hP (38 + i) _ (am_ws_at (by omega))
      rw [la_in hf, lQ_in hf, l_enJ hi _ _ (fun _ => 0)] at this
      rw [show 38 + i - 38 = i by omega] at this
      simpa using this
    · have h2' := h2 j' i hj' hi
      simp only [if_neg hjj]
      refine h2'.kept (hk _ h2'.lt (fun hA => ?_))
      rcases hA with ⟨k, e, hke⟩ | hA
      · have hk9 : k < 92 := by
          rcases Nat.lt_or_ge k 92 with q | q
          · exact q
          · rw [am_ws_none (by omega)] at hke
            cases hke
        rw [am_ws_at hk9] at hke
        have e1 : la j al k = al (1000 + 8 * j' + i) := (Prod.mk.inj (Option.some.inj hke)).1
        by_cases hf : 38 ≤ k ∧ k < 46
        · rw [la_in hf] at e1
          have := h3 _ _ (Or.inr (by omega)) (Or.inr (by omega)) e1
          omega
        · rw [la_out hf] at e1
          have := h3 _ _ (Or.inl ⟨hk9, hf⟩) (Or.inr (by omega)) e1
          omega
      · exact absurd hA (Nat.not_le.mpr h2'.lt)
/-! the law's judgement -/
def am_nfv : Value → Bool
  | .ref k => decide (¬ (38 ≤ k ∧ k < 46))
  | _ => true
theorem l_cv {j : Nat} {al : Nat → Nat} {v : Value} (h : am_nfv v = true) : am_cv (la j al) v = am_cv al v := by
  cases v with
  | ref k =>
    have hk : ¬ (38 ≤ k ∧ k < 46) := of_decide_eq_true (show decide (¬ (38 ≤ k ∧ k < 46)) = true from h)
    show Value.ref _ = Value.ref _
    rw [la_out hk]
  | _ => rfl
theorem l_st {j : Nat} {al : Nat → Nat} {st : List Value} (h : st.all am_nfv = true) : st.map (am_cv (la j al)) = st.map (am_cv al) :=
  List.map_congr_left fun v hm => l_cv (List.all_eq_true.mp h v hm)
def lA (s : State) : Nat → Prop := fun q => s.heap.size ≤ q
def GL (b N : Nat) (xs : Nat → Int32) (kc ks pc : Nat) (L : List (Option Value)) (st : List Value) (nc : Nat) (I : am_I) (J : am_J) (Q : am_Q) (E : Nat → am_I) : Prop :=
  ∀ (p : Program) (l : Launch) (e : Env) (s : State) (m : MethodId) (below : List Frame) (meth : Method) (c : Code) (H : Heap) (locs : List Loc) (ls : Array Slot) (D : va_G) (dA : Nat → ClassId) (ad : am_AD) (al : Nat → Nat),
    lw_At p s m meth c b N xs → am_S ML_law p s m #[Value.ref b] meth c D dA ad (lA s) → al 2000 = b → lW D dA al (lA s) nc I J Q E H → va_S (lA s) s.heap H locs → am_H ls 4 al L →
    W p l e room_1 s m #[Value.ref b] below meth c H locs kc ks (lw_Z below #[Value.ref b] s) (F0 m pc ls (st.map (am_cv al)))
theorem am_afterF {p : Program} {l : Launch} {e : Env} {R : Room} {s : State} {m : MethodId} {args : Array Value} {below : List Frame} {meth : Method} {c : Code} {H : Heap} {locs : List Loc} {kc ks mc' ms' pc : Nat} {ls : Array Slot} {st0 rest : List Value} {Z : State → Prop} {D : va_G} {dA : Nat → ClassId} {A : Nat → Prop} {al : Nat → Nat} {n : Nat} {I : am_I} {J : am_J} {Q : am_Q} {r : am_R} {a : Array Value}
    (hr : va_Run p l e R s m args below meth c H locs kc ks mc' ms' (F0 m pc ls st0) rest (am_Qc D dA (va_A (am_ws dA al n I J Q) H.size) al n r a) (va_A (am_ws dA al n I J Q) H.size)) (hS : va_S A s.heap H locs) (hA : ∀ q, va_A (am_ws dA al n I J Q) H.size q → A q)
    (kk : ∀ (al' : Nat → Nat) (H1 : Heap) (locs1 : List Loc), (∀ k, k < n ∨ r.2.1 ≤ k → al' k = al k) → n ≤ r.2.1 → va_P D vwCl (am_ws dA al' r.2.1 r.2.2.1 r.2.2.2.1 r.2.2.2.2) H1 → va_D (va_A (am_ws dA al n I J Q) H.size) (am_ws dA al' r.2.1 r.2.2.1 r.2.2.2.1 r.2.2.2.2) → H.size ≤ H1.size → (∀ q : Nat, q < H.size → ¬ va_A (am_ws dA al n I J Q) H.size q → H1[q]? = H[q]?) → va_S A s.heap H1 locs1 → W p l e R s m args below meth c H1 locs1 (kc + mc') (ks + ms') Z (F0 m (pc + 3) ls ((r.1.map (am_cv al')).toList ++ rest))) : W p l e R s m args below meth c H locs kc ks Z (F0 m pc ls st0) := by
  intro T hT X
  obtain ⟨v, st₀, t, T', L, h0, X', hL, e1, e2, ⟨⟨al', ha1, ha2, hv, hp, hd⟩, hz, hk⟩, st⟩ := hr T hT X
  cases hv
  rw [h0] at hz hk
  obtain ⟨t2, a1, b1⟩ := kk al' T'.heap (locs ++ L) ha1 ha2 (by rw [e1]; exact hp) hd (by rw [e1]; exact hz) (fun q h1 h2 => by rw [e1]; exact hk q h1 h2)
    ⟨Nat.le_trans hS.1 (by rw [e1]; exact hz), fun q h1 h2 => by rw [e1, hk q (Nat.lt_of_lt_of_le h1 hS.1) (fun z => h2 (hA q z))]; exact hS.2.1 q h1 h2, fun q hq => by
      rcases List.mem_append.mp hq with h | h
      · exact hS.2.2 q h
      · exact hA _ (hL q h)⟩ T' rfl X'
  exact ⟨t2, st t2 a1, b1⟩
section GLCall
variable {y' : am_MD} {b0 N kc ks nc pc q idx d' mc' ms' pn b ci j : Nat} {xs : Nat → Int32} {L : List (Option Value)} {As st rest : List Value} {I I' : am_I} {J J' : am_J} {Q Q2 : am_Q} {E : Nat → am_I} {x : Int32}
/-- a call at run: what comes before its end -/
theorem gl_run {p : Program} {l : Launch} {e : Env} {s : State} {m : MethodId} {below : List Frame} {meth : Method} {c : Code} {H : Heap} {locs : List Loc} {ls : Array Slot} {D : va_G} {dA : Nat → ClassId} {ad : am_AD} {al : Nat → Nat} {r : am_R} (hat : am_at ML_law pc = some (.invokevirtual idx, 3)) (hlk : am_lk 11 idx false y') (hm : am_my y' pn) (hv : am_vi y') (hj : j < nc) (hc : Cm y' d' mc' ms' 92 (.ref b :: As) (lI j I E) J (lQ j Q) r) (hb : b < 92) (hbf : ¬ (38 ≤ b ∧ b < 46)) (hly : am_lay b = .inl ci) (hci : am_cn ci = y'.2.1.cls) (hci2 : ci < 11) (hn : As.length = pn) (hcat : (rest.map fun v => v.category).sum ≤ 8) (hAs : As.all am_nfv = true) (hR : d' + 1 ≤ 12 ∧ 8 + (y'.2.2.2.1 + 11) + 40 * d' ≤ 446) (hf : kc + mc' ≤ 600000 ∧ ks + ms' ≤ 7302250)
    (S : am_S ML_law p s m #[Value.ref b0] meth c D dA ad (lA s)) (hW : lW D dA al (lA s) nc I J Q E H) (hS : va_S (lA s) s.heap H locs) (hl : am_H ls 4 al L) :
    va_Run p l e room_1 s m #[Value.ref b0] below meth c H locs kc ks mc' ms' (F0 m pc ls ((As.reverse ++ .ref b :: rest).map (am_cv al))) (rest.map (am_cv al)) (am_Qc D dA (va_A (am_ws dA (la j al) 92 (lI j I E) J (lQ j Q)) H.size) (la j al) 92 r (Value.ref (la j al b) :: As.map (am_cv (la j al))).toArray) (va_A (am_ws dA (la j al) 92 (lI j I E) J (lQ j Q)) H.size) := by
  obtain ⟨hP, hD⟩ := l_foc hW hj
  have hpre := am_pre (av := .ref b :: As) S hP hD hS
  obtain ⟨r0, hr0, hr1⟩ : ∃ r0 : vw_C, vwCl[ci]? = some r0 ∧ r0.1 = am_cn ci := am_cls hci2
  have hrec := va_recv S.2.2.2.2.2.2.2.2.2.1.1 hP hr0 (show (am_ws dA (la j al) 92 (lI j I E) J (lQ j Q))[b]? = some (la j al b, .inr (ci, am_fs (la j al) ci (lI j I E b) (lQ j Q b))) by rw [am_ws_at hb, am_en, hly])
  rw [hr1, hci] at hrec
  have hstk : (As.reverse ++ .ref b :: rest).map (am_cv al) = (As.map (am_cv (la j al))).reverse ++ .ref (la j al b) :: rest.map (am_cv al) := by
    rw [am_stk, l_st hAs, List.map_cons]
    show _ ++ Value.ref (al b) :: _ = _
    rw [la_out hbf]
  exact va_runV (As := As.map (am_cv (la j al))) ⟨S.1, S.2.1, S.2.2.1, S.2.2.2.2.2.2.1, S.2.2.2.2.2.2.2.1⟩ (hc l D dA ad (la j al) H.size) ⟨am_callB S hm hlk hR, S.2.2.2.2.2.2.2.1 _ (am_G_in hv.1 rfl), S.2.2.2.2.2.2.2.1 _ (am_G_in hv.2 rfl)⟩ ⟨hpre.1, hrec, hpre.2⟩ rfl (by rw [List.length_map]; exact hn) hl.1 hstk (lv_room (by rw [am_catsum]; exact hcat)) (S.2.2.2.2.2.2.2.2.1 _ _ hat) hf
/-- a call without new cells -/
theorem gl_call (hat : am_at ML_law pc = some (.invokevirtual idx, 3)) (hq : pc + 3 = q) (hlk : am_lk 11 idx false y') (hm : am_my y' pn) (hv : am_vi y') (hj : j < nc) (hc : Cm y' d' mc' ms' 92 (.ref b :: As) (lI j I E) J (lQ j Q) (some (.int x), 92, I', J', lQ j Q2)) (hQ2 : ∀ k f r, Q2 k f = some r → lv_l nc r) (hst : st = As.reverse ++ .ref b :: rest) (hb : b < 92) (hbf : ¬ (38 ≤ b ∧ b < 46)) (hly : am_lay b = .inl ci) (hci : am_cn ci = y'.2.1.cls) (hci2 : ci < 11) (hn : As.length = pn) (hcat : (rest.map fun v => v.category).sum ≤ 8) (hAs : As.all am_nfv = true) (hR : d' + 1 ≤ 12 ∧ 8 + (y'.2.2.2.1 + 11) + 40 * d' ≤ 446) (hf : kc + mc' ≤ 600000 ∧ ks + ms' ≤ 7302250)
    (kk : GL b0 N xs (kc + mc') (ks + ms') q L (.int x :: rest) nc I' J' Q2 (fun j' i => if j' = j then I' (38 + i) else E j' i)) : GL b0 N xs kc ks pc L st nc I J Q E := by
  subst hq; subst hst
  intro p l e s m below meth c H locs ls D dA ad al C0 S hb2 hW hS hl
  obtain ⟨hP, hD⟩ := l_foc hW hj
  refine am_afterF (gl_run hat hlk hm hv hj hc hb hbf hly hci hci2 hn hcat hAs hR hf S hW hS hl) hS (am_sub hD hS S.2.2.2.2.2.2.2.2.2.2) (fun al' H1 locs1 ha _ hP1 hD1 hz hk hS1 => ?_)
  have hal' : al' = la j al := am_same ha
  subst hal'
  exact kk p l e s m below meth c H1 locs1 ls D dA ad al C0 S hb2 (l_unf hW hj hQ2 hP1 hk) hS1 hl
end GLCall
