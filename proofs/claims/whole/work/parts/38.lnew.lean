/-! ===== the law's world with one consent more ===== -/
/-- addresses with a new consent of number nc, whose cells came as 92 .. 99 -/
def la2 (nc : Nat) (al al' : Nat → Nat) : Nat → Nat := fun k => if 1000 + 8 * nc ≤ k ∧ k < 1000 + 8 * nc + 8 then al' (92 + (k - (1000 + 8 * nc))) else al k
theorem la2_in {nc i : Nat} {al al' : Nat → Nat} (hi : i < 8) : la2 nc al al' (1000 + 8 * nc + i) = al' (92 + i) := by
  unfold la2
  rw [if_pos (by omega)]
  congr 1
  omega
theorem la2_out {nc k : Nat} {al al' : Nat → Nat} (h : ¬ (1000 + 8 * nc ≤ k ∧ k < 1000 + 8 * nc + 8)) : la2 nc al al' k = al k := if_neg h
/-- two maps that agree on a cell's references give one entry -/
theorem l_enag {dA : Nat → ClassId} {al al2 : Nat → Nat} {k : Nat} {i : Nat → Int32} {jj : Nat → Int64} {q q2 : Nat → Option Nat} (h : ∀ f, (q2 f).map al2 = (q f).map al) : am_en dA al2 k i jj q2 = am_en dA al k i jj q := by
  unfold am_en
  cases am_lay k with
  | inl c =>
    have hf : am_fs al2 c i q2 = am_fs al c i q := by
      unfold am_fs
      refine List.map_congr_left fun a _ => ?_
      rw [h a]
    simp only [hf]
  | inr t =>
    obtain ⟨t, len⟩ := t
    have hf : (fun a => (q2 a).map al2) = fun a => (q a).map al := funext h
    simp only [hf]
theorem l_lqc {k f r : Nat} (h : lqc k f = some r) : 39 ≤ r ∧ r < 46 := by
  unfold lqc at h
  split at h
  · dsimp only at h
    split at h
    · cases h
      omega
    · cases h
  · cases h
theorem l_lay92 {i : Nat} (hi : i < 8) : am_lay (92 + i) = am_lay (38 + i) := by
  match i, hi with
  | 0, _ => rfl
  | 1, _ => rfl
  | 2, _ => rfl
  | 3, _ => rfl
  | 4, _ => rfl
  | 5, _ => rfl
  | 6, _ => rfl
  | 7, _ => rfl
  | i + 8, h => exact absurd h (by omega)
/-- the new consent's references, as its constructor leaves them -/
def lq92 (k : Nat) : Nat → Option Nat := if k = 92 then (fun f => if f < 7 then some (93 + f) else none) else fun _ => none
theorem l_new {D : va_G} {dA : Nat → ClassId} {al al' : Nat → Nat} {A : Nat → Prop} {nc : Nat} {I I' : am_I} {J J' : am_J} {Q Q' Q2 : am_Q} {E : Nat → am_I} {H H1 : Heap} (h : lW D dA al A nc I J Q E H) {j : Nat} (hj : j < nc)
    (hag : ∀ k, k < 92 ∨ 100 ≤ k → al' k = la j al k) (hP : va_P D vwCl (am_ws dA al' 100 I' J' Q') H1) (hD : va_D (va_A (am_ws dA (la j al) 92 (lI j I E) J (lQ j Q)) H.size) (am_ws dA al' 100 I' J' Q')) (hA : ∀ q, va_A (am_ws dA (la j al) 92 (lI j I E) J (lQ j Q)) H.size q → A q) (hk : ∀ q : Nat, q < H.size → ¬ va_A (am_ws dA (la j al) 92 (lI j I E) J (lQ j Q)) H.size q → H1[q]? = H[q]?)
    (hI : ∀ i, i < 8 → I' (38 + i) = E j i) (hqf : ∀ i, i < 8 → Q' (38 + i) = lqc (38 + i)) (hqn : ∀ i, i < 8 → Q' (92 + i) = lq92 (92 + i)) (hQ2 : ∀ k f r, Q2 k f = some r → lv_l (nc + 1) r) (hqodd : ∀ k f r, Q2 k f = some r → r ≤ 1000 + 8 * nc) (hQQ : ∀ k, k < 92 → ¬ (38 ≤ k ∧ k < 46) → ∀ f, Q' k f = (Q2 k f).map (fun r => if r = 1000 + 8 * j then 38 else if r = 1000 + 8 * nc then 92 else r)) :
    lW D dA (la2 nc al al') A (nc + 1) I' J' Q2 (fun j' i => if j' = nc then I' (92 + i) else E j' i) H1 := by
  obtain ⟨h1, h2, h3, h4, h5⟩ := h
  have hfoc := l_foc ⟨h1, h2, h3, h4, h5⟩ hj
  have old : ∀ k, lv_l nc k → la2 nc al al' k = al k := fun k hk => la2_out (by rcases hk with hk | hk <;> omega)
  -- a new cell's address is none of the old ones'
  have fresh : ∀ i k, i < 8 → lv_l nc k → al' (92 + i) ≠ al k := by
    intro i k hi hkl he
    have hin := hD.2 (92 + i) _ (am_ws_at (by omega))
    have hlt : al k < H.size := by
      rcases hkl with hkl | hkl
      · exact (h1 k hkl.1 hkl.2).lt
      · obtain ⟨a, b', hb8, hab⟩ : ∃ a b', b' < 8 ∧ k = 1000 + 8 * a + b' := ⟨(k - 1000) / 8, (k - 1000) % 8, Nat.mod_lt _ (by omega), by omega⟩
        subst hab
        exact (h2 a b' (by omega) hb8).lt
    have hin : va_A (am_ws dA (la j al) 92 (lI j I E) J (lQ j Q)) H.size (al' (92 + i)) := hin
    rcases hin with ⟨a, e, hae⟩ | hge
    · have ha9 : a < 92 := by
        rcases Nat.lt_or_ge a 92 with q | q
        · exact q
        · rw [am_ws_none (by omega)] at hae
          cases hae
      rw [am_ws_at ha9] at hae
      have e1 : la j al a = al' (92 + i) := (Prod.mk.inj (Option.some.inj hae)).1
      rw [← hag a (Or.inl ha9)] at e1
      have := hD.1 a (92 + i) _ _ (am_ws_at (by omega)) (am_ws_at (by omega)) e1
      omega
    · omega
  have lj : ∀ j', j' < nc → ∀ r, 38 ≤ r ∧ r < 46 → la j' (la2 nc al al') r = la j' al r := by
    intro j' hj' r hr
    rw [la_in hr, la_in hr, old _ (Or.inr (by omega))]
  refine ⟨fun k hk9 hf => ?_, fun j' i hj' hi => ?_, fun k k' hkl hkl' he => ?_, fun k hkl => ?_, hQ2⟩
  · have hp := hP k _ (am_ws_at (by omega))
    have e1 : al' k = al k := by rw [hag k (Or.inl hk9), la_out hf]
    have e2 : la2 nc al al' k = al k := la2_out (by omega)
    have e3 : am_en dA (la2 nc al al') k (I' k) (J' k) (Q2 k) = am_en dA al' k (I' k) (J' k) (Q' k) := by
      refine l_enag fun f => ?_
      rw [hQQ k hk9 hf f]
      cases hq : Q2 k f with
      | none => rfl
      | some r =>
        simp only [Option.map_some]
        congr 1
        have hr := hQ2 k f r hq
        by_cases c1 : r = 1000 + 8 * j
        · rw [if_pos c1, c1, old _ (Or.inr (by omega)), hag 38 (Or.inl (by omega)), la_in (by omega)]
          rfl
        · rw [if_neg c1]
          by_cases c2 : r = 1000 + 8 * nc
          · rw [if_pos c2, c2]
            have := la2_in (nc := nc) (al := al) (al' := al') (i := 0) (by omega)
            simpa using this
          · rw [if_neg c2]
            rcases hr with hr | hr
            · rw [la2_out (by omega), hag r (Or.inl hr.1), la_out hr.2]
            · by_cases c3 : r < 1000 + 8 * nc
              · rw [la2_out (by omega), hag r (Or.inr (by omega)), la_out (by omega)]
              · exact absurd (hqodd k f r hq) (by omega)
    rw [e3, e2, ← e1]
    exact hp
  · by_cases hjn : j' = nc
    · subst hjn
      simp only [if_true]
      have hp := hP (92 + i) _ (am_ws_at (by omega))
      rw [la2_in hi]
      have e3 : am_en dA (la j' (la2 j' al al')) (38 + i) (I' (92 + i)) (fun _ => 0) (lqc (38 + i)) = am_en dA al' (92 + i) (I' (92 + i)) (J' (92 + i)) (Q' (92 + i)) := by
        rw [hqn i hi, l_enJ hi _ _ (J' (92 + i))]
        have hsw : am_en dA al' (92 + i) (I' (92 + i)) (J' (92 + i)) (lq92 (92 + i)) = am_en dA al' (38 + i) (I' (92 + i)) (J' (92 + i)) (lq92 (92 + i)) := by
          unfold am_en
          rw [l_lay92 hi]
        rw [hsw]
        refine l_enag fun f => ?_
        unfold lqc lq92
        by_cases c : i = 0
        · subst c
          simp only [Nat.add_zero, if_true]
          by_cases hf : f < 7
          · rw [if_pos hf, if_pos hf]
            simp only [Option.map_some]
            congr 1
            rw [la_in (by omega), show 1000 + 8 * j' + (39 + f - 38) = 1000 + 8 * j' + (1 + f) by omega, la2_in (by omega), show 92 + (1 + f) = 93 + f by omega]
          · rw [if_neg hf, if_neg hf]
            rfl
        · rw [if_neg (by omega), if_neg (by omega)]
          rfl
      rw [e3]
      exact hp
    · have hjl : j' < nc := by omega
      simp only [if_neg hjn]
      rw [old _ (Or.inr (by omega))]
      have e3 : am_en dA (la j' (la2 nc al al')) (38 + i) (E j' i) (fun _ => 0) (lqc (38 + i)) = am_en dA (la j' al) (38 + i) (E j' i) (fun _ => 0) (lqc (38 + i)) := by
        refine l_enag fun f => ?_
        cases hq : lqc (38 + i) f with
        | none => rfl
        | some r =>
          have := l_lqc hq
          simp only [Option.map_some]
          rw [lj j' hjl r (by omega)]
      rw [e3]
      by_cases hjj : j' = j
      · subst hjj
        have hp := hP (38 + i) _ (am_ws_at (by omega))
        have hf : 38 ≤ 38 + i ∧ 38 + i < 46 := by omega
        rw [hag (38 + i) (Or.inl (by omega)), la_in hf, hI i hi, hqf i hi, show 38 + i - 38 = i by omega] at hp
        have e4 : am_en dA al' (38 + i) (E j' i) (J' (38 + i)) (lqc (38 + i)) = am_en dA (la j' al) (38 + i) (E j' i) (fun _ => 0) (lqc (38 + i)) := by
          rw [l_enJ hi _ _ (fun _ => 0)]
          refine l_enag fun f => ?_
          cases hq : lqc (38 + i) f with
          | none => rfl
          | some r =>
            have := l_lqc hq
            simp only [Option.map_some]
            rw [hag r (Or.inl (by omega))]
        rw [e4] at hp
        exact hp
      · have h2' := h2 j' i hjl hi
        refine h2'.kept (hk _ h2'.lt (fun hAA => ?_))
        rcases hAA with ⟨k, e, hke⟩ | hAA
        · have hk9 : k < 92 := by
            rcases Nat.lt_or_ge k 92 with q | q
            · exact q
            · rw [am_ws_none (by omega)] at hke
              cases hke
          rw [am_ws_at hk9] at hke
          have e1 : la j al k = al (1000 + 8 * j' + i) := (Prod.mk.inj (Option.some.inj hke)).1
          by_cases hf : 38 ≤ k ∧ k < 46
          · rw [la_in hf] at e1
            have := h3 _ _ (Or.inr (by omega)) (Or.inr (by omega)) e1
            omega
          · rw [la_out hf] at e1
            have := h3 _ _ (Or.inl ⟨hk9, hf⟩) (Or.inr (by omega)) e1
            omega
        · exact absurd hAA (Nat.not_le.mpr h2'.lt)
  · -- apart
    have cls : ∀ k, lv_l (nc + 1) k → lv_l nc k ∨ ∃ i, i < 8 ∧ k = 1000 + 8 * nc + i := by
      intro k hk
      rcases hk with hk | hk
      · exact Or.inl (Or.inl hk)
      · by_cases hc : k < 1000 + 8 * nc
        · exact Or.inl (Or.inr ⟨hk.1, hc⟩)
        · exact Or.inr ⟨k - (1000 + 8 * nc), by omega, by omega⟩
    rcases cls k hkl with o1 | ⟨i, hi, rfl⟩ <;> rcases cls k' hkl' with o2 | ⟨i', hi', rfl⟩
    · rw [old _ o1, old _ o2] at he
      exact h3 _ _ o1 o2 he
    · rw [old _ o1, la2_in hi'] at he
      exact absurd he.symm (fresh i' k hi' o1)
    · rw [la2_in hi, old _ o2] at he
      exact absurd he (fresh i k' hi o2)
    · rw [la2_in hi, la2_in hi'] at he
      have := hD.1 (92 + i) (92 + i') _ _ (am_ws_at (by omega)) (am_ws_at (by omega)) he
      omega
  · rcases hkl with hkl | hkl
    · rw [la2_out (by omega)]
      exact h4 k (Or.inl hkl)
    · by_cases hc : k < 1000 + 8 * nc
      · rw [la2_out (by omega)]
        exact h4 k (Or.inr ⟨hkl.1, hc⟩)
      · rw [show k = 1000 + 8 * nc + (k - (1000 + 8 * nc)) by omega, la2_in (by omega)]
        exact hA _ (hD.2 _ _ (am_ws_at (by omega)))
