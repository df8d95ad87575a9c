/-! ===== the reference's agreeing ===== -/
def eS (I : am_I) (m : Bool) (k : Nat) : List Eg := if I 30 k = 0 then [((I 31 k).toNatClampNeg, 10, if m then 9999 - (I 34 k).toInt else (I 33 k).toInt)] else []
def eL (I : am_I) (m : Bool) (k : Nat) : List Eg := if I 30 k = 0 then [] else if I 30 k = 1 then (if m then [((I 32 k).toNatClampNeg, (I 31 k).toNatClampNeg, (I 33 k).toInt)] else [((I 31 k).toNatClampNeg, (I 32 k).toNatClampNeg, (I 33 k).toInt)]) else (if m then [((I 32 k).toNatClampNeg, (I 31 k).toNatClampNeg, 0), ((I 31 k).toNatClampNeg, (I 32 k).toNatClampNeg, 0)] else [((I 31 k).toNatClampNeg, (I 32 k).toNatClampNeg, 0), ((I 32 k).toNatClampNeg, (I 31 k).toNatClampNeg, 0)])
theorem eSL {I : am_I} {m : Bool} {k : Nat} {t : Eg} : t ∈ eC I m k ↔ t ∈ eS I m k ∨ t ∈ eL I m k := by
  unfold eC eS eL
  by_cases h0 : I 30 k = 0
  · simp only [if_pos h0, List.not_mem_nil, or_false]
  · by_cases h1 : I 30 k = 1
    · simp only [if_neg h0, if_pos h1, List.not_mem_nil, false_or]
    · simp only [if_neg h0, if_neg h1, List.not_mem_nil, false_or]
      cases m
      · simp only [Bool.false_eq_true, if_false]
      · simp only [if_true, List.mem_cons, List.not_mem_nil, or_false]
        exact or_comm
def Rh (I : am_I) (y : Nat → Int) (B : Int) : Prop := (∀ e, e < 10 → (I 91 e).toInt = 9999 - y e) ∧ (∀ e, 0 ≤ y e ∧ y e ≤ B) ∧ y 10 = 0
theorem Rh.mo {I : am_I} {x : Nat → Int} {B B' : Int} (h : Rh I x B) (hB : B ≤ B') : Rh I x B' := ⟨h.1, fun e => ⟨(h.2.1 e).1, Int.le_trans (h.2.1 e).2 hB⟩, h.2.2⟩
theorem Rh.f {I I' : am_I} {y : Nat → Int} {B : Int} (h : Rh I y B) (e : I' 91 = I 91) : Rh I' y B := ⟨fun a ha => by rw [e]; exact h.1 a ha, h.2⟩
theorem Rd.f {r : Nat} {I I' : am_I} {y : Nat → Int} {B : Int} (h : Rd r I y B) (e : I' r = I r) : Rd r I' y B := ⟨fun a ha => by rw [e]; exact h.1 a ha, h.2⟩
theorem rh_up {I : am_I} {x : Nat → Int} {B : Int} (h : Rh I x B) {e : Nat} (he : e < 10) {v : Int32} {w : Int} (hv : v.toInt = 9999 - w) (h0 : 0 ≤ w) {B' : Int} (hw : w ≤ B') (hB : B ≤ B') : Rh (am_w I 91 e v) (va_up x e w) B' := by
  refine ⟨fun e' he' => ?_, fun e' => ?_, ?_⟩
  · by_cases hE : e' = e
    · subst hE
      rw [aw_s, hv]
      unfold va_up
      rw [if_pos rfl]
    · rw [aw_n hE, h.1 e' he']
      unfold va_up
      rw [if_neg hE]
  · unfold va_up
    have := h.2.1 e'
    split <;> omega
  · unfold va_up
    rw [if_neg (by omega)]
    exact h.2.2
def Fa (I I' : am_I) : Prop := ∀ k a, k ≠ 90 → k ≠ 91 → ¬ (k = 46 ∧ a = 68) → I' k a = I k a
theorem Fa.rf {I : am_I} : Fa I I := fun _ _ _ _ _ => rfl
theorem Fa.tr {I I' I'' : am_I} (h : Fa I I') (h2 : Fa I' I'') : Fa I I'' := fun k a h0 h1 h3 => (h2 k a h0 h1 h3).trans (h k a h0 h1 h3)
theorem Fa.w0 {I I' : am_I} {a : Nat} {v : Int32} (h : Fa I I') : Fa I (am_w I' 90 a v) := fun k b h0 h1 h3 => by rw [aw_k h0]; exact h k b h0 h1 h3
theorem Fa.w1 {I I' : am_I} {a : Nat} {v : Int32} (h : Fa I I') : Fa I (am_w I' 91 a v) := fun k b h0 h1 h3 => by rw [aw_k h1]; exact h k b h0 h1 h3
theorem Fa.w2 {I I' : am_I} {v : Int32} (h : Fa I I') : Fa I (am_w I' 46 68 v) := fun k b h0 h1 h3 => by
  by_cases hk : k = 46
  · subst hk
    rw [aw_n (fun c => h3 ⟨rfl, c⟩)]
    exact h _ b h0 h1 h3
  · rw [aw_k hk]
    exact h k b h0 h1 h3
theorem Fa.r {I I' : am_I} (h : Fa I I') {k : Nat} (h0 : k ≠ 90) (h1 : k ≠ 91) (h2 : k ≠ 46) : I' k = I k := funext fun a => h k a h0 h1 (fun c => h2 c.1)
theorem pu_J {I : am_I} {y : Nat → Int} {B : Int} {e o : Nat} {d : Int32} (hy : Rh I y B) (he : e < 10) (ho : o < 10) (hd : -9999 ≤ d.toInt ∧ d.toInt ≤ 9999) (hB0 : 0 ≤ B) (hB : B ≤ 100000000) : ∃ I', s_X10_pushes_J36 (nI e) (nI o) d I = I' ∧ p_X10_pushes_J36 (nI e) (nI o) d I ∧ Rh I' (ePush y (o, e, d.toInt)) (B + 9999) ∧ I' 90 = I 90 ∧ Fa I I' ∧ (y o < y e + d.toInt → I' 46 68 = 1) ∧ (¬ y o < y e + d.toInt → I' 46 68 = I 46 68) := by
  have ce := nI_clamp (n := e) (by omega)
  have co := nI_clamp (n := o) (by omega)
  have ve : vp_in (nI e) 10 := vp_in_nI he (by omega)
  have vo : vp_in (nI o) 10 := vp_in_nI ho (by omega)
  have be := hy.2.1 e
  have bo := hy.2.1 o
  have h1 := hy.1 e he
  have h2 := hy.1 o ho
  have h3 : (I 91 e - d).toInt = 9999 - (y e + d.toInt) := by rw [ia_sub (by omega) (by omega), h1]; omega
  unfold s_X10_pushes_J36 p_X10_pushes_J36
  rw [ce, co]
  by_cases hlt : y o < y e + d.toInt
  · have c : ¬ I 91 o ≤ I 91 e - d := by rw [Int32.le_iff_toInt_le, h2, h3]; omega
    rw [if_neg c, if_neg c]
    refine ⟨_, rfl, ⟨ve, vo, ve, vo⟩, ?_, ?_, Fa.w2 (Fa.w1 Fa.rf), fun _ => aw_s, fun h => absurd hlt h⟩
    · unfold ePush
      rw [if_pos hlt]
      exact Rh.f (rh_up hy ho h3 (by show 0 ≤ y e + d.toInt; omega) (by show y e + d.toInt ≤ _; omega) (by omega)) (aw_k (by decide))
    · rw [aw_k (by decide), aw_k (by decide)]
  · have c : I 91 o ≤ I 91 e - d := by rw [Int32.le_iff_toInt_le, h2, h3]; omega
    rw [if_pos c, if_pos c]
    refine ⟨_, rfl, ⟨ve, vo, trivial⟩, ?_, rfl, Fa.rf, fun h => absurd h hlt, fun _ => rfl⟩
    unfold ePush
    rw [if_neg hlt]
    exact hy.mo (by omega)
theorem eM1 {x : Nat → Int} {t : Eg} : eMov x [t] = false ↔ ¬ x t.1 < x t.2.1 + t.2.2 := by
  unfold eMov eMov
  rw [Bool.or_false, decide_eq_false_iff_not]
theorem pu_1 {I : am_I} {x y : Nat → Int} {B : Int} {e o : Nat} {d : Int32} (hx : Rd 90 I x B) (hy : Rh I y B) (he : e < 10) (ho : o < 10) (hd : -9999 ≤ d.toInt ∧ d.toInt ≤ 9999) (hB0 : 0 ≤ B) (hB : B ≤ 100000000) : ∃ I', s_X10_pushes I (nI e) (nI o) d = I' ∧ p_X10_pushes I (nI e) (nI o) d ∧ Rd 90 I' (eRun x [(e, o, d.toInt)]) (B + 9999) ∧ Rh I' (eRun y [(o, e, d.toInt)]) (B + 9999) ∧ Fa I I' ∧ ((I 46 68 = 0 ∨ I 46 68 = 1) → (I' 46 68 = 0 ∨ I' 46 68 = 1) ∧ (I' 46 68 = 0 ↔ I 46 68 = 0 ∧ eMov x [(e, o, d.toInt)] = false ∧ eMov y [(o, e, d.toInt)] = false)) := by
  have ce := nI_clamp (n := e) (by omega)
  have co := nI_clamp (n := o) (by omega)
  have ve : vp_in (nI e) 10 := vp_in_nI he (by omega)
  have vo : vp_in (nI o) 10 := vp_in_nI ho (by omega)
  have be := hx.2.1 e
  have bo := hx.2.1 o
  have h1 := hx.1 e he
  have h2 := hx.1 o ho
  have h3 : (I 90 o + d).toInt = x o + d.toInt := by rw [ia_add (by omega) (by omega), h2]
  have m1 := eM1 (x := x) (t := (e, o, d.toInt))
  have m2 := eM1 (x := y) (t := (o, e, d.toInt))
  simp only at m1 m2
  unfold s_X10_pushes p_X10_pushes
  rw [ce, co]
  show ∃ I', _ ∧ _ ∧ Rd 90 I' (ePush x (e, o, d.toInt)) _ ∧ Rh I' (ePush y (o, e, d.toInt)) _ ∧ _
  by_cases hlt : x e < x o + d.toInt
  · have c : ¬ I 90 o + d ≤ I 90 e := by rw [Int32.le_iff_toInt_le, h1, h3]; omega
    rw [if_neg c, if_neg c]
    obtain ⟨I', j1, j2, j3, j4, j5, j6, j7⟩ := pu_J (I := am_w (am_w I 90 e (I 90 o + d)) 46 68 1) (hy.f (by rw [aw_k (by decide), aw_k (by decide)])) he ho hd hB0 hB
    refine ⟨I', j1, ⟨vo, ve, vo, ve, j2⟩, ?_, j3, Fa.tr (Fa.w2 (Fa.w0 Fa.rf)) j5, fun _ => ?_⟩
    · unfold ePush
      rw [if_pos hlt]
      exact Rd.f (rd_up hx he h3 (by show 0 ≤ x o + d.toInt; omega) (by show x o + d.toInt ≤ _; omega) (by omega)) (by rw [j4, aw_k (by decide)])
    · have e1 : I' 46 68 = 1 := by
        by_cases hq : y o < y e + d.toInt
        · exact j6 hq
        · rw [j7 hq, aw_s]
      refine ⟨Or.inr e1, fun h => ?_, fun h => absurd hlt (m1.mp h.2.1)⟩
      rw [e1] at h
      exact absurd h (by decide)
  · have c : I 90 o + d ≤ I 90 e := by rw [Int32.le_iff_toInt_le, h1, h3]; omega
    rw [if_pos c, if_pos c]
    obtain ⟨I', j1, j2, j3, j4, j5, j6, j7⟩ := pu_J hy he ho hd hB0 hB
    refine ⟨I', j1, ⟨vo, ve, j2⟩, ?_, j3, j5, fun hf => ?_⟩
    · unfold ePush
      rw [if_neg hlt]
      exact Rd.f (hx.mo (by omega)) j4
    · by_cases hq : y o < y e + d.toInt
      · refine ⟨Or.inr (j6 hq), fun h => ?_, fun h => absurd hq (m2.mp h.2.2)⟩
        rw [j6 hq] at h
        exact absurd h (by decide)
      · rw [j7 hq]
        exact ⟨hf, fun h => ⟨h, m1.mpr hlt, m2.mpr hq⟩, fun h => h.1⟩
/-- one turn -/
theorem ag_in {I0 : am_I} {n s f : Nat} {v3 : Int32} (hn : n ≤ 12) (hs : s < 2 ^ 31) (hw : ∀ k, k < n → tW I0 k) (e86 : I0 86 = I0 30) (e87 : I0 87 = I0 31) : ∀ (d i : Nat), i + d = n → ∀ (I : am_I) (x y : Nat → Int) (B : Int) (g : Nat), Rd 90 I x B → Rh I y B → 0 ≤ B → B + 20000 * d ≤ 100000000 → Fa I0 I → (I 46 68 = 0 ∨ I 46 68 = 1) → ∃ (I' : am_I), s_X10_agrees_L137 (nI n) (nI s) f (g + d + 1) 1 v3 (nI i) I = s_X10_agrees_L137 (nI n) (nI s) f g 0 (v3 + 1) 0 I' ∧ (p_X10_agrees_L137 (nI n) (nI s) f g 0 (v3 + 1) 0 I' → p_X10_agrees_L137 (nI n) (nI s) f (g + d + 1) 1 v3 (nI i) I) ∧ Rd 90 I' (eRun x (lF (eL I0 false) s d i)) (B + 20000 * d) ∧ Rh I' (eRun y (lF (eL I0 true) s d i)) (B + 20000 * d) ∧ Fa I0 I' ∧ (I' 46 68 = 0 ∨ I' 46 68 = 1) ∧ (I' 46 68 = 0 ↔ I 46 68 = 0 ∧ eMov x (lF (eL I0 false) s d i) = false ∧ eMov y (lF (eL I0 true) s d i) = false) := by
  intro d
  induction d with
  | zero =>
    intro i hi I x y B g hR hH hB0 hB hF hfl
    have hc : nI n ≤ nI i := nI_le (by omega) (by omega)
    rw [u_s_X10_agrees_L137_1, u_p_X10_agrees_L137_1, if_pos hc, if_pos hc]
    exact ⟨I, rfl, id, hR.mo (by omega), hH.mo (by omega), hF, hfl, fun h => ⟨h, rfl, rfl⟩, fun h => h.1⟩
  | succ d ih =>
    intro i hi I x y B g hR hH hB0 hB hF hfl
    have hc : ¬ nI n ≤ nI i := nI_ge (by omega) (by omega)
    have hb := bit_1 (s := s) (k := i) hs (by omega)
    have hv : vp_in (nI i) 12 := vp_in_nI (by omega) (by omega)
    have r86 := (hF.r (k := 86) (by decide) (by decide) (by decide)).trans e86
    have r87 := (hF.r (k := 87) (by decide) (by decide) (by decide)).trans e87
    have r88 := hF.r (k := 88) (by decide) (by decide) (by decide)
    have r89 := hF.r (k := 89) (by decide) (by decide) (by decide)
    obtain ⟨w1, w2, w3⟩ := hw i (by omega)
    have c31 := ia_cn w1.1
    have c32 := ia_cn w2.1
    have e31 := ia_nI _ w1.1
    have e32 := ia_nI _ w2.1
    have h31 : (I0 31 i).toNatClampNeg < 10 := by omega
    have h32 : (I0 32 i).toNatClampNeg < 10 := by omega
    rw [show g + (d + 1) + 1 = (g + d + 1) + 1 by omega, u_s_X10_agrees_L137_1, u_p_X10_agrees_L137_1, if_neg hc, if_neg hc, nI_1, nI_clamp (n := i) (by omega)]
    by_cases hbit : s / 2 ^ i % 2 = 0
    · have hb1 : ¬ _ := fun h => hb.mp h hbit
      rw [if_neg hb1, if_neg hb1, r86, r87, r88, r89]
      have hl : ∀ m, lF (eL I0 m) s (d + 1) i = eL I0 m i ++ lF (eL I0 m) s d (i + 1) := fun m => by
        show (if s / 2 ^ i % 2 = 0 then _ else _) ++ _ = _
        rw [if_pos hbit]
      rw [hl, hl]
      rcases w3 with ⟨f0, -⟩ | ⟨f1, k1, k2, l1, l2⟩ | ⟨f2, k1, k2⟩
      · have hE : ∀ m, eL I0 m i = [] := fun m => by unfold eL; rw [if_pos f0]
        rw [if_pos f0, if_pos f0, hE, hE]
        obtain ⟨I', q1, q2, q3, q4, q5, q6, q7⟩ := ih (i + 1) (by omega) I x y B g hR hH hB0 (by omega) hF hfl
        exact ⟨I', q1, fun h => ⟨hv, q2 h⟩, q3.mo (by omega), q4.mo (by omega), q5, q6, q7⟩
      · have n0 : ¬ I0 30 i = 0 := by rw [f1]; decide
        rw [if_neg n0, if_neg n0, k1, k2]
        obtain ⟨I1, t1, t2, t3, t4, t5, t6⟩ := pu_1 (d := I0 33 i) hR hH h31 h32 ⟨l1, l2⟩ hB0 (by omega)
        rw [← e31, ← e32] at t1 t2
        obtain ⟨t6, t7⟩ := t6 hfl
        have n2 : ¬ I1 86 i = 2 := by
          rw [t5.r (k := 86) (by decide) (by decide) (by decide), r86, f1]
          decide
        rw [t1, if_neg n2, if_neg n2]
        have hE0 : eL I0 false i = [((I0 31 i).toNatClampNeg, (I0 32 i).toNatClampNeg, (I0 33 i).toInt)] := by unfold eL; rw [if_neg n0, if_pos f1]; rfl
        have hE1 : eL I0 true i = [((I0 32 i).toNatClampNeg, (I0 31 i).toNatClampNeg, (I0 33 i).toInt)] := by unfold eL; rw [if_neg n0, if_pos f1]; rfl
        rw [hE0, hE1, eMov_app, eMov_app, eRun_app, eRun_app, Bool.or_eq_false_iff, Bool.or_eq_false_iff]
        obtain ⟨I', q1, q2, q3, q4, q5, q6, q7⟩ := ih (i + 1) (by omega) I1 _ _ _ g t3 t4 (by omega) (by omega) (hF.tr t5) t6
        refine ⟨I', q1, fun h => ⟨hv, hv, hv, hv, t2, hv, q2 h⟩, q3.mo (by omega), q4.mo (by omega), q5, q6, q7.trans ?_⟩
        rw [t7]
        exact ⟨fun h => ⟨h.1.1, ⟨h.1.2.1, h.2.1⟩, h.1.2.2, h.2.2⟩, fun h => ⟨⟨h.1, h.2.1.1, h.2.2.1⟩, h.2.1.2, h.2.2.2⟩⟩
      · have n0 : ¬ I0 30 i = 0 := by rw [f2]; decide
        have n1 : ¬ I0 30 i = 1 := by rw [f2]; decide
        rw [if_neg n0, if_neg n0, k1, k2]
        have z0 : (0 : Int32).toInt = 0 := rfl
        obtain ⟨I1, t1, t2, t3, t4, t5, t6⟩ := pu_1 (d := 0) hR hH h31 h32 (by rw [z0]; omega) hB0 (by omega)
        rw [← e31, ← e32] at t1 t2
        rw [z0] at t3 t4 t6
        obtain ⟨t6, t7⟩ := t6 hfl
        obtain ⟨I2, u1, u2, u3, u4, u5, u6⟩ := pu_1 (d := 0) t3 t4 h32 h31 (by rw [z0]; omega) (by omega) (by omega)
        rw [← e31, ← e32] at u1 u2
        rw [z0] at u3 u4 u6
        obtain ⟨u6, u7⟩ := u6 t6
        have y2 : I1 86 i = 2 := by
          rw [t5.r (k := 86) (by decide) (by decide) (by decide), r86, f2]
        have y88 : I1 88 i = I0 32 i := by
          rw [t5.r (k := 88) (by decide) (by decide) (by decide), r88, k1]
        have y87 : I1 87 i = I0 31 i := by
          rw [t5.r (k := 87) (by decide) (by decide) (by decide), r87]
        rw [t1, if_pos y2, if_pos y2, y88, y87, u1]
        have hE0 : eL I0 false i = [((I0 31 i).toNatClampNeg, (I0 32 i).toNatClampNeg, 0)] ++ [((I0 32 i).toNatClampNeg, (I0 31 i).toNatClampNeg, 0)] := by unfold eL; rw [if_neg n0, if_neg n1]; rfl
        have hE1 : eL I0 true i = [((I0 32 i).toNatClampNeg, (I0 31 i).toNatClampNeg, 0)] ++ [((I0 31 i).toNatClampNeg, (I0 32 i).toNatClampNeg, 0)] := by unfold eL; rw [if_neg n0, if_neg n1]; rfl
        rw [hE0, hE1, eMov_app, eMov_app, eRun_app, eRun_app, eMov_app, eMov_app, eRun_app, eRun_app, Bool.or_eq_false_iff, Bool.or_eq_false_iff, Bool.or_eq_false_iff, Bool.or_eq_false_iff]
        obtain ⟨I', q1, q2, q3, q4, q5, q6, q7⟩ := ih (i + 1) (by omega) I2 _ _ _ g u3 u4 (by omega) (by omega) ((hF.tr t5).tr u5) u6
        refine ⟨I', q1, fun h => ⟨hv, hv, hv, hv, t2, hv, hv, hv, u2, q2 h⟩, q3.mo (by omega), q4.mo (by omega), q5, q6, q7.trans ?_⟩
        rw [u7, t7]
        exact ⟨fun h => ⟨h.1.1.1, ⟨⟨h.1.1.2.1, h.1.2.1⟩, h.2.1⟩, ⟨h.1.1.2.2, h.1.2.2⟩, h.2.2⟩, fun h => ⟨⟨⟨h.1, h.2.1.1.1, h.2.2.1.1⟩, h.2.1.1.2, h.2.2.1.2⟩, h.2.1.2, h.2.2.2⟩⟩
    · have hb1 := hb.mpr hbit
      rw [if_pos hb1, if_pos hb1]
      have hl : ∀ m, lF (eL I0 m) s (d + 1) i = lF (eL I0 m) s d (i + 1) := fun m => by
        show (if s / 2 ^ i % 2 = 0 then _ else _) ++ _ = _
        rw [if_neg hbit]
        rfl
      rw [hl, hl]
      obtain ⟨I', q1, q2, q3, q4, q5, q6, q7⟩ := ih (i + 1) (by omega) I x y B g hR hH hB0 (by omega) hF hfl
      exact ⟨I', q1, q2, q3.mo (by omega), q4.mo (by omega), q5, q6, q7⟩
def stl2 (l l' : List Eg) : Nat → (Nat → Int) → (Nat → Int) → Option ((Nat → Int) × (Nat → Int))
  | 0, _, _ => none
  | k + 1, x, y => if eMov x l = false ∧ eMov y l' = false then some (x, y) else stl2 l l' k (eRun x l) (eRun y l')
theorem stl2_some {l l' : List Eg} : ∀ k (x y z w : Nat → Int), stl2 l l' k x y = some (z, w) → (eOk l z ∧ (∀ e, x e ≤ z e) ∧ ∀ y, (∀ e, x e ≤ y e) → eOk l y → ∀ e, z e ≤ y e) ∧ (eOk l' w ∧ (∀ e, y e ≤ w e) ∧ ∀ x, (∀ e, y e ≤ x e) → eOk l' x → ∀ e, w e ≤ x e) := by
  intro k
  induction k with
  | zero => intro x y z w h; cases h
  | succ k ih =>
    intro x y z w h
    unfold stl2 at h
    split at h
    · next hm =>
      cases h
      exact ⟨⟨(eMov_no hm.1).2, fun e => Int.le_refl _, fun y h1 _ => h1⟩, (eMov_no hm.2).2, fun e => Int.le_refl _, fun y h1 _ => h1⟩
    · obtain ⟨⟨a, b, c⟩, a', b', c'⟩ := ih _ _ _ _ h
      exact ⟨⟨a, fun e => Int.le_trans (eRun_ge e) (b e), fun y h1 h2 => c y (eRun_le h1 h2) h2⟩, a', fun e => Int.le_trans (eRun_ge e) (b' e), fun y h1 h2 => c' y (eRun_le h1 h2) h2⟩
theorem stl2_ok {l l' : List Eg} : ∀ k (x y : Nat → Int), eOk l (eIt l k x) → eOk l' (eIt l' k y) → ∃ z, stl2 l l' (k + 2) x y = some z := by
  intro k
  induction k with
  | zero =>
    intro x y h h'
    refine ⟨(x, y), ?_⟩
    unfold stl2
    rw [if_pos ⟨eMov_ok h, eMov_ok h'⟩]
  | succ k ih =>
    intro x y h h'
    unfold stl2
    by_cases hm : eMov x l = false ∧ eMov y l' = false
    · rw [if_pos hm]
      exact ⟨_, rfl⟩
    · rw [if_neg hm]
      exact ih (eRun x l) (eRun y l') h h'
theorem stl2_z {l l' : List Eg} (hl : ∀ t, t ∈ l → t.1 < 10) (hl' : ∀ t, t ∈ l' → t.1 < 10) : ∀ k (x y z w : Nat → Int), stl2 l l' k x y = some (z, w) → ∀ e, 10 ≤ e → z e = x e ∧ w e = y e := by
  intro k
  induction k with
  | zero => intro x y z w h; cases h
  | succ k ih =>
    intro x y z w h e he
    unfold stl2 at h
    split at h
    · cases h; exact ⟨rfl, rfl⟩
    · have := ih _ _ _ _ h e he
      rw [this.1, this.2, eRun_out hl he, eRun_out hl' he]
      exact ⟨rfl, rfl⟩
/-- all turns -/
theorem ag_out {I0 : am_I} {n s f : Nat} (hn : n ≤ 12) (hs : s < 2 ^ 31) (hw : ∀ k, k < n → tW I0 k) (e86 : I0 86 = I0 30) (e87 : I0 87 = I0 31) : ∀ (k r : Nat), r + k = 12 → ∀ (I : am_I) (x y : Nat → Int) (B : Int) (g : Nat), Rd 90 I x B → Rh I y B → 0 ≤ B → B + 240000 * k ≤ 10000000 → Fa I0 I → I 46 68 = 1 → 15 * k + 1 < g → ∃ I', Fa I0 I' ∧ ((stl2 (lF (eL I0 false) s n 0) (lF (eL I0 true) s n 0) k x y = none ∧ s_X10_agrees_L137 (nI n) (nI s) f g 0 (nI r) 0 I = (0, I') ∧ p_X10_agrees_L137 (nI n) (nI s) f g 0 (nI r) 0 I) ∨ ∃ z w, stl2 (lF (eL I0 false) s n 0) (lF (eL I0 true) s n 0) k x y = some (z, w) ∧ s_X10_agrees_L137 (nI n) (nI s) f g 0 (nI r) 0 I = s_X10_agrees_L265 (nI n) (nI s) f 0 I' ∧ (p_X10_agrees_L265 (nI n) (nI s) f 0 I' → p_X10_agrees_L137 (nI n) (nI s) f g 0 (nI r) 0 I) ∧ Rd 90 I' z 10000000 ∧ Rh I' w 10000000) := by
  intro k
  induction k with
  | zero =>
    intro r hr I x y B g hR hH hB0 hB hF h1 hg
    obtain ⟨g, rfl⟩ : ∃ k, g = k + 1 := ⟨g - 1, by omega⟩
    have hc : (12 : Int32) ≤ nI r := nI_le (a := 12) (by omega) (by omega)
    have n0 : ¬ I 46 68 = 0 := by rw [h1]; decide
    rw [u_s_X10_agrees_L137_0, u_p_X10_agrees_L137_0, if_pos hc, if_pos hc, if_neg n0, if_neg n0]
    exact ⟨I, hF, Or.inl ⟨rfl, rfl, trivial⟩⟩
  | succ k ih =>
    intro r hr I x y B g hR hH hB0 hB hF h1 hg
    obtain ⟨g, rfl⟩ : ∃ k, g = (k + 1 + n + 1) + 1 := ⟨g - (n + 3), by omega⟩
    have hc : ¬ (12 : Int32) ≤ nI r := nI_ge (b := 12) (by omega) (by omega)
    have n0 : ¬ I 46 68 = 0 := by rw [h1]; decide
    rw [u_s_X10_agrees_L137_0, u_p_X10_agrees_L137_0, if_neg hc, if_neg hc, if_neg n0, if_neg n0]
    obtain ⟨I1, q1, q2, q3, q4, q5, q6, q7⟩ := ag_in (v3 := nI r) (f := f) hn hs hw e86 e87 n 0 (by omega) (am_w I 46 68 0) x y B (g + 1) (hR.f (aw_k (by decide))) (hH.f (aw_k (by decide))) hB0 (by omega) hF.w2 (Or.inl aw_s)
    rw [nI_0, nI_1] at q1 q2
    rw [aw_s] at q7
    unfold stl2
    by_cases hz : I1 46 68 = 0
    · have hno := (q7.mp hz).2
      rw [if_pos hno]
      rw [(eMov_no hno.1).1] at q3
      rw [(eMov_no hno.2).1] at q4
      refine ⟨I1, q5, Or.inr ⟨x, y, rfl, ?_, fun h => q2 ?_, q3.mo (by omega), q4.mo (by omega)⟩⟩
      · rw [q1, u_s_X10_agrees_L137_0]
        simp only [if_pos hz]
        split <;> rfl
      · rw [u_p_X10_agrees_L137_0]
        simp only [if_pos hz]
        split <;> exact h
    · have hyes : ¬ (eMov x (lF (eL I0 false) s n 0) = false ∧ eMov y (lF (eL I0 true) s n 0) = false) := fun h => hz (q7.mpr ⟨rfl, h⟩)
      rw [if_neg hyes]
      obtain ⟨I', a1, a2⟩ := ih (r + 1) (by omega) I1 _ _ _ (g + 1) q3 q4 (by omega) (by omega) q5 (by rcases q6 with h | h; exact absurd h hz; exact h) (by omega)
      refine ⟨I', a1, ?_⟩
      rcases a2 with ⟨b1, b2, b3⟩ | ⟨z, w, b1, b2, b3, b4, b5⟩
      · exact Or.inl ⟨b1, q1.trans b2, q2 b3⟩
      · exact Or.inr ⟨z, w, b1, q1.trans b2, fun h => q2 (b3 h), b4, b5⟩
theorem ag_end {I : am_I} {x y : Nat → Int} {B : Int} {a1 a2 : Int32} (hR : Rd 90 I x B) (hH : Rh I y B) : ∀ d i g, i + d = 10 → d < g → p_X10_agrees_L265 a1 a2 g (nI i) I ∧ ∃ r, s_X10_agrees_L265 a1 a2 g (nI i) I = (r, I) ∧ (r = 0 ∨ r = 1) ∧ (r = 1 ↔ ∀ e, i ≤ e → e < 10 → x e ≤ 9999 - y e) := by
  intro d
  induction d with
  | zero =>
    intro i g hi hg
    obtain ⟨g, rfl⟩ : ∃ k, g = k + 1 := ⟨g - 1, by omega⟩
    have hc : (10 : Int32) ≤ nI i := nI_le (a := 10) (by omega) (by omega)
    rw [u_s_X10_agrees_L265, u_p_X10_agrees_L265, if_pos hc, if_pos hc]
    exact ⟨trivial, 1, rfl, Or.inr rfl, fun _ e h1 h2 => by omega, fun _ => rfl⟩
  | succ d ih =>
    intro i g hi hg
    obtain ⟨g, rfl⟩ : ∃ k, g = k + 1 := ⟨g - 1, by omega⟩
    have hc : ¬ (10 : Int32) ≤ nI i := nI_ge (b := 10) (by omega) (by omega)
    have hv : vp_in (nI i) 10 := vp_in_nI (by omega) (by omega)
    rw [u_s_X10_agrees_L265, u_p_X10_agrees_L265, nI_1, nI_clamp (n := i) (by omega)]
    simp only [if_neg hc]
    obtain ⟨i1, r, i2, i3, i4⟩ := ih (i + 1) g (by omega) (by omega)
    by_cases hle : I 90 i ≤ I 91 i
    · simp only [if_pos hle]
      rw [Int32.le_iff_toInt_le, hR.1 _ (by omega), hH.1 _ (by omega)] at hle
      refine ⟨⟨hv, hv, i1⟩, r, i2, i3, i4.trans ⟨fun h e h1 h2 => ?_, fun h e h1 h2 => h e (by omega) h2⟩⟩
      by_cases he : e = i
      · subst he; exact hle
      · exact h e (by omega) h2
    · simp only [if_neg hle]
      rw [Int32.le_iff_toInt_le, hR.1 _ (by omega), hH.1 _ (by omega)] at hle
      exact ⟨⟨hv, hv, trivial⟩, 0, rfl, Or.inl rfl, fun h => absurd h (by decide), fun h => absurd (h i (Nat.le_refl _) (by omega)) hle⟩
/-- the spans -/
theorem ag_sp {I0 : am_I} {n s f : Nat} (hn : n ≤ 12) (hs : s < 2 ^ 31) (hw : ∀ k, k < n → tW I0 k) (e86 : I0 86 = I0 30) (e87 : I0 87 = I0 31) : ∀ (d i : Nat), i + d = n → ∀ (I : am_I) (x y : Nat → Int) (g : Nat), Rd 90 I x 9999 → Rh I y 9999 → Fa I0 I → d < g → ∃ (I' : am_I), s_X10_agrees_L32 (nI n) (nI s) f g (nI i) I = s_X10_agrees_L137 (nI n) (nI s) f f 0 0 0 (am_w I' 46 68 1) ∧ (p_X10_agrees_L137 (nI n) (nI s) f f 0 0 0 (am_w I' 46 68 1) → p_X10_agrees_L32 (nI n) (nI s) f g (nI i) I) ∧ Rd 90 I' (eRun x (lF (eS I0 false) s d i)) 9999 ∧ Rh I' (eRun y (lF (eS I0 true) s d i)) 9999 ∧ Fa I0 I' := by
  intro d
  induction d with
  | zero =>
    intro i hi I x y g hR hH hF hg
    obtain ⟨g, rfl⟩ : ∃ k, g = k + 1 := ⟨g - 1, by omega⟩
    have hc : nI n ≤ nI i := nI_le (by omega) (by omega)
    rw [u_s_X10_agrees_L32, u_p_X10_agrees_L32, if_pos hc, if_pos hc]
    exact ⟨I, rfl, id, hR, hH, hF⟩
  | succ d ih =>
    intro i hi I x y g hR hH hF hg
    obtain ⟨g, rfl⟩ : ∃ k, g = k + 1 := ⟨g - 1, by omega⟩
    have hc : ¬ nI n ≤ nI i := nI_ge (by omega) (by omega)
    have hb := bit_1 (s := s) (k := i) hs (by omega)
    have hv : vp_in (nI i) 12 := vp_in_nI (by omega) (by omega)
    have r86 := (hF.r (k := 86) (by decide) (by decide) (by decide)).trans e86
    have r87 := (hF.r (k := 87) (by decide) (by decide) (by decide)).trans e87
    have r88 := hF.r (k := 88) (by decide) (by decide) (by decide)
    have r89 := hF.r (k := 89) (by decide) (by decide) (by decide)
    obtain ⟨w1, w2, w3⟩ := hw i (by omega)
    have c31 := ia_cn w1.1
    have h31 : (I0 31 i).toNatClampNeg < 10 := by omega
    have v31 : vp_in (I0 31 i) 10 := by rw [vp_in_iff]; omega
    rw [u_s_X10_agrees_L32, u_p_X10_agrees_L32, if_neg hc, if_neg hc, nI_1, nI_clamp (n := i) (by omega)]
    by_cases hbit : s / 2 ^ i % 2 = 0
    · have hb1 : ¬ _ := fun h => hb.mp h hbit
      rw [if_neg hb1, if_neg hb1, r86, r87, r88, r89]
      have hl : ∀ m, lF (eS I0 m) s (d + 1) i = eS I0 m i ++ lF (eS I0 m) s d (i + 1) := fun m => by
        show (if s / 2 ^ i % 2 = 0 then _ else _) ++ _ = _
        rw [if_pos hbit]
      rw [hl, hl]
      have w3' : I0 30 i = 0 → I0 88 i = I0 33 i ∧ I0 89 i = I0 34 i ∧ 0 ≤ (I0 33 i).toInt ∧ (I0 33 i).toInt ≤ (I0 34 i).toInt ∧ (I0 34 i).toInt ≤ 9999 := by
        intro h
        rcases w3 with ⟨f0, hh⟩ | ⟨f1, -⟩ | ⟨f2, -⟩
        · exact hh
        · rw [f1] at h; exact absurd h (by decide)
        · rw [f2] at h; exact absurd h (by decide)
      by_cases f0 : I0 30 i = 0
      · obtain ⟨k1, k2, l1, l2, l3⟩ := w3' f0
        have hE0 : eS I0 false i = [((I0 31 i).toNatClampNeg, 10, (I0 33 i).toInt)] := by unfold eS; rw [if_pos f0]; rfl
        have hE1 : eS I0 true i = [((I0 31 i).toNatClampNeg, 10, 9999 - (I0 34 i).toInt)] := by unfold eS; rw [if_pos f0]; rfl
        rw [if_pos f0, if_pos f0, k1, k2, hE0, hE1, eRun_app, eRun_app]
        have x1 := hR.1 _ h31
        have y1 := hH.1 _ h31
        have push0 : ∀ K : am_I, K 90 = I 90 → ¬ I0 33 i ≤ I 90 (I0 31 i).toNatClampNeg → Rd 90 (am_w K 90 (I0 31 i).toNatClampNeg (I0 33 i)) (eRun x [((I0 31 i).toNatClampNeg, 10, (I0 33 i).toInt)]) 9999 := fun K hK hc => by
          rw [Int32.le_iff_toInt_le, x1] at hc
          show Rd 90 _ (if x (I0 31 i).toNatClampNeg < x 10 + (I0 33 i).toInt then va_up x (I0 31 i).toNatClampNeg (x 10 + (I0 33 i).toInt) else x) _
          rw [hR.2.2, if_pos (by omega)]
          exact rd_up (hR.f hK) h31 (by omega) (by omega) (by omega) (Int.le_refl _)
        have keep0 : ∀ K : am_I, K 90 = I 90 → I0 33 i ≤ I 90 (I0 31 i).toNatClampNeg → Rd 90 K (eRun x [((I0 31 i).toNatClampNeg, 10, (I0 33 i).toInt)]) 9999 := fun K hK hc => by
          rw [Int32.le_iff_toInt_le, x1] at hc
          show Rd 90 _ (if x (I0 31 i).toNatClampNeg < x 10 + (I0 33 i).toInt then va_up x (I0 31 i).toNatClampNeg (x 10 + (I0 33 i).toInt) else x) _
          rw [hR.2.2, if_neg (by omega)]
          exact hR.f hK
        have push1 : ∀ K : am_I, K 91 = I 91 → ¬ I 91 (I0 31 i).toNatClampNeg ≤ I0 34 i → Rh (am_w K 91 (I0 31 i).toNatClampNeg (I0 34 i)) (eRun y [((I0 31 i).toNatClampNeg, 10, 9999 - (I0 34 i).toInt)]) 9999 := fun K hK hc => by
          rw [Int32.le_iff_toInt_le, y1] at hc
          show Rh _ (if y (I0 31 i).toNatClampNeg < y 10 + (9999 - (I0 34 i).toInt) then va_up y (I0 31 i).toNatClampNeg (y 10 + (9999 - (I0 34 i).toInt)) else y) _
          rw [hH.2.2, if_pos (by omega)]
          exact rh_up (hH.f hK) h31 (by omega) (by omega) (by omega) (Int.le_refl _)
        have keep1 : ∀ K : am_I, K 91 = I 91 → I 91 (I0 31 i).toNatClampNeg ≤ I0 34 i → Rh K (eRun y [((I0 31 i).toNatClampNeg, 10, 9999 - (I0 34 i).toInt)]) 9999 := fun K hK hc => by
          rw [Int32.le_iff_toInt_le, y1] at hc
          show Rh _ (if y (I0 31 i).toNatClampNeg < y 10 + (9999 - (I0 34 i).toInt) then va_up y (I0 31 i).toNatClampNeg (y 10 + (9999 - (I0 34 i).toInt)) else y) _
          rw [hH.2.2, if_neg (by omega)]
          exact hH.f hK
        by_cases c0 : I0 33 i ≤ I 90 (I0 31 i).toNatClampNeg
        · by_cases c1 : I 91 (I0 31 i).toNatClampNeg ≤ I0 34 i
          · simp only [if_pos c0, if_pos c1]
            obtain ⟨I', q1, q2, q3, q4, q5⟩ := ih (i + 1) (by omega) I _ _ g (keep0 I rfl c0) (keep1 I rfl c1) hF (by omega)
            exact ⟨I', q1, fun h => ⟨hv, hv, hv, v31, hv, v31, q2 h⟩, q3, q4, q5⟩
          · simp only [if_pos c0, if_neg c1]
            obtain ⟨I', q1, q2, q3, q4, q5⟩ := ih (i + 1) (by omega) _ _ _ g (keep0 _ (aw_k (by decide)) c0) (push1 I rfl c1) hF.w1 (by omega)
            exact ⟨I', q1, fun h => ⟨hv, hv, hv, v31, hv, v31, hv, v31, q2 h⟩, q3, q4, q5⟩
        · by_cases c1 : I 91 (I0 31 i).toNatClampNeg ≤ I0 34 i
          · simp only [if_neg c0, if_pos c1]
            obtain ⟨I', q1, q2, q3, q4, q5⟩ := ih (i + 1) (by omega) _ _ _ g (push0 I rfl c0) (keep1 _ (aw_k (by decide)) c1) hF.w0 (by omega)
            exact ⟨I', q1, fun h => ⟨hv, hv, hv, v31, hv, v31, hv, v31, q2 h⟩, q3, q4, q5⟩
          · simp only [if_neg c0, if_neg c1]
            obtain ⟨I', q1, q2, q3, q4, q5⟩ := ih (i + 1) (by omega) _ _ _ g (Rd.f (push0 I rfl c0) (aw_k (by decide))) (push1 _ (aw_k (by decide)) c1) hF.w0.w1 (by omega)
            exact ⟨I', q1, fun h => ⟨hv, hv, hv, v31, hv, v31, hv, v31, hv, v31, q2 h⟩, q3, q4, q5⟩
      · have hE : ∀ m, eS I0 m i = [] := fun m => by unfold eS; rw [if_neg f0]
        rw [if_neg f0, if_neg f0, hE, hE]
        obtain ⟨I', q1, q2, q3, q4, q5⟩ := ih (i + 1) (by omega) I x y g hR hH hF (by omega)
        exact ⟨I', q1, fun h => ⟨hv, q2 h⟩, q3, q4, q5⟩
    · have hb1 := hb.mpr hbit
      rw [if_pos hb1, if_pos hb1]
      have hl : ∀ m, lF (eS I0 m) s (d + 1) i = lF (eS I0 m) s d (i + 1) := fun m => by
        show (if s / 2 ^ i % 2 = 0 then _ else _) ++ _ = _
        rw [if_neg hbit]
        rfl
      rw [hl, hl]
      exact ih (i + 1) (by omega) I x y g hR hH hF (by omega)
theorem ag_0 {a1 a2 : Int32} {f : Nat} : ∀ d i g (I : am_I), i + d = 10 → d < g → ∃ I', s_X10_agrees_L2 a1 a2 f g (nI i) I = s_X10_agrees_L32 a1 a2 f f 0 I' ∧ (p_X10_agrees_L32 a1 a2 f f 0 I' → p_X10_agrees_L2 a1 a2 f g (nI i) I) ∧ Fa I I' ∧ (∀ e, i ≤ e → e < 10 → I' 90 e = 0 ∧ I' 91 e = 9999) ∧ ∀ e, e < i → I' 90 e = I 90 e ∧ I' 91 e = I 91 e := by
  intro d
  induction d with
  | zero =>
    intro i g I hi hg
    obtain ⟨g, rfl⟩ : ∃ k, g = k + 1 := ⟨g - 1, by omega⟩
    have hc : (10 : Int32) ≤ nI i := nI_le (a := 10) (by omega) (by omega)
    rw [u_s_X10_agrees_L2, u_p_X10_agrees_L2, if_pos hc, if_pos hc]
    exact ⟨I, rfl, id, Fa.rf, fun e h1 h2 => by omega, fun e _ => ⟨rfl, rfl⟩⟩
  | succ d ih =>
    intro i g I hi hg
    obtain ⟨g, rfl⟩ : ∃ k, g = k + 1 := ⟨g - 1, by omega⟩
    have hc : ¬ (10 : Int32) ≤ nI i := nI_ge (b := 10) (by omega) (by omega)
    have hv : vp_in (nI i) 10 := vp_in_nI (by omega) (by omega)
    rw [u_s_X10_agrees_L2, u_p_X10_agrees_L2, if_neg hc, if_neg hc, nI_1, nI_clamp (by omega)]
    obtain ⟨I', a1, a2, a3, a4, a5⟩ := ih (i + 1) g (am_w (am_w I 90 i 0) 91 i 9999) (by omega) (by omega)
    refine ⟨I', a1, fun h => ⟨hv, hv, a2 h⟩, Fa.tr (Fa.w1 (Fa.w0 Fa.rf)) a3, fun e h1 h2 => ?_, fun e h => ?_⟩
    · by_cases he : e = i
      · subst he
        rw [(a5 _ (by omega)).1, (a5 _ (by omega)).2, aw_s, aw_k (by decide), aw_s]
        exact ⟨rfl, rfl⟩
      · exact a4 e (by omega) h2
    · rw [(a5 _ (by omega)).1, (a5 _ (by omega)).2, aw_n (by omega), aw_k (by decide), aw_n (by omega), aw_k (by decide)]
      exact ⟨rfl, rfl⟩
theorem eSL_ok {I : am_I} {m : Bool} {n s : Nat} {z : Nat → Int} : eOk (lF (eC I m) s n 0) z ↔ eOk (lF (eS I m) s n 0) z ∧ eOk (lF (eL I m) s n 0) z := by
  unfold eOk
  constructor
  · intro h
    refine ⟨fun t ht => h t ?_, fun t ht => h t ?_⟩
    · obtain ⟨k, k1, k2, k3, k4⟩ := (lF_mem n 0).mp ht
      exact (lF_mem n 0).mpr ⟨k, k1, k2, k3, eSL.mpr (Or.inl k4)⟩
    · obtain ⟨k, k1, k2, k3, k4⟩ := (lF_mem n 0).mp ht
      exact (lF_mem n 0).mpr ⟨k, k1, k2, k3, eSL.mpr (Or.inr k4)⟩
  · rintro ⟨h1, h2⟩ t ht
    obtain ⟨k, k1, k2, k3, k4⟩ := (lF_mem n 0).mp ht
    rcases eSL.mp k4 with h | h
    · exact h1 t ((lF_mem n 0).mpr ⟨k, k1, k2, k3, h⟩)
    · exact h2 t ((lF_mem n 0).mpr ⟨k, k1, k2, k3, h⟩)
theorem eS_lt {I : am_I} {n s : Nat} (hw : ∀ k, k < n → tW I k) (m : Bool) : ∀ t, t ∈ lF (eS I m) s n 0 → t.1 < 10 := fun t ht => by
  obtain ⟨k, k1, k2, k3, k4⟩ := (lF_mem n 0).mp ht
  exact eC_lt (tU_of hw) m t ((lF_mem n 0).mpr ⟨k, k1, k2, k3, eSL.mpr (Or.inl k4)⟩)
theorem eL_lt {I : am_I} {n s : Nat} (hw : ∀ k, k < n → tW I k) (m : Bool) : ∀ t, t ∈ lF (eL I m) s n 0 → t.1 < 10 := fun t ht => by
  obtain ⟨k, k1, k2, k3, k4⟩ := (lF_mem n 0).mp ht
  exact eC_lt (tU_of hw) m t ((lF_mem n 0).mpr ⟨k, k1, k2, k3, eSL.mpr (Or.inr k4)⟩)
/-- a span's edge holds where the days lie above it -/
theorem eS_up {I : am_I} {n s : Nat} {m : Bool} {x z : Nat → Int} (hx : eOk (lF (eS I m) s n 0) x) (h : ∀ e, x e ≤ z e) (h10 : z 10 = x 10) : eOk (lF (eS I m) s n 0) z := by
  intro t ht
  have h1 := hx t ht
  obtain ⟨k, k1, k2, k3, k4⟩ := (lF_mem n 0).mp ht
  have h2 : t.2.1 = 10 := by
    unfold eS at k4
    split at k4
    · rw [List.mem_singleton] at k4; rw [k4]
    · cases k4
  have h3 := h t.1
  rw [h2] at h1 ⊢
  omega
theorem eS_run {I : am_I} {s : Nat} {m : Bool} : ∀ d i (x : Nat → Int), (∀ k, i ≤ k → k < i + d → tW I k) → eOk (lF (eS I m) s d i) (eRun x (lF (eS I m) s d i)) := by
  intro d
  induction d with
  | zero => intro i x _ t h; cases h
  | succ d ih =>
    intro i x hw
    have hrec := fun y => ih (i + 1) y (fun k h1 h2 => hw k (by omega) (by omega))
    unfold lF
    by_cases hb : s / 2 ^ i % 2 = 0
    · rw [if_pos hb, eRun_app]
      intro t ht
      rcases List.mem_append.mp ht with h | h
      · unfold eS at h
        split at h
        · next h0 =>
          rw [List.mem_singleton] at h
          have hE : eS I m i = [t] := by unfold eS; rw [if_pos h0, h]
          rw [hE]
          have a1 : x t.2.1 + t.2.2 ≤ eRun x [t] t.1 := ePush_at
          have a2 := eRun_ge (l := lF (eS I m) s d (i + 1)) (x := eRun x [t]) t.1
          have h2 : t.2.1 = 10 := by rw [h]
          have lt10 : ∀ t', t' ∈ [t] ++ lF (eS I m) s d (i + 1) → t'.1 < 10 := by
            intro t' ht'
            have hm : t' ∈ lF (eS I m) s (d + 1) i := by
              unfold lF
              rw [if_pos hb, hE]
              exact ht'
            obtain ⟨k, k1, k2, k3, k4⟩ := (lF_mem (d + 1) i).mp hm
            obtain ⟨w1, -, -⟩ := hw k k1 k2
            have c31 := ia_cn w1.1
            unfold eS at k4
            split at k4
            · rw [List.mem_singleton] at k4; rw [k4]; show (I 31 k).toNatClampNeg < 10; omega
            · cases k4
          have a3 : eRun (eRun x [t]) (lF (eS I m) s d (i + 1)) 10 = x 10 := by
            rw [← eRun_app, eRun_out lt10 (Nat.le_refl _)]
          rw [h2] at a1 ⊢
          omega
        · cases h
      · exact hrec _ t h
    · rw [if_neg hb]
      exact hrec x
/-- the reference: whether the tellings agree, the first and the last days -/
theorem ag_all {I : am_I} {n s f : Nat} (hn : n ≤ 12) (hs : s < 2 ^ 31) (hw : ∀ k, k < n → tW I k) (e86 : I 86 = I 30) (e87 : I 87 = I 31) (hf : 200 ≤ f) : ∃ (r : Int32) (I' : am_I), s_X10_agrees f I (nI n) (nI s) = (r, I') ∧ p_X10_agrees f I (nI n) (nI s) ∧ Fa I I' ∧ (r = 0 ∨ r = 1) ∧ (r = 1 ↔ tSat I n s) ∧ (tSat I n s → ∃ z w, (∀ e, e < 10 → (I' 90 e).toInt = z e ∧ (I' 91 e).toInt = 9999 - w e) ∧ tSol I n s (cl_m false z) ∧ tSol I n s (cl_m true w) ∧ ∀ x, tSol I n s x → ∀ e, e < 10 → z e ≤ cl_m false x e ∧ w e ≤ cl_m true x e) := by
  unfold s_X10_agrees p_X10_agrees
  obtain ⟨I1, a1, a2, a3, a4, -⟩ := ag_0 (a1 := nI n) (a2 := nI s) (f := f) 10 0 f I (by omega) (by omega)
  have R0 : Rd 90 I1 (fun _ => 0) 9999 := ⟨fun e he => by rw [(a4 e (by omega) he).1]; rfl, fun e => ⟨Int.le_refl _, (by decide : (0 : Int) ≤ 9999)⟩, rfl⟩
  have H0 : Rh I1 (fun _ => 0) 9999 := ⟨fun e he => by rw [(a4 e (by omega) he).2]; rfl, fun e => ⟨Int.le_refl _, (by decide : (0 : Int) ≤ 9999)⟩, rfl⟩
  obtain ⟨I2, b1, b2, b3, b4, b5⟩ := ag_sp (f := f) hn hs hw e86 e87 n 0 (by omega) I1 _ _ f R0 H0 a3 (by omega)
  have b3' := Rd.f (I' := am_w I2 46 68 1) b3 (aw_k (by decide))
  have b4' := Rh.f (I' := am_w I2 46 68 1) b4 (aw_k (by decide))
  obtain ⟨I', c1, c2⟩ := ag_out (f := f) hn hs hw e86 e87 12 0 (by omega) _ _ _ _ f b3' b4' (by omega) (by omega) b5.w2 aw_s (by omega)
  rw [nI_0] at a1 a2 b1 b2 c2
  rw [a1, b1]
  -- the start of both
  have okS0 := eS_run (I := I) (s := s) (m := false) n 0 (fun _ => 0) (fun k _ h => hw k (by omega))
  have okS1 := eS_run (I := I) (s := s) (m := true) n 0 (fun _ => 0) (fun k _ h => hw k (by omega))
  have out0 : ∀ e, 10 ≤ e → eRun (fun _ => 0) (lF (eS I false) s n 0) e = 0 := fun e he => eRun_out (eS_lt hw _) he
  have out1 : ∀ e, 10 ≤ e → eRun (fun _ => 0) (lF (eS I true) s n 0) e = 0 := fun e he => eRun_out (eS_lt hw _) he
  have sol : ∀ (m : Bool) x, tSol I n s x → (∀ e, 10 ≤ e → cl_m m x e = 0) ∧ eOk (lF (eL I m) s n 0) (cl_m m x) ∧ ∀ e, eRun (fun _ => 0) (lF (eS I m) s n 0) e ≤ cl_m m x e := fun m x hx => by
    obtain ⟨h1, h2, h3⟩ := (ts_c (tU_of hw) m x).mp hx
    have h4 := eSL_ok.mp h2
    exact ⟨fun e he => by unfold cl_m; rw [if_neg (by omega)], h4.2, eRun_le h1 h4.1⟩
  rcases c2 with ⟨d1, d2, d3⟩ | ⟨z, w, d1, d2, d3, d4, d5⟩
  · have hno : ¬ tSat I n s := by
      rintro ⟨x, hx⟩
      obtain ⟨s1, s2, s3⟩ := sol false x hx
      obtain ⟨t1, t2, t3⟩ := sol true x hx
      obtain ⟨z, hz⟩ := stl2_ok 10 _ _ (e_conv (eL_lt hw false) (y := cl_m false x) ⟨s3, fun e he => by rw [s1 e he, out0 e he], s2⟩) (e_conv (eL_lt hw true) (y := cl_m true x) ⟨t3, fun e he => by rw [t1 e he, out1 e he], t2⟩)
      rw [d1] at hz
      cases hz
    rw [d2]
    exact ⟨0, I', rfl, a2 (b2 d3), c1, Or.inl rfl, ⟨fun h => absurd h (by decide), fun h => absurd h hno⟩, fun h => absurd h hno⟩
  · obtain ⟨⟨z1, z2, z3⟩, w1, w2, w3⟩ := stl2_some _ _ _ _ _ d1
    have zw := stl2_z (eL_lt hw false) (eL_lt hw true) _ _ _ _ _ d1
    have z0 : ∀ e, 10 ≤ e → z e = 0 := fun e he => by rw [(zw e he).1, out0 e he]
    have w0 : ∀ e, 10 ≤ e → w e = 0 := fun e he => by rw [(zw e he).2, out1 e he]
    have zS : eOk (lF (eS I false) s n 0) z := eS_up okS0 z2 (by rw [z0 10 (Nat.le_refl _), out0 10 (Nat.le_refl _)])
    have wS : eOk (lF (eS I true) s n 0) w := eS_up okS1 w2 (by rw [w0 10 (Nat.le_refl _), out1 10 (Nat.le_refl _)])
    have hspan : ∀ k, k < n → s / 2 ^ k % 2 = 0 → I 30 k = 0 → (I 33 k).toInt ≤ z (I 31 k).toNatClampNeg ∧ 9999 - (I 34 k).toInt ≤ w (I 31 k).toNatClampNeg := by
      intro k hk hb hf0
      have q1 := zS ((I 31 k).toNatClampNeg, 10, (I 33 k).toInt) ((lF_mem n 0).mpr ⟨k, Nat.zero_le _, by omega, hb, by unfold eS; rw [if_pos hf0]; exact List.mem_singleton.mpr rfl⟩)
      have q2 := wS ((I 31 k).toNatClampNeg, 10, 9999 - (I 34 k).toInt) ((lF_mem n 0).mpr ⟨k, Nat.zero_le _, by omega, hb, by unfold eS; rw [if_pos hf0]; exact List.mem_singleton.mpr rfl⟩)
      simp only [z0 10 (Nat.le_refl _), w0 10 (Nat.le_refl _)] at q1 q2
      omega
    have z00 : ∀ e, 0 ≤ z e := fun e => (d4.2.1 e).1
    have w00 : ∀ e, 0 ≤ w e := fun e => (d5.2.1 e).1
    obtain ⟨g1, r, g2, g3, g4⟩ := ag_end (a1 := nI n) (a2 := nI s) d4 d5 10 0 f (by omega) (by omega)
    rw [nI_0] at g1 g2
    have hsolz : (∀ e, 0 ≤ e → e < 10 → z e ≤ 9999 - w e) → tSol I n s (cl_m false z) := fun h => by
      rw [ts_c (tU_of hw) false, cl_2 z0]
      refine ⟨z00, eSL_ok.mpr ⟨zS, z1⟩, fun e he => ?_, fun k hk hb hf0 => ?_⟩
      · have := h e (Nat.zero_le _) he; have := w00 e; omega
      · have := (hspan k hk hb hf0).2
        have c31 := ia_cn (hw k hk).1.1
        have := h (I 31 k).toNatClampNeg (Nat.zero_le _) (by have := (hw k hk).1.2; omega)
        simp only [Bool.false_eq_true, if_false]
        omega
    have hsolw : (∀ e, 0 ≤ e → e < 10 → z e ≤ 9999 - w e) → tSol I n s (cl_m true w) := fun h => by
      rw [ts_c (tU_of hw) true, cl_2 w0]
      refine ⟨w00, eSL_ok.mpr ⟨wS, w1⟩, fun e he => ?_, fun k hk hb hf0 => ?_⟩
      · have := h e (Nat.zero_le _) he; have := z00 e; omega
      · have := (hspan k hk hb hf0).1
        have c31 := ia_cn (hw k hk).1.1
        have := h (I 31 k).toNatClampNeg (Nat.zero_le _) (by have := (hw k hk).1.2; omega)
        simp only [if_true]
        omega
    have hmin : ∀ x, tSol I n s x → ∀ e, e < 10 → z e ≤ cl_m false x e ∧ w e ≤ cl_m true x e := fun x hx e _ => by
      obtain ⟨s1, s2, s3⟩ := sol false x hx
      obtain ⟨t1, t2, t3⟩ := sol true x hx
      exact ⟨z3 _ s3 s2 e, w3 _ t3 t2 e⟩
    have hto : tSat I n s → ∀ e, 0 ≤ e → e < 10 → z e ≤ 9999 - w e := by
      rintro ⟨x, hx⟩ e _ he
      have := hmin x hx e he
      rw [cl_lt he, cl_lt he] at this
      simp only [if_true, Bool.false_eq_true, if_false] at this
      omega
    rw [d2, g2]
    exact ⟨r, I', rfl, a2 (b2 (d3 g1)), c1, g3, g4.trans ⟨fun h => ⟨_, hsolz h⟩, hto⟩, fun h => ⟨z, w, fun e he => ⟨d4.1 e he, d5.1 e he⟩, hsolz (hto h), hsolw (hto h), hmin⟩⟩
