/-! ===== the class pushes days ===== -/
/-- the class's part of a telling -/
def tU (I : am_I) (k : Nat) : Prop := (0 ≤ (I 31 k).toInt ∧ (I 31 k).toInt < 10) ∧ (0 ≤ (I 32 k).toInt ∧ (I 32 k).toInt < 10) ∧ ((I 30 k = 0 ∧ True ∧ True ∧ 0 ≤ (I 33 k).toInt ∧ (I 33 k).toInt ≤ (I 34 k).toInt ∧ (I 34 k).toInt ≤ 9999) ∨ (I 30 k = 1 ∧ True ∧ True ∧ -9999 ≤ (I 33 k).toInt ∧ (I 33 k).toInt ≤ 9999) ∨ (I 30 k = 2 ∧ True ∧ True))
theorem tW.u {I : am_I} {k : Nat} (h : tW I k) : tU I k := by
  obtain ⟨w1, w2, w3⟩ := h
  refine ⟨w1, w2, ?_⟩
  rcases w3 with ⟨f0, -, -, l⟩ | ⟨f1, -, -, l⟩ | ⟨f2, -, -⟩
  · exact Or.inl ⟨f0, trivial, trivial, l⟩
  · exact Or.inr (Or.inl ⟨f1, trivial, trivial, l⟩)
  · exact Or.inr (Or.inr ⟨f2, trivial, trivial⟩)
theorem tU_of {I : am_I} {n : Nat} (h : ∀ k, k < n → tW I k) : ∀ k, k < n → tU I k := fun k hk => (h k hk).u
/-- what telling k pushes; mirrored where m is true -/
def eC (I : am_I) (m : Bool) (k : Nat) : List Eg := if I 30 k = 0 then [((I 31 k).toNatClampNeg, 10, if m then 9999 - (I 34 k).toInt else (I 33 k).toInt)] else if I 30 k = 1 then (if m then [((I 32 k).toNatClampNeg, (I 31 k).toNatClampNeg, (I 33 k).toInt)] else [((I 31 k).toNatClampNeg, (I 32 k).toNatClampNeg, (I 33 k).toInt)]) else [((I 31 k).toNatClampNeg, (I 32 k).toNatClampNeg, 0), ((I 32 k).toNatClampNeg, (I 31 k).toNatClampNeg, 0)]
/-- those of the tellings from i on, d of them, that s leaves in -/
def lF (E : Nat → List Eg) (s : Nat) : Nat → Nat → List Eg
  | 0, _ => []
  | d + 1, i => (if s / 2 ^ i % 2 = 0 then E i else []) ++ lF E s d (i + 1)
theorem lF_mem {E : Nat → List Eg} {s : Nat} {t : Eg} : ∀ d i, t ∈ lF E s d i ↔ ∃ k, i ≤ k ∧ k < i + d ∧ s / 2 ^ k % 2 = 0 ∧ t ∈ E k := by
  intro d
  induction d with
  | zero => intro i; exact ⟨fun h => absurd h List.not_mem_nil, fun ⟨k, h1, h2, _⟩ => by omega⟩
  | succ d ih =>
    intro i
    unfold lF
    rw [List.mem_append, ih]
    constructor
    · rintro (h | ⟨k, h1, h2, h3, h4⟩)
      · split at h
        · next hb => exact ⟨i, Nat.le_refl _, by omega, hb, h⟩
        · cases h
      · exact ⟨k, by omega, by omega, h3, h4⟩
    · rintro ⟨k, h1, h2, h3, h4⟩
      by_cases hk : k = i
      · subst hk
        rw [if_pos h3]
        exact Or.inl h4
      · exact Or.inr ⟨k, by omega, by omega, h3, h4⟩
/-- row r of I holds the days x, none above B -/
def Rd (r : Nat) (I : am_I) (x : Nat → Int) (B : Int) : Prop := (∀ e, e < 10 → (I r e).toInt = x e) ∧ (∀ e, 0 ≤ x e ∧ x e ≤ B) ∧ x 10 = 0
def Fr (r : Nat) (I I' : am_I) : Prop := ∀ k, k ≠ r → I' k = I k
theorem Fr.rf {r : Nat} {I : am_I} : Fr r I I := fun _ _ => rfl
theorem Fr.tr {r : Nat} {I I' I'' : am_I} (h : Fr r I I') (h2 : Fr r I' I'') : Fr r I I'' := fun k hk => (h2 k hk).trans (h k hk)
theorem Fr.w {r a : Nat} {v : Int32} {I I' : am_I} (h : Fr r I I') : Fr r I (am_w I' r a v) := fun k hk => by
  unfold am_w va_up
  rw [if_neg hk]
  exact h k hk
/-- one push in a row -/
theorem rd_up {r : Nat} {I : am_I} {x : Nat → Int} {B : Int} (h : Rd r I x B) {e : Nat} (he : e < 10) {v : Int32} {w : Int} (hv : v.toInt = w) (h0 : 0 ≤ w) {B' : Int} (hw : w ≤ B') (hB : B ≤ B') : Rd r (am_w I r e v) (va_up x e w) B' := by
  refine ⟨fun e' he' => ?_, fun e' => ?_, ?_⟩
  · show (va_up I r (va_up (I r) e v) r e').toInt = _
    unfold va_up
    rw [if_pos rfl]
    by_cases hE : e' = e
    · rw [if_pos hE, if_pos hE]; exact hv
    · rw [if_neg hE, if_neg hE]; exact h.1 e' he'
  · unfold va_up
    have := h.2.1 e'
    split <;> omega
  · unfold va_up
    rw [if_neg (by omega)]
    exact h.2.2
theorem Rd.mo {r : Nat} {I : am_I} {x : Nat → Int} {B B' : Int} (h : Rd r I x B) (hB : B ≤ B') : Rd r I x B' := ⟨h.1, fun e => ⟨(h.2.1 e).1, Int.le_trans (h.2.1 e).2 hB⟩, h.2.2⟩
theorem ev_no {e : Nat} (he : e < 10) : ¬ s_X9_isEvent (nI e) = 0 := by
  have hc : ¬ (10 : Int32) ≤ nI e := nI_ge (b := 10) (by omega) (by omega)
  unfold s_X9_isEvent
  rw [if_neg (nI_pos (by omega)), if_neg hc]
  decide
theorem pt_1 {I : am_I} {x : Nat → Int} {B d : Int} {e o : Nat} {v : Int32} (h : Rd 36 I x B) (he : e < 10) (hv : v.toInt = x o + d) (h0 : d ≤ 9999) : ∃ (fl : Int32) (I' : am_I), s_X5_pushTo I (nI e) v = (fl, I') ∧ p_X5_pushTo I (nI e) v ∧ (fl = 0 ∨ fl = 1) ∧ (fl = 0 ↔ eMov x [(e, o, d)] = false) ∧ Rd 36 I' (eRun x [(e, o, d)]) (B + 9999) ∧ Fr 36 I I' := by
  have hc := nI_clamp (n := e) (by omega)
  have hve : vp_in (nI e) 10 := vp_in_nI he (by omega)
  have hb := h.2.1 o
  have hbe := h.2.1 e
  have B0 : B ≤ B + 9999 := by omega
  unfold s_X5_pushTo p_X5_pushTo
  rw [if_neg (ev_no he), if_neg (ev_no he), hc]
  by_cases hlt : x e < x o + d
  · have c : I 36 e < v := by rw [Int32.lt_iff_toInt_lt, h.1 e he, hv]; exact hlt
    rw [if_pos c, if_pos c]
    refine ⟨1, _, rfl, ⟨hve, hve⟩, Or.inr rfl, ?_, ?_, Fr.rf.w⟩
    · refine ⟨fun h => absurd h (by decide), fun hm => ?_⟩
      unfold eMov at hm
      rw [Bool.or_eq_false_iff, decide_eq_false_iff_not] at hm
      exact absurd hlt hm.1
    · show Rd 36 _ (ePush x (e, o, d)) _
      unfold ePush
      rw [if_pos hlt]
      exact rd_up h he hv (by omega) (by omega) B0
  · have c : ¬ I 36 e < v := by rw [Int32.lt_iff_toInt_lt, h.1 e he, hv]; exact hlt
    rw [if_neg c, if_neg c]
    refine ⟨0, I, rfl, ⟨hve, trivial⟩, Or.inl rfl, ?_, ?_, Fr.rf⟩
    · refine ⟨fun _ => ?_, fun _ => rfl⟩
      unfold eMov eMov
      rw [Bool.or_false, decide_eq_false_iff_not]
      exact hlt
    · show Rd 36 _ (ePush x (e, o, d)) _
      unfold ePush
      rw [if_neg hlt]
      exact h.mo B0
theorem pt_2 {I I0 : am_I} {x : Nat → Int} {B : Int} {k : Nat} {m : Int32} (h : Rd 36 I x B) (hB : B ≤ 100000000) (hF : Fr 36 I0 I) (hk : k < 12) (hw : tU I0 k) (hm : m = 0 ∨ m = 1) : ∃ (fl : Int32) (I' : am_I), s_X5_pushDays I (nI k) m = (fl, I') ∧ p_X5_pushDays I (nI k) m ∧ (fl = 0 ∨ fl = 1) ∧ (fl = 0 ↔ eMov x (eC I0 (decide (m = 1)) k) = false) ∧ Rd 36 I' (eRun x (eC I0 (decide (m = 1)) k)) (B + 20000) ∧ Fr 36 I0 I' := by
  have hc := nI_clamp (n := k) (by omega)
  have hv : vp_in (nI k) 12 := vp_in_nI hk (by omega)
  have r30 := hF 30 (by decide)
  have r31 := hF 31 (by decide)
  have r32 := hF 32 (by decide)
  have r33 := hF 33 (by decide)
  have r34 := hF 34 (by decide)
  obtain ⟨w1, w2, w3⟩ := hw
  have c31 := ia_cn w1.1
  have c32 := ia_cn w2.1
  have e31 := ia_nI _ w1.1
  have e32 := ia_nI _ w2.1
  have h31 : (I0 31 k).toNatClampNeg < 10 := by omega
  have h32 : (I0 32 k).toNatClampNeg < 10 := by omega
  have v31 : vp_in (I0 31 k) 10 := by rw [vp_in_iff]; omega
  have v32 : vp_in (I0 32 k) 10 := by rw [vp_in_iff]; omega
  have b31 := h.2.1 (I0 31 k).toNatClampNeg
  have b32 := h.2.1 (I0 32 k).toNatClampNeg
  have x31 := h.1 _ h31
  have x32 := h.1 _ h32
  have n9 : (9999 : Int32).toInt = 9999 := rfl
  unfold s_X5_pushDays p_X5_pushDays
  rw [r30, r31, r32, r33, r34, hc]
  rcases w3 with ⟨f0, -, -, l1, l2, l3⟩ | ⟨f1, -, -, l1, l2⟩ | ⟨f2, -, -⟩
  · rw [f0]
    simp only [if_true]
    rcases hm with rfl | rfl
    · have hd : (I0 33 k).toInt = x 10 + (I0 33 k).toInt := by rw [h.2.2]; omega
      obtain ⟨fl, I', s1, s2, s3, s4, s5, s6⟩ := pt_1 (e := (I0 31 k).toNatClampNeg) h h31 hd (by omega)
      rw [← e31] at s1 s2
      have hE : eC I0 (decide ((0 : Int32) = 1)) k = [((I0 31 k).toNatClampNeg, 10, (I0 33 k).toInt)] := by
        unfold eC; rw [if_pos f0]; rfl
      rw [hE]
      simp only [if_true]
      rw [s1]
      exact ⟨fl, I', rfl, ⟨hv, hv, hv, hv, s2⟩, s3, s4, s5.mo (by omega), hF.tr s6⟩
    · have hd : (9999 - I0 34 k).toInt = x 10 + (9999 - (I0 34 k).toInt) := by rw [h.2.2, ia_sub (by omega) (by omega), n9]; omega
      obtain ⟨fl, I', s1, s2, s3, s4, s5, s6⟩ := pt_1 (e := (I0 31 k).toNatClampNeg) h h31 hd (by omega)
      rw [← e31] at s1 s2
      have hE : eC I0 (decide ((1 : Int32) = 1)) k = [((I0 31 k).toNatClampNeg, 10, 9999 - (I0 34 k).toInt)] := by
        unfold eC; rw [if_pos f0]; rfl
      rw [hE]
      simp only [if_neg (show ¬ (1 : Int32) = 0 by decide)]
      rw [s1]
      exact ⟨fl, I', rfl, ⟨hv, hv, hv, hv, s2⟩, s3, s4, s5.mo (by omega), hF.tr s6⟩
  · rw [f1]
    simp only [if_neg (show ¬ (1 : Int32) = 0 by decide), if_true]
    rcases hm with rfl | rfl
    · have hd : (I 36 (I0 32 k).toNatClampNeg + I0 33 k).toInt = x (I0 32 k).toNatClampNeg + (I0 33 k).toInt := by rw [ia_add (by omega) (by omega), x32]
      obtain ⟨fl, I', s1, s2, s3, s4, s5, s6⟩ := pt_1 (e := (I0 31 k).toNatClampNeg) h h31 hd (by omega)
      rw [← e31] at s1 s2
      have hE : eC I0 (decide ((0 : Int32) = 1)) k = [((I0 31 k).toNatClampNeg, (I0 32 k).toNatClampNeg, (I0 33 k).toInt)] := by
        unfold eC; rw [f1]; rfl
      rw [hE]
      simp only [if_true]
      rw [s1]
      exact ⟨fl, I', rfl, ⟨hv, hv, hv, v32, hv, s2⟩, s3, s4, s5.mo (by omega), hF.tr s6⟩
    · have hd : (I 36 (I0 31 k).toNatClampNeg + I0 33 k).toInt = x (I0 31 k).toNatClampNeg + (I0 33 k).toInt := by rw [ia_add (by omega) (by omega), x31]
      obtain ⟨fl, I', s1, s2, s3, s4, s5, s6⟩ := pt_1 (e := (I0 32 k).toNatClampNeg) h h32 hd (by omega)
      rw [← e32] at s1 s2
      have hE : eC I0 (decide ((1 : Int32) = 1)) k = [((I0 32 k).toNatClampNeg, (I0 31 k).toNatClampNeg, (I0 33 k).toInt)] := by
        unfold eC; rw [f1]; rfl
      rw [hE]
      simp only [if_neg (show ¬ (1 : Int32) = 0 by decide)]
      rw [s1]
      exact ⟨fl, I', rfl, ⟨hv, hv, hv, v31, hv, s2⟩, s3, s4, s5.mo (by omega), hF.tr s6⟩
  · rw [f2]
    simp only [if_neg (show ¬ (2 : Int32) = 0 by decide), if_neg (show ¬ (2 : Int32) = 1 by decide)]
    have hd : (I 36 (I0 32 k).toNatClampNeg).toInt = x (I0 32 k).toNatClampNeg + 0 := by rw [x32]; omega
    obtain ⟨fl, I', s1, s2, s3, s4, s5, s6⟩ := pt_1 (e := (I0 31 k).toNatClampNeg) h h31 hd (by omega)
    rw [← e31] at s1 s2
    have hd2 : (I' 36 (I0 31 k).toNatClampNeg).toInt = eRun x [((I0 31 k).toNatClampNeg, (I0 32 k).toNatClampNeg, 0)] (I0 31 k).toNatClampNeg + 0 := by rw [s5.1 _ h31]; omega
    obtain ⟨fl2, I2, t1, t2, t3, t4, t5, t6⟩ := pt_1 (e := (I0 32 k).toNatClampNeg) s5 h32 hd2 (by omega)
    rw [← e32] at t1 t2
    have hE : eC I0 (decide (m = 1)) k = [((I0 31 k).toNatClampNeg, (I0 32 k).toNatClampNeg, 0)] ++ [((I0 32 k).toNatClampNeg, (I0 31 k).toNatClampNeg, 0)] := by
      unfold eC; rw [f2]; rfl
    rw [hE, eRun_app, eMov_app, s1]
    simp only
    rw [t1]
    simp only
    refine ⟨if fl = 0 then (if fl2 = 0 then 0 else 1) else 1, I2, ?_, ⟨hv, hv, hv, v32, s2, v31, t2⟩, ?_, ?_, t5.mo (by omega), (hF.tr s6).tr t6⟩
    · split
      · split <;> rfl
      · rfl
    · split
      · split
        · exact Or.inl rfl
        · exact Or.inr rfl
      · exact Or.inr rfl
    · rw [Bool.or_eq_false_iff, ← s4, ← t4]
      by_cases q1 : fl = 0
      · by_cases q2 : fl2 = 0
        · rw [if_pos q1, if_pos q2]; exact ⟨fun _ => ⟨q1, q2⟩, fun _ => rfl⟩
        · rw [if_pos q1, if_neg q2]; exact ⟨fun h => absurd h (by decide), fun h => absurd h.2 q2⟩
      · rw [if_neg q1]; exact ⟨fun h => absurd h (by decide), fun h => absurd h.1 q1⟩
/-- a bit of a set -/
theorem bit_s {s k : Nat} (hs : s < 2 ^ 31) (hk : k < 31) : (nI s >>> (nI k &&& 31)) &&& 1 = nI (s / 2 ^ k % 2) := by
  have h1 : nI k &&& 31 = nI k := by
    rw [pk_andN (by omega) (m := 31) 5 rfl]
    congr 1
    omega
  rw [h1, pk_shrN hs (nI k) k]
  · have h2 : s / 2 ^ k < 2 ^ 32 := by
      have := Nat.div_le_self s (2 ^ k)
      omega
    exact pk_andN h2 (m := 1) 1 rfl
  · have : k = 0 ∨ k = 1 ∨ k = 2 ∨ k = 3 ∨ k = 4 ∨ k = 5 ∨ k = 6 ∨ k = 7 ∨ k = 8 ∨ k = 9 ∨ k = 10 ∨ k = 11 ∨ k = 12 ∨ k = 13 ∨ k = 14 ∨ k = 15 ∨ k = 16 ∨ k = 17 ∨ k = 18 ∨ k = 19 ∨ k = 20 ∨ k = 21 ∨ k = 22 ∨ k = 23 ∨ k = 24 ∨ k = 25 ∨ k = 26 ∨ k = 27 ∨ k = 28 ∨ k = 29 ∨ k = 30 := by omega
    rcases this with h | h | h | h | h | h | h | h | h | h | h | h | h | h | h | h | h | h | h | h | h | h | h | h | h | h | h | h | h | h | h <;> subst h <;> rfl
theorem bit_0 {s k : Nat} (hs : s < 2 ^ 31) (hk : k < 31) : (nI s >>> (nI k &&& 31)) &&& 1 = 0 ↔ s / 2 ^ k % 2 = 0 := by
  rw [bit_s hs hk]
  exact nI_eq (b := 0) (by omega) (by omega)
theorem bit_1 {s k : Nat} (hs : s < 2 ^ 31) (hk : k < 31) : (nI s >>> (nI k &&& 31)) &&& 1 = 1 ↔ ¬ s / 2 ^ k % 2 = 0 := by
  rw [bit_s hs hk]
  have := nI_eq (a := s / 2 ^ k % 2) (b := 1) (by omega) (by omega)
  constructor
  · intro h
    have := this.mp h
    omega
  · intro h
    exact this.mpr (by omega)
