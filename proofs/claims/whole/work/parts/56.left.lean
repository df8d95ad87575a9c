/-! ===== what is left out ===== -/
theorem fa_or (a b : Nat) : nI a ||| nI b = nI (a ||| b) := by
  apply Int32.toBitVec_inj.1
  show BitVec.ofNat 32 a ||| BitVec.ofNat 32 b = BitVec.ofNat 32 (a ||| b)
  apply BitVec.eq_of_getLsbD_eq
  intro i hi
  simp [hi]
theorem bc_8 : ∀ a, a < 64 → ∀ b, b < 64 → s_J6_bitCount_0f7a4 (nI (64 * a + b)) = nI (bcn 12 (64 * a + b)) := by decide +kernel
theorem bc_c {s : Nat} (h : s < 4096) : s_J6_bitCount_0f7a4 (nI s) = nI (bcn 12 s) := by
  have := bc_8 (s / 64) (by omega) (s % 64) (by omega)
  rw [show 64 * (s / 64) + s % 64 = s by omega] at this
  exact this
theorem bcn_le : ∀ m s, bcn m s ≤ m := by
  intro m s
  induction m with
  | zero => exact Nat.le_refl _
  | succ m ih => show bcn m s + s / 2 ^ m % 2 ≤ m + 1; omega
theorem bt_m {s : Nat} (hs : s < 4096) : ∀ d i g, i + d = 12 → d < g → s_X10_bits_L4 (nI s) g (nI (bcn i s)) (nI i) = nI (bcn 12 s) ∧ p_X10_bits_L4 (nI s) g (nI (bcn i s)) (nI i) := by
  intro d
  induction d with
  | zero =>
    intro i g hi hg
    obtain ⟨g, rfl⟩ : ∃ k, g = k + 1 := ⟨g - 1, by omega⟩
    have hc : (12 : Int32) ≤ nI i := nI_le (a := 12) (by omega) (by omega)
    rw [u_s_X10_bits_L4, u_p_X10_bits_L4, if_pos hc, if_pos hc, show i = 12 by omega]
    exact ⟨rfl, trivial⟩
  | succ d ih =>
    intro i g hi hg
    obtain ⟨g, rfl⟩ : ∃ k, g = k + 1 := ⟨g - 1, by omega⟩
    have hc : ¬ (12 : Int32) ≤ nI i := nI_ge (b := 12) (by omega) (by omega)
    rw [u_s_X10_bits_L4, u_p_X10_bits_L4, if_neg hc, if_neg hc, bit_s (by omega) (by omega), nI_add, nI_1]
    exact ih (i + 1) g (by omega) (by omega)
theorem bt_c {s f : Nat} (hs : s < 4096) (hf : 100 ≤ f) : s_X10_bits f (nI s) = nI (bcn 12 s) ∧ p_X10_bits f (nI s) := by
  have := bt_m hs 12 0 f (by omega) (by omega)
  exact this
theorem tb_ne {t n k : Nat} (ht : t < 2 ^ n) (hk : k ≠ n) : (t + 2 ^ n) / 2 ^ k % 2 = t / 2 ^ k % 2 := by
  rcases Nat.lt_or_gt_of_ne hk with h | h
  · obtain ⟨q, hq⟩ : ∃ q, 2 ^ n = 2 ^ k * (2 * q) := ⟨2 ^ (n - k - 1), by
      rw [← Nat.pow_succ', ← Nat.pow_add]
      congr 1
      omega⟩
    rw [hq, Nat.add_mul_div_left _ _ (Nat.two_pow_pos k)]
    omega
  · have h1 : 2 ^ (n + 1) ≤ 2 ^ k := Nat.pow_le_pow_right (by decide) h
    have h2 : 2 ^ (n + 1) = 2 * 2 ^ n := Nat.pow_succ'
    rw [Nat.div_eq_of_lt (show t + 2 ^ n < 2 ^ k by omega), Nat.div_eq_of_lt (show t < 2 ^ k by omega)]
theorem tb_eq {t n : Nat} (ht : t < 2 ^ n) : (t + 2 ^ n) / 2 ^ n % 2 = 1 := by
  have : (t + 2 ^ n) / 2 ^ n = t / 2 ^ n + 1 := Nat.add_div_right _ (Nat.two_pow_pos n)
  rw [this, Nat.div_eq_of_lt ht]
theorem bcn_add {t n : Nat} (ht : t < 2 ^ n) : ∀ m, bcn m (t + 2 ^ n) = bcn m t + if n < m then 1 else 0 := by
  intro m
  induction m with
  | zero => rfl
  | succ m ih =>
    show bcn m (t + 2 ^ n) + (t + 2 ^ n) / 2 ^ m % 2 = bcn m t + t / 2 ^ m % 2 + _
    rw [ih]
    by_cases hm : m = n
    · subst hm
      rw [tb_eq ht, Nat.div_eq_of_lt ht, if_neg (by omega), if_pos (by omega)]
    · rw [tb_ne ht hm]
      by_cases h : n < m
      · rw [if_pos h, if_pos (by omega)]; omega
      · rw [if_neg h, if_neg (by omega)]; omega
theorem ts_add {I : am_I} {n t : Nat} (ht : t < 2 ^ n) : tSat I (n + 1) (t + 2 ^ n) ↔ tSat I n t := by
  constructor
  · rintro ⟨x, h1, h2⟩
    exact ⟨x, h1, fun k hk hb => h2 k (by omega) (by rw [tb_ne ht (by omega)]; exact hb)⟩
  · rintro ⟨x, h1, h2⟩
    refine ⟨x, h1, fun k hk hb => ?_⟩
    by_cases hkn : k = n
    · subst hkn
      rw [tb_eq ht] at hb
      omega
    · rw [tb_ne ht hkn] at hb
      exact h2 k (by omega) hb
theorem ts_sub {I : am_I} {n s : Nat} (h : tSat I (n + 1) s) : tSat I n s := by
  obtain ⟨x, h1, h2⟩ := h
  exact ⟨x, h1, fun k hk hb => h2 k (by omega) hb⟩
def tAl (n : Nat) (I I' : am_I) : Prop := ∀ r, 30 ≤ r → r ≤ 34 → ∀ k, k < n → I' r k = I r k
theorem tAl.sy {n : Nat} {I I' : am_I} (h : tAl n I I') : tAl n I' I := fun r h1 h2 k hk => (h r h1 h2 k hk).symm
theorem ts_cg1 {I I' : am_I} {n s : Nat} {x : Nat → Int} (h : tAl n I I') (hx : tSol I n s x) : tSol I' n s x := by
  refine ⟨hx.1, fun k hk hb => ?_⟩
  have := hx.2 k hk hb
  unfold tHold at this ⊢
  rw [h 30 (by omega) (by omega) k hk, h 31 (by omega) (by omega) k hk, h 32 (by omega) (by omega) k hk, h 33 (by omega) (by omega) k hk, h 34 (by omega) (by omega) k hk]
  exact this
theorem ts_cg {I I' : am_I} {n s : Nat} {x : Nat → Int} (h : tAl n I I') : tSol I' n s x ↔ tSol I n s x := ⟨ts_cg1 h.sy, ts_cg1 h⟩
theorem tS_cg {I I' : am_I} {n s : Nat} (h : tAl n I I') : tSat I' n s ↔ tSat I n s := ⟨fun ⟨x, hx⟩ => ⟨x, (ts_cg h).mp hx⟩, fun ⟨x, hx⟩ => ⟨x, (ts_cg h).mpr hx⟩⟩
theorem tL_cg {I I' : am_I} {n s : Nat} (h : tAl n I I') : tLo I' n s ↔ tLo I n s := by
  unfold tLo
  simp only [tS_cg h]
theorem tL_un {I : am_I} {n s s' : Nat} (h : tLo I n s) (h' : tLo I n s') : s = s' := by
  have a := h.2.2 s' h'.1 h'.2.1
  have b := h'.2.2 s h.1 h.2.1
  omega
theorem tb_full : ∀ n, n < 13 → ∀ k, k < n → (2 ^ n - 1) / 2 ^ k % 2 = 1 := by decide
theorem ts_full {I : am_I} {n : Nat} (hn : n ≤ 12) : tSat I n (2 ^ n - 1) := by
  refine ⟨fun _ => 0, fun e _ => ⟨Int.le_refl _, (by decide : (0 : Int) ≤ 9999)⟩, fun k hk hb => ?_⟩
  rw [tb_full n (by omega) k hk] at hb
  omega
theorem tW_fr {I I' : am_I} {k : Nat} (h : ∀ r, (30 ≤ r ∧ r ≤ 34) ∨ r = 88 ∨ r = 89 → I' r = I r) (hw : tW I k) : tW I' k := by
  unfold tW at hw ⊢
  rw [h 30 (by omega), h 31 (by omega), h 32 (by omega), h 33 (by omega), h 34 (by omega), h 88 (by omega), h 89 (by omega)]
  exact hw
theorem tU_fr {I I' : am_I} {k : Nat} (h : ∀ r, (30 ≤ r ∧ r ≤ 34) → I' r = I r) (hw : tU I k) : tU I' k := by
  unfold tU at hw ⊢
  rw [h 30 (by omega), h 31 (by omega), h 32 (by omega), h 33 (by omega), h 34 (by omega)]
  exact hw
theorem Fr.al {I I' : am_I} {n : Nat} (h : Fr 36 I I') : tAl n I I' := fun r h1 h2 k _ => by rw [h r (by omega)]
theorem Fa.al {I I' : am_I} {n : Nat} (h : Fa I I') : tAl n I I' := fun r h1 h2 k _ => by rw [h.r (by omega) (by omega) (by omega)]
theorem sh_1 : ∀ n, n < 13 → (1 : Int32) <<< (nI n &&& 31) = nI (2 ^ n) := by decide +kernel
theorem lo_end {I0 : am_I} {n b : Nat} (hn : n < 12) (hb : tLo I0 n b) (hno : ∀ s', s' ≤ b → bcn 12 s' = bcn 12 b → ¬ tSat I0 (n + 1) s') : tLo I0 (n + 1) (b + 2 ^ n) := by
  have h2 : 2 ^ (n + 1) = 2 * 2 ^ n := Nat.pow_succ'
  have hlt := hb.1
  refine ⟨by omega, (ts_add hlt).mpr hb.2.1, fun s' h1 h3 => ?_⟩
  rw [bcn_add hlt, if_pos hn]
  by_cases hs : s' < 2 ^ n
  · have a := hb.2.2 s' hs (ts_sub h3)
    have c : ¬ (bcn 12 b = bcn 12 s' ∧ s' ≤ b) := fun h => hno s' h.2 h.1.symm h3
    omega
  · obtain ⟨t, rfl⟩ : ∃ t, s' = t + 2 ^ n := ⟨s' - 2 ^ n, by omega⟩
    have ht : t < 2 ^ n := by omega
    have a := hb.2.2 t ht ((ts_add ht).mp h3)
    rw [bcn_add ht, if_pos hn]
    omega
theorem lo_mid {I0 : am_I} {n b o : Nat} (hn : n < 12) (hb : tLo I0 n b) (ho : o ≤ b) (hc : bcn 12 o = bcn 12 b) (hs : tSat I0 (n + 1) o) (hno : ∀ s', o < s' → s' ≤ b → bcn 12 s' = bcn 12 b → ¬ tSat I0 (n + 1) s') : tLo I0 (n + 1) o := by
  have h2 : 2 ^ (n + 1) = 2 * 2 ^ n := Nat.pow_succ'
  have hlt := hb.1
  refine ⟨by omega, hs, fun s' h1 h3 => ?_⟩
  by_cases hs' : s' < 2 ^ n
  · have a := hb.2.2 s' hs' (ts_sub h3)
    by_cases hle : s' ≤ o
    · omega
    · have c : ¬ (bcn 12 b = bcn 12 s' ∧ s' ≤ b) := fun h => hno s' (by omega) h.2 h.1.symm h3
      omega
  · obtain ⟨t, rfl⟩ : ∃ t, s' = t + 2 ^ n := ⟨s' - 2 ^ n, by omega⟩
    have ht : t < 2 ^ n := by omega
    have a := hb.2.2 t ht ((ts_add ht).mp h3)
    rw [bcn_add ht, if_pos hn]
    omega
theorem fl_lo {I0 : am_I} {n b f : Nat} (hn : n < 12) (hw : ∀ k, k < n + 1 → tU I0 k) (h7 : I0 29 7 = nI (n + 1)) (hb : tLo I0 n b) (hf : 200 ≤ f) : ∀ k, k ≤ b + 1 → ∀ (I : am_I) (g : Nat), Fr 36 I0 I → k < g → (∀ s', k ≤ s' → s' ≤ b → bcn 12 s' = bcn 12 b → ¬ tSat I0 (n + 1) s') → ∃ (s : Nat) (I' : am_I), s_X5_findLeftOut_L19 f g (nI b) (nI (bcn 12 b)) (nI k + (-1)) I = (nI s, I') ∧ p_X5_findLeftOut_L19 f g (nI b) (nI (bcn 12 b)) (nI k + (-1)) I ∧ Fr 36 I0 I' ∧ tLo I0 (n + 1) s := by
  have hlt := hb.1
  have h11 : 2 ^ n ≤ 2 ^ 11 := Nat.pow_le_pow_right (by decide) (by omega)
  intro k
  induction k with
  | zero =>
    intro _ I g hF hg hno
    obtain ⟨g, rfl⟩ : ∃ k, g = k + 1 := ⟨g - 1, by omega⟩
    have hneg : nI 0 + (-1) < (0 : Int32) := by decide
    rw [u_s_X5_findLeftOut_L19, u_p_X5_findLeftOut_L19, if_pos hneg, if_pos hneg, hF 29 (by decide), h7, nI_pred, sh_1 n (by omega), fa_or]
    have e : b ||| 2 ^ n = b + 2 ^ n := by
      have := Nat.two_pow_add_eq_or_of_lt hlt 1
      rw [Nat.mul_one] at this
      rw [Nat.or_comm, ← this, Nat.add_comm]
    rw [e]
    exact ⟨b + 2 ^ n, I, rfl, trivial, hF, lo_end hn hb (fun s' => hno s' (Nat.zero_le _))⟩
  | succ k ih =>
    intro hk I g hF hg hno
    obtain ⟨g, rfl⟩ : ∃ k, g = k + 1 := ⟨g - 1, by omega⟩
    have hneg : ¬ nI k < (0 : Int32) := nI_pos (by omega)
    have b1 := bcn_le 12 k
    have b2 := bcn_le 12 b
    rw [pk_m1, u_s_X5_findLeftOut_L19, u_p_X5_findLeftOut_L19, if_neg hneg, if_neg hneg, bc_c (by omega), hF 29 (by decide), h7]
    by_cases hc : bcn 12 k = bcn 12 b
    · have hc' : nI (bcn 12 k) = nI (bcn 12 b) := by rw [hc]
      rw [if_pos hc', if_pos hc']
      have hwI : ∀ k, k < n + 1 → tU I k := fun k hk => tU_fr (fun r hr => hF r (by omega)) (hw k hk)
      obtain ⟨r, I1, s1, s2, s3, s4, s5, -⟩ := st_sp (I := I) (n := n + 1) (s := k) (mm := 0) (by omega) (by omega) hwI (Or.inl rfl) hf
      rw [tS_cg hF.al] at s5
      rw [s1]
      rcases s4 with rfl | rfl
      · have hns : ¬ tSat I0 (n + 1) k := fun h => absurd (s5.mpr h) (by decide)
        obtain ⟨s, I', q1, q2, q3, q4⟩ := ih (by omega) I1 g (hF.tr s3) (by omega) (fun s' h1 h2 h3 => by
          by_cases hs' : s' = k
          · subst hs'; exact hns
          · exact hno s' (by omega) h2 h3)
        exact ⟨s, I', q1, ⟨s2, q2⟩, q3, q4⟩
      · refine ⟨k, I1, rfl, ⟨s2, trivial⟩, hF.tr s3, lo_mid hn hb (by omega) hc (s5.mp rfl) (fun s' h1 h2 h3 => hno s' (by omega) h2 h3)⟩
    · have hc' : ¬ nI (bcn 12 k) = nI (bcn 12 b) := fun h => hc ((nI_eq (by omega) (by omega)).mp h)
      rw [if_neg hc', if_neg hc']
      exact ih (by omega) I g hF (by omega) (fun s' h1 h2 h3 => by
        by_cases hs' : s' = k
        · subst hs'; exact absurd h3 hc
        · exact hno s' (by omega) h2 h3)
theorem fl_all {I : am_I} {n b f : Nat} (hn : n < 12) (hw : ∀ k, k < n + 1 → tU I k) (h7 : I 29 7 = nI (n + 1)) (hb : tLo I n b) (h35 : I 35 n = nI b) (hf : 5000 ≤ f) : ∃ (s : Nat) (I' : am_I), s_X5_findLeftOut f I = (nI s, I') ∧ p_X5_findLeftOut f I ∧ Fr 36 I I' ∧ tLo I (n + 1) s := by
  have hlt := hb.1
  have h11 : 2 ^ n ≤ 2 ^ 11 := Nat.pow_le_pow_right (by decide) (by omega)
  unfold s_X5_findLeftOut p_X5_findLeftOut
  rw [h7, nI_pred, nI_clamp (by omega), h35, bc_c (by omega)]
  obtain ⟨s, I', q1, q2, q3, q4⟩ := fl_lo (f := f) hn hw h7 hb (by omega) (b + 1) (Nat.le_refl _) I f Fr.rf (by omega) (fun s' h1 h2 => by omega)
  rw [pk_m1] at q1 q2
  exact ⟨s, I', q1, ⟨vp_in_nI (by omega) (by omega), q2⟩, q3, q4⟩
/-- the reference's search -/
theorem lo_lp {I0 : am_I} {n f : Nat} (hn : n ≤ 12) (hw : ∀ k, k < n → tW I0 k) (e86 : I0 86 = I0 30) (e87 : I0 87 = I0 31) (hf : 200 ≤ f) : ∀ k, k ≤ 2 ^ n → ∀ (I : am_I) (g : Nat) (v : Int32), Fa I0 I → k < g → ((v = -1 ∧ ∀ s', k ≤ s' → s' < 2 ^ n → ¬ tSat I0 n s') ∨ ∃ b, v = nI b ∧ k ≤ b ∧ b < 2 ^ n ∧ tSat I0 n b ∧ ∀ s', k ≤ s' → s' < 2 ^ n → tSat I0 n s' → bcn 12 b < bcn 12 s' ∨ (bcn 12 b = bcn 12 s' ∧ s' ≤ b)) → ∃ (s : Nat) (I' : am_I), s_X10_leftOf_L8 (nI n) f g v (nI k + (-1)) I = (nI s, I') ∧ p_X10_leftOf_L8 (nI n) f g v (nI k + (-1)) I ∧ Fa I0 I' ∧ tLo I0 n s := by
  have h12 : 2 ^ n ≤ 2 ^ 12 := Nat.pow_le_pow_right (by decide) hn
  have h1n : 1 ≤ 2 ^ n := Nat.one_le_two_pow
  intro k
  induction k with
  | zero =>
    intro _ I g v hF hg hv
    obtain ⟨g, rfl⟩ : ∃ k, g = k + 1 := ⟨g - 1, by omega⟩
    have hneg : nI 0 + (-1) < (0 : Int32) := by decide
    rw [u_s_X10_leftOf_L8, u_p_X10_leftOf_L8, if_pos hneg, if_pos hneg]
    rcases hv with ⟨-, hno⟩ | ⟨b, rfl, b1, b2, b3, b4⟩
    · exact absurd (ts_full hn) (hno _ (Nat.zero_le _) (by omega))
    · exact ⟨b, I, rfl, trivial, hF, b2, b3, fun s' => b4 s' (Nat.zero_le _)⟩
  | succ k ih =>
    intro hk I g v hF hg hv
    obtain ⟨g, rfl⟩ : ∃ k, g = k + 1 := ⟨g - 1, by omega⟩
    have hneg : ¬ nI k < (0 : Int32) := nI_pos (by omega)
    rw [pk_m1, u_s_X10_leftOf_L8, u_p_X10_leftOf_L8, if_neg hneg, if_neg hneg]
    have hwI : ∀ k, k < n → tW I k := fun k hk => tW_fr (fun r hr => hF.r (by omega) (by omega) (by omega)) (hw k hk)
    have e86' : I 86 = I 30 := by rw [hF.r (k := 86) (by decide) (by decide) (by decide), hF.r (k := 30) (by decide) (by decide) (by decide), e86]
    have e87' : I 87 = I 31 := by rw [hF.r (k := 87) (by decide) (by decide) (by decide), hF.r (k := 31) (by decide) (by decide) (by decide), e87]
    obtain ⟨r, I1, s1, s2, s3, s4, s5, -⟩ := ag_all (I := I) (n := n) (s := k) hn (by omega) hwI e86' e87' hf
    rw [tS_cg hF.al] at s5
    rw [s1]
    simp only
    rcases hv with ⟨rfl, hno⟩ | ⟨b, rfl, b1, b2, b3, b4⟩
    · simp only [if_true]
      rcases s4 with rfl | rfl
      · have hns : ¬ tSat I0 n k := fun h => absurd (s5.mpr h) (by decide)
        simp only [if_true]
        obtain ⟨s, I', q1, q2, q3, q4⟩ := ih (by omega) I1 g (-1) (hF.tr s3) (by omega) (Or.inl ⟨rfl, fun s' h1 h2 => by
          by_cases hs' : s' = k
          · subst hs'; exact hns
          · exact hno s' (by omega) h2⟩)
        exact ⟨s, I', q1, ⟨s2, q2⟩, q3, q4⟩
      · simp only [if_neg (show ¬ (1 : Int32) = 0 by decide)]
        obtain ⟨s, I', q1, q2, q3, q4⟩ := ih (by omega) I1 g (nI k) (hF.tr s3) (by omega) (Or.inr ⟨k, rfl, Nat.le_refl _, by omega, s5.mp rfl, fun s' h1 h2 h3 => by
          by_cases hs' : s' = k
          · subst hs'; exact Or.inr ⟨rfl, Nat.le_refl _⟩
          · exact absurd h3 (hno s' (by omega) h2)⟩)
        exact ⟨s, I', q1, ⟨s2, q2⟩, q3, q4⟩
    · have hne : ¬ nI b = -1 := fun h => by
        have : ¬ nI b < 0 := nI_pos (by omega)
        rw [h] at this
        exact this (by decide)
      have c1 := bt_c (s := k) (f := f) (by omega) (by omega)
      have c2 := bt_c (s := b) (f := f) (by omega) (by omega)
      have l1 := bcn_le 12 k
      have l2 := bcn_le 12 b
      rw [if_neg hne, if_neg hne, c1.1, c2.1]
      by_cases hle : bcn 12 b ≤ bcn 12 k
      · have hle' : nI (bcn 12 b) ≤ nI (bcn 12 k) := nI_le hle (by omega)
        rw [if_pos hle', if_pos hle']
        obtain ⟨s, I', q1, q2, q3, q4⟩ := ih (by omega) I g (nI b) hF (by omega) (Or.inr ⟨b, rfl, by omega, b2, b3, fun s' h1 h2 h3 => by
          by_cases hs' : s' = k
          · subst hs'; omega
          · exact b4 s' (by omega) h2 h3⟩)
        exact ⟨s, I', q1, ⟨c1.2, c2.2, q2⟩, q3, q4⟩
      · have hle' : ¬ nI (bcn 12 b) ≤ nI (bcn 12 k) := nI_ge (by omega) (by omega)
        rw [if_neg hle', if_neg hle']
        rcases s4 with rfl | rfl
        · have hns : ¬ tSat I0 n k := fun h => absurd (s5.mpr h) (by decide)
          simp only [if_true]
          obtain ⟨s, I', q1, q2, q3, q4⟩ := ih (by omega) I1 g (nI b) (hF.tr s3) (by omega) (Or.inr ⟨b, rfl, by omega, b2, b3, fun s' h1 h2 h3 => by
            by_cases hs' : s' = k
            · subst hs'; exact absurd h3 hns
            · exact b4 s' (by omega) h2 h3⟩)
          exact ⟨s, I', q1, ⟨c1.2, c2.2, s2, q2⟩, q3, q4⟩
        · simp only [if_neg (show ¬ (1 : Int32) = 0 by decide)]
          obtain ⟨s, I', q1, q2, q3, q4⟩ := ih (by omega) I1 g (nI k) (hF.tr s3) (by omega) (Or.inr ⟨k, rfl, Nat.le_refl _, by omega, s5.mp rfl, fun s' h1 h2 h3 => by
            by_cases hs' : s' = k
            · subst hs'; exact Or.inr ⟨rfl, Nat.le_refl _⟩
            · have := b4 s' (by omega) h2 h3
              omega⟩)
          exact ⟨s, I', q1, ⟨c1.2, c2.2, s2, q2⟩, q3, q4⟩
theorem lo_s : ∀ n, n < 13 → ((1 : Int32) <<< (nI n &&& 31)) - 1 = nI (2 ^ n) + (-1) := by decide +kernel
theorem lo_all {I : am_I} {n s f : Nat} (hn : n ≤ 12) (hw : ∀ k, k < n → tW I k) (e86 : I 86 = I 30) (e87 : I 87 = I 31) (hs : tLo I n s) (hf : 5000 ≤ f) : ∃ (I' : am_I), s_X10_leftOf f I (nI n) = (nI s, I') ∧ p_X10_leftOf f I (nI n) ∧ Fa I I' := by
  have h12 : 2 ^ n ≤ 2 ^ 12 := Nat.pow_le_pow_right (by decide) hn
  unfold s_X10_leftOf p_X10_leftOf
  rw [lo_s n (by omega)]
  obtain ⟨s', I', q1, q2, q3, q4⟩ := lo_lp (f := f) hn hw e86 e87 (by omega) (2 ^ n) (Nat.le_refl _) I f (-1) Fa.rf (by omega) (Or.inl ⟨rfl, fun s' h1 h2 => by omega⟩)
  rw [tL_un hs q4]
  exact ⟨I', q1, q2, q3⟩
/-! ===== the steps that look at the tellings ===== -/
theorem Fa.ag {I I' : am_I} (h : Fa I I') : Ag I I' := by
  intro k a s
  refine h k a ?_ ?_ ?_
  · intro c; subst c; cases s
  · intro c; subst c; cases s
  · rintro ⟨rfl, rfl⟩; cases s
theorem Fr.ag {I I' : am_I} (h : Fr 36 I I') : Ag I I' := by
  intro k a s
  rw [h k (fun c => by subst c; cases s)]
theorem sp_left (a : Int32) : LStp VV MX9_left MX10_left 1 3 0 0 [.int a] := by
  obtain ⟨f, hf⟩ : ∃ f : Nat, 5000 ≤ f := ⟨5000, Nat.le_refl _⟩
  exact st_x (pc := fun I => p_X9_left I a) (pm := fun I => p_X10_left f I a) (fun I => (s_X9_left I a, I)) (fun I => s_X10_left f I a) (fun I J Q hG h => ct_X9_left f I J Q hG a h) (fun I J Q hG h => ct_X10_left f I J Q hG a h) (fun nc I J Q E hV => by
    obtain ⟨n, hn, en⟩ := v_nI (m := 12) hV.2.2.1.2.2.2.2.2.2.2
    have e2 := hV.2.1.2.2.2.2.2.2.2.2.2.2.2.2.2.2
    have hT := hV.2.2.2.2.1
    by_cases h1 : a < 0
    · exact ⟨-1, I, I, by unfold p_X9_left p_X5_leftOut; rw [if_pos h1]; trivial, by unfold s_X9_left s_X5_leftOut; rw [if_pos h1], by unfold p_X10_left; rw [if_pos h1]; trivial, by unfold s_X10_left; rw [if_pos h1], fun _ _ _ => rfl, hV⟩
    · by_cases h2 : nI n < a
      · exact ⟨-1, I, I, by unfold p_X9_left p_X5_leftOut; rw [if_neg h1, en, if_pos h2]; trivial, by unfold s_X9_left s_X5_leftOut; rw [if_neg h1, en, if_pos h2], by unfold p_X10_left; rw [if_neg h1, e2, en, if_pos h2]; trivial, by unfold s_X10_left; rw [if_neg h1, e2, en, if_pos h2], fun _ _ _ => rfl, hV⟩
      · obtain ⟨m, hm, rfl⟩ := nI_of h1
        have hmn : m ≤ n := by
          rw [nI_ltI (by omega) hm] at h2
          omega
        have hT2 := hT.2.2
        rw [en, nI_toInt (by omega)] at hT2
        obtain ⟨s, t1, t2⟩ := hT2.2 m (by omega)
        obtain ⟨I', q1, q2, q3⟩ := lo_all (f := f) (show m ≤ 12 by omega) (fun k hk => hT2.1 k (by omega)) hT.1 hT.2.1 t1 hf
        refine ⟨nI s, I, I', ?_, ?_, ?_, ?_, fun k k1 k2 => q3.r (by omega) (by omega) (by omega), hV.ag q3.ag⟩
        · unfold p_X9_left p_X5_leftOut
          rw [if_neg h1, en, if_neg h2]
          exact vp_in_nI (by omega) (by omega)
        · unfold s_X9_left s_X5_leftOut
          rw [if_neg h1, en, if_neg h2, nI_clamp (by omega), t2]
        · unfold p_X10_left
          rw [if_neg h1, e2, en, if_neg h2]
          exact q2
        · unfold s_X10_left
          rw [if_neg h1, e2, en, if_neg h2, q1])
theorem ev_of {a : Int32} (h : ¬ s_X9_isEvent a = 0) : ∃ e, e < 10 ∧ a = nI e := by
  unfold s_X9_isEvent at h
  by_cases h1 : a < 0
  · rw [if_pos h1] at h; exact absurd rfl h
  · by_cases h2 : (10 : Int32) ≤ a
    · rw [if_neg h1, if_pos h2] at h; exact absurd rfl h
    · obtain ⟨j, hj, rfl⟩ := nI_of h1
      refine ⟨j, ?_, rfl⟩
      have : ¬ nI 10 ≤ nI j := h2
      rw [nI_leI (by omega) hj] at this
      omega
theorem eq_of_toInt {a b : Int32} (h : a.toInt = b.toInt) : a = b := ia_eq.mpr h
theorem sp_when (a b c : Int32) : LStp VV MX9_when MX10_when 5 3 0 0 [.int a, .int b, .int c] := by
  obtain ⟨f, hf⟩ : ∃ f : Nat, 5000 ≤ f := ⟨5000, Nat.le_refl _⟩
  exact st_x (pc := fun I => p_X9_when f I a b c) (pm := fun I => p_X10_when f I a b c) (fun I => s_X9_when f I a b c) (fun I => s_X10_when f I a b c) (fun I J Q hG h => ct_X9_when f I J Q hG a b c h) (fun I J Q hG h => ct_X10_when f I J Q hG a b c h) (fun nc I J Q E hV => by
    obtain ⟨n, hn, en⟩ := v_nI (m := 12) hV.2.2.1.2.2.2.2.2.2.2
    have e2 := hV.2.1.2.2.2.2.2.2.2.2.2.2.2.2.2.2
    have hT := hV.2.2.2.2.1
    have e0 : s_X10_isEvent a = s_X9_isEvent a := rfl
    have no : ∀ {P : Prop}, (p_X9_when f I a b c ∧ s_X9_when f I a b c = (-1, I) ∧ p_X10_when f I a b c ∧ s_X10_when f I a b c = (-1, I)) → ∃ (x : Int32) (I1 I2 : am_I), p_X9_when f I a b c ∧ s_X9_when f I a b c = (x, I1) ∧ p_X10_when f I1 a b c ∧ s_X10_when f I1 a b c = (x, I2) ∧ (∀ k, 38 ≤ k → k < 46 → I2 k = I k) ∧ VV nc I2 J Q E := fun h => ⟨-1, I, I, h.1, h.2.1, h.2.2.1, h.2.2.2, fun _ _ _ => rfl, hV⟩
    by_cases h0 : s_X9_isEvent a = 0
    · refine no (P := True) ?_
      unfold p_X9_when s_X9_when p_X10_when s_X10_when
      rw [e0]
      simp only [if_pos h0]
      exact ⟨trivial, trivial, trivial, trivial⟩
    · obtain ⟨e, he, rfl⟩ := ev_of h0
      by_cases h1 : b < 0
      · refine no (P := True) ?_
        unfold p_X9_when s_X9_when p_X10_when s_X10_when p_X5_dayOf s_X5_dayOf
        rw [e0]
        simp only [if_neg h0, if_pos h1]
        repeat' split
        all_goals exact ⟨trivial, by first | rfl | trivial, trivial, by first | rfl | trivial⟩
      · by_cases h2 : nI n < b
        · refine no (P := True) ?_
          unfold p_X9_when s_X9_when p_X10_when s_X10_when p_X5_dayOf s_X5_dayOf
          rw [e0, e2, en]
          simp only [if_neg h0, if_neg h1, if_pos h2]
          repeat' split
          all_goals exact ⟨trivial, by first | rfl | trivial, trivial, by first | rfl | trivial⟩
        · by_cases h3 : c < 0
          · refine no (P := True) ?_
            unfold p_X9_when s_X9_when p_X10_when s_X10_when
            rw [e0, e2, en]
            simp only [if_neg h0, if_neg h1, if_neg h2, if_pos h3]
            exact ⟨trivial, trivial, trivial, trivial⟩
          · by_cases h4 : c ≤ 1
            · obtain ⟨m, hm, rfl⟩ := nI_of h1
              have hmn : m ≤ n := by
                rw [nI_ltI (by omega) hm] at h2
                omega
              have hT2 := hT.2.2
              rw [en, nI_toInt (by omega)] at hT2
              obtain ⟨s, t1, t2⟩ := hT2.2 m (by omega)
              have h12 : 2 ^ m ≤ 2 ^ 12 := Nat.pow_le_pow_right (by decide) (by omega)
              have s31 : s < 2 ^ 31 := by have := t1.1; omega
              have hw : ∀ k, k < m → tW I k := fun k hk => hT2.1 k (by omega)
              have hve : vp_in (nI e) 10 := vp_in_nI he (by omega)
              have main : ∀ mm : Int32, (mm = 0 ∨ mm = 1) → c = mm → ∃ (x : Int32) (I1 I2 : am_I), p_X9_when f I (nI e) (nI m) c ∧ s_X9_when f I (nI e) (nI m) c = (x, I1) ∧ p_X10_when f I1 (nI e) (nI m) c ∧ s_X10_when f I1 (nI e) (nI m) c = (x, I2) ∧ (∀ k, 38 ≤ k → k < 46 → I2 k = I k) ∧ VV nc I2 J Q E := by
                intro mm hmm hcm
                subst hcm
                obtain ⟨r, I1, q1, q2, q3, q4, q5, q6⟩ := st_sp (I := I) (n := m) (s := s) (mm := c) (f := f) (by omega) s31 (tU_of hw) hmm (by omega)
                obtain ⟨z, z1, z2, z3⟩ := q6 t1.2.1
                have hw1 : ∀ k, k < m → tW I1 k := fun k hk => tW_fr (fun r hr => q3 r (by omega)) (hw k hk)
                have e86 : I1 86 = I1 30 := by rw [q3 86 (by decide), q3 30 (by decide)]; exact hT.1
                have e87 : I1 87 = I1 31 := by rw [q3 87 (by decide), q3 31 (by decide)]; exact hT.2.1
                obtain ⟨I2, u1, u2, u3⟩ := lo_all (I := I1) (f := f) (show m ≤ 12 by omega) hw1 e86 e87 ((tL_cg q3.al).mpr t1) hf
                have hw2 : ∀ k, k < m → tW I2 k := fun k hk => tW_fr (fun r hr => u3.r (by omega) (by omega) (by omega)) (hw1 k hk)
                have e86' : I2 86 = I2 30 := by rw [u3.r (k := 86) (by decide) (by decide) (by decide), u3.r (k := 30) (by decide) (by decide) (by decide), e86]
                have e87' : I2 87 = I2 31 := by rw [u3.r (k := 87) (by decide) (by decide) (by decide), u3.r (k := 31) (by decide) (by decide) (by decide), e87]
                obtain ⟨r', I3, w1, w2, w3, w4, w5, w6⟩ := ag_all (I := I2) (n := m) (s := s) (f := f) (by omega) s31 hw2 e86' e87' (by omega)
                have hal : tAl m I I2 := fun r h1 h2 k hk => (u3.al (n := m) r h1 h2 k hk).trans (q3.al (n := m) r h1 h2 k hk)
                have hsat2 : tSat I2 m s := (tS_cg hal).mpr t1.2.1
                obtain ⟨zl, zh, y1, y2, y3, y4⟩ := w6 hsat2
                have hr1 : r' = 1 := w5.mpr hsat2
                have hAg : Ag I I3 := (q3.ag.tr u3.ag).tr w3.ag
                have hno : ∀ k, 38 ≤ k → k < 46 → I3 k = I k := fun k k1 k2 => by
                  rw [w3.r (by omega) (by omega) (by omega), u3.r (by omega) (by omega) (by omega), q3 k (by omega)]
                have h5 : s_X10_when f I1 (nI e) (nI m) c = (if c = 0 then I3 90 e else I3 91 e, I3) := by
                  unfold s_X10_when
                  rw [e0, q3 46 (by decide), e2, en]
                  simp only [if_neg h0, if_neg h1, if_neg h2, if_neg h3, if_pos h4]
                  rw [u1]
                  simp only
                  rw [w1, hr1, nI_clamp (by omega)]
                  simp only [if_neg (show ¬ (1 : Int32) = 0 by decide)]
                  split <;> rfl
                have h6 : p_X10_when f I1 (nI e) (nI m) c := by
                  unfold p_X10_when
                  rw [e0, q3 46 (by decide), e2, en]
                  simp only [if_neg h0, if_neg h1, if_neg h2, if_neg h3, if_pos h4]
                  rw [u1]
                  simp only
                  refine ⟨u2, w2, ?_⟩
                  split
                  · trivial
                  · split <;> exact hve
                have key : ∀ {v w : Int}, (∃ x, tSol I m s x ∧ x e = v) → (∀ x, tSol I m s x → v ≤ x e) → (∃ x, tSol I m s x ∧ x e = w) → (∀ x, tSol I m s x → w ≤ x e) → v = w := by
                  rintro v w ⟨x, x1, x2⟩ hv ⟨y, y1, y2⟩ hw'
                  have := hv y y1
                  have := hw' x x1
                  omega
                have key' : ∀ {v w : Int}, (∃ x, tSol I m s x ∧ x e = v) → (∀ x, tSol I m s x → x e ≤ v) → (∃ x, tSol I m s x ∧ x e = w) → (∀ x, tSol I m s x → x e ≤ w) → v = w := by
                  rintro v w ⟨x, x1, x2⟩ hv ⟨y, y1, y2⟩ hw'
                  have := hv y y1
                  have := hw' x x1
                  omega
                have hzb := z2.1 e he
                rw [cl_lt he] at hzb
                rcases hmm with hc0 | hc1
                · have hc1 : ¬ c = 1 := by rw [hc0]; decide
                  have hd : decide (c = 1) = false := decide_eq_false hc1
                  rw [hd] at z2 z3 hzb
                  refine ⟨I1 36 e, I1, I3, ?_, ?_, h6, ?_, hno, hV.ag hAg⟩
                  · unfold p_X9_when p_X5_dayOf
                    simp only [if_neg h0, if_neg h3, if_pos h4, if_neg hc1]
                    rw [en]
                    simp only [if_neg h1, if_neg h2, if_true]
                    rw [nI_clamp (by omega), t2, ← hc0]
                    exact ⟨vp_in_nI (by omega) (by omega), q2, hve⟩
                  · unfold s_X9_when s_X5_dayOf
                    simp only [if_neg h0, if_neg h3, if_pos h4, if_neg hc1]
                    rw [en]
                    simp only [if_neg h1, if_neg h2, if_true]
                    rw [nI_clamp (by omega), nI_clamp (by omega), t2, ← hc0, q1]
                  · rw [h5, if_pos hc0]
                    refine Prod.ext ?_ rfl
                    show I3 90 e = I1 36 e
                    apply eq_of_toInt
                    rw [(y1 e he).1, z1 e he]
                    refine key ⟨_, (ts_cg hal).mp y2, ?_⟩ (fun x hx => ?_) ⟨_, z2, ?_⟩ (fun x hx => ?_)
                    · rw [cl_lt he]; rfl
                    · have := (y4 x ((ts_cg hal).mpr hx) e he).1
                      rw [cl_lt he] at this
                      exact this
                    · rw [cl_lt he]; rfl
                    · have := z3 x hx e he
                      rw [cl_lt he] at this
                      exact this
                · have hc0 : ¬ c = 0 := by rw [hc1]; decide
                  have hd : decide (c = 1) = true := decide_eq_true hc1
                  rw [hd] at z2 z3 hzb
                  simp only [if_true] at hzb
                  refine ⟨9999 - I1 36 e, I1, I3, ?_, ?_, h6, ?_, hno, hV.ag hAg⟩
                  · unfold p_X9_when p_X5_dayOf
                    simp only [if_neg h0, if_neg h3, if_pos h4, if_pos hc1]
                    rw [en]
                    simp only [if_neg h1, if_neg h2, if_neg (show ¬ (1 : Int32) = 0 by decide)]
                    rw [nI_clamp (by omega), t2, ← hc1]
                    exact ⟨vp_in_nI (by omega) (by omega), q2, hve⟩
                  · unfold s_X9_when s_X5_dayOf
                    simp only [if_neg h0, if_neg h3, if_pos h4, if_pos hc1]
                    rw [en]
                    simp only [if_neg h1, if_neg h2, if_neg (show ¬ (1 : Int32) = 0 by decide)]
                    rw [nI_clamp (by omega), nI_clamp (by omega), t2, ← hc1, q1]
                  · rw [h5, if_neg hc0]
                    refine Prod.ext ?_ rfl
                    show I3 91 e = 9999 - I1 36 e
                    apply eq_of_toInt
                    have n9 : (9999 : Int32).toInt = 9999 := rfl
                    have hz := z1 e he
                    rw [(y1 e he).2, ia_sub (by omega) (by omega), n9, hz]
                    refine key' ⟨_, (ts_cg hal).mp y3, ?_⟩ (fun x hx => ?_) ⟨_, z2, ?_⟩ (fun x hx => ?_)
                    · rw [cl_lt he]; rfl
                    · have := (y4 x ((ts_cg hal).mpr hx) e he).2
                      rw [cl_lt he] at this
                      simp only [if_true] at this
                      omega
                    · rw [cl_lt he]; rfl
                    · have := z3 x hx e he
                      rw [cl_lt he] at this
                      simp only [if_true] at this
                      omega
              by_cases hc0 : c = 0
              · exact main 0 (Or.inl rfl) hc0
              · refine main 1 (Or.inr rfl) ?_
                rw [Int32.lt_iff_toInt_lt] at h3
                rw [Int32.le_iff_toInt_le] at h4
                rw [ia_eq] at hc0 ⊢
                have z0 : (0 : Int32).toInt = 0 := rfl
                have z1 : (1 : Int32).toInt = 1 := rfl
                omega
            · refine no (P := True) ?_
              unfold p_X9_when s_X9_when p_X10_when s_X10_when
              rw [e0, e2, en]
              simp only [if_neg h0, if_neg h1, if_neg h2, if_neg h3, if_neg h4]
              exact ⟨trivial, trivial, trivial, trivial⟩)
