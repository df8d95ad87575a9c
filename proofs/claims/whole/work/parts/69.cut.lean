section
/-! ===== the reference cuts a text to tokens ===== -/
def kd (c : Nat) : Nat := if c < 14 then 20 + c else if c = 14 then 1 else if c = 15 then 2 else if c = 16 then 4 else if c = 17 then 8 else if c = 18 then 9 else if c = 19 then 10 else if c = 20 then 11 else if c = 21 then 12 else if c = 22 then 13 else if c = 23 then 14 else if c = 24 then 6 else if c = 25 then 7 else if c = 26 then 0 else 3
theorem by_e : ∀ m, m < 256 → ((Int8.ofNat m).toInt32 &&& 255 = nI m) ∧ (m < 128 → (Int8.ofNat m).toInt32 = nI m) ∧ (128 ≤ m → (Int8.ofNat m).toInt32 < 0) := by decide +kernel
theorem by_1 {c : Int32} (h : vp_nar .byte c = c) : (c &&& 255 = c ∧ ∃ m, m < 128 ∧ c = nI m) ∨ (c < 0 ∧ ∃ m, 128 ≤ m ∧ m < 256 ∧ c &&& 255 = nI m) := by
  rw [vp_nar_byte] at h
  have e : Int8.ofNat c.toInt8.toBitVec.toNat = c.toInt8 := by
    apply Int8.toBitVec_inj.mp
    simp
  have hm : c.toInt8.toBitVec.toNat < 256 := c.toInt8.toBitVec.isLt
  obtain ⟨h1, h2, h3⟩ := by_e _ hm
  rw [e, h] at h1 h2 h3
  by_cases hc : c.toInt8.toBitVec.toNat < 128
  · exact Or.inl ⟨h1.trans (h2 hc).symm, _, hc, h2 hc⟩
  · exact Or.inr ⟨h3 (by omega), _, by omega, hm, h1⟩
theorem by_L {c : Int32} (h : vp_nar .byte c = c) : s_X10_isLetter (c &&& 255) = s_X6_isLetter c := by
  rcases by_1 h with ⟨h1, -⟩ | ⟨h1, m, m1, m2, m3⟩
  · rw [h1]; rfl
  · rw [m3]
    have a1 : ¬ nI m < 97 := nI_nlt (b := 97) (by omega) (by omega)
    have a2 : (122 : Int32) < nI m := nI_lt (a := 122) (by omega) (by omega)
    have a3 : c < 97 := by
      rw [Int32.lt_iff_toInt_lt] at h1 ⊢
      have e0 : (0 : Int32).toInt = 0 := rfl
      have e1 : (97 : Int32).toInt = 97 := rfl
      omega
    unfold s_X10_isLetter s_X6_isLetter
    rw [if_neg a1, if_pos a2, if_pos a3]
theorem by_D {c : Int32} (h : vp_nar .byte c = c) : s_X10_isDigit (c &&& 255) = s_X6_isDigit c := by
  rcases by_1 h with ⟨h1, -⟩ | ⟨h1, m, m1, m2, m3⟩
  · rw [h1]; rfl
  · rw [m3]
    have a1 : ¬ nI m < 48 := nI_nlt (b := 48) (by omega) (by omega)
    have a2 : (57 : Int32) < nI m := nI_lt (a := 57) (by omega) (by omega)
    have a3 : c < 48 := by
      rw [Int32.lt_iff_toInt_lt] at h1 ⊢
      have e0 : (0 : Int32).toInt = 0 := rfl
      have e1 : (48 : Int32).toInt = 48 := rfl
      omega
    unfold s_X10_isDigit s_X6_isDigit
    rw [if_neg a1, if_pos a2, if_pos a3]
theorem by_k {c : Int32} (h : vp_nar .byte c = c) {k : Nat} (hk : k < 128) : (c &&& 255 = nI k ↔ c = nI k) := by
  rcases by_1 h with ⟨h1, -⟩ | ⟨h1, m, m1, m2, m3⟩
  · rw [h1]
  · rw [m3]
    constructor
    · intro q
      have := (nI_eq (by omega) (by omega)).mp q
      omega
    · intro q
      rw [q] at h1
      exact absurd h1 (nI_pos (by omega))
def H48 (b : Nat → Int32) (n : Nat) (M : am_I) : Prop := M 46 4 = nI n ∧ ∀ q, q < n → M 48 q = b q
theorem at_in {b : Nat → Int32} {n q : Nat} {M : am_I} (H : H48 b n M) (hn : n ≤ 2000) (hq : q < n) : s_X10_at M (nI q) = b q &&& 255 ∧ p_X10_at M (nI q) := by
  unfold s_X10_at p_X10_at
  rw [H.1, if_neg (nI_ge hq (by omega)), if_neg (nI_ge hq (by omega)), nI_clamp (by omega), H.2 q hq]
  exact ⟨rfl, vp_in_nI (by omega) (by omega)⟩
theorem at_out {b : Nat → Int32} {n q : Nat} {M : am_I} (H : H48 b n M) (hq : n ≤ q) (hm : q < 2 ^ 31) : s_X10_at M (nI q) = 0 ∧ p_X10_at M (nI q) := by
  unfold s_X10_at p_X10_at
  rw [H.1, if_pos (nI_le hq hm), if_pos (nI_le hq hm)]
  exact ⟨rfl, trivial⟩
theorem tok_m {M : am_I} {J : am_J} {j : Nat} (h : M 46 10 = nI j) (hj : j ≤ 400) (a1 a2 a3 : Int32) (a4 : Int64) : s_X10_token M J a1 a2 a3 a4 = (am_w (am_w (am_w (am_w M 49 j a1) 50 j a2) 51 j a3) 46 10 (nI (j + 1)), am_w J 52 j a4) ∧ p_X10_token M a1 a2 a3 a4 := by
  have v : vp_in (nI j) 403 := vp_in_nI (by omega) (by omega)
  unfold s_X10_token p_X10_token
  rw [h, nI_clamp (by omega), nI_1]
  exact ⟨rfl, v, v, v, v⟩
theorem sg_0 {M : am_I} {J : am_J} {a1 c d : Int32} : s_X10_sign M J a1 c d = (nI (sgl (sgq c (decide (d = 61)))), s_X10_token M J (nI (kd (sgq c (decide (d = 61))))) a1 0 0) ∧ (p_X10_token M 0 0 0 0 → p_X10_sign M J a1 c d) := by
  have pt : ∀ x1 x2 x3 x4, p_X10_token M x1 x2 x3 x4 = p_X10_token M 0 0 0 0 := fun _ _ _ _ => rfl
  have t1 : ¬ (11 : Int32) ≤ 0 := by decide
  have t2 : ¬ (12 : Int32) ≤ 0 := by decide
  have t3 : ¬ (14 : Int32) ≤ 0 := by decide
  have t0 : (0 : Int32) ≤ 0 := by decide
  unfold s_X10_sign p_X10_sign s_X10_sign_J44 p_X10_sign_J44
  simp only [pt, if_neg t1, if_neg t2, if_neg t3, if_pos t0]
  by_cases d61 : d = 61
  · rw [decide_eq_true d61]
    simp only [if_pos d61]
    by_cases h1 : c = 61
    · subst h1; exact ⟨rfl, id⟩
    simp only [if_neg h1]
    by_cases h2 : c = 33
    · subst h2; exact ⟨rfl, id⟩
    simp only [if_neg h2]
    by_cases h3 : c = 60
    · subst h3; exact ⟨rfl, id⟩
    simp only [if_neg h3]
    by_cases h4 : c = 59
    · subst h4; exact ⟨rfl, id⟩
    simp only [if_neg h4]
    by_cases h5 : c = 40
    · subst h5; exact ⟨rfl, id⟩
    simp only [if_neg h5]
    by_cases h6 : c = 41
    · subst h6; exact ⟨rfl, id⟩
    simp only [if_neg h6]
    by_cases h7 : c = 43
    · subst h7; exact ⟨rfl, id⟩
    simp only [if_neg h7]
    by_cases h8 : c = 45
    · subst h8; exact ⟨rfl, id⟩
    simp only [if_neg h8]
    by_cases h9 : c = 42
    · subst h9; exact ⟨rfl, id⟩
    have e : sgq c true = 27 := by
      unfold sgq
      simp only [if_neg h1, if_neg h2, if_neg h3, if_neg h4, if_neg h5, if_neg h6, if_neg h7, if_neg h8, if_neg h9]
    rw [e]
    simp only [if_neg h9]
    exact ⟨rfl, id⟩
  · rw [decide_eq_false d61]
    simp only [if_neg d61]
    by_cases h4 : c = 59
    · subst h4; exact ⟨rfl, id⟩
    simp only [if_neg h4]
    by_cases h5 : c = 40
    · subst h5; exact ⟨rfl, id⟩
    simp only [if_neg h5]
    by_cases h6 : c = 41
    · subst h6; exact ⟨rfl, id⟩
    simp only [if_neg h6]
    by_cases h7 : c = 43
    · subst h7; exact ⟨rfl, id⟩
    simp only [if_neg h7]
    by_cases h8 : c = 45
    · subst h8; exact ⟨rfl, id⟩
    simp only [if_neg h8]
    by_cases h9 : c = 42
    · subst h9; exact ⟨rfl, id⟩
    simp only [if_neg h9]
    by_cases h3 : c = 60
    · subst h3; exact ⟨rfl, id⟩
    simp only [if_neg h3]
    have e : sgq c false = 27 := by
      unfold sgq
      simp only [if_neg h3, if_neg h4, if_neg h5, if_neg h6, if_neg h7, if_neg h8, if_neg h9, Bool.false_eq_true, if_false]
      split
      · rfl
      · split <;> rfl
    rw [e]
    exact ⟨rfl, id⟩
theorem sgq_b {c : Int32} (h : vp_nar .byte c = c) (e : Bool) : sgq (c &&& 255) e = sgq c e := by
  rcases by_1 h with ⟨h1, -⟩ | ⟨h1, m, m1, m2, m3⟩
  · rw [h1]
  · have ne : ∀ k, k < 128 → ¬ c = nI k := fun k hk q => absurd (q ▸ h1) (nI_pos (by omega))
    have ne2 : ∀ k, k < 128 → ¬ c &&& 255 = nI k := fun k hk q => ne k hk ((by_k h hk).mp q)
    have x : ∀ y : Int32, (∀ k, k < 128 → ¬ y = nI k) → sgq y e = 27 := by
      intro y hy
      unfold sgq
      have k1 : ¬ y = 33 := hy 33 (by decide)
      have k2 : ¬ y = 40 := hy 40 (by decide)
      have k3 : ¬ y = 41 := hy 41 (by decide)
      have k4 : ¬ y = 42 := hy 42 (by decide)
      have k5 : ¬ y = 43 := hy 43 (by decide)
      have k6 : ¬ y = 45 := hy 45 (by decide)
      have k7 : ¬ y = 59 := hy 59 (by decide)
      have k8 : ¬ y = 60 := hy 60 (by decide)
      have k9 : ¬ y = 61 := hy 61 (by decide)
      rw [if_neg k1, if_neg k2, if_neg k3, if_neg k4, if_neg k5, if_neg k6, if_neg k7, if_neg k8, if_neg k9]
    rw [x _ ne, x _ ne2]
def FrK (M M' : am_I) : Prop := ∀ k a, k ≠ 49 → k ≠ 50 → k ≠ 51 → ¬ (k = 46 ∧ a = 10) → M' k a = M k a
def TE (b : Nat → Int32) (n : Nat) (M : am_I) (q : Nat) : Prop := M 49 q = nI (kd (tk b n q)) ∧ M 50 q = nI (pl b n q) ∧ (tk b n q = 15 → M 51 q = vl b n q)
def tkM (b : Nat → Int32) (n : Nat) (M : am_I) (j : Nat) (v : Int32) : am_I := am_w (am_w (am_w (am_w M 49 j (nI (kd (tk b n j)))) 50 j (nI (pl b n j))) 51 j v) 46 10 (nI (j + 1))
theorem cut_nx {b : Nat → Int32} {n j : Nat} {M : am_I} {v : Int32} (hv : tk b n j = 15 → v = vl b n j) (H : H48 b n M) : H48 b n (tkM b n M j v) ∧ (tkM b n M j v) 46 10 = nI (j + 1) ∧ ((∀ q, q < j → TE b n M q) → ∀ q, q < j + 1 → TE b n (tkM b n M j v) q) ∧ FrK M (tkM b n M j v) := by
  refine ⟨⟨H.1, H.2⟩, rfl, fun h q hq => ?_, fun k a h1 h2 h3 h4 => ?_⟩
  · by_cases e : q = j
    · subst e
      refine ⟨?_, ?_, fun h => ?_⟩
      · show am_w M 49 q _ 49 q = _
        exact aw_s
      · show am_w (am_w M 49 q _) 50 q _ 50 q = _
        exact aw_s
      · rw [← hv h]
        show am_w (am_w (am_w M 49 q _) 50 q _) 51 q _ 51 q = _
        exact aw_s
    · obtain ⟨t1, t2, t3⟩ := h q (by omega)
      refine ⟨?_, ?_, fun h => ?_⟩
      · show am_w M 49 j _ 49 q = _
        rw [aw_n e]; exact t1
      · show am_w (am_w M 49 j _) 50 j _ 50 q = _
        rw [aw_n e]; exact t2
      · show am_w (am_w (am_w M 49 j _) 50 j _) 51 j _ 51 q = _
        rw [aw_n e]; exact t3 h
  · unfold tkM
    by_cases hk : k = 46
    · subst hk
      rw [aw_n (fun e => h4 ⟨rfl, e⟩)]
      rfl
    · rw [aw_k hk, aw_k h3, aw_k h2, aw_k h1]
theorem FrK.tr {M M' M'' : am_I} (h : FrK M M') (h2 : FrK M' M'') : FrK M M'' := fun k a q1 q2 q3 q4 => (h2 k a q1 q2 q3 q4).trans (h k a q1 q2 q3 q4)
theorem lgc {a c : Nat} (ha : a < 2 ^ 63) (hc : c < 2 ^ 63) : lg_cmp (lN a) (lN c) = 0 ↔ a = c := by
  unfold lg_cmp
  by_cases h : lN a > lN c
  · rw [if_pos h]
    have := (pk_lLT hc ha).mp h
    exact ⟨fun q => absurd q (by decide), fun q => by omega⟩
  · rw [if_neg h]
    by_cases h2 : lN a = lN c
    · rw [if_pos h2]
      exact ⟨fun _ => (pk_lEQ ha hc).mp h2, fun _ => rfl⟩
    · rw [if_neg h2]
      exact ⟨fun q => absurd q (by decide), fun q => absurd ((pk_lEQ ha hc).mpr q) h2⟩
theorem cut_k {M : am_I} {J : am_J} {p m w W : Nat} (hW : W ≤ 14) (hk : ∀ q, q < 14 → (lg_cmp (J 53 q) (lN w) = 0 ↔ W = q)) (pt : p_X10_token M 0 0 0 0) : ∀ d q g, q + d = 14 → s_X10_cut_L7 (g + (d + 1)) 2 (nI p) (nI m) 0 (lN w) (nI (if W < q then 20 + W else 1)) (nI q) M J = s_X10_cut_L7 g 0 (nI p + nI m) 0 0 0 0 0 (s_X10_token M J (nI (kd W)) (nI p) 0 (lN w)).1 (s_X10_token M J (nI (kd W)) (nI p) 0 (lN w)).2 ∧ (p_X10_cut_L7 g 0 (nI p + nI m) 0 0 0 0 0 (s_X10_token M J (nI (kd W)) (nI p) 0 (lN w)).1 (s_X10_token M J (nI (kd W)) (nI p) 0 (lN w)).2 → p_X10_cut_L7 (g + (d + 1)) 2 (nI p) (nI m) 0 (lN w) (nI (if W < q then 20 + W else 1)) (nI q) M J) := by
  intro d
  induction d with
  | zero =>
    intro q g hq
    have hc : (14 : Int32) ≤ nI q := nI_le (a := 14) (by omega) (by omega)
    have e : (if W < q then 20 + W else 1) = kd W := by
      unfold kd
      by_cases h : W < 14
      · rw [if_pos (by omega), if_pos h]
      · rw [if_neg (by omega), if_neg h, if_pos (by omega)]
    rw [e, show g + (0 + 1) = g + 1 by omega, u_s_X10_cut_L7_2, u_p_X10_cut_L7_2, if_pos hc, if_pos hc]
    exact ⟨rfl, fun h => ⟨pt, h⟩⟩
  | succ d ih =>
    intro q g hq
    have hc : ¬ (14 : Int32) ≤ nI q := nI_ge (b := 14) (by omega) (by omega)
    obtain ⟨i1, i2⟩ := ih (q + 1) g (by omega)
    have v : vp_in (nI q) 14 := vp_in_nI (by omega) (by omega)
    rw [show g + (d + 1 + 1) = (g + (d + 1)) + 1 by omega, u_s_X10_cut_L7_2, u_p_X10_cut_L7_2, if_neg hc, if_neg hc, nI_clamp (by omega), nI_1]
    by_cases h : W = q
    · have h' := (hk q (by omega)).mpr h
      rw [if_pos h', if_pos h']
      have e : (20 : Int32) + nI q = nI (if W < q + 1 then 20 + W else 1) := by
        rw [if_pos (by omega), h]
        exact nI_add 20 q
      rw [e]
      exact ⟨i1, fun x => ⟨v, i2 x⟩⟩
    · have h' : ¬ lg_cmp (J 53 q) (lN w) = 0 := fun x => h ((hk q (by omega)).mp x)
      rw [if_neg h', if_neg h']
      have e : (if W < q then 20 + W else 1) = (if W < q + 1 then 20 + W else 1) := by
        by_cases x : W < q
        · rw [if_pos x, if_pos (by omega)]
        · rw [if_neg x, if_neg (by omega)]
      rw [e]
      exact ⟨i1, fun x => ⟨v, i2 x⟩⟩
theorem kw_8 : ∀ q, q < 14 → (kws q).length < 8 := by decide +kernel
theorem more_1 {c : Int32} {w : Nat} (h : ¬ s_X6_isLetter c = 0) : s_X10_more (lN w) c = lN (27 * w + dgt c) := by
  obtain ⟨d, hd, e, e2⟩ := let_1 h
  unfold s_X10_more
  rw [e2, e, if_neg (nI_ne0 (by omega) (by omega))]
  have x : nI (97 + d) - 97 + 1 = nI (d + 1) := by
    rw [show nI (97 + d) - 97 = nI (97 + d) - nI 97 from rfl, pk_sub (by omega), nI_1, show 97 + d - 97 = d by omega]
  rw [x, nI_l (by omega)]
  show lN 27 * lN w + lN (d + 1) = _
  rw [lN_mul, lN_add]
theorem lt_at {b : Nat → Int32} {n q : Nat} {M : am_I} (H : H48 b n M) (hn : n ≤ 2000) (hq : q < 4096) (hb : ∀ k, vp_nar .byte (b k) = b k) : p_X10_at M (nI q) ∧ (q < n → s_X10_isLetter (s_X10_at M (nI q)) = s_X6_isLetter (b q) ∧ s_X10_isDigit (s_X10_at M (nI q)) = s_X6_isDigit (b q)) ∧ (n ≤ q → s_X10_isLetter (s_X10_at M (nI q)) = 0 ∧ s_X10_isDigit (s_X10_at M (nI q)) = 0) := by
  by_cases h : q < n
  · obtain ⟨a1, a2⟩ := at_in H hn h
    refine ⟨a2, fun _ => ?_, fun x => by omega⟩
    rw [a1]
    exact ⟨by_L (hb q), by_D (hb q)⟩
  · obtain ⟨a1, a2⟩ := at_out H (q := q) (by omega) (by omega)
    refine ⟨a2, fun x => by omega, fun _ => ?_⟩
    rw [a1]
    exact ⟨by decide, by decide⟩
theorem ltr_0 {c : Int32} (h : ¬ s_X6_isLetter c = 0) : ¬ c &&& 255 = 0 ∧ (vp_nar .byte c = c → c &&& 255 = c) := by
  obtain ⟨d, hd, e, -⟩ := let_1 h
  have x : ∀ d, d < 26 → nI (97 + d) &&& 255 = nI (97 + d) := by decide +kernel
  have y : c &&& 255 = c := by rw [e]; exact x d hd
  exact ⟨by rw [y, e]; exact nI_ne0 (by omega) (by omega), fun _ => y⟩
theorem cut_w {b : Nat → Int32} {n p e j : Nat} {M : am_I} {J : am_J} (hn : n ≤ 2000) (hb : ∀ k, vp_nar .byte (b k) = b k) (H : H48 b n M) (hJ : J 53 = k_J 53) (h10 : M 46 10 = nI j) (hj : j ≤ 400) (hp : p < n) (he : e = rr s_X6_isLetter b n p) : ∀ d m g, m + d = e - p → ∃ g' w, g ≤ g' ∧ s_X10_cut_L7 (g + (d + 17)) 1 (nI p) (nI m) 0 (lN (nm b p (min m 8))) 0 0 M J = s_X10_cut_L7 g' 0 (nI e) 0 0 0 0 0 (am_w (am_w (am_w (am_w M 49 j (nI (kd (if e - p ≤ 8 then wfind b p e KW 0 else 27)))) 50 j (nI p)) 51 j 0) 46 10 (nI (j + 1))) (am_w J 52 j w) ∧ (p_X10_cut_L7 g' 0 (nI e) 0 0 0 0 0 (am_w (am_w (am_w (am_w M 49 j (nI (kd (if e - p ≤ 8 then wfind b p e KW 0 else 27)))) 50 j (nI p)) 51 j 0) 46 10 (nI (j + 1))) (am_w J 52 j w) → p_X10_cut_L7 (g + (d + 17)) 1 (nI p) (nI m) 0 (lN (nm b p (min m 8))) 0 0 M J) := by
  have hr := rr_b (P := s_X6_isLetter) (b := b) (n := n) (i := p) (by omega)
  rw [← he] at hr
  have hlet : ∀ i, i < e - p → ¬ s_X6_isLetter (b (p + i)) = 0 := fun i hi => rr_in (P := s_X6_isLetter) (n := n) (i := p) (by omega) (by omega) (by omega)
  have wl := wf_le (b := b) (p := p) (e := e) KW 0 (by decide)
  intro d
  induction d with
  | zero =>
    intro m g hm
    have em : p + m = e := by omega
    obtain ⟨a1, a2, a3⟩ := lt_at (q := p + m) H hn (by omega) hb
    have ho : s_X10_isLetter (s_X10_at M (nI (p + m))) = 0 := by
      by_cases hx : p + m < n
      · rw [(a2 hx).1, em]
        have hxe : rr s_X6_isLetter b n p < n := by rw [← he, ← em]; exact hx
        have := rr_x (P := s_X6_isLetter) (b := b) (n := n) (i := p) (by omega) hxe
        rw [← he] at this
        exact this
      · exact (a3 (by omega)).1
    rw [show g + (0 + 17) = (g + 16) + 1 by omega, u_s_X10_cut_L7_1, u_p_X10_cut_L7_1, nI_add, if_pos ho, if_pos ho]
    by_cases h8 : m ≤ 8
    · have c8 : nI m ≤ 8 := nI_le (b := 8) h8 (by omega)
      rw [if_pos c8, if_pos c8, if_pos (show e - p ≤ 8 by omega)]
      by_cases h7 : m ≤ 7
      · have c7 : ¬ (7 : Int32) < nI m := nI_nlt (a := 7) h7 (by omega)
        rw [if_neg c7, if_neg c7]
        have hmin : min m 8 = m := by omega
        rw [hmin]
        have hlt : nm b p m < 2 ^ 63 := Nat.lt_of_lt_of_le (nm_lt m (fun i hi => hlet i (by omega))) (Nat.le_trans (Nat.pow_le_pow_right (by decide) h7) (by decide))
        have hk : ∀ q, q < 14 → (lg_cmp (J 53 q) (lN (nm b p m)) = 0 ↔ wfind b p e KW 0 = q) := by
          intro q hq
          rw [hJ, kw_J q hq, lgc (Nat.lt_of_lt_of_le (kw_lt q hq) (by decide)) hlt, show m = e - p by omega]
          exact kw_is (by omega) hlet hq
        obtain ⟨q1, q2⟩ := cut_k (M := M) (J := J) (p := p) (m := m) wl hk (tok_m (J := J) h10 hj 0 0 0 0).2 14 0 (g + 1) (by omega)
        rw [if_neg (by omega), nI_add, em, (tok_m h10 hj _ _ _ _).1] at q1 q2
        refine ⟨g + 1, lN (nm b p m), by omega, q1, fun h => ⟨a1, q2 h⟩⟩
      · have c7 : (7 : Int32) < nI m := nI_lt (a := 7) (by omega) (by omega)
        have hw : wfind b p e KW 0 = 14 := by
          by_cases hx : wfind b p e KW 0 < 14
          · exfalso
            have := ((wf_mt (b := b) (p := p) (e := e) KW 0 (by decide) (fun q _ => by unfold kws; rw [Nat.sub_zero])).2 hx).2
            have := kw_8 _ hx
            omega
          · omega
        rw [if_pos c7, if_pos c7, hw, em, (tok_m h10 hj _ _ _ _).1]
        exact ⟨g + 16, _, by omega, rfl, fun h => ⟨em ▸ a1, (tok_m (J := J) h10 hj _ _ _ _).2, h⟩⟩
    · have c8 : ¬ nI m ≤ 8 := nI_ge (a := 8) (by omega) (by omega)
      have c7 : (7 : Int32) < nI m := nI_lt (a := 7) (by omega) (by omega)
      rw [if_neg c8, if_neg c8, if_pos c7, if_pos c7, if_neg (show ¬ e - p ≤ 8 by omega), em, (tok_m h10 hj _ _ _ _).1]
      exact ⟨g + 16, _, by omega, rfl, fun h => ⟨em ▸ a1, (tok_m (J := J) h10 hj _ _ _ _).2, h⟩⟩
  | succ d ih =>
    intro m g hm
    obtain ⟨a1, a2, a3⟩ := lt_at (q := p + m) H hn (by omega) hb
    have hl := hlet m (by omega)
    have ho : ¬ s_X10_isLetter (s_X10_at M (nI (p + m))) = 0 := by
      rw [(a2 (by omega)).1]
      exact hl
    obtain ⟨g', w, i1, i2, i3⟩ := ih (m + 1) g (by omega)
    rw [show g + (d + 1 + 17) = (g + (d + 17)) + 1 by omega, u_s_X10_cut_L7_1, u_p_X10_cut_L7_1, nI_add, if_neg ho, if_neg ho, nI_1]
    by_cases h8 : 8 ≤ m
    · have c8 : (8 : Int32) ≤ nI m := nI_le (a := 8) h8 (by omega)
      rw [if_pos c8, if_pos c8]
      rw [show min (m + 1) 8 = min m 8 by omega] at i2 i3
      exact ⟨g', w, i1, i2, fun h => ⟨a1, i3 h⟩⟩
    · have c8 : ¬ (8 : Int32) ≤ nI m := nI_ge (b := 8) (by omega) (by omega)
      have ex : s_X10_more (lN (nm b p (min m 8))) (s_X10_at M (nI (p + m))) = lN (nm b p (min (m + 1) 8)) := by
        rw [(at_in H hn (q := p + m) (by omega)).1, (ltr_0 hl).2 (hb _), more_1 hl, show min m 8 = m by omega, show min (m + 1) 8 = m + 1 by omega]
        rfl
      rw [if_neg c8, if_neg c8, ex]
      exact ⟨g', w, i1, i2, fun h => ⟨a1, a1, i3 h⟩⟩
theorem dg_0 {c v : Int32} (h : ¬ s_X6_isDigit c = 0) : (10 * v + (c &&& 255)) - 48 = v * 10 + (c - 48) := by
  obtain ⟨d, hd, e, -⟩ := dig_1 h
  have x : ∀ d, d < 10 → nI (48 + d) &&& 255 = nI (48 + d) := by decide +kernel
  rw [e, x d hd, Int32.mul_comm, Int32.sub_eq_add_neg, Int32.sub_eq_add_neg, Int32.add_assoc]
theorem cut_d {b : Nat → Int32} {n p e j : Nat} {M : am_I} {J : am_J} (hn : n ≤ 2000) (hb : ∀ k, vp_nar .byte (b k) = b k) (H : H48 b n M) (h10 : M 46 10 = nI j) (hj : j ≤ 400) (hp : p < n) (he : e = rr s_X6_isDigit b n p) : ∀ d m g, m + d = e - p → s_X10_cut_L7 (g + (d + 1)) 3 (nI p) (nI m) (dg b p (min m 4)) 0 0 0 M J = s_X10_cut_L7 g 0 (nI e) 0 0 0 0 0 (am_w (am_w (am_w (am_w M 49 j (nI (kd (if e - p ≤ 4 then 15 else 27)))) 50 j (nI p)) 51 j (dg b p (min (e - p) 4))) 46 10 (nI (j + 1))) (am_w J 52 j 0) ∧ (p_X10_cut_L7 g 0 (nI e) 0 0 0 0 0 (am_w (am_w (am_w (am_w M 49 j (nI (kd (if e - p ≤ 4 then 15 else 27)))) 50 j (nI p)) 51 j (dg b p (min (e - p) 4))) 46 10 (nI (j + 1))) (am_w J 52 j 0) → p_X10_cut_L7 (g + (d + 1)) 3 (nI p) (nI m) (dg b p (min m 4)) 0 0 0 M J) := by
  have hr := rr_b (P := s_X6_isDigit) (b := b) (n := n) (i := p) (by omega)
  rw [← he] at hr
  have hdg : ∀ i, i < e - p → ¬ s_X6_isDigit (b (p + i)) = 0 := fun i hi => rr_in (P := s_X6_isDigit) (n := n) (i := p) (by omega) (by omega) (by omega)
  intro d
  induction d with
  | zero =>
    intro m g hm
    have em : p + m = e := by omega
    obtain ⟨a1, a2, a3⟩ := lt_at (q := p + m) H hn (by omega) hb
    have ho : s_X10_isDigit (s_X10_at M (nI (p + m))) = 0 := by
      by_cases hx : p + m < n
      · rw [(a2 hx).2, em]
        have hxe : rr s_X6_isDigit b n p < n := by rw [← he, ← em]; exact hx
        have := rr_x (P := s_X6_isDigit) (b := b) (n := n) (i := p) (by omega) hxe
        rw [← he] at this
        exact this
      · exact (a3 (by omega)).2
    rw [show g + (0 + 1) = g + 1 by omega, u_s_X10_cut_L7_3, u_p_X10_cut_L7_3, nI_add, if_pos ho, if_pos ho, show e - p = m by omega]
    by_cases h4 : m ≤ 4
    · have c4 : nI m ≤ 4 := nI_le (b := 4) h4 (by omega)
      rw [if_pos c4, if_pos c4, if_pos h4, em, (tok_m h10 hj _ _ _ _).1]
      exact ⟨rfl, fun h => ⟨em ▸ a1, (tok_m (J := J) h10 hj _ _ _ _).2, h⟩⟩
    · have c4 : ¬ nI m ≤ 4 := nI_ge (a := 4) (by omega) (by omega)
      rw [if_neg c4, if_neg c4, if_neg h4, em, (tok_m h10 hj _ _ _ _).1]
      exact ⟨rfl, fun h => ⟨em ▸ a1, (tok_m (J := J) h10 hj _ _ _ _).2, h⟩⟩
  | succ d ih =>
    intro m g hm
    obtain ⟨a1, a2, a3⟩ := lt_at (q := p + m) H hn (by omega) hb
    have hl := hdg m (by omega)
    have ho : ¬ s_X10_isDigit (s_X10_at M (nI (p + m))) = 0 := by
      rw [(a2 (by omega)).2]
      exact hl
    obtain ⟨i1, i2⟩ := ih (m + 1) g (by omega)
    rw [show g + (d + 1 + 1) = (g + (d + 1)) + 1 by omega, u_s_X10_cut_L7_3, u_p_X10_cut_L7_3, nI_add, if_neg ho, if_neg ho, nI_1]
    by_cases h4 : 4 ≤ m
    · have c4 : (4 : Int32) ≤ nI m := nI_le (a := 4) h4 (by omega)
      rw [if_pos c4, if_pos c4]
      rw [show min (m + 1) 4 = min m 4 by omega] at i1 i2
      exact ⟨i1, fun h => ⟨a1, i2 h⟩⟩
    · have c4 : ¬ (4 : Int32) ≤ nI m := nI_ge (b := 4) (by omega) (by omega)
      have ex : (10 * dg b p (min m 4) + s_X10_at M (nI (p + m))) - 48 = dg b p (min (m + 1) 4) := by
        rw [(at_in H hn (q := p + m) (by omega)).1, dg_0 hl, show min m 4 = m by omega, show min (m + 1) 4 = m + 1 by omega]
        rfl
      rw [if_neg c4, if_neg c4, ex]
      exact ⟨i1, fun h => ⟨a1, a1, i2 h⟩⟩
end
