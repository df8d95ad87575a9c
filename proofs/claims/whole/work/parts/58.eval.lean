/-! ===== reckoning a consent: the class ===== -/
def opv (x a b : Int32) : Int32 := if x = 10017 then a + b else if x = 10018 then a - b else a * b
def vlv (vv : Nat → Int32) (x : Int32) : Int32 := if 10007 ≤ x.toInt then vv (x.toInt - 10007).toNat else x
def hg (r : Nat → Int32) (i n : Nat) : Nat := (hgt r i n).getD 0
def evf (vv : Nat → Int32) (r : Nat → Int32) (i : Nat) : Nat → Nat → Int32
  | 0 => fun _ => 0
  | n + 1 => if 10017 ≤ (r (i + n)).toInt then va_up (evf vv r i n) (hg r i n - 2) (opv (r (i + n)) (evf vv r i n (hg r i n - 2)) (evf vv r i n (hg r i n - 1))) else va_up (evf vv r i n) (hg r i n) (vlv vv (r (i + n)))
theorem hgt_st {r : Nat → Int32} {i n h' : Nat} (hh : hgt r i (n + 1) = some h') : ∃ h, hgt r i n = some h ∧ ((10017 ≤ (r (i + n)).toInt ∧ 2 ≤ h ∧ h' = h - 1) ∨ (¬ 10017 ≤ (r (i + n)).toInt ∧ h < 15 ∧ h' = h + 1)) := by
  unfold hgt at hh
  cases he : hgt r i n with
  | none => rw [he] at hh; cases hh
  | some h =>
    rw [he] at hh
    simp only at hh
    refine ⟨h, rfl, ?_⟩
    by_cases hc : 10017 ≤ (r (i + n)).toInt
    · rw [if_pos hc] at hh
      by_cases h2 : 2 ≤ h
      · rw [if_pos h2] at hh
        cases hh
        exact Or.inl ⟨hc, h2, rfl⟩
      · rw [if_neg h2] at hh
        cases hh
    · rw [if_neg hc] at hh
      by_cases h2 : h < 15
      · rw [if_pos h2] at hh
        cases hh
        exact Or.inr ⟨hc, h2, rfl⟩
      · rw [if_neg h2] at hh
        cases hh
theorem hgt_le {r : Nat → Int32} {i : Nat} : ∀ {n h : Nat}, hgt r i n = some h → h ≤ 15 := by
  intro n
  induction n with
  | zero => intro h hh; cases hh; omega
  | succ n ih =>
    intro h hh
    obtain ⟨h', e, c⟩ := hgt_st hh
    have := ih e
    omega
theorem hgt_pre {r : Nat → Int32} {i n h : Nat} (hh : hgt r i n = some h) : ∀ d j, j + d = n → ∃ h', hgt r i j = some h' := by
  intro d
  induction d with
  | zero => intro j hj; rw [show j = n by omega]; exact ⟨h, hh⟩
  | succ d ih =>
    intro j hj
    obtain ⟨h', e⟩ := ih (j + 1) (by omega)
    obtain ⟨h2, e2, -⟩ := hgt_st e
    exact ⟨h2, e2⟩
theorem evf_o {vv r : Nat → Int32} {i n h : Nat} (hh : hgt r i n = some h) (hc : 10017 ≤ (r (i + n)).toInt) : evf vv r i (n + 1) = va_up (evf vv r i n) (h - 2) (opv (r (i + n)) (evf vv r i n (h - 2)) (evf vv r i n (h - 1))) := by
  have e : hg r i n = h := by unfold hg; rw [hh]; rfl
  conv => lhs; unfold evf
  rw [if_pos hc, e]
theorem evf_v {vv r : Nat → Int32} {i n h : Nat} (hh : hgt r i n = some h) (hc : ¬ 10017 ≤ (r (i + n)).toInt) : evf vv r i (n + 1) = va_up (evf vv r i n) h (vlv vv (r (i + n))) := by
  have e : hg r i n = h := by unfold hg; rw [hh]; rfl
  conv => lhs; unfold evf
  rw [if_neg hc, e]
def Fs (I I' : am_I) : Prop := ∀ k a, k ≠ 7 → ¬ (k = 5 ∧ a = 3) → I' k a = I k a
theorem Fs.rf {I : am_I} : Fs I I := fun _ _ _ _ => rfl
theorem Fs.tr {I I' I'' : am_I} (h : Fs I I') (h2 : Fs I' I'') : Fs I I'' := fun k a h0 h1 => (h2 k a h0 h1).trans (h k a h0 h1)
theorem Fs.w7 {I I' : am_I} {a : Nat} {v : Int32} (h : Fs I I') : Fs I (am_w I' 7 a v) := fun k b h0 h1 => by rw [aw_k h0]; exact h k b h0 h1
theorem Fs.w5 {I I' : am_I} {v : Int32} (h : Fs I I') : Fs I (am_w I' 5 3 v) := fun k b h0 h1 => by
  by_cases hk : k = 5
  · subst hk
    rw [aw_n (fun c => h1 ⟨rfl, c⟩)]
    exact h _ b h0 h1
  · rw [aw_k hk]
    exact h k b h0 h1
theorem Fs.r {I I' : am_I} (h : Fs I I') {k : Nat} (h0 : k ≠ 7) (h1 : k ≠ 5) : I' k = I k := funext fun a => h k a h0 (fun c => h1 c.1)
theorem pop_1 {I : am_I} {t : Nat} (h : I 5 3 = nI (t + 1)) (ht : t < 21) : s_X3_pop I = (I 7 t, am_w I 5 3 (nI t)) ∧ p_X3_pop I := by
  have hc : (0 : Int32) < nI (t + 1) := nI_lt (a := 0) (by omega) (by omega)
  unfold s_X3_pop p_X3_pop
  rw [h, if_pos hc, if_pos hc, nI_pred, nI_clamp (by omega)]
  exact ⟨rfl, vp_in_nI ht (by omega)⟩
theorem push_1 {I : am_I} {t : Nat} {v : Int32} (h : I 5 3 = nI t) (ht : t < 21) : s_X3_push I v = am_w (am_w I 7 t v) 5 3 (nI (t + 1)) ∧ p_X3_push I v := by
  have hc : ¬ (21 : Int32) ≤ nI t := nI_ge (b := 21) (by omega) (by omega)
  unfold s_X3_push p_X3_push
  rw [h, if_neg hc, if_neg hc, nI_clamp (by omega), nI_1]
  exact ⟨rfl, vp_in_nI ht (by omega)⟩
theorem io_v : ∀ n, n < 7 → s_X9_isOperator (nI (10007 + n) - 10000) = 0 ∧ ¬ s_X9_isVar (nI (10007 + n) - 10000) = 0 ∧ (nI (10007 + n) - 10000) - 7 = nI n := by decide +kernel
theorem io_o : ∀ n, n < 3 → ¬ s_X9_isOperator (nI (10017 + n) - 10000) = 0 ∧ (nI (10017 + n) - 10000 = 17 ↔ nI (10017 + n) = 10017) ∧ (nI (10017 + n) - 10000 = 18 ↔ nI (10017 + n) = 10018) := by decide +kernel
theorem io_i {n : Nat} (hn : n < 10000) : s_X9_isOperator (nI n - 10000) = 0 ∧ s_X9_isVar (nI n - 10000) = 0 := by
  have h1 : (nI n - 10000).toInt = (n : Int) - 10000 := pk_sub_toInt (a := n) (b := 10000) (by omega) (by omega)
  have n17 : ¬ nI n - 10000 = 17 := by rw [ia_eq, h1]; show ¬ _ = (17 : Int); omega
  have n18 : ¬ nI n - 10000 = 18 := by rw [ia_eq, h1]; show ¬ _ = (18 : Int); omega
  have n19 : ¬ nI n - 10000 = 19 := by rw [ia_eq, h1]; show ¬ _ = (19 : Int); omega
  have n7 : nI n - 10000 < 7 := by rw [Int32.lt_iff_toInt_lt, h1]; show _ < (7 : Int); omega
  unfold s_X9_isOperator s_X9_isVar
  rw [if_neg n17, if_neg n18, if_neg n19, if_pos n7]
  exact ⟨rfl, rfl⟩
theorem cCl_t {x k v : Int32} (h : cCl x k v) : (∃ n, n < 10000 ∧ x = nI n ∧ x.toInt = n ∧ k = 0 ∧ v = nI n) ∨ (∃ n, n < 7 ∧ x = nI (10007 + n) ∧ x.toInt = 10007 + n ∧ k = 1 ∧ v = nI n) ∨ (∃ n, n < 3 ∧ x = nI (10017 + n) ∧ x.toInt = 10017 + n ∧ k = nI (2 + n)) := by
  rcases h with ⟨n, h1, h2, h3, h4⟩ | ⟨n, h1, h2, h3, h4⟩ | ⟨n, h1, h2, h3⟩
  · exact Or.inl ⟨n, h1, h2, by rw [h2, nI_toInt (by omega)], h3, h4⟩
  · exact Or.inr (Or.inl ⟨n, h1, h2, by rw [h2, nI_toInt (by omega)]; omega, h3, h4⟩)
  · exact Or.inr (Or.inr ⟨n, h1, h2, by rw [h2, nI_toInt (by omega)]; omega, h3⟩)
theorem vlv_i {vv : Nat → Int32} {n : Nat} (hn : n < 10000) : vlv vv (nI n) = nI n := by
  unfold vlv
  rw [nI_toInt (by omega), if_neg (by omega)]
theorem vlv_v {vv : Nat → Int32} {n : Nat} (hn : n < 7) : vlv vv (nI (10007 + n)) = vv n := by
  unfold vlv
  rw [nI_toInt (by omega), if_pos (by omega)]
  congr 1
  omega
/-- one cell -/
theorem tk_1 {I : am_I} {vv : Nat → Int32} {b h : Nat} {x k v : Int32} (h53 : I 5 3 = nI (b + h)) (hb : b + h ≤ 17) (hx : cCl x k v) (hop : 10017 ≤ x.toInt → 2 ≤ h) (hv : ∀ q, q < 7 → I 6 q = vv q) : ∃ I', s_X3_takeCell I x = I' ∧ p_X3_takeCell I x ∧ Fs I I' ∧ ((10017 ≤ x.toInt ∧ I' 5 3 = nI (b + (h - 1)) ∧ I' 7 = va_up (I 7) (b + (h - 2)) (opv x (I 7 (b + (h - 2))) (I 7 (b + (h - 1))))) ∨ (¬ 10017 ≤ x.toInt ∧ I' 5 3 = nI (b + (h + 1)) ∧ I' 7 = va_up (I 7) (b + h) (vlv vv x))) := by
  unfold s_X3_takeCell p_X3_takeCell
  rcases cCl_t hx with ⟨n, h1, h2, h3, -⟩ | ⟨n, h1, h2, h3, -⟩ | ⟨n, h1, h2, h3, -⟩
  · obtain ⟨a1, a2⟩ := io_i h1
    obtain ⟨q1, q2⟩ := push_1 (v := x) h53 (by omega)
    rw [h2] at q1 q2 ⊢
    rw [if_pos a1, if_pos a1, if_pos a2, if_pos a2, q1]
    refine ⟨_, rfl, q2, Fs.w5 (Fs.w7 Fs.rf), Or.inr ⟨by rw [← h2, h3]; omega, by rw [aw_s, Nat.add_assoc], ?_⟩⟩
    rw [aw_k (by decide), vlv_i h1]
    unfold am_w
    show (if 7 = 7 then _ else _) = _
    rw [if_pos rfl]
  · obtain ⟨a1, a2, a3⟩ := io_v n h1
    rw [h2, if_pos a1, if_pos a1, if_neg a2, if_neg a2, a3, nI_clamp (by omega), hv n h1]
    obtain ⟨q1, q2⟩ := push_1 (v := vv n) h53 (by omega)
    rw [q1]
    refine ⟨_, rfl, ⟨vp_in_nI h1 (by omega), q2⟩, Fs.w5 (Fs.w7 Fs.rf), Or.inr ⟨by rw [← h2, h3]; omega, by rw [aw_s, Nat.add_assoc], ?_⟩⟩
    rw [aw_k (by decide), vlv_v h1]
    unfold am_w
    show (if 7 = 7 then _ else _) = _
    rw [if_pos rfl]
  · obtain ⟨a1, a2, a3⟩ := io_o n h1
    have hh := hop (by omega)
    obtain ⟨p1, p2⟩ := pop_1 (I := I) (t := b + (h - 1)) (by rw [h53]; congr 1; omega) (by omega)
    obtain ⟨p3, p4⟩ := pop_1 (I := am_w I 5 3 (nI (b + (h - 1)))) (t := b + (h - 2)) (by rw [aw_s]; congr 1; omega) (by omega)
    have p5 : am_w I 5 3 (nI (b + (h - 1))) 7 = I 7 := aw_k (by decide)
    rw [h2, if_neg a1, if_neg a1, p1]
    simp only
    rw [p3]
    simp only
    rw [p5]
    have fin : ∀ w : Int32, ∃ I', s_X3_push (am_w (am_w I 5 3 (nI (b + (h - 1)))) 5 3 (nI (b + (h - 2)))) w = I' ∧ p_X3_push (am_w (am_w I 5 3 (nI (b + (h - 1)))) 5 3 (nI (b + (h - 2)))) w ∧ Fs I I' ∧ I' 5 3 = nI (b + (h - 1)) ∧ I' 7 = va_up (I 7) (b + (h - 2)) w := fun w => by
      obtain ⟨q1, q2⟩ := push_1 (I := am_w (am_w I 5 3 (nI (b + (h - 1)))) 5 3 (nI (b + (h - 2)))) (v := w) aw_s (by omega)
      refine ⟨_, q1, q2, Fs.w5 (Fs.w7 (Fs.w5 (Fs.w5 Fs.rf))), by rw [aw_s]; congr 1; omega, ?_⟩
      rw [aw_k (by decide)]
      unfold am_w
      show (if 7 = 7 then va_up _ _ _ else _) = _
      rw [if_pos rfl]
      rfl
    by_cases c1 : nI (10017 + n) = 10017
    · rw [if_pos (a2.mpr c1), if_pos (a2.mpr c1)]
      obtain ⟨I', f1, f2, f3, f4, f5⟩ := fin (I 7 (b + (h - 2)) + I 7 (b + (h - 1)))
      refine ⟨I', f1, ⟨p2, p4, f2⟩, f3, Or.inl ⟨by rw [← h2, h3]; omega, f4, ?_⟩⟩
      rw [f5]
      unfold opv
      rw [if_pos c1]
    · rw [if_neg (fun c => c1 (a2.mp c)), if_neg (fun c => c1 (a2.mp c))]
      by_cases c2 : nI (10017 + n) = 10018
      · rw [if_pos (a3.mpr c2), if_pos (a3.mpr c2)]
        obtain ⟨I', f1, f2, f3, f4, f5⟩ := fin (I 7 (b + (h - 2)) - I 7 (b + (h - 1)))
        refine ⟨I', f1, ⟨p2, p4, f2⟩, f3, Or.inl ⟨by rw [← h2, h3]; omega, f4, ?_⟩⟩
        rw [f5]
        unfold opv
        rw [if_neg c1, if_pos c2]
      · rw [if_neg (fun c => c2 (a3.mp c)), if_neg (fun c => c2 (a3.mp c))]
        obtain ⟨I', f1, f2, f3, f4, f5⟩ := fin (I 7 (b + (h - 2)) * I 7 (b + (h - 1)))
        refine ⟨I', f1, ⟨p2, p4, f2⟩, f3, Or.inl ⟨by rw [← h2, h3]; omega, f4, ?_⟩⟩
        rw [f5]
        unfold opv
        rw [if_neg c1, if_neg c2]
theorem va_eq {α : Type} {f : Nat → α} {k : Nat} {v : α} : va_up f k v k = v := by
  unfold va_up
  rw [if_pos rfl]
theorem va_ne {α : Type} {f : Nat → α} {k j : Nat} {v : α} (h : j ≠ k) : va_up f k v j = f j := by
  unfold va_up
  rw [if_neg h]
/-- the cells of one side -/
theorem sg_c {I0 : am_I} {l i n b e hh : Nat} {r vv : Nat → Int32} (hl : l < 133) (h42 : I0 42 l = nI e) (he : e ≤ 400) (hie : i + n ≤ e) (hr : I0 45 = r) (hv : ∀ q, q < 7 → I0 6 q = vv q) (hc : ∀ q, i ≤ q → q < i + n → ∃ k v, cCl (r q) k v) (hH : hgt r i n = some hh) (hb : b ≤ 1) : ∀ d j, j + d = n → ∀ (I : am_I) (g h : Nat), Fs I0 I → hgt r i j = some h → I 5 3 = nI (b + h) → (∀ k, k < h → I 7 (b + k) = evf vv r i j k) → ∃ I', s_X1_testHolds_L11 (nI l) (g + d) (nI (i + j)) I = s_X1_testHolds_L11 (nI l) g (nI (i + n)) I' ∧ (p_X1_testHolds_L11 (nI l) g (nI (i + n)) I' → p_X1_testHolds_L11 (nI l) (g + d) (nI (i + j)) I) ∧ Fs I0 I' ∧ I' 5 3 = nI (b + hh) ∧ (∀ k, k < hh → I' 7 (b + k) = evf vv r i n k) ∧ ∀ k, k < b → I' 7 k = I 7 k := by
  intro d
  induction d with
  | zero =>
    intro j hj I g h hF h1 h2 h3
    rw [show j = n by omega] at h1 h3 ⊢
    rw [hH] at h1
    cases h1
    exact ⟨I, rfl, id, hF, h2, h3, fun _ _ => rfl⟩
  | succ d ih =>
    intro j hj I g h hF h1 h2 h3
    have hlt : ¬ nI e ≤ nI (i + j) := nI_ge (by omega) (by omega)
    have hcl := nI_clamp (n := l) (by omega)
    have r42 : I 42 l = nI e := by rw [hF.r (k := 42) (by decide) (by decide)]; exact h42
    have r45 : I 45 = r := by rw [hF.r (k := 45) (by decide) (by decide)]; exact hr
    have r6 : ∀ q, q < 7 → I 6 q = vv q := fun q hq => by rw [hF.r (k := 6) (by decide) (by decide)]; exact hv q hq
    rw [show g + (d + 1) = (g + d) + 1 by omega, u_s_X1_testHolds_L11, u_p_X1_testHolds_L11, hcl, r42, r45, if_neg hlt, if_neg hlt, nI_1, nI_clamp (n := i + j) (by omega)]
    obtain ⟨kk, vx, hx⟩ := hc (i + j) (by omega) (by omega)
    have hle := hgt_le h1
    obtain ⟨h', e'⟩ := hgt_pre hH d (j + 1) (by omega)
    obtain ⟨h0, e0, cs⟩ := hgt_st e'
    rw [h1] at e0
    cases e0
    obtain ⟨I', t1, t2, t3, t4⟩ := tk_1 (vv := vv) h2 (by omega) hx (fun hc => by rcases cs with c | c; exact c.2.1; exact absurd hc c.1) r6
    rw [t1]
    rcases t4 with ⟨c0, c1, c2⟩ | ⟨c0, c1, c2⟩
    · have ch : h' = h - 1 ∧ 2 ≤ h := by rcases cs with c | c; exact ⟨c.2.2, c.2.1⟩; exact absurd c0 c.1
      obtain ⟨I2, q1, q2, q3, q4, q5, q6⟩ := ih (j + 1) (by omega) I' g h' (hF.tr t3) e' (by rw [ch.1]; exact c1) (fun k hk => by
        rw [c2, evf_o h1 c0]
        by_cases hk2 : k = h - 2
        · subst hk2
          rw [va_eq, va_eq, h3 _ (by omega), h3 _ (by omega)]
        · rw [va_ne (by omega), va_ne hk2, h3 k (by omega)])
      refine ⟨I2, q1, fun h => ⟨vp_in_nI hl (by omega), vp_in_nI (by omega) (by omega), t2, q2 h⟩, q3, q4, q5, fun k hk => ?_⟩
      rw [q6 k hk, c2, va_ne (by omega)]
    · have ch : h' = h + 1 := by rcases cs with c | c; exact absurd c.1 c0; exact c.2.2
      obtain ⟨I2, q1, q2, q3, q4, q5, q6⟩ := ih (j + 1) (by omega) I' g h' (hF.tr t3) e' (by rw [ch]; exact c1) (fun k hk => by
        rw [c2, evf_v h1 c0]
        by_cases hk2 : k = h
        · subst hk2
          rw [va_eq, va_eq]
        · rw [va_ne (by omega), va_ne hk2, h3 k (by omega)])
      refine ⟨I2, q1, fun h => ⟨vp_in_nI hl (by omega), vp_in_nI (by omega) (by omega), t2, q2 h⟩, q3, q4, q5, fun k hk => ?_⟩
      rw [q6 k hk, c2, va_ne (by omega)]
/-! ===== literals ===== -/
def ltB (c : am_I) (lb md : Nat → Nat) (vv : Nat → Int32) (tl : Int32) (l : Nat) : Bool := if c 3 l = 6 then decide (((tl >>> (c 7 (lb l) &&& 31)) &&& 1) = 1) else if c 3 l = 20 then decide (evf vv (c 7) (lb l) (md l - lb l) 0 = evf vv (c 7) (md l) (lb (l + 1) - md l) 0) else if c 3 l = 21 then !(decide (evf vv (c 7) (lb l) (md l - lb l) 0 = evf vv (c 7) (md l) (lb (l + 1) - md l) 0)) else if c 3 l = 22 then !(decide (evf vv (c 7) (md l) (lb (l + 1) - md l) 0 ≤ evf vv (c 7) (lb l) (md l - lb l) 0)) else !(decide (evf vv (c 7) (md l) (lb (l + 1) - md l) 0 < evf vv (c 7) (lb l) (md l - lb l) 0))
def bI (b : Bool) : Int32 := if b then 1 else 0
theorem bI_0 {b : Bool} : bI b = 0 ↔ b = false := by cases b <;> decide
/-- what all rows about consents say -/
def CX (c : am_I) (M : am_I) (g R L S : Nat) (rb lb md : Nat → Nat) : Prop := R ≤ 16 ∧ L ≤ 133 ∧ S ≤ 400 ∧ c 0 7 = nI R ∧ M 55 g = nI R ∧ rb 0 = 0 ∧ lb 0 = 0 ∧ (∀ r, r < R → cRu c M g L rb r) ∧ (∀ l, l < L → cLi c M g S lb md l) ∧ (∀ i, i < S → cCl (c 7 i) (M 65 (500 * g + i)) (M 66 (500 * g + i)))
def cfo (I : am_I) : am_I := fun i => I (38 + i)
theorem th_c {I M : am_I} {g R L S : Nat} {rb lb md : Nat → Nat} {vv : Nat → Int32} {tl : Int32} (hX : CX (cfo I) M g R L S rb lb md) (hv : ∀ q, q < 7 → I 6 q = vv q) (ht : I 5 4 = tl) {l f : Nat} (hl : l < L) (hf : 1000 ≤ f) : ∃ I', s_X1_testHolds f I (nI l) = (bI (ltB (cfo I) lb md vv tl l), I') ∧ p_X1_testHolds f I (nI l) ∧ Fs I I' := by
  obtain ⟨x1, x2, x3, x4, x5, x6, x7, x8, x9, x10⟩ := hX
  have hl133 : l < 133 := by omega
  have hcl := nI_clamp (n := l) (by omega)
  obtain ⟨u1, u2, u3, u4, u5, u6, u7, u8, u9, u10⟩ := x9 l hl
  have h42 : I 42 l = nI (lb (l + 1)) := u5
  have hv133 : vp_in (nI l) 133 := vp_in_nI hl133 (by omega)
  have hfc : s_X1_firstCell (am_w I 5 3 0) (nI l) = nI (lb l) ∧ p_X1_firstCell (nI l) := by
    unfold s_X1_firstCell p_X1_firstCell
    by_cases h0 : l = 0
    · subst h0
      have : nI 0 ≤ (0 : Int32) := by decide
      rw [if_pos this, if_pos this, x7]
      exact ⟨rfl, trivial⟩
    · have n0 : ¬ nI l ≤ (0 : Int32) := nI_nle (by omega) (by omega)
      have n1 : ¬ (133 : Int32) < nI l := nI_nlt (a := 133) (by omega) (by omega)
      rw [if_neg n0, if_neg n0, if_neg n1, if_neg n1, aw_k (by decide)]
      obtain ⟨m, rfl⟩ : ∃ m, l = m + 1 := ⟨l - 1, by omega⟩
      rw [nI_pred, nI_clamp (by omega)]
      obtain ⟨-, -, -, -, w5, -⟩ := x9 m (by omega)
      exact ⟨w5, vp_in_nI (by omega) (by omega)⟩
  unfold s_X1_testHolds p_X1_testHolds
  rw [hfc.1]
  have hF0 : Fs I (am_w I 5 3 0) := Fs.w5 Fs.rf
  have hr : I 45 = cfo I 7 := rfl
  have hcell : ∀ q, q < S → ∃ k v, cCl (cfo I 7 q) k v := fun q hq => ⟨_, _, x10 q hq⟩
  have r41 : ∀ {K : am_I}, Fs I K → K 41 l = cfo I 3 l := fun hF => by rw [hF.r (k := 41) (by decide) (by decide)]; rfl
  rcases u8 with ⟨t6, -, hone, v, hv12, hcv⟩ | ⟨s, hs4, ts, -, m1, m2, -, hg1, hg2⟩
  · have hgt1 : hgt (cfo I 7) (lb l) 1 = some 1 := by
      show (match (some 0 : Option Nat) with | none => none | some h => if 10017 ≤ (cfo I 7 (lb l + 0)).toInt then (if 2 ≤ h then some (h - 1) else none) else (if h < 15 then some (h + 1) else none)) = _
      simp only
      rw [Nat.add_zero, hcv, nI_toInt (by omega), if_neg (by omega), if_pos (by omega)]
    obtain ⟨g', hg'⟩ : ∃ g', f = (g' + 1) + 1 := ⟨f - 2, by omega⟩
    obtain ⟨I1, q1, q2, q3, q4, q5, q6⟩ := sg_c (b := 0) hl133 h42 (by omega) (by omega) hr hv (fun q h1 h2 => hcell q (by omega)) hgt1 (by omega) 1 0 (by omega) (am_w I 5 3 0) (g' + 1) 0 hF0 rfl aw_s (fun k hk => by omega)
    have e1 : evf vv (cfo I 7) (lb l) 1 0 = nI v := by
      rw [evf_v (h := 0) rfl (by rw [Nat.add_zero, hcv, nI_toInt (by omega)]; omega), va_eq, Nat.add_zero, hcv, vlv_i (by omega)]
    rw [hg']
    rw [Nat.add_zero (lb l)] at q1 q2
    rw [q1]
    have r42 : I1 42 l = nI (lb (l + 1)) := by rw [q3.r (k := 42) (by decide) (by decide)]; exact h42
    have hle : nI (lb (l + 1)) ≤ nI (lb l + 1) := nI_le (by omega) (by omega)
    obtain ⟨p1, p2⟩ := pop_1 (I := I1) (t := 0) (by rw [q4]) (by omega)
    have p3 : I1 7 0 = nI v := by rw [← e1]; exact q5 0 (by omega)
    rw [p3] at p1
    have hF2 : Fs I (am_w I1 5 3 (nI 0)) := q3.w5
    have h54 : am_w I1 5 3 (nI 0) 5 4 = tl := by rw [hF2 5 4 (by decide) (by decide)]; exact ht
    rw [u_s_X1_testHolds_L11, hcl, r42, if_pos hle, p1]
    simp only
    rw [r41 hF2, if_pos t6]
    refine ⟨am_w I1 5 3 (nI 0), ?_, ⟨hfc.2, q2 ?_⟩, hF2⟩
    · congr 1
      unfold s_X3_isInTopic ltB bI
      have hb : ¬ s_X9_isBelow (nI v) 12 = 0 := isB_nI (b := 12) hv12 (by omega)
      rw [if_neg hb, h54, if_pos t6, hcv]
      by_cases hbit : ((tl >>> (nI v &&& 31)) &&& 1) = 1
      · rw [if_pos hbit, decide_eq_true hbit]; rfl
      · rw [if_neg hbit, decide_eq_false hbit]; rfl
    · rw [u_p_X1_testHolds_L11, hcl, r42, if_pos hle, p1]
      simp only
      rw [r41 hF2, if_pos t6]
      exact ⟨hv133, p2, hv133, trivial⟩
  · obtain ⟨g', hg'⟩ : ∃ g', f = (g' + 1 + (lb (l + 1) - md l)) + (md l - lb l) := ⟨f - 1 - (lb (l + 1) - md l) - (md l - lb l), by omega⟩
    obtain ⟨I1, q1, q2, q3, q4, q5, q6⟩ := sg_c (b := 0) hl133 h42 (by omega) (by omega) hr hv (fun q h1 h2 => hcell q (by omega)) hg1 (by omega) (md l - lb l) 0 (by omega) (am_w I 5 3 0) (g' + 1 + (lb (l + 1) - md l)) 0 hF0 rfl aw_s (fun k hk => by omega)
    obtain ⟨I2, w1, w2, w3, w4, w5, w6⟩ := sg_c (I0 := I) (b := 1) hl133 h42 (by omega) (by omega) hr hv (fun q h1 h2 => hcell q (by omega)) hg2 (by omega) (lb (l + 1) - md l) 0 (by omega) I1 (g' + 1) 0 q3 rfl q4 (fun k hk => by omega)
    rw [Nat.add_zero (lb l), show lb l + (md l - lb l) = md l by omega] at q1 q2
    rw [Nat.add_zero (md l), show md l + (lb (l + 1) - md l) = lb (l + 1) by omega] at w1 w2
    rw [hg', q1, w1]
    have ea : I2 7 0 = evf vv (cfo I 7) (lb l) (md l - lb l) 0 := by
      rw [w6 0 (by omega)]
      exact q5 0 (by omega)
    have eb : I2 7 1 = evf vv (cfo I 7) (md l) (lb (l + 1) - md l) 0 := w5 0 (by omega)
    have r42 : I2 42 l = nI (lb (l + 1)) := by rw [w3.r (k := 42) (by decide) (by decide)]; exact h42
    have hle : nI (lb (l + 1)) ≤ nI (lb (l + 1)) := nI_le (Nat.le_refl _) (by omega)
    obtain ⟨p1, p2⟩ := pop_1 (I := I2) (t := 1) (by rw [w4]) (by omega)
    obtain ⟨p3, p4⟩ := pop_1 (I := am_w I2 5 3 (nI 1)) (t := 0) aw_s (by omega)
    have hF2 : Fs I (am_w I2 5 3 (nI 1)) := w3.w5
    have hF3 : Fs I (am_w (am_w I2 5 3 (nI 1)) 5 3 (nI 0)) := w3.w5.w5
    rw [aw_k (by decide), ea] at p3
    rw [eb] at p1
    have n6 : ¬ cfo I 3 l = 6 := by
      rw [ts]
      have : s = 0 ∨ s = 1 ∨ s = 2 ∨ s = 3 := by omega
      rcases this with h | h | h | h <;> subst h <;> decide
    refine ⟨am_w (am_w I2 5 3 (nI 1)) 5 3 (nI 0), ?_, ⟨hfc.2, q2 (w2 ?_)⟩, hF3⟩
    · rw [u_s_X1_testHolds_L11, hcl, r42, if_pos hle, p1]
      simp only
      rw [r41 hF2, if_neg n6, p3]
      simp only
      rw [r41 hF3]
      unfold ltB bI
      rw [if_neg n6]
      by_cases c0 : cfo I 3 l = 20
      · rw [if_pos c0, if_pos c0]
        by_cases hq : evf vv (cfo I 7) (lb l) (md l - lb l) 0 = evf vv (cfo I 7) (md l) (lb (l + 1) - md l) 0
        · rw [if_pos hq, decide_eq_true hq]; rfl
        · rw [if_neg hq, decide_eq_false hq]; rfl
      · rw [if_neg c0, if_neg c0]
        by_cases c1 : cfo I 3 l = 21
        · rw [if_pos c1, if_pos c1]
          by_cases hq : evf vv (cfo I 7) (lb l) (md l - lb l) 0 = evf vv (cfo I 7) (md l) (lb (l + 1) - md l) 0
          · rw [if_pos hq, decide_eq_true hq]; rfl
          · rw [if_neg hq, decide_eq_false hq]; rfl
        · rw [if_neg c1, if_neg c1]
          by_cases c2 : cfo I 3 l = 22
          · rw [if_pos c2, if_pos c2]
            by_cases hq : evf vv (cfo I 7) (md l) (lb (l + 1) - md l) 0 ≤ evf vv (cfo I 7) (lb l) (md l - lb l) 0
            · rw [if_pos hq, decide_eq_true hq]; rfl
            · rw [if_neg hq, decide_eq_false hq]; rfl
          · rw [if_neg c2, if_neg c2]
            by_cases hq : evf vv (cfo I 7) (md l) (lb (l + 1) - md l) 0 < evf vv (cfo I 7) (lb l) (md l - lb l) 0
            · rw [if_pos hq, decide_eq_true hq]; rfl
            · rw [if_neg hq, decide_eq_false hq]; rfl
    · rw [u_p_X1_testHolds_L11, hcl, r42, if_pos hle, p1]
      simp only
      rw [r41 hF2, if_neg n6]
      exact ⟨hv133, p2, hv133, p4, hv133⟩
