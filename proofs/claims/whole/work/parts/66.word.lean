/-! ===== words of the text ===== -/
def wp (b : Nat → Int32) (e : Nat) : List Int32 → Nat → Bool
  | [], _ => true
  | c :: ws, i => decide (i < e) && decide (b i = c) && wp b e ws (i + 1)
def ckw : Nat → List Int32 → Bool
  | _, [] => true
  | s, c :: ws => decide (am_chr (nI s) = c) && decide (¬ c = 32) && decide (s < 61) && ckw (s + 1) ws
def ckW : Nat → List (List Int32) → Bool
  | s, [] => decide (s = 61)
  | s, w :: W => ckw s w && decide (am_chr (nI (s + w.length)) = 32) && decide (s + w.length < 61) && ckW (s + w.length + 1) W
def KW : List (List Int32) := [[108, 101, 116], [107, 101, 101, 112], [109, 97, 115, 107], [105, 102], [111, 114], [97, 110, 100], [105, 110], [107, 105, 110, 100], [117, 115, 101], [97, 103, 101], [100, 101, 97, 100], [112, 105, 101, 99, 101], [110, 97, 109, 101, 115], [111, 119, 110]]
theorem KW_ok : ckW 0 KW = true := by decide +kernel
def wfind (b : Nat → Int32) (p e : Nat) : List (List Int32) → Nat → Nat
  | [], _ => 14
  | w :: W, k => if wp b e w p = true ∧ p + w.length = e then k else wfind b p e W (k + 1)
def wtot : List (List Int32) → Nat
  | [] => 1
  | w :: W => w.length + 1 + wtot W
theorem wseg {I : am_I} {p e : Nat} {v3 : Int32} (he : e ≤ 2000) : ∀ (ws : List Int32) (s i g : Nat) (al : Bool), ckw s ws = true → i + ws.length ≤ 3000 → s_X6_wordOf_L11 (nI p) (nI e) I (g + ws.length) v3 (nI i) (bI al) (nI s) = s_X6_wordOf_L11 (nI p) (nI e) I g v3 (nI (i + ws.length)) (bI (al && wp (I 2) e ws i)) (nI (s + ws.length)) ∧ (p_X6_wordOf_L11 (nI p) (nI e) I g v3 (nI (i + ws.length)) (bI (al && wp (I 2) e ws i)) (nI (s + ws.length)) → p_X6_wordOf_L11 (nI p) (nI e) I (g + ws.length) v3 (nI i) (bI al) (nI s)) := by
  intro ws
  induction ws with
  | nil =>
    intro s i g al _ _
    simp only [List.length_nil, Nat.add_zero, wp, Bool.and_true]
    exact ⟨trivial, id⟩
  | cons c ws ih =>
    intro s i g al hck hi
    unfold ckw at hck
    simp only [Bool.and_eq_true, decide_eq_true_eq] at hck
    obtain ⟨⟨⟨h1, h2⟩, h3⟩, h4⟩ := hck
    rw [List.length_cons] at hi
    have hc61 : ¬ (61 : Int32) ≤ nI s := nI_ge (b := 61) h3 (by omega)
    have h32 : ¬ am_chr (nI s) = 32 := by rw [h1]; exact h2
    have vs : vp_in (nI s) 61 := vp_in_nI h3 (by omega)
    have st := fun b => ih (s + 1) (i + 1) g b h4 (by omega)
    have el : g + (c :: ws).length = (g + ws.length) + 1 := by rw [List.length_cons]; omega
    have ei : i + (c :: ws).length = i + 1 + ws.length := by rw [List.length_cons]; omega
    have es : s + (c :: ws).length = s + 1 + ws.length := by rw [List.length_cons]; omega
    rw [el, ei, es, u_s_X6_wordOf_L11, u_p_X6_wordOf_L11, if_neg hc61, if_neg hc61, if_neg h32, if_neg h32, nI_1, nI_1, nI_clamp (n := i) (by omega), h1]
    have ew : wp (I 2) e (c :: ws) i = (decide (i < e) && decide (I 2 i = c) && wp (I 2) e ws (i + 1)) := rfl
    rw [ew]
    cases al
    · rw [if_pos (show bI false = 0 from rfl), if_pos (show bI false = 0 from rfl), Bool.false_and]
      obtain ⟨q1, q2⟩ := st false
      rw [Bool.false_and] at q1 q2
      exact ⟨q1, fun h => ⟨vs, q2 h⟩⟩
    · rw [if_neg (show ¬ bI true = 0 by decide), if_neg (show ¬ bI true = 0 by decide), Bool.true_and]
      by_cases hie : i < e
      · have hc : ¬ nI e ≤ nI i := nI_ge hie (by omega)
        have vi : vp_in (nI i) 2000 := vp_in_nI (by omega) (by omega)
        rw [if_neg hc, if_neg hc, decide_eq_true hie, Bool.true_and]
        by_cases hb : I 2 i = c
        · rw [if_pos hb, if_pos hb, decide_eq_true hb, Bool.true_and]
          obtain ⟨q1, q2⟩ := st true
          rw [Bool.true_and] at q1 q2
          exact ⟨q1, fun h => ⟨vs, vi, q2 h⟩⟩
        · rw [if_neg hb, if_neg hb, decide_eq_false hb, Bool.false_and]
          obtain ⟨q1, q2⟩ := st false
          rw [Bool.false_and] at q1 q2
          exact ⟨q1, fun h => ⟨vs, vi, q2 h⟩⟩
      · have hc : nI e ≤ nI i := nI_le (by omega) (by omega)
        rw [if_pos hc, if_pos hc, decide_eq_false hie, Bool.false_and, Bool.false_and]
        obtain ⟨q1, q2⟩ := st false
        rw [Bool.false_and] at q1 q2
        exact ⟨q1, fun h => ⟨vs, q2 h⟩⟩
theorem wall {I : am_I} {p e : Nat} (hp : p ≤ 2000) (he : e ≤ 2000) : ∀ (W : List (List Int32)) (s k g : Nat), ckW s W = true → k + W.length ≤ 14 → s_X6_wordOf_L11 (nI p) (nI e) I (g + wtot W) (nI k) (nI p) 1 (nI s) = nI (wfind (I 2) p e W k) ∧ p_X6_wordOf_L11 (nI p) (nI e) I (g + wtot W) (nI k) (nI p) 1 (nI s) := by
  intro W
  induction W with
  | nil =>
    intro s k g hck hk
    unfold ckW at hck
    rw [decide_eq_true_eq] at hck
    subst hck
    have hc : (61 : Int32) ≤ nI 61 := by decide
    rw [show g + wtot [] = g + 1 from rfl, u_s_X6_wordOf_L11, u_p_X6_wordOf_L11, if_pos hc, if_pos hc]
    exact ⟨rfl, trivial⟩
  | cons w W ih =>
    intro s k g hck hk
    unfold ckW at hck
    simp only [Bool.and_eq_true, decide_eq_true_eq] at hck
    obtain ⟨⟨⟨h1, h2⟩, h3⟩, h4⟩ := hck
    rw [List.length_cons] at hk
    have el : g + wtot (w :: W) = (g + wtot W + 1) + w.length := by show g + (w.length + 1 + wtot W) = _; omega
    obtain ⟨q1, q2⟩ := wseg (I := I) (p := p) (v3 := nI k) he w s p (g + wtot W + 1) true h1 (by omega)
    rw [Bool.true_and] at q1 q2
    rw [el]
    have hc61 : ¬ (61 : Int32) ≤ nI (s + w.length) := nI_ge (b := 61) h3 (by omega)
    have vs : vp_in (nI (s + w.length)) 61 := vp_in_nI h3 (by omega)
    obtain ⟨i1, i2⟩ := ih (s + w.length + 1) (k + 1) g h4 (by omega)
    rw [u_s_X6_wordOf_L11, if_neg hc61, if_pos h2, nI_1, nI_1] at q1
    rw [u_p_X6_wordOf_L11, if_neg hc61, if_pos h2, nI_1, nI_1] at q2
    unfold wfind
    show s_X6_wordOf_L11 _ _ _ _ _ _ (bI true) _ = _ ∧ p_X6_wordOf_L11 _ _ _ _ _ _ (bI true) _
    rw [q1]
    cases hw : wp (I 2) e w p
    · rw [hw] at q2
      rw [if_pos (show bI false = 0 from rfl)] at q2 ⊢
      rw [if_neg (fun h => by cases h.1)]
      exact ⟨i1, q2 ⟨vs, i2⟩⟩
    · rw [hw] at q2
      rw [if_neg (show ¬ bI true = 0 by decide)] at q2 ⊢
      by_cases hl : p + w.length = e
      · have hn : nI (p + w.length) = nI e := by rw [hl]
        rw [if_pos hn] at q2 ⊢
        rw [if_pos ⟨rfl, hl⟩]
        exact ⟨rfl, q2 ⟨vs, trivial⟩⟩
      · have hn : ¬ nI (p + w.length) = nI e := fun h => hl ((nI_eq (by omega) (by omega)).mp h)
        rw [if_neg hn] at q2 ⊢
        rw [if_neg (fun h => hl h.2)]
        exact ⟨i1, q2 ⟨vs, i2⟩⟩
theorem wo_c {I : am_I} {p e f : Nat} (hp : p ≤ 2000) (he : e ≤ 2000) (hf : 100 ≤ f) : s_X6_wordOf f I (nI p) (nI e) = nI (wfind (I 2) p e KW 0) ∧ p_X6_wordOf f I (nI p) (nI e) := by
  have ht : wtot KW = 62 := by decide
  obtain ⟨g, hg⟩ : ∃ g, f = g + wtot KW := ⟨f - 62, by omega⟩
  unfold s_X6_wordOf p_X6_wordOf
  rw [hg]
  exact wall hp he KW 0 0 g KW_ok (by decide)
