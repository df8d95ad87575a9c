/-! ===== the law's context at its entry ===== -/
theorem l_arr {args : Array Value} {s : State} {ty : FieldType} (h : (Cond.arrayClass ty).before args s = true) (hn : ∀ C, ty ≠ .object C) : ∃ cA : ClassId, ArrOfT s cA ty ∧ va_RA s cA ty := by
  obtain ⟨c, k, comp, h1, h2, h3⟩ := Cond.arrayClass_spec h
  refine ⟨c, fun n z => ⟨fun k h => (by cases h), k, h2, comp, h3⟩, ?_⟩
  cases ty with
  | object C => exact absurd rfl (hn C)
  | _ => exact h1
theorem l_over {args : Array Value} {s : State} {C : String} (h : (Cond.arrayOver (.object C)).before args s = true) : ∃ cA : ClassId, ArrOfT s cA (.object C) ∧ va_RA s cA (.object C) := by
  obtain ⟨comp, c, k, h1, h2, h3, h4, h5⟩ := Cond.arrayOver_spec h
  exact ⟨c, fun n z => ⟨fun k h => (by cases h), k, h3, comp, h4⟩, k, comp, h3, h4, h1, h5⟩
abbrev l_tm : Term := .string "TapeHouse$Text" 58
def l_flat : List Cond := flatC (Jvm.Cond.and given_1 narrow_1)
set_option maxRecDepth 100000 in
theorem l_el : ∀ j, j < 61 → Cond.eq (.elem (.field l_tm "java/lang/String" "value" "[B") (.int (Int32.ofNat j))) (.int (am_bW.getD j 0)) ∈ l_flat := by decide +kernel
set_option maxRecDepth 100000 in
theorem l_ex : Cond.exactly l_tm "java/lang/String" ∈ l_flat := by decide +kernel
set_option maxRecDepth 100000 in
theorem l_co : Cond.eq (.field l_tm "java/lang/String" "coder" "B") (.int 0) ∈ l_flat := by decide +kernel
set_option maxRecDepth 100000 in
theorem l_ar : Cond.arrayOf (.field l_tm "java/lang/String" "value" "[B") .byte ∈ l_flat := by decide +kernel
set_option maxRecDepth 100000 in
theorem l_le : Cond.eq (.length (.field l_tm "java/lang/String" "value" "[B")) (.int 61) ∈ l_flat := by decide +kernel
set_option maxRecDepth 100000 in
theorem l_cs : Cond.eq (.static "java/lang/String" "COMPACT_STRINGS" "Z") (.int 1) ∈ l_flat := by decide +kernel
set_option maxRecDepth 100000 in
theorem l_si : Cond.isRef (.static "jdk/internal/util/Preconditions" "SIOOBE_FORMATTER" "Ljava/util/function/BiFunction;") ∈ l_flat := by decide +kernel
set_option maxRecDepth 100000 in
set_option maxHeartbeats 4000000 in
theorem l_ctx {p : Program} {s : State} {m : MethodId} {meth : Method} {c : Code} {b N : Nat} {xs : Nat → Int32} (C0 : lw_At p s m meth c b N xs) : ∃ (D : va_G) (dA : Nat → ClassId) (ad : am_AD), am_S ML_law p s m #[Value.ref b] meth c D dA ad (lA s) := by
  obtain ⟨hx, hb, hr, hml, hown, hts, hX, hbl, hlocks, hgv⟩ := id C0
  obtain ⟨c0, i0, hk0⟩ := u_known (C := RX0) (T := TX0) (N := 3) (n := 3) hts am_wX0 (hts (.instantiable RX0 3) (List.mem_of_getElem? (i := 275) (by decide +kernel)))
  obtain ⟨c1, i1, hk1⟩ := u_known (C := RX1) (T := TX1) (N := 11) (n := 11) hts am_wX1 (hts (.instantiable RX1 11) (List.mem_of_getElem? (i := 324) (by decide +kernel)))
  obtain ⟨c2, i2, hk2⟩ := u_known (C := RX2) (T := TX2) (N := 8) (n := 8) hts am_wX2 (hts (.instantiable RX2 8) (List.mem_of_getElem? (i := 125) (by decide +kernel)))
  obtain ⟨c3, i3, hk3⟩ := u_known (C := RX3) (T := TX3) (N := 7) (n := 7) hts am_wX3 (hts (.instantiable RX3 7) (List.mem_of_getElem? (i := 158) (by decide +kernel)))
  obtain ⟨c4, i4, hk4⟩ := u_known (C := RX4) (T := TX4) (N := 12) (n := 12) hts am_wX4 (hts (.instantiable RX4 12) (List.mem_of_getElem? (i := 224) (by decide +kernel)))
  obtain ⟨c5, i5, hk5⟩ := u_known (C := RX5) (T := TX5) (N := 8) (n := 8) hts am_wX5 (hts (.instantiable RX5 8) (List.mem_of_getElem? (i := 292) (by decide +kernel)))
  obtain ⟨c6, i6, hk6⟩ := u_known (C := RX6) (T := TX6) (N := 6) (n := 6) hts am_wX6 (hts (.instantiable RX6 6) (List.mem_of_getElem? (i := 95) (by decide +kernel)))
  obtain ⟨c7, i7, hk7⟩ := u_known (C := RX7) (T := TX7) (N := 2) (n := 2) hts am_wX7 (hts (.instantiable RX7 2) (List.mem_of_getElem? (i := 210) (by decide +kernel)))
  obtain ⟨c8, i8, hk8⟩ := u_known (C := RX8) (T := TX8) (N := 4) (n := 4) hts am_wX8 (hts (.instantiable RX8 4) (List.mem_of_getElem? (i := 188) (by decide +kernel)))
  obtain ⟨c9, i9, hk9⟩ := u_known (C := RX9) (T := TX9) (N := 13) (n := 13) hts am_wX9 (hts (.instantiable RX9 13) (List.mem_of_getElem? (i := 87) (by decide +kernel)))
  obtain ⟨c10, i10, hk10⟩ := u_known (C := RX10) (T := TX10) (N := 69) (n := 69) hts am_wX10 (hts (.instantiable RX10 69) (List.mem_of_getElem? (i := 956) (by decide +kernel)))
  obtain ⟨d0, da0⟩ := l_arr (hts (.arrayClass .int) (List.mem_of_getElem? (i := 156) (by decide +kernel))) (fun _ h => by cases h)
  obtain ⟨d1, da1⟩ := l_arr (hts (.arrayClass .byte) (List.mem_of_getElem? (i := 123) (by decide +kernel))) (fun _ h => by cases h)
  obtain ⟨d2, da2⟩ := l_arr (hts (.arrayClass .short) (List.mem_of_getElem? (i := 365) (by decide +kernel))) (fun _ h => by cases h)
  obtain ⟨d3, da3⟩ := l_arr (hts (.arrayClass .boolean) (List.mem_of_getElem? (i := 366) (by decide +kernel))) (fun _ h => by cases h)
  obtain ⟨d4, da4⟩ := l_arr (hts (.arrayClass .long) (List.mem_of_getElem? (i := 1175) (by decide +kernel))) (fun _ h => by cases h)
  have hao := hts (.arrayOver (.object "TapeHouse$Consent")) (List.mem_of_getElem? (i := 194) (by decide +kernel))
  obtain ⟨d5, da5⟩ := l_over hao
  obtain ⟨dC, dI, hKc⟩ : ∃ (dC : Nat → ClassId) (dI : Nat → Nat → Nat), ∀ (k : Nat) (q : vw_C), vwCl[k]? = some q → u_Kn s q.1 q.2.1 q.2.2 (dC k) (dI k) := by
    refine ⟨fun k => match k with
      | 0 => c0
      | 1 => c1
      | 2 => c2
      | 3 => c3
      | 4 => c4
      | 5 => c5
      | 6 => c6
      | 7 => c7
      | 8 => c8
      | 9 => c9
      | _ => c10, fun k => match k with
      | 0 => i0
      | 1 => i1
      | 2 => i2
      | 3 => i3
      | 4 => i4
      | 5 => i5
      | 6 => i6
      | 7 => i7
      | 8 => i8
      | 9 => i9
      | _ => i10, ?_⟩
    intro k q hq
    match k, hq with
    | 0, hq => cases hq; exact hk0
    | 1, hq => cases hq; exact hk1
    | 2, hq => cases hq; exact hk2
    | 3, hq => cases hq; exact hk3
    | 4, hq => cases hq; exact hk4
    | 5, hq => cases hq; exact hk5
    | 6, hq => cases hq; exact hk6
    | 7, hq => cases hq; exact hk7
    | 8, hq => cases hq; exact hk8
    | 9, hq => cases hq; exact hk9
    | 10, hq => cases hq; exact hk10
    | k + 11, hq => exact absurd (am_cl_lt hq) (by omega)
  have hs : ∀ w ∈ l_flat, w.before #[Value.ref b] s = true := flat_of_before _ hgv
  have hA : ∀ a : Nat, a < s.heap.size → ¬ lA s a := fun a h => Nat.not_le.mpr h
  obtain ⟨adK, adV, hvS, hvK⟩ := vk_Sof (args := #[Value.ref b]) (s := s) (N := 1) (tm := fun _ => l_tm) (len := [61]) (byt := [am_bW]) (A := lA s) (fun i hi => by rw [show i = 0 by omega]; decide) (fun i hi => hs _ l_ex) (fun i hi => hs _ l_co) (fun i hi => hs _ l_ar) (fun i hi => by rw [show i = 0 by omega]; exact hs _ l_le) (fun i hi j hj => by
    rw [show i = 0 by omega] at hj ⊢
    exact hs _ (l_el j hj)) (fun i j hi hj hne => absurd (by omega) hne) hA
  refine ⟨(dC, dI), fun k => match k with
    | 0 => d0
    | 1 => d1
    | 2 => d2
    | 3 => d3
    | 4 => d4
    | _ => d5, (adK, adV), hx, hb, hml, hr, hlocks, fun h => absurd h (by decide), hown, fun w hw => hts w (List.mem_filter.mp hw).1, fun pc q hq => ?_, ⟨⟨hKc, fun k q hq => ?_⟩, fun w hw => ?_, va_AO.of (A := #[Value.ref b]) hao, hvS, ?_, ?_, ?_⟩, fun q h => h⟩
  · have h1 := List.all_eq_true.mp IL_law_ok _ (am_lookup hq)
    exact of_decide_eq_true h1
  · match k, hq with
    | 0, hq => cases hq; exact da0
    | 1, hq => cases hq; exact da1
    | 2, hq => cases hq; exact da2
    | 3, hq => cases hq; exact da3
    | 4, hq => cases hq; exact da4
    | 5, hq => cases hq; exact da5
    | k + 6, hq => simp [am_tys] at hq
  · have hg := (List.mem_filter.mp hw).2
    have h := hts w (List.mem_filter.mp hw).1
    cases w <;> first | exact va_Nw.of rfl h | (simp [am_isN] at hg; done)
  · exact vk_R.of (A := #[Value.ref b]) (hts (.stringRef "TapeHouse$Text" 58 "let keep mask if or and in kind use age dead piece names own ") (List.mem_of_getElem? (i := 472) (by decide +kernel))) (hvK 0 (by decide))
  · exact va_Zof (hts (.laysStatic "java/lang/String" "COMPACT_STRINGS" "Z") (List.mem_of_getElem? (i := 482) (by decide +kernel))) (hts (.initialized "java/lang/String") (List.mem_of_getElem? (i := 80) (by decide +kernel))) (va_eqi (hs _ l_cs)) hA
  · exact va_Zqof (hts (.laysStatic "jdk/internal/util/Preconditions" "SIOOBE_FORMATTER" "Ljava/util/function/BiFunction;") (List.mem_of_getElem? (i := 498) (by decide +kernel))) (hts (.initialized "jdk/internal/util/Preconditions") (List.mem_of_getElem? (i := 82) (by decide +kernel))) (hs _ l_si) hA
