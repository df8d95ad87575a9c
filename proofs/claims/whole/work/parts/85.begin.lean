section
/-! ===== the start ===== -/
set_option maxRecDepth 100000 in
theorem v_Gr (j : Nat) : Gr (lQ j k_Q2) := by
  have h : ∀ k f r, ¬ (38 ≤ k ∧ k < 46) → k_Q2 k f = some r → r < 1000 → lQ j k_Q2 k f = some r := by
    intro k f r h1 h2 h3
    rw [lQ_out h1]
    show (k_Q2 k f).map (lqm j) = _
    rw [h2]
    show some (lqm j r) = _
    unfold lqm
    rw [if_neg (by omega)]
  exact ⟨h 0 0 1 (by decide) rfl (by decide), h 0 1 3 (by decide) rfl (by decide), h 0 2 5 (by decide) rfl (by decide), h 0 3 9 (by decide) rfl (by decide), h 0 4 13 (by decide) rfl (by decide), h 0 5 15 (by decide) rfl (by decide), h 0 6 26 (by decide) rfl (by decide), h 0 7 29 (by decide) rfl (by decide), h 0 8 37 (by decide) rfl (by decide), h 1 0 2 (by decide) rfl (by decide), h 3 0 4 (by decide) rfl (by decide), h 5 0 6 (by decide) rfl (by decide), h 5 1 7 (by decide) rfl (by decide), h 5 2 8 (by decide) rfl (by decide), h 9 0 10 (by decide) rfl (by decide), h 9 1 11 (by decide) rfl (by decide), h 9 2 12 (by decide) rfl (by decide), h 13 0 14 (by decide) rfl (by decide), h 15 0 16 (by decide) rfl (by decide), h 15 1 17 (by decide) rfl (by decide), h 15 2 18 (by decide) rfl (by decide), h 15 4 19 (by decide) rfl (by decide), h 15 5 20 (by decide) rfl (by decide), h 15 6 21 (by decide) rfl (by decide), h 15 7 22 (by decide) rfl (by decide), h 15 8 23 (by decide) rfl (by decide), h 15 9 24 (by decide) rfl (by decide), h 15 10 25 (by decide) rfl (by decide), h 26 0 27 (by decide) rfl (by decide), h 26 1 28 (by decide) rfl (by decide), h 29 0 30 (by decide) rfl (by decide), h 29 1 31 (by decide) rfl (by decide), h 29 2 32 (by decide) rfl (by decide), h 29 3 33 (by decide) rfl (by decide), h 29 4 34 (by decide) rfl (by decide), h 29 5 35 (by decide) rfl (by decide), h 29 6 36 (by decide) rfl (by decide), rfl, rfl, rfl, rfl, rfl, rfl, rfl, h 46 1 47 (by decide) rfl (by decide), h 46 3 48 (by decide) rfl (by decide), h 46 5 49 (by decide) rfl (by decide), h 46 6 50 (by decide) rfl (by decide), h 46 7 51 (by decide) rfl (by decide), h 46 8 52 (by decide) rfl (by decide), h 46 9 53 (by decide) rfl (by decide), h 46 18 54 (by decide) rfl (by decide), h 46 20 55 (by decide) rfl (by decide), h 46 21 56 (by decide) rfl (by decide), h 46 22 57 (by decide) rfl (by decide), h 46 23 58 (by decide) rfl (by decide), h 46 24 59 (by decide) rfl (by decide), h 46 25 60 (by decide) rfl (by decide), h 46 26 61 (by decide) rfl (by decide), h 46 27 62 (by decide) rfl (by decide), h 46 28 63 (by decide) rfl (by decide), h 46 29 64 (by decide) rfl (by decide), h 46 31 65 (by decide) rfl (by decide), h 46 32 66 (by decide) rfl (by decide), h 46 33 67 (by decide) rfl (by decide), h 46 36 68 (by decide) rfl (by decide), h 46 37 69 (by decide) rfl (by decide), h 46 39 70 (by decide) rfl (by decide), h 46 41 71 (by decide) rfl (by decide), h 46 42 72 (by decide) rfl (by decide), h 46 43 73 (by decide) rfl (by decide), h 46 45 74 (by decide) rfl (by decide), h 46 46 75 (by decide) rfl (by decide), h 46 47 76 (by decide) rfl (by decide), h 46 48 77 (by decide) rfl (by decide), h 46 49 78 (by decide) rfl (by decide), h 46 50 79 (by decide) rfl (by decide), h 46 51 80 (by decide) rfl (by decide), h 46 53 81 (by decide) rfl (by decide), h 46 55 82 (by decide) rfl (by decide), h 46 57 83 (by decide) rfl (by decide), h 46 58 84 (by decide) rfl (by decide), h 46 60 85 (by decide) rfl (by decide), h 46 62 86 (by decide) rfl (by decide), h 46 63 87 (by decide) rfl (by decide), h 46 64 88 (by decide) rfl (by decide), h 46 65 89 (by decide) rfl (by decide), h 46 66 90 (by decide) rfl (by decide), h 46 67 91 (by decide) rfl (by decide)⟩
set_option maxRecDepth 100000 in
set_option maxHeartbeats 4000000 in
theorem v_0 : VV 1 k_I k_J k_Q2 k_E := by
  have z0 : (0 : Int32).toInt = 0 := rfl
  refine ⟨⟨⟨rfl, fun k => (by decide : vp_nar .byte 0 = 0)⟩, rfl, rfl, rfl, rfl, rfl, rfl, rfl, rfl, rfl, rfl, rfl⟩, ⟨rfl, rfl, rfl, rfl, rfl, rfl, rfl, rfl, rfl, rfl, rfl, rfl, rfl, rfl, rfl⟩, ?_, ⟨fun p hp => ?_, fun t hp => ?_⟩, ⟨rfl, rfl, fun k hk => ?_, fun m hm => ?_⟩, ⟨0, fun _ => 0, by omega, rfl, rfl, fun p _ => Nat.one_pos, fun p q hp hq _ => by omega, rfl, fun p hp => absurd hp (by omega), fun p _ _ => ⟨rfl, rfl⟩⟩, ⟨v_Gr, fun k f r hr => ?_⟩, rfl⟩
  · have h : ∀ n : Int, 0 ≤ n → 0 ≤ (0 : Int32).toInt ∧ (0 : Int32).toInt ≤ n := fun n hn => ⟨by rw [z0]; exact Int.le_refl 0, by rw [z0]; exact hn⟩
    exact ⟨h 2000 (by decide), h 12 (by decide), h 12 (by decide), h 6 (by decide), h 30 (by decide), h 6 (by decide), h 4 (by decide), h 12 (by decide)⟩
  · have hp' : (p : Int) < (0 : Int32).toInt := hp
    rw [z0] at hp'
    omega
  · have hp' : (t : Int) < (0 : Int32).toInt := hp
    rw [z0] at hp'
    omega
  · have hp' : (k : Int) < (0 : Int32).toInt := hk
    rw [z0] at hp'
    omega
  · have hp' : (m : Int) ≤ (0 : Int32).toInt := hm
    rw [z0] at hp'
    have e : m = 0 := by omega
    subst e
    refine ⟨0, ⟨by decide, ⟨fun _ => 0, fun e _ => ⟨Int.le_refl 0, (by decide : (0 : Int) ≤ 9999)⟩, fun k hk => absurd hk (by omega)⟩, fun s' h1 _ => ?_⟩, rfl⟩
    have e : s' = 0 := by omega
    subst e
    exact Or.inr ⟨rfl, Nat.le_refl 0⟩
  · rcases k_q2 k f r hr with h | h
    · exact Or.inl h
    · exact Or.inr (by omega)
theorem v_all : l_all VV := fun xs i => ⟨sp_feed _ _ _ _ _, sp_back _, sp_read _, sp_place, ⟨fun h => sp_per1 _ _ _ _ h, sp_per2 _ _ _ _, sp_per3 _ _ _ _⟩, sp_topic _, sp_tape _ _ _, sp_piece _ _ _ _ _ _, sp_asker _, sp_copy _, sp_bound _, sp_dies _ _, sp_takes _ _, sp_let _ _ _ _, sp_mask _ _ _ _, sp_would _ _ _ _ _, sp_ask _ _ _ _ _, sp_heard _ _, sp_could _ _, sp_seconds _ _, sp_opens _ _ _ _, sp_at _ _, sp_span _ _ _, sp_behind _ _ _, sp_same _ _, sp_left _, sp_when _ _ _, sp_count _⟩
theorem whole_start {p : Program} {e : Env} {s : State} {m : MethodId} {below : List Frame} {meth : Method} {c : Code} (l : Launch) {b L : Nat} {xs : Nat → Int32} (hL : L ≤ 3584) (C0 : lw_At p s m meth c b L xs) : W p l e room_1 s m #[Value.ref b] below meth c s.heap [] 0 0 (lw_Z below #[Value.ref b] s) (entryFrame m ([Value.ref b] : List Value).toArray 4) := l_start l hL v_all v_0 C0
end
