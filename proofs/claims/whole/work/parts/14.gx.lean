theorem gy_if_eq {y : am_MD} {d mc ms kc ks n pc q r : Nat} {L : List (Option Value)} {st : List Value} {I : am_I} {J : am_J} {Q : am_Q} {β : Type} {F : β → am_R} {a b : β} {x : Int32} {off : Int} (hat : am_at y pc = some (.ifCond .eq off, 3)) (hq : pc + 3 = q) (hr : (pc : Int) + off = (r : Int)) (kt : x = 0 → Gd y (am_o d mc ms (F a)) kc ks n r L (st) I J Q) (kf : ¬ x = 0 → Gd y (am_o d mc ms (F b)) kc ks n q L (st) I J Q) : Gd y (am_o d mc ms (F (if x = 0 then a else b))) kc ks n pc L (.int x :: st) I J Q := by
  by_cases hc : x = 0
  · rw [if_pos hc]
    exact gd_if_eq hat hq hr (fun _ => kt hc) (fun h => absurd hc h)
  · rw [if_neg hc]
    exact gd_if_eq hat hq hr (fun h => absurd h hc) (fun _ => kf hc)
theorem gx_if_eq {y : am_MD} {d mc ms kc ks n pc q r : Nat} {L : List (Option Value)} {st : List Value} {I : am_I} {J : am_J} {Q : am_Q} {β : Type} {F : β → am_R} {a b : β} {x : Int32} {P1 P2 : Prop} {off : Int} (hat : am_at y pc = some (.ifCond .eq off, 3)) (hq : pc + 3 = q) (hr : (pc : Int) + off = (r : Int)) (hp : if x = 0 then P1 else P2) (kt : x = 0 → P1 → Gd y (am_o d mc ms (F a)) kc ks n r L (st) I J Q) (kf : ¬ x = 0 → P2 → Gd y (am_o d mc ms (F b)) kc ks n q L (st) I J Q) : Gd y (am_o d mc ms (F (if x = 0 then a else b))) kc ks n pc L (.int x :: st) I J Q :=
  gy_if_eq hat hq hr (fun hc => kt hc (by rw [if_pos hc] at hp; exact hp)) (fun hc => kf hc (by rw [if_neg hc] at hp; exact hp))
theorem gy_icmp_eq {y : am_MD} {d mc ms kc ks n pc q r : Nat} {L : List (Option Value)} {st : List Value} {I : am_I} {J : am_J} {Q : am_Q} {β : Type} {F : β → am_R} {a b : β} {x z : Int32} {off : Int} (hat : am_at y pc = some (.if_icmp .eq off, 3)) (hq : pc + 3 = q) (hr : (pc : Int) + off = (r : Int)) (kt : x = z → Gd y (am_o d mc ms (F a)) kc ks n r L (st) I J Q) (kf : ¬ x = z → Gd y (am_o d mc ms (F b)) kc ks n q L (st) I J Q) : Gd y (am_o d mc ms (F (if x = z then a else b))) kc ks n pc L (.int z :: .int x :: st) I J Q := by
  by_cases hc : x = z
  · rw [if_pos hc]
    exact gd_icmp_eq hat hq hr (fun _ => kt hc) (fun h => absurd hc h)
  · rw [if_neg hc]
    exact gd_icmp_eq hat hq hr (fun h => absurd h hc) (fun _ => kf hc)
theorem gx_icmp_eq {y : am_MD} {d mc ms kc ks n pc q r : Nat} {L : List (Option Value)} {st : List Value} {I : am_I} {J : am_J} {Q : am_Q} {β : Type} {F : β → am_R} {a b : β} {x z : Int32} {P1 P2 : Prop} {off : Int} (hat : am_at y pc = some (.if_icmp .eq off, 3)) (hq : pc + 3 = q) (hr : (pc : Int) + off = (r : Int)) (hp : if x = z then P1 else P2) (kt : x = z → P1 → Gd y (am_o d mc ms (F a)) kc ks n r L (st) I J Q) (kf : ¬ x = z → P2 → Gd y (am_o d mc ms (F b)) kc ks n q L (st) I J Q) : Gd y (am_o d mc ms (F (if x = z then a else b))) kc ks n pc L (.int z :: .int x :: st) I J Q :=
  gy_icmp_eq hat hq hr (fun hc => kt hc (by rw [if_pos hc] at hp; exact hp)) (fun hc => kf hc (by rw [if_neg hc] at hp; exact hp))
theorem gy_if_ne {y : am_MD} {d mc ms kc ks n pc q r : Nat} {L : List (Option Value)} {st : List Value} {I : am_I} {J : am_J} {Q : am_Q} {β : Type} {F : β → am_R} {a b : β} {x : Int32} {off : Int} (hat : am_at y pc = some (.ifCond .ne off, 3)) (hq : pc + 3 = q) (hr : (pc : Int) + off = (r : Int)) (kt : x = 0 → Gd y (am_o d mc ms (F a)) kc ks n q L (st) I J Q) (kf : ¬ x = 0 → Gd y (am_o d mc ms (F b)) kc ks n r L (st) I J Q) : Gd y (am_o d mc ms (F (if x = 0 then a else b))) kc ks n pc L (.int x :: st) I J Q := by
  by_cases hc : x = 0
  · rw [if_pos hc]
    exact gd_if_ne hat hq hr (fun h => absurd hc h) (fun _ => kt hc)
  · rw [if_neg hc]
    exact gd_if_ne hat hq hr (fun _ => kf hc) (fun h => absurd h hc)
theorem gx_if_ne {y : am_MD} {d mc ms kc ks n pc q r : Nat} {L : List (Option Value)} {st : List Value} {I : am_I} {J : am_J} {Q : am_Q} {β : Type} {F : β → am_R} {a b : β} {x : Int32} {P1 P2 : Prop} {off : Int} (hat : am_at y pc = some (.ifCond .ne off, 3)) (hq : pc + 3 = q) (hr : (pc : Int) + off = (r : Int)) (hp : if x = 0 then P1 else P2) (kt : x = 0 → P1 → Gd y (am_o d mc ms (F a)) kc ks n q L (st) I J Q) (kf : ¬ x = 0 → P2 → Gd y (am_o d mc ms (F b)) kc ks n r L (st) I J Q) : Gd y (am_o d mc ms (F (if x = 0 then a else b))) kc ks n pc L (.int x :: st) I J Q :=
  gy_if_ne hat hq hr (fun hc => kt hc (by rw [if_pos hc] at hp; exact hp)) (fun hc => kf hc (by rw [if_neg hc] at hp; exact hp))
theorem gy_icmp_ne {y : am_MD} {d mc ms kc ks n pc q r : Nat} {L : List (Option Value)} {st : List Value} {I : am_I} {J : am_J} {Q : am_Q} {β : Type} {F : β → am_R} {a b : β} {x z : Int32} {off : Int} (hat : am_at y pc = some (.if_icmp .ne off, 3)) (hq : pc + 3 = q) (hr : (pc : Int) + off = (r : Int)) (kt : x = z → Gd y (am_o d mc ms (F a)) kc ks n q L (st) I J Q) (kf : ¬ x = z → Gd y (am_o d mc ms (F b)) kc ks n r L (st) I J Q) : Gd y (am_o d mc ms (F (if x = z then a else b))) kc ks n pc L (.int z :: .int x :: st) I J Q := by
  by_cases hc : x = z
  · rw [if_pos hc]
    exact gd_icmp_ne hat hq hr (fun h => absurd hc h) (fun _ => kt hc)
  · rw [if_neg hc]
    exact gd_icmp_ne hat hq hr (fun _ => kf hc) (fun h => absurd h hc)
theorem gx_icmp_ne {y : am_MD} {d mc ms kc ks n pc q r : Nat} {L : List (Option Value)} {st : List Value} {I : am_I} {J : am_J} {Q : am_Q} {β : Type} {F : β → am_R} {a b : β} {x z : Int32} {P1 P2 : Prop} {off : Int} (hat : am_at y pc = some (.if_icmp .ne off, 3)) (hq : pc + 3 = q) (hr : (pc : Int) + off = (r : Int)) (hp : if x = z then P1 else P2) (kt : x = z → P1 → Gd y (am_o d mc ms (F a)) kc ks n q L (st) I J Q) (kf : ¬ x = z → P2 → Gd y (am_o d mc ms (F b)) kc ks n r L (st) I J Q) : Gd y (am_o d mc ms (F (if x = z then a else b))) kc ks n pc L (.int z :: .int x :: st) I J Q :=
  gy_icmp_ne hat hq hr (fun hc => kt hc (by rw [if_pos hc] at hp; exact hp)) (fun hc => kf hc (by rw [if_neg hc] at hp; exact hp))
theorem gy_if_lt {y : am_MD} {d mc ms kc ks n pc q r : Nat} {L : List (Option Value)} {st : List Value} {I : am_I} {J : am_J} {Q : am_Q} {β : Type} {F : β → am_R} {a b : β} {x : Int32} {off : Int} (hat : am_at y pc = some (.ifCond .lt off, 3)) (hq : pc + 3 = q) (hr : (pc : Int) + off = (r : Int)) (kt : x < 0 → Gd y (am_o d mc ms (F a)) kc ks n r L (st) I J Q) (kf : ¬ x < 0 → Gd y (am_o d mc ms (F b)) kc ks n q L (st) I J Q) : Gd y (am_o d mc ms (F (if x < 0 then a else b))) kc ks n pc L (.int x :: st) I J Q := by
  by_cases hc : x < 0
  · rw [if_pos hc]
    exact gd_if_lt hat hq hr (fun _ => kt hc) (fun h => absurd hc h)
  · rw [if_neg hc]
    exact gd_if_lt hat hq hr (fun h => absurd h hc) (fun _ => kf hc)
theorem gx_if_lt {y : am_MD} {d mc ms kc ks n pc q r : Nat} {L : List (Option Value)} {st : List Value} {I : am_I} {J : am_J} {Q : am_Q} {β : Type} {F : β → am_R} {a b : β} {x : Int32} {P1 P2 : Prop} {off : Int} (hat : am_at y pc = some (.ifCond .lt off, 3)) (hq : pc + 3 = q) (hr : (pc : Int) + off = (r : Int)) (hp : if x < 0 then P1 else P2) (kt : x < 0 → P1 → Gd y (am_o d mc ms (F a)) kc ks n r L (st) I J Q) (kf : ¬ x < 0 → P2 → Gd y (am_o d mc ms (F b)) kc ks n q L (st) I J Q) : Gd y (am_o d mc ms (F (if x < 0 then a else b))) kc ks n pc L (.int x :: st) I J Q :=
  gy_if_lt hat hq hr (fun hc => kt hc (by rw [if_pos hc] at hp; exact hp)) (fun hc => kf hc (by rw [if_neg hc] at hp; exact hp))
theorem gy_icmp_lt {y : am_MD} {d mc ms kc ks n pc q r : Nat} {L : List (Option Value)} {st : List Value} {I : am_I} {J : am_J} {Q : am_Q} {β : Type} {F : β → am_R} {a b : β} {x z : Int32} {off : Int} (hat : am_at y pc = some (.if_icmp .lt off, 3)) (hq : pc + 3 = q) (hr : (pc : Int) + off = (r : Int)) (kt : x < z → Gd y (am_o d mc ms (F a)) kc ks n r L (st) I J Q) (kf : ¬ x < z → Gd y (am_o d mc ms (F b)) kc ks n q L (st) I J Q) : Gd y (am_o d mc ms (F (if x < z then a else b))) kc ks n pc L (.int z :: .int x :: st) I J Q := by
  by_cases hc : x < z
  · rw [if_pos hc]
    exact gd_icmp_lt hat hq hr (fun _ => kt hc) (fun h => absurd hc h)
  · rw [if_neg hc]
    exact gd_icmp_lt hat hq hr (fun h => absurd h hc) (fun _ => kf hc)
theorem gx_icmp_lt {y : am_MD} {d mc ms kc ks n pc q r : Nat} {L : List (Option Value)} {st : List Value} {I : am_I} {J : am_J} {Q : am_Q} {β : Type} {F : β → am_R} {a b : β} {x z : Int32} {P1 P2 : Prop} {off : Int} (hat : am_at y pc = some (.if_icmp .lt off, 3)) (hq : pc + 3 = q) (hr : (pc : Int) + off = (r : Int)) (hp : if x < z then P1 else P2) (kt : x < z → P1 → Gd y (am_o d mc ms (F a)) kc ks n r L (st) I J Q) (kf : ¬ x < z → P2 → Gd y (am_o d mc ms (F b)) kc ks n q L (st) I J Q) : Gd y (am_o d mc ms (F (if x < z then a else b))) kc ks n pc L (.int z :: .int x :: st) I J Q :=
  gy_icmp_lt hat hq hr (fun hc => kt hc (by rw [if_pos hc] at hp; exact hp)) (fun hc => kf hc (by rw [if_neg hc] at hp; exact hp))
theorem gy_if_ge {y : am_MD} {d mc ms kc ks n pc q r : Nat} {L : List (Option Value)} {st : List Value} {I : am_I} {J : am_J} {Q : am_Q} {β : Type} {F : β → am_R} {a b : β} {x : Int32} {off : Int} (hat : am_at y pc = some (.ifCond .ge off, 3)) (hq : pc + 3 = q) (hr : (pc : Int) + off = (r : Int)) (kt : 0 ≤ x → Gd y (am_o d mc ms (F a)) kc ks n r L (st) I J Q) (kf : ¬ 0 ≤ x → Gd y (am_o d mc ms (F b)) kc ks n q L (st) I J Q) : Gd y (am_o d mc ms (F (if 0 ≤ x then a else b))) kc ks n pc L (.int x :: st) I J Q := by
  by_cases hc : 0 ≤ x
  · rw [if_pos hc]
    exact gd_if_ge hat hq hr (fun _ => kt hc) (fun h => absurd hc h)
  · rw [if_neg hc]
    exact gd_if_ge hat hq hr (fun h => absurd h hc) (fun _ => kf hc)
theorem gx_if_ge {y : am_MD} {d mc ms kc ks n pc q r : Nat} {L : List (Option Value)} {st : List Value} {I : am_I} {J : am_J} {Q : am_Q} {β : Type} {F : β → am_R} {a b : β} {x : Int32} {P1 P2 : Prop} {off : Int} (hat : am_at y pc = some (.ifCond .ge off, 3)) (hq : pc + 3 = q) (hr : (pc : Int) + off = (r : Int)) (hp : if 0 ≤ x then P1 else P2) (kt : 0 ≤ x → P1 → Gd y (am_o d mc ms (F a)) kc ks n r L (st) I J Q) (kf : ¬ 0 ≤ x → P2 → Gd y (am_o d mc ms (F b)) kc ks n q L (st) I J Q) : Gd y (am_o d mc ms (F (if 0 ≤ x then a else b))) kc ks n pc L (.int x :: st) I J Q :=
  gy_if_ge hat hq hr (fun hc => kt hc (by rw [if_pos hc] at hp; exact hp)) (fun hc => kf hc (by rw [if_neg hc] at hp; exact hp))
theorem gy_icmp_ge {y : am_MD} {d mc ms kc ks n pc q r : Nat} {L : List (Option Value)} {st : List Value} {I : am_I} {J : am_J} {Q : am_Q} {β : Type} {F : β → am_R} {a b : β} {x z : Int32} {off : Int} (hat : am_at y pc = some (.if_icmp .ge off, 3)) (hq : pc + 3 = q) (hr : (pc : Int) + off = (r : Int)) (kt : z ≤ x → Gd y (am_o d mc ms (F a)) kc ks n r L (st) I J Q) (kf : ¬ z ≤ x → Gd y (am_o d mc ms (F b)) kc ks n q L (st) I J Q) : Gd y (am_o d mc ms (F (if z ≤ x then a else b))) kc ks n pc L (.int z :: .int x :: st) I J Q := by
  by_cases hc : z ≤ x
  · rw [if_pos hc]
    exact gd_icmp_ge hat hq hr (fun _ => kt hc) (fun h => absurd hc h)
  · rw [if_neg hc]
    exact gd_icmp_ge hat hq hr (fun h => absurd h hc) (fun _ => kf hc)
theorem gx_icmp_ge {y : am_MD} {d mc ms kc ks n pc q r : Nat} {L : List (Option Value)} {st : List Value} {I : am_I} {J : am_J} {Q : am_Q} {β : Type} {F : β → am_R} {a b : β} {x z : Int32} {P1 P2 : Prop} {off : Int} (hat : am_at y pc = some (.if_icmp .ge off, 3)) (hq : pc + 3 = q) (hr : (pc : Int) + off = (r : Int)) (hp : if z ≤ x then P1 else P2) (kt : z ≤ x → P1 → Gd y (am_o d mc ms (F a)) kc ks n r L (st) I J Q) (kf : ¬ z ≤ x → P2 → Gd y (am_o d mc ms (F b)) kc ks n q L (st) I J Q) : Gd y (am_o d mc ms (F (if z ≤ x then a else b))) kc ks n pc L (.int z :: .int x :: st) I J Q :=
  gy_icmp_ge hat hq hr (fun hc => kt hc (by rw [if_pos hc] at hp; exact hp)) (fun hc => kf hc (by rw [if_neg hc] at hp; exact hp))
theorem gy_if_gt {y : am_MD} {d mc ms kc ks n pc q r : Nat} {L : List (Option Value)} {st : List Value} {I : am_I} {J : am_J} {Q : am_Q} {β : Type} {F : β → am_R} {a b : β} {x : Int32} {off : Int} (hat : am_at y pc = some (.ifCond .gt off, 3)) (hq : pc + 3 = q) (hr : (pc : Int) + off = (r : Int)) (kt : 0 < x → Gd y (am_o d mc ms (F a)) kc ks n r L (st) I J Q) (kf : ¬ 0 < x → Gd y (am_o d mc ms (F b)) kc ks n q L (st) I J Q) : Gd y (am_o d mc ms (F (if 0 < x then a else b))) kc ks n pc L (.int x :: st) I J Q := by
  by_cases hc : 0 < x
  · rw [if_pos hc]
    exact gd_if_gt hat hq hr (fun _ => kt hc) (fun h => absurd hc h)
  · rw [if_neg hc]
    exact gd_if_gt hat hq hr (fun h => absurd h hc) (fun _ => kf hc)
theorem gx_if_gt {y : am_MD} {d mc ms kc ks n pc q r : Nat} {L : List (Option Value)} {st : List Value} {I : am_I} {J : am_J} {Q : am_Q} {β : Type} {F : β → am_R} {a b : β} {x : Int32} {P1 P2 : Prop} {off : Int} (hat : am_at y pc = some (.ifCond .gt off, 3)) (hq : pc + 3 = q) (hr : (pc : Int) + off = (r : Int)) (hp : if 0 < x then P1 else P2) (kt : 0 < x → P1 → Gd y (am_o d mc ms (F a)) kc ks n r L (st) I J Q) (kf : ¬ 0 < x → P2 → Gd y (am_o d mc ms (F b)) kc ks n q L (st) I J Q) : Gd y (am_o d mc ms (F (if 0 < x then a else b))) kc ks n pc L (.int x :: st) I J Q :=
  gy_if_gt hat hq hr (fun hc => kt hc (by rw [if_pos hc] at hp; exact hp)) (fun hc => kf hc (by rw [if_neg hc] at hp; exact hp))
theorem gy_icmp_gt {y : am_MD} {d mc ms kc ks n pc q r : Nat} {L : List (Option Value)} {st : List Value} {I : am_I} {J : am_J} {Q : am_Q} {β : Type} {F : β → am_R} {a b : β} {x z : Int32} {off : Int} (hat : am_at y pc = some (.if_icmp .gt off, 3)) (hq : pc + 3 = q) (hr : (pc : Int) + off = (r : Int)) (kt : z < x → Gd y (am_o d mc ms (F a)) kc ks n r L (st) I J Q) (kf : ¬ z < x → Gd y (am_o d mc ms (F b)) kc ks n q L (st) I J Q) : Gd y (am_o d mc ms (F (if z < x then a else b))) kc ks n pc L (.int z :: .int x :: st) I J Q := by
  by_cases hc : z < x
  · rw [if_pos hc]
    exact gd_icmp_gt hat hq hr (fun _ => kt hc) (fun h => absurd hc h)
  · rw [if_neg hc]
    exact gd_icmp_gt hat hq hr (fun h => absurd h hc) (fun _ => kf hc)
theorem gx_icmp_gt {y : am_MD} {d mc ms kc ks n pc q r : Nat} {L : List (Option Value)} {st : List Value} {I : am_I} {J : am_J} {Q : am_Q} {β : Type} {F : β → am_R} {a b : β} {x z : Int32} {P1 P2 : Prop} {off : Int} (hat : am_at y pc = some (.if_icmp .gt off, 3)) (hq : pc + 3 = q) (hr : (pc : Int) + off = (r : Int)) (hp : if z < x then P1 else P2) (kt : z < x → P1 → Gd y (am_o d mc ms (F a)) kc ks n r L (st) I J Q) (kf : ¬ z < x → P2 → Gd y (am_o d mc ms (F b)) kc ks n q L (st) I J Q) : Gd y (am_o d mc ms (F (if z < x then a else b))) kc ks n pc L (.int z :: .int x :: st) I J Q :=
  gy_icmp_gt hat hq hr (fun hc => kt hc (by rw [if_pos hc] at hp; exact hp)) (fun hc => kf hc (by rw [if_neg hc] at hp; exact hp))
theorem gy_if_le {y : am_MD} {d mc ms kc ks n pc q r : Nat} {L : List (Option Value)} {st : List Value} {I : am_I} {J : am_J} {Q : am_Q} {β : Type} {F : β → am_R} {a b : β} {x : Int32} {off : Int} (hat : am_at y pc = some (.ifCond .le off, 3)) (hq : pc + 3 = q) (hr : (pc : Int) + off = (r : Int)) (kt : x ≤ 0 → Gd y (am_o d mc ms (F a)) kc ks n r L (st) I J Q) (kf : ¬ x ≤ 0 → Gd y (am_o d mc ms (F b)) kc ks n q L (st) I J Q) : Gd y (am_o d mc ms (F (if x ≤ 0 then a else b))) kc ks n pc L (.int x :: st) I J Q := by
  by_cases hc : x ≤ 0
  · rw [if_pos hc]
    exact gd_if_le hat hq hr (fun _ => kt hc) (fun h => absurd hc h)
  · rw [if_neg hc]
    exact gd_if_le hat hq hr (fun h => absurd h hc) (fun _ => kf hc)
theorem gx_if_le {y : am_MD} {d mc ms kc ks n pc q r : Nat} {L : List (Option Value)} {st : List Value} {I : am_I} {J : am_J} {Q : am_Q} {β : Type} {F : β → am_R} {a b : β} {x : Int32} {P1 P2 : Prop} {off : Int} (hat : am_at y pc = some (.ifCond .le off, 3)) (hq : pc + 3 = q) (hr : (pc : Int) + off = (r : Int)) (hp : if x ≤ 0 then P1 else P2) (kt : x ≤ 0 → P1 → Gd y (am_o d mc ms (F a)) kc ks n r L (st) I J Q) (kf : ¬ x ≤ 0 → P2 → Gd y (am_o d mc ms (F b)) kc ks n q L (st) I J Q) : Gd y (am_o d mc ms (F (if x ≤ 0 then a else b))) kc ks n pc L (.int x :: st) I J Q :=
  gy_if_le hat hq hr (fun hc => kt hc (by rw [if_pos hc] at hp; exact hp)) (fun hc => kf hc (by rw [if_neg hc] at hp; exact hp))
theorem gy_icmp_le {y : am_MD} {d mc ms kc ks n pc q r : Nat} {L : List (Option Value)} {st : List Value} {I : am_I} {J : am_J} {Q : am_Q} {β : Type} {F : β → am_R} {a b : β} {x z : Int32} {off : Int} (hat : am_at y pc = some (.if_icmp .le off, 3)) (hq : pc + 3 = q) (hr : (pc : Int) + off = (r : Int)) (kt : x ≤ z → Gd y (am_o d mc ms (F a)) kc ks n r L (st) I J Q) (kf : ¬ x ≤ z → Gd y (am_o d mc ms (F b)) kc ks n q L (st) I J Q) : Gd y (am_o d mc ms (F (if x ≤ z then a else b))) kc ks n pc L (.int z :: .int x :: st) I J Q := by
  by_cases hc : x ≤ z
  · rw [if_pos hc]
    exact gd_icmp_le hat hq hr (fun _ => kt hc) (fun h => absurd hc h)
  · rw [if_neg hc]
    exact gd_icmp_le hat hq hr (fun h => absurd h hc) (fun _ => kf hc)
theorem gx_icmp_le {y : am_MD} {d mc ms kc ks n pc q r : Nat} {L : List (Option Value)} {st : List Value} {I : am_I} {J : am_J} {Q : am_Q} {β : Type} {F : β → am_R} {a b : β} {x z : Int32} {P1 P2 : Prop} {off : Int} (hat : am_at y pc = some (.if_icmp .le off, 3)) (hq : pc + 3 = q) (hr : (pc : Int) + off = (r : Int)) (hp : if x ≤ z then P1 else P2) (kt : x ≤ z → P1 → Gd y (am_o d mc ms (F a)) kc ks n r L (st) I J Q) (kf : ¬ x ≤ z → P2 → Gd y (am_o d mc ms (F b)) kc ks n q L (st) I J Q) : Gd y (am_o d mc ms (F (if x ≤ z then a else b))) kc ks n pc L (.int z :: .int x :: st) I J Q :=
  gy_icmp_le hat hq hr (fun hc => kt hc (by rw [if_pos hc] at hp; exact hp)) (fun hc => kf hc (by rw [if_neg hc] at hp; exact hp))
theorem am_H.drop {ls : Array Slot} {nL : Nat} {al : Nat → Nat} {L : List (Option Value)} (h : am_H ls nL al L) (i : Nat) : am_H ls nL al (L.set i none) := by
  refine ⟨h.1, h.2.1, fun q hq => ?_⟩
  obtain ⟨a, w, h1, h2⟩ := (am_ll_mem _ 0 q).mp hq
  by_cases ha : a = i
  · subst ha
    have hlt : a < (L.set a none).length := (List.getElem?_eq_some_iff.mp h1).1
    rw [List.getElem?_set_self (by simpa using hlt)] at h1
    cases h1
  · rw [List.getElem?_set_ne (Ne.symm ha)] at h1
    exact h.2.2 q ((am_ll_mem _ 0 q).mpr ⟨a, w, h1, h2⟩)
theorem gd_drop {y : am_MD} {o : am_O} {kc ks n pc : Nat} {L : List (Option Value)} {st : List Value} {I : am_I} {J : am_J} {Q : am_Q} (i : Nat) (kk : Gd y o kc ks n pc (L.set i none) st I J Q) : Gd y o kc ks n pc L st I J Q := by
  intro p l e s m args below meth c H locs ls D dA ad al al0 n0 A S hkap hal hP hD hS hl
  exact kk p l e s m args below meth c H locs ls D dA ad al al0 n0 A S hkap hal hP hD hS (hl.drop i)
theorem gd_ldcw {y : am_MD} {o : am_O} {kc ks n pc q : Nat} {L : List (Option Value)} {st : List Value} {I : am_I} {J : am_J} {Q : am_Q} {idx : Nat} {v : Int32} (hat : am_at y pc = some (.ldc_w idx, 3)) (hq : pc + 3 = q) (hw : Cond.constant (am_cn y.1) idx v ∈ lw_tbl) (kk : Gd y o kc ks n q L (.int v :: st) I J Q) : Gd y o kc ks n pc L st I J Q := by
  subst hq
  intro p l e s m args below meth c H locs ls D dA ad al al0 n0 A S hkap hal hP hD hS hl
  exact lv_ldcw S.1 S.2.1 S.2.2.2.2.2.2.1 (S.2.2.2.2.2.2.2.1 _ (am_G_in hw rfl)) (S.2.2.2.2.2.2.2.2.1 _ _ hat) (kk p l e s m args below meth c H locs ls D dA ad al al0 n0 A S hkap hal hP hD hS hl)
theorem gd_ldc2 {y : am_MD} {o : am_O} {kc ks n pc q : Nat} {L : List (Option Value)} {st : List Value} {I : am_I} {J : am_J} {Q : am_Q} {idx : Nat} {v : Int64} (hat : am_at y pc = some (.ldc2_w idx, 3)) (hq : pc + 3 = q) (hw : Cond.constantLong (am_cn y.1) idx v ∈ lw_tbl) (kk : Gd y o kc ks n q L (.long v :: st) I J Q) : Gd y o kc ks n pc L st I J Q := by
  subst hq
  intro p l e s m args below meth c H locs ls D dA ad al al0 n0 A S hkap hal hP hD hS hl
  exact lv_ldc2 S.1 S.2.1 S.2.2.2.2.2.2.1 (S.2.2.2.2.2.2.2.1 _ (am_G_in hw rfl)) (S.2.2.2.2.2.2.2.2.1 _ _ hat) (kk p l e s m args below meth c H locs ls D dA ad al al0 n0 A S hkap hal hP hD hS hl)
section Calls0
variable {y y' : am_MD} {d n pc q idx d' pn b ci : Nat} {r : am_R} {nb : Bool} {L : List (Option Value)} {As st rest : List Value} {I I' : am_I} {J J' : am_J} {Q Q' : am_Q} {v : Value}
theorem gd_cVi (hat : am_at y pc = some (.invokevirtual idx, 3)) (hq : pc + 3 = q) (hlk : am_lk y.1 idx nb y') (hm : am_my y' pn) (hv : am_vi y') (hc : Cm y' d' 0 0 n (.ref b :: As) I J Q (some v, n, I', J', Q')) (hst : st = As.reverse ++ .ref b :: rest) (hb : b < n) (hly : am_lay b = .inl ci) (hci : am_cn ci = y'.2.1.cls) (hci2 : ci < 11) (hn : As.length = pn) (hcat : (rest.map fun v => v.category).sum ≤ 8) (hR : d' + 1 ≤ d ∧ 8 + (y'.2.2.2.1 + 11) + 40 * d' ≤ 40 * d) (kk : Gd y (am_o d 0 0 r) 0 0 n q L (v :: rest) I' J' Q') : Gd y (am_o d 0 0 r) 0 0 n pc L st I J Q :=
  gd_callV hat hq hlk hm hv hc hst hb hly hci hci2 hn hcat hR ⟨Nat.le_refl 0, Nat.le_refl 0⟩ kk
theorem gd_cVv (hat : am_at y pc = some (.invokevirtual idx, 3)) (hq : pc + 3 = q) (hlk : am_lk y.1 idx nb y') (hm : am_my y' pn) (hv : am_vi y') (hc : Cm y' d' 0 0 n (.ref b :: As) I J Q (none, n, I', J', Q')) (hst : st = As.reverse ++ .ref b :: rest) (hb : b < n) (hly : am_lay b = .inl ci) (hci : am_cn ci = y'.2.1.cls) (hci2 : ci < 11) (hn : As.length = pn) (hcat : (rest.map fun v => v.category).sum ≤ 8) (hR : d' + 1 ≤ d ∧ 8 + (y'.2.2.2.1 + 11) + 40 * d' ≤ 40 * d) (kk : Gd y (am_o d 0 0 r) 0 0 n q L (rest) I' J' Q') : Gd y (am_o d 0 0 r) 0 0 n pc L st I J Q :=
  gd_callV hat hq hlk hm hv hc hst hb hly hci hci2 hn hcat hR ⟨Nat.le_refl 0, Nat.le_refl 0⟩ kk
theorem gd_cSi (hat : am_at y pc = some (.invokestatic idx, 3)) (hq : pc + 3 = q) (hlk : am_lk y.1 idx nb y') (hm : am_my y' pn) (hv : am_sta y') (hc : Cm y' d' 0 0 n (As) I J Q (some v, n, I', J', Q')) (hst : st = As.reverse ++ rest) (hn : As.length = pn) (hcat : (rest.map fun v => v.category).sum ≤ 8) (hR : d' + 1 ≤ d ∧ 8 + (y'.2.2.2.1 + 11) + 40 * d' ≤ 40 * d) (kk : Gd y (am_o d 0 0 r) 0 0 n q L (v :: rest) I' J' Q') : Gd y (am_o d 0 0 r) 0 0 n pc L st I J Q :=
  gd_callS hat hq hlk hm hv hc hst hn hcat hR ⟨Nat.le_refl 0, Nat.le_refl 0⟩ kk
theorem gd_cSv (hat : am_at y pc = some (.invokestatic idx, 3)) (hq : pc + 3 = q) (hlk : am_lk y.1 idx nb y') (hm : am_my y' pn) (hv : am_sta y') (hc : Cm y' d' 0 0 n (As) I J Q (none, n, I', J', Q')) (hst : st = As.reverse ++ rest) (hn : As.length = pn) (hcat : (rest.map fun v => v.category).sum ≤ 8) (hR : d' + 1 ≤ d ∧ 8 + (y'.2.2.2.1 + 11) + 40 * d' ≤ 40 * d) (kk : Gd y (am_o d 0 0 r) 0 0 n q L (rest) I' J' Q') : Gd y (am_o d 0 0 r) 0 0 n pc L st I J Q :=
  gd_callS hat hq hlk hm hv hc hst hn hcat hR ⟨Nat.le_refl 0, Nat.le_refl 0⟩ kk
end Calls0
def am_Fv (I : am_I) (J : am_J) (Q : am_Q) (_ : Unit) : am_R := (none, 92, I, J, Q)
def am_FvI (J : am_J) (Q : am_Q) (t : am_I) : am_R := (none, 92, t, J, Q)
def am_FvJ (I : am_I) (Q : am_Q) (t : am_J) : am_R := (none, 92, I, t, Q)
def am_FvQ (I : am_I) (J : am_J) (t : am_Q) : am_R := (none, 92, I, J, t)
def am_FvIJ (Q : am_Q) (t : am_I × am_J) : am_R := (none, 92, t.1, t.2, Q)
def am_FvIQ (J : am_J) (t : am_I × am_Q) : am_R := (none, 92, t.1, J, t.2)
def am_FvJQ (I : am_I) (t : am_J × am_Q) : am_R := (none, 92, I, t.1, t.2)
def am_FvIJQ (t : am_I × am_J × am_Q) : am_R := (none, 92, t.1, t.2.1, t.2.2)
def am_Fi (I : am_I) (J : am_J) (Q : am_Q) (t : Int32) : am_R := (some (.int t), 92, I, J, Q)
def am_FiI (J : am_J) (Q : am_Q) (t : Int32 × am_I) : am_R := (some (.int t.1), 92, t.2, J, Q)
def am_FiJ (I : am_I) (Q : am_Q) (t : Int32 × am_J) : am_R := (some (.int t.1), 92, I, t.2, Q)
def am_FiQ (I : am_I) (J : am_J) (t : Int32 × am_Q) : am_R := (some (.int t.1), 92, I, J, t.2)
def am_FiIJ (Q : am_Q) (t : Int32 × am_I × am_J) : am_R := (some (.int t.1), 92, t.2.1, t.2.2, Q)
def am_FiIQ (J : am_J) (t : Int32 × am_I × am_Q) : am_R := (some (.int t.1), 92, t.2.1, J, t.2.2)
def am_FiJQ (I : am_I) (t : Int32 × am_J × am_Q) : am_R := (some (.int t.1), 92, I, t.2.1, t.2.2)
def am_FiIJQ (t : Int32 × am_I × am_J × am_Q) : am_R := (some (.int t.1), 92, t.2.1, t.2.2.1, t.2.2.2)
def am_Fl (I : am_I) (J : am_J) (Q : am_Q) (t : Int64) : am_R := (some (.long t), 92, I, J, Q)
def am_FlI (J : am_J) (Q : am_Q) (t : Int64 × am_I) : am_R := (some (.long t.1), 92, t.2, J, Q)
def am_FlJ (I : am_I) (Q : am_Q) (t : Int64 × am_J) : am_R := (some (.long t.1), 92, I, t.2, Q)
def am_FlQ (I : am_I) (J : am_J) (t : Int64 × am_Q) : am_R := (some (.long t.1), 92, I, J, t.2)
def am_FlIJ (Q : am_Q) (t : Int64 × am_I × am_J) : am_R := (some (.long t.1), 92, t.2.1, t.2.2, Q)
def am_FlIQ (J : am_J) (t : Int64 × am_I × am_Q) : am_R := (some (.long t.1), 92, t.2.1, J, t.2.2)
def am_FlJQ (I : am_I) (t : Int64 × am_J × am_Q) : am_R := (some (.long t.1), 92, I, t.2.1, t.2.2)
def am_FlIJQ (t : Int64 × am_I × am_J × am_Q) : am_R := (some (.long t.1), 92, t.2.1, t.2.2.1, t.2.2.2)
def am_Fr (I : am_I) (J : am_J) (Q : am_Q) (t : Nat) : am_R := (some (.ref t), 92, I, J, Q)
def am_FrI (J : am_J) (Q : am_Q) (t : Nat × am_I) : am_R := (some (.ref t.1), 92, t.2, J, Q)
def am_FrJ (I : am_I) (Q : am_Q) (t : Nat × am_J) : am_R := (some (.ref t.1), 92, I, t.2, Q)
def am_FrQ (I : am_I) (J : am_J) (t : Nat × am_Q) : am_R := (some (.ref t.1), 92, I, J, t.2)
def am_FrIJ (Q : am_Q) (t : Nat × am_I × am_J) : am_R := (some (.ref t.1), 92, t.2.1, t.2.2, Q)
def am_FrIQ (J : am_J) (t : Nat × am_I × am_Q) : am_R := (some (.ref t.1), 92, t.2.1, J, t.2.2)
def am_FrJQ (I : am_I) (t : Nat × am_J × am_Q) : am_R := (some (.ref t.1), 92, I, t.2.1, t.2.2)
def am_FrIJQ (t : Nat × am_I × am_J × am_Q) : am_R := (some (.ref t.1), 92, t.2.1, t.2.2.1, t.2.2.2)
