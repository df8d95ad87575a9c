theorem gy_if_eq {y : am_MD} {d mc ms kc ks n pc q r : Nat} {L : List (Option Value)} {st : List Value} {I : am_I} {J : am_J} {Q : am_Q} {β : Type} {F : β → am_R} {a b : β} {x : Int32} {off : Int} (hat : am_at y pc = some (.ifCond .eq off, 3)) (hq : pc + 3 = q) (hr : (pc : Int) + off = (r : Int)) (kt : x = 0 → Gd y (am_o d mc ms (F a)) kc ks n r L (st) I J Q) (kf : ¬ x = 0 → Gd y (am_o d mc ms (F b)) kc ks n q L (st) I J Q) : Gd y (am_o d mc ms (F (if x = 0 then a else b))) kc ks n pc L (.int x :: st) I J Q := by
  by_cases hc : x = 0
  · rw [if_pos hc]
    exact gd_if_eq hat hq hr (fun _ => kt hc) (fun h => absurd hc h)
  · rw [if_neg hc]
    exact gd_if_eq hat hq hr (fun h => absurd h hc) (fun _ => kf hc)
theorem gx_if_eq {y : am_MD} {d mc ms kc ks n pc q r : Nat} {L : List (Option Value)} {st : List Value} {I : am_I} {J : am_J} {Q : am_Q} {β : Type} {F : β → am_R} {a b : β} {x : Int32} {P1 P2 : Prop} {off : Int} (hat : am_at y pc = some (.ifCond .eq off, 3)) (hq : pc + 3 = q) (hr : (pc : Int) + off = (r : Int)) (hp : if x = 0 then P1 else P2) (kt : x = 0 → P1 → Gd y (am_o d mc ms (F a)) kc ks n r L (st) I J Q) (kf : ¬ x = 0 → P2 → Gd y (am_o d mc ms (F b)) kc ks n q L (st) I J Q) : Gd y (am_o d mc ms (F (if x = 0 then a else b))) kc ks n pc L (.int x :: st) I J Q :=
  gy_if_eq hat hq hr (fun hc => kt hc (by rw [if_pos hc] at hp; exact hp)) (fun hc => kf hc (by rw [if_neg hc] at hp; exact hp))
theorem gy_icmp_eq {y : am_MD} {d mc ms kc ks n pc q r : Nat} {L : List (Option Value)} {st : List Value} {I : am_I} {J : am_J} {Q : am_Q} {β : Type} {F : β → am_R} {a b : β} {x z : Int32} {off : Int} (hat : am_at y pc = some (.if_icmp .eq off, 3)) (hq : pc + 3 = q) (hr : (pc : Int) + off = (r : Int)) (kt : x = z → Gd y (am_o d mc ms (F a)) kc ks n r L (st) I J Q) (kf : ¬ x = z → Gd y (am_o d mc ms (F b)) kc ks n q L (st) I J Q) : Gd y (am_o d mc ms (F (if x = z then a else b))) kc ks n pc L (.int z :: .int x :: st) I J Q := by
  by_cases hc : x = z
  · rw [if_pos hc]
    exact gd_icmp_eq hat hq hr (fun _ => kt hc) (fun h => absurd hc h)
  · rw [if_neg hc]
    exact gd_icmp_eq hat hq hr (fun h => absurd h hc) (fun _ => kf hc)
theorem gx_icmp_eq {y : am_MD} {d mc ms kc ks n pc q r : Nat} {L : List (Option Value)} {st : List Value} {I : am_I} {J : am_J} {Q : am_Q} {β : Type} {F : β → am_R} {a b : β} {x z : Int32} {P1 P2 : Prop} {off : Int} (hat : am_at y pc = some (.if_icmp .eq off, 3)) (hq : pc + 3 = q) (hr : (pc : Int) + off = (r : Int)) (hp : if x = z then P1 else P2) (kt : x = z → P1 → Gd y (am_o d mc ms (F a)) kc ks n r L (st) I J Q) (kf : ¬ x = z → P2 → Gd y (am_o d mc ms (F b)) kc ks n q L (st) I J Q) : Gd y (am_o d mc ms (F (if x = z then a else b))) kc ks n pc L (.int z :: .int x :: st) I J Q :=
  gy_icmp_eq hat hq hr (fun hc => kt hc (by rw [if_pos hc] at hp; exact hp)) (fun hc => kf hc (by rw [if_neg hc] at hp; exact hp))
theorem gy_if_ne {y : am_MD} {d mc ms kc ks n pc q r : Nat} {L : List (Option Value)} {st : List Value} {I : am_I} {J : am_J} {Q : am_Q} {β : Type} {F : β → am_R} {a b : β} {x : Int32} {off : Int} (hat : am_at y pc = some (.ifCond .ne off, 3)) (hq : pc + 3 = q) (hr : (pc : Int) + off = (r : Int)) (kt : x = 0 → Gd y (am_o d mc ms (F a)) kc ks n q L (st) I J Q) (kf : ¬ x = 0 → Gd y (am_o d mc ms (F b)) kc ks n r L (st) I J Q) : Gd y (am_o d mc ms (F (if x = 0 then a else b))) kc ks n pc L (.int x :: st) I J Q := by
  by_cases hc : x = 0
  · rw [if_pos hc]
    exact gd_if_ne hat hq hr (fun h => absurd hc h) (fun _ => kt hc)
  · rw [if_neg hc]
    exact gd_if_ne hat hq hr (fun _ => kf hc) (fun h => absurd h hc)
theorem gx_if_ne {y : am_MD} {d mc ms kc ks n pc q r : Nat} {L : List (Option Value)} {st : List Value} {I : am_I} {J : am_J} {Q : am_Q} {β : Type} {F : β → am_R} {a b : β} {x : Int32} {P1 P2 : Prop} {off : Int} (hat : am_at y pc = some (.ifCond .ne off, 3)) (hq : pc + 3 = q) (hr : (pc : Int) + off = (r : Int)) (hp : if x = 0 then P1 else P2) (kt : x = 0 → P1 → Gd y (am_o d mc ms (F a)) kc ks n q L (st) I J Q) (kf : ¬ x = 0 → P2 → Gd y (am_o d mc ms (F b)) kc ks n r L (st) I J Q) : Gd y (am_o d mc ms (F (if x = 0 then a else b))) kc ks n pc L (.int x :: st) I J Q :=
  gy_if_ne hat hq hr (fun hc => kt hc (by rw [if_pos hc] at hp; exact hp)) (fun hc => kf hc (by rw [if_neg hc] at hp; exact hp))
theorem gy_icmp_ne {y : am_MD} {d mc ms kc ks n pc q r : Nat} {L : List (Option Value)} {st : List Value} {I : am_I} {J : am_J} {Q : am_Q} {β : Type} {F : β → am_R} {a b : β} {x z : Int32} {off : Int} (hat : am_at y pc = some (.if_icmp .ne off, 3)) (hq : pc + 3 = q) (hr : (pc : Int) + off = (r : Int)) (kt : x = z → Gd y (am_o d mc ms (F a)) kc ks n q L (st) I J Q) (kf : ¬ x = z → Gd y (am_o d mc ms (F b)) kc ks n r L (st) I J Q) : Gd y (am_o d mc ms (F (if x = z then a else b))) kc ks n pc L (.int z :: .int x :: st) I J Q := by
  by_cases hc : x = z
  · rw [if_pos hc]
    exact gd_icmp_ne hat hq hr (fun h => absurd hc h) (fun _ => kt hc)
  · rw [if_neg hc]
    exact gd_icmp_ne hat hq hr (fun _ => kf hc) (fun h => absurd h hc)
theorem gx_icmp_ne {y : am_MD} {d mc ms kc ks n pc q r : Nat} {L : List (Option Value)} {st : List Value} {I : am_I} {J : am_J} {Q : am_Q} {β : Type} {F : β → am_R} {a b : β} {x z : Int32} {P1 P2 : Prop} {off : Int} (hat : am_at y pc = some (.if_icmp .ne off, 3)) (hq : pc + 3 = q) (hr : (pc : Int) + off = (r : Int)) (hp : if x = z then P1 else P2) (kt : x = z → P1 → Gd y (am_o d mc ms (F a)) kc ks n q L (st) I J Q) (kf : ¬ x = z → P2 → Gd y (am_o d mc ms (F b)) kc ks n r L (st) I J Q) : Gd y (am_o d mc ms (F (if x = z then a else b))) kc ks n pc L (.int z :: .int x :: st) I J Q :=
  gy_icmp_ne hat hq hr (fun hc => kt hc (by rw [if_pos hc] at hp; exact hp)) (fun hc => kf hc (by rw [if_neg hc] at hp; exact hp))
theorem gy_if_lt {y : am_MD} {d mc ms kc ks n pc q r : Nat} {L : List (Option Value)} {st : List Value} {I : am_I} {J : am_J} {Q : am_Q} {β : Type} {F : β → am_R} {a b : β} {x : Int32} {off : Int} (hat : am_at y pc = some (.ifCond .lt off, 3)) (hq : pc + 3 = q) (hr : (pc : Int) + off = (r : Int)) (kt : x < 0 → Gd y (am_o d mc ms (F a)) kc ks n r L (st) I J Q) (kf : ¬ x < 0 → Gd y (am_o d mc ms (F b)) kc ks n q L (st) I J Q) : Gd y (am_o d mc ms (F (if x < 0 then a else b))) kc ks n pc L (.int x :: st) I J Q := by
  by_cases hc : x < 0
  · rw [if_pos hc]
    exact gd_if_lt hat hq hr (fun _ => kt hc) (fun h => absurd hc h)
  · rw [if_neg hc]
    exact gd_if_lt hat hq hr (fun h => absurd h hc) (fun _ => kf hc)
theorem gx_if_lt {y : am_MD} {d mc ms kc ks n pc q r : Nat} {L : List (Option Value)} {st : List Value} {I : am_I} {J : am_J} {Q : am_Q} {β : Type} {F : β → am_R} {a b : β} {x : Int32} {P1 P2 : Prop} {off : Int} (hat : am_at y pc = some (.ifCond .lt off, 3)) (hq : pc + 3 = q) (hr : (pc : Int) + off = (r : Int)) (hp : if x < 0 then P1 else P2) (kt : x < 0 → P1 → Gd y (am_o d mc ms (F a)) kc ks n r L (st) I J Q) (kf : ¬ x < 0 → P2 → Gd y (am_o d mc ms (F b)) kc ks n q L (st) I J Q) : Gd y (am_o d mc ms (F (if x < 0 then a else b))) kc ks n pc L (.int x :: st) I J Q :=
  gy_if_lt hat hq hr (fun hc => kt hc (by rw [if_pos hc] at hp; exact hp)) (fun hc => kf hc (by rw [if_neg hc] at hp; exact hp))
theorem gy_icmp_lt {y : am_MD} {d mc ms kc ks n pc q r : Nat} {L : List (Option Value)} {st : List Value} {I : am_I} {J : am_J} {Q : am_Q} {β : Type} {F : β → am_R} {a b : β} {x z : Int32} {off : Int} (hat : am_at y pc = some (.if_icmp .lt off, 3)) (hq : pc + 3 = q) (hr : (pc : Int) + off = (r : Int)) (kt : x < z → Gd y (am_o d mc ms (F a)) kc ks n r L (st) I J Q) (kf : ¬ x < z → Gd y (am_o d mc ms (F b)) kc ks n q L (st) I J Q) : Gd y (am_o d mc ms (F (if x < z then a else b))) kc ks n pc L (.int z :: .int x :: st) I J Q := by
  by_cases hc : x < z
  · rw [if_pos hc]
    exact gd_icmp_lt hat hq hr (fun _ => kt hc) (fun h => absurd hc h)
  · rw [if_neg hc]
    exact gd_icmp_lt hat hq hr (fun h => absurd h hc) (fun _ => kf hc)
theorem gx_icmp_lt {y : am_MD} {d mc ms kc ks n pc q r : Nat} {L : List (Option Value)} {st : List Value} {I : am_I} {J : am_J} {Q : am_Q} {β : Type} {F : β → am_R} {a b : β} {x z : Int32} {P1 P2 : Prop} {off : Int} (hat : am_at y pc = some (.if_icmp .lt off, 3)) (hq : pc + 3 = q) (hr : (pc : Int) + off = (r : Int)) (hp : if x < z then P1 else P2) (kt : x < z → P1 → Gd y (am_o d mc ms (F a)) kc ks n r L (st) I J Q) (kf : ¬ x < z → P2 → Gd y (am_o d mc ms (F b)) kc ks n q L (st) I J Q) : Gd y (am_o d mc ms (F (if x < z then a else b))) kc ks n pc L (.int z :: .int x :: st) I J Q :=
  gy_icmp_lt hat hq hr (fun hc => kt hc (by rw [if_pos hc] at hp; exact hp)) (fun hc => kf hc (by rw [if_neg hc] at hp; exact hp))
theorem gy_if_ge {y : am_MD} {d mc ms kc ks n pc q r : Nat} {L : List (Option Value)} {st : List Value} {I : am_I} {J : am_J} {Q : am_Q} {β : Type} {F : β → am_R} {a b : β} {x : Int32} {off : Int} (hat : am_at y pc = some (.ifCond .ge off, 3)) (hq : pc + 3 = q) (hr : (pc : Int) + off = (r : Int)) (kt : 0 ≤ x → Gd y (am_o d mc ms (F a)) kc ks n r L (st) I J Q) (kf : ¬ 0 ≤ x → Gd y (am_o d mc ms (F b)) kc ks n q L (st) I J Q) : Gd y (am_o d mc ms (F (if 0 ≤ x then a else b))) kc ks n pc L (.int x :: st) I J Q := by
  by_cases hc : 0 ≤ x
  · rw [if_pos hc]
    exact gd_if_ge hat hq hr (fun _ => kt hc) (fun h => absurd hc h)
  · rw [if_neg hc]
    exact gd_if_ge hat hq hr (fun h => absurd h hc) (fun _ => kf hc)
theorem gx_if_ge {y : am_MD} {d mc ms kc ks n pc q r : Nat} {L : List (Option Value)} {st : List Value} {I : am_I} {J : am_J} {Q : am_Q} {β : Type} {F : β → am_R} {a b : β} {x : Int32} {P1 P2 : Prop} {off : Int} (hat : am_at y pc = some (.ifCond .ge off, 3)) (hq : pc + 3 = q) (hr : (pc : Int) + off = (r : Int)) (hp : if 0 ≤ x then P1 else P2) (kt : 0 ≤ x → P1 → Gd y (am_o d mc ms (F a)) kc ks n r L (st) I J Q) (kf : ¬ 0 ≤ x → P2 → Gd y (am_o d mc ms (F b)) kc ks n q L (st) I J Q) : Gd y (am_o d mc ms (F (if 0 ≤ x then a else b))) kc ks n pc L (.int x :: st) I J Q :=
  gy_if_ge hat hq hr (fun hc => kt hc (by rw [if_pos hc] at hp; exact hp)) (fun hc => kf hc (by rw [if_neg hc] at hp; exact hp))
theorem gy_icmp_ge {y : am_MD} {d mc ms kc ks n pc q r : Nat} {L : List (Option Value)} {st : List Value} {I : am_I} {J : am_J} {Q : am_Q} {β : Type} {F : β → am_R} {a b : β} {x z : Int32} {off : Int} (hat : am_at y pc = some (.if_icmp .ge off, 3)) (hq : pc + 3 = q) (hr : (pc : Int) + off = (r : Int)) (kt : z ≤ x → Gd y (am_o d mc ms (F a)) kc ks n r L (st) I J Q) (kf : ¬ z ≤ x → Gd y (am_o d mc ms (F b)) kc ks n q L (st) I J Q) : Gd y (am_o d mc ms (F (if z ≤ x then a else b))) kc ks n pc L (.int z :: .int x :: st) I J Q := by
  by_cases hc : z ≤ x
  · rw [if_pos hc]
    exact gd_icmp_ge hat hq hr (fun _ => kt hc) (fun h => absurd hc h)
  · rw [if_neg hc]
    exact gd_icmp_ge hat hq hr (fun h => absurd h hc) (fun _ => kf hc)
theorem gx_icmp_ge {y : am_MD} {d mc ms kc ks n pc q r : Nat} {L : List (Option Value)} {st : List Value} {I : am_I} {J : am_J} {Q : am_Q} {β : Type} {F : β → am_R} {a b : β} {x z : Int32} {P1 P2 : Prop} {off : Int} (hat : am_at y pc = some (.if_icmp .ge off, 3)) (hq : pc + 3 = q) (hr : (pc : Int) + off = (r : Int)) (hp : if z ≤ x then P1 else P2) (kt : z ≤ x → P1 → Gd y (am_o d mc ms (F a)) kc ks n r L (st) I J Q) (kf : ¬ z ≤ x → P2 → Gd y (am_o d mc ms (F b)) kc ks n q L (st) I J Q) : Gd y (am_o d mc ms (F (if z ≤ x then a else b))) kc ks n pc L (.int z :: .int x :: st) I J Q :=
  gy_icmp_ge hat hq hr (fun hc => kt hc (by rw [if_pos hc] at hp; exact hp)) (fun hc => kf hc (by rw [if_neg hc] at hp; exact hp))
theorem gy_if_gt {y : am_MD} {d mc ms kc ks n pc q r : Nat} {L : List (Option Value)} {st : List Value} {I : am_I} {J : am_J} {Q : am_Q} {β : Type} {F : β → am_R} {a b : β} {x : Int32} {off : Int} (hat : am_at y pc = some (.ifCond .gt off, 3)) (hq : pc + 3 = q) (hr : (pc : Int) + off = (r : Int)) (kt : 0 < x → Gd y (am_o d mc ms (F a)) kc ks n r L (st) I J Q) (kf : ¬ 0 < x → Gd y (am_o d mc ms (F b)) kc ks n q L (st) I J Q) : Gd y (am_o d mc ms (F (if 0 < x then a else b))) kc ks n pc L (.int x :: st) I J Q := by
  by_cases hc : 0 < x
  · rw [if_pos hc]
    exact gd_if_gt hat hq hr (fun _ => kt hc) (fun h => absurd hc h)
  · rw [if_neg hc]
    exact gd_if_gt hat hq hr (fun h => absurd h hc) (fun _ => kf hc)
theorem gx_if_gt {y : am_MD} {d mc ms kc ks n pc q r : Nat} {L : List (Option Value)} {st : List Value} {I : am_I} {J : am_J} {Q : am_Q} {β : Type} {F : β → am_R} {a b : β} {x : Int32} {P1 P2 : Prop} {off : Int} (hat : am_at y pc = some (.ifCond .gt off, 3)) (hq : pc + 3 = q) (hr : (pc : Int) + off = (r : Int)) (hp : if 0 < x then P1 else P2) (kt : 0 < x → P1 → Gd y (am_o d mc ms (F a)) kc ks n r L (st) I J Q) (kf : ¬ 0 < x → P2 → Gd y (am_o d mc ms (F b)) kc ks n q L (st) I J Q) : Gd y (am_o d mc ms (F (if 0 < x then a else b))) kc ks n pc L (.int x :: st) I J Q :=
  gy_if_gt hat hq hr (fun hc => kt hc (by rw [if_pos hc] at hp; exact hp)) (fun hc => kf hc (by rw [if_neg hc] at hp; exact hp))
theorem gy_icmp_gt {y : am_MD} {d mc ms kc ks n pc q r : Nat} {L : List (Option Value)} {st : List Value} {I : am_I} {J : am_J} {Q : am_Q} {β : Type} {F : β → am_R} {a b : β} {x z : Int32} {off : Int} (hat : am_at y pc = some (.if_icmp .gt off, 3)) (hq : pc + 3 = q) (hr : (pc : Int) + off = (r : Int)) (kt : z < x → Gd y (am_o d mc ms (F a)) kc ks n r L (st) I J Q) (kf : ¬ z < x → Gd y (am_o d mc ms (F b)) kc ks n q L (st) I J Q) : Gd y (am_o d mc ms (F (if z < x then a else b))) kc ks n pc L (.int z :: .int x :: st) I J Q := by
  by_cases hc : z < x
  · rw [if_pos hc]
    exact gd_icmp_gt hat hq hr (fun _ => kt hc) (fun h => absurd hc h)
  · rw [if_neg hc]
    exact gd_icmp_gt hat hq hr (fun h => absurd h hc) (fun _ => kf hc)
theorem gx_icmp_gt {y : am_MD} {d mc ms kc ks n pc q r : Nat} {L : List (Option Value)} {st : List Value} {I : am_I} {J : am_J} {Q : am_Q} {β : Type} {F : β → am_R} {a b : β} {x z : Int32} {P1 P2 : Prop} {off : Int} (hat : am_at y pc = some (.if_icmp .gt off, 3)) (hq : pc + 3 = q) (hr : (pc : Int) + off = (r : Int)) (hp : if z < x then P1 else P2) (kt : z < x → P1 → Gd y (am_o d mc ms (F a)) kc ks n r L (st) I J Q) (kf : ¬ z < x → P2 → Gd y (am_o d mc ms (F b)) kc ks n q L (st) I J Q) : Gd y (am_o d mc ms (F (if z < x then a else b))) kc ks n pc L (.int z :: .int x :: st) I J Q :=
  gy_icmp_gt hat hq hr (fun hc => kt hc (by rw [if_pos hc] at hp; exact hp)) (fun hc => kf hc (by rw [if_neg hc] at hp; exact hp))
theorem gy_if_le {y : am_MD} {d mc ms kc ks n pc q r : Nat} {L : List (Option Value)} {st : List Value} {I : am_I} {J : am_J} {Q : am_Q} {β : Type} {F : β → am_R} {a b : β} {x : Int32} {off : Int} (hat : am_at y pc = some (.ifCond .le off, 3)) (hq : pc + 3 = q) (hr : (pc : Int) + off = (r : Int)) (kt : x ≤ 0 → Gd y (am_o d mc ms (F a)) kc ks n r L (st) I J Q) (kf : ¬ x ≤ 0 → Gd y (am_o d mc ms (F b)) kc ks n q L (st) I J Q) : Gd y (am_o d mc ms (F (if x ≤ 0 then a else b))) kc ks n pc L (.int x :: st) I J Q := by
  by_cases hc : x ≤ 0
  · rw [if_pos hc]
    exact gd_if_le hat hq hr (fun _ => kt hc) (fun h => absurd hc h)
  · rw [if_neg hc]
    exact gd_if_le hat hq hr (fun h => absurd h hc) (fun _ => kf hc)
theorem gx_if_le {y : am_MD} {d mc ms kc ks n pc q r : Nat} {L : List (Option Value)} {st : List Value} {I : am_I} {J : am_J} {Q : am_Q} {β : Type} {F : β → am_R} {a b : β} {x : Int32} {P1 P2 : Prop} {off : Int} (hat : am_at y pc = some (.ifCond .le off, 3)) (hq : pc + 3 = q) (hr : (pc : Int) + off = (r : Int)) (hp : if x ≤ 0 then P1 else P2) (kt : x ≤ 0 → P1 → Gd y (am_o d mc ms (F a)) kc ks n r L (st) I J Q) (kf : ¬ x ≤ 0 → P2 → Gd y (am_o d mc ms (F b)) kc ks n q L (st) I J Q) : Gd y (am_o d mc ms (F (if x ≤ 0 then a else b))) kc ks n pc L (.int x :: st) I J Q :=
  gy_if_le hat hq hr (fun hc => kt hc (by rw [if_pos hc] at hp; exact hp)) (fun hc => kf hc (by rw [if_neg hc] at hp; exact hp))
theorem gy_icmp_le {y : am_MD} {d mc ms kc ks n pc q r : Nat} {L : List (Option Value)} {st : List Value} {I : am_I} {J : am_J} {Q : am_Q} {β : Type} {F : β → am_R} {a b : β} {x z : Int32} {off : Int} (hat : am_at y pc = some (.if_icmp .le off, 3)) (hq : pc + 3 = q) (hr : (pc : Int) + off = (r : Int)) (kt : x ≤ z → Gd y (am_o d mc ms (F a)) kc ks n r L (st) I J Q) (kf : ¬ x ≤ z → Gd y (am_o d mc ms (F b)) kc ks n q L (st) I J Q) : Gd y (am_o d mc ms (F (if x ≤ z then a else b))) kc ks n pc L (.int z :: .int x :: st) I J Q := by
  by_cases hc : x ≤ z
  · rw [if_pos hc]
    exact gd_icmp_le hat hq hr (fun _ => kt hc) (fun h => absurd hc h)
  · rw [if_neg hc]
    exact gd_icmp_le hat hq hr (fun h => absurd h hc) (fun _ => kf hc)
theorem gx_icmp_le {y : am_MD} {d mc ms kc ks n pc q r : Nat} {L : List (Option Value)} {st : List Value} {I : am_I} {J : am_J} {Q : am_Q} {β : Type} {F : β → am_R} {a b : β} {x z : Int32} {P1 P2 : Prop} {off : Int} (hat : am_at y pc = some (.if_icmp .le off, 3)) (hq : pc + 3 = q) (hr : (pc : Int) + off = (r : Int)) (hp : if x ≤ z then P1 else P2) (kt : x ≤ z → P1 → Gd y (am_o d mc ms (F a)) kc ks n r L (st) I J Q) (kf : ¬ x ≤ z → P2 → Gd y (am_o d mc ms (F b)) kc ks n q L (st) I J Q) : Gd y (am_o d mc ms (F (if x ≤ z then a else b))) kc ks n pc L (.int z :: .int x :: st) I J Q :=
  gy_icmp_le hat hq hr (fun hc => kt hc (by rw [if_pos hc] at hp; exact hp)) (fun hc => kf hc (by rw [if_neg hc] at hp; exact hp))
theorem am_H.drop {ls : Array Slot} {nL : Nat} {al : Nat → Nat} {L : List (Option Value)} (h : am_H ls nL al L) (i : Nat) : am_H ls nL al (L.set i none) := by
  refine ⟨h.1, h.2.1, fun q hq => ?_⟩
  obtain ⟨a, w, h1, h2⟩ := (am_ll_mem _ 0 q).mp hq
  by_cases ha : a = i
  · subst ha
    have hlt : a < (L.set a none).length := (List.getElem?_eq_some_iff.mp h1).1
    rw [List.getElem?_set_self (by simpa using hlt)] at h1
    cases h1
  · rw [List.getElem?_set_ne (Ne.symm ha)] at h1
    exact h.2.2 q ((am_ll_mem _ 0 q).mpr ⟨a, w, h1, h2⟩)
theorem gd_drop {y : am_MD} {o : am_O} {kc ks n pc : Nat} {L : List (Option Value)} {st : List Value} {I : am_I} {J : am_J} {Q : am_Q} (i : Nat) (kk : Gd y o kc ks n pc (L.set i none) st I J Q) : Gd y o kc ks n pc L st I J Q := by
  intro p l e s m args below meth c H locs ls D dA ad al al0 n0 A S hkap hal hP hD hS hl
  exact kk p l e s m args below meth c H locs ls D dA ad al al0 n0 A S hkap hal hP hD hS (hl.drop i)
theorem gd_ldcw {y : am_MD} {o : am_O} {kc ks n pc q : Nat} {L : List (Option Value)} {st : List Value} {I : am_I} {J : am_J} {Q : am_Q} {idx : Nat} {v : Int32} (hat : am_at y pc = some (.ldc_w idx, 3)) (hq : pc + 3 = q) (hw : Cond.constant (am_cn y.1) idx v ∈ lw_tbl) (kk : Gd y o kc ks n q L (.int v :: st) I J Q) : Gd y o kc ks n pc L st I J Q := by
  subst hq
  intro p l e s m args below meth c H locs ls D dA ad al al0 n0 A S hkap hal hP hD hS hl
  exact lv_ldcw S.1 S.2.1 S.2.2.2.2.2.2.1 (S.2.2.2.2.2.2.2.1 _ (am_G_in hw rfl)) (S.2.2.2.2.2.2.2.2.1 _ _ hat) (kk p l e s m args below meth c H locs ls D dA ad al al0 n0 A S hkap hal hP hD hS hl)
theorem gd_ldc2 {y : am_MD} {o : am_O} {kc ks n pc q : Nat} {L : List (Option Value)} {st : List Value} {I : am_I} {J : am_J} {Q : am_Q} {idx : Nat} {v : Int64} (hat : am_at y pc = some (.ldc2_w idx, 3)) (hq : pc + 3 = q) (hw : Cond.constantLong (am_cn y.1) idx v ∈ lw_tbl) (kk : Gd y o kc ks n q L (.long v :: st) I J Q) : Gd y o kc ks n pc L st I J Q := by
  subst hq
  intro p l e s m args below meth c H locs ls D dA ad al al0 n0 A S hkap hal hP hD hS hl
  exact lv_ldc2 S.1 S.2.1 S.2.2.2.2.2.2.1 (S.2.2.2.2.2.2.2.1 _ (am_G_in hw rfl)) (S.2.2.2.2.2.2.2.2.1 _ _ hat) (kk p l e s m args below meth c H locs ls D dA ad al al0 n0 A S hkap hal hP hD hS hl)
section Calls0
variable {y y' : am_MD} {d n pc q idx d' pn b ci : Nat} {r : am_R} {nb : Bool} {L : List (Option Value)} {As st rest : List Value} {I I' : am_I} {J J' : am_J} {Q Q' : am_Q} {v : Value}
theorem gd_cVi (hat : am_at y pc = some (.invokevirtual idx, 3)) (hq : pc + 3 = q) (hlk : am_lk y.1 idx nb y') (hm : am_my y' pn) (hv : am_vi y') (hc : Cm y' d' 0 0 n (.ref b :: As) I J Q (some v, n, I', J', Q')) (hst : st = As.reverse ++ .ref b :: rest) (hb : b < n) (hly : am_lay b = .inl ci) (hci : am_cn ci = y'.2.1.cls) (hci2 : ci < 11) (hn : As.length = pn) (hcat : (rest.map fun v => v.category).sum ≤ 8) (hR : d' + 1 ≤ d ∧ 8 + (y'.2.2.2.1 + 11) + 40 * d' ≤ 40 * d) (kk : Gd y (am_o d 0 0 r) 0 0 n q L (v :: rest) I' J' Q') : Gd y (am_o d 0 0 r) 0 0 n pc L st I J Q :=
  gd_callV hat hq hlk hm hv hc hst hb hly hci hci2 hn hcat hR ⟨Nat.le_refl 0, Nat.le_refl 0⟩ kk
theorem gd_cVv (hat : am_at y pc = some (.invokevirtual idx, 3)) (hq : pc + 3 = q) (hlk : am_lk y.1 idx nb y') (hm : am_my y' pn) (hv : am_vi y') (hc : Cm y' d' 0 0 n (.ref b :: As) I J Q (none, n, I', J', Q')) (hst : st = As.reverse ++ .ref b :: rest) (hb : b < n) (hly : am_lay b = .inl ci) (hci : am_cn ci = y'.2.1.cls) (hci2 : ci < 11) (hn : As.length = pn) (hcat : (rest.map fun v => v.category).sum ≤ 8) (hR : d' + 1 ≤ d ∧ 8 + (y'.2.2.2.1 + 11) + 40 * d' ≤ 40 * d) (kk : Gd y (am_o d 0 0 r) 0 0 n q L (rest) I' J' Q') : Gd y (am_o d 0 0 r) 0 0 n pc L st I J Q :=
  gd_callV hat hq hlk hm hv hc hst hb hly hci hci2 hn hcat hR ⟨Nat.le_refl 0, Nat.le_refl 0⟩ kk
theorem gd_cSi (hat : am_at y pc = some (.invokestatic idx, 3)) (hq : pc + 3 = q) (hlk : am_lk y.1 idx nb y') (hm : am_my y' pn) (hv : am_sta y') (hc : Cm y' d' 0 0 n (As) I J Q (some v, n, I', J', Q')) (hst : st = As.reverse ++ rest) (hn : As.length = pn) (hcat : (rest.map fun v => v.category).sum ≤ 8) (hR : d' + 1 ≤ d ∧ 8 + (y'.2.2.2.1 + 11) + 40 * d' ≤ 40 * d) (kk : Gd y (am_o d 0 0 r) 0 0 n q L (v :: rest) I' J' Q') : Gd y (am_o d 0 0 r) 0 0 n pc L st I J Q :=
  gd_callS hat hq hlk hm hv hc hst hn hcat hR ⟨Nat.le_refl 0, Nat.le_refl 0⟩ kk
theorem gd_cSv (hat : am_at y pc = some (.invokestatic idx, 3)) (hq : pc + 3 = q) (hlk : am_lk y.1 idx nb y') (hm : am_my y' pn) (hv : am_sta y') (hc : Cm y' d' 0 0 n (As) I J Q (none, n, I', J', Q')) (hst : st = As.reverse ++ rest) (hn : As.length = pn) (hcat : (rest.map fun v => v.category).sum ≤ 8) (hR : d' + 1 ≤ d ∧ 8 + (y'.2.2.2.1 + 11) + 40 * d' ≤ 40 * d) (kk : Gd y (am_o d 0 0 r) 0 0 n q L (rest) I' J' Q') : Gd y (am_o d 0 0 r) 0 0 n pc L st I J Q :=
  gd_callS hat hq hlk hm hv hc hst hn hcat hR ⟨Nat.le_refl 0, Nat.le_refl 0⟩ kk
end Calls0
def am_Fv (I : am_I) (J : am_J) (Q : am_Q) (_ : Unit) : am_R := (none, 92, I, J, Q)
def am_FvI (J : am_J) (Q : am_Q) (t : am_I) : am_R := (none, 92, t, J, Q)
def am_FvJ (I : am_I) (Q : am_Q) (t : am_J) : am_R := (none, 92, I, t, Q)
def am_FvQ (I : am_I) (J : am_J) (t : am_Q) : am_R := (none, 92, I, J, t)
def am_FvIJ (Q : am_Q) (t : am_I × am_J) : am_R := (none, 92, t.1, t.2, Q)
def am_FvIQ (J : am_J) (t : am_I × am_Q) : am_R := (none, 92, t.1, J, t.2)
def am_FvJQ (I : am_I) (t : am_J × am_Q) : am_R := (none, 92, I, t.1, t.2)
def am_FvIJQ (t : am_I × am_J × am_Q) : am_R := (none, 92, t.1, t.2.1, t.2.2)
def am_Fi (I : am_I) (J : am_J) (Q : am_Q) (t : Int32) : am_R := (some (.int t), 92, I, J, Q)
def am_FiI (J : am_J) (Q : am_Q) (t : Int32 × am_I) : am_R := (some (.int t.1), 92, t.2, J, Q)
def am_FiJ (I : am_I) (Q : am_Q) (t : Int32 × am_J) : am_R := (some (.int t.1), 92, I, t.2, Q)
def am_FiQ (I : am_I) (J : am_J) (t : Int32 × am_Q) : am_R := (some (.int t.1), 92, I, J, t.2)
def am_FiIJ (Q : am_Q) (t : Int32 × am_I × am_J) : am_R := (some (.int t.1), 92, t.2.1, t.2.2, Q)
def am_FiIQ (J : am_J) (t : Int32 × am_I × am_Q) : am_R := (some (.int t.1), 92, t.2.1, J, t.2.2)
def am_FiJQ (I : am_I) (t : Int32 × am_J × am_Q) : am_R := (some (.int t.1), 92, I, t.2.1, t.2.2)
def am_FiIJQ (t : Int32 × am_I × am_J × am_Q) : am_R := (some (.int t.1), 92, t.2.1, t.2.2.1, t.2.2.2)
def am_Fl (I : am_I) (J : am_J) (Q : am_Q) (t : Int64) : am_R := (some (.long t), 92, I, J, Q)
def am_FlI (J : am_J) (Q : am_Q) (t : Int64 × am_I) : am_R := (some (.long t.1), 92, t.2, J, Q)
def am_FlJ (I : am_I) (Q : am_Q) (t : Int64 × am_J) : am_R := (some (.long t.1), 92, I, t.2, Q)
def am_FlQ (I : am_I) (J : am_J) (t : Int64 × am_Q) : am_R := (some (.long t.1), 92, I, J, t.2)
def am_FlIJ (Q : am_Q) (t : Int64 × am_I × am_J) : am_R := (some (.long t.1), 92, t.2.1, t.2.2, Q)
def am_FlIQ (J : am_J) (t : Int64 × am_I × am_Q) : am_R := (some (.long t.1), 92, t.2.1, J, t.2.2)
def am_FlJQ (I : am_I) (t : Int64 × am_J × am_Q) : am_R := (some (.long t.1), 92, I, t.2.1, t.2.2)
def am_FlIJQ (t : Int64 × am_I × am_J × am_Q) : am_R := (some (.long t.1), 92, t.2.1, t.2.2.1, t.2.2.2)
def am_Fr (I : am_I) (J : am_J) (Q : am_Q) (t : Nat) : am_R := (some (.ref t), 92, I, J, Q)
def am_FrI (J : am_J) (Q : am_Q) (t : Nat × am_I) : am_R := (some (.ref t.1), 92, t.2, J, Q)
def am_FrJ (I : am_I) (Q : am_Q) (t : Nat × am_J) : am_R := (some (.ref t.1), 92, I, t.2, Q)
def am_FrQ (I : am_I) (J : am_J) (t : Nat × am_Q) : am_R := (some (.ref t.1), 92, I, J, t.2)
def am_FrIJ (Q : am_Q) (t : Nat × am_I × am_J) : am_R := (some (.ref t.1), 92, t.2.1, t.2.2, Q)
def am_FrIQ (J : am_J) (t : Nat × am_I × am_Q) : am_R := (some (.ref t.1), 92, t.2.1, J, t.2.2)
def am_FrJQ (I : am_I) (t : Nat × am_J × am_Q) : am_R := (some (.ref t.1), 92, I, t.2.1, t.2.2)
def am_FrIJQ (t : Nat × am_I × am_J × am_Q) : am_R := (some (.ref t.1), 92, t.2.1, t.2.2.1, t.2.2.2)
def am_Fk (I : am_I) (J : am_J) (Q : am_Q) (_ : Unit) : am_R := (some (.ref 38), 92, I, J, Q)
def am_FkI (J : am_J) (Q : am_Q) (t : am_I) : am_R := (some (.ref 38), 92, t, J, Q)
def am_FkJ (I : am_I) (Q : am_Q) (t : am_J) : am_R := (some (.ref 38), 92, I, t, Q)
def am_FkQ (I : am_I) (J : am_J) (t : am_Q) : am_R := (some (.ref 38), 92, I, J, t)
def am_FkIJ (Q : am_Q) (t : am_I × am_J) : am_R := (some (.ref 38), 92, t.1, t.2, Q)
def am_FkIQ (J : am_J) (t : am_I × am_Q) : am_R := (some (.ref 38), 92, t.1, J, t.2)
def am_FkJQ (I : am_I) (t : am_J × am_Q) : am_R := (some (.ref 38), 92, I, t.1, t.2)
def am_FkIJQ (t : am_I × am_J × am_Q) : am_R := (some (.ref 38), 92, t.1, t.2.1, t.2.2)
theorem gy_ite {y : am_MD} {d mc ms kc ks n pc : Nat} {L : List (Option Value)} {st : List Value} {I : am_I} {J : am_J} {Q : am_Q} {β : Type} {F : β → am_R} {a b : β} {c : Prop} [Decidable c] (kt : c → Gd y (am_o d mc ms (F a)) kc ks n pc L st I J Q) (kf : ¬ c → Gd y (am_o d mc ms (F b)) kc ks n pc L st I J Q) : Gd y (am_o d mc ms (F (if c then a else b))) kc ks n pc L st I J Q := by
  by_cases hc : c
  · rw [if_pos hc]; exact kt hc
  · rw [if_neg hc]; exact kf hc
theorem gx_ite {y : am_MD} {d mc ms kc ks n pc : Nat} {L : List (Option Value)} {st : List Value} {I : am_I} {J : am_J} {Q : am_Q} {β : Type} {F : β → am_R} {a b : β} {c P1 P2 : Prop} [Decidable c] (hp : if c then P1 else P2) (kt : c → P1 → Gd y (am_o d mc ms (F a)) kc ks n pc L st I J Q) (kf : ¬ c → P2 → Gd y (am_o d mc ms (F b)) kc ks n pc L st I J Q) : Gd y (am_o d mc ms (F (if c then a else b))) kc ks n pc L st I J Q :=
  gy_ite (fun hc => kt hc (by rw [if_pos hc] at hp; exact hp)) (fun hc => kf hc (by rw [if_neg hc] at hp; exact hp))
theorem gd_tsAny {y : am_MD} {o : am_O} {kc ks n pc q : Nat} {L : List (Option Value)} {st : List Value} {I : am_I} {J : am_J} {Q : am_Q} {dflt lo hi : Int} {offs : Array Int} {len : Nat} {x : Int32} (hat : am_at y pc = some (.tableswitch dflt lo hi offs, len)) (h : (x.toInt < lo ∨ hi < x.toInt) ∨ (¬ x.toInt < lo ∧ ¬ hi < x.toInt ∧ offs[(x.toInt - lo).toNat]? = some dflt)) (hr : (pc : Int) + dflt = (q : Int)) (kk : Gd y o kc ks n q L st I J Q) : Gd y o kc ks n pc L (.int x :: st) I J Q := by
  rcases h with h | ⟨h1, h2, h3⟩
  · exact gd_tsOut hat h hr kk
  · exact gd_tsIn hat h1 h2 h3 hr kk
theorem am_zn {x : Int32} (h : x = 0 ∨ x = 1) : narrow .boolean (.int x) = .int x := by rcases h with h | h <;> subst h <;> rfl
/-- how often a loop may go round -/
def FU : Nat := 20000
/-- the objects hold each other as their constructors left them -/
def Gr (Q : am_Q) : Prop := Q 0 0 = some 1 ∧ Q 0 1 = some 3 ∧ Q 0 2 = some 5 ∧ Q 0 3 = some 9 ∧ Q 0 4 = some 13 ∧ Q 0 5 = some 15 ∧ Q 0 6 = some 26 ∧ Q 0 7 = some 29 ∧ Q 0 8 = some 37 ∧ Q 1 0 = some 2 ∧ Q 3 0 = some 4 ∧ Q 5 0 = some 6 ∧ Q 5 1 = some 7 ∧ Q 5 2 = some 8 ∧ Q 9 0 = some 10 ∧ Q 9 1 = some 11 ∧ Q 9 2 = some 12 ∧ Q 13 0 = some 14 ∧ Q 15 0 = some 16 ∧ Q 15 1 = some 17 ∧ Q 15 2 = some 18 ∧ Q 15 4 = some 19 ∧ Q 15 5 = some 20 ∧ Q 15 6 = some 21 ∧ Q 15 7 = some 22 ∧ Q 15 8 = some 23 ∧ Q 15 9 = some 24 ∧ Q 15 10 = some 25 ∧ Q 26 0 = some 27 ∧ Q 26 1 = some 28 ∧ Q 29 0 = some 30 ∧ Q 29 1 = some 31 ∧ Q 29 2 = some 32 ∧ Q 29 3 = some 33 ∧ Q 29 4 = some 34 ∧ Q 29 5 = some 35 ∧ Q 29 6 = some 36 ∧ Q 38 0 = some 39 ∧ Q 38 1 = some 40 ∧ Q 38 2 = some 41 ∧ Q 38 3 = some 42 ∧ Q 38 4 = some 43 ∧ Q 38 5 = some 44 ∧ Q 38 6 = some 45 ∧ Q 46 1 = some 47 ∧ Q 46 3 = some 48 ∧ Q 46 5 = some 49 ∧ Q 46 6 = some 50 ∧ Q 46 7 = some 51 ∧ Q 46 8 = some 52 ∧ Q 46 9 = some 53 ∧ Q 46 18 = some 54 ∧ Q 46 20 = some 55 ∧ Q 46 21 = some 56 ∧ Q 46 22 = some 57 ∧ Q 46 23 = some 58 ∧ Q 46 24 = some 59 ∧ Q 46 25 = some 60 ∧ Q 46 26 = some 61 ∧ Q 46 27 = some 62 ∧ Q 46 28 = some 63 ∧ Q 46 29 = some 64 ∧ Q 46 31 = some 65 ∧ Q 46 32 = some 66 ∧ Q 46 33 = some 67 ∧ Q 46 36 = some 68 ∧ Q 46 37 = some 69 ∧ Q 46 39 = some 70 ∧ Q 46 41 = some 71 ∧ Q 46 42 = some 72 ∧ Q 46 43 = some 73 ∧ Q 46 45 = some 74 ∧ Q 46 46 = some 75 ∧ Q 46 47 = some 76 ∧ Q 46 48 = some 77 ∧ Q 46 49 = some 78 ∧ Q 46 50 = some 79 ∧ Q 46 51 = some 80 ∧ Q 46 53 = some 81 ∧ Q 46 55 = some 82 ∧ Q 46 57 = some 83 ∧ Q 46 58 = some 84 ∧ Q 46 60 = some 85 ∧ Q 46 62 = some 86 ∧ Q 46 63 = some 87 ∧ Q 46 64 = some 88 ∧ Q 46 65 = some 89 ∧ Q 46 66 = some 90 ∧ Q 46 67 = some 91
set_option maxRecDepth 100000 in
theorem gr_w12 {Q : am_Q} {j : Nat} {v : Option Nat} (h : Gr Q) : Gr (am_w Q 12 j v) := h
set_option maxRecDepth 100000 in
theorem gr_w0_12 {Q : am_Q} {v : Option Nat} (h : Gr Q) : Gr (am_w Q 0 12 v) := h
theorem gr_0_0 {Q : am_Q} (h : Gr Q) : Q 0 0 = some 1 := h.1
theorem gr_0_1 {Q : am_Q} (h : Gr Q) : Q 0 1 = some 3 := h.2.1
theorem gr_0_2 {Q : am_Q} (h : Gr Q) : Q 0 2 = some 5 := h.2.2.1
theorem gr_0_3 {Q : am_Q} (h : Gr Q) : Q 0 3 = some 9 := h.2.2.2.1
theorem gr_0_4 {Q : am_Q} (h : Gr Q) : Q 0 4 = some 13 := h.2.2.2.2.1
theorem gr_0_5 {Q : am_Q} (h : Gr Q) : Q 0 5 = some 15 := h.2.2.2.2.2.1
theorem gr_0_6 {Q : am_Q} (h : Gr Q) : Q 0 6 = some 26 := h.2.2.2.2.2.2.1
theorem gr_0_7 {Q : am_Q} (h : Gr Q) : Q 0 7 = some 29 := h.2.2.2.2.2.2.2.1
theorem gr_0_8 {Q : am_Q} (h : Gr Q) : Q 0 8 = some 37 := h.2.2.2.2.2.2.2.2.1
theorem gr_1_0 {Q : am_Q} (h : Gr Q) : Q 1 0 = some 2 := h.2.2.2.2.2.2.2.2.2.1
theorem gr_3_0 {Q : am_Q} (h : Gr Q) : Q 3 0 = some 4 := h.2.2.2.2.2.2.2.2.2.2.1
theorem gr_5_0 {Q : am_Q} (h : Gr Q) : Q 5 0 = some 6 := h.2.2.2.2.2.2.2.2.2.2.2.1
theorem gr_5_1 {Q : am_Q} (h : Gr Q) : Q 5 1 = some 7 := h.2.2.2.2.2.2.2.2.2.2.2.2.1
theorem gr_5_2 {Q : am_Q} (h : Gr Q) : Q 5 2 = some 8 := h.2.2.2.2.2.2.2.2.2.2.2.2.2.1
theorem gr_9_0 {Q : am_Q} (h : Gr Q) : Q 9 0 = some 10 := h.2.2.2.2.2.2.2.2.2.2.2.2.2.2.1
theorem gr_9_1 {Q : am_Q} (h : Gr Q) : Q 9 1 = some 11 := h.2.2.2.2.2.2.2.2.2.2.2.2.2.2.2.1
theorem gr_9_2 {Q : am_Q} (h : Gr Q) : Q 9 2 = some 12 := h.2.2.2.2.2.2.2.2.2.2.2.2.2.2.2.2.1
theorem gr_13_0 {Q : am_Q} (h : Gr Q) : Q 13 0 = some 14 := h.2.2.2.2.2.2.2.2.2.2.2.2.2.2.2.2.2.1
theorem gr_15_0 {Q : am_Q} (h : Gr Q) : Q 15 0 = some 16 := h.2.2.2.2.2.2.2.2.2.2.2.2.2.2.2.2.2.2.1
theorem gr_15_1 {Q : am_Q} (h : Gr Q) : Q 15 1 = some 17 := h.2.2.2.2.2.2.2.2.2.2.2.2.2.2.2.2.2.2.2.1
theorem gr_15_2 {Q : am_Q} (h : Gr Q) : Q 15 2 = some 18 := h.2.2.2.2.2.2.2.2.2.2.2.2.2.2.2.2.2.2.2.2.1
theorem gr_15_4 {Q : am_Q} (h : Gr Q) : Q 15 4 = some 19 := h.2.2.2.2.2.2.2.2.2.2.2.2.2.2.2.2.2.2.2.2.2.1
theorem gr_15_5 {Q : am_Q} (h : Gr Q) : Q 15 5 = some 20 := h.2.2.2.2.2.2.2.2.2.2.2.2.2.2.2.2.2.2.2.2.2.2.1
theorem gr_15_6 {Q : am_Q} (h : Gr Q) : Q 15 6 = some 21 := h.2.2.2.2.2.2.2.2.2.2.2.2.2.2.2.2.2.2.2.2.2.2.2.1
theorem gr_15_7 {Q : am_Q} (h : Gr Q) : Q 15 7 = some 22 := h.2.2.2.2.2.2.2.2.2.2.2.2.2.2.2.2.2.2.2.2.2.2.2.2.1
theorem gr_15_8 {Q : am_Q} (h : Gr Q) : Q 15 8 = some 23 := h.2.2.2.2.2.2.2.2.2.2.2.2.2.2.2.2.2.2.2.2.2.2.2.2.2.1
theorem gr_15_9 {Q : am_Q} (h : Gr Q) : Q 15 9 = some 24 := h.2.2.2.2.2.2.2.2.2.2.2.2.2.2.2.2.2.2.2.2.2.2.2.2.2.2.1
theorem gr_15_10 {Q : am_Q} (h : Gr Q) : Q 15 10 = some 25 := h.2.2.2.2.2.2.2.2.2.2.2.2.2.2.2.2.2.2.2.2.2.2.2.2.2.2.2.1
theorem gr_26_0 {Q : am_Q} (h : Gr Q) : Q 26 0 = some 27 := h.2.2.2.2.2.2.2.2.2.2.2.2.2.2.2.2.2.2.2.2.2.2.2.2.2.2.2.2.1
theorem gr_26_1 {Q : am_Q} (h : Gr Q) : Q 26 1 = some 28 := h.2.2.2.2.2.2.2.2.2.2.2.2.2.2.2.2.2.2.2.2.2.2.2.2.2.2.2.2.2.1
theorem gr_29_0 {Q : am_Q} (h : Gr Q) : Q 29 0 = some 30 := h.2.2.2.2.2.2.2.2.2.2.2.2.2.2.2.2.2.2.2.2.2.2.2.2.2.2.2.2.2.2.1
theorem gr_29_1 {Q : am_Q} (h : Gr Q) : Q 29 1 = some 31 := h.2.2.2.2.2.2.2.2.2.2.2.2.2.2.2.2.2.2.2.2.2.2.2.2.2.2.2.2.2.2.2.1
theorem gr_29_2 {Q : am_Q} (h : Gr Q) : Q 29 2 = some 32 := h.2.2.2.2.2.2.2.2.2.2.2.2.2.2.2.2.2.2.2.2.2.2.2.2.2.2.2.2.2.2.2.2.1
theorem gr_29_3 {Q : am_Q} (h : Gr Q) : Q 29 3 = some 33 := h.2.2.2.2.2.2.2.2.2.2.2.2.2.2.2.2.2.2.2.2.2.2.2.2.2.2.2.2.2.2.2.2.2.1
theorem gr_29_4 {Q : am_Q} (h : Gr Q) : Q 29 4 = some 34 := h.2.2.2.2.2.2.2.2.2.2.2.2.2.2.2.2.2.2.2.2.2.2.2.2.2.2.2.2.2.2.2.2.2.2.1
theorem gr_29_5 {Q : am_Q} (h : Gr Q) : Q 29 5 = some 35 := h.2.2.2.2.2.2.2.2.2.2.2.2.2.2.2.2.2.2.2.2.2.2.2.2.2.2.2.2.2.2.2.2.2.2.2.1
theorem gr_29_6 {Q : am_Q} (h : Gr Q) : Q 29 6 = some 36 := h.2.2.2.2.2.2.2.2.2.2.2.2.2.2.2.2.2.2.2.2.2.2.2.2.2.2.2.2.2.2.2.2.2.2.2.2.1
theorem gr_38_0 {Q : am_Q} (h : Gr Q) : Q 38 0 = some 39 := h.2.2.2.2.2.2.2.2.2.2.2.2.2.2.2.2.2.2.2.2.2.2.2.2.2.2.2.2.2.2.2.2.2.2.2.2.2.1
theorem gr_38_1 {Q : am_Q} (h : Gr Q) : Q 38 1 = some 40 := h.2.2.2.2.2.2.2.2.2.2.2.2.2.2.2.2.2.2.2.2.2.2.2.2.2.2.2.2.2.2.2.2.2.2.2.2.2.2.1
theorem gr_38_2 {Q : am_Q} (h : Gr Q) : Q 38 2 = some 41 := h.2.2.2.2.2.2.2.2.2.2.2.2.2.2.2.2.2.2.2.2.2.2.2.2.2.2.2.2.2.2.2.2.2.2.2.2.2.2.2.1
theorem gr_38_3 {Q : am_Q} (h : Gr Q) : Q 38 3 = some 42 := h.2.2.2.2.2.2.2.2.2.2.2.2.2.2.2.2.2.2.2.2.2.2.2.2.2.2.2.2.2.2.2.2.2.2.2.2.2.2.2.2.1
theorem gr_38_4 {Q : am_Q} (h : Gr Q) : Q 38 4 = some 43 := h.2.2.2.2.2.2.2.2.2.2.2.2.2.2.2.2.2.2.2.2.2.2.2.2.2.2.2.2.2.2.2.2.2.2.2.2.2.2.2.2.2.1
theorem gr_38_5 {Q : am_Q} (h : Gr Q) : Q 38 5 = some 44 := h.2.2.2.2.2.2.2.2.2.2.2.2.2.2.2.2.2.2.2.2.2.2.2.2.2.2.2.2.2.2.2.2.2.2.2.2.2.2.2.2.2.2.1
theorem gr_38_6 {Q : am_Q} (h : Gr Q) : Q 38 6 = some 45 := h.2.2.2.2.2.2.2.2.2.2.2.2.2.2.2.2.2.2.2.2.2.2.2.2.2.2.2.2.2.2.2.2.2.2.2.2.2.2.2.2.2.2.2.1
theorem gr_46_1 {Q : am_Q} (h : Gr Q) : Q 46 1 = some 47 := h.2.2.2.2.2.2.2.2.2.2.2.2.2.2.2.2.2.2.2.2.2.2.2.2.2.2.2.2.2.2.2.2.2.2.2.2.2.2.2.2.2.2.2.2.1
theorem gr_46_3 {Q : am_Q} (h : Gr Q) : Q 46 3 = some 48 := h.2.2.2.2.2.2.2.2.2.2.2.2.2.2.2.2.2.2.2.2.2.2.2.2.2.2.2.2.2.2.2.2.2.2.2.2.2.2.2.2.2.2.2.2.2.1
theorem gr_46_5 {Q : am_Q} (h : Gr Q) : Q 46 5 = some 49 := h.2.2.2.2.2.2.2.2.2.2.2.2.2.2.2.2.2.2.2.2.2.2.2.2.2.2.2.2.2.2.2.2.2.2.2.2.2.2.2.2.2.2.2.2.2.2.1
theorem gr_46_6 {Q : am_Q} (h : Gr Q) : Q 46 6 = some 50 := h.2.2.2.2.2.2.2.2.2.2.2.2.2.2.2.2.2.2.2.2.2.2.2.2.2.2.2.2.2.2.2.2.2.2.2.2.2.2.2.2.2.2.2.2.2.2.2.1
theorem gr_46_7 {Q : am_Q} (h : Gr Q) : Q 46 7 = some 51 := h.2.2.2.2.2.2.2.2.2.2.2.2.2.2.2.2.2.2.2.2.2.2.2.2.2.2.2.2.2.2.2.2.2.2.2.2.2.2.2.2.2.2.2.2.2.2.2.2.1
theorem gr_46_8 {Q : am_Q} (h : Gr Q) : Q 46 8 = some 52 := h.2.2.2.2.2.2.2.2.2.2.2.2.2.2.2.2.2.2.2.2.2.2.2.2.2.2.2.2.2.2.2.2.2.2.2.2.2.2.2.2.2.2.2.2.2.2.2.2.2.1
theorem gr_46_9 {Q : am_Q} (h : Gr Q) : Q 46 9 = some 53 := h.2.2.2.2.2.2.2.2.2.2.2.2.2.2.2.2.2.2.2.2.2.2.2.2.2.2.2.2.2.2.2.2.2.2.2.2.2.2.2.2.2.2.2.2.2.2.2.2.2.2.1
theorem gr_46_18 {Q : am_Q} (h : Gr Q) : Q 46 18 = some 54 := h.2.2.2.2.2.2.2.2.2.2.2.2.2.2.2.2.2.2.2.2.2.2.2.2.2.2.2.2.2.2.2.2.2.2.2.2.2.2.2.2.2.2.2.2.2.2.2.2.2.2.2.1
theorem gr_46_20 {Q : am_Q} (h : Gr Q) : Q 46 20 = some 55 := h.2.2.2.2.2.2.2.2.2.2.2.2.2.2.2.2.2.2.2.2.2.2.2.2.2.2.2.2.2.2.2.2.2.2.2.2.2.2.2.2.2.2.2.2.2.2.2.2.2.2.2.2.1
theorem gr_46_21 {Q : am_Q} (h : Gr Q) : Q 46 21 = some 56 := h.2.2.2.2.2.2.2.2.2.2.2.2.2.2.2.2.2.2.2.2.2.2.2.2.2.2.2.2.2.2.2.2.2.2.2.2.2.2.2.2.2.2.2.2.2.2.2.2.2.2.2.2.2.1
theorem gr_46_22 {Q : am_Q} (h : Gr Q) : Q 46 22 = some 57 := h.2.2.2.2.2.2.2.2.2.2.2.2.2.2.2.2.2.2.2.2.2.2.2.2.2.2.2.2.2.2.2.2.2.2.2.2.2.2.2.2.2.2.2.2.2.2.2.2.2.2.2.2.2.2.1
theorem gr_46_23 {Q : am_Q} (h : Gr Q) : Q 46 23 = some 58 := h.2.2.2.2.2.2.2.2.2.2.2.2.2.2.2.2.2.2.2.2.2.2.2.2.2.2.2.2.2.2.2.2.2.2.2.2.2.2.2.2.2.2.2.2.2.2.2.2.2.2.2.2.2.2.2.1
theorem gr_46_24 {Q : am_Q} (h : Gr Q) : Q 46 24 = some 59 := h.2.2.2.2.2.2.2.2.2.2.2.2.2.2.2.2.2.2.2.2.2.2.2.2.2.2.2.2.2.2.2.2.2.2.2.2.2.2.2.2.2.2.2.2.2.2.2.2.2.2.2.2.2.2.2.2.1
theorem gr_46_25 {Q : am_Q} (h : Gr Q) : Q 46 25 = some 60 := h.2.2.2.2.2.2.2.2.2.2.2.2.2.2.2.2.2.2.2.2.2.2.2.2.2.2.2.2.2.2.2.2.2.2.2.2.2.2.2.2.2.2.2.2.2.2.2.2.2.2.2.2.2.2.2.2.2.1
theorem gr_46_26 {Q : am_Q} (h : Gr Q) : Q 46 26 = some 61 := h.2.2.2.2.2.2.2.2.2.2.2.2.2.2.2.2.2.2.2.2.2.2.2.2.2.2.2.2.2.2.2.2.2.2.2.2.2.2.2.2.2.2.2.2.2.2.2.2.2.2.2.2.2.2.2.2.2.2.1
theorem gr_46_27 {Q : am_Q} (h : Gr Q) : Q 46 27 = some 62 := h.2.2.2.2.2.2.2.2.2.2.2.2.2.2.2.2.2.2.2.2.2.2.2.2.2.2.2.2.2.2.2.2.2.2.2.2.2.2.2.2.2.2.2.2.2.2.2.2.2.2.2.2.2.2.2.2.2.2.2.1
theorem gr_46_28 {Q : am_Q} (h : Gr Q) : Q 46 28 = some 63 := h.2.2.2.2.2.2.2.2.2.2.2.2.2.2.2.2.2.2.2.2.2.2.2.2.2.2.2.2.2.2.2.2.2.2.2.2.2.2.2.2.2.2.2.2.2.2.2.2.2.2.2.2.2.2.2.2.2.2.2.2.1
theorem gr_46_29 {Q : am_Q} (h : Gr Q) : Q 46 29 = some 64 := h.2.2.2.2.2.2.2.2.2.2.2.2.2.2.2.2.2.2.2.2.2.2.2.2.2.2.2.2.2.2.2.2.2.2.2.2.2.2.2.2.2.2.2.2.2.2.2.2.2.2.2.2.2.2.2.2.2.2.2.2.2.1
theorem gr_46_31 {Q : am_Q} (h : Gr Q) : Q 46 31 = some 65 := h.2.2.2.2.2.2.2.2.2.2.2.2.2.2.2.2.2.2.2.2.2.2.2.2.2.2.2.2.2.2.2.2.2.2.2.2.2.2.2.2.2.2.2.2.2.2.2.2.2.2.2.2.2.2.2.2.2.2.2.2.2.2.1
theorem gr_46_32 {Q : am_Q} (h : Gr Q) : Q 46 32 = some 66 := h.2.2.2.2.2.2.2.2.2.2.2.2.2.2.2.2.2.2.2.2.2.2.2.2.2.2.2.2.2.2.2.2.2.2.2.2.2.2.2.2.2.2.2.2.2.2.2.2.2.2.2.2.2.2.2.2.2.2.2.2.2.2.2.1
theorem gr_46_33 {Q : am_Q} (h : Gr Q) : Q 46 33 = some 67 := h.2.2.2.2.2.2.2.2.2.2.2.2.2.2.2.2.2.2.2.2.2.2.2.2.2.2.2.2.2.2.2.2.2.2.2.2.2.2.2.2.2.2.2.2.2.2.2.2.2.2.2.2.2.2.2.2.2.2.2.2.2.2.2.2.1
theorem gr_46_36 {Q : am_Q} (h : Gr Q) : Q 46 36 = some 68 := h.2.2.2.2.2.2.2.2.2.2.2.2.2.2.2.2.2.2.2.2.2.2.2.2.2.2.2.2.2.2.2.2.2.2.2.2.2.2.2.2.2.2.2.2.2.2.2.2.2.2.2.2.2.2.2.2.2.2.2.2.2.2.2.2.2.1
theorem gr_46_37 {Q : am_Q} (h : Gr Q) : Q 46 37 = some 69 := h.2.2.2.2.2.2.2.2.2.2.2.2.2.2.2.2.2.2.2.2.2.2.2.2.2.2.2.2.2.2.2.2.2.2.2.2.2.2.2.2.2.2.2.2.2.2.2.2.2.2.2.2.2.2.2.2.2.2.2.2.2.2.2.2.2.2.1
theorem gr_46_39 {Q : am_Q} (h : Gr Q) : Q 46 39 = some 70 := h.2.2.2.2.2.2.2.2.2.2.2.2.2.2.2.2.2.2.2.2.2.2.2.2.2.2.2.2.2.2.2.2.2.2.2.2.2.2.2.2.2.2.2.2.2.2.2.2.2.2.2.2.2.2.2.2.2.2.2.2.2.2.2.2.2.2.2.1
theorem gr_46_41 {Q : am_Q} (h : Gr Q) : Q 46 41 = some 71 := h.2.2.2.2.2.2.2.2.2.2.2.2.2.2.2.2.2.2.2.2.2.2.2.2.2.2.2.2.2.2.2.2.2.2.2.2.2.2.2.2.2.2.2.2.2.2.2.2.2.2.2.2.2.2.2.2.2.2.2.2.2.2.2.2.2.2.2.2.1
theorem gr_46_42 {Q : am_Q} (h : Gr Q) : Q 46 42 = some 72 := h.2.2.2.2.2.2.2.2.2.2.2.2.2.2.2.2.2.2.2.2.2.2.2.2.2.2.2.2.2.2.2.2.2.2.2.2.2.2.2.2.2.2.2.2.2.2.2.2.2.2.2.2.2.2.2.2.2.2.2.2.2.2.2.2.2.2.2.2.2.1
theorem gr_46_43 {Q : am_Q} (h : Gr Q) : Q 46 43 = some 73 := h.2.2.2.2.2.2.2.2.2.2.2.2.2.2.2.2.2.2.2.2.2.2.2.2.2.2.2.2.2.2.2.2.2.2.2.2.2.2.2.2.2.2.2.2.2.2.2.2.2.2.2.2.2.2.2.2.2.2.2.2.2.2.2.2.2.2.2.2.2.2.1
theorem gr_46_45 {Q : am_Q} (h : Gr Q) : Q 46 45 = some 74 := h.2.2.2.2.2.2.2.2.2.2.2.2.2.2.2.2.2.2.2.2.2.2.2.2.2.2.2.2.2.2.2.2.2.2.2.2.2.2.2.2.2.2.2.2.2.2.2.2.2.2.2.2.2.2.2.2.2.2.2.2.2.2.2.2.2.2.2.2.2.2.2.1
theorem gr_46_46 {Q : am_Q} (h : Gr Q) : Q 46 46 = some 75 := h.2.2.2.2.2.2.2.2.2.2.2.2.2.2.2.2.2.2.2.2.2.2.2.2.2.2.2.2.2.2.2.2.2.2.2.2.2.2.2.2.2.2.2.2.2.2.2.2.2.2.2.2.2.2.2.2.2.2.2.2.2.2.2.2.2.2.2.2.2.2.2.2.1
theorem gr_46_47 {Q : am_Q} (h : Gr Q) : Q 46 47 = some 76 := h.2.2.2.2.2.2.2.2.2.2.2.2.2.2.2.2.2.2.2.2.2.2.2.2.2.2.2.2.2.2.2.2.2.2.2.2.2.2.2.2.2.2.2.2.2.2.2.2.2.2.2.2.2.2.2.2.2.2.2.2.2.2.2.2.2.2.2.2.2.2.2.2.2.1
theorem gr_46_48 {Q : am_Q} (h : Gr Q) : Q 46 48 = some 77 := h.2.2.2.2.2.2.2.2.2.2.2.2.2.2.2.2.2.2.2.2.2.2.2.2.2.2.2.2.2.2.2.2.2.2.2.2.2.2.2.2.2.2.2.2.2.2.2.2.2.2.2.2.2.2.2.2.2.2.2.2.2.2.2.2.2.2.2.2.2.2.2.2.2.2.1
theorem gr_46_49 {Q : am_Q} (h : Gr Q) : Q 46 49 = some 78 := h.2.2.2.2.2.2.2.2.2.2.2.2.2.2.2.2.2.2.2.2.2.2.2.2.2.2.2.2.2.2.2.2.2.2.2.2.2.2.2.2.2.2.2.2.2.2.2.2.2.2.2.2.2.2.2.2.2.2.2.2.2.2.2.2.2.2.2.2.2.2.2.2.2.2.2.1
theorem gr_46_50 {Q : am_Q} (h : Gr Q) : Q 46 50 = some 79 := h.2.2.2.2.2.2.2.2.2.2.2.2.2.2.2.2.2.2.2.2.2.2.2.2.2.2.2.2.2.2.2.2.2.2.2.2.2.2.2.2.2.2.2.2.2.2.2.2.2.2.2.2.2.2.2.2.2.2.2.2.2.2.2.2.2.2.2.2.2.2.2.2.2.2.2.2.1
theorem gr_46_51 {Q : am_Q} (h : Gr Q) : Q 46 51 = some 80 := h.2.2.2.2.2.2.2.2.2.2.2.2.2.2.2.2.2.2.2.2.2.2.2.2.2.2.2.2.2.2.2.2.2.2.2.2.2.2.2.2.2.2.2.2.2.2.2.2.2.2.2.2.2.2.2.2.2.2.2.2.2.2.2.2.2.2.2.2.2.2.2.2.2.2.2.2.2.1
theorem gr_46_53 {Q : am_Q} (h : Gr Q) : Q 46 53 = some 81 := h.2.2.2.2.2.2.2.2.2.2.2.2.2.2.2.2.2.2.2.2.2.2.2.2.2.2.2.2.2.2.2.2.2.2.2.2.2.2.2.2.2.2.2.2.2.2.2.2.2.2.2.2.2.2.2.2.2.2.2.2.2.2.2.2.2.2.2.2.2.2.2.2.2.2.2.2.2.2.1
theorem gr_46_55 {Q : am_Q} (h : Gr Q) : Q 46 55 = some 82 := h.2.2.2.2.2.2.2.2.2.2.2.2.2.2.2.2.2.2.2.2.2.2.2.2.2.2.2.2.2.2.2.2.2.2.2.2.2.2.2.2.2.2.2.2.2.2.2.2.2.2.2.2.2.2.2.2.2.2.2.2.2.2.2.2.2.2.2.2.2.2.2.2.2.2.2.2.2.2.2.1
theorem gr_46_57 {Q : am_Q} (h : Gr Q) : Q 46 57 = some 83 := h.2.2.2.2.2.2.2.2.2.2.2.2.2.2.2.2.2.2.2.2.2.2.2.2.2.2.2.2.2.2.2.2.2.2.2.2.2.2.2.2.2.2.2.2.2.2.2.2.2.2.2.2.2.2.2.2.2.2.2.2.2.2.2.2.2.2.2.2.2.2.2.2.2.2.2.2.2.2.2.2.1
theorem gr_46_58 {Q : am_Q} (h : Gr Q) : Q 46 58 = some 84 := h.2.2.2.2.2.2.2.2.2.2.2.2.2.2.2.2.2.2.2.2.2.2.2.2.2.2.2.2.2.2.2.2.2.2.2.2.2.2.2.2.2.2.2.2.2.2.2.2.2.2.2.2.2.2.2.2.2.2.2.2.2.2.2.2.2.2.2.2.2.2.2.2.2.2.2.2.2.2.2.2.2.1
theorem gr_46_60 {Q : am_Q} (h : Gr Q) : Q 46 60 = some 85 := h.2.2.2.2.2.2.2.2.2.2.2.2.2.2.2.2.2.2.2.2.2.2.2.2.2.2.2.2.2.2.2.2.2.2.2.2.2.2.2.2.2.2.2.2.2.2.2.2.2.2.2.2.2.2.2.2.2.2.2.2.2.2.2.2.2.2.2.2.2.2.2.2.2.2.2.2.2.2.2.2.2.2.1
theorem gr_46_62 {Q : am_Q} (h : Gr Q) : Q 46 62 = some 86 := h.2.2.2.2.2.2.2.2.2.2.2.2.2.2.2.2.2.2.2.2.2.2.2.2.2.2.2.2.2.2.2.2.2.2.2.2.2.2.2.2.2.2.2.2.2.2.2.2.2.2.2.2.2.2.2.2.2.2.2.2.2.2.2.2.2.2.2.2.2.2.2.2.2.2.2.2.2.2.2.2.2.2.2.1
theorem gr_46_63 {Q : am_Q} (h : Gr Q) : Q 46 63 = some 87 := h.2.2.2.2.2.2.2.2.2.2.2.2.2.2.2.2.2.2.2.2.2.2.2.2.2.2.2.2.2.2.2.2.2.2.2.2.2.2.2.2.2.2.2.2.2.2.2.2.2.2.2.2.2.2.2.2.2.2.2.2.2.2.2.2.2.2.2.2.2.2.2.2.2.2.2.2.2.2.2.2.2.2.2.2.1
theorem gr_46_64 {Q : am_Q} (h : Gr Q) : Q 46 64 = some 88 := h.2.2.2.2.2.2.2.2.2.2.2.2.2.2.2.2.2.2.2.2.2.2.2.2.2.2.2.2.2.2.2.2.2.2.2.2.2.2.2.2.2.2.2.2.2.2.2.2.2.2.2.2.2.2.2.2.2.2.2.2.2.2.2.2.2.2.2.2.2.2.2.2.2.2.2.2.2.2.2.2.2.2.2.2.2.1
theorem gr_46_65 {Q : am_Q} (h : Gr Q) : Q 46 65 = some 89 := h.2.2.2.2.2.2.2.2.2.2.2.2.2.2.2.2.2.2.2.2.2.2.2.2.2.2.2.2.2.2.2.2.2.2.2.2.2.2.2.2.2.2.2.2.2.2.2.2.2.2.2.2.2.2.2.2.2.2.2.2.2.2.2.2.2.2.2.2.2.2.2.2.2.2.2.2.2.2.2.2.2.2.2.2.2.2.1
theorem gr_46_66 {Q : am_Q} (h : Gr Q) : Q 46 66 = some 90 := h.2.2.2.2.2.2.2.2.2.2.2.2.2.2.2.2.2.2.2.2.2.2.2.2.2.2.2.2.2.2.2.2.2.2.2.2.2.2.2.2.2.2.2.2.2.2.2.2.2.2.2.2.2.2.2.2.2.2.2.2.2.2.2.2.2.2.2.2.2.2.2.2.2.2.2.2.2.2.2.2.2.2.2.2.2.2.2.1
theorem gr_46_67 {Q : am_Q} (h : Gr Q) : Q 46 67 = some 91 := h.2.2.2.2.2.2.2.2.2.2.2.2.2.2.2.2.2.2.2.2.2.2.2.2.2.2.2.2.2.2.2.2.2.2.2.2.2.2.2.2.2.2.2.2.2.2.2.2.2.2.2.2.2.2.2.2.2.2.2.2.2.2.2.2.2.2.2.2.2.2.2.2.2.2.2.2.2.2.2.2.2.2.2.2.2.2.2.2
