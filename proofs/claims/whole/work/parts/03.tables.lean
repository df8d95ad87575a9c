/-- class names by number: 0..10 the classes of vwCl, 11 the law, 12.. the JDK -/
def am_cn : Nat → String := fun k => match k with
  | 0 => RX0
  | 1 => RX1
  | 2 => RX2
  | 3 => RX3
  | 4 => RX4
  | 5 => RX5
  | 6 => RX6
  | 7 => RX7
  | 8 => RX8
  | 9 => RX9
  | 10 => RX10
  | 11 => RL
  | 12 => RJ0
  | 13 => RJ1
  | 14 => RJ2
  | 15 => RJ3
  | 18 => RJ6
  | _ => RJ7
/-- field links by the own class: index, nest mate, class, slot, place in lw_tbl -/
def am_ft0 : List (Nat × Bool × Nat × Nat × Nat) := [(9, false, 0, 0, 280), (15, false, 0, 1, 281), (19, false, 0, 2, 282)]
def am_ft1 : List (Nat × Bool × Nat × Nat × Nat) := [(9, false, 1, 0, 329), (15, false, 1, 1, 330), (19, false, 1, 2, 331), (22, false, 1, 3, 332), (25, false, 1, 4, 333), (29, false, 1, 5, 334), (32, false, 1, 6, 335), (35, false, 1, 7, 337), (39, false, 1, 8, 338), (42, false, 1, 9, 339), (45, false, 1, 10, 340), (70, true, 3, 2, 166), (75, true, 3, 3, 168)]
def am_ft2 : List (Nat × Bool × Nat × Nat × Nat) := [(9, false, 2, 0, 130), (31, true, 6, 3, 104), (35, true, 1, 7, 336), (46, true, 6, 4, 106), (49, false, 2, 7, 137), (52, false, 2, 6, 136), (55, false, 2, 1, 131), (58, false, 2, 2, 132), (61, false, 2, 3, 133), (64, false, 2, 4, 134), (67, false, 2, 5, 135), (103, true, 6, 5, 109)]
def am_ft3 : List (Nat × Bool × Nat × Nat × Nat) := [(9, false, 3, 0, 163), (15, false, 3, 1, 164), (18, false, 3, 2, 165), (28, false, 3, 5, 170), (32, false, 3, 6, 171), (35, false, 3, 4, 169), (63, false, 3, 3, 167)]
def am_ft4 : List (Nat × Bool × Nat × Nat × Nat) := [(9, false, 4, 0, 229), (15, false, 4, 1, 230), (18, false, 4, 2, 231), (21, false, 4, 4, 234), (24, false, 4, 5, 235), (27, false, 4, 6, 237), (30, false, 4, 7, 239), (33, false, 4, 8, 241), (36, false, 4, 9, 243), (39, false, 4, 10, 245), (42, false, 4, 11, 247), (50, false, 4, 3, 232)]
def am_ft5 : List (Nat × Bool × Nat × Nat × Nat) := [(9, false, 5, 0, 297), (15, false, 5, 1, 298), (18, false, 5, 2, 299), (21, false, 5, 3, 300), (24, false, 5, 4, 301), (27, false, 5, 5, 302), (30, false, 5, 6, 303), (33, false, 5, 7, 304)]
def am_ft6 : List (Nat × Bool × Nat × Nat × Nat) := [(9, false, 6, 0, 100), (15, false, 6, 1, 101), (23, false, 6, 2, 103), (30, false, 6, 4, 107), (33, false, 6, 5, 108), (36, false, 6, 3, 105)]
def am_ft7 : List (Nat × Bool × Nat × Nat × Nat) := [(9, false, 7, 0, 215), (15, false, 7, 1, 216)]
def am_ft8 : List (Nat × Bool × Nat × Nat × Nat) := [(9, false, 8, 0, 195), (15, false, 8, 1, 196), (20, false, 8, 2, 197), (24, false, 8, 3, 198)]
def am_ft9 : List (Nat × Bool × Nat × Nat × Nat) := [(12, false, 9, 0, 367), (19, false, 9, 1, 368), (26, false, 9, 2, 369), (33, false, 9, 3, 370), (40, false, 9, 4, 371), (47, false, 9, 5, 372), (54, false, 9, 6, 373), (61, false, 9, 7, 374), (65, false, 9, 8, 375), (69, false, 9, 10, 377), (73, false, 9, 11, 378), (79, false, 9, 12, 379), (95, true, 7, 1, 217), (102, true, 2, 7, 138), (137, false, 9, 9, 376), (158, true, 4, 8, 242), (190, true, 4, 11, 248), (193, true, 4, 7, 240), (198, true, 4, 6, 238), (201, true, 4, 5, 236), (204, true, 1, 10, 341), (230, true, 8, 3, 199), (231, true, 4, 3, 233), (234, true, 0, 2, 283), (235, true, 5, 7, 305), (236, true, 6, 1, 102), (257, true, 4, 10, 246), (266, true, 4, 9, 244)]
def am_ft10 : List (Nat × Bool × Nat × Nat × Nat) := [(13, false, 10, 1, 968), (17, false, 10, 3, 970), (20, false, 10, 5, 972), (24, false, 10, 6, 973), (27, false, 10, 7, 974), (30, false, 10, 8, 975), (34, false, 10, 9, 976), (37, false, 10, 17, 984), (40, false, 10, 18, 985), (43, false, 10, 20, 987), (46, false, 10, 21, 988), (49, false, 10, 22, 989), (52, false, 10, 23, 990), (55, false, 10, 24, 991), (58, false, 10, 25, 992), (61, false, 10, 26, 993), (64, false, 10, 27, 994), (67, false, 10, 28, 995), (70, false, 10, 29, 996), (74, false, 10, 31, 998), (77, false, 10, 32, 999), (80, false, 10, 33, 1000), (83, false, 10, 36, 1003), (86, false, 10, 37, 1004), (89, false, 10, 39, 1006), (92, false, 10, 41, 1008), (95, false, 10, 42, 1009), (98, false, 10, 43, 1010), (101, false, 10, 45, 1012), (104, false, 10, 46, 1013), (107, false, 10, 47, 1014), (110, false, 10, 48, 1015), (113, false, 10, 49, 1016), (116, false, 10, 50, 1017), (119, false, 10, 51, 1018), (122, false, 10, 53, 1020), (125, false, 10, 55, 1022), (128, false, 10, 57, 1024), (131, false, 10, 58, 1025), (134, false, 10, 60, 1027), (137, false, 10, 62, 1029), (140, false, 10, 63, 1030), (143, false, 10, 64, 1031), (146, false, 10, 65, 1032), (149, false, 10, 66, 1033), (152, false, 10, 67, 1034), (159, false, 10, 56, 1023), (162, false, 10, 2, 969), (169, false, 10, 4, 971), (178, false, 10, 10, 977), (200, false, 10, 13, 980), (203, false, 10, 11, 978), (206, false, 10, 14, 981), (209, false, 10, 15, 982), (212, false, 10, 16, 983), (230, false, 10, 12, 979), (233, false, 10, 19, 986), (236, false, 10, 30, 997), (249, false, 10, 38, 1005), (262, false, 10, 34, 1001), (268, false, 10, 35, 1002), (271, false, 10, 44, 1011), (274, false, 10, 52, 1019), (280, false, 10, 40, 1007), (286, false, 10, 54, 1021), (292, false, 10, 59, 1026), (341, false, 10, 61, 1028), (350, false, 10, 68, 1035)]
def am_ft11 : List (Nat × Bool × Nat × Nat × Nat) := []
def am_ft : Nat → List (Nat × Bool × Nat × Nat × Nat) := fun k => match k with
  | 0 => am_ft0
  | 1 => am_ft1
  | 2 => am_ft2
  | 3 => am_ft3
  | 4 => am_ft4
  | 5 => am_ft5
  | 6 => am_ft6
  | 7 => am_ft7
  | 8 => am_ft8
  | 9 => am_ft9
  | 10 => am_ft10
  | 11 => am_ft11
  | _ => []
def am_fc (oc : Nat) (e : Nat × Bool × Nat × Nat × Nat) (T : u_T) : Cond :=
  if e.2.1 = true then Cond.fieldLinkNest (am_cn oc) e.1 (T e.2.2.2.1).1 (T e.2.2.2.1).2.1 (T e.2.2.2.1).2.2.1 "TapeHouse" else Cond.fieldLink (am_cn oc) e.1 (T e.2.2.2.1).1 (T e.2.2.2.1).2.1 (T e.2.2.2.1).2.2.1
def am_fchk (oc : Nat) (e : Nat × Bool × Nat × Nat × Nat) : Bool := match vwCl[e.2.2.1]? with
  | some q => decide (e.2.2.2.1 < q.2.2) && decide (lw_tbl[e.2.2.2.2]? = some (am_fc oc e q.2.1))
  | none => false
theorem am_ft0_ok : am_ft0.all (am_fchk 0) = true := by decide +kernel
theorem am_ft1_ok : am_ft1.all (am_fchk 1) = true := by decide +kernel
theorem am_ft2_ok : am_ft2.all (am_fchk 2) = true := by decide +kernel
theorem am_ft3_ok : am_ft3.all (am_fchk 3) = true := by decide +kernel
theorem am_ft4_ok : am_ft4.all (am_fchk 4) = true := by decide +kernel
theorem am_ft5_ok : am_ft5.all (am_fchk 5) = true := by decide +kernel
theorem am_ft6_ok : am_ft6.all (am_fchk 6) = true := by decide +kernel
theorem am_ft7_ok : am_ft7.all (am_fchk 7) = true := by decide +kernel
theorem am_ft8_ok : am_ft8.all (am_fchk 8) = true := by decide +kernel
theorem am_ft9_ok : am_ft9.all (am_fchk 9) = true := by decide +kernel
theorem am_ft10_ok : am_ft10.all (am_fchk 10) = true := by decide +kernel
theorem am_ft11_ok : am_ft11.all (am_fchk 11) = true := by decide +kernel
theorem am_ft_ok (oc : Nat) : (am_ft oc).all (am_fchk oc) = true := by
  match oc with
  | 0 => exact am_ft0_ok
  | 1 => exact am_ft1_ok
  | 2 => exact am_ft2_ok
  | 3 => exact am_ft3_ok
  | 4 => exact am_ft4_ok
  | 5 => exact am_ft5_ok
  | 6 => exact am_ft6_ok
  | 7 => exact am_ft7_ok
  | 8 => exact am_ft8_ok
  | 9 => exact am_ft9_ok
  | 10 => exact am_ft10_ok
  | 11 => exact am_ft11_ok
  | n + 12 => rfl
/-- method data: own class, name, code, locals, answer, instructions -/
abbrev am_MD : Type := Nat × MethodName × ByteArray × Nat × Option FieldType × List (Nat × Instr × Nat)
theorem am_all2 {α : Type} {p : α → Bool} {a b : List α} (h1 : a.all p = true) (h2 : b.all p = true) : (a ++ b).all p = true := by rw [List.all_append, h1, h2]; rfl
