def le_1 (j : Nat) (I1 : am_I) (E : Nat → am_I) : Nat → am_I := fun j' i => if j' = j then I1 (38 + i) else E j' i
abbrev am_V : Type := Nat → am_I → am_J → am_Q → (Nat → am_I) → Prop
/-- one call of the class and one of the reference: the same answer, and the invariant again -/
def LStp (V : am_V) (yc ym : am_MD) (dc dm mc ms : Nat) (As : List Value) : Prop := ∀ (nc : Nat) (I : am_I) (J : am_J) (Q : am_Q) (E : Nat → am_I), V nc I J Q E → ∃ (j : Nat) (x : Int32) (I1 : am_I) (J1 : am_J) (Q1 : am_Q), j < nc ∧ Cm yc dc mc ms 92 (.ref 0 :: As) (lI j I E) J (lQ j Q) (some (.int x), 92, I1, J1, lQ j Q1) ∧ (∀ k f r, Q1 k f = some r → lv_l nc r) ∧ ∃ (j2 : Nat) (I2 : am_I) (J2 : am_J), j2 < nc ∧ Cm ym dm 0 0 92 (.ref 46 :: As) (lI j2 I1 (le_1 j I1 E)) J1 (lQ j2 Q1) (some (.int x), 92, I2, J2, lQ j2 Q1) ∧ V nc I2 J2 Q1 (le_1 j2 I2 (le_1 j I1 E))
abbrev am_LL (i : Int32) : List (Option Value) := [some (.ref 2000), some (.ref 0), some (.ref 46), some (.int i)]
def l_in (i : Int32) (N : Nat) : Prop := vp_in (i + 1) N ∧ vp_in (i + 2) N ∧ vp_in (i + 3) N ∧ vp_in (i + 4) N ∧ vp_in (i + 5) N ∧ vp_in (i + 6) N
set_option maxRecDepth 100000 in
set_option maxHeartbeats 4000000 in
theorem lc_0 {b N kc ks nc : Nat} {xs : Nat → Int32} {i : Int32} {I : am_I} {J : am_J} {Q : am_Q} {E : Nat → am_I} {V : am_V} (hi : l_in i N) (hs : LStp V MX9_feed MX10_feed 2 1 0 0 [.int (xs (i + 1).toNatClampNeg), .int (xs (i + 2).toNatClampNeg), .int (xs (i + 3).toNatClampNeg), .int (xs (i + 4).toNatClampNeg), .int (xs (i + 5).toNatClampNeg)]) (hV : V nc I J Q E) (hf : kc + 8 ≤ 600000 ∧ ks + 975 ≤ 7302250) (kk : ∀ (I2 : am_I) (J2 : am_J) (Q2 : am_Q) (E2 : Nat → am_I), V nc I2 J2 Q2 E2 → GL b N xs (kc + 0) (ks + 0) 1236 (am_LL i) [] nc I2 J2 Q2 E2) : GL b N xs kc ks 160 (am_LL i) [] nc I J Q E := by
  obtain ⟨j, x, I1, J1, Q1, hj, hc1, hQ1, j2, I2, J2, hj2, hc2, hV2⟩ := hs nc I J Q E hV
  refine gl_aload_n (q := 161) rfl rfl rfl ?_
  refine gl_aload_n (q := 162) rfl rfl rfl ?_
  refine gl_iload_n (q := 163) rfl rfl rfl ?_
  refine gl_iconst (v := 1) (q := 164) rfl rfl rfl ?_
  refine gl_iadd (q := 165) rfl rfl ?_
  refine gl_sld (q := 166) rfl rfl hi.1 ?_
  refine gl_aload_n (q := 167) rfl rfl rfl ?_
  refine gl_iload_n (q := 168) rfl rfl rfl ?_
  refine gl_iconst (v := 2) (q := 169) rfl rfl rfl ?_
  refine gl_iadd (q := 170) rfl rfl ?_
  refine gl_sld (q := 171) rfl rfl hi.2.1 ?_
  refine gl_aload_n (q := 172) rfl rfl rfl ?_
  refine gl_iload_n (q := 173) rfl rfl rfl ?_
  refine gl_iconst (v := 3) (q := 174) rfl rfl rfl ?_
  refine gl_iadd (q := 175) rfl rfl ?_
  refine gl_sld (q := 176) rfl rfl hi.2.2.1 ?_
  refine gl_aload_n (q := 177) rfl rfl rfl ?_
  refine gl_iload_n (q := 178) rfl rfl rfl ?_
  refine gl_iconst (v := 4) (q := 179) rfl rfl rfl ?_
  refine gl_iadd (q := 180) rfl rfl ?_
  refine gl_sld (q := 181) rfl rfl hi.2.2.2.1 ?_
  refine gl_aload_n (q := 182) rfl rfl rfl ?_
  refine gl_iload_n (q := 183) rfl rfl rfl ?_
  refine gl_iconst (v := 5) (q := 184) rfl rfl rfl ?_
  refine gl_iadd (q := 185) rfl rfl ?_
  refine gl_sld (q := 186) rfl rfl hi.2.2.2.2.1 ?_
  refine gl_call (As := [.int (xs (i + 1).toNatClampNeg), .int (xs (i + 2).toNatClampNeg), .int (xs (i + 3).toNatClampNeg), .int (xs (i + 4).toNatClampNeg), .int (xs (i + 5).toNatClampNeg)]) (rest := []) (q := 189) rfl rfl lk11_13 myX9_feed vxX9_feed hj hc1 hQ1 rfl (Nat.le_of_ble_eq_true rfl) (by decide) rfl rfl (Nat.le_of_ble_eq_true rfl) rfl (Nat.le_of_ble_eq_true rfl) rfl ⟨(Nat.le_of_ble_eq_true rfl), (Nat.le_of_ble_eq_true rfl)⟩ ⟨by omega, by omega⟩ ?_
  refine gl_aload_n (q := 190) rfl rfl rfl ?_
  refine gl_aload_n (q := 191) rfl rfl rfl ?_
  refine gl_iload_n (q := 192) rfl rfl rfl ?_
  refine gl_iconst (v := 1) (q := 193) rfl rfl rfl ?_
  refine gl_iadd (q := 194) rfl rfl ?_
  refine gl_sld (q := 195) rfl rfl hi.1 ?_
  refine gl_aload_n (q := 196) rfl rfl rfl ?_
  refine gl_iload_n (q := 197) rfl rfl rfl ?_
  refine gl_iconst (v := 2) (q := 198) rfl rfl rfl ?_
  refine gl_iadd (q := 199) rfl rfl ?_
  refine gl_sld (q := 200) rfl rfl hi.2.1 ?_
  refine gl_aload_n (q := 201) rfl rfl rfl ?_
  refine gl_iload_n (q := 202) rfl rfl rfl ?_
  refine gl_iconst (v := 3) (q := 203) rfl rfl rfl ?_
  refine gl_iadd (q := 204) rfl rfl ?_
  refine gl_sld (q := 205) rfl rfl hi.2.2.1 ?_
  refine gl_aload_n (q := 206) rfl rfl rfl ?_
  refine gl_iload_n (q := 207) rfl rfl rfl ?_
  refine gl_iconst (v := 4) (q := 208) rfl rfl rfl ?_
  refine gl_iadd (q := 209) rfl rfl ?_
  refine gl_sld (q := 210) rfl rfl hi.2.2.2.1 ?_
  refine gl_aload_n (q := 211) rfl rfl rfl ?_
  refine gl_iload_n (q := 212) rfl rfl rfl ?_
  refine gl_iconst (v := 5) (q := 213) rfl rfl rfl ?_
  refine gl_iadd (q := 214) rfl rfl ?_
  refine gl_sld (q := 215) rfl rfl hi.2.2.2.2.1 ?_
  refine gl_call (As := [.int (xs (i + 1).toNatClampNeg), .int (xs (i + 2).toNatClampNeg), .int (xs (i + 3).toNatClampNeg), .int (xs (i + 4).toNatClampNeg), .int (xs (i + 5).toNatClampNeg)]) (rest := [.int x]) (q := 218) rfl rfl lk11_17 myX10_feed vxX10_feed hj2 hc2 hQ1 rfl (Nat.le_of_ble_eq_true rfl) (by decide) rfl rfl (Nat.le_of_ble_eq_true rfl) rfl (Nat.le_of_ble_eq_true rfl) rfl ⟨(Nat.le_of_ble_eq_true rfl), (Nat.le_of_ble_eq_true rfl)⟩ ⟨by omega, by omega⟩ ?_
  exact gl_icmp_eq (q := 221) (r := 1236) rfl rfl rfl (fun _ => kk I2 J2 Q1 _ hV2) (fun c => absurd rfl c)
set_option maxRecDepth 100000 in
set_option maxHeartbeats 4000000 in
theorem lc_1 {b N kc ks nc : Nat} {xs : Nat → Int32} {i : Int32} {I : am_I} {J : am_J} {Q : am_Q} {E : Nat → am_I} {V : am_V} (hi : l_in i N) (hs : LStp V MX9_back MX10_back 1 0 0 0 [.int (xs (i + 1).toNatClampNeg)]) (hV : V nc I J Q E) (hf : kc + 8 ≤ 600000 ∧ ks + 975 ≤ 7302250) (kk : ∀ (I2 : am_I) (J2 : am_J) (Q2 : am_Q) (E2 : Nat → am_I), V nc I2 J2 Q2 E2 → GL b N xs (kc + 0) (ks + 0) 1236 (am_LL i) [] nc I2 J2 Q2 E2) : GL b N xs kc ks 223 (am_LL i) [] nc I J Q E := by
  obtain ⟨j, x, I1, J1, Q1, hj, hc1, hQ1, j2, I2, J2, hj2, hc2, hV2⟩ := hs nc I J Q E hV
  refine gl_aload_n (q := 224) rfl rfl rfl ?_
  refine gl_aload_n (q := 225) rfl rfl rfl ?_
  refine gl_iload_n (q := 226) rfl rfl rfl ?_
  refine gl_iconst (v := 1) (q := 227) rfl rfl rfl ?_
  refine gl_iadd (q := 228) rfl rfl ?_
  refine gl_sld (q := 229) rfl rfl hi.1 ?_
  refine gl_call (As := [.int (xs (i + 1).toNatClampNeg)]) (rest := []) (q := 232) rfl rfl lk11_18 myX9_back vxX9_back hj hc1 hQ1 rfl (Nat.le_of_ble_eq_true rfl) (by decide) rfl rfl (Nat.le_of_ble_eq_true rfl) rfl (Nat.le_of_ble_eq_true rfl) rfl ⟨(Nat.le_of_ble_eq_true rfl), (Nat.le_of_ble_eq_true rfl)⟩ ⟨by omega, by omega⟩ ?_
  refine gl_aload_n (q := 233) rfl rfl rfl ?_
  refine gl_aload_n (q := 234) rfl rfl rfl ?_
  refine gl_iload_n (q := 235) rfl rfl rfl ?_
  refine gl_iconst (v := 1) (q := 236) rfl rfl rfl ?_
  refine gl_iadd (q := 237) rfl rfl ?_
  refine gl_sld (q := 238) rfl rfl hi.1 ?_
  refine gl_call (As := [.int (xs (i + 1).toNatClampNeg)]) (rest := [.int x]) (q := 241) rfl rfl lk11_22 myX10_back vxX10_back hj2 hc2 hQ1 rfl (Nat.le_of_ble_eq_true rfl) (by decide) rfl rfl (Nat.le_of_ble_eq_true rfl) rfl (Nat.le_of_ble_eq_true rfl) rfl ⟨(Nat.le_of_ble_eq_true rfl), (Nat.le_of_ble_eq_true rfl)⟩ ⟨by omega, by omega⟩ ?_
  exact gl_icmp_eq (q := 244) (r := 1236) rfl rfl rfl (fun _ => kk I2 J2 Q1 _ hV2) (fun c => absurd rfl c)
set_option maxRecDepth 100000 in
set_option maxHeartbeats 4000000 in
theorem lc_2 {b N kc ks nc : Nat} {xs : Nat → Int32} {i : Int32} {I : am_I} {J : am_J} {Q : am_Q} {E : Nat → am_I} {V : am_V} (hi : l_in i N) (hs : LStp V MX9_read MX10_read 9 5 0 0 [.int (xs (i + 1).toNatClampNeg)]) (hV : V nc I J Q E) (hf : kc + 8 ≤ 600000 ∧ ks + 975 ≤ 7302250) (kk : ∀ (I2 : am_I) (J2 : am_J) (Q2 : am_Q) (E2 : Nat → am_I), V nc I2 J2 Q2 E2 → GL b N xs (kc + 0) (ks + 0) 1236 (am_LL i) [] nc I2 J2 Q2 E2) : GL b N xs kc ks 246 (am_LL i) [] nc I J Q E := by
  obtain ⟨j, x, I1, J1, Q1, hj, hc1, hQ1, j2, I2, J2, hj2, hc2, hV2⟩ := hs nc I J Q E hV
  refine gl_aload_n (q := 247) rfl rfl rfl ?_
  refine gl_aload_n (q := 248) rfl rfl rfl ?_
  refine gl_iload_n (q := 249) rfl rfl rfl ?_
  refine gl_iconst (v := 1) (q := 250) rfl rfl rfl ?_
  refine gl_iadd (q := 251) rfl rfl ?_
  refine gl_sld (q := 252) rfl rfl hi.1 ?_
  refine gl_call (As := [.int (xs (i + 1).toNatClampNeg)]) (rest := []) (q := 255) rfl rfl lk11_23 myX9_read vxX9_read hj hc1 hQ1 rfl (Nat.le_of_ble_eq_true rfl) (by decide) rfl rfl (Nat.le_of_ble_eq_true rfl) rfl (Nat.le_of_ble_eq_true rfl) rfl ⟨(Nat.le_of_ble_eq_true rfl), (Nat.le_of_ble_eq_true rfl)⟩ ⟨by omega, by omega⟩ ?_
  refine gl_aload_n (q := 256) rfl rfl rfl ?_
  refine gl_aload_n (q := 257) rfl rfl rfl ?_
  refine gl_iload_n (q := 258) rfl rfl rfl ?_
  refine gl_iconst (v := 1) (q := 259) rfl rfl rfl ?_
  refine gl_iadd (q := 260) rfl rfl ?_
  refine gl_sld (q := 261) rfl rfl hi.1 ?_
  refine gl_call (As := [.int (xs (i + 1).toNatClampNeg)]) (rest := [.int x]) (q := 264) rfl rfl lk11_26 myX10_read vxX10_read hj2 hc2 hQ1 rfl (Nat.le_of_ble_eq_true rfl) (by decide) rfl rfl (Nat.le_of_ble_eq_true rfl) rfl (Nat.le_of_ble_eq_true rfl) rfl ⟨(Nat.le_of_ble_eq_true rfl), (Nat.le_of_ble_eq_true rfl)⟩ ⟨by omega, by omega⟩ ?_
  exact gl_icmp_eq (q := 267) (r := 1236) rfl rfl rfl (fun _ => kk I2 J2 Q1 _ hV2) (fun c => absurd rfl c)
set_option maxRecDepth 100000 in
set_option maxHeartbeats 4000000 in
theorem lc_3 {b N kc ks nc : Nat} {xs : Nat → Int32} {i : Int32} {I : am_I} {J : am_J} {Q : am_Q} {E : Nat → am_I} {V : am_V} (hi : l_in i N) (hs : LStp V MX9_place MX10_place 0 0 0 0 []) (hV : V nc I J Q E) (hf : kc + 8 ≤ 600000 ∧ ks + 975 ≤ 7302250) (kk : ∀ (I2 : am_I) (J2 : am_J) (Q2 : am_Q) (E2 : Nat → am_I), V nc I2 J2 Q2 E2 → GL b N xs (kc + 0) (ks + 0) 1236 (am_LL i) [] nc I2 J2 Q2 E2) : GL b N xs kc ks 269 (am_LL i) [] nc I J Q E := by
  obtain ⟨j, x, I1, J1, Q1, hj, hc1, hQ1, j2, I2, J2, hj2, hc2, hV2⟩ := hs nc I J Q E hV
  refine gl_aload_n (q := 270) rfl rfl rfl ?_
  refine gl_call (As := []) (rest := []) (q := 273) rfl rfl lk11_27 myX9_place vxX9_place hj hc1 hQ1 rfl (Nat.le_of_ble_eq_true rfl) (by decide) rfl rfl (Nat.le_of_ble_eq_true rfl) rfl (Nat.le_of_ble_eq_true rfl) rfl ⟨(Nat.le_of_ble_eq_true rfl), (Nat.le_of_ble_eq_true rfl)⟩ ⟨by omega, by omega⟩ ?_
  refine gl_aload_n (q := 274) rfl rfl rfl ?_
  refine gl_call (As := []) (rest := [.int x]) (q := 277) rfl rfl lk11_31 myX10_place vxX10_place hj2 hc2 hQ1 rfl (Nat.le_of_ble_eq_true rfl) (by decide) rfl rfl (Nat.le_of_ble_eq_true rfl) rfl (Nat.le_of_ble_eq_true rfl) rfl ⟨(Nat.le_of_ble_eq_true rfl), (Nat.le_of_ble_eq_true rfl)⟩ ⟨by omega, by omega⟩ ?_
  exact gl_icmp_eq (q := 280) (r := 1236) rfl rfl rfl (fun _ => kk I2 J2 Q1 _ hV2) (fun c => absurd rfl c)
set_option maxRecDepth 100000 in
set_option maxHeartbeats 4000000 in
theorem lc_4 {b N kc ks nc : Nat} {xs : Nat → Int32} {i : Int32} {I : am_I} {J : am_J} {Q : am_Q} {E : Nat → am_I} {V : am_V} (hi : l_in i N) (hs : LStp V MX9_person MX10_person 3 1 8 975 [.int (xs (i + 1).toNatClampNeg), .int (xs (i + 2).toNatClampNeg), .int (xs (i + 3).toNatClampNeg), .int (xs (i + 4).toNatClampNeg)]) (hV : V nc I J Q E) (hf : kc + 8 ≤ 600000 ∧ ks + 975 ≤ 7302250) (kk : ∀ (I2 : am_I) (J2 : am_J) (Q2 : am_Q) (E2 : Nat → am_I), V nc I2 J2 Q2 E2 → GL b N xs (kc + 8) (ks + 975) 1236 (am_LL i) [] nc I2 J2 Q2 E2) : GL b N xs kc ks 282 (am_LL i) [] nc I J Q E := by
  obtain ⟨j, x, I1, J1, Q1, hj, hc1, hQ1, j2, I2, J2, hj2, hc2, hV2⟩ := hs nc I J Q E hV
  refine gl_aload_n (q := 283) rfl rfl rfl ?_
  refine gl_aload_n (q := 284) rfl rfl rfl ?_
  refine gl_iload_n (q := 285) rfl rfl rfl ?_
  refine gl_iconst (v := 1) (q := 286) rfl rfl rfl ?_
  refine gl_iadd (q := 287) rfl rfl ?_
  refine gl_sld (q := 288) rfl rfl hi.1 ?_
  refine gl_aload_n (q := 289) rfl rfl rfl ?_
  refine gl_iload_n (q := 290) rfl rfl rfl ?_
  refine gl_iconst (v := 2) (q := 291) rfl rfl rfl ?_
  refine gl_iadd (q := 292) rfl rfl ?_
  refine gl_sld (q := 293) rfl rfl hi.2.1 ?_
  refine gl_aload_n (q := 294) rfl rfl rfl ?_
  refine gl_iload_n (q := 295) rfl rfl rfl ?_
  refine gl_iconst (v := 3) (q := 296) rfl rfl rfl ?_
  refine gl_iadd (q := 297) rfl rfl ?_
  refine gl_sld (q := 298) rfl rfl hi.2.2.1 ?_
  refine gl_aload_n (q := 299) rfl rfl rfl ?_
  refine gl_iload_n (q := 300) rfl rfl rfl ?_
  refine gl_iconst (v := 4) (q := 301) rfl rfl rfl ?_
  refine gl_iadd (q := 302) rfl rfl ?_
  refine gl_sld (q := 303) rfl rfl hi.2.2.2.1 ?_
  refine gl_call (As := [.int (xs (i + 1).toNatClampNeg), .int (xs (i + 2).toNatClampNeg), .int (xs (i + 3).toNatClampNeg), .int (xs (i + 4).toNatClampNeg)]) (rest := []) (q := 306) rfl rfl lk11_32 myX9_person vxX9_person hj hc1 hQ1 rfl (Nat.le_of_ble_eq_true rfl) (by decide) rfl rfl (Nat.le_of_ble_eq_true rfl) rfl (Nat.le_of_ble_eq_true rfl) rfl ⟨(Nat.le_of_ble_eq_true rfl), (Nat.le_of_ble_eq_true rfl)⟩ ⟨by omega, by omega⟩ ?_
  refine gl_aload_n (q := 307) rfl rfl rfl ?_
  refine gl_aload_n (q := 308) rfl rfl rfl ?_
  refine gl_iload_n (q := 309) rfl rfl rfl ?_
  refine gl_iconst (v := 1) (q := 310) rfl rfl rfl ?_
  refine gl_iadd (q := 311) rfl rfl ?_
  refine gl_sld (q := 312) rfl rfl hi.1 ?_
  refine gl_aload_n (q := 313) rfl rfl rfl ?_
  refine gl_iload_n (q := 314) rfl rfl rfl ?_
  refine gl_iconst (v := 2) (q := 315) rfl rfl rfl ?_
  refine gl_iadd (q := 316) rfl rfl ?_
  refine gl_sld (q := 317) rfl rfl hi.2.1 ?_
  refine gl_aload_n (q := 318) rfl rfl rfl ?_
  refine gl_iload_n (q := 319) rfl rfl rfl ?_
  refine gl_iconst (v := 3) (q := 320) rfl rfl rfl ?_
  refine gl_iadd (q := 321) rfl rfl ?_
  refine gl_sld (q := 322) rfl rfl hi.2.2.1 ?_
  refine gl_aload_n (q := 323) rfl rfl rfl ?_
  refine gl_iload_n (q := 324) rfl rfl rfl ?_
  refine gl_iconst (v := 4) (q := 325) rfl rfl rfl ?_
  refine gl_iadd (q := 326) rfl rfl ?_
  refine gl_sld (q := 327) rfl rfl hi.2.2.2.1 ?_
  refine gl_call (As := [.int (xs (i + 1).toNatClampNeg), .int (xs (i + 2).toNatClampNeg), .int (xs (i + 3).toNatClampNeg), .int (xs (i + 4).toNatClampNeg)]) (rest := [.int x]) (q := 330) rfl rfl lk11_36 myX10_person vxX10_person hj2 hc2 hQ1 rfl (Nat.le_of_ble_eq_true rfl) (by decide) rfl rfl (Nat.le_of_ble_eq_true rfl) rfl (Nat.le_of_ble_eq_true rfl) rfl ⟨(Nat.le_of_ble_eq_true rfl), (Nat.le_of_ble_eq_true rfl)⟩ ⟨by omega, by omega⟩ ?_
  exact gl_icmp_eq (q := 333) (r := 1236) rfl rfl rfl (fun _ => kk I2 J2 Q1 _ hV2) (fun c => absurd rfl c)
set_option maxRecDepth 100000 in
set_option maxHeartbeats 4000000 in
theorem lc_5 {b N kc ks nc : Nat} {xs : Nat → Int32} {i : Int32} {I : am_I} {J : am_J} {Q : am_Q} {E : Nat → am_I} {V : am_V} (hi : l_in i N) (hs : LStp V MX9_topic MX10_topic 4 0 0 0 [.int (xs (i + 1).toNatClampNeg)]) (hV : V nc I J Q E) (hf : kc + 8 ≤ 600000 ∧ ks + 975 ≤ 7302250) (kk : ∀ (I2 : am_I) (J2 : am_J) (Q2 : am_Q) (E2 : Nat → am_I), V nc I2 J2 Q2 E2 → GL b N xs (kc + 0) (ks + 0) 1236 (am_LL i) [] nc I2 J2 Q2 E2) : GL b N xs kc ks 335 (am_LL i) [] nc I J Q E := by
  obtain ⟨j, x, I1, J1, Q1, hj, hc1, hQ1, j2, I2, J2, hj2, hc2, hV2⟩ := hs nc I J Q E hV
  refine gl_aload_n (q := 336) rfl rfl rfl ?_
  refine gl_aload_n (q := 337) rfl rfl rfl ?_
  refine gl_iload_n (q := 338) rfl rfl rfl ?_
  refine gl_iconst (v := 1) (q := 339) rfl rfl rfl ?_
  refine gl_iadd (q := 340) rfl rfl ?_
  refine gl_sld (q := 341) rfl rfl hi.1 ?_
  refine gl_call (As := [.int (xs (i + 1).toNatClampNeg)]) (rest := []) (q := 344) rfl rfl lk11_37 myX9_topic vxX9_topic hj hc1 hQ1 rfl (Nat.le_of_ble_eq_true rfl) (by decide) rfl rfl (Nat.le_of_ble_eq_true rfl) rfl (Nat.le_of_ble_eq_true rfl) rfl ⟨(Nat.le_of_ble_eq_true rfl), (Nat.le_of_ble_eq_true rfl)⟩ ⟨by omega, by omega⟩ ?_
  refine gl_aload_n (q := 345) rfl rfl rfl ?_
  refine gl_aload_n (q := 346) rfl rfl rfl ?_
  refine gl_iload_n (q := 347) rfl rfl rfl ?_
  refine gl_iconst (v := 1) (q := 348) rfl rfl rfl ?_
  refine gl_iadd (q := 349) rfl rfl ?_
  refine gl_sld (q := 350) rfl rfl hi.1 ?_
  refine gl_call (As := [.int (xs (i + 1).toNatClampNeg)]) (rest := [.int x]) (q := 353) rfl rfl lk11_40 myX10_topic vxX10_topic hj2 hc2 hQ1 rfl (Nat.le_of_ble_eq_true rfl) (by decide) rfl rfl (Nat.le_of_ble_eq_true rfl) rfl (Nat.le_of_ble_eq_true rfl) rfl ⟨(Nat.le_of_ble_eq_true rfl), (Nat.le_of_ble_eq_true rfl)⟩ ⟨by omega, by omega⟩ ?_
  exact gl_icmp_eq (q := 356) (r := 1236) rfl rfl rfl (fun _ => kk I2 J2 Q1 _ hV2) (fun c => absurd rfl c)
set_option maxRecDepth 100000 in
set_option maxHeartbeats 4000000 in
theorem lc_6 {b N kc ks nc : Nat} {xs : Nat → Int32} {i : Int32} {I : am_I} {J : am_J} {Q : am_Q} {E : Nat → am_I} {V : am_V} (hi : l_in i N) (hs : LStp V MX9_tape MX10_tape 2 1 0 0 [.int (xs (i + 1).toNatClampNeg), .int (xs (i + 2).toNatClampNeg), .int (xs (i + 3).toNatClampNeg)]) (hV : V nc I J Q E) (hf : kc + 8 ≤ 600000 ∧ ks + 975 ≤ 7302250) (kk : ∀ (I2 : am_I) (J2 : am_J) (Q2 : am_Q) (E2 : Nat → am_I), V nc I2 J2 Q2 E2 → GL b N xs (kc + 0) (ks + 0) 1236 (am_LL i) [] nc I2 J2 Q2 E2) : GL b N xs kc ks 358 (am_LL i) [] nc I J Q E := by
  obtain ⟨j, x, I1, J1, Q1, hj, hc1, hQ1, j2, I2, J2, hj2, hc2, hV2⟩ := hs nc I J Q E hV
  refine gl_aload_n (q := 359) rfl rfl rfl ?_
  refine gl_aload_n (q := 360) rfl rfl rfl ?_
  refine gl_iload_n (q := 361) rfl rfl rfl ?_
  refine gl_iconst (v := 1) (q := 362) rfl rfl rfl ?_
  refine gl_iadd (q := 363) rfl rfl ?_
  refine gl_sld (q := 364) rfl rfl hi.1 ?_
  refine gl_aload_n (q := 365) rfl rfl rfl ?_
  refine gl_iload_n (q := 366) rfl rfl rfl ?_
  refine gl_iconst (v := 2) (q := 367) rfl rfl rfl ?_
  refine gl_iadd (q := 368) rfl rfl ?_
  refine gl_sld (q := 369) rfl rfl hi.2.1 ?_
  refine gl_aload_n (q := 370) rfl rfl rfl ?_
  refine gl_iload_n (q := 371) rfl rfl rfl ?_
  refine gl_iconst (v := 3) (q := 372) rfl rfl rfl ?_
  refine gl_iadd (q := 373) rfl rfl ?_
  refine gl_sld (q := 374) rfl rfl hi.2.2.1 ?_
  refine gl_call (As := [.int (xs (i + 1).toNatClampNeg), .int (xs (i + 2).toNatClampNeg), .int (xs (i + 3).toNatClampNeg)]) (rest := []) (q := 377) rfl rfl lk11_41 myX9_tape vxX9_tape hj hc1 hQ1 rfl (Nat.le_of_ble_eq_true rfl) (by decide) rfl rfl (Nat.le_of_ble_eq_true rfl) rfl (Nat.le_of_ble_eq_true rfl) rfl ⟨(Nat.le_of_ble_eq_true rfl), (Nat.le_of_ble_eq_true rfl)⟩ ⟨by omega, by omega⟩ ?_
  refine gl_aload_n (q := 378) rfl rfl rfl ?_
  refine gl_aload_n (q := 379) rfl rfl rfl ?_
  refine gl_iload_n (q := 380) rfl rfl rfl ?_
  refine gl_iconst (v := 1) (q := 381) rfl rfl rfl ?_
  refine gl_iadd (q := 382) rfl rfl ?_
  refine gl_sld (q := 383) rfl rfl hi.1 ?_
  refine gl_aload_n (q := 384) rfl rfl rfl ?_
  refine gl_iload_n (q := 385) rfl rfl rfl ?_
  refine gl_iconst (v := 2) (q := 386) rfl rfl rfl ?_
  refine gl_iadd (q := 387) rfl rfl ?_
  refine gl_sld (q := 388) rfl rfl hi.2.1 ?_
  refine gl_aload_n (q := 389) rfl rfl rfl ?_
  refine gl_iload_n (q := 390) rfl rfl rfl ?_
  refine gl_iconst (v := 3) (q := 391) rfl rfl rfl ?_
  refine gl_iadd (q := 392) rfl rfl ?_
  refine gl_sld (q := 393) rfl rfl hi.2.2.1 ?_
  refine gl_call (As := [.int (xs (i + 1).toNatClampNeg), .int (xs (i + 2).toNatClampNeg), .int (xs (i + 3).toNatClampNeg)]) (rest := [.int x]) (q := 396) rfl rfl lk11_45 myX10_tape vxX10_tape hj2 hc2 hQ1 rfl (Nat.le_of_ble_eq_true rfl) (by decide) rfl rfl (Nat.le_of_ble_eq_true rfl) rfl (Nat.le_of_ble_eq_true rfl) rfl ⟨(Nat.le_of_ble_eq_true rfl), (Nat.le_of_ble_eq_true rfl)⟩ ⟨by omega, by omega⟩ ?_
  exact gl_icmp_eq (q := 399) (r := 1236) rfl rfl rfl (fun _ => kk I2 J2 Q1 _ hV2) (fun c => absurd rfl c)
set_option maxRecDepth 100000 in
set_option maxHeartbeats 4000000 in
theorem lc_7 {b N kc ks nc : Nat} {xs : Nat → Int32} {i : Int32} {I : am_I} {J : am_J} {Q : am_Q} {E : Nat → am_I} {V : am_V} (hi : l_in i N) (hs : LStp V MX9_piece MX10_piece 2 0 0 0 [.int (xs (i + 1).toNatClampNeg), .int (xs (i + 2).toNatClampNeg), .int (xs (i + 3).toNatClampNeg), .int (xs (i + 4).toNatClampNeg), .int (xs (i + 5).toNatClampNeg), .int (xs (i + 6).toNatClampNeg)]) (hV : V nc I J Q E) (hf : kc + 8 ≤ 600000 ∧ ks + 975 ≤ 7302250) (kk : ∀ (I2 : am_I) (J2 : am_J) (Q2 : am_Q) (E2 : Nat → am_I), V nc I2 J2 Q2 E2 → GL b N xs (kc + 0) (ks + 0) 1236 (am_LL i) [] nc I2 J2 Q2 E2) : GL b N xs kc ks 401 (am_LL i) [] nc I J Q E := by
  obtain ⟨j, x, I1, J1, Q1, hj, hc1, hQ1, j2, I2, J2, hj2, hc2, hV2⟩ := hs nc I J Q E hV
  refine gl_aload_n (q := 402) rfl rfl rfl ?_
  refine gl_aload_n (q := 403) rfl rfl rfl ?_
  refine gl_iload_n (q := 404) rfl rfl rfl ?_
  refine gl_iconst (v := 1) (q := 405) rfl rfl rfl ?_
  refine gl_iadd (q := 406) rfl rfl ?_
  refine gl_sld (q := 407) rfl rfl hi.1 ?_
  refine gl_aload_n (q := 408) rfl rfl rfl ?_
  refine gl_iload_n (q := 409) rfl rfl rfl ?_
  refine gl_iconst (v := 2) (q := 410) rfl rfl rfl ?_
  refine gl_iadd (q := 411) rfl rfl ?_
  refine gl_sld (q := 412) rfl rfl hi.2.1 ?_
  refine gl_aload_n (q := 413) rfl rfl rfl ?_
  refine gl_iload_n (q := 414) rfl rfl rfl ?_
  refine gl_iconst (v := 3) (q := 415) rfl rfl rfl ?_
  refine gl_iadd (q := 416) rfl rfl ?_
  refine gl_sld (q := 417) rfl rfl hi.2.2.1 ?_
  refine gl_aload_n (q := 418) rfl rfl rfl ?_
  refine gl_iload_n (q := 419) rfl rfl rfl ?_
  refine gl_iconst (v := 4) (q := 420) rfl rfl rfl ?_
  refine gl_iadd (q := 421) rfl rfl ?_
  refine gl_sld (q := 422) rfl rfl hi.2.2.2.1 ?_
  refine gl_aload_n (q := 423) rfl rfl rfl ?_
  refine gl_iload_n (q := 424) rfl rfl rfl ?_
  refine gl_iconst (v := 5) (q := 425) rfl rfl rfl ?_
  refine gl_iadd (q := 426) rfl rfl ?_
  refine gl_sld (q := 427) rfl rfl hi.2.2.2.2.1 ?_
  refine gl_aload_n (q := 428) rfl rfl rfl ?_
  refine gl_iload_n (q := 429) rfl rfl rfl ?_
  refine gl_bipush (v := 6) (q := 431) rfl rfl rfl ?_
  refine gl_iadd (q := 432) rfl rfl ?_
  refine gl_sld (q := 433) rfl rfl hi.2.2.2.2.2 ?_
  refine gl_call (As := [.int (xs (i + 1).toNatClampNeg), .int (xs (i + 2).toNatClampNeg), .int (xs (i + 3).toNatClampNeg), .int (xs (i + 4).toNatClampNeg), .int (xs (i + 5).toNatClampNeg), .int (xs (i + 6).toNatClampNeg)]) (rest := []) (q := 436) rfl rfl lk11_46 myX9_piece vxX9_piece hj hc1 hQ1 rfl (Nat.le_of_ble_eq_true rfl) (by decide) rfl rfl (Nat.le_of_ble_eq_true rfl) rfl (Nat.le_of_ble_eq_true rfl) rfl ⟨(Nat.le_of_ble_eq_true rfl), (Nat.le_of_ble_eq_true rfl)⟩ ⟨by omega, by omega⟩ ?_
  refine gl_aload_n (q := 437) rfl rfl rfl ?_
  refine gl_aload_n (q := 438) rfl rfl rfl ?_
  refine gl_iload_n (q := 439) rfl rfl rfl ?_
  refine gl_iconst (v := 1) (q := 440) rfl rfl rfl ?_
  refine gl_iadd (q := 441) rfl rfl ?_
  refine gl_sld (q := 442) rfl rfl hi.1 ?_
  refine gl_aload_n (q := 443) rfl rfl rfl ?_
  refine gl_iload_n (q := 444) rfl rfl rfl ?_
  refine gl_iconst (v := 2) (q := 445) rfl rfl rfl ?_
  refine gl_iadd (q := 446) rfl rfl ?_
  refine gl_sld (q := 447) rfl rfl hi.2.1 ?_
  refine gl_aload_n (q := 448) rfl rfl rfl ?_
  refine gl_iload_n (q := 449) rfl rfl rfl ?_
  refine gl_iconst (v := 3) (q := 450) rfl rfl rfl ?_
  refine gl_iadd (q := 451) rfl rfl ?_
  refine gl_sld (q := 452) rfl rfl hi.2.2.1 ?_
  refine gl_aload_n (q := 453) rfl rfl rfl ?_
  refine gl_iload_n (q := 454) rfl rfl rfl ?_
  refine gl_iconst (v := 4) (q := 455) rfl rfl rfl ?_
  refine gl_iadd (q := 456) rfl rfl ?_
  refine gl_sld (q := 457) rfl rfl hi.2.2.2.1 ?_
  refine gl_aload_n (q := 458) rfl rfl rfl ?_
  refine gl_iload_n (q := 459) rfl rfl rfl ?_
  refine gl_iconst (v := 5) (q := 460) rfl rfl rfl ?_
  refine gl_iadd (q := 461) rfl rfl ?_
  refine gl_sld (q := 462) rfl rfl hi.2.2.2.2.1 ?_
  refine gl_aload_n (q := 463) rfl rfl rfl ?_
  refine gl_iload_n (q := 464) rfl rfl rfl ?_
  refine gl_bipush (v := 6) (q := 466) rfl rfl rfl ?_
  refine gl_iadd (q := 467) rfl rfl ?_
  refine gl_sld (q := 468) rfl rfl hi.2.2.2.2.2 ?_
  refine gl_call (As := [.int (xs (i + 1).toNatClampNeg), .int (xs (i + 2).toNatClampNeg), .int (xs (i + 3).toNatClampNeg), .int (xs (i + 4).toNatClampNeg), .int (xs (i + 5).toNatClampNeg), .int (xs (i + 6).toNatClampNeg)]) (rest := [.int x]) (q := 471) rfl rfl lk11_50 myX10_piece vxX10_piece hj2 hc2 hQ1 rfl (Nat.le_of_ble_eq_true rfl) (by decide) rfl rfl (Nat.le_of_ble_eq_true rfl) rfl (Nat.le_of_ble_eq_true rfl) rfl ⟨(Nat.le_of_ble_eq_true rfl), (Nat.le_of_ble_eq_true rfl)⟩ ⟨by omega, by omega⟩ ?_
  exact gl_icmp_eq (q := 474) (r := 1236) rfl rfl rfl (fun _ => kk I2 J2 Q1 _ hV2) (fun c => absurd rfl c)
set_option maxRecDepth 100000 in
set_option maxHeartbeats 4000000 in
theorem lc_8 {b N kc ks nc : Nat} {xs : Nat → Int32} {i : Int32} {I : am_I} {J : am_J} {Q : am_Q} {E : Nat → am_I} {V : am_V} (hi : l_in i N) (hs : LStp V MX9_asker MX10_asker 1 1 0 0 [.int (xs (i + 1).toNatClampNeg)]) (hV : V nc I J Q E) (hf : kc + 8 ≤ 600000 ∧ ks + 975 ≤ 7302250) (kk : ∀ (I2 : am_I) (J2 : am_J) (Q2 : am_Q) (E2 : Nat → am_I), V nc I2 J2 Q2 E2 → GL b N xs (kc + 0) (ks + 0) 1236 (am_LL i) [] nc I2 J2 Q2 E2) : GL b N xs kc ks 476 (am_LL i) [] nc I J Q E := by
  obtain ⟨j, x, I1, J1, Q1, hj, hc1, hQ1, j2, I2, J2, hj2, hc2, hV2⟩ := hs nc I J Q E hV
  refine gl_aload_n (q := 477) rfl rfl rfl ?_
  refine gl_aload_n (q := 478) rfl rfl rfl ?_
  refine gl_iload_n (q := 479) rfl rfl rfl ?_
  refine gl_iconst (v := 1) (q := 480) rfl rfl rfl ?_
  refine gl_iadd (q := 481) rfl rfl ?_
  refine gl_sld (q := 482) rfl rfl hi.1 ?_
  refine gl_call (As := [.int (xs (i + 1).toNatClampNeg)]) (rest := []) (q := 485) rfl rfl lk11_51 myX9_asker vxX9_asker hj hc1 hQ1 rfl (Nat.le_of_ble_eq_true rfl) (by decide) rfl rfl (Nat.le_of_ble_eq_true rfl) rfl (Nat.le_of_ble_eq_true rfl) rfl ⟨(Nat.le_of_ble_eq_true rfl), (Nat.le_of_ble_eq_true rfl)⟩ ⟨by omega, by omega⟩ ?_
  refine gl_aload_n (q := 486) rfl rfl rfl ?_
  refine gl_aload_n (q := 487) rfl rfl rfl ?_
  refine gl_iload_n (q := 488) rfl rfl rfl ?_
  refine gl_iconst (v := 1) (q := 489) rfl rfl rfl ?_
  refine gl_iadd (q := 490) rfl rfl ?_
  refine gl_sld (q := 491) rfl rfl hi.1 ?_
  refine gl_call (As := [.int (xs (i + 1).toNatClampNeg)]) (rest := [.int x]) (q := 494) rfl rfl lk11_54 myX10_asker vxX10_asker hj2 hc2 hQ1 rfl (Nat.le_of_ble_eq_true rfl) (by decide) rfl rfl (Nat.le_of_ble_eq_true rfl) rfl (Nat.le_of_ble_eq_true rfl) rfl ⟨(Nat.le_of_ble_eq_true rfl), (Nat.le_of_ble_eq_true rfl)⟩ ⟨by omega, by omega⟩ ?_
  exact gl_icmp_eq (q := 497) (r := 1236) rfl rfl rfl (fun _ => kk I2 J2 Q1 _ hV2) (fun c => absurd rfl c)
set_option maxRecDepth 100000 in
set_option maxHeartbeats 4000000 in
theorem lc_9 {b N kc ks nc : Nat} {xs : Nat → Int32} {i : Int32} {I : am_I} {J : am_J} {Q : am_Q} {E : Nat → am_I} {V : am_V} (hi : l_in i N) (hs : LStp V MX9_copy MX10_copy 0 0 0 0 [.int (xs (i + 1).toNatClampNeg)]) (hV : V nc I J Q E) (hf : kc + 8 ≤ 600000 ∧ ks + 975 ≤ 7302250) (kk : ∀ (I2 : am_I) (J2 : am_J) (Q2 : am_Q) (E2 : Nat → am_I), V nc I2 J2 Q2 E2 → GL b N xs (kc + 0) (ks + 0) 1236 (am_LL i) [] nc I2 J2 Q2 E2) : GL b N xs kc ks 499 (am_LL i) [] nc I J Q E := by
  obtain ⟨j, x, I1, J1, Q1, hj, hc1, hQ1, j2, I2, J2, hj2, hc2, hV2⟩ := hs nc I J Q E hV
  refine gl_aload_n (q := 500) rfl rfl rfl ?_
  refine gl_aload_n (q := 501) rfl rfl rfl ?_
  refine gl_iload_n (q := 502) rfl rfl rfl ?_
  refine gl_iconst (v := 1) (q := 503) rfl rfl rfl ?_
  refine gl_iadd (q := 504) rfl rfl ?_
  refine gl_sld (q := 505) rfl rfl hi.1 ?_
  refine gl_call (As := [.int (xs (i + 1).toNatClampNeg)]) (rest := []) (q := 508) rfl rfl lk11_55 myX9_copy vxX9_copy hj hc1 hQ1 rfl (Nat.le_of_ble_eq_true rfl) (by decide) rfl rfl (Nat.le_of_ble_eq_true rfl) rfl (Nat.le_of_ble_eq_true rfl) rfl ⟨(Nat.le_of_ble_eq_true rfl), (Nat.le_of_ble_eq_true rfl)⟩ ⟨by omega, by omega⟩ ?_
  refine gl_aload_n (q := 509) rfl rfl rfl ?_
  refine gl_aload_n (q := 510) rfl rfl rfl ?_
  refine gl_iload_n (q := 511) rfl rfl rfl ?_
  refine gl_iconst (v := 1) (q := 512) rfl rfl rfl ?_
  refine gl_iadd (q := 513) rfl rfl ?_
  refine gl_sld (q := 514) rfl rfl hi.1 ?_
  refine gl_call (As := [.int (xs (i + 1).toNatClampNeg)]) (rest := [.int x]) (q := 517) rfl rfl lk11_58 myX10_copy vxX10_copy hj2 hc2 hQ1 rfl (Nat.le_of_ble_eq_true rfl) (by decide) rfl rfl (Nat.le_of_ble_eq_true rfl) rfl (Nat.le_of_ble_eq_true rfl) rfl ⟨(Nat.le_of_ble_eq_true rfl), (Nat.le_of_ble_eq_true rfl)⟩ ⟨by omega, by omega⟩ ?_
  exact gl_icmp_eq (q := 520) (r := 1236) rfl rfl rfl (fun _ => kk I2 J2 Q1 _ hV2) (fun c => absurd rfl c)
set_option maxRecDepth 100000 in
set_option maxHeartbeats 4000000 in
theorem lc_10 {b N kc ks nc : Nat} {xs : Nat → Int32} {i : Int32} {I : am_I} {J : am_J} {Q : am_Q} {E : Nat → am_I} {V : am_V} (hi : l_in i N) (hs : LStp V MX9_bound MX10_bound 0 0 0 0 [.int (xs (i + 1).toNatClampNeg)]) (hV : V nc I J Q E) (hf : kc + 8 ≤ 600000 ∧ ks + 975 ≤ 7302250) (kk : ∀ (I2 : am_I) (J2 : am_J) (Q2 : am_Q) (E2 : Nat → am_I), V nc I2 J2 Q2 E2 → GL b N xs (kc + 0) (ks + 0) 1236 (am_LL i) [] nc I2 J2 Q2 E2) : GL b N xs kc ks 522 (am_LL i) [] nc I J Q E := by
  obtain ⟨j, x, I1, J1, Q1, hj, hc1, hQ1, j2, I2, J2, hj2, hc2, hV2⟩ := hs nc I J Q E hV
  refine gl_aload_n (q := 523) rfl rfl rfl ?_
  refine gl_aload_n (q := 524) rfl rfl rfl ?_
  refine gl_iload_n (q := 525) rfl rfl rfl ?_
  refine gl_iconst (v := 1) (q := 526) rfl rfl rfl ?_
  refine gl_iadd (q := 527) rfl rfl ?_
  refine gl_sld (q := 528) rfl rfl hi.1 ?_
  refine gl_call (As := [.int (xs (i + 1).toNatClampNeg)]) (rest := []) (q := 531) rfl rfl lk11_59 myX9_bound vxX9_bound hj hc1 hQ1 rfl (Nat.le_of_ble_eq_true rfl) (by decide) rfl rfl (Nat.le_of_ble_eq_true rfl) rfl (Nat.le_of_ble_eq_true rfl) rfl ⟨(Nat.le_of_ble_eq_true rfl), (Nat.le_of_ble_eq_true rfl)⟩ ⟨by omega, by omega⟩ ?_
  refine gl_aload_n (q := 532) rfl rfl rfl ?_
  refine gl_aload_n (q := 533) rfl rfl rfl ?_
  refine gl_iload_n (q := 534) rfl rfl rfl ?_
  refine gl_iconst (v := 1) (q := 535) rfl rfl rfl ?_
  refine gl_iadd (q := 536) rfl rfl ?_
  refine gl_sld (q := 537) rfl rfl hi.1 ?_
  refine gl_call (As := [.int (xs (i + 1).toNatClampNeg)]) (rest := [.int x]) (q := 540) rfl rfl lk11_63 myX10_bound vxX10_bound hj2 hc2 hQ1 rfl (Nat.le_of_ble_eq_true rfl) (by decide) rfl rfl (Nat.le_of_ble_eq_true rfl) rfl (Nat.le_of_ble_eq_true rfl) rfl ⟨(Nat.le_of_ble_eq_true rfl), (Nat.le_of_ble_eq_true rfl)⟩ ⟨by omega, by omega⟩ ?_
  exact gl_icmp_eq (q := 543) (r := 1236) rfl rfl rfl (fun _ => kk I2 J2 Q1 _ hV2) (fun c => absurd rfl c)
set_option maxRecDepth 100000 in
set_option maxHeartbeats 4000000 in
theorem lc_11 {b N kc ks nc : Nat} {xs : Nat → Int32} {i : Int32} {I : am_I} {J : am_J} {Q : am_Q} {E : Nat → am_I} {V : am_V} (hi : l_in i N) (hs : LStp V MX9_dies MX10_dies 3 1 0 0 [.int (xs (i + 1).toNatClampNeg), .int (xs (i + 2).toNatClampNeg)]) (hV : V nc I J Q E) (hf : kc + 8 ≤ 600000 ∧ ks + 975 ≤ 7302250) (kk : ∀ (I2 : am_I) (J2 : am_J) (Q2 : am_Q) (E2 : Nat → am_I), V nc I2 J2 Q2 E2 → GL b N xs (kc + 0) (ks + 0) 1236 (am_LL i) [] nc I2 J2 Q2 E2) : GL b N xs kc ks 545 (am_LL i) [] nc I J Q E := by
  obtain ⟨j, x, I1, J1, Q1, hj, hc1, hQ1, j2, I2, J2, hj2, hc2, hV2⟩ := hs nc I J Q E hV
  refine gl_aload_n (q := 546) rfl rfl rfl ?_
  refine gl_aload_n (q := 547) rfl rfl rfl ?_
  refine gl_iload_n (q := 548) rfl rfl rfl ?_
  refine gl_iconst (v := 1) (q := 549) rfl rfl rfl ?_
  refine gl_iadd (q := 550) rfl rfl ?_
  refine gl_sld (q := 551) rfl rfl hi.1 ?_
  refine gl_aload_n (q := 552) rfl rfl rfl ?_
  refine gl_iload_n (q := 553) rfl rfl rfl ?_
  refine gl_iconst (v := 2) (q := 554) rfl rfl rfl ?_
  refine gl_iadd (q := 555) rfl rfl ?_
  refine gl_sld (q := 556) rfl rfl hi.2.1 ?_
  refine gl_call (As := [.int (xs (i + 1).toNatClampNeg), .int (xs (i + 2).toNatClampNeg)]) (rest := []) (q := 559) rfl rfl lk11_64 myX9_dies vxX9_dies hj hc1 hQ1 rfl (Nat.le_of_ble_eq_true rfl) (by decide) rfl rfl (Nat.le_of_ble_eq_true rfl) rfl (Nat.le_of_ble_eq_true rfl) rfl ⟨(Nat.le_of_ble_eq_true rfl), (Nat.le_of_ble_eq_true rfl)⟩ ⟨by omega, by omega⟩ ?_
  refine gl_aload_n (q := 560) rfl rfl rfl ?_
  refine gl_aload_n (q := 561) rfl rfl rfl ?_
  refine gl_iload_n (q := 562) rfl rfl rfl ?_
  refine gl_iconst (v := 1) (q := 563) rfl rfl rfl ?_
  refine gl_iadd (q := 564) rfl rfl ?_
  refine gl_sld (q := 565) rfl rfl hi.1 ?_
  refine gl_aload_n (q := 566) rfl rfl rfl ?_
  refine gl_iload_n (q := 567) rfl rfl rfl ?_
  refine gl_iconst (v := 2) (q := 568) rfl rfl rfl ?_
  refine gl_iadd (q := 569) rfl rfl ?_
  refine gl_sld (q := 570) rfl rfl hi.2.1 ?_
  refine gl_call (As := [.int (xs (i + 1).toNatClampNeg), .int (xs (i + 2).toNatClampNeg)]) (rest := [.int x]) (q := 573) rfl rfl lk11_68 myX10_dies vxX10_dies hj2 hc2 hQ1 rfl (Nat.le_of_ble_eq_true rfl) (by decide) rfl rfl (Nat.le_of_ble_eq_true rfl) rfl (Nat.le_of_ble_eq_true rfl) rfl ⟨(Nat.le_of_ble_eq_true rfl), (Nat.le_of_ble_eq_true rfl)⟩ ⟨by omega, by omega⟩ ?_
  exact gl_icmp_eq (q := 576) (r := 1236) rfl rfl rfl (fun _ => kk I2 J2 Q1 _ hV2) (fun c => absurd rfl c)
set_option maxRecDepth 100000 in
set_option maxHeartbeats 4000000 in
theorem lc_12 {b N kc ks nc : Nat} {xs : Nat → Int32} {i : Int32} {I : am_I} {J : am_J} {Q : am_Q} {E : Nat → am_I} {V : am_V} (hi : l_in i N) (hs : LStp V MX9_takes MX10_takes 3 1 0 0 [.int (xs (i + 1).toNatClampNeg), .int (xs (i + 2).toNatClampNeg)]) (hV : V nc I J Q E) (hf : kc + 8 ≤ 600000 ∧ ks + 975 ≤ 7302250) (kk : ∀ (I2 : am_I) (J2 : am_J) (Q2 : am_Q) (E2 : Nat → am_I), V nc I2 J2 Q2 E2 → GL b N xs (kc + 0) (ks + 0) 1236 (am_LL i) [] nc I2 J2 Q2 E2) : GL b N xs kc ks 578 (am_LL i) [] nc I J Q E := by
  obtain ⟨j, x, I1, J1, Q1, hj, hc1, hQ1, j2, I2, J2, hj2, hc2, hV2⟩ := hs nc I J Q E hV
  refine gl_aload_n (q := 579) rfl rfl rfl ?_
  refine gl_aload_n (q := 580) rfl rfl rfl ?_
  refine gl_iload_n (q := 581) rfl rfl rfl ?_
  refine gl_iconst (v := 1) (q := 582) rfl rfl rfl ?_
  refine gl_iadd (q := 583) rfl rfl ?_
  refine gl_sld (q := 584) rfl rfl hi.1 ?_
  refine gl_aload_n (q := 585) rfl rfl rfl ?_
  refine gl_iload_n (q := 586) rfl rfl rfl ?_
  refine gl_iconst (v := 2) (q := 587) rfl rfl rfl ?_
  refine gl_iadd (q := 588) rfl rfl ?_
  refine gl_sld (q := 589) rfl rfl hi.2.1 ?_
  refine gl_call (As := [.int (xs (i + 1).toNatClampNeg), .int (xs (i + 2).toNatClampNeg)]) (rest := []) (q := 592) rfl rfl lk11_69 myX9_takes vxX9_takes hj hc1 hQ1 rfl (Nat.le_of_ble_eq_true rfl) (by decide) rfl rfl (Nat.le_of_ble_eq_true rfl) rfl (Nat.le_of_ble_eq_true rfl) rfl ⟨(Nat.le_of_ble_eq_true rfl), (Nat.le_of_ble_eq_true rfl)⟩ ⟨by omega, by omega⟩ ?_
  refine gl_aload_n (q := 593) rfl rfl rfl ?_
  refine gl_aload_n (q := 594) rfl rfl rfl ?_
  refine gl_iload_n (q := 595) rfl rfl rfl ?_
  refine gl_iconst (v := 1) (q := 596) rfl rfl rfl ?_
  refine gl_iadd (q := 597) rfl rfl ?_
  refine gl_sld (q := 598) rfl rfl hi.1 ?_
  refine gl_aload_n (q := 599) rfl rfl rfl ?_
  refine gl_iload_n (q := 600) rfl rfl rfl ?_
  refine gl_iconst (v := 2) (q := 601) rfl rfl rfl ?_
  refine gl_iadd (q := 602) rfl rfl ?_
  refine gl_sld (q := 603) rfl rfl hi.2.1 ?_
  refine gl_call (As := [.int (xs (i + 1).toNatClampNeg), .int (xs (i + 2).toNatClampNeg)]) (rest := [.int x]) (q := 606) rfl rfl lk11_72 myX10_takes vxX10_takes hj2 hc2 hQ1 rfl (Nat.le_of_ble_eq_true rfl) (by decide) rfl rfl (Nat.le_of_ble_eq_true rfl) rfl (Nat.le_of_ble_eq_true rfl) rfl ⟨(Nat.le_of_ble_eq_true rfl), (Nat.le_of_ble_eq_true rfl)⟩ ⟨by omega, by omega⟩ ?_
  exact gl_icmp_eq (q := 609) (r := 1236) rfl rfl rfl (fun _ => kk I2 J2 Q1 _ hV2) (fun c => absurd rfl c)
set_option maxRecDepth 100000 in
set_option maxHeartbeats 4000000 in
theorem lc_13 {b N kc ks nc : Nat} {xs : Nat → Int32} {i : Int32} {I : am_I} {J : am_J} {Q : am_Q} {E : Nat → am_I} {V : am_V} (hi : l_in i N) (hs : LStp V MX9_let MX10_let 6 4 0 0 [.int (xs (i + 1).toNatClampNeg), .int (xs (i + 2).toNatClampNeg), .int (xs (i + 3).toNatClampNeg), .int (xs (i + 4).toNatClampNeg)]) (hV : V nc I J Q E) (hf : kc + 8 ≤ 600000 ∧ ks + 975 ≤ 7302250) (kk : ∀ (I2 : am_I) (J2 : am_J) (Q2 : am_Q) (E2 : Nat → am_I), V nc I2 J2 Q2 E2 → GL b N xs (kc + 0) (ks + 0) 1236 (am_LL i) [] nc I2 J2 Q2 E2) : GL b N xs kc ks 611 (am_LL i) [] nc I J Q E := by
  obtain ⟨j, x, I1, J1, Q1, hj, hc1, hQ1, j2, I2, J2, hj2, hc2, hV2⟩ := hs nc I J Q E hV
  refine gl_aload_n (q := 612) rfl rfl rfl ?_
  refine gl_aload_n (q := 613) rfl rfl rfl ?_
  refine gl_iload_n (q := 614) rfl rfl rfl ?_
  refine gl_iconst (v := 1) (q := 615) rfl rfl rfl ?_
  refine gl_iadd (q := 616) rfl rfl ?_
  refine gl_sld (q := 617) rfl rfl hi.1 ?_
  refine gl_aload_n (q := 618) rfl rfl rfl ?_
  refine gl_iload_n (q := 619) rfl rfl rfl ?_
  refine gl_iconst (v := 2) (q := 620) rfl rfl rfl ?_
  refine gl_iadd (q := 621) rfl rfl ?_
  refine gl_sld (q := 622) rfl rfl hi.2.1 ?_
  refine gl_aload_n (q := 623) rfl rfl rfl ?_
  refine gl_iload_n (q := 624) rfl rfl rfl ?_
  refine gl_iconst (v := 3) (q := 625) rfl rfl rfl ?_
  refine gl_iadd (q := 626) rfl rfl ?_
  refine gl_sld (q := 627) rfl rfl hi.2.2.1 ?_
  refine gl_aload_n (q := 628) rfl rfl rfl ?_
  refine gl_iload_n (q := 629) rfl rfl rfl ?_
  refine gl_iconst (v := 4) (q := 630) rfl rfl rfl ?_
  refine gl_iadd (q := 631) rfl rfl ?_
  refine gl_sld (q := 632) rfl rfl hi.2.2.2.1 ?_
  refine gl_call (As := [.int (xs (i + 1).toNatClampNeg), .int (xs (i + 2).toNatClampNeg), .int (xs (i + 3).toNatClampNeg), .int (xs (i + 4).toNatClampNeg)]) (rest := []) (q := 635) rfl rfl lk11_73 myX9_let vxX9_let hj hc1 hQ1 rfl (Nat.le_of_ble_eq_true rfl) (by decide) rfl rfl (Nat.le_of_ble_eq_true rfl) rfl (Nat.le_of_ble_eq_true rfl) rfl ⟨(Nat.le_of_ble_eq_true rfl), (Nat.le_of_ble_eq_true rfl)⟩ ⟨by omega, by omega⟩ ?_
  refine gl_aload_n (q := 636) rfl rfl rfl ?_
  refine gl_aload_n (q := 637) rfl rfl rfl ?_
  refine gl_iload_n (q := 638) rfl rfl rfl ?_
  refine gl_iconst (v := 1) (q := 639) rfl rfl rfl ?_
  refine gl_iadd (q := 640) rfl rfl ?_
  refine gl_sld (q := 641) rfl rfl hi.1 ?_
  refine gl_aload_n (q := 642) rfl rfl rfl ?_
  refine gl_iload_n (q := 643) rfl rfl rfl ?_
  refine gl_iconst (v := 2) (q := 644) rfl rfl rfl ?_
  refine gl_iadd (q := 645) rfl rfl ?_
  refine gl_sld (q := 646) rfl rfl hi.2.1 ?_
  refine gl_aload_n (q := 647) rfl rfl rfl ?_
  refine gl_iload_n (q := 648) rfl rfl rfl ?_
  refine gl_iconst (v := 3) (q := 649) rfl rfl rfl ?_
  refine gl_iadd (q := 650) rfl rfl ?_
  refine gl_sld (q := 651) rfl rfl hi.2.2.1 ?_
  refine gl_aload_n (q := 652) rfl rfl rfl ?_
  refine gl_iload_n (q := 653) rfl rfl rfl ?_
  refine gl_iconst (v := 4) (q := 654) rfl rfl rfl ?_
  refine gl_iadd (q := 655) rfl rfl ?_
  refine gl_sld (q := 656) rfl rfl hi.2.2.2.1 ?_
  refine gl_call (As := [.int (xs (i + 1).toNatClampNeg), .int (xs (i + 2).toNatClampNeg), .int (xs (i + 3).toNatClampNeg), .int (xs (i + 4).toNatClampNeg)]) (rest := [.int x]) (q := 659) rfl rfl lk11_76 myX10_let vxX10_let hj2 hc2 hQ1 rfl (Nat.le_of_ble_eq_true rfl) (by decide) rfl rfl (Nat.le_of_ble_eq_true rfl) rfl (Nat.le_of_ble_eq_true rfl) rfl ⟨(Nat.le_of_ble_eq_true rfl), (Nat.le_of_ble_eq_true rfl)⟩ ⟨by omega, by omega⟩ ?_
  exact gl_icmp_eq (q := 662) (r := 1236) rfl rfl rfl (fun _ => kk I2 J2 Q1 _ hV2) (fun c => absurd rfl c)
set_option maxRecDepth 100000 in
set_option maxHeartbeats 4000000 in
theorem lc_14 {b N kc ks nc : Nat} {xs : Nat → Int32} {i : Int32} {I : am_I} {J : am_J} {Q : am_Q} {E : Nat → am_I} {V : am_V} (hi : l_in i N) (hs : LStp V MX9_mask MX10_mask 6 4 0 0 [.int (xs (i + 1).toNatClampNeg), .int (xs (i + 2).toNatClampNeg), .int (xs (i + 3).toNatClampNeg), .int (xs (i + 4).toNatClampNeg)]) (hV : V nc I J Q E) (hf : kc + 8 ≤ 600000 ∧ ks + 975 ≤ 7302250) (kk : ∀ (I2 : am_I) (J2 : am_J) (Q2 : am_Q) (E2 : Nat → am_I), V nc I2 J2 Q2 E2 → GL b N xs (kc + 0) (ks + 0) 1236 (am_LL i) [] nc I2 J2 Q2 E2) : GL b N xs kc ks 664 (am_LL i) [] nc I J Q E := by
  obtain ⟨j, x, I1, J1, Q1, hj, hc1, hQ1, j2, I2, J2, hj2, hc2, hV2⟩ := hs nc I J Q E hV
  refine gl_aload_n (q := 665) rfl rfl rfl ?_
  refine gl_aload_n (q := 666) rfl rfl rfl ?_
  refine gl_iload_n (q := 667) rfl rfl rfl ?_
  refine gl_iconst (v := 1) (q := 668) rfl rfl rfl ?_
  refine gl_iadd (q := 669) rfl rfl ?_
  refine gl_sld (q := 670) rfl rfl hi.1 ?_
  refine gl_aload_n (q := 671) rfl rfl rfl ?_
  refine gl_iload_n (q := 672) rfl rfl rfl ?_
  refine gl_iconst (v := 2) (q := 673) rfl rfl rfl ?_
  refine gl_iadd (q := 674) rfl rfl ?_
  refine gl_sld (q := 675) rfl rfl hi.2.1 ?_
  refine gl_aload_n (q := 676) rfl rfl rfl ?_
  refine gl_iload_n (q := 677) rfl rfl rfl ?_
  refine gl_iconst (v := 3) (q := 678) rfl rfl rfl ?_
  refine gl_iadd (q := 679) rfl rfl ?_
  refine gl_sld (q := 680) rfl rfl hi.2.2.1 ?_
  refine gl_aload_n (q := 681) rfl rfl rfl ?_
  refine gl_iload_n (q := 682) rfl rfl rfl ?_
  refine gl_iconst (v := 4) (q := 683) rfl rfl rfl ?_
  refine gl_iadd (q := 684) rfl rfl ?_
  refine gl_sld (q := 685) rfl rfl hi.2.2.2.1 ?_
  refine gl_call (As := [.int (xs (i + 1).toNatClampNeg), .int (xs (i + 2).toNatClampNeg), .int (xs (i + 3).toNatClampNeg), .int (xs (i + 4).toNatClampNeg)]) (rest := []) (q := 688) rfl rfl lk11_77 myX9_mask vxX9_mask hj hc1 hQ1 rfl (Nat.le_of_ble_eq_true rfl) (by decide) rfl rfl (Nat.le_of_ble_eq_true rfl) rfl (Nat.le_of_ble_eq_true rfl) rfl ⟨(Nat.le_of_ble_eq_true rfl), (Nat.le_of_ble_eq_true rfl)⟩ ⟨by omega, by omega⟩ ?_
  refine gl_aload_n (q := 689) rfl rfl rfl ?_
  refine gl_aload_n (q := 690) rfl rfl rfl ?_
  refine gl_iload_n (q := 691) rfl rfl rfl ?_
  refine gl_iconst (v := 1) (q := 692) rfl rfl rfl ?_
  refine gl_iadd (q := 693) rfl rfl ?_
  refine gl_sld (q := 694) rfl rfl hi.1 ?_
  refine gl_aload_n (q := 695) rfl rfl rfl ?_
  refine gl_iload_n (q := 696) rfl rfl rfl ?_
  refine gl_iconst (v := 2) (q := 697) rfl rfl rfl ?_
  refine gl_iadd (q := 698) rfl rfl ?_
  refine gl_sld (q := 699) rfl rfl hi.2.1 ?_
  refine gl_aload_n (q := 700) rfl rfl rfl ?_
  refine gl_iload_n (q := 701) rfl rfl rfl ?_
  refine gl_iconst (v := 3) (q := 702) rfl rfl rfl ?_
  refine gl_iadd (q := 703) rfl rfl ?_
  refine gl_sld (q := 704) rfl rfl hi.2.2.1 ?_
  refine gl_aload_n (q := 705) rfl rfl rfl ?_
  refine gl_iload_n (q := 706) rfl rfl rfl ?_
  refine gl_iconst (v := 4) (q := 707) rfl rfl rfl ?_
  refine gl_iadd (q := 708) rfl rfl ?_
  refine gl_sld (q := 709) rfl rfl hi.2.2.2.1 ?_
  refine gl_call (As := [.int (xs (i + 1).toNatClampNeg), .int (xs (i + 2).toNatClampNeg), .int (xs (i + 3).toNatClampNeg), .int (xs (i + 4).toNatClampNeg)]) (rest := [.int x]) (q := 712) rfl rfl lk11_80 myX10_mask vxX10_mask hj2 hc2 hQ1 rfl (Nat.le_of_ble_eq_true rfl) (by decide) rfl rfl (Nat.le_of_ble_eq_true rfl) rfl (Nat.le_of_ble_eq_true rfl) rfl ⟨(Nat.le_of_ble_eq_true rfl), (Nat.le_of_ble_eq_true rfl)⟩ ⟨by omega, by omega⟩ ?_
  exact gl_icmp_eq (q := 715) (r := 1236) rfl rfl rfl (fun _ => kk I2 J2 Q1 _ hV2) (fun c => absurd rfl c)
set_option maxRecDepth 100000 in
set_option maxHeartbeats 4000000 in
theorem lc_15 {b N kc ks nc : Nat} {xs : Nat → Int32} {i : Int32} {I : am_I} {J : am_J} {Q : am_Q} {E : Nat → am_I} {V : am_V} (hi : l_in i N) (hs : LStp V MX9_would MX10_would 7 5 0 0 [.int (xs (i + 1).toNatClampNeg), .int (xs (i + 2).toNatClampNeg), .int (xs (i + 3).toNatClampNeg), .int (xs (i + 4).toNatClampNeg), .int (xs (i + 5).toNatClampNeg)]) (hV : V nc I J Q E) (hf : kc + 8 ≤ 600000 ∧ ks + 975 ≤ 7302250) (kk : ∀ (I2 : am_I) (J2 : am_J) (Q2 : am_Q) (E2 : Nat → am_I), V nc I2 J2 Q2 E2 → GL b N xs (kc + 0) (ks + 0) 1236 (am_LL i) [] nc I2 J2 Q2 E2) : GL b N xs kc ks 717 (am_LL i) [] nc I J Q E := by
  obtain ⟨j, x, I1, J1, Q1, hj, hc1, hQ1, j2, I2, J2, hj2, hc2, hV2⟩ := hs nc I J Q E hV
  refine gl_aload_n (q := 718) rfl rfl rfl ?_
  refine gl_aload_n (q := 719) rfl rfl rfl ?_
  refine gl_iload_n (q := 720) rfl rfl rfl ?_
  refine gl_iconst (v := 1) (q := 721) rfl rfl rfl ?_
  refine gl_iadd (q := 722) rfl rfl ?_
  refine gl_sld (q := 723) rfl rfl hi.1 ?_
  refine gl_aload_n (q := 724) rfl rfl rfl ?_
  refine gl_iload_n (q := 725) rfl rfl rfl ?_
  refine gl_iconst (v := 2) (q := 726) rfl rfl rfl ?_
  refine gl_iadd (q := 727) rfl rfl ?_
  refine gl_sld (q := 728) rfl rfl hi.2.1 ?_
  refine gl_aload_n (q := 729) rfl rfl rfl ?_
  refine gl_iload_n (q := 730) rfl rfl rfl ?_
  refine gl_iconst (v := 3) (q := 731) rfl rfl rfl ?_
  refine gl_iadd (q := 732) rfl rfl ?_
  refine gl_sld (q := 733) rfl rfl hi.2.2.1 ?_
  refine gl_aload_n (q := 734) rfl rfl rfl ?_
  refine gl_iload_n (q := 735) rfl rfl rfl ?_
  refine gl_iconst (v := 4) (q := 736) rfl rfl rfl ?_
  refine gl_iadd (q := 737) rfl rfl ?_
  refine gl_sld (q := 738) rfl rfl hi.2.2.2.1 ?_
  refine gl_aload_n (q := 739) rfl rfl rfl ?_
  refine gl_iload_n (q := 740) rfl rfl rfl ?_
  refine gl_iconst (v := 5) (q := 741) rfl rfl rfl ?_
  refine gl_iadd (q := 742) rfl rfl ?_
  refine gl_sld (q := 743) rfl rfl hi.2.2.2.2.1 ?_
  refine gl_call (As := [.int (xs (i + 1).toNatClampNeg), .int (xs (i + 2).toNatClampNeg), .int (xs (i + 3).toNatClampNeg), .int (xs (i + 4).toNatClampNeg), .int (xs (i + 5).toNatClampNeg)]) (rest := []) (q := 746) rfl rfl lk11_81 myX9_would vxX9_would hj hc1 hQ1 rfl (Nat.le_of_ble_eq_true rfl) (by decide) rfl rfl (Nat.le_of_ble_eq_true rfl) rfl (Nat.le_of_ble_eq_true rfl) rfl ⟨(Nat.le_of_ble_eq_true rfl), (Nat.le_of_ble_eq_true rfl)⟩ ⟨by omega, by omega⟩ ?_
  refine gl_aload_n (q := 747) rfl rfl rfl ?_
  refine gl_aload_n (q := 748) rfl rfl rfl ?_
  refine gl_iload_n (q := 749) rfl rfl rfl ?_
  refine gl_iconst (v := 1) (q := 750) rfl rfl rfl ?_
  refine gl_iadd (q := 751) rfl rfl ?_
  refine gl_sld (q := 752) rfl rfl hi.1 ?_
  refine gl_aload_n (q := 753) rfl rfl rfl ?_
  refine gl_iload_n (q := 754) rfl rfl rfl ?_
  refine gl_iconst (v := 2) (q := 755) rfl rfl rfl ?_
  refine gl_iadd (q := 756) rfl rfl ?_
  refine gl_sld (q := 757) rfl rfl hi.2.1 ?_
  refine gl_aload_n (q := 758) rfl rfl rfl ?_
  refine gl_iload_n (q := 759) rfl rfl rfl ?_
  refine gl_iconst (v := 3) (q := 760) rfl rfl rfl ?_
  refine gl_iadd (q := 761) rfl rfl ?_
  refine gl_sld (q := 762) rfl rfl hi.2.2.1 ?_
  refine gl_aload_n (q := 763) rfl rfl rfl ?_
  refine gl_iload_n (q := 764) rfl rfl rfl ?_
  refine gl_iconst (v := 4) (q := 765) rfl rfl rfl ?_
  refine gl_iadd (q := 766) rfl rfl ?_
  refine gl_sld (q := 767) rfl rfl hi.2.2.2.1 ?_
  refine gl_aload_n (q := 768) rfl rfl rfl ?_
  refine gl_iload_n (q := 769) rfl rfl rfl ?_
  refine gl_iconst (v := 5) (q := 770) rfl rfl rfl ?_
  refine gl_iadd (q := 771) rfl rfl ?_
  refine gl_sld (q := 772) rfl rfl hi.2.2.2.2.1 ?_
  refine gl_call (As := [.int (xs (i + 1).toNatClampNeg), .int (xs (i + 2).toNatClampNeg), .int (xs (i + 3).toNatClampNeg), .int (xs (i + 4).toNatClampNeg), .int (xs (i + 5).toNatClampNeg)]) (rest := [.int x]) (q := 775) rfl rfl lk11_84 myX10_would vxX10_would hj2 hc2 hQ1 rfl (Nat.le_of_ble_eq_true rfl) (by decide) rfl rfl (Nat.le_of_ble_eq_true rfl) rfl (Nat.le_of_ble_eq_true rfl) rfl ⟨(Nat.le_of_ble_eq_true rfl), (Nat.le_of_ble_eq_true rfl)⟩ ⟨by omega, by omega⟩ ?_
  exact gl_icmp_eq (q := 778) (r := 1236) rfl rfl rfl (fun _ => kk I2 J2 Q1 _ hV2) (fun c => absurd rfl c)
set_option maxRecDepth 100000 in
set_option maxHeartbeats 4000000 in
theorem lc_16 {b N kc ks nc : Nat} {xs : Nat → Int32} {i : Int32} {I : am_I} {J : am_J} {Q : am_Q} {E : Nat → am_I} {V : am_V} (hi : l_in i N) (hs : LStp V MX9_ask MX10_ask 7 5 0 0 [.int (xs (i + 1).toNatClampNeg), .int (xs (i + 2).toNatClampNeg), .int (xs (i + 3).toNatClampNeg), .int (xs (i + 4).toNatClampNeg), .int (xs (i + 5).toNatClampNeg)]) (hV : V nc I J Q E) (hf : kc + 8 ≤ 600000 ∧ ks + 975 ≤ 7302250) (kk : ∀ (I2 : am_I) (J2 : am_J) (Q2 : am_Q) (E2 : Nat → am_I), V nc I2 J2 Q2 E2 → GL b N xs (kc + 0) (ks + 0) 1236 (am_LL i) [] nc I2 J2 Q2 E2) : GL b N xs kc ks 780 (am_LL i) [] nc I J Q E := by
  obtain ⟨j, x, I1, J1, Q1, hj, hc1, hQ1, j2, I2, J2, hj2, hc2, hV2⟩ := hs nc I J Q E hV
  refine gl_aload_n (q := 781) rfl rfl rfl ?_
  refine gl_aload_n (q := 782) rfl rfl rfl ?_
  refine gl_iload_n (q := 783) rfl rfl rfl ?_
  refine gl_iconst (v := 1) (q := 784) rfl rfl rfl ?_
  refine gl_iadd (q := 785) rfl rfl ?_
  refine gl_sld (q := 786) rfl rfl hi.1 ?_
  refine gl_aload_n (q := 787) rfl rfl rfl ?_
  refine gl_iload_n (q := 788) rfl rfl rfl ?_
  refine gl_iconst (v := 2) (q := 789) rfl rfl rfl ?_
  refine gl_iadd (q := 790) rfl rfl ?_
  refine gl_sld (q := 791) rfl rfl hi.2.1 ?_
  refine gl_aload_n (q := 792) rfl rfl rfl ?_
  refine gl_iload_n (q := 793) rfl rfl rfl ?_
  refine gl_iconst (v := 3) (q := 794) rfl rfl rfl ?_
  refine gl_iadd (q := 795) rfl rfl ?_
  refine gl_sld (q := 796) rfl rfl hi.2.2.1 ?_
  refine gl_aload_n (q := 797) rfl rfl rfl ?_
  refine gl_iload_n (q := 798) rfl rfl rfl ?_
  refine gl_iconst (v := 4) (q := 799) rfl rfl rfl ?_
  refine gl_iadd (q := 800) rfl rfl ?_
  refine gl_sld (q := 801) rfl rfl hi.2.2.2.1 ?_
  refine gl_aload_n (q := 802) rfl rfl rfl ?_
  refine gl_iload_n (q := 803) rfl rfl rfl ?_
  refine gl_iconst (v := 5) (q := 804) rfl rfl rfl ?_
  refine gl_iadd (q := 805) rfl rfl ?_
  refine gl_sld (q := 806) rfl rfl hi.2.2.2.2.1 ?_
  refine gl_call (As := [.int (xs (i + 1).toNatClampNeg), .int (xs (i + 2).toNatClampNeg), .int (xs (i + 3).toNatClampNeg), .int (xs (i + 4).toNatClampNeg), .int (xs (i + 5).toNatClampNeg)]) (rest := []) (q := 809) rfl rfl lk11_85 myX9_ask vxX9_ask hj hc1 hQ1 rfl (Nat.le_of_ble_eq_true rfl) (by decide) rfl rfl (Nat.le_of_ble_eq_true rfl) rfl (Nat.le_of_ble_eq_true rfl) rfl ⟨(Nat.le_of_ble_eq_true rfl), (Nat.le_of_ble_eq_true rfl)⟩ ⟨by omega, by omega⟩ ?_
  refine gl_aload_n (q := 810) rfl rfl rfl ?_
  refine gl_aload_n (q := 811) rfl rfl rfl ?_
  refine gl_iload_n (q := 812) rfl rfl rfl ?_
  refine gl_iconst (v := 1) (q := 813) rfl rfl rfl ?_
  refine gl_iadd (q := 814) rfl rfl ?_
  refine gl_sld (q := 815) rfl rfl hi.1 ?_
  refine gl_aload_n (q := 816) rfl rfl rfl ?_
  refine gl_iload_n (q := 817) rfl rfl rfl ?_
  refine gl_iconst (v := 2) (q := 818) rfl rfl rfl ?_
  refine gl_iadd (q := 819) rfl rfl ?_
  refine gl_sld (q := 820) rfl rfl hi.2.1 ?_
  refine gl_aload_n (q := 821) rfl rfl rfl ?_
  refine gl_iload_n (q := 822) rfl rfl rfl ?_
  refine gl_iconst (v := 3) (q := 823) rfl rfl rfl ?_
  refine gl_iadd (q := 824) rfl rfl ?_
  refine gl_sld (q := 825) rfl rfl hi.2.2.1 ?_
  refine gl_aload_n (q := 826) rfl rfl rfl ?_
  refine gl_iload_n (q := 827) rfl rfl rfl ?_
  refine gl_iconst (v := 4) (q := 828) rfl rfl rfl ?_
  refine gl_iadd (q := 829) rfl rfl ?_
  refine gl_sld (q := 830) rfl rfl hi.2.2.2.1 ?_
  refine gl_aload_n (q := 831) rfl rfl rfl ?_
  refine gl_iload_n (q := 832) rfl rfl rfl ?_
  refine gl_iconst (v := 5) (q := 833) rfl rfl rfl ?_
  refine gl_iadd (q := 834) rfl rfl ?_
  refine gl_sld (q := 835) rfl rfl hi.2.2.2.2.1 ?_
  refine gl_call (As := [.int (xs (i + 1).toNatClampNeg), .int (xs (i + 2).toNatClampNeg), .int (xs (i + 3).toNatClampNeg), .int (xs (i + 4).toNatClampNeg), .int (xs (i + 5).toNatClampNeg)]) (rest := [.int x]) (q := 838) rfl rfl lk11_88 myX10_ask vxX10_ask hj2 hc2 hQ1 rfl (Nat.le_of_ble_eq_true rfl) (by decide) rfl rfl (Nat.le_of_ble_eq_true rfl) rfl (Nat.le_of_ble_eq_true rfl) rfl ⟨(Nat.le_of_ble_eq_true rfl), (Nat.le_of_ble_eq_true rfl)⟩ ⟨by omega, by omega⟩ ?_
  exact gl_icmp_eq (q := 841) (r := 1236) rfl rfl rfl (fun _ => kk I2 J2 Q1 _ hV2) (fun c => absurd rfl c)
set_option maxRecDepth 100000 in
set_option maxHeartbeats 4000000 in
theorem lc_17 {b N kc ks nc : Nat} {xs : Nat → Int32} {i : Int32} {I : am_I} {J : am_J} {Q : am_Q} {E : Nat → am_I} {V : am_V} (hi : l_in i N) (hs : LStp V MX9_heard MX10_heard 3 1 0 0 [.int (xs (i + 1).toNatClampNeg), .int (xs (i + 2).toNatClampNeg)]) (hV : V nc I J Q E) (hf : kc + 8 ≤ 600000 ∧ ks + 975 ≤ 7302250) (kk : ∀ (I2 : am_I) (J2 : am_J) (Q2 : am_Q) (E2 : Nat → am_I), V nc I2 J2 Q2 E2 → GL b N xs (kc + 0) (ks + 0) 1236 (am_LL i) [] nc I2 J2 Q2 E2) : GL b N xs kc ks 843 (am_LL i) [] nc I J Q E := by
  obtain ⟨j, x, I1, J1, Q1, hj, hc1, hQ1, j2, I2, J2, hj2, hc2, hV2⟩ := hs nc I J Q E hV
  refine gl_aload_n (q := 844) rfl rfl rfl ?_
  refine gl_aload_n (q := 845) rfl rfl rfl ?_
  refine gl_iload_n (q := 846) rfl rfl rfl ?_
  refine gl_iconst (v := 1) (q := 847) rfl rfl rfl ?_
  refine gl_iadd (q := 848) rfl rfl ?_
  refine gl_sld (q := 849) rfl rfl hi.1 ?_
  refine gl_aload_n (q := 850) rfl rfl rfl ?_
  refine gl_iload_n (q := 851) rfl rfl rfl ?_
  refine gl_iconst (v := 2) (q := 852) rfl rfl rfl ?_
  refine gl_iadd (q := 853) rfl rfl ?_
  refine gl_sld (q := 854) rfl rfl hi.2.1 ?_
  refine gl_call (As := [.int (xs (i + 1).toNatClampNeg), .int (xs (i + 2).toNatClampNeg)]) (rest := []) (q := 857) rfl rfl lk11_89 myX9_heard vxX9_heard hj hc1 hQ1 rfl (Nat.le_of_ble_eq_true rfl) (by decide) rfl rfl (Nat.le_of_ble_eq_true rfl) rfl (Nat.le_of_ble_eq_true rfl) rfl ⟨(Nat.le_of_ble_eq_true rfl), (Nat.le_of_ble_eq_true rfl)⟩ ⟨by omega, by omega⟩ ?_
  refine gl_aload_n (q := 858) rfl rfl rfl ?_
  refine gl_aload_n (q := 859) rfl rfl rfl ?_
  refine gl_iload_n (q := 860) rfl rfl rfl ?_
  refine gl_iconst (v := 1) (q := 861) rfl rfl rfl ?_
  refine gl_iadd (q := 862) rfl rfl ?_
  refine gl_sld (q := 863) rfl rfl hi.1 ?_
  refine gl_aload_n (q := 864) rfl rfl rfl ?_
  refine gl_iload_n (q := 865) rfl rfl rfl ?_
  refine gl_iconst (v := 2) (q := 866) rfl rfl rfl ?_
  refine gl_iadd (q := 867) rfl rfl ?_
  refine gl_sld (q := 868) rfl rfl hi.2.1 ?_
  refine gl_call (As := [.int (xs (i + 1).toNatClampNeg), .int (xs (i + 2).toNatClampNeg)]) (rest := [.int x]) (q := 871) rfl rfl lk11_93 myX10_heard vxX10_heard hj2 hc2 hQ1 rfl (Nat.le_of_ble_eq_true rfl) (by decide) rfl rfl (Nat.le_of_ble_eq_true rfl) rfl (Nat.le_of_ble_eq_true rfl) rfl ⟨(Nat.le_of_ble_eq_true rfl), (Nat.le_of_ble_eq_true rfl)⟩ ⟨by omega, by omega⟩ ?_
  exact gl_icmp_eq (q := 874) (r := 1236) rfl rfl rfl (fun _ => kk I2 J2 Q1 _ hV2) (fun c => absurd rfl c)
set_option maxRecDepth 100000 in
set_option maxHeartbeats 4000000 in
theorem lc_18 {b N kc ks nc : Nat} {xs : Nat → Int32} {i : Int32} {I : am_I} {J : am_J} {Q : am_Q} {E : Nat → am_I} {V : am_V} (hi : l_in i N) (hs : LStp V MX9_could MX10_could 4 1 0 0 [.int (xs (i + 1).toNatClampNeg), .int (xs (i + 2).toNatClampNeg)]) (hV : V nc I J Q E) (hf : kc + 8 ≤ 600000 ∧ ks + 975 ≤ 7302250) (kk : ∀ (I2 : am_I) (J2 : am_J) (Q2 : am_Q) (E2 : Nat → am_I), V nc I2 J2 Q2 E2 → GL b N xs (kc + 0) (ks + 0) 1236 (am_LL i) [] nc I2 J2 Q2 E2) : GL b N xs kc ks 876 (am_LL i) [] nc I J Q E := by
  obtain ⟨j, x, I1, J1, Q1, hj, hc1, hQ1, j2, I2, J2, hj2, hc2, hV2⟩ := hs nc I J Q E hV
  refine gl_aload_n (q := 877) rfl rfl rfl ?_
  refine gl_aload_n (q := 878) rfl rfl rfl ?_
  refine gl_iload_n (q := 879) rfl rfl rfl ?_
  refine gl_iconst (v := 1) (q := 880) rfl rfl rfl ?_
  refine gl_iadd (q := 881) rfl rfl ?_
  refine gl_sld (q := 882) rfl rfl hi.1 ?_
  refine gl_aload_n (q := 883) rfl rfl rfl ?_
  refine gl_iload_n (q := 884) rfl rfl rfl ?_
  refine gl_iconst (v := 2) (q := 885) rfl rfl rfl ?_
  refine gl_iadd (q := 886) rfl rfl ?_
  refine gl_sld (q := 887) rfl rfl hi.2.1 ?_
  refine gl_call (As := [.int (xs (i + 1).toNatClampNeg), .int (xs (i + 2).toNatClampNeg)]) (rest := []) (q := 890) rfl rfl lk11_94 myX9_could vxX9_could hj hc1 hQ1 rfl (Nat.le_of_ble_eq_true rfl) (by decide) rfl rfl (Nat.le_of_ble_eq_true rfl) rfl (Nat.le_of_ble_eq_true rfl) rfl ⟨(Nat.le_of_ble_eq_true rfl), (Nat.le_of_ble_eq_true rfl)⟩ ⟨by omega, by omega⟩ ?_
  refine gl_aload_n (q := 891) rfl rfl rfl ?_
  refine gl_aload_n (q := 892) rfl rfl rfl ?_
  refine gl_iload_n (q := 893) rfl rfl rfl ?_
  refine gl_iconst (v := 1) (q := 894) rfl rfl rfl ?_
  refine gl_iadd (q := 895) rfl rfl ?_
  refine gl_sld (q := 896) rfl rfl hi.1 ?_
  refine gl_aload_n (q := 897) rfl rfl rfl ?_
  refine gl_iload_n (q := 898) rfl rfl rfl ?_
  refine gl_iconst (v := 2) (q := 899) rfl rfl rfl ?_
  refine gl_iadd (q := 900) rfl rfl ?_
  refine gl_sld (q := 901) rfl rfl hi.2.1 ?_
  refine gl_call (As := [.int (xs (i + 1).toNatClampNeg), .int (xs (i + 2).toNatClampNeg)]) (rest := [.int x]) (q := 904) rfl rfl lk11_97 myX10_could vxX10_could hj2 hc2 hQ1 rfl (Nat.le_of_ble_eq_true rfl) (by decide) rfl rfl (Nat.le_of_ble_eq_true rfl) rfl (Nat.le_of_ble_eq_true rfl) rfl ⟨(Nat.le_of_ble_eq_true rfl), (Nat.le_of_ble_eq_true rfl)⟩ ⟨by omega, by omega⟩ ?_
  exact gl_icmp_eq (q := 907) (r := 1236) rfl rfl rfl (fun _ => kk I2 J2 Q1 _ hV2) (fun c => absurd rfl c)
set_option maxRecDepth 100000 in
set_option maxHeartbeats 4000000 in
theorem lc_19 {b N kc ks nc : Nat} {xs : Nat → Int32} {i : Int32} {I : am_I} {J : am_J} {Q : am_Q} {E : Nat → am_I} {V : am_V} (hi : l_in i N) (hs : LStp V MX9_seconds MX10_seconds 3 1 0 0 [.int (xs (i + 1).toNatClampNeg), .int (xs (i + 2).toNatClampNeg)]) (hV : V nc I J Q E) (hf : kc + 8 ≤ 600000 ∧ ks + 975 ≤ 7302250) (kk : ∀ (I2 : am_I) (J2 : am_J) (Q2 : am_Q) (E2 : Nat → am_I), V nc I2 J2 Q2 E2 → GL b N xs (kc + 0) (ks + 0) 1236 (am_LL i) [] nc I2 J2 Q2 E2) : GL b N xs kc ks 909 (am_LL i) [] nc I J Q E := by
  obtain ⟨j, x, I1, J1, Q1, hj, hc1, hQ1, j2, I2, J2, hj2, hc2, hV2⟩ := hs nc I J Q E hV
  refine gl_aload_n (q := 910) rfl rfl rfl ?_
  refine gl_aload_n (q := 911) rfl rfl rfl ?_
  refine gl_iload_n (q := 912) rfl rfl rfl ?_
  refine gl_iconst (v := 1) (q := 913) rfl rfl rfl ?_
  refine gl_iadd (q := 914) rfl rfl ?_
  refine gl_sld (q := 915) rfl rfl hi.1 ?_
  refine gl_aload_n (q := 916) rfl rfl rfl ?_
  refine gl_iload_n (q := 917) rfl rfl rfl ?_
  refine gl_iconst (v := 2) (q := 918) rfl rfl rfl ?_
  refine gl_iadd (q := 919) rfl rfl ?_
  refine gl_sld (q := 920) rfl rfl hi.2.1 ?_
  refine gl_call (As := [.int (xs (i + 1).toNatClampNeg), .int (xs (i + 2).toNatClampNeg)]) (rest := []) (q := 923) rfl rfl lk11_98 myX9_seconds vxX9_seconds hj hc1 hQ1 rfl (Nat.le_of_ble_eq_true rfl) (by decide) rfl rfl (Nat.le_of_ble_eq_true rfl) rfl (Nat.le_of_ble_eq_true rfl) rfl ⟨(Nat.le_of_ble_eq_true rfl), (Nat.le_of_ble_eq_true rfl)⟩ ⟨by omega, by omega⟩ ?_
  refine gl_aload_n (q := 924) rfl rfl rfl ?_
  refine gl_aload_n (q := 925) rfl rfl rfl ?_
  refine gl_iload_n (q := 926) rfl rfl rfl ?_
  refine gl_iconst (v := 1) (q := 927) rfl rfl rfl ?_
  refine gl_iadd (q := 928) rfl rfl ?_
  refine gl_sld (q := 929) rfl rfl hi.1 ?_
  refine gl_aload_n (q := 930) rfl rfl rfl ?_
  refine gl_iload_n (q := 931) rfl rfl rfl ?_
  refine gl_iconst (v := 2) (q := 932) rfl rfl rfl ?_
  refine gl_iadd (q := 933) rfl rfl ?_
  refine gl_sld (q := 934) rfl rfl hi.2.1 ?_
  refine gl_call (As := [.int (xs (i + 1).toNatClampNeg), .int (xs (i + 2).toNatClampNeg)]) (rest := [.int x]) (q := 937) rfl rfl lk11_101 myX10_seconds vxX10_seconds hj2 hc2 hQ1 rfl (Nat.le_of_ble_eq_true rfl) (by decide) rfl rfl (Nat.le_of_ble_eq_true rfl) rfl (Nat.le_of_ble_eq_true rfl) rfl ⟨(Nat.le_of_ble_eq_true rfl), (Nat.le_of_ble_eq_true rfl)⟩ ⟨by omega, by omega⟩ ?_
  exact gl_icmp_eq (q := 940) (r := 1236) rfl rfl rfl (fun _ => kk I2 J2 Q1 _ hV2) (fun c => absurd rfl c)
set_option maxRecDepth 100000 in
set_option maxHeartbeats 4000000 in
theorem lc_20 {b N kc ks nc : Nat} {xs : Nat → Int32} {i : Int32} {I : am_I} {J : am_J} {Q : am_Q} {E : Nat → am_I} {V : am_V} (hi : l_in i N) (hs : LStp V MX9_opens MX10_opens 6 4 0 0 [.int (xs (i + 1).toNatClampNeg), .int (xs (i + 2).toNatClampNeg), .int (xs (i + 3).toNatClampNeg), .int (xs (i + 4).toNatClampNeg)]) (hV : V nc I J Q E) (hf : kc + 8 ≤ 600000 ∧ ks + 975 ≤ 7302250) (kk : ∀ (I2 : am_I) (J2 : am_J) (Q2 : am_Q) (E2 : Nat → am_I), V nc I2 J2 Q2 E2 → GL b N xs (kc + 0) (ks + 0) 1236 (am_LL i) [] nc I2 J2 Q2 E2) : GL b N xs kc ks 942 (am_LL i) [] nc I J Q E := by
  obtain ⟨j, x, I1, J1, Q1, hj, hc1, hQ1, j2, I2, J2, hj2, hc2, hV2⟩ := hs nc I J Q E hV
  refine gl_aload_n (q := 943) rfl rfl rfl ?_
  refine gl_aload_n (q := 944) rfl rfl rfl ?_
  refine gl_iload_n (q := 945) rfl rfl rfl ?_
  refine gl_iconst (v := 1) (q := 946) rfl rfl rfl ?_
  refine gl_iadd (q := 947) rfl rfl ?_
  refine gl_sld (q := 948) rfl rfl hi.1 ?_
  refine gl_aload_n (q := 949) rfl rfl rfl ?_
  refine gl_iload_n (q := 950) rfl rfl rfl ?_
  refine gl_iconst (v := 2) (q := 951) rfl rfl rfl ?_
  refine gl_iadd (q := 952) rfl rfl ?_
  refine gl_sld (q := 953) rfl rfl hi.2.1 ?_
  refine gl_aload_n (q := 954) rfl rfl rfl ?_
  refine gl_iload_n (q := 955) rfl rfl rfl ?_
  refine gl_iconst (v := 3) (q := 956) rfl rfl rfl ?_
  refine gl_iadd (q := 957) rfl rfl ?_
  refine gl_sld (q := 958) rfl rfl hi.2.2.1 ?_
  refine gl_aload_n (q := 959) rfl rfl rfl ?_
  refine gl_iload_n (q := 960) rfl rfl rfl ?_
  refine gl_iconst (v := 4) (q := 961) rfl rfl rfl ?_
  refine gl_iadd (q := 962) rfl rfl ?_
  refine gl_sld (q := 963) rfl rfl hi.2.2.2.1 ?_
  refine gl_call (As := [.int (xs (i + 1).toNatClampNeg), .int (xs (i + 2).toNatClampNeg), .int (xs (i + 3).toNatClampNeg), .int (xs (i + 4).toNatClampNeg)]) (rest := []) (q := 966) rfl rfl lk11_102 myX9_opens vxX9_opens hj hc1 hQ1 rfl (Nat.le_of_ble_eq_true rfl) (by decide) rfl rfl (Nat.le_of_ble_eq_true rfl) rfl (Nat.le_of_ble_eq_true rfl) rfl ⟨(Nat.le_of_ble_eq_true rfl), (Nat.le_of_ble_eq_true rfl)⟩ ⟨by omega, by omega⟩ ?_
  refine gl_aload_n (q := 967) rfl rfl rfl ?_
  refine gl_aload_n (q := 968) rfl rfl rfl ?_
  refine gl_iload_n (q := 969) rfl rfl rfl ?_
  refine gl_iconst (v := 1) (q := 970) rfl rfl rfl ?_
  refine gl_iadd (q := 971) rfl rfl ?_
  refine gl_sld (q := 972) rfl rfl hi.1 ?_
  refine gl_aload_n (q := 973) rfl rfl rfl ?_
  refine gl_iload_n (q := 974) rfl rfl rfl ?_
  refine gl_iconst (v := 2) (q := 975) rfl rfl rfl ?_
  refine gl_iadd (q := 976) rfl rfl ?_
  refine gl_sld (q := 977) rfl rfl hi.2.1 ?_
  refine gl_aload_n (q := 978) rfl rfl rfl ?_
  refine gl_iload_n (q := 979) rfl rfl rfl ?_
  refine gl_iconst (v := 3) (q := 980) rfl rfl rfl ?_
  refine gl_iadd (q := 981) rfl rfl ?_
  refine gl_sld (q := 982) rfl rfl hi.2.2.1 ?_
  refine gl_aload_n (q := 983) rfl rfl rfl ?_
  refine gl_iload_n (q := 984) rfl rfl rfl ?_
  refine gl_iconst (v := 4) (q := 985) rfl rfl rfl ?_
  refine gl_iadd (q := 986) rfl rfl ?_
  refine gl_sld (q := 987) rfl rfl hi.2.2.2.1 ?_
  refine gl_call (As := [.int (xs (i + 1).toNatClampNeg), .int (xs (i + 2).toNatClampNeg), .int (xs (i + 3).toNatClampNeg), .int (xs (i + 4).toNatClampNeg)]) (rest := [.int x]) (q := 990) rfl rfl lk11_105 myX10_opens vxX10_opens hj2 hc2 hQ1 rfl (Nat.le_of_ble_eq_true rfl) (by decide) rfl rfl (Nat.le_of_ble_eq_true rfl) rfl (Nat.le_of_ble_eq_true rfl) rfl ⟨(Nat.le_of_ble_eq_true rfl), (Nat.le_of_ble_eq_true rfl)⟩ ⟨by omega, by omega⟩ ?_
  exact gl_icmp_eq (q := 993) (r := 1236) rfl rfl rfl (fun _ => kk I2 J2 Q1 _ hV2) (fun c => absurd rfl c)
set_option maxRecDepth 100000 in
set_option maxHeartbeats 4000000 in
theorem lc_21 {b N kc ks nc : Nat} {xs : Nat → Int32} {i : Int32} {I : am_I} {J : am_J} {Q : am_Q} {E : Nat → am_I} {V : am_V} (hi : l_in i N) (hs : LStp V MX9_at MX10_at_ 1 0 0 0 [.int (xs (i + 1).toNatClampNeg), .int (xs (i + 2).toNatClampNeg)]) (hV : V nc I J Q E) (hf : kc + 8 ≤ 600000 ∧ ks + 975 ≤ 7302250) (kk : ∀ (I2 : am_I) (J2 : am_J) (Q2 : am_Q) (E2 : Nat → am_I), V nc I2 J2 Q2 E2 → GL b N xs (kc + 0) (ks + 0) 1236 (am_LL i) [] nc I2 J2 Q2 E2) : GL b N xs kc ks 995 (am_LL i) [] nc I J Q E := by
  obtain ⟨j, x, I1, J1, Q1, hj, hc1, hQ1, j2, I2, J2, hj2, hc2, hV2⟩ := hs nc I J Q E hV
  refine gl_aload_n (q := 996) rfl rfl rfl ?_
  refine gl_aload_n (q := 997) rfl rfl rfl ?_
  refine gl_iload_n (q := 998) rfl rfl rfl ?_
  refine gl_iconst (v := 1) (q := 999) rfl rfl rfl ?_
  refine gl_iadd (q := 1000) rfl rfl ?_
  refine gl_sld (q := 1001) rfl rfl hi.1 ?_
  refine gl_aload_n (q := 1002) rfl rfl rfl ?_
  refine gl_iload_n (q := 1003) rfl rfl rfl ?_
  refine gl_iconst (v := 2) (q := 1004) rfl rfl rfl ?_
  refine gl_iadd (q := 1005) rfl rfl ?_
  refine gl_sld (q := 1006) rfl rfl hi.2.1 ?_
  refine gl_call (As := [.int (xs (i + 1).toNatClampNeg), .int (xs (i + 2).toNatClampNeg)]) (rest := []) (q := 1009) rfl rfl lk11_106 myX9_at vxX9_at hj hc1 hQ1 rfl (Nat.le_of_ble_eq_true rfl) (by decide) rfl rfl (Nat.le_of_ble_eq_true rfl) rfl (Nat.le_of_ble_eq_true rfl) rfl ⟨(Nat.le_of_ble_eq_true rfl), (Nat.le_of_ble_eq_true rfl)⟩ ⟨by omega, by omega⟩ ?_
  refine gl_aload_n (q := 1010) rfl rfl rfl ?_
  refine gl_aload_n (q := 1011) rfl rfl rfl ?_
  refine gl_iload_n (q := 1012) rfl rfl rfl ?_
  refine gl_iconst (v := 1) (q := 1013) rfl rfl rfl ?_
  refine gl_iadd (q := 1014) rfl rfl ?_
  refine gl_sld (q := 1015) rfl rfl hi.1 ?_
  refine gl_aload_n (q := 1016) rfl rfl rfl ?_
  refine gl_iload_n (q := 1017) rfl rfl rfl ?_
  refine gl_iconst (v := 2) (q := 1018) rfl rfl rfl ?_
  refine gl_iadd (q := 1019) rfl rfl ?_
  refine gl_sld (q := 1020) rfl rfl hi.2.1 ?_
  refine gl_call (As := [.int (xs (i + 1).toNatClampNeg), .int (xs (i + 2).toNatClampNeg)]) (rest := [.int x]) (q := 1023) rfl rfl lk11_109 myX10_at_ vxX10_at_ hj2 hc2 hQ1 rfl (Nat.le_of_ble_eq_true rfl) (by decide) rfl rfl (Nat.le_of_ble_eq_true rfl) rfl (Nat.le_of_ble_eq_true rfl) rfl ⟨(Nat.le_of_ble_eq_true rfl), (Nat.le_of_ble_eq_true rfl)⟩ ⟨by omega, by omega⟩ ?_
  exact gl_icmp_eq (q := 1026) (r := 1236) rfl rfl rfl (fun _ => kk I2 J2 Q1 _ hV2) (fun c => absurd rfl c)
set_option maxRecDepth 100000 in
set_option maxHeartbeats 4000000 in
theorem lc_22 {b N kc ks nc : Nat} {xs : Nat → Int32} {i : Int32} {I : am_I} {J : am_J} {Q : am_Q} {E : Nat → am_I} {V : am_V} (hi : l_in i N) (hs : LStp V MX9_span MX10_span 6 1 0 0 [.int (xs (i + 1).toNatClampNeg), .int (xs (i + 2).toNatClampNeg), .int (xs (i + 3).toNatClampNeg)]) (hV : V nc I J Q E) (hf : kc + 8 ≤ 600000 ∧ ks + 975 ≤ 7302250) (kk : ∀ (I2 : am_I) (J2 : am_J) (Q2 : am_Q) (E2 : Nat → am_I), V nc I2 J2 Q2 E2 → GL b N xs (kc + 0) (ks + 0) 1236 (am_LL i) [] nc I2 J2 Q2 E2) : GL b N xs kc ks 1028 (am_LL i) [] nc I J Q E := by
  obtain ⟨j, x, I1, J1, Q1, hj, hc1, hQ1, j2, I2, J2, hj2, hc2, hV2⟩ := hs nc I J Q E hV
  refine gl_aload_n (q := 1029) rfl rfl rfl ?_
  refine gl_aload_n (q := 1030) rfl rfl rfl ?_
  refine gl_iload_n (q := 1031) rfl rfl rfl ?_
  refine gl_iconst (v := 1) (q := 1032) rfl rfl rfl ?_
  refine gl_iadd (q := 1033) rfl rfl ?_
  refine gl_sld (q := 1034) rfl rfl hi.1 ?_
  refine gl_aload_n (q := 1035) rfl rfl rfl ?_
  refine gl_iload_n (q := 1036) rfl rfl rfl ?_
  refine gl_iconst (v := 2) (q := 1037) rfl rfl rfl ?_
  refine gl_iadd (q := 1038) rfl rfl ?_
  refine gl_sld (q := 1039) rfl rfl hi.2.1 ?_
  refine gl_aload_n (q := 1040) rfl rfl rfl ?_
  refine gl_iload_n (q := 1041) rfl rfl rfl ?_
  refine gl_iconst (v := 3) (q := 1042) rfl rfl rfl ?_
  refine gl_iadd (q := 1043) rfl rfl ?_
  refine gl_sld (q := 1044) rfl rfl hi.2.2.1 ?_
  refine gl_call (As := [.int (xs (i + 1).toNatClampNeg), .int (xs (i + 2).toNatClampNeg), .int (xs (i + 3).toNatClampNeg)]) (rest := []) (q := 1047) rfl rfl lk11_110 myX9_span vxX9_span hj hc1 hQ1 rfl (Nat.le_of_ble_eq_true rfl) (by decide) rfl rfl (Nat.le_of_ble_eq_true rfl) rfl (Nat.le_of_ble_eq_true rfl) rfl ⟨(Nat.le_of_ble_eq_true rfl), (Nat.le_of_ble_eq_true rfl)⟩ ⟨by omega, by omega⟩ ?_
  refine gl_aload_n (q := 1048) rfl rfl rfl ?_
  refine gl_aload_n (q := 1049) rfl rfl rfl ?_
  refine gl_iload_n (q := 1050) rfl rfl rfl ?_
  refine gl_iconst (v := 1) (q := 1051) rfl rfl rfl ?_
  refine gl_iadd (q := 1052) rfl rfl ?_
  refine gl_sld (q := 1053) rfl rfl hi.1 ?_
  refine gl_aload_n (q := 1054) rfl rfl rfl ?_
  refine gl_iload_n (q := 1055) rfl rfl rfl ?_
  refine gl_iconst (v := 2) (q := 1056) rfl rfl rfl ?_
  refine gl_iadd (q := 1057) rfl rfl ?_
  refine gl_sld (q := 1058) rfl rfl hi.2.1 ?_
  refine gl_aload_n (q := 1059) rfl rfl rfl ?_
  refine gl_iload_n (q := 1060) rfl rfl rfl ?_
  refine gl_iconst (v := 3) (q := 1061) rfl rfl rfl ?_
  refine gl_iadd (q := 1062) rfl rfl ?_
  refine gl_sld (q := 1063) rfl rfl hi.2.2.1 ?_
  refine gl_call (As := [.int (xs (i + 1).toNatClampNeg), .int (xs (i + 2).toNatClampNeg), .int (xs (i + 3).toNatClampNeg)]) (rest := [.int x]) (q := 1066) rfl rfl lk11_113 myX10_span vxX10_span hj2 hc2 hQ1 rfl (Nat.le_of_ble_eq_true rfl) (by decide) rfl rfl (Nat.le_of_ble_eq_true rfl) rfl (Nat.le_of_ble_eq_true rfl) rfl ⟨(Nat.le_of_ble_eq_true rfl), (Nat.le_of_ble_eq_true rfl)⟩ ⟨by omega, by omega⟩ ?_
  exact gl_icmp_eq (q := 1069) (r := 1236) rfl rfl rfl (fun _ => kk I2 J2 Q1 _ hV2) (fun c => absurd rfl c)
set_option maxRecDepth 100000 in
set_option maxHeartbeats 4000000 in
theorem lc_23 {b N kc ks nc : Nat} {xs : Nat → Int32} {i : Int32} {I : am_I} {J : am_J} {Q : am_Q} {E : Nat → am_I} {V : am_V} (hi : l_in i N) (hs : LStp V MX9_behind MX10_behind 6 1 0 0 [.int (xs (i + 1).toNatClampNeg), .int (xs (i + 2).toNatClampNeg), .int (xs (i + 3).toNatClampNeg)]) (hV : V nc I J Q E) (hf : kc + 8 ≤ 600000 ∧ ks + 975 ≤ 7302250) (kk : ∀ (I2 : am_I) (J2 : am_J) (Q2 : am_Q) (E2 : Nat → am_I), V nc I2 J2 Q2 E2 → GL b N xs (kc + 0) (ks + 0) 1236 (am_LL i) [] nc I2 J2 Q2 E2) : GL b N xs kc ks 1071 (am_LL i) [] nc I J Q E := by
  obtain ⟨j, x, I1, J1, Q1, hj, hc1, hQ1, j2, I2, J2, hj2, hc2, hV2⟩ := hs nc I J Q E hV
  refine gl_aload_n (q := 1072) rfl rfl rfl ?_
  refine gl_aload_n (q := 1073) rfl rfl rfl ?_
  refine gl_iload_n (q := 1074) rfl rfl rfl ?_
  refine gl_iconst (v := 1) (q := 1075) rfl rfl rfl ?_
  refine gl_iadd (q := 1076) rfl rfl ?_
  refine gl_sld (q := 1077) rfl rfl hi.1 ?_
  refine gl_aload_n (q := 1078) rfl rfl rfl ?_
  refine gl_iload_n (q := 1079) rfl rfl rfl ?_
  refine gl_iconst (v := 2) (q := 1080) rfl rfl rfl ?_
  refine gl_iadd (q := 1081) rfl rfl ?_
  refine gl_sld (q := 1082) rfl rfl hi.2.1 ?_
  refine gl_aload_n (q := 1083) rfl rfl rfl ?_
  refine gl_iload_n (q := 1084) rfl rfl rfl ?_
  refine gl_iconst (v := 3) (q := 1085) rfl rfl rfl ?_
  refine gl_iadd (q := 1086) rfl rfl ?_
  refine gl_sld (q := 1087) rfl rfl hi.2.2.1 ?_
  refine gl_call (As := [.int (xs (i + 1).toNatClampNeg), .int (xs (i + 2).toNatClampNeg), .int (xs (i + 3).toNatClampNeg)]) (rest := []) (q := 1090) rfl rfl lk11_114 myX9_behind vxX9_behind hj hc1 hQ1 rfl (Nat.le_of_ble_eq_true rfl) (by decide) rfl rfl (Nat.le_of_ble_eq_true rfl) rfl (Nat.le_of_ble_eq_true rfl) rfl ⟨(Nat.le_of_ble_eq_true rfl), (Nat.le_of_ble_eq_true rfl)⟩ ⟨by omega, by omega⟩ ?_
  refine gl_aload_n (q := 1091) rfl rfl rfl ?_
  refine gl_aload_n (q := 1092) rfl rfl rfl ?_
  refine gl_iload_n (q := 1093) rfl rfl rfl ?_
  refine gl_iconst (v := 1) (q := 1094) rfl rfl rfl ?_
  refine gl_iadd (q := 1095) rfl rfl ?_
  refine gl_sld (q := 1096) rfl rfl hi.1 ?_
  refine gl_aload_n (q := 1097) rfl rfl rfl ?_
  refine gl_iload_n (q := 1098) rfl rfl rfl ?_
  refine gl_iconst (v := 2) (q := 1099) rfl rfl rfl ?_
  refine gl_iadd (q := 1100) rfl rfl ?_
  refine gl_sld (q := 1101) rfl rfl hi.2.1 ?_
  refine gl_aload_n (q := 1102) rfl rfl rfl ?_
  refine gl_iload_n (q := 1103) rfl rfl rfl ?_
  refine gl_iconst (v := 3) (q := 1104) rfl rfl rfl ?_
  refine gl_iadd (q := 1105) rfl rfl ?_
  refine gl_sld (q := 1106) rfl rfl hi.2.2.1 ?_
  refine gl_call (As := [.int (xs (i + 1).toNatClampNeg), .int (xs (i + 2).toNatClampNeg), .int (xs (i + 3).toNatClampNeg)]) (rest := [.int x]) (q := 1109) rfl rfl lk11_117 myX10_behind vxX10_behind hj2 hc2 hQ1 rfl (Nat.le_of_ble_eq_true rfl) (by decide) rfl rfl (Nat.le_of_ble_eq_true rfl) rfl (Nat.le_of_ble_eq_true rfl) rfl ⟨(Nat.le_of_ble_eq_true rfl), (Nat.le_of_ble_eq_true rfl)⟩ ⟨by omega, by omega⟩ ?_
  exact gl_icmp_eq (q := 1112) (r := 1236) rfl rfl rfl (fun _ => kk I2 J2 Q1 _ hV2) (fun c => absurd rfl c)
set_option maxRecDepth 100000 in
set_option maxHeartbeats 4000000 in
theorem lc_24 {b N kc ks nc : Nat} {xs : Nat → Int32} {i : Int32} {I : am_I} {J : am_J} {Q : am_Q} {E : Nat → am_I} {V : am_V} (hi : l_in i N) (hs : LStp V MX9_same MX10_same 6 1 0 0 [.int (xs (i + 1).toNatClampNeg), .int (xs (i + 2).toNatClampNeg)]) (hV : V nc I J Q E) (hf : kc + 8 ≤ 600000 ∧ ks + 975 ≤ 7302250) (kk : ∀ (I2 : am_I) (J2 : am_J) (Q2 : am_Q) (E2 : Nat → am_I), V nc I2 J2 Q2 E2 → GL b N xs (kc + 0) (ks + 0) 1236 (am_LL i) [] nc I2 J2 Q2 E2) : GL b N xs kc ks 1114 (am_LL i) [] nc I J Q E := by
  obtain ⟨j, x, I1, J1, Q1, hj, hc1, hQ1, j2, I2, J2, hj2, hc2, hV2⟩ := hs nc I J Q E hV
  refine gl_aload_n (q := 1115) rfl rfl rfl ?_
  refine gl_aload_n (q := 1116) rfl rfl rfl ?_
  refine gl_iload_n (q := 1117) rfl rfl rfl ?_
  refine gl_iconst (v := 1) (q := 1118) rfl rfl rfl ?_
  refine gl_iadd (q := 1119) rfl rfl ?_
  refine gl_sld (q := 1120) rfl rfl hi.1 ?_
  refine gl_aload_n (q := 1121) rfl rfl rfl ?_
  refine gl_iload_n (q := 1122) rfl rfl rfl ?_
  refine gl_iconst (v := 2) (q := 1123) rfl rfl rfl ?_
  refine gl_iadd (q := 1124) rfl rfl ?_
  refine gl_sld (q := 1125) rfl rfl hi.2.1 ?_
  refine gl_call (As := [.int (xs (i + 1).toNatClampNeg), .int (xs (i + 2).toNatClampNeg)]) (rest := []) (q := 1128) rfl rfl lk11_118 myX9_same vxX9_same hj hc1 hQ1 rfl (Nat.le_of_ble_eq_true rfl) (by decide) rfl rfl (Nat.le_of_ble_eq_true rfl) rfl (Nat.le_of_ble_eq_true rfl) rfl ⟨(Nat.le_of_ble_eq_true rfl), (Nat.le_of_ble_eq_true rfl)⟩ ⟨by omega, by omega⟩ ?_
  refine gl_aload_n (q := 1129) rfl rfl rfl ?_
  refine gl_aload_n (q := 1130) rfl rfl rfl ?_
  refine gl_iload_n (q := 1131) rfl rfl rfl ?_
  refine gl_iconst (v := 1) (q := 1132) rfl rfl rfl ?_
  refine gl_iadd (q := 1133) rfl rfl ?_
  refine gl_sld (q := 1134) rfl rfl hi.1 ?_
  refine gl_aload_n (q := 1135) rfl rfl rfl ?_
  refine gl_iload_n (q := 1136) rfl rfl rfl ?_
  refine gl_iconst (v := 2) (q := 1137) rfl rfl rfl ?_
  refine gl_iadd (q := 1138) rfl rfl ?_
  refine gl_sld (q := 1139) rfl rfl hi.2.1 ?_
  refine gl_call (As := [.int (xs (i + 1).toNatClampNeg), .int (xs (i + 2).toNatClampNeg)]) (rest := [.int x]) (q := 1142) rfl rfl lk11_121 myX10_same vxX10_same hj2 hc2 hQ1 rfl (Nat.le_of_ble_eq_true rfl) (by decide) rfl rfl (Nat.le_of_ble_eq_true rfl) rfl (Nat.le_of_ble_eq_true rfl) rfl ⟨(Nat.le_of_ble_eq_true rfl), (Nat.le_of_ble_eq_true rfl)⟩ ⟨by omega, by omega⟩ ?_
  exact gl_icmp_eq (q := 1145) (r := 1236) rfl rfl rfl (fun _ => kk I2 J2 Q1 _ hV2) (fun c => absurd rfl c)
set_option maxRecDepth 100000 in
set_option maxHeartbeats 4000000 in
theorem lc_25 {b N kc ks nc : Nat} {xs : Nat → Int32} {i : Int32} {I : am_I} {J : am_J} {Q : am_Q} {E : Nat → am_I} {V : am_V} (hi : l_in i N) (hs : LStp V MX9_left MX10_left 1 3 0 0 [.int (xs (i + 1).toNatClampNeg)]) (hV : V nc I J Q E) (hf : kc + 8 ≤ 600000 ∧ ks + 975 ≤ 7302250) (kk : ∀ (I2 : am_I) (J2 : am_J) (Q2 : am_Q) (E2 : Nat → am_I), V nc I2 J2 Q2 E2 → GL b N xs (kc + 0) (ks + 0) 1236 (am_LL i) [] nc I2 J2 Q2 E2) : GL b N xs kc ks 1147 (am_LL i) [] nc I J Q E := by
  obtain ⟨j, x, I1, J1, Q1, hj, hc1, hQ1, j2, I2, J2, hj2, hc2, hV2⟩ := hs nc I J Q E hV
  refine gl_aload_n (q := 1148) rfl rfl rfl ?_
  refine gl_aload_n (q := 1149) rfl rfl rfl ?_
  refine gl_iload_n (q := 1150) rfl rfl rfl ?_
  refine gl_iconst (v := 1) (q := 1151) rfl rfl rfl ?_
  refine gl_iadd (q := 1152) rfl rfl ?_
  refine gl_sld (q := 1153) rfl rfl hi.1 ?_
  refine gl_call (As := [.int (xs (i + 1).toNatClampNeg)]) (rest := []) (q := 1156) rfl rfl lk11_122 myX9_left vxX9_left hj hc1 hQ1 rfl (Nat.le_of_ble_eq_true rfl) (by decide) rfl rfl (Nat.le_of_ble_eq_true rfl) rfl (Nat.le_of_ble_eq_true rfl) rfl ⟨(Nat.le_of_ble_eq_true rfl), (Nat.le_of_ble_eq_true rfl)⟩ ⟨by omega, by omega⟩ ?_
  refine gl_aload_n (q := 1157) rfl rfl rfl ?_
  refine gl_aload_n (q := 1158) rfl rfl rfl ?_
  refine gl_iload_n (q := 1159) rfl rfl rfl ?_
  refine gl_iconst (v := 1) (q := 1160) rfl rfl rfl ?_
  refine gl_iadd (q := 1161) rfl rfl ?_
  refine gl_sld (q := 1162) rfl rfl hi.1 ?_
  refine gl_call (As := [.int (xs (i + 1).toNatClampNeg)]) (rest := [.int x]) (q := 1165) rfl rfl lk11_125 myX10_left vxX10_left hj2 hc2 hQ1 rfl (Nat.le_of_ble_eq_true rfl) (by decide) rfl rfl (Nat.le_of_ble_eq_true rfl) rfl (Nat.le_of_ble_eq_true rfl) rfl ⟨(Nat.le_of_ble_eq_true rfl), (Nat.le_of_ble_eq_true rfl)⟩ ⟨by omega, by omega⟩ ?_
  exact gl_icmp_eq (q := 1168) (r := 1236) rfl rfl rfl (fun _ => kk I2 J2 Q1 _ hV2) (fun c => absurd rfl c)
set_option maxRecDepth 100000 in
set_option maxHeartbeats 4000000 in
theorem lc_26 {b N kc ks nc : Nat} {xs : Nat → Int32} {i : Int32} {I : am_I} {J : am_J} {Q : am_Q} {E : Nat → am_I} {V : am_V} (hi : l_in i N) (hs : LStp V MX9_when MX10_when 5 3 0 0 [.int (xs (i + 1).toNatClampNeg), .int (xs (i + 2).toNatClampNeg), .int (xs (i + 3).toNatClampNeg)]) (hV : V nc I J Q E) (hf : kc + 8 ≤ 600000 ∧ ks + 975 ≤ 7302250) (kk : ∀ (I2 : am_I) (J2 : am_J) (Q2 : am_Q) (E2 : Nat → am_I), V nc I2 J2 Q2 E2 → GL b N xs (kc + 0) (ks + 0) 1236 (am_LL i) [] nc I2 J2 Q2 E2) : GL b N xs kc ks 1170 (am_LL i) [] nc I J Q E := by
  obtain ⟨j, x, I1, J1, Q1, hj, hc1, hQ1, j2, I2, J2, hj2, hc2, hV2⟩ := hs nc I J Q E hV
  refine gl_aload_n (q := 1171) rfl rfl rfl ?_
  refine gl_aload_n (q := 1172) rfl rfl rfl ?_
  refine gl_iload_n (q := 1173) rfl rfl rfl ?_
  refine gl_iconst (v := 1) (q := 1174) rfl rfl rfl ?_
  refine gl_iadd (q := 1175) rfl rfl ?_
  refine gl_sld (q := 1176) rfl rfl hi.1 ?_
  refine gl_aload_n (q := 1177) rfl rfl rfl ?_
  refine gl_iload_n (q := 1178) rfl rfl rfl ?_
  refine gl_iconst (v := 2) (q := 1179) rfl rfl rfl ?_
  refine gl_iadd (q := 1180) rfl rfl ?_
  refine gl_sld (q := 1181) rfl rfl hi.2.1 ?_
  refine gl_aload_n (q := 1182) rfl rfl rfl ?_
  refine gl_iload_n (q := 1183) rfl rfl rfl ?_
  refine gl_iconst (v := 3) (q := 1184) rfl rfl rfl ?_
  refine gl_iadd (q := 1185) rfl rfl ?_
  refine gl_sld (q := 1186) rfl rfl hi.2.2.1 ?_
  refine gl_call (As := [.int (xs (i + 1).toNatClampNeg), .int (xs (i + 2).toNatClampNeg), .int (xs (i + 3).toNatClampNeg)]) (rest := []) (q := 1189) rfl rfl lk11_126 myX9_when vxX9_when hj hc1 hQ1 rfl (Nat.le_of_ble_eq_true rfl) (by decide) rfl rfl (Nat.le_of_ble_eq_true rfl) rfl (Nat.le_of_ble_eq_true rfl) rfl ⟨(Nat.le_of_ble_eq_true rfl), (Nat.le_of_ble_eq_true rfl)⟩ ⟨by omega, by omega⟩ ?_
  refine gl_aload_n (q := 1190) rfl rfl rfl ?_
  refine gl_aload_n (q := 1191) rfl rfl rfl ?_
  refine gl_iload_n (q := 1192) rfl rfl rfl ?_
  refine gl_iconst (v := 1) (q := 1193) rfl rfl rfl ?_
  refine gl_iadd (q := 1194) rfl rfl ?_
  refine gl_sld (q := 1195) rfl rfl hi.1 ?_
  refine gl_aload_n (q := 1196) rfl rfl rfl ?_
  refine gl_iload_n (q := 1197) rfl rfl rfl ?_
  refine gl_iconst (v := 2) (q := 1198) rfl rfl rfl ?_
  refine gl_iadd (q := 1199) rfl rfl ?_
  refine gl_sld (q := 1200) rfl rfl hi.2.1 ?_
  refine gl_aload_n (q := 1201) rfl rfl rfl ?_
  refine gl_iload_n (q := 1202) rfl rfl rfl ?_
  refine gl_iconst (v := 3) (q := 1203) rfl rfl rfl ?_
  refine gl_iadd (q := 1204) rfl rfl ?_
  refine gl_sld (q := 1205) rfl rfl hi.2.2.1 ?_
  refine gl_call (As := [.int (xs (i + 1).toNatClampNeg), .int (xs (i + 2).toNatClampNeg), .int (xs (i + 3).toNatClampNeg)]) (rest := [.int x]) (q := 1208) rfl rfl lk11_129 myX10_when vxX10_when hj2 hc2 hQ1 rfl (Nat.le_of_ble_eq_true rfl) (by decide) rfl rfl (Nat.le_of_ble_eq_true rfl) rfl (Nat.le_of_ble_eq_true rfl) rfl ⟨(Nat.le_of_ble_eq_true rfl), (Nat.le_of_ble_eq_true rfl)⟩ ⟨by omega, by omega⟩ ?_
  exact gl_icmp_eq (q := 1211) (r := 1236) rfl rfl rfl (fun _ => kk I2 J2 Q1 _ hV2) (fun c => absurd rfl c)
set_option maxRecDepth 100000 in
set_option maxHeartbeats 4000000 in
theorem lc_27 {b N kc ks nc : Nat} {xs : Nat → Int32} {i : Int32} {I : am_I} {J : am_J} {Q : am_Q} {E : Nat → am_I} {V : am_V} (hi : l_in i N) (hs : LStp V MX9_count MX10_count 0 0 0 0 [.int (xs (i + 1).toNatClampNeg)]) (hV : V nc I J Q E) (hf : kc + 8 ≤ 600000 ∧ ks + 975 ≤ 7302250) (kk : ∀ (I2 : am_I) (J2 : am_J) (Q2 : am_Q) (E2 : Nat → am_I), V nc I2 J2 Q2 E2 → GL b N xs (kc + 0) (ks + 0) 1236 (am_LL i) [] nc I2 J2 Q2 E2) : GL b N xs kc ks 1213 (am_LL i) [] nc I J Q E := by
  obtain ⟨j, x, I1, J1, Q1, hj, hc1, hQ1, j2, I2, J2, hj2, hc2, hV2⟩ := hs nc I J Q E hV
  refine gl_aload_n (q := 1214) rfl rfl rfl ?_
  refine gl_aload_n (q := 1215) rfl rfl rfl ?_
  refine gl_iload_n (q := 1216) rfl rfl rfl ?_
  refine gl_iconst (v := 1) (q := 1217) rfl rfl rfl ?_
  refine gl_iadd (q := 1218) rfl rfl ?_
  refine gl_sld (q := 1219) rfl rfl hi.1 ?_
  refine gl_call (As := [.int (xs (i + 1).toNatClampNeg)]) (rest := []) (q := 1222) rfl rfl lk11_130 myX9_count vxX9_count hj hc1 hQ1 rfl (Nat.le_of_ble_eq_true rfl) (by decide) rfl rfl (Nat.le_of_ble_eq_true rfl) rfl (Nat.le_of_ble_eq_true rfl) rfl ⟨(Nat.le_of_ble_eq_true rfl), (Nat.le_of_ble_eq_true rfl)⟩ ⟨by omega, by omega⟩ ?_
  refine gl_aload_n (q := 1223) rfl rfl rfl ?_
  refine gl_aload_n (q := 1224) rfl rfl rfl ?_
  refine gl_iload_n (q := 1225) rfl rfl rfl ?_
  refine gl_iconst (v := 1) (q := 1226) rfl rfl rfl ?_
  refine gl_iadd (q := 1227) rfl rfl ?_
  refine gl_sld (q := 1228) rfl rfl hi.1 ?_
  refine gl_call (As := [.int (xs (i + 1).toNatClampNeg)]) (rest := [.int x]) (q := 1231) rfl rfl lk11_133 myX10_count vxX10_count hj2 hc2 hQ1 rfl (Nat.le_of_ble_eq_true rfl) (by decide) rfl rfl (Nat.le_of_ble_eq_true rfl) rfl (Nat.le_of_ble_eq_true rfl) rfl ⟨(Nat.le_of_ble_eq_true rfl), (Nat.le_of_ble_eq_true rfl)⟩ ⟨by omega, by omega⟩ ?_
  exact gl_icmp_eq (q := 1234) (r := 1236) rfl rfl rfl (fun _ => kk I2 J2 Q1 _ hV2) (fun c => absurd rfl c)
/-- a person that is new -/
def LPer (V : am_V) (a1 a2 a3 a4 : Int32) : Prop := ∀ (nc : Nat) (I : am_I) (J : am_J) (Q : am_Q) (E : Nat → am_I), V nc I J Q E → (¬ s_X9_isBelow a1 4 = 0 ∧ ¬ s_X9_isBelow a2 4 = 0 ∧ ¬ s_X9_isBelow a3 4 = 0 ∧ ¬ s_X9_isBelow a4 4 = 0 ∧ I 9 3 < 12) → ∃ j : Nat, j < nc ∧ Gr (lQ j Q) ∧ nc < 100 ∧ (∀ k f r, Q k f = some r → lv_l nc r) ∧ vp_in ((I 9 3) * 4) 48 ∧ vp_in (((I 9 3) * 4) + 1) 48 ∧ vp_in (((I 9 3) * 4) + 2) 48 ∧ vp_in (((I 9 3) * 4) + 3) 48 ∧ vp_in (I 9 3) 12 ∧ ∃ (j2 : Nat) (I2 : am_I) (J2 : am_J) (Q1 : am_Q) (E1 : Nat → am_I), Q1 = am_w Q 12 (I 9 3).toNatClampNeg (some (1000 + 8 * nc)) ∧ E1 = (fun j' i => if j' = nc then fun _ => 0 else E j' i) ∧ j2 < nc + 1 ∧ (∀ k f r, Q1 k f = some r → lv_l (nc + 1) r) ∧ Cm MX10_person 1 0 0 92 [.ref 46, .int a1, .int a2, .int a3, .int a4] (lI j2 (lp_I I a1 a2 a3 a4) E1) J (lQ j2 Q1) (some (.int (I 9 3 + 1 - 1)), 92, I2, J2, lQ j2 Q1) ∧ V (nc + 1) I2 J2 Q1 (le_1 j2 I2 E1)
set_option maxRecDepth 100000 in
set_option maxHeartbeats 4000000 in
theorem lc_new {b N kc ks nc : Nat} {xs : Nat → Int32} {i : Int32} {I : am_I} {J : am_J} {Q : am_Q} {E : Nat → am_I} {V : am_V} (hi : l_in i N) (hs : LPer V (xs (i + 1).toNatClampNeg) (xs (i + 2).toNatClampNeg) (xs (i + 3).toNatClampNeg) (xs (i + 4).toNatClampNeg)) (hV : V nc I J Q E) (hc : ¬ s_X9_isBelow (xs (i + 1).toNatClampNeg) 4 = 0 ∧ ¬ s_X9_isBelow (xs (i + 2).toNatClampNeg) 4 = 0 ∧ ¬ s_X9_isBelow (xs (i + 3).toNatClampNeg) 4 = 0 ∧ ¬ s_X9_isBelow (xs (i + 4).toNatClampNeg) 4 = 0 ∧ I 9 3 < 12) (hf : kc + 8 ≤ 600000 ∧ ks + 975 ≤ 7302250) (kk : ∀ (I2 : am_I) (J2 : am_J) (Q2 : am_Q) (E2 : Nat → am_I), V (nc + 1) I2 J2 Q2 E2 → GL b N xs (kc + 8) (ks + 975) 1236 (am_LL i) [] (nc + 1) I2 J2 Q2 E2) : GL b N xs kc ks 282 (am_LL i) [] nc I J Q E := by
  obtain ⟨j, hj, hG, hnc, hQ, g0, g1, g2, g3, g4, j2, I2, J2, Q1, E1, eQ, eE, hj2, hQ1, hc2, hV2⟩ := hs nc I J Q E hV hc
  obtain ⟨c1, c2, c3, c4, c5⟩ := hc
  refine gl_aload_n (q := 283) rfl rfl rfl ?_
  refine gl_aload_n (q := 284) rfl rfl rfl ?_
  refine gl_iload_n (q := 285) rfl rfl rfl ?_
  refine gl_iconst (v := 1) (q := 286) rfl rfl rfl ?_
  refine gl_iadd (q := 287) rfl rfl ?_
  refine gl_sld (q := 288) rfl rfl hi.1 ?_
  refine gl_aload_n (q := 289) rfl rfl rfl ?_
  refine gl_iload_n (q := 290) rfl rfl rfl ?_
  refine gl_iconst (v := 2) (q := 291) rfl rfl rfl ?_
  refine gl_iadd (q := 292) rfl rfl ?_
  refine gl_sld (q := 293) rfl rfl hi.2.1 ?_
  refine gl_aload_n (q := 294) rfl rfl rfl ?_
  refine gl_iload_n (q := 295) rfl rfl rfl ?_
  refine gl_iconst (v := 3) (q := 296) rfl rfl rfl ?_
  refine gl_iadd (q := 297) rfl rfl ?_
  refine gl_sld (q := 298) rfl rfl hi.2.2.1 ?_
  refine gl_aload_n (q := 299) rfl rfl rfl ?_
  refine gl_iload_n (q := 300) rfl rfl rfl ?_
  refine gl_iconst (v := 4) (q := 301) rfl rfl rfl ?_
  refine gl_iadd (q := 302) rfl rfl ?_
  refine gl_sld (q := 303) rfl rfl hi.2.2.2.1 ?_
  refine gl_person (xs (i + 1).toNatClampNeg) (xs (i + 2).toNatClampNeg) (xs (i + 3).toNatClampNeg) (xs (i + 4).toNatClampNeg) (rest := []) (q := 306) rfl rfl lk11_32 hj hG rfl (Nat.le_of_ble_eq_true rfl) hf hnc rfl rfl hQ c1 c2 c3 c4 c5 g0 g1 g2 g3 g4 ?_
  rw [← eQ, ← eE]
  refine gl_aload_n (q := 307) rfl rfl rfl ?_
  refine gl_aload_n (q := 308) rfl rfl rfl ?_
  refine gl_iload_n (q := 309) rfl rfl rfl ?_
  refine gl_iconst (v := 1) (q := 310) rfl rfl rfl ?_
  refine gl_iadd (q := 311) rfl rfl ?_
  refine gl_sld (q := 312) rfl rfl hi.1 ?_
  refine gl_aload_n (q := 313) rfl rfl rfl ?_
  refine gl_iload_n (q := 314) rfl rfl rfl ?_
  refine gl_iconst (v := 2) (q := 315) rfl rfl rfl ?_
  refine gl_iadd (q := 316) rfl rfl ?_
  refine gl_sld (q := 317) rfl rfl hi.2.1 ?_
  refine gl_aload_n (q := 318) rfl rfl rfl ?_
  refine gl_iload_n (q := 319) rfl rfl rfl ?_
  refine gl_iconst (v := 3) (q := 320) rfl rfl rfl ?_
  refine gl_iadd (q := 321) rfl rfl ?_
  refine gl_sld (q := 322) rfl rfl hi.2.2.1 ?_
  refine gl_aload_n (q := 323) rfl rfl rfl ?_
  refine gl_iload_n (q := 324) rfl rfl rfl ?_
  refine gl_iconst (v := 4) (q := 325) rfl rfl rfl ?_
  refine gl_iadd (q := 326) rfl rfl ?_
  refine gl_sld (q := 327) rfl rfl hi.2.2.2.1 ?_
  refine gl_call (As := [.int (xs (i + 1).toNatClampNeg), .int (xs (i + 2).toNatClampNeg), .int (xs (i + 3).toNatClampNeg), .int (xs (i + 4).toNatClampNeg)]) (rest := [.int (I 9 3 + 1 - 1)]) (q := 330) rfl rfl lk11_36 myX10_person vxX10_person hj2 hc2 hQ1 rfl (Nat.le_of_ble_eq_true rfl) (by decide) rfl rfl (Nat.le_of_ble_eq_true rfl) rfl (Nat.le_of_ble_eq_true rfl) rfl ⟨(Nat.le_of_ble_eq_true rfl), (Nat.le_of_ble_eq_true rfl)⟩ ⟨hf.1, hf.2⟩ ?_
  exact gl_icmp_eq (q := 333) (r := 1236) rfl rfl rfl (fun _ => kk I2 J2 Q1 _ hV2) (fun c => absurd rfl c)
/-- all steps of an invariant -/
def l_all (V : am_V) : Prop := ∀ (xs : Nat → Int32) (i : Int32), LStp V MX9_feed MX10_feed 2 1 0 0 [.int (xs (i + 1).toNatClampNeg), .int (xs (i + 2).toNatClampNeg), .int (xs (i + 3).toNatClampNeg), .int (xs (i + 4).toNatClampNeg), .int (xs (i + 5).toNatClampNeg)] ∧ LStp V MX9_back MX10_back 1 0 0 0 [.int (xs (i + 1).toNatClampNeg)] ∧ LStp V MX9_read MX10_read 9 5 0 0 [.int (xs (i + 1).toNatClampNeg)] ∧ LStp V MX9_place MX10_place 0 0 0 0 [] ∧ ((¬ (¬ s_X9_isBelow (xs (i + 1).toNatClampNeg) 4 = 0 ∧ ¬ s_X9_isBelow (xs (i + 2).toNatClampNeg) 4 = 0 ∧ ¬ s_X9_isBelow (xs (i + 3).toNatClampNeg) 4 = 0 ∧ ¬ s_X9_isBelow (xs (i + 4).toNatClampNeg) 4 = 0) → LStp V MX9_person MX10_person 3 1 8 975 [.int (xs (i + 1).toNatClampNeg), .int (xs (i + 2).toNatClampNeg), .int (xs (i + 3).toNatClampNeg), .int (xs (i + 4).toNatClampNeg)]) ∧ LStp (fun nc I J Q E => V nc I J Q E ∧ ¬ I 9 3 < 12) MX9_person MX10_person 3 1 8 975 [.int (xs (i + 1).toNatClampNeg), .int (xs (i + 2).toNatClampNeg), .int (xs (i + 3).toNatClampNeg), .int (xs (i + 4).toNatClampNeg)] ∧ LPer V (xs (i + 1).toNatClampNeg) (xs (i + 2).toNatClampNeg) (xs (i + 3).toNatClampNeg) (xs (i + 4).toNatClampNeg)) ∧ LStp V MX9_topic MX10_topic 4 0 0 0 [.int (xs (i + 1).toNatClampNeg)] ∧ LStp V MX9_tape MX10_tape 2 1 0 0 [.int (xs (i + 1).toNatClampNeg), .int (xs (i + 2).toNatClampNeg), .int (xs (i + 3).toNatClampNeg)] ∧ LStp V MX9_piece MX10_piece 2 0 0 0 [.int (xs (i + 1).toNatClampNeg), .int (xs (i + 2).toNatClampNeg), .int (xs (i + 3).toNatClampNeg), .int (xs (i + 4).toNatClampNeg), .int (xs (i + 5).toNatClampNeg), .int (xs (i + 6).toNatClampNeg)] ∧ LStp V MX9_asker MX10_asker 1 1 0 0 [.int (xs (i + 1).toNatClampNeg)] ∧ LStp V MX9_copy MX10_copy 0 0 0 0 [.int (xs (i + 1).toNatClampNeg)] ∧ LStp V MX9_bound MX10_bound 0 0 0 0 [.int (xs (i + 1).toNatClampNeg)] ∧ LStp V MX9_dies MX10_dies 3 1 0 0 [.int (xs (i + 1).toNatClampNeg), .int (xs (i + 2).toNatClampNeg)] ∧ LStp V MX9_takes MX10_takes 3 1 0 0 [.int (xs (i + 1).toNatClampNeg), .int (xs (i + 2).toNatClampNeg)] ∧ LStp V MX9_let MX10_let 6 4 0 0 [.int (xs (i + 1).toNatClampNeg), .int (xs (i + 2).toNatClampNeg), .int (xs (i + 3).toNatClampNeg), .int (xs (i + 4).toNatClampNeg)] ∧ LStp V MX9_mask MX10_mask 6 4 0 0 [.int (xs (i + 1).toNatClampNeg), .int (xs (i + 2).toNatClampNeg), .int (xs (i + 3).toNatClampNeg), .int (xs (i + 4).toNatClampNeg)] ∧ LStp V MX9_would MX10_would 7 5 0 0 [.int (xs (i + 1).toNatClampNeg), .int (xs (i + 2).toNatClampNeg), .int (xs (i + 3).toNatClampNeg), .int (xs (i + 4).toNatClampNeg), .int (xs (i + 5).toNatClampNeg)] ∧ LStp V MX9_ask MX10_ask 7 5 0 0 [.int (xs (i + 1).toNatClampNeg), .int (xs (i + 2).toNatClampNeg), .int (xs (i + 3).toNatClampNeg), .int (xs (i + 4).toNatClampNeg), .int (xs (i + 5).toNatClampNeg)] ∧ LStp V MX9_heard MX10_heard 3 1 0 0 [.int (xs (i + 1).toNatClampNeg), .int (xs (i + 2).toNatClampNeg)] ∧ LStp V MX9_could MX10_could 4 1 0 0 [.int (xs (i + 1).toNatClampNeg), .int (xs (i + 2).toNatClampNeg)] ∧ LStp V MX9_seconds MX10_seconds 3 1 0 0 [.int (xs (i + 1).toNatClampNeg), .int (xs (i + 2).toNatClampNeg)] ∧ LStp V MX9_opens MX10_opens 6 4 0 0 [.int (xs (i + 1).toNatClampNeg), .int (xs (i + 2).toNatClampNeg), .int (xs (i + 3).toNatClampNeg), .int (xs (i + 4).toNatClampNeg)] ∧ LStp V MX9_at MX10_at_ 1 0 0 0 [.int (xs (i + 1).toNatClampNeg), .int (xs (i + 2).toNatClampNeg)] ∧ LStp V MX9_span MX10_span 6 1 0 0 [.int (xs (i + 1).toNatClampNeg), .int (xs (i + 2).toNatClampNeg), .int (xs (i + 3).toNatClampNeg)] ∧ LStp V MX9_behind MX10_behind 6 1 0 0 [.int (xs (i + 1).toNatClampNeg), .int (xs (i + 2).toNatClampNeg), .int (xs (i + 3).toNatClampNeg)] ∧ LStp V MX9_same MX10_same 6 1 0 0 [.int (xs (i + 1).toNatClampNeg), .int (xs (i + 2).toNatClampNeg)] ∧ LStp V MX9_left MX10_left 1 3 0 0 [.int (xs (i + 1).toNatClampNeg)] ∧ LStp V MX9_when MX10_when 5 3 0 0 [.int (xs (i + 1).toNatClampNeg), .int (xs (i + 2).toNatClampNeg), .int (xs (i + 3).toNatClampNeg)] ∧ LStp V MX9_count MX10_count 0 0 0 0 [.int (xs (i + 1).toNatClampNeg)]
theorem l_nI {N ii : Nat} (hN : N ≤ 3584) (h : ii + 7 ≤ N) : l_in (nI ii) N := by
  have key : ∀ k : Nat, k < 7 → 0 < k → vp_in (nI ii + nI k) N := fun k h1 h2 => by
    rw [nI_add]
    exact vp_in_nI (by omega) (by omega)
  exact ⟨key 1 (by omega) (by omega), key 2 (by omega) (by omega), key 3 (by omega) (by omega), key 4 (by omega) (by omega), key 5 (by omega) (by omega), key 6 (by omega) (by omega)⟩
set_option maxRecDepth 100000 in
set_option maxHeartbeats 4000000 in
theorem l_loop {b N : Nat} {xs : Nat → Int32} {V : am_V} (hN : N ≤ 3584) (hA : l_all V) : ∀ (n ii t kc ks nc : Nat) (I : am_I) (J : am_J) (Q : am_Q) (E : Nat → am_I), N < ii + 7 * n → ii = 7 * t → ii ≤ N → kc ≤ 92 + 8 * t → ks ≤ 59825 + 975 * t → V nc I J Q E → GL b N xs kc ks 18 (am_LL (nI ii)) [] nc I J Q E := by
  intro n
  induction n with
  | zero => intros; omega
  | succ n ih =>
    intro ii t kc ks nc I J Q E hn ht hle hkc hks hV
    have hbk : ∀ (kc2 ks2 nc2 : Nat) (I2 : am_I) (J2 : am_J) (Q2 : am_Q) (E2 : Nat → am_I), ii + 7 ≤ N → kc2 ≤ kc + 8 → ks2 ≤ ks + 975 → V nc2 I2 J2 Q2 E2 → GL b N xs kc2 ks2 1236 (am_LL (nI ii)) [] nc2 I2 J2 Q2 E2 := by
      intro kc2 ks2 nc2 I2 J2 Q2 E2 h7 h1 h2 hV2
      refine gl_iinc (v := nI (ii + 7)) (q := 1239) rfl rfl rfl (nI_add ii 7) (Nat.le_of_ble_eq_true rfl) rfl ?_
      refine gl_goto (q := 18) rfl rfl ?_
      exact ih (ii + 7) (t + 1) kc2 ks2 nc2 I2 J2 Q2 E2 (by omega) (by omega) h7 (by omega) (by omega) hV2
    refine gl_iload_n (q := 19) rfl rfl rfl ?_
    refine gl_aload_n (q := 20) rfl rfl rfl ?_
    refine gl_slen (v := nI N) (q := 21) rfl rfl rfl ?_
    refine gl_bipush (v := 7) (q := 23) rfl rfl rfl ?_
    refine gl_isub (q := 24) rfl rfl ?_
    have hcmp : (nI N - 7 < nI ii) ↔ N < ii + 7 := by
      have e : (nI N - nI 7).toInt = (N : Int) - 7 := pk_sub_toInt (by omega) (by omega)
      rw [show (nI N - 7 : Int32) = nI N - nI 7 from rfl, Int32.lt_iff_toInt_lt, e, nI_toInt (by omega)]
      omega
    refine gl_icmp_gt (q := 27) (r := 1242) rfl rfl rfl (fun _ => ?_) (fun hc => ?_)
    · refine gl_iconst (v := 1) (q := 1243) rfl rfl rfl ?_
      exact gl_ret1 (q := 0) (st := []) rfl (by omega) (by omega)
    · have h7 : ii + 7 ≤ N := by
        rcases Nat.lt_or_ge N (ii + 7) with q | q
        · exact absurd (hcmp.mpr q) hc
        · exact q
      have hi := l_nI hN h7
      have hf : kc + 8 ≤ 600000 ∧ ks + 975 ≤ 7302250 := by omega
      refine gl_aload_n (q := 28) rfl rfl rfl ?_
      refine gl_iload_n (q := 29) rfl rfl rfl ?_
      refine gl_sld (q := 30) rfl rfl (vp_in_nI (by omega) (by omega)) ?_
      refine gl_bipush (v := 31) (q := 32) rfl rfl rfl ?_
      refine gl_iand (q := 33) rfl rfl ?_
      generalize xs (nI ii).toNatClampNeg &&& 31 = x
      have hall := hA xs (nI ii)
      by_cases c0 : x = 0
      · refine gl_tsIn (q := 160) rfl (by rw [c0]; decide) (by rw [c0]; decide) (by first | (rw [c0]; done) | (rw [c0]; rfl)) rfl ?_
        exact lc_0 hi hall.1 hV hf (fun I2 J2 Q2 E2 h => hbk _ _ _ I2 J2 Q2 E2 h7 (by omega) (by omega) h)
      by_cases c1 : x = 1
      · refine gl_tsIn (q := 223) rfl (by rw [c1]; decide) (by rw [c1]; decide) (by first | (rw [c1]; done) | (rw [c1]; rfl)) rfl ?_
        exact lc_1 hi hall.2.1 hV hf (fun I2 J2 Q2 E2 h => hbk _ _ _ I2 J2 Q2 E2 h7 (by omega) (by omega) h)
      by_cases c2 : x = 2
      · refine gl_tsIn (q := 246) rfl (by rw [c2]; decide) (by rw [c2]; decide) (by first | (rw [c2]; done) | (rw [c2]; rfl)) rfl ?_
        exact lc_2 hi hall.2.2.1 hV hf (fun I2 J2 Q2 E2 h => hbk _ _ _ I2 J2 Q2 E2 h7 (by omega) (by omega) h)
      by_cases c3 : x = 3
      · refine gl_tsIn (q := 269) rfl (by rw [c3]; decide) (by rw [c3]; decide) (by first | (rw [c3]; done) | (rw [c3]; rfl)) rfl ?_
        exact lc_3 hi hall.2.2.2.1 hV hf (fun I2 J2 Q2 E2 h => hbk _ _ _ I2 J2 Q2 E2 h7 (by omega) (by omega) h)
      by_cases c4 : x = 4
      · refine gl_tsIn (q := 282) rfl (by rw [c4]; decide) (by rw [c4]; decide) (by first | (rw [c4]; done) | (rw [c4]; rfl)) rfl ?_
        by_cases hp : ¬ s_X9_isBelow (xs (nI ii + 1).toNatClampNeg) 4 = 0 ∧ ¬ s_X9_isBelow (xs (nI ii + 2).toNatClampNeg) 4 = 0 ∧ ¬ s_X9_isBelow (xs (nI ii + 3).toNatClampNeg) 4 = 0 ∧ ¬ s_X9_isBelow (xs (nI ii + 4).toNatClampNeg) 4 = 0
        · by_cases h12 : I 9 3 < 12
          · exact lc_new hi hall.2.2.2.2.1.2.2 hV ⟨hp.1, hp.2.1, hp.2.2.1, hp.2.2.2, h12⟩ hf (fun I2 J2 Q2 E2 h => hbk _ _ _ I2 J2 Q2 E2 h7 (by omega) (by omega) h)
          · exact lc_4 hi hall.2.2.2.2.1.2.1 ⟨hV, h12⟩ hf (fun I2 J2 Q2 E2 h => hbk _ _ _ I2 J2 Q2 E2 h7 (by omega) (by omega) h.1)
        · exact lc_4 hi (hall.2.2.2.2.1.1 hp) hV hf (fun I2 J2 Q2 E2 h => hbk _ _ _ I2 J2 Q2 E2 h7 (by omega) (by omega) h)
      by_cases c5 : x = 5
      · refine gl_tsIn (q := 335) rfl (by rw [c5]; decide) (by rw [c5]; decide) (by first | (rw [c5]; done) | (rw [c5]; rfl)) rfl ?_
        exact lc_5 hi hall.2.2.2.2.2.1 hV hf (fun I2 J2 Q2 E2 h => hbk _ _ _ I2 J2 Q2 E2 h7 (by omega) (by omega) h)
      by_cases c6 : x = 6
      · refine gl_tsIn (q := 358) rfl (by rw [c6]; decide) (by rw [c6]; decide) (by first | (rw [c6]; done) | (rw [c6]; rfl)) rfl ?_
        exact lc_6 hi hall.2.2.2.2.2.2.1 hV hf (fun I2 J2 Q2 E2 h => hbk _ _ _ I2 J2 Q2 E2 h7 (by omega) (by omega) h)
      by_cases c7 : x = 7
      · refine gl_tsIn (q := 401) rfl (by rw [c7]; decide) (by rw [c7]; decide) (by first | (rw [c7]; done) | (rw [c7]; rfl)) rfl ?_
        exact lc_7 hi hall.2.2.2.2.2.2.2.1 hV hf (fun I2 J2 Q2 E2 h => hbk _ _ _ I2 J2 Q2 E2 h7 (by omega) (by omega) h)
      by_cases c8 : x = 8
      · refine gl_tsIn (q := 476) rfl (by rw [c8]; decide) (by rw [c8]; decide) (by first | (rw [c8]; done) | (rw [c8]; rfl)) rfl ?_
        exact lc_8 hi hall.2.2.2.2.2.2.2.2.1 hV hf (fun I2 J2 Q2 E2 h => hbk _ _ _ I2 J2 Q2 E2 h7 (by omega) (by omega) h)
      by_cases c9 : x = 9
      · refine gl_tsIn (q := 499) rfl (by rw [c9]; decide) (by rw [c9]; decide) (by first | (rw [c9]; done) | (rw [c9]; rfl)) rfl ?_
        exact lc_9 hi hall.2.2.2.2.2.2.2.2.2.1 hV hf (fun I2 J2 Q2 E2 h => hbk _ _ _ I2 J2 Q2 E2 h7 (by omega) (by omega) h)
      by_cases c10 : x = 10
      · refine gl_tsIn (q := 522) rfl (by rw [c10]; decide) (by rw [c10]; decide) (by first | (rw [c10]; done) | (rw [c10]; rfl)) rfl ?_
        exact lc_10 hi hall.2.2.2.2.2.2.2.2.2.2.1 hV hf (fun I2 J2 Q2 E2 h => hbk _ _ _ I2 J2 Q2 E2 h7 (by omega) (by omega) h)
      by_cases c11 : x = 11
      · refine gl_tsIn (q := 545) rfl (by rw [c11]; decide) (by rw [c11]; decide) (by first | (rw [c11]; done) | (rw [c11]; rfl)) rfl ?_
        exact lc_11 hi hall.2.2.2.2.2.2.2.2.2.2.2.1 hV hf (fun I2 J2 Q2 E2 h => hbk _ _ _ I2 J2 Q2 E2 h7 (by omega) (by omega) h)
      by_cases c12 : x = 12
      · refine gl_tsIn (q := 578) rfl (by rw [c12]; decide) (by rw [c12]; decide) (by first | (rw [c12]; done) | (rw [c12]; rfl)) rfl ?_
        exact lc_12 hi hall.2.2.2.2.2.2.2.2.2.2.2.2.1 hV hf (fun I2 J2 Q2 E2 h => hbk _ _ _ I2 J2 Q2 E2 h7 (by omega) (by omega) h)
      by_cases c13 : x = 13
      · refine gl_tsIn (q := 611) rfl (by rw [c13]; decide) (by rw [c13]; decide) (by first | (rw [c13]; done) | (rw [c13]; rfl)) rfl ?_
        exact lc_13 hi hall.2.2.2.2.2.2.2.2.2.2.2.2.2.1 hV hf (fun I2 J2 Q2 E2 h => hbk _ _ _ I2 J2 Q2 E2 h7 (by omega) (by omega) h)
      by_cases c14 : x = 14
      · refine gl_tsIn (q := 664) rfl (by rw [c14]; decide) (by rw [c14]; decide) (by first | (rw [c14]; done) | (rw [c14]; rfl)) rfl ?_
        exact lc_14 hi hall.2.2.2.2.2.2.2.2.2.2.2.2.2.2.1 hV hf (fun I2 J2 Q2 E2 h => hbk _ _ _ I2 J2 Q2 E2 h7 (by omega) (by omega) h)
      by_cases c15 : x = 15
      · refine gl_tsIn (q := 717) rfl (by rw [c15]; decide) (by rw [c15]; decide) (by first | (rw [c15]; done) | (rw [c15]; rfl)) rfl ?_
        exact lc_15 hi hall.2.2.2.2.2.2.2.2.2.2.2.2.2.2.2.1 hV hf (fun I2 J2 Q2 E2 h => hbk _ _ _ I2 J2 Q2 E2 h7 (by omega) (by omega) h)
      by_cases c16 : x = 16
      · refine gl_tsIn (q := 780) rfl (by rw [c16]; decide) (by rw [c16]; decide) (by first | (rw [c16]; done) | (rw [c16]; rfl)) rfl ?_
        exact lc_16 hi hall.2.2.2.2.2.2.2.2.2.2.2.2.2.2.2.2.1 hV hf (fun I2 J2 Q2 E2 h => hbk _ _ _ I2 J2 Q2 E2 h7 (by omega) (by omega) h)
      by_cases c17 : x = 17
      · refine gl_tsIn (q := 843) rfl (by rw [c17]; decide) (by rw [c17]; decide) (by first | (rw [c17]; done) | (rw [c17]; rfl)) rfl ?_
        exact lc_17 hi hall.2.2.2.2.2.2.2.2.2.2.2.2.2.2.2.2.2.1 hV hf (fun I2 J2 Q2 E2 h => hbk _ _ _ I2 J2 Q2 E2 h7 (by omega) (by omega) h)
      by_cases c18 : x = 18
      · refine gl_tsIn (q := 876) rfl (by rw [c18]; decide) (by rw [c18]; decide) (by first | (rw [c18]; done) | (rw [c18]; rfl)) rfl ?_
        exact lc_18 hi hall.2.2.2.2.2.2.2.2.2.2.2.2.2.2.2.2.2.2.1 hV hf (fun I2 J2 Q2 E2 h => hbk _ _ _ I2 J2 Q2 E2 h7 (by omega) (by omega) h)
      by_cases c19 : x = 19
      · refine gl_tsIn (q := 909) rfl (by rw [c19]; decide) (by rw [c19]; decide) (by first | (rw [c19]; done) | (rw [c19]; rfl)) rfl ?_
        exact lc_19 hi hall.2.2.2.2.2.2.2.2.2.2.2.2.2.2.2.2.2.2.2.1 hV hf (fun I2 J2 Q2 E2 h => hbk _ _ _ I2 J2 Q2 E2 h7 (by omega) (by omega) h)
      by_cases c20 : x = 20
      · refine gl_tsIn (q := 942) rfl (by rw [c20]; decide) (by rw [c20]; decide) (by first | (rw [c20]; done) | (rw [c20]; rfl)) rfl ?_
        exact lc_20 hi hall.2.2.2.2.2.2.2.2.2.2.2.2.2.2.2.2.2.2.2.2.1 hV hf (fun I2 J2 Q2 E2 h => hbk _ _ _ I2 J2 Q2 E2 h7 (by omega) (by omega) h)
      by_cases c21 : x = 21
      · refine gl_tsIn (q := 995) rfl (by rw [c21]; decide) (by rw [c21]; decide) (by first | (rw [c21]; done) | (rw [c21]; rfl)) rfl ?_
        exact lc_21 hi hall.2.2.2.2.2.2.2.2.2.2.2.2.2.2.2.2.2.2.2.2.2.1 hV hf (fun I2 J2 Q2 E2 h => hbk _ _ _ I2 J2 Q2 E2 h7 (by omega) (by omega) h)
      by_cases c22 : x = 22
      · refine gl_tsIn (q := 1028) rfl (by rw [c22]; decide) (by rw [c22]; decide) (by first | (rw [c22]; done) | (rw [c22]; rfl)) rfl ?_
        exact lc_22 hi hall.2.2.2.2.2.2.2.2.2.2.2.2.2.2.2.2.2.2.2.2.2.2.1 hV hf (fun I2 J2 Q2 E2 h => hbk _ _ _ I2 J2 Q2 E2 h7 (by omega) (by omega) h)
      by_cases c23 : x = 23
      · refine gl_tsIn (q := 1071) rfl (by rw [c23]; decide) (by rw [c23]; decide) (by first | (rw [c23]; done) | (rw [c23]; rfl)) rfl ?_
        exact lc_23 hi hall.2.2.2.2.2.2.2.2.2.2.2.2.2.2.2.2.2.2.2.2.2.2.2.1 hV hf (fun I2 J2 Q2 E2 h => hbk _ _ _ I2 J2 Q2 E2 h7 (by omega) (by omega) h)
      by_cases c24 : x = 24
      · refine gl_tsIn (q := 1114) rfl (by rw [c24]; decide) (by rw [c24]; decide) (by first | (rw [c24]; done) | (rw [c24]; rfl)) rfl ?_
        exact lc_24 hi hall.2.2.2.2.2.2.2.2.2.2.2.2.2.2.2.2.2.2.2.2.2.2.2.2.1 hV hf (fun I2 J2 Q2 E2 h => hbk _ _ _ I2 J2 Q2 E2 h7 (by omega) (by omega) h)
      by_cases c25 : x = 25
      · refine gl_tsIn (q := 1147) rfl (by rw [c25]; decide) (by rw [c25]; decide) (by first | (rw [c25]; done) | (rw [c25]; rfl)) rfl ?_
        exact lc_25 hi hall.2.2.2.2.2.2.2.2.2.2.2.2.2.2.2.2.2.2.2.2.2.2.2.2.2.1 hV hf (fun I2 J2 Q2 E2 h => hbk _ _ _ I2 J2 Q2 E2 h7 (by omega) (by omega) h)
      by_cases c26 : x = 26
      · refine gl_tsIn (q := 1170) rfl (by rw [c26]; decide) (by rw [c26]; decide) (by first | (rw [c26]; done) | (rw [c26]; rfl)) rfl ?_
        exact lc_26 hi hall.2.2.2.2.2.2.2.2.2.2.2.2.2.2.2.2.2.2.2.2.2.2.2.2.2.2.1 hV hf (fun I2 J2 Q2 E2 h => hbk _ _ _ I2 J2 Q2 E2 h7 (by omega) (by omega) h)
      by_cases c27 : x = 27
      · refine gl_tsIn (q := 1213) rfl (by rw [c27]; decide) (by rw [c27]; decide) (by first | (rw [c27]; done) | (rw [c27]; rfl)) rfl ?_
        exact lc_27 hi hall.2.2.2.2.2.2.2.2.2.2.2.2.2.2.2.2.2.2.2.2.2.2.2.2.2.2.2 hV hf (fun I2 J2 Q2 E2 h => hbk _ _ _ I2 J2 Q2 E2 h7 (by omega) (by omega) h)
      have e0 := lv_neT (a := 0) c0 rfl
      have e1 := lv_neT (a := 1) c1 rfl
      have e2 := lv_neT (a := 2) c2 rfl
      have e3 := lv_neT (a := 3) c3 rfl
      have e4 := lv_neT (a := 4) c4 rfl
      have e5 := lv_neT (a := 5) c5 rfl
      have e6 := lv_neT (a := 6) c6 rfl
      have e7 := lv_neT (a := 7) c7 rfl
      have e8 := lv_neT (a := 8) c8 rfl
      have e9 := lv_neT (a := 9) c9 rfl
      have e10 := lv_neT (a := 10) c10 rfl
      have e11 := lv_neT (a := 11) c11 rfl
      have e12 := lv_neT (a := 12) c12 rfl
      have e13 := lv_neT (a := 13) c13 rfl
      have e14 := lv_neT (a := 14) c14 rfl
      have e15 := lv_neT (a := 15) c15 rfl
      have e16 := lv_neT (a := 16) c16 rfl
      have e17 := lv_neT (a := 17) c17 rfl
      have e18 := lv_neT (a := 18) c18 rfl
      have e19 := lv_neT (a := 19) c19 rfl
      have e20 := lv_neT (a := 20) c20 rfl
      have e21 := lv_neT (a := 21) c21 rfl
      have e22 := lv_neT (a := 22) c22 rfl
      have e23 := lv_neT (a := 23) c23 rfl
      have e24 := lv_neT (a := 24) c24 rfl
      have e25 := lv_neT (a := 25) c25 rfl
      have e26 := lv_neT (a := 26) c26 rfl
      have e27 := lv_neT (a := 27) c27 rfl
      refine gl_tsOut (q := 1236) rfl (by omega) rfl ?_
      exact hbk _ _ _ I J Q E h7 (by omega) (by omega) hV
