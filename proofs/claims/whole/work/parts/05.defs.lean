def xJ6_bitCount_0f7a4 (i0 : Int32) (σ : St) (k : Int32 → St → Prop) : Prop :=
  lt (i0 - (((i0.toUInt32 >>> ((1 : Int32).toUInt32 &&& Int32.toUInt32 31)).toInt32) &&& 1431655765)) fun v1 => lt ((v1 &&& 858993459) + (((v1.toUInt32 >>> ((2 : Int32).toUInt32 &&& Int32.toUInt32 31)).toInt32) &&& 858993459)) fun v2 => lt ((v2 + ((v2.toUInt32 >>> ((4 : Int32).toUInt32 &&& Int32.toUInt32 31)).toInt32)) &&& 252645135) fun v3 => lt (v3 + ((v3.toUInt32 >>> ((8 : Int32).toUInt32 &&& Int32.toUInt32 31)).toInt32)) fun v4 => lt (v4 + ((v4.toUInt32 >>> ((16 : Int32).toUInt32 &&& Int32.toUInt32 31)).toInt32)) fun v5 => k (v5 &&& 63) σ
def x0_forgetAll  (σ : St) (k : St → Prop) : Prop :=
  lt (st_up σ 57 3 0) fun σ1 => lt (st_up σ1 57 4 0) fun σ2 => k σ2
def x0_keep (i1 : Int32) (i2 : Int32) (i3 : Int32) (σ : St) (k : St → Prop) : Prop :=
  (vp_in (σ 57 3) (ln 58) ∧ lt (st_up σ 58 (σ 57 3).toNatClampNeg i1) fun σ1 => (vp_in (σ1 57 3) (ln 59) ∧ lt (st_up σ1 59 (σ1 57 3).toNatClampNeg i2) fun σ2 => (vp_in (σ2 57 3) (ln 60) ∧ lt (st_up σ2 60 (σ2 57 3).toNatClampNeg i3) fun σ3 => (¬ (24 : Int32) = 0 ∧ lt (st_up σ3 57 3 (((σ3 57 3) + 1) % 24)) fun σ4 => lt (st_up σ4 57 4 (imin ((σ4 57 4) + 1) 24)) fun σ5 => k σ5))))
def x5_placeAfter_24 (o0 : Nat) (i1 : Int32) (i2 : Int32)  (s0 : Int32) (σ : St) (k : Int32 → St → Prop) : Prop :=
  k s0 σ
def x5_placeAfter (o0 : Nat) (i1 : Int32) (i2 : Int32) (σ : St) (k : Int32 → St → Prop) : Prop :=
  (if (σ o0 8) ≤ 0 then x5_placeAfter_24 o0 i1 i2 0 σ k else (vp_in i1 (ln (o0 + 6)) ∧ (¬ (σ o0 8) = 0 ∧ x5_placeAfter_24 o0 i1 i2 (((σ (o0 + 6) i1.toNatClampNeg) + i2) % (σ o0 8)) σ k)))
def x5_takeBackDay_49 (o0 : Nat) (i1 : Int32) (R2 : Int32 → St → Prop) (i2 : Int32) (σ : St) (k : St → Prop) : Prop :=
  R2 (i2 + 1) σ
def x5_takeBackDay_2 (o0 : Nat) (i1 : Int32)  (k : St → Prop) : Nat → Int32 → St → Prop
  | 0, _, _ => False
  | n + 1, i2, σ => (if (σ o0 9) ≤ i2 then lt (st_up σ o0 12 ((σ o0 12) - 1)) fun σ1 => k σ1 else (if ((i1 >>> (i2 &&& 31)) &&& 1) = 1 then (vp_in i2 (ln (o0 + 8)) ∧ (vp_in i2 (ln (o0 + 8)) ∧ lt (st_up σ (o0 + 8) i2.toNatClampNeg ((σ (o0 + 8) i2.toNatClampNeg) - 1)) fun σ2 => x5_takeBackDay_49 o0 i1 (x5_takeBackDay_2 o0 i1 k n) i2 σ2 k)) else x5_placeAfter o0 i2 ((σ o0 8) - 1) σ (fun r3 σ4 => (vp_in i2 (ln (o0 + 6)) ∧ lt (st_up σ4 (o0 + 6) i2.toNatClampNeg r3) fun σ5 => x5_takeBackDay_49 o0 i1 (x5_takeBackDay_2 o0 i1 k n) i2 σ5 k))))
def x5_takeBackDay (o0 : Nat) (i1 : Int32) (σ : St) (k : St → Prop) : Prop :=
  ∃ n2, x5_takeBackDay_2 o0 i1 k n2 0 σ
def x0_takeBackLatest_119 (o1 : Nat)   (σ : St) (k : St → Prop) : Prop :=
  k σ
def x0_takeBackLatest (o1 : Nat) (σ : St) (k : St → Prop) : Prop :=
  (¬ (24 : Int32) = 0 ∧ lt (st_up σ 57 3 ((((σ 57 3) + 24) - 1) % 24)) fun σ1 => lt (st_up σ1 57 4 (imax ((σ1 57 4) - 1) 0)) fun σ2 => (vp_in (σ2 57 3) (ln 59) ∧ lt (σ2 59 (σ2 57 3).toNatClampNeg) fun v3 => (vp_in (σ2 57 3) (ln 60) ∧ lt (σ2 60 (σ2 57 3).toNatClampNeg) fun v4 => (vp_in (σ2 57 3) (ln 58) ∧ (if (σ2 58 (σ2 57 3).toNatClampNeg) = 0 then (vp_in v3 (ln (o1 + 3)) ∧ lt (st_up σ2 (o1 + 3) v3.toNatClampNeg v4) fun σ5 => x0_takeBackLatest_119 o1 σ5 k) else (if (σ2 58 (σ2 57 3).toNatClampNeg) = 1 then (vp_in v3 (ln (o1 + 4)) ∧ lt (st_up σ2 (o1 + 4) v3.toNatClampNeg v4) fun σ6 => x0_takeBackLatest_119 o1 σ6 k) else (if (σ2 58 (σ2 57 3).toNatClampNeg) = 2 then (vp_in v3 (ln (o1 + 2)) ∧ lt (st_up σ2 (o1 + 2) v3.toNatClampNeg v4) fun σ7 => x0_takeBackLatest_119 o1 σ7 k) else x5_takeBackDay o1 v4 σ2 (fun σ9 => x0_takeBackLatest_119 o1 σ9 k))))))))
def x1_leave_29 (i1 : Int32)   (σ : St) (k : St → Prop) : Prop :=
  k σ
def x1_leave (i1 : Int32) (σ : St) (k : St → Prop) : Prop :=
  (if 16 ≤ (σ 63 1) then x1_leave_29 i1 σ k else (vp_in (σ 63 1) (ln 64) ∧ lt (st_up σ 64 (σ 63 1).toNatClampNeg i1) fun σ1 => lt (st_up σ1 63 1 ((σ1 63 1) + 1)) fun σ2 => x1_leave_29 i1 σ2 k))
def x1_give : Nat → Int32 → Nat → Int32 → Int32 → St → (Int32 → St → Prop) → Prop
  | 0, _, _, _, _, _, _ => False
  | nr + 1, i1, o2, i3, i4, σ, k => (if i4 ≤ 16 then x1_leave i1 σ (fun σ2 => (vp_in i3 (ln (o2 + 5)) ∧ lt (σ2 (o2 + 5) i3.toNatClampNeg) fun v3 => lt (i4 + 1) fun v4 => (if i1 = 10 then (vp_in i3 (ln (o2 + 7)) ∧ k (σ2 (o2 + 7) i3.toNatClampNeg) σ2) else (if i1 = 11 then x1_give nr 10 o2 i3 v4 σ2 (fun r5 σ6 => (vp_in v3 6 ∧ x1_give nr (mkB v3.toNatClampNeg) o2 i3 v4 σ6 (fun r7 σ8 => k (r5 + r7) σ8))) else (if i1 = 12 then x1_give nr 11 o2 i3 v4 σ2 (fun r9 σ10 => k (-r9) σ10) else (if i1 = 13 then x1_give nr 10 o2 i3 v4 σ2 (fun r11 σ12 => k (r11 - 100) σ12) else (if i1 = 14 then x1_give nr 13 o2 i3 v4 σ2 (fun r13 σ14 => k (2 * r13) σ14) else (if i1 = 15 then k 0 σ2 else (if i1 = 16 then k 0 σ2 else (if i1 = 17 then k 0 σ2 else (if i1 = 18 then k 0 σ2 else (if i1 = 19 then k 0 σ2 else (if i1 = 20 then k i3 σ2 else (if i1 = 21 then x1_give nr 20 o2 i3 v4 σ2 (fun r15 σ16 => (vp_in i3 (ln (o2 + 6)) ∧ k (r15 + (σ16 (o2 + 6) i3.toNatClampNeg)) σ16)) else (if i1 = 22 then x1_give nr 21 o2 i3 v4 σ2 (fun r17 σ18 => k (r17 - 1000) σ18) else (if i1 = 23 then x1_give nr 20 o2 i3 v4 σ2 (fun r19 σ20 => (vp_in v3 6 ∧ x1_give nr (szB v3.toNatClampNeg) o2 i3 v4 σ20 (fun r21 σ22 => k (r19 - r21) σ22))) else (if i1 = 24 then x1_give nr 21 o2 i3 v4 σ2 (fun r23 σ24 => k (2 * r23) σ24) else k 0 σ2))))))))))))))))) else k 0 σ)
def x1_answer_33 (o1 : Nat) (i2 : Int32) (i3 : Int32)  (s1 : Int32) (σ : St) (k : Int32 → St → Prop) : Prop :=
  x1_give 8 s1 o1 i2 0 σ (fun r3 σ4 => k r3 σ4)
def x1_answer (o1 : Nat) (i2 : Int32) (i3 : Int32) (σ : St) (k : Int32 → St → Prop) : Prop :=
  lt (st_up σ 63 1 0) fun σ1 => (vp_in i2 (ln (o1 + 5)) ∧ lt (σ1 (o1 + 5) i2.toNatClampNeg) fun v2 => (if i3 = 0 then (vp_in v2 6 ∧ x1_answer_33 o1 i2 i3 (szB v2.toNatClampNeg) σ1 k) else (vp_in v2 6 ∧ x1_answer_33 o1 i2 i3 (mkB v2.toNatClampNeg) σ1 k)))
def x2_costOf (i0 : Int32) (σ : St) (k : Int32 → St → Prop) : Prop :=
  k (((i0 >>> (2 &&& 31)) + ((i0 >>> (1 &&& 31)) &&& 1)) + (i0 &&& 1)) σ
def x5_opening (i0 : Int32) (i1 : Int32) (i2 : Int32) (i3 : Int32) (σ : St) (k : Int32 → St → Prop) : Prop :=
  k (imax 0 (((i0 + i1) + (2 * i3)) - i2)) σ
def x5_staying_74 (i0 : Int32) (i1 : Int32) (i2 : Int32) (i3 : Int32) (i4 : Int32)  (s0 : Int32) (σ : St) (k : Int32 → St → Prop) : Prop :=
  k s0 σ
def x5_staying (i0 : Int32) (i1 : Int32) (i2 : Int32) (i3 : Int32) (i4 : Int32) (σ : St) (k : Int32 → St → Prop) : Prop :=
  lt (i1 + (2 * i3)) fun v1 => lt (imin i1 3) fun v2 => (if i0 = 2 then k (v1 + i2) σ else (if i0 = 3 then k (2 * v1) σ else (if i0 = 4 then k v2 σ else (if i0 = 5 then (if i4 = 1 then x5_staying_74 i0 i1 i2 i3 i4 (imin v2 1) σ k else x5_staying_74 i0 i1 i2 i3 i4 v2 σ k) else k v1 σ))))
def x2_meetersAt_94 (o0 : Nat) (i1 : Int32) (i2 : Int32) (i3 : Int32) (i4 : Int32) (R34 : Int32 → Int32 → Int32 → Int32 → Int32 → St → Prop) (i5 : Int32) (i6 : Int32) (i7 : Int32) (i8 : Int32) (i9 : Int32) (σ : St) (k : Int32 → St → Prop) : Prop :=
  R34 i5 i6 i7 i8 (i9 + 1) σ
def x2_meetersAt_34 (o0 : Nat) (i1 : Int32) (i2 : Int32) (i3 : Int32) (i4 : Int32)  (k : Int32 → St → Prop) : Nat → Int32 → Int32 → Int32 → Int32 → Int32 → St → Prop
  | 0, _, _, _, _, _, _ => False
  | n + 1, i5, i6, i7, i8, i9, σ => (if (σ o0 9) ≤ i9 then k i8 σ else (vp_in i9 (ln (o0 + 5)) ∧ (vp_in i9 (ln (o0 + 7)) ∧ x5_staying (σ (o0 + 5) i9.toNatClampNeg) (σ (o0 + 7) i9.toNatClampNeg) i5 i6 i2 σ (fun r5 σ6 => (if ((i4 >>> (i9 &&& 31)) &&& 1) = 1 then (if r5 < i7 then x2_meetersAt_94 o0 i1 i2 i3 i4 (x2_meetersAt_34 o0 i1 i2 i3 i4 k n) i5 i6 i7 i8 i9 σ6 k else lt (i8 ||| (1 <<< (i9 &&& 31))) fun v7 => x2_meetersAt_94 o0 i1 i2 i3 i4 (x2_meetersAt_34 o0 i1 i2 i3 i4 k n) i5 i6 i7 v7 i9 σ6 k) else x2_meetersAt_94 o0 i1 i2 i3 i4 (x2_meetersAt_34 o0 i1 i2 i3 i4 k n) i5 i6 i7 i8 i9 σ6 k)))))
def x2_meetersAt (o0 : Nat) (i1 : Int32) (i2 : Int32) (i3 : Int32) (i4 : Int32) (σ : St) (k : Int32 → St → Prop) : Prop :=
  lt (i3 >>> (2 &&& 31)) fun v1 => lt ((i3 >>> (1 &&& 31)) &&& 1) fun v2 => (vp_in i1 (ln (o0 + 1)) ∧ x5_opening (σ (o0 + 1) i1.toNatClampNeg) v1 v2 i2 σ (fun r3 σ4 => ∃ n34, x2_meetersAt_34 o0 i1 i2 i3 i4 k n34 v1 v2 r3 0 0 σ4))
def x2_cheapestAt_64 (o0 : Nat) (i1 : Int32) (i2 : Int32) (i3 : Int32) (i4 : Int32) (R6 : Int32 → Int32 → St → Prop) (i5 : Int32) (i6 : Int32) (σ : St) (k : Int32 → St → Prop) : Prop :=
  R6 i5 (i6 + 2) σ
def x2_cheapestAt_37 (o0 : Nat) (i1 : Int32) (i2 : Int32) (i3 : Int32) (i4 : Int32) (R6 : Int32 → Int32 → St → Prop) (i5 : Int32) (i6 : Int32) (s0 : Int32) (σ : St) (k : Int32 → St → Prop) : Prop :=
  (if s0 = 0 then x2_cheapestAt_64 o0 i1 i2 i3 i4 R6 i5 i6 σ k else x2_meetersAt o0 i1 i2 i6 (i3 ||| i4) σ (fun r1 σ2 => (if r1 = i3 then x2_cheapestAt_64 o0 i1 i2 i3 i4 R6 i6 i6 σ2 k else x2_cheapestAt_64 o0 i1 i2 i3 i4 R6 i5 i6 σ2 k)))
def x2_cheapestAt_32 (o0 : Nat) (i1 : Int32) (i2 : Int32) (i3 : Int32) (i4 : Int32) (R6 : Int32 → Int32 → St → Prop) (i5 : Int32) (i6 : Int32) (σ : St) (k : Int32 → St → Prop) : Prop :=
  x2_cheapestAt_37 o0 i1 i2 i3 i4 R6 i5 i6 1 σ k
def x2_cheapestAt_6 (o0 : Nat) (i1 : Int32) (i2 : Int32) (i3 : Int32) (i4 : Int32)  (k : Int32 → St → Prop) : Nat → Int32 → Int32 → St → Prop
  | 0, _, _, _ => False
  | n + 1, i5, i6, σ => (if 22 < i6 then k i5 σ else (if i5 = ((-1)) then x2_cheapestAt_32 o0 i1 i2 i3 i4 (x2_cheapestAt_6 o0 i1 i2 i3 i4 k n) i5 i6 σ k else x2_costOf i6 σ (fun r3 σ4 => x2_costOf i5 σ4 (fun r5 σ6 => (if r5 ≤ r3 then x2_cheapestAt_37 o0 i1 i2 i3 i4 (x2_cheapestAt_6 o0 i1 i2 i3 i4 k n) i5 i6 0 σ6 k else x2_cheapestAt_32 o0 i1 i2 i3 i4 (x2_cheapestAt_6 o0 i1 i2 i3 i4 k n) i5 i6 σ6 k)))))
def x2_cheapestAt (o0 : Nat) (i1 : Int32) (i2 : Int32) (i3 : Int32) (i4 : Int32) (σ : St) (k : Int32 → St → Prop) : Prop :=
  ∃ n6, x2_cheapestAt_6 o0 i1 i2 i3 i4 k n6 ((-1)) 0 σ
def x2_codeAt_51 (i1 : Int32) (i2 : Int32)  (s0 : Int32) (σ : St) (k : Int32 → St → Prop) : Prop :=
  k s0 σ
def x2_codeAt_18 (i1 : Int32) (i2 : Int32)  (s0 : Int32) (σ : St) (k : Int32 → St → Prop) : Prop :=
  (vp_in ((2 * i1) + s0) (ln 62) ∧ lt (σ 62 ((2 * i1) + s0).toNatClampNeg) fun v2 => (if v2 = ((-1)) then x2_codeAt_51 i1 i2 ((-1)) σ k else x2_codeAt_51 i1 i2 (v2 + ((i2 >>> (i1 &&& 31)) &&& 1)) σ k))
def x2_codeAt (i1 : Int32) (i2 : Int32) (σ : St) (k : Int32 → St → Prop) : Prop :=
  lt ((7 <<< (i1 &&& 31)) >>> (1 &&& 31)) fun v1 => (if (i2 &&& v1) = 0 then x2_codeAt_18 i1 i2 0 σ k else x2_codeAt_18 i1 i2 1 σ k)
def x2_totalOf_4 (i1 : Int32)  (k : Int32 → St → Prop) : Nat → Int32 → Int32 → St → Prop
  | 0, _, _, _ => False
  | n + 1, i2, i3, σ => (if (σ 61 1) ≤ i3 then k i2 σ else x2_codeAt i3 i1 σ (fun r1 σ2 => (if r1 = ((-1)) then k ((-1)) σ2 else x2_costOf r1 σ2 (fun r3 σ4 => lt (i2 + r3) fun v5 => x2_totalOf_4 i1 k n v5 (i3 + 1) σ4))))
def x2_totalOf (i1 : Int32) (σ : St) (k : Int32 → St → Prop) : Prop :=
  ∃ n4, x2_totalOf_4 i1 k n4 0 0 σ
def x2_isAhead_45 (i1 : Int32) (i2 : Int32)  (s0 : Int32) (σ : St) (k : Int32 → St → Prop) : Prop :=
  (isB s0 ∧ k s0 σ)
def x2_isAhead_2 (i1 : Int32) (i2 : Int32)  (k : Int32 → St → Prop) : Nat → Int32 → St → Prop
  | 0, _, _ => False
  | n + 1, i3, σ => (if (σ 61 1) ≤ i3 then (isB 0 ∧ k 0 σ) else x2_codeAt i3 i1 σ (fun r1 σ2 => x2_codeAt i3 i2 σ2 (fun r3 σ4 => (if r1 = r3 then x2_isAhead_2 i1 i2 k n (i3 + 1) σ4 else (if r3 ≤ r1 then x2_isAhead_45 i1 i2 0 σ4 k else x2_isAhead_45 i1 i2 1 σ4 k)))))
def x2_isAhead (i1 : Int32) (i2 : Int32) (σ : St) (k : Int32 → St → Prop) : Prop :=
  ∃ n2, x2_isAhead_2 i1 i2 k n2 0 σ
def x2_choose_108   (s0 : Int32) (σ : St) (k : Int32 → St → Prop) : Prop :=
  (isB s0 ∧ k s0 σ)
def x2_choose_89  (R7 : Int32 → St → Prop) (i1 : Int32) (σ : St) (k : Int32 → St → Prop) : Prop :=
  R7 (i1 + 1) σ
def x2_choose_79  (R7 : Int32 → St → Prop) (i1 : Int32) (i2 : Int32) (σ : St) (k : Int32 → St → Prop) : Prop :=
  lt (st_up σ 61 3 i2) fun σ6 => lt (st_up σ6 61 2 i1) fun σ7 => x2_choose_89 R7 i1 σ7 k
def x2_choose_49  (R7 : Int32 → St → Prop) (i1 : Int32) (i2 : Int32) (s0 : Int32) (σ : St) (k : Int32 → St → Prop) : Prop :=
  (if s0 = 0 then (if i2 = ((-1)) then x2_choose_89 R7 i1 σ k else (if i2 = (σ 61 3) then x2_isAhead i1 (σ 61 2) σ (fun r4 σ5 => (if r4 = 0 then x2_choose_89 R7 i1 σ5 k else x2_choose_79 R7 i1 i2 σ5 k)) else x2_choose_89 R7 i1 σ k)) else x2_choose_79 R7 i1 i2 σ k)
def x2_choose_48  (R7 : Int32 → St → Prop) (i1 : Int32) (i2 : Int32) (σ : St) (k : Int32 → St → Prop) : Prop :=
  x2_choose_49 R7 i1 i2 0 σ k
def x2_choose_44  (R7 : Int32 → St → Prop) (i1 : Int32) (i2 : Int32) (σ : St) (k : Int32 → St → Prop) : Prop :=
  x2_choose_49 R7 i1 i2 1 σ k
def x2_choose_7   (k : Int32 → St → Prop) : Nat → Int32 → St → Prop
  | 0, _, _ => False
  | n + 1, i1, σ => (if (1 <<< ((σ 61 1) &&& 31)) ≤ i1 then (if (σ 61 3) = ((-1)) then x2_choose_108 0 σ k else x2_choose_108 1 σ k) else x2_totalOf i1 σ (fun r2 σ3 => (if r2 = ((-1)) then x2_choose_48 (x2_choose_7 k n) i1 r2 σ3 k else (if (σ3 61 3) = ((-1)) then x2_choose_44 (x2_choose_7 k n) i1 r2 σ3 k else (if (σ3 61 3) ≤ r2 then x2_choose_48 (x2_choose_7 k n) i1 r2 σ3 k else x2_choose_44 (x2_choose_7 k n) i1 r2 σ3 k)))))
def x2_choose  (σ : St) (k : Int32 → St → Prop) : Prop :=
  lt (st_up σ 61 3 ((-1))) fun σ1 => ∃ n7, x2_choose_7 k n7 0 σ1
def x2_firstThatCanNot_38  (R2 : Int32 → St → Prop) (i1 : Int32) (σ : St) (k : Int32 → St → Prop) : Prop :=
  R2 (i1 + 1) σ
def x2_firstThatCanNot_2   (k : Int32 → St → Prop) : Nat → Int32 → St → Prop
  | 0, _, _ => False
  | n + 1, i1, σ => (if (σ 61 1) ≤ i1 then k ((-1000000)) σ else (vp_in (2 * i1) (ln 62) ∧ (if (σ 62 (2 * i1).toNatClampNeg) = ((-1)) then (vp_in ((2 * i1) + 1) (ln 62) ∧ (if (σ 62 ((2 * i1) + 1).toNatClampNeg) = ((-1)) then k i1 σ else x2_firstThatCanNot_38 (x2_firstThatCanNot_2 k n) i1 σ k)) else x2_firstThatCanNot_38 (x2_firstThatCanNot_2 k n) i1 σ k)))
def x2_firstThatCanNot  (σ : St) (k : Int32 → St → Prop) : Prop :=
  ∃ n2, x2_firstThatCanNot_2 k n2 0 σ
def x5_callersAt_28 (o0 : Nat) (i1 : Int32) (R4 : Int32 → Int32 → St → Prop) (i2 : Int32) (i3 : Int32) (σ : St) (k : Int32 → St → Prop) : Prop :=
  R4 i2 (i3 + 1) σ
def x5_callersAt_4 (o0 : Nat) (i1 : Int32)  (k : Int32 → St → Prop) : Nat → Int32 → Int32 → St → Prop
  | 0, _, _, _ => False
  | n + 1, i2, i3, σ => (if (σ o0 9) ≤ i3 then k i2 σ else (vp_in i3 (ln (o0 + 6)) ∧ (if (σ (o0 + 6) i3.toNatClampNeg) = i1 then lt (i2 ||| (1 <<< (i3 &&& 31))) fun v1 => x5_callersAt_28 o0 i1 (x5_callersAt_4 o0 i1 k n) v1 i3 σ k else x5_callersAt_28 o0 i1 (x5_callersAt_4 o0 i1 k n) i2 i3 σ k)))
def x5_callersAt (o0 : Nat) (i1 : Int32) (σ : St) (k : Int32 → St → Prop) : Prop :=
  ∃ n4, x5_callersAt_4 o0 i1 k n4 0 0 σ
def x2_weigh_31 (o1 : Nat) (i2 : Int32) (i3 : Int32) (R11 : Int32 → St → Prop) (k : St → Prop) : Nat → Int32 → Int32 → Int32 → St → Prop
  | 0, _, _, _, _ => False
  | n + 1, i4, i5, i6, σ => (if 2 ≤ i6 then R11 (i4 + 1) σ else x2_cheapestAt o1 i4 i6 (i2 &&& i5) (i3 &&& i5) σ (fun r4 σ5 => (vp_in ((2 * i4) + i6) (ln 62) ∧ lt (st_up σ5 62 ((2 * i4) + i6).toNatClampNeg r4) fun σ6 => x2_weigh_31 o1 i2 i3 R11 k n i4 i5 (i6 + 1) σ6)))
def x2_weigh_11 (o1 : Nat) (i2 : Int32) (i3 : Int32)  (k : St → Prop) : Nat → Int32 → St → Prop
  | 0, _, _ => False
  | n + 1, i4, σ => (if (σ 61 1) ≤ i4 then k σ else x5_callersAt o1 i4 σ (fun r2 σ3 => ∃ n31, x2_weigh_31 o1 i2 i3 (x2_weigh_11 o1 i2 i3 k n) k n31 i4 r2 0 σ3))
def x2_weigh (o1 : Nat) (i2 : Int32) (i3 : Int32) (σ : St) (k : St → Prop) : Prop :=
  lt (st_up σ 61 1 (σ o1 8)) fun σ1 => ∃ n11, x2_weigh_11 o1 i2 i3 k n11 0 σ1
def x3_fail (i1 : Int32) (σ : St) (k : Int32 → St → Prop) : Prop :=
  lt (st_up σ 55 3 (σ 55 2)) fun σ1 => lt (st_up σ1 55 4 i1) fun σ2 => (isB 0 ∧ k 0 σ2)
def x3_isFigure_17 (i0 : Int32)  (s0 : Int32) (σ : St) (k : Int32 → St → Prop) : Prop :=
  (isB s0 ∧ k s0 σ)
def x3_isFigure_16 (i0 : Int32)   (σ : St) (k : Int32 → St → Prop) : Prop :=
  x3_isFigure_17 i0 0 σ k
def x3_isFigure (i0 : Int32) (σ : St) (k : Int32 → St → Prop) : Prop :=
  (if i0 < 48 then x3_isFigure_16 i0 σ k else (if 57 < i0 then x3_isFigure_16 i0 σ k else x3_isFigure_17 i0 1 σ k))
def x3_kindOfSort (i0 : Int32) (σ : St) (k : Int32 → St → Prop) : Prop :=
  (if i0 = 98 then k 3 σ else (if i0 = 107 then k 5 σ else (if i0 = 108 then k 2 σ else (if i0 = 112 then k 4 σ else (if i0 = 117 then k 1 σ else k 0 σ)))))
def x3_nextIs_29 (i1 : Int32)  (s0 : Int32) (σ : St) (k : Int32 → St → Prop) : Prop :=
  (isB s0 ∧ k s0 σ)
def x3_nextIs_28 (i1 : Int32)   (σ : St) (k : Int32 → St → Prop) : Prop :=
  x3_nextIs_29 i1 0 σ k
def x3_nextIs (i1 : Int32) (σ : St) (k : Int32 → St → Prop) : Prop :=
  (if (σ 55 1) ≤ (σ 55 2) then x3_nextIs_28 i1 σ k else (vp_in (σ 55 2) (ln 56) ∧ (if (σ 56 (σ 55 2).toNatClampNeg) = i1 then x3_nextIs_29 i1 1 σ k else x3_nextIs_28 i1 σ k)))
def x3_readNumber_109 (i1 : Int32) (i2 : Int32)  (s1 : Int32) (σ : St) (k : Int32 → St → Prop) : Prop :=
  x3_fail s1 σ (fun r2 σ3 => k ((-1)) σ3)
def x3_readNumber_98 (i1 : Int32) (i2 : Int32)  (i5 : Int32) (σ : St) (k : Int32 → St → Prop) : Prop :=
  (if i5 = 0 then x3_readNumber_109 i1 i2 1 σ k else x3_readNumber_109 i1 i2 2 σ k)
def x3_readNumber_81 (i1 : Int32) (i2 : Int32)  (i3 : Int32) (i4 : Int32) (s0 : Int32) (σ : St) (k : Int32 → St → Prop) : Prop :=
  (if s0 = 0 then x3_readNumber_98 i1 i2 s0 σ k else (if i3 < i1 then x3_readNumber_98 i1 i2 s0 σ k else (if i3 ≤ i2 then lt (st_up σ 55 2 ((σ 55 2) + i4)) fun σ4 => k i3 σ4 else x3_readNumber_98 i1 i2 s0 σ k)))
def x3_readNumber_76 (i1 : Int32) (i2 : Int32)  (i3 : Int32) (i4 : Int32) (σ : St) (k : Int32 → St → Prop) : Prop :=
  x3_readNumber_81 i1 i2 i3 i4 1 σ k
def x3_readNumber_64 (i1 : Int32) (i2 : Int32)  (i3 : Int32) (i4 : Int32) (σ : St) (k : Int32 → St → Prop) : Prop :=
  (if i4 = 1 then x3_readNumber_76 i1 i2 i3 i4 σ k else (if i4 = 2 then x3_readNumber_76 i1 i2 i3 i4 σ k else x3_readNumber_81 i1 i2 i3 i4 0 σ k))
def x3_readNumber_11 (i1 : Int32) (i2 : Int32)  (k : Int32 → St → Prop) : Nat → Int32 → Int32 → Int32 → St → Prop
  | 0, _, _, _, _ => False
  | n + 1, i3, i4, i5, σ => (if (σ 55 1) ≤ i5 then x3_readNumber_64 i1 i2 i3 i4 σ k else (vp_in i5 (ln 56) ∧ x3_isFigure (σ 56 i5.toNatClampNeg) σ (fun r5 σ6 => (if r5 = 0 then x3_readNumber_64 i1 i2 i3 i4 σ6 k else (if 3 ≤ i4 then x3_readNumber_64 i1 i2 i3 i4 σ6 k else (vp_in i5 (ln 56) ∧ lt (((10 * i3) + (σ6 56 i5.toNatClampNeg)) - 48) fun v7 => x3_readNumber_11 i1 i2 k n v7 (i4 + 1) (i5 + 1) σ6))))))
def x3_readNumber (i1 : Int32) (i2 : Int32) (σ : St) (k : Int32 → St → Prop) : Prop :=
  lt (σ 55 2) fun v1 => ∃ n11, x3_readNumber_11 i1 i2 k n11 0 0 v1 σ
def x3_readSign (i1 : Int32) (σ : St) (k : Int32 → St → Prop) : Prop :=
  x3_nextIs i1 σ (fun r1 σ2 => (if r1 = 0 then x3_fail 1 σ2 (fun r3 σ4 => (isB r3 ∧ k r3 σ4)) else lt (st_up σ2 55 2 ((σ2 55 2) + 1)) fun σ5 => (isB 1 ∧ k 1 σ5)))
def x5_addCaller (o0 : Nat) (i1 : Int32) (i2 : Int32) (i3 : Int32) (σ : St) (k : St → Prop) : Prop :=
  (vp_in (σ o0 9) (ln (o0 + 5)) ∧ lt (st_up σ (o0 + 5) (σ o0 9).toNatClampNeg i1) fun σ1 => (vp_in (σ1 o0 9) (ln (o0 + 6)) ∧ lt (st_up σ1 (o0 + 6) (σ1 o0 9).toNatClampNeg i2) fun σ2 => (vp_in (σ2 o0 9) (ln (o0 + 7)) ∧ lt (st_up σ2 (o0 + 7) (σ2 o0 9).toNatClampNeg i3) fun σ3 => (vp_in (σ3 o0 9) (ln (o0 + 8)) ∧ lt (st_up σ3 (o0 + 8) (σ3 o0 9).toNatClampNeg 0) fun σ4 => lt (st_up σ4 o0 9 ((σ4 o0 9) + 1)) fun σ5 => k σ5))))
def x3_readCaller_88 (o1 : Nat)   (σ : St) (k : Int32 → St → Prop) : Prop :=
  (isB 0 ∧ k 0 σ)
def x3_readCaller_113 (o1 : Nat)   (σ : St) (k : Int32 → St → Prop) : Prop :=
  (isB 0 ∧ k 0 σ)
def x3_readCaller_27 (o1 : Nat)  (s0 : Int32) (σ : St) (k : Int32 → St → Prop) : Prop :=
  (if s0 = 0 then x3_fail 1 σ (fun r1 σ2 => (isB r1 ∧ k r1 σ2)) else (if (σ o1 9) < 6 then lt (st_up σ 55 2 ((σ 55 2) + 1)) fun σ3 => x3_readNumber 0 ((σ3 o1 8) - 1) σ3 (fun r4 σ5 => (if r4 < 0 then x3_readCaller_88 o1 σ5 k else x3_readSign 44 σ5 (fun r6 σ7 => (if r6 = 0 then x3_readCaller_88 o1 σ7 k else x3_readNumber 0 20 σ7 (fun r8 σ9 => (if r8 < 0 then x3_readCaller_113 o1 σ9 k else x3_readSign 59 σ9 (fun r10 σ11 => (if r10 = 0 then x3_readCaller_113 o1 σ11 k else x5_addCaller o1 s0 r4 r8 σ11 (fun σ13 => (isB 1 ∧ k 1 σ13)))))))))) else x3_fail 3 σ (fun r14 σ15 => (isB r14 ∧ k r14 σ15))))
def x3_readCaller (o1 : Nat) (σ : St) (k : Int32 → St → Prop) : Prop :=
  (if (σ 55 1) ≤ (σ 55 2) then x3_readCaller_27 o1 0 σ k else (vp_in (σ 55 2) (ln 56) ∧ x3_kindOfSort (σ 56 (σ 55 2).toNatClampNeg) σ (fun r16 σ17 => x3_readCaller_27 o1 r16 σ17 k)))
def x5_hasDoor_17 (o0 : Nat) (i1 : Int32)  (s0 : Int32) (σ : St) (k : Int32 → St → Prop) : Prop :=
  (isB s0 ∧ k s0 σ)
def x5_hasDoor_16 (o0 : Nat) (i1 : Int32)   (σ : St) (k : Int32 → St → Prop) : Prop :=
  x5_hasDoor_17 o0 i1 0 σ k
def x5_hasDoor (o0 : Nat) (i1 : Int32) (σ : St) (k : Int32 → St → Prop) : Prop :=
  (if i1 < 0 then x5_hasDoor_16 o0 i1 σ k else (if (σ o0 8) ≤ i1 then x5_hasDoor_16 o0 i1 σ k else x5_hasDoor_17 o0 i1 1 σ k))
def x5_clearDoor_29 (o0 : Nat) (i1 : Int32)   (σ : St) (k : St → Prop) : Prop :=
  k σ
def x5_clearDoor (o0 : Nat) (i1 : Int32) (σ : St) (k : St → Prop) : Prop :=
  x5_hasDoor o0 i1 σ (fun r1 σ2 => (if r1 = 0 then x5_clearDoor_29 o0 i1 σ2 k else (vp_in i1 (ln (o0 + 2)) ∧ lt (st_up σ2 (o0 + 2) i1.toNatClampNeg 0) fun σ3 => (vp_in i1 (ln (o0 + 3)) ∧ lt (st_up σ3 (o0 + 3) i1.toNatClampNeg 0) fun σ4 => (vp_in i1 (ln (o0 + 4)) ∧ lt (st_up σ4 (o0 + 4) i1.toNatClampNeg 0) fun σ5 => x5_clearDoor_29 o0 i1 σ5 k)))))
def x5_addDoor (o0 : Nat) (i1 : Int32) (σ : St) (k : St → Prop) : Prop :=
  (vp_in (σ o0 8) (ln (o0 + 1)) ∧ lt (st_up σ (o0 + 1) (σ o0 8).toNatClampNeg i1) fun σ1 => lt (st_up σ1 o0 8 ((σ1 o0 8) + 1)) fun σ2 => x5_clearDoor o0 ((σ2 o0 8) - 1) σ2 (fun σ4 => k σ4))
def x3_readDoor_56 (o1 : Nat)   (σ : St) (k : Int32 → St → Prop) : Prop :=
  (isB 0 ∧ k 0 σ)
def x3_readDoor_24 (o1 : Nat)   (σ : St) (k : Int32 → St → Prop) : Prop :=
  x3_readSign 100 σ (fun r3 σ4 => (if r3 = 0 then (isB 0 ∧ k 0 σ4) else x3_readNumber 1 20 σ4 (fun r5 σ6 => (if r5 < 0 then x3_readDoor_56 o1 σ6 k else x3_readSign 59 σ6 (fun r7 σ8 => (if r7 = 0 then x3_readDoor_56 o1 σ8 k else x5_addDoor o1 r5 σ8 (fun σ10 => (isB 1 ∧ k 1 σ10))))))))
def x3_readDoor (o1 : Nat) (σ : St) (k : Int32 → St → Prop) : Prop :=
  x3_nextIs 100 σ (fun r1 σ2 => (if r1 = 0 then x3_readDoor_24 o1 σ2 k else (if (σ2 o1 8) < 6 then x3_readDoor_24 o1 σ2 k else x3_fail 3 σ2 (fun r11 σ12 => (isB r11 ∧ k r11 σ12)))))
def x5_begin (o0 : Nat) (i1 : Int32) (i2 : Int32) (σ : St) (k : St → Prop) : Prop :=
  lt (st_up σ o0 8 0) fun σ1 => lt (st_up σ1 o0 9 0) fun σ2 => lt (st_up σ2 o0 10 i1) fun σ3 => lt (st_up σ3 o0 11 i2) fun σ4 => lt (st_up σ4 o0 12 0) fun σ5 => k σ5
def x3_readLaw_32 (o1 : Nat)   (σ : St) (k : Int32 → St → Prop) : Prop :=
  (isB 0 ∧ k 0 σ)
def x3_readLaw_55 (o1 : Nat)   (σ : St) (k : Int32 → St → Prop) : Prop :=
  (isB 0 ∧ k 0 σ)
def x3_readLaw (o1 : Nat) (σ : St) (k : Int32 → St → Prop) : Prop :=
  x3_readSign 103 σ (fun r1 σ2 => (if r1 = 0 then (isB 0 ∧ k 0 σ2) else x3_readNumber 0 60 σ2 (fun r3 σ4 => (if r3 < 0 then x3_readLaw_32 o1 σ4 k else x3_readSign 44 σ4 (fun r5 σ6 => (if r5 = 0 then x3_readLaw_32 o1 σ6 k else x3_readNumber 0 12 σ6 (fun r7 σ8 => (if r7 < 0 then x3_readLaw_55 o1 σ8 k else x3_readSign 59 σ8 (fun r9 σ10 => (if r9 = 0 then x3_readLaw_55 o1 σ10 k else x5_begin o1 r3 r7 σ10 (fun σ12 => (isB 1 ∧ k 1 σ12))))))))))))
def x3_readInto_21 (o1 : Nat)   (σ : St) (k : Int32 → St → Prop) : Prop :=
  (isB 0 ∧ k 0 σ)
def x3_readInto_96 (o1 : Nat)   (σ : St) (k : Int32 → St → Prop) : Prop :=
  (isB 1 ∧ k 1 σ)
def x3_readInto_81 (o1 : Nat) (R25 : Int32 → St → Prop) (i2 : Int32) (s0 : Int32) (σ : St) (k : Int32 → St → Prop) : Prop :=
  (if s0 = 0 then (isB 0 ∧ k 0 σ) else R25 (i2 + 1) σ)
def x3_readInto_63 (o1 : Nat) (R25 : Int32 → St → Prop) (i2 : Int32) (s0 : Int32) (σ : St) (k : Int32 → St → Prop) : Prop :=
  (if s0 = 0 then x3_readCaller o1 σ (fun r8 σ9 => x3_readInto_81 o1 R25 i2 r8 σ9 k) else x3_readDoor o1 σ (fun r10 σ11 => x3_readInto_81 o1 R25 i2 r10 σ11 k))
def x3_readInto_62 (o1 : Nat) (R25 : Int32 → St → Prop) (i2 : Int32) (σ : St) (k : Int32 → St → Prop) : Prop :=
  x3_readInto_63 o1 R25 i2 0 σ k
def x3_readInto_25 (o1 : Nat)  (k : Int32 → St → Prop) : Nat → Int32 → St → Prop
  | 0, _, _ => False
  | n + 1, i2, σ => (if 100 ≤ i2 then x3_readInto_96 o1 σ k else (if (σ 55 1) ≤ (σ 55 2) then x3_readInto_96 o1 σ k else (if (σ o1 9) = 0 then x3_nextIs 100 σ (fun r6 σ7 => (if r6 = 0 then x3_readInto_62 o1 (x3_readInto_25 o1 k n) i2 σ7 k else x3_readInto_63 o1 (x3_readInto_25 o1 k n) i2 1 σ7 k)) else x3_readInto_62 o1 (x3_readInto_25 o1 k n) i2 σ k)))
def x3_readInto (o1 : Nat) (σ : St) (k : Int32 → St → Prop) : Prop :=
  lt (st_up σ 55 2 0) fun σ1 => x3_readLaw o1 σ1 (fun r2 σ3 => (if r2 = 0 then x3_readInto_21 o1 σ3 k else x3_readDoor o1 σ3 (fun r4 σ5 => (if r4 = 0 then x3_readInto_21 o1 σ5 k else ∃ n25, x3_readInto_25 o1 k n25 0 σ5))))
def x3_take (i1 : Int32) (σ : St) (k : Int32 → St → Prop) : Prop :=
  (if (σ 55 1) < 100 then (vp_in (σ 55 1) (ln 56) ∧ lt (st_up σ 56 (σ 55 1).toNatClampNeg i1) fun σ1 => lt (st_up σ1 55 1 ((σ1 55 1) + 1)) fun σ2 => (isB 1 ∧ k 1 σ2)) else (isB 0 ∧ k 0 σ))
def x4_begin_12 (o0 : Nat) (i1 : Int32) (i2 : Int32)  (k : St → Prop) : Nat → Int32 → St → Prop
  | 0, _, _ => False
  | n + 1, i3, σ => (if 40 ≤ i3 then k σ else (vp_in i3 (ln (o0 + 1)) ∧ lt (st_up σ (o0 + 1) i3.toNatClampNeg 0) fun σ3 => x4_begin_12 o0 i1 i2 k n (i3 + 1) σ3))
def x4_begin (o0 : Nat) (i1 : Int32) (i2 : Int32) (σ : St) (k : St → Prop) : Prop :=
  lt (st_up σ o0 1 i1) fun σ1 => lt (st_up σ1 o0 2 i2) fun σ2 => ∃ n12, x4_begin_12 o0 i1 i2 k n12 0 σ2
def x4_isMissing_13 (o0 : Nat)  (s0 : Int32) (σ : St) (k : Int32 → St → Prop) : Prop :=
  (isB s0 ∧ k s0 σ)
def x4_isMissing (o0 : Nat) (σ : St) (k : Int32 → St → Prop) : Prop :=
  (if (σ o0 1) = ((-1)) then x4_isMissing_13 o0 1 σ k else x4_isMissing_13 o0 0 σ k)
def x4_narrowed_24 (o0 : Nat) (i1 : Int32)  (s0 : Int32) (σ : St) (k : Int32 → St → Prop) : Prop :=
  k s0 σ
def x4_narrowed (o0 : Nat) (i1 : Int32) (σ : St) (k : Int32 → St → Prop) : Prop :=
  (if (σ o0 1) = 0 then k i1.toInt8.toInt32 σ else (if (σ o0 1) = 1 then x4_narrowed_24 o0 i1 i1.toInt16.toInt32 σ k else x4_narrowed_24 o0 i1 i1 σ k))
def x4_spans_31 (o0 : Nat) (i1 : Int32) (i2 : Int32)  (s0 : Int32) (σ : St) (k : Int32 → St → Prop) : Prop :=
  (isB s0 ∧ k s0 σ)
def x4_spans_30 (o0 : Nat) (i1 : Int32) (i2 : Int32)   (σ : St) (k : Int32 → St → Prop) : Prop :=
  x4_spans_31 o0 i1 i2 0 σ k
def x4_spans (o0 : Nat) (i1 : Int32) (i2 : Int32) (σ : St) (k : Int32 → St → Prop) : Prop :=
  (if i1 < 0 then x4_spans_30 o0 i1 i2 σ k else (if i2 < 0 then x4_spans_30 o0 i1 i2 σ k else (if (σ o0 2) < i2 then x4_spans_30 o0 i1 i2 σ k else (if ((σ o0 2) - i2) < i1 then x4_spans_30 o0 i1 i2 σ k else x4_spans_31 o0 i1 i2 1 σ k))))
def x4_tellsMeetingsFrom_26 (o0 : Nat) (i1 : Int32) (i2 : Int32) (i3 : Int32) (R3 : Int32 → St → Prop) (i4 : Int32) (s0 : Int32) (σ : St) (k : Int32 → St → Prop) : Prop :=
  (vp_in (i2 + i4) (ln (o0 + 1)) ∧ (if (σ (o0 + 1) (i2 + i4).toNatClampNeg) = s0 then R3 (i4 + 1) σ else (isB 0 ∧ k 0 σ)))
def x4_tellsMeetingsFrom_25 (o0 : Nat) (i1 : Int32) (i2 : Int32) (i3 : Int32) (R3 : Int32 → St → Prop) (i4 : Int32) (σ : St) (k : Int32 → St → Prop) : Prop :=
  x4_tellsMeetingsFrom_26 o0 i1 i2 i3 R3 i4 0 σ k
def x4_tellsMeetingsFrom_3 (o0 : Nat) (i1 : Int32) (i2 : Int32) (i3 : Int32)  (k : Int32 → St → Prop) : Nat → Int32 → St → Prop
  | 0, _, _ => False
  | n + 1, i4, σ => (if i3 ≤ i4 then (isB 1 ∧ k 1 σ) else (if i1 = ((-1000000)) then x4_tellsMeetingsFrom_25 o0 i1 i2 i3 (x4_tellsMeetingsFrom_3 o0 i1 i2 i3 k n) i4 σ k else (if i4 < i1 then x4_tellsMeetingsFrom_25 o0 i1 i2 i3 (x4_tellsMeetingsFrom_3 o0 i1 i2 i3 k n) i4 σ k else x4_tellsMeetingsFrom_26 o0 i1 i2 i3 (x4_tellsMeetingsFrom_3 o0 i1 i2 i3 k n) i4 1 σ k)))
def x4_tellsMeetingsFrom (o0 : Nat) (i1 : Int32) (i2 : Int32) (i3 : Int32) (σ : St) (k : Int32 → St → Prop) : Prop :=
  ∃ n3, x4_tellsMeetingsFrom_3 o0 i1 i2 i3 k n3 0 σ
def x5_allCallers (o0 : Nat) (σ : St) (k : Int32 → St → Prop) : Prop :=
  k ((1 <<< ((σ o0 9) &&& 31)) - 1) σ
def x5_allDoors (o0 : Nat) (σ : St) (k : Int32 → St → Prop) : Prop :=
  k ((1 <<< ((σ o0 8) &&& 31)) - 1) σ
def x5_heardAt_31 (o0 : Nat) (i1 : Int32) (R4 : Int32 → St → Prop) (i2 : Int32) (σ : St) (k : Int32 → St → Prop) : Prop :=
  R4 (i2 + 1) σ
def x5_heardAt_4 (o0 : Nat) (i1 : Int32)  (k : Int32 → St → Prop) : Nat → Int32 → St → Prop
  | 0, _, _ => False
  | n + 1, i2, σ => (if (i1 + 1) < i2 then k 0 σ else x5_hasDoor o0 i2 σ (fun r2 σ3 => (if r2 = 0 then x5_heardAt_31 o0 i1 (x5_heardAt_4 o0 i1 k n) i2 σ3 k else (vp_in i2 (ln (o0 + 4)) ∧ (if (σ3 (o0 + 4) i2.toNatClampNeg) = 1 then k 1 σ3 else x5_heardAt_31 o0 i1 (x5_heardAt_4 o0 i1 k n) i2 σ3 k)))))
def x5_heardAt (o0 : Nat) (i1 : Int32) (σ : St) (k : Int32 → St → Prop) : Prop :=
  lt (i1 - 1) fun v1 => ∃ n4, x5_heardAt_4 o0 i1 k n4 v1 σ
def x5_opensBehind (o0 : Nat) (i1 : Int32) (σ : St) (k : Int32 → St → Prop) : Prop :=
  (vp_in i1 (ln (o0 + 1)) ∧ (vp_in i1 (ln (o0 + 2)) ∧ (vp_in i1 (ln (o0 + 3)) ∧ x5_heardAt o0 i1 σ (fun r1 σ2 => x5_opening (σ (o0 + 1) i1.toNatClampNeg) (σ (o0 + 2) i1.toNatClampNeg) (σ (o0 + 3) i1.toNatClampNeg) r1 σ2 (fun r3 σ4 => k r3 σ4)))))
def x5_staysAs (o0 : Nat) (i1 : Int32) (i2 : Int32) (i3 : Int32) (σ : St) (k : Int32 → St → Prop) : Prop :=
  (vp_in i1 (ln (o0 + 7)) ∧ (vp_in i3 (ln (o0 + 2)) ∧ (vp_in i3 (ln (o0 + 3)) ∧ x5_heardAt o0 i3 σ (fun r1 σ2 => x5_staying i2 (σ (o0 + 7) i1.toNatClampNeg) (σ (o0 + 2) i3.toNatClampNeg) (σ (o0 + 3) i3.toNatClampNeg) r1 σ2 (fun r3 σ4 => k r3 σ4)))))
def x5_meetsAs_20 (o0 : Nat) (i1 : Int32) (i2 : Int32) (i3 : Int32)  (s0 : Int32) (σ : St) (k : Int32 → St → Prop) : Prop :=
  (isB s0 ∧ k s0 σ)
def x5_meetsAs (o0 : Nat) (i1 : Int32) (i2 : Int32) (i3 : Int32) (σ : St) (k : Int32 → St → Prop) : Prop :=
  x5_opensBehind o0 i3 σ (fun r1 σ2 => x5_staysAs o0 i1 i2 i3 σ2 (fun r3 σ4 => (if r3 < r1 then x5_meetsAs_20 o0 i1 i2 i3 0 σ4 k else x5_meetsAs_20 o0 i1 i2 i3 1 σ4 k)))
def x5_firstMeeting_2 (o0 : Nat) (i1 : Int32) (i2 : Int32)  (k : Int32 → St → Prop) : Nat → Int32 → St → Prop
  | 0, _, _ => False
  | n + 1, i3, σ => (if (σ o0 8) ≤ i3 then k ((-1000000)) σ else x5_placeAfter o0 i1 i3 σ (fun r1 σ2 => x5_meetsAs o0 i1 i2 r1 σ2 (fun r3 σ4 => (if r3 = 0 then x5_firstMeeting_2 o0 i1 i2 k n (i3 + 1) σ4 else k i3 σ4))))
def x5_firstMeeting (o0 : Nat) (i1 : Int32) (i2 : Int32) (σ : St) (k : Int32 → St → Prop) : Prop :=
  ∃ n2, x5_firstMeeting_2 o0 i1 i2 k n2 0 σ
def x5_meetingNow_38 (o0 : Nat) (R4 : Int32 → Int32 → St → Prop) (i1 : Int32) (i2 : Int32) (σ : St) (k : Int32 → St → Prop) : Prop :=
  R4 i1 (i2 + 1) σ
def x5_meetingNow_4 (o0 : Nat)  (k : Int32 → St → Prop) : Nat → Int32 → Int32 → St → Prop
  | 0, _, _, _ => False
  | n + 1, i1, i2, σ => (if (σ o0 9) ≤ i2 then k i1 σ else (vp_in i2 (ln (o0 + 5)) ∧ (vp_in i2 (ln (o0 + 6)) ∧ x5_meetsAs o0 i2 (σ (o0 + 5) i2.toNatClampNeg) (σ (o0 + 6) i2.toNatClampNeg) σ (fun r1 σ2 => (if r1 = 0 then x5_meetingNow_38 o0 (x5_meetingNow_4 o0 k n) i1 i2 σ2 k else lt (i1 ||| (1 <<< (i2 &&& 31))) fun v3 => x5_meetingNow_38 o0 (x5_meetingNow_4 o0 k n) v3 i2 σ2 k)))))
def x5_meetingNow (o0 : Nat) (σ : St) (k : Int32 → St → Prop) : Prop :=
  ∃ n4, x5_meetingNow_4 o0 k n4 0 0 σ
def x5_firstOnNothing_33 (o0 : Nat) (R7 : Int32 → Int32 → St → Prop) (i1 : Int32) (i2 : Int32) (σ : St) (k : Int32 → St → Prop) : Prop :=
  R7 i1 (i2 + 1) σ
def x5_firstOnNothing_7 (o0 : Nat)  (k : Int32 → St → Prop) : Nat → Int32 → Int32 → St → Prop
  | 0, _, _, _ => False
  | n + 1, i1, i2, σ => (if (σ o0 8) ≤ i2 then k ((-1000000)) σ else x5_callersAt o0 i2 σ (fun r3 σ4 => (if r3 = 0 then x5_firstOnNothing_33 o0 (x5_firstOnNothing_7 o0 k n) i1 i2 σ4 k else (if (r3 &&& i1) = 0 then k i2 σ4 else x5_firstOnNothing_33 o0 (x5_firstOnNothing_7 o0 k n) i1 i2 σ4 k))))
def x5_firstOnNothing (o0 : Nat) (σ : St) (k : Int32 → St → Prop) : Prop :=
  x5_meetingNow o0 σ (fun r1 σ2 => ∃ n7, x5_firstOnNothing_7 o0 k n7 r1 0 σ2)
def x5_hasCaller_17 (o0 : Nat) (i1 : Int32)  (s0 : Int32) (σ : St) (k : Int32 → St → Prop) : Prop :=
  (isB s0 ∧ k s0 σ)
def x5_hasCaller_16 (o0 : Nat) (i1 : Int32)   (σ : St) (k : Int32 → St → Prop) : Prop :=
  x5_hasCaller_17 o0 i1 0 σ k
def x5_hasCaller (o0 : Nat) (i1 : Int32) (σ : St) (k : Int32 → St → Prop) : Prop :=
  (if i1 < 0 then x5_hasCaller_16 o0 i1 σ k else (if (σ o0 9) ≤ i1 then x5_hasCaller_16 o0 i1 σ k else x5_hasCaller_17 o0 i1 1 σ k))
def x5_isMeeting (o0 : Nat) (i1 : Int32) (σ : St) (k : Int32 → St → Prop) : Prop :=
  (vp_in i1 (ln (o0 + 5)) ∧ (vp_in i1 (ln (o0 + 6)) ∧ x5_meetsAs o0 i1 (σ (o0 + 5) i1.toNatClampNeg) (σ (o0 + 6) i1.toNatClampNeg) σ (fun r1 σ2 => (isB r1 ∧ k r1 σ2))))
def x5_isTold_12 (o0 : Nat)  (s0 : Int32) (σ : St) (k : Int32 → St → Prop) : Prop :=
  (isB s0 ∧ k s0 σ)
def x5_isTold (o0 : Nat) (σ : St) (k : Int32 → St → Prop) : Prop :=
  (if (σ o0 8) ≤ 0 then x5_isTold_12 o0 0 σ k else x5_isTold_12 o0 1 σ k)
def x5_layByDraw_70 (o0 : Nat) (l1 : Int64)   (σ : St) (k : St → Prop) : Prop :=
  k σ
def x5_layByDraw_69 (o0 : Nat) (l1 : Int64)  (s2 : Int32) (s1 : Int32) (so0 : Nat) (σ : St) (k : St → Prop) : Prop :=
  (vp_in s1 (ln so0) ∧ lt (st_up σ so0 s1.toNatClampNeg s2) fun σ4 => x5_layByDraw_70 o0 l1 σ4 k)
def x5_layByDraw_48 (o0 : Nat) (l1 : Int64)  (i3 : Int32) (s2 : Int32) (s1 : Int32) (so0 : Nat) (σ : St) (k : St → Prop) : Prop :=
  (vp_in s1 (ln so0) ∧ lt (st_up σ so0 s1.toNatClampNeg s2) fun σ3 => (¬ (3 : Int64) = 0 ∧ (if (lg_cmp (l1 % 3) 0) = 0 then x5_layByDraw_69 o0 l1 1 i3 (o0 + 4) σ3 k else x5_layByDraw_69 o0 l1 0 i3 (o0 + 4) σ3 k)))
def x5_layByDraw (o0 : Nat) (l1 : Int64) (σ : St) (k : St → Prop) : Prop :=
  (if (σ o0 8) ≤ 0 then x5_layByDraw_70 o0 l1 σ k else (¬ ((σ o0 8 : Int32).toInt64) = 0 ∧ lt ((l1 % ((σ o0 8 : Int32).toInt64) : Int64).toInt32) fun v1 => (¬ (6 : Int64) = 0 ∧ (vp_in v1 (ln (o0 + 2)) ∧ lt (st_up σ (o0 + 2) v1.toNatClampNeg ((l1 % 6 : Int64).toInt32)) fun σ2 => (¬ (2 : Int64) = 0 ∧ (if (lg_cmp (l1 % 2) 0) = 0 then x5_layByDraw_48 o0 l1 v1 1 v1 (o0 + 3) σ2 k else x5_layByDraw_48 o0 l1 v1 0 v1 (o0 + 3) σ2 k))))))
def x5_sum_4 (o0 : Nat) (i1 : Int32)  (k : Int32 → St → Prop) : Nat → Int32 → Int32 → St → Prop
  | 0, _, _, _ => False
  | n + 1, i2, i3, σ => (if i1 ≤ i3 then k i2 σ else (vp_in i3 (ln o0) ∧ lt (i2 + (σ o0 i3.toNatClampNeg)) fun v1 => x5_sum_4 o0 i1 k n v1 (i3 + 1) σ))
def x5_sum (o0 : Nat) (i1 : Int32) (σ : St) (k : Int32 → St → Prop) : Prop :=
  ∃ n4, x5_sum_4 o0 i1 k n4 0 0 σ
def x5_metsAdded (o0 : Nat) (σ : St) (k : Int32 → St → Prop) : Prop :=
  x5_sum (o0 + 8) (σ o0 9) σ (fun r1 σ2 => k r1 σ2)
def x5_passDay_49 (o0 : Nat) (R7 : Int32 → Int32 → St → Prop) (i1 : Int32) (i2 : Int32) (σ : St) (k : Int32 → St → Prop) : Prop :=
  R7 i1 (i2 + 1) σ
def x5_passDay_7 (o0 : Nat)  (k : Int32 → St → Prop) : Nat → Int32 → Int32 → St → Prop
  | 0, _, _, _ => False
  | n + 1, i1, i2, σ => (if (σ o0 9) ≤ i2 then lt (st_up σ o0 12 ((σ o0 12) + 1)) fun σ3 => k i1 σ3 else (if ((i1 >>> (i2 &&& 31)) &&& 1) = 1 then (vp_in i2 (ln (o0 + 8)) ∧ (vp_in i2 (ln (o0 + 8)) ∧ lt (st_up σ (o0 + 8) i2.toNatClampNeg ((σ (o0 + 8) i2.toNatClampNeg) + 1)) fun σ4 => x5_passDay_49 o0 (x5_passDay_7 o0 k n) i1 i2 σ4 k)) else x5_placeAfter o0 i2 1 σ (fun r5 σ6 => (vp_in i2 (ln (o0 + 6)) ∧ lt (st_up σ6 (o0 + 6) i2.toNatClampNeg r5) fun σ7 => x5_passDay_49 o0 (x5_passDay_7 o0 k n) i1 i2 σ7 k))))
def x5_passDay (o0 : Nat) (σ : St) (k : Int32 → St → Prop) : Prop :=
  x5_meetingNow o0 σ (fun r1 σ2 => ∃ n7, x5_passDay_7 o0 k n7 r1 0 σ2)
def x5_placesAdded (o0 : Nat) (σ : St) (k : Int32 → St → Prop) : Prop :=
  x5_sum (o0 + 6) (σ o0 9) σ (fun r1 σ2 => k r1 σ2)
def x5_staysHowLong (o0 : Nat) (i1 : Int32) (σ : St) (k : Int32 → St → Prop) : Prop :=
  (vp_in i1 (ln (o0 + 5)) ∧ (vp_in i1 (ln (o0 + 6)) ∧ x5_staysAs o0 i1 (σ (o0 + 5) i1.toNatClampNeg) (σ (o0 + 6) i1.toNatClampNeg) σ (fun r1 σ2 => k r1 σ2)))
def x5_takeOver (o0 : Nat) (o1 : Nat) (σ : St) (k : St → Prop) : Prop :=
  (cpOk 0 0 6 (ln (o1 + 1)) (ln (o0 + 1)) ∧ lt (st_cp σ (o1 + 1) (0 : Int32).toNatClampNeg (o0 + 1) (0 : Int32).toNatClampNeg (6 : Int32).toNatClampNeg) fun σ1 => (cpOk 0 0 6 (ln (o1 + 2)) (ln (o0 + 2)) ∧ lt (st_cp σ1 (o1 + 2) (0 : Int32).toNatClampNeg (o0 + 2) (0 : Int32).toNatClampNeg (6 : Int32).toNatClampNeg) fun σ2 => (cpOk 0 0 6 (ln (o1 + 3)) (ln (o0 + 3)) ∧ lt (st_cp σ2 (o1 + 3) (0 : Int32).toNatClampNeg (o0 + 3) (0 : Int32).toNatClampNeg (6 : Int32).toNatClampNeg) fun σ3 => (cpOk 0 0 6 (ln (o1 + 4)) (ln (o0 + 4)) ∧ lt (st_cp σ3 (o1 + 4) (0 : Int32).toNatClampNeg (o0 + 4) (0 : Int32).toNatClampNeg (6 : Int32).toNatClampNeg) fun σ4 => (cpOk 0 0 6 (ln (o1 + 5)) (ln (o0 + 5)) ∧ lt (st_cp σ4 (o1 + 5) (0 : Int32).toNatClampNeg (o0 + 5) (0 : Int32).toNatClampNeg (6 : Int32).toNatClampNeg) fun σ5 => (cpOk 0 0 6 (ln (o1 + 6)) (ln (o0 + 6)) ∧ lt (st_cp σ5 (o1 + 6) (0 : Int32).toNatClampNeg (o0 + 6) (0 : Int32).toNatClampNeg (6 : Int32).toNatClampNeg) fun σ6 => (cpOk 0 0 6 (ln (o1 + 7)) (ln (o0 + 7)) ∧ lt (st_cp σ6 (o1 + 7) (0 : Int32).toNatClampNeg (o0 + 7) (0 : Int32).toNatClampNeg (6 : Int32).toNatClampNeg) fun σ7 => (cpOk 0 0 6 (ln (o1 + 8)) (ln (o0 + 8)) ∧ lt (st_cp σ7 (o1 + 8) (0 : Int32).toNatClampNeg (o0 + 8) (0 : Int32).toNatClampNeg (6 : Int32).toNatClampNeg) fun σ8 => lt (st_up σ8 o0 8 (σ8 o1 8)) fun σ9 => lt (st_up σ9 o0 9 (σ9 o1 9)) fun σ10 => lt (st_up σ10 o0 10 (σ10 o1 10)) fun σ11 => lt (st_up σ11 o0 11 (σ11 o1 11)) fun σ12 => lt (st_up σ12 o0 12 (σ12 o1 12)) fun σ13 => k σ13))))))))
def x5_usedSeconds (o0 : Nat) (σ : St) (k : Int32 → St → Prop) : Prop :=
  x5_sum (o0 + 2) (σ o0 8) σ (fun r1 σ2 => k r1 σ2)
def x5_usedSounds (o0 : Nat) (σ : St) (k : Int32 → St → Prop) : Prop :=
  x5_sum (o0 + 3) (σ o0 8) σ (fun r1 σ2 => x5_sum (o0 + 4) (σ2 o0 8) σ2 (fun r3 σ4 => k (r1 + r3) σ4))
def x6_isBit_14 (i0 : Int32)  (s0 : Int32) (σ : St) (k : Int32 → St → Prop) : Prop :=
  (isB s0 ∧ k s0 σ)
def x6_isBit_9 (i0 : Int32)   (σ : St) (k : Int32 → St → Prop) : Prop :=
  x6_isBit_14 i0 1 σ k
def x6_isBit (i0 : Int32) (σ : St) (k : Int32 → St → Prop) : Prop :=
  (if i0 = 0 then x6_isBit_9 i0 σ k else (if i0 = 1 then x6_isBit_9 i0 σ k else x6_isBit_14 i0 0 σ k))
def x6_ahead_28 (i1 : Int32) (i2 : Int32) (i3 : Int32)   (σ : St) (k : Int32 → St → Prop) : Prop :=
  k ((-1000001)) σ
def x6_ahead_100 (i1 : Int32) (i2 : Int32) (i3 : Int32)  (s0 : Int32) (σ : St) (k : Int32 → St → Prop) : Prop :=
  k s0 σ
def x6_ahead_67 (i1 : Int32) (i2 : Int32) (i3 : Int32)  (s0 : Int32) (σ : St) (k : Int32 → St → Prop) : Prop :=
  (if i3 = 0 then x5_placeAfter 19 i1 s0 σ (fun r7 σ8 => x6_ahead_100 i1 i2 i3 r7 σ8 k) else (vp_in i1 (ln (19 + 8)) ∧ x6_ahead_100 i1 i2 i3 (((σ (19 + 8) i1.toNatClampNeg) + i2) - s0) σ k))
def x6_ahead (i1 : Int32) (i2 : Int32) (i3 : Int32) (σ : St) (k : Int32 → St → Prop) : Prop :=
  x5_hasCaller 19 i1 σ (fun r1 σ2 => (if r1 = 0 then x6_ahead_28 i1 i2 i3 σ2 k else (if i2 < 0 then x6_ahead_28 i1 i2 i3 σ2 k else (if 60 < i2 then x6_ahead_28 i1 i2 i3 σ2 k else x6_isBit i3 σ2 (fun r3 σ4 => (if r3 = 0 then x6_ahead_28 i1 i2 i3 σ4 k else (vp_in i1 (ln (19 + 5)) ∧ x5_firstMeeting 19 i1 (σ4 (19 + 5) i1.toNatClampNeg) σ4 (fun r5 σ6 => (if r5 = ((-1000000)) then x6_ahead_67 i1 i2 i3 i2 σ6 k else x6_ahead_67 i1 i2 i3 (imin i2 r5) σ6 k)))))))))
def x6_areApartSets_35 (i1 : Int32) (i2 : Int32)  (s0 : Int32) (σ : St) (k : Int32 → St → Prop) : Prop :=
  (isB s0 ∧ k s0 σ)
def x6_areApartSets_34 (i1 : Int32) (i2 : Int32)   (σ : St) (k : Int32 → St → Prop) : Prop :=
  x6_areApartSets_35 i1 i2 0 σ k
def x6_areApartSets (i1 : Int32) (i2 : Int32) (σ : St) (k : Int32 → St → Prop) : Prop :=
  x5_allCallers 19 σ (fun r1 σ2 => (if (i1 &&& (r1 ^^^ ((-1)))) = 0 then (if (i2 &&& (r1 ^^^ ((-1)))) = 0 then (if (i1 &&& i2) = 0 then x6_areApartSets_35 i1 i2 1 σ2 k else x6_areApartSets_34 i1 i2 σ2 k) else x6_areApartSets_34 i1 i2 σ2 k) else x6_areApartSets_34 i1 i2 σ2 k))
def x6_isOneOf_9 (i0 : Int32) (i1 : Int32)   (σ : St) (k : Int32 → St → Prop) : Prop :=
  (isB 1 ∧ k 1 σ)
def x6_isOneOf_31 (i0 : Int32) (i1 : Int32)  (s0 : Int32) (σ : St) (k : Int32 → St → Prop) : Prop :=
  (isB s0 ∧ k s0 σ)
def x6_isOneOf_26 (i0 : Int32) (i1 : Int32)   (σ : St) (k : Int32 → St → Prop) : Prop :=
  x6_isOneOf_31 i0 i1 1 σ k
def x6_isOneOf_47 (i0 : Int32) (i1 : Int32)  (s0 : Int32) (σ : St) (k : Int32 → St → Prop) : Prop :=
  (isB s0 ∧ k s0 σ)
def x6_isOneOf_46 (i0 : Int32) (i1 : Int32)   (σ : St) (k : Int32 → St → Prop) : Prop :=
  x6_isOneOf_47 i0 i1 0 σ k
def x6_isOneOf (i0 : Int32) (i1 : Int32) (σ : St) (k : Int32 → St → Prop) : Prop :=
  (if i1 = 0 then x6_isOneOf_9 i0 i1 σ k else (if i1 = i0 then x6_isOneOf_9 i0 i1 σ k else (if i1 = 1 then (if i0 = 2 then x6_isOneOf_26 i0 i1 σ k else (if i0 = 3 then x6_isOneOf_26 i0 i1 σ k else x6_isOneOf_31 i0 i1 0 σ k)) else (if i1 = 4 then (if i0 = 5 then x6_isOneOf_47 i0 i1 1 σ k else x6_isOneOf_46 i0 i1 σ k) else x6_isOneOf_46 i0 i1 σ k))))
def x6_foundNone (i1 : Int32) (σ : St) (k : Int32 → St → Prop) : Prop :=
  lt (st_up σ 0 9 0) fun σ1 => k i1 σ1
def x6_found (i1 : Int32) (σ : St) (k : Int32 → St → Prop) : Prop :=
  lt (st_up σ 0 9 i1) fun σ1 => k (((-1000010)) - i1) σ1
def x6_as_20 (i1 : Int32) (i2 : Int32)   (σ : St) (k : Int32 → St → Prop) : Prop :=
  k ((-1000001)) σ
def x6_as_52 (i1 : Int32) (i2 : Int32)  (s0 : Int32) (σ : St) (k : Int32 → St → Prop) : Prop :=
  k s0 σ
def x6_as (i1 : Int32) (i2 : Int32) (σ : St) (k : Int32 → St → Prop) : Prop :=
  x5_hasCaller 19 i1 σ (fun r1 σ2 => (if r1 = 0 then x6_as_20 i1 i2 σ2 k else (if i2 < 0 then x6_as_20 i1 i2 σ2 k else (if i2 ≤ 5 then (vp_in i1 (ln (19 + 5)) ∧ x6_isOneOf (σ2 (19 + 5) i1.toNatClampNeg) i2 σ2 (fun r3 σ4 => (if r3 = 0 then x6_found 3 σ4 (fun r5 σ6 => x6_as_52 i1 i2 r5 σ6 k) else x6_foundNone i1 σ4 (fun r7 σ8 => x6_as_52 i1 i2 r7 σ8 k)))) else x6_as_20 i1 i2 σ2 k))))
def x6_ask_18 (i1 : Int32) (i2 : Int32)   (σ : St) (k : Int32 → St → Prop) : Prop :=
  k ((-1000001)) σ
def x6_ask (i1 : Int32) (i2 : Int32) (σ : St) (k : Int32 → St → Prop) : Prop :=
  x5_hasCaller 19 i1 σ (fun r1 σ2 => (if r1 = 0 then x6_ask_18 i1 i2 σ2 k else x6_isBit i2 σ2 (fun r3 σ4 => (if r3 = 0 then x6_ask_18 i1 i2 σ4 k else x1_answer 19 i1 i2 σ4 (fun r5 σ6 => k r5 σ6)))))
def x6_caller_93 (i1 : Int32) (i2 : Int32)  (s0 : Int32) (σ : St) (k : Int32 → St → Prop) : Prop :=
  k s0 σ
def x6_caller (i1 : Int32) (i2 : Int32) (σ : St) (k : Int32 → St → Prop) : Prop :=
  x5_hasCaller 19 i1 σ (fun r1 σ2 => (if r1 = 0 then k ((-1000001)) σ2 else (if i2 = 0 then (vp_in i1 (ln (19 + 6)) ∧ k (σ2 (19 + 6) i1.toNatClampNeg) σ2) else (if i2 = 1 then (vp_in i1 (ln (19 + 7)) ∧ k (σ2 (19 + 7) i1.toNatClampNeg) σ2) else (if i2 = 2 then x5_staysHowLong 19 i1 σ2 (fun r3 σ4 => k r3 σ4) else (if i2 = 3 then x5_isMeeting 19 i1 σ2 (fun r5 σ6 => (if r5 = 0 then x6_caller_93 i1 i2 0 σ6 k else x6_caller_93 i1 i2 1 σ6 k)) else (if i2 = 4 then (vp_in i1 (ln (19 + 8)) ∧ k (σ2 (19 + 8) i1.toNatClampNeg) σ2) else k ((-1000001)) σ2)))))))
def x6_commonDivisor_34 (i0 : Int32) (i1 : Int32)  (i2 : Int32) (σ : St) (k : Int32 → St → Prop) : Prop :=
  k i2 σ
def x6_commonDivisor_7 (i0 : Int32) (i1 : Int32)  (k : Int32 → St → Prop) : Nat → Int32 → Int32 → Int32 → St → Prop
  | 0, _, _, _, _ => False
  | n + 1, i2, i3, i4, σ => (if 64 ≤ i4 then x6_commonDivisor_34 i0 i1 i2 σ k else (if i3 = 0 then x6_commonDivisor_34 i0 i1 i2 σ k else (¬ i3 = 0 ∧ lt (i2 % i3) fun v1 => x6_commonDivisor_7 i0 i1 k n i3 v1 (i4 + 1) σ)))
def x6_commonDivisor (i0 : Int32) (i1 : Int32) (σ : St) (k : Int32 → St → Prop) : Prop :=
  ∃ n7, x6_commonDivisor_7 i0 i1 k n7 i0 i1 0 σ
def x6_isRow_15 (i0 : Int32)  (s0 : Int32) (σ : St) (k : Int32 → St → Prop) : Prop :=
  (isB s0 ∧ k s0 σ)
def x6_isRow_14 (i0 : Int32)   (σ : St) (k : Int32 → St → Prop) : Prop :=
  x6_isRow_15 i0 0 σ k
def x6_isRow (i0 : Int32) (σ : St) (k : Int32 → St → Prop) : Prop :=
  (if i0 < 0 then x6_isRow_14 i0 σ k else (if 8 ≤ i0 then x6_isRow_14 i0 σ k else x6_isRow_15 i0 1 σ k))
def x6_copy_14 (i1 : Int32) (i2 : Int32) (i3 : Int32) (i4 : Int32) (i5 : Int32)   (σ : St) (k : Int32 → St → Prop) : Prop :=
  k ((-1000001)) σ
def x6_copy_97 (i1 : Int32) (i2 : Int32) (i3 : Int32) (i4 : Int32) (i5 : Int32)   (σ : St) (k : Int32 → St → Prop) : Prop :=
  x6_found 2 σ (fun r13 σ14 => k r13 σ14)
def x6_copy_49 (i1 : Int32) (i2 : Int32) (i3 : Int32) (i4 : Int32) (i5 : Int32)   (σ : St) (k : Int32 → St → Prop) : Prop :=
  x6_found 1 σ (fun r22 σ23 => k r22 σ23)
def x6_copy (i1 : Int32) (i2 : Int32) (i3 : Int32) (i4 : Int32) (i5 : Int32) (σ : St) (k : Int32 → St → Prop) : Prop :=
  x6_isRow i1 σ (fun r1 σ2 => (if r1 = 0 then x6_copy_14 i1 i2 i3 i4 i5 σ2 k else x6_isRow i3 σ2 (fun r3 σ4 => (if r3 = 0 then x6_copy_14 i1 i2 i3 i4 i5 σ4 k else (vp_in i1 8 ∧ (vp_in i3 8 ∧ x4_isMissing (2 + 2 * i1.toNatClampNeg) σ4 (fun r7 σ8 => (if r7 = 0 then x4_isMissing (2 + 2 * i3.toNatClampNeg) σ8 (fun r9 σ10 => (if r9 = 0 then (if (σ10 (2 + 2 * i1.toNatClampNeg) 1) = (σ10 (2 + 2 * i3.toNatClampNeg) 1) then x4_spans (2 + 2 * i1.toNatClampNeg) i2 i5 σ10 (fun r11 σ12 => (if r11 = 0 then x6_copy_97 i1 i2 i3 i4 i5 σ12 k else x4_spans (2 + 2 * i3.toNatClampNeg) i4 i5 σ12 (fun r15 σ16 => (if r15 = 0 then x6_copy_97 i1 i2 i3 i4 i5 σ16 k else (cpOk i2 i4 i5 (ln ((2 + 2 * i1.toNatClampNeg) + 1)) (ln ((2 + 2 * i3.toNatClampNeg) + 1)) ∧ lt (st_cp σ16 ((2 + 2 * i1.toNatClampNeg) + 1) i2.toNatClampNeg ((2 + 2 * i3.toNatClampNeg) + 1) i4.toNatClampNeg i5.toNatClampNeg) fun σ17 => x6_foundNone i5 σ17 (fun r18 σ19 => k r18 σ19)))))) else x6_found 5 σ10 (fun r20 σ21 => k r20 σ21)) else x6_copy_49 i1 i2 i3 i4 i5 σ10 k)) else x6_copy_49 i1 i2 i3 i4 i5 σ8 k))))))))
def x6_rowsThere_25  (R4 : Int32 → Int32 → St → Prop) (i1 : Int32) (i2 : Int32) (σ : St) (k : Int32 → St → Prop) : Prop :=
  R4 i1 (i2 + 1) σ
def x6_rowsThere_4   (k : Int32 → St → Prop) : Nat → Int32 → Int32 → St → Prop
  | 0, _, _, _ => False
  | n + 1, i1, i2, σ => (if 8 ≤ i2 then k i1 σ else (vp_in i2 8 ∧ x4_isMissing (2 + 2 * i2.toNatClampNeg) σ (fun r2 σ3 => (if r2 = 0 then x6_rowsThere_25 (x6_rowsThere_4 k n) (i1 + 1) i2 σ3 k else x6_rowsThere_25 (x6_rowsThere_4 k n) i1 i2 σ3 k))))
def x6_rowsThere  (σ : St) (k : Int32 → St → Prop) : Prop :=
  ∃ n4, x6_rowsThere_4 k n4 0 0 σ
def x6_count (i1 : Int32) (σ : St) (k : Int32 → St → Prop) : Prop :=
  (if i1 = 0 then x6_rowsThere  σ (fun r1 σ2 => k r1 σ2) else (if i1 = 1 then k (σ 19 8) σ else (if i1 = 2 then k (σ 19 9) σ else (if i1 = 3 then k (σ 19 10) σ else (if i1 = 4 then k (σ 19 11) σ else (if i1 = 5 then k (σ 19 12) σ else (if i1 = 6 then x5_metsAdded 19 σ (fun r3 σ4 => k r3 σ4) else (if i1 = 7 then k (σ 57 4) σ else (if i1 = 8 then k (σ 55 1) σ else k ((-1000001)) σ)))))))))
def x6_days_24 (i1 : Int32)   (σ : St) (k : Int32 → St → Prop) : Prop :=
  k ((-1000001)) σ
def x6_days_49 (i1 : Int32)  (k : Int32 → St → Prop) : Nat → Int32 → Int32 → St → Prop
  | 0, _, _, _ => False
  | n + 1, i2, i3, σ => (if i1 ≤ i3 then k i2 σ else x5_passDay 19 σ (fun r3 σ4 => x0_keep 3 0 r3 σ4 (fun σ6 => x6_days_49 i1 k n r3 (i3 + 1) σ6)))
def x6_days (i1 : Int32) (σ : St) (k : Int32 → St → Prop) : Prop :=
  x5_isTold 19 σ (fun r1 σ2 => (if r1 = 0 then k ((-1000002)) σ2 else (if i1 < 1 then x6_days_24 i1 σ2 k else (if i1 ≤ 24 then (if ((σ2 19 12) + i1) ≤ 999 then ∃ n49, x6_days_49 i1 k n49 0 0 σ2 else k ((-1000003)) σ2) else x6_days_24 i1 σ2 k))))
def x6_door (i1 : Int32) (i2 : Int32) (σ : St) (k : Int32 → St → Prop) : Prop :=
  x5_hasDoor 19 i1 σ (fun r1 σ2 => (if r1 = 0 then k ((-1000001)) σ2 else (if i2 = 0 then (vp_in i1 (ln (19 + 1)) ∧ k (σ2 (19 + 1) i1.toNatClampNeg) σ2) else (if i2 = 1 then (vp_in i1 (ln (19 + 2)) ∧ k (σ2 (19 + 2) i1.toNatClampNeg) σ2) else (if i2 = 2 then (vp_in i1 (ln (19 + 3)) ∧ k (σ2 (19 + 3) i1.toNatClampNeg) σ2) else (if i2 = 3 then (vp_in i1 (ln (19 + 4)) ∧ k (σ2 (19 + 4) i1.toNatClampNeg) σ2) else (if i2 = 4 then x5_heardAt 19 i1 σ2 (fun r3 σ4 => k r3 σ4) else (if i2 = 5 then x5_opensBehind 19 i1 σ2 (fun r5 σ6 => k r5 σ6) else (if i2 = 6 then x5_callersAt 19 i1 σ2 (fun r7 σ8 => k r7 σ8) else k ((-1000001)) σ2)))))))))
def x6_drawn_42 (i1 : Int32) (i2 : Int32) (i3 : Int32)   (σ : St) (k : Int32 → St → Prop) : Prop :=
  k ((-1000001)) σ
def x6_drawn_130 (i1 : Int32) (i2 : Int32) (i3 : Int32)  (s0 : Int32) (σ : St) (k : Int32 → St → Prop) : Prop :=
  k s0 σ
def x6_drawn_66 (i1 : Int32) (i2 : Int32) (i3 : Int32)  (k : Int32 → St → Prop) : Nat → Int32 → Int64 → Int32 → St → Prop
  | 0, _, _, _, _ => False
  | n + 1, i4, l5, i7, σ => (if i1 ≤ i7 then (if i3 = 0 then x6_drawn_130 i1 i2 i3 i4 σ k else x5_placesAdded 28 σ (fun r8 σ9 => x6_drawn_130 i1 i2 i3 r8 σ9 k)) else (¬ (2147483647 : Int64) = 0 ∧ lt ((l5 * 16807) % 2147483647) fun v10 => x5_layByDraw 28 v10 σ (fun σ12 => x5_passDay 28 σ12 (fun r13 σ14 => xJ6_bitCount_0f7a4 r13 σ14 (fun r15 σ16 => lt (i4 + r15) fun v17 => x6_drawn_66 i1 i2 i3 k n v17 v10 (i7 + 1) σ16)))))
def x6_drawn (i1 : Int32) (i2 : Int32) (i3 : Int32) (σ : St) (k : Int32 → St → Prop) : Prop :=
  x5_isTold 19 σ (fun r1 σ2 => (if r1 = 0 then k ((-1000002)) σ2 else (if i1 < 0 then x6_drawn_42 i1 i2 i3 σ2 k else (if 60 < i1 then x6_drawn_42 i1 i2 i3 σ2 k else (if i2 < 1 then x6_drawn_42 i1 i2 i3 σ2 k else (if 999999 < i2 then x6_drawn_42 i1 i2 i3 σ2 k else x6_isBit i3 σ2 (fun r3 σ4 => (if r3 = 0 then x6_drawn_42 i1 i2 i3 σ4 k else x5_takeOver 28 19 σ4 (fun σ6 => lt i2.toInt64 fun v7 => ∃ n66, x6_drawn_66 i1 i2 i3 k n66 0 v7 0 σ6)))))))))
def x6_drop (i1 : Int32) (σ : St) (k : Int32 → St → Prop) : Prop :=
  x6_isRow i1 σ (fun r1 σ2 => (if r1 = 0 then k ((-1000001)) σ2 else (vp_in i1 8 ∧ x4_isMissing (2 + 2 * i1.toNatClampNeg) σ2 (fun r4 σ5 => (if r4 = 0 then lt (σ5 (2 + 2 * i1.toNatClampNeg) 2) fun v6 => x4_begin (2 + 2 * i1.toNatClampNeg) ((-1)) 0 σ5 (fun σ8 => x6_foundNone v6 σ8 (fun r9 σ10 => k r9 σ10)) else x6_found 1 σ5 (fun r11 σ12 => k r11 σ12))))))
def x6_fault  (σ : St) (k : Int32 → St → Prop) : Prop :=
  k (σ 0 8) σ
def x6_feed_11 (i1 : Int32)   (σ : St) (k : Int32 → St → Prop) : Prop :=
  k ((-1000001)) σ
def x6_feed_37 (i1 : Int32)  (s0 : Int32) (σ : St) (k : Int32 → St → Prop) : Prop :=
  k s0 σ
def x6_feed (i1 : Int32) (σ : St) (k : Int32 → St → Prop) : Prop :=
  (if i1 < 0 then x6_feed_11 i1 σ k else (if i1 ≤ 255 then x3_take i1 σ (fun r1 σ2 => (if r1 = 0 then x6_feed_37 i1 ((-1000003)) σ2 k else x6_feed_37 i1 (σ2 55 1) σ2 k)) else x6_feed_11 i1 σ k))
def x6_findingAt_23 (o0 : Nat) (i1 : Int32) (i2 : Int32)  (s0 : Int32) (σ : St) (k : Int32 → St → Prop) : Prop :=
  k s0 σ
def x6_findingAt (o0 : Nat) (i1 : Int32) (i2 : Int32) (σ : St) (k : Int32 → St → Prop) : Prop :=
  x4_isMissing o0 σ (fun r1 σ2 => (if r1 = 0 then x4_spans o0 i1 i2 σ2 (fun r3 σ4 => (if r3 = 0 then x6_findingAt_23 o0 i1 i2 2 σ4 k else x6_findingAt_23 o0 i1 i2 0 σ4 k)) else k 1 σ2))
def x6_image (i1 : Int32) (σ : St) (k : Int32 → St → Prop) : Prop :=
  x6_isBit i1 σ (fun r1 σ2 => (if r1 = 0 then k ((-1000001)) σ2 else x5_isTold 19 σ2 (fun r3 σ4 => (if r3 = 0 then k ((-1000002)) σ4 else (vp_in i1 2 ∧ x5_takeOver (37 + 9 * i1.toNatClampNeg) 19 σ4 (fun σ7 => k 1 σ7))))))
def x6_kind_25 (i1 : Int32)  (s0 : Int32) (σ : St) (k : Int32 → St → Prop) : Prop :=
  k s0 σ
def x6_kind (i1 : Int32) (σ : St) (k : Int32 → St → Prop) : Prop :=
  x5_hasCaller 19 i1 σ (fun r1 σ2 => (if r1 = 0 then x6_kind_25 i1 ((-1000001)) σ2 k else (vp_in i1 (ln (19 + 5)) ∧ x6_kind_25 i1 (σ2 (19 + 5) i1.toNatClampNeg) σ2 k)))
def x6_least_38 (i1 : Int32) (i2 : Int32) (i3 : Int32)   (σ : St) (k : Int32 → St → Prop) : Prop :=
  k ((-1000001)) σ
def x6_least_97 (i1 : Int32) (i2 : Int32) (i3 : Int32)  (s0 : Int32) (σ : St) (k : Int32 → St → Prop) : Prop :=
  k s0 σ
def x6_least_41 (i1 : Int32) (i2 : Int32) (i3 : Int32)   (σ : St) (k : Int32 → St → Prop) : Prop :=
  x2_weigh 19 i1 i2 σ (fun σ6 => x2_choose  σ6 (fun r7 σ8 => (if r7 = 0 then k ((-1000000)) σ8 else (if i3 = ((-1)) then x6_least_97 i1 i2 i3 (σ8 61 3) σ8 k else x2_codeAt i3 (σ8 61 2) σ8 (fun r9 σ10 => x6_least_97 i1 i2 i3 r9 σ10 k)))))
def x6_least (i1 : Int32) (i2 : Int32) (i3 : Int32) (σ : St) (k : Int32 → St → Prop) : Prop :=
  x5_isTold 19 σ (fun r1 σ2 => (if r1 = 0 then k ((-1000002)) σ2 else x6_areApartSets i1 i2 σ2 (fun r3 σ4 => (if r3 = 0 then x6_least_38 i1 i2 i3 σ4 k else (if i3 = ((-1)) then x6_least_41 i1 i2 i3 σ4 k else x5_hasDoor 19 i3 σ4 (fun r11 σ12 => (if r11 = 0 then x6_least_38 i1 i2 i3 σ12 k else x6_least_41 i1 i2 i3 σ12 k)))))))
def x6_meetingCases_112 (i1 : Int32) (i2 : Int32) (R18 : Int32 → Int32 → Int32 → St → Prop) (i3 : Int32) (i4 : Int32) (i5 : Int32) (σ : St) (k : Int32 → St → Prop) : Prop :=
  R18 i3 i4 (i5 + 1) σ
def x6_meetingCases_88 (i1 : Int32) (i2 : Int32) (R18 : Int32 → Int32 → Int32 → St → Prop) (R42 : Int32 → Int32 → Int32 → Int32 → Int32 → St → Prop) (i3 : Int32) (i4 : Int32) (i5 : Int32) (i6 : Int32) (i7 : Int32) (σ : St) (k : Int32 → St → Prop) : Prop :=
  R42 i3 i4 i5 i6 (i7 + 1) σ
def x6_meetingCases_42 (i1 : Int32) (i2 : Int32) (R18 : Int32 → Int32 → Int32 → St → Prop) (k : Int32 → St → Prop) : Nat → Int32 → Int32 → Int32 → Int32 → Int32 → St → Prop
  | 0, _, _, _, _, _, _ => False
  | n + 1, i3, i4, i5, i6, i7, σ => (if 3 ≤ i7 then x5_isMeeting 28 i1 σ (fun r4 σ5 => (if r4 = 0 then x6_meetingCases_112 i1 i2 R18 i3 i4 i5 σ5 k else lt (i4 + i6) fun v6 => x6_meetingCases_112 i1 i2 R18 i3 v6 i5 σ5 k)) else (if ((i5 >>> (i7 &&& 31)) &&& 1) = 1 then lt (i6 * i2) fun v7 => x5_clearDoor 28 (i3 + i7) σ (fun σ9 => x6_meetingCases_88 i1 i2 R18 (x6_meetingCases_42 i1 i2 R18 k n) i3 i4 i5 v7 i7 σ9 k) else lt (i6 * (10 - i2)) fun v10 => x6_meetingCases_88 i1 i2 R18 (x6_meetingCases_42 i1 i2 R18 k n) i3 i4 i5 v10 i7 σ k))
def x6_meetingCases_18 (i1 : Int32) (i2 : Int32)  (k : Int32 → St → Prop) : Nat → Int32 → Int32 → Int32 → St → Prop
  | 0, _, _, _, _ => False
  | n + 1, i3, i4, i5, σ => (if 8 ≤ i5 then k i4 σ else x5_takeOver 28 19 σ (fun σ3 => ∃ n42, x6_meetingCases_42 i1 i2 (x6_meetingCases_18 i1 i2 k n) k n42 i3 i4 i5 1 0 σ3))
def x6_meetingCases (i1 : Int32) (i2 : Int32) (σ : St) (k : Int32 → St → Prop) : Prop :=
  (vp_in i1 (ln (19 + 6)) ∧ lt ((σ (19 + 6) i1.toNatClampNeg) - 1) fun v1 => ∃ n18, x6_meetingCases_18 i1 i2 k n18 v1 0 0 σ)
def x6_meets_22   (s0 : Int32) (σ : St) (k : Int32 → St → Prop) : Prop :=
  k s0 σ
def x6_meets  (σ : St) (k : Int32 → St → Prop) : Prop :=
  x5_isTold 19 σ (fun r1 σ2 => (if r1 = 0 then x6_meets_22 ((-1000002)) σ2 k else x5_meetingNow 19 σ2 (fun r3 σ4 => x6_meets_22 r3 σ4 k)))
def x6_nothing_22   (s0 : Int32) (σ : St) (k : Int32 → St → Prop) : Prop :=
  k s0 σ
def x6_nothing  (σ : St) (k : Int32 → St → Prop) : Prop :=
  x5_isTold 19 σ (fun r1 σ2 => (if r1 = 0 then x6_nothing_22 ((-1000002)) σ2 k else x5_firstOnNothing 19 σ2 (fun r3 σ4 => x6_nothing_22 r3 σ4 k)))
def x6_steadyWays_73 (o0 : Nat) (i1 : Int32) (R4 : Int32 → Int32 → St → Prop) (i2 : Int32) (i3 : Int32) (σ : St) (k : Int32 → St → Prop) : Prop :=
  R4 i2 (i3 + 1) σ
def x6_steadyWays_55 (o0 : Nat) (i1 : Int32) (R4 : Int32 → Int32 → St → Prop) (i2 : Int32) (i3 : Int32) (i4 : Int32) (s0 : Int32) (σ : St) (k : Int32 → St → Prop) : Prop :=
  (if i4 = 0 then x6_steadyWays_73 o0 i1 R4 i2 i3 σ k else (if s0 = 0 then x6_steadyWays_73 o0 i1 R4 i2 i3 σ k else lt (i2 ||| (1 <<< (i3 &&& 31))) fun v1 => x6_steadyWays_73 o0 i1 R4 v1 i3 σ k))
def x6_steadyWays_29 (o0 : Nat) (i1 : Int32) (R4 : Int32 → Int32 → St → Prop) (i2 : Int32) (i3 : Int32) (s0 : Int32) (σ : St) (k : Int32 → St → Prop) : Prop :=
  (vp_in ((i1 + 4) + i3) (ln o0) ∧ (vp_in ((i1 + 4) + (i3 ^^^ 1)) (ln o0) ∧ (if (σ o0 ((i1 + 4) + i3).toNatClampNeg) < (σ o0 ((i1 + 4) + (i3 ^^^ 1)).toNatClampNeg) then x6_steadyWays_55 o0 i1 R4 i2 i3 s0 0 σ k else x6_steadyWays_55 o0 i1 R4 i2 i3 s0 1 σ k)))
def x6_steadyWays_4 (o0 : Nat) (i1 : Int32)  (k : Int32 → St → Prop) : Nat → Int32 → Int32 → St → Prop
  | 0, _, _, _ => False
  | n + 1, i2, i3, σ => (if 4 ≤ i3 then k i2 σ else (vp_in (i1 + i3) (ln o0) ∧ (vp_in (i1 + (i3 ^^^ 2)) (ln o0) ∧ (if (σ o0 (i1 + i3).toNatClampNeg) < (σ o0 (i1 + (i3 ^^^ 2)).toNatClampNeg) then x6_steadyWays_29 o0 i1 (x6_steadyWays_4 o0 i1 k n) i2 i3 0 σ k else x6_steadyWays_29 o0 i1 (x6_steadyWays_4 o0 i1 k n) i2 i3 1 σ k))))
def x6_steadyWays (o0 : Nat) (i1 : Int32) (σ : St) (k : Int32 → St → Prop) : Prop :=
  ∃ n4, x6_steadyWays_4 o0 i1 k n4 0 0 σ
def x6_rather_14 (i1 : Int32) (i2 : Int32) (i3 : Int32)   (σ : St) (k : Int32 → St → Prop) : Prop :=
  k ((-1000001)) σ
def x6_rather_120 (i1 : Int32) (i2 : Int32) (i3 : Int32)  (s1 : Int32) (σ : St) (k : Int32 → St → Prop) : Prop :=
  x6_foundNone s1 σ (fun r12 σ13 => k r12 σ13)
def x6_rather_85 (i1 : Int32) (i2 : Int32) (i3 : Int32)   (σ : St) (k : Int32 → St → Prop) : Prop :=
  k ((-1000001)) σ
def x6_rather_50 (i1 : Int32) (i2 : Int32) (i3 : Int32)  (k : Int32 → St → Prop) : Nat → Nat → Int32 → St → Prop
  | 0, _, _, _ => False
  | n + 1, o4, i6, σ => (if (i2 + 8) ≤ i6 then x6_steadyWays (o4 + 1) i2 σ (fun r8 σ9 => (if i3 = 0 then xJ6_bitCount_0f7a4 r8 σ9 (fun r10 σ11 => x6_rather_120 i1 i2 i3 r10 σ11 k) else x6_rather_120 i1 i2 i3 r8 σ9 k)) else (vp_in i6 (ln (o4 + 1)) ∧ (if (σ (o4 + 1) i6.toNatClampNeg) < ((-20)) then x6_rather_85 i1 i2 i3 σ k else (vp_in i6 (ln (o4 + 1)) ∧ (if (σ (o4 + 1) i6.toNatClampNeg) ≤ 20 then x6_rather_50 i1 i2 i3 k n o4 (i6 + 1) σ else x6_rather_85 i1 i2 i3 σ k)))))
def x6_rather (i1 : Int32) (i2 : Int32) (i3 : Int32) (σ : St) (k : Int32 → St → Prop) : Prop :=
  x6_isRow i1 σ (fun r1 σ2 => (if r1 = 0 then x6_rather_14 i1 i2 i3 σ2 k else x6_isBit i3 σ2 (fun r3 σ4 => (if r3 = 0 then x6_rather_14 i1 i2 i3 σ4 k else (vp_in i1 8 ∧ x6_findingAt (2 + 2 * i1.toNatClampNeg) i2 8 σ4 (fun r6 σ7 => (if r6 = 0 then ∃ n50, x6_rather_50 i1 i2 i3 k n50 (2 + 2 * i1.toNatClampNeg) i2 σ7 else x6_found r6 σ7 (fun r14 σ15 => k r14 σ15))))))))
def x6_reaches_18 (i1 : Int32) (i2 : Int32)   (σ : St) (k : Int32 → St → Prop) : Prop :=
  k ((-1000001)) σ
def x6_reaches (i1 : Int32) (i2 : Int32) (σ : St) (k : Int32 → St → Prop) : Prop :=
  x5_hasDoor 19 i1 σ (fun r1 σ2 => (if r1 = 0 then x6_reaches_18 i1 i2 σ2 k else x6_isBit i2 σ2 (fun r3 σ4 => (if r3 = 0 then x6_reaches_18 i1 i2 σ4 k else (if i2 = 0 then lt ((7 <<< (i1 &&& 31)) >>> (1 &&& 31)) fun v5 => x5_allDoors 19 σ4 (fun r6 σ7 => k (v5 &&& r6) σ7) else x5_takeOver 28 19 σ4 (fun σ9 => (vp_in i1 (ln (28 + 3)) ∧ lt (st_up σ9 (28 + 3) i1.toNatClampNeg 0) fun σ10 => (vp_in i1 (ln (28 + 4)) ∧ lt (st_up σ10 (28 + 4) i1.toNatClampNeg 0) fun σ11 => x5_meetingNow 19 σ11 (fun r12 σ13 => x5_meetingNow 28 σ13 (fun r14 σ15 => k (r12 ^^^ r14) σ15))))))))))
def x6_restore (i1 : Int32) (σ : St) (k : Int32 → St → Prop) : Prop :=
  x6_isBit i1 σ (fun r1 σ2 => (if r1 = 0 then k ((-1000001)) σ2 else (vp_in i1 2 ∧ x5_isTold (37 + 9 * i1.toNatClampNeg) σ2 (fun r4 σ5 => (if r4 = 0 then k ((-1000002)) σ5 else (vp_in i1 2 ∧ x5_takeOver 19 (37 + 9 * i1.toNatClampNeg) σ5 (fun σ8 => x0_forgetAll  σ8 (fun σ10 => k 1 σ10))))))))
def x6_row_22 (i1 : Int32) (i2 : Int32) (i3 : Int32)   (σ : St) (k : Int32 → St → Prop) : Prop :=
  k ((-1000001)) σ
def x6_row (i1 : Int32) (i2 : Int32) (i3 : Int32) (σ : St) (k : Int32 → St → Prop) : Prop :=
  x6_isRow i1 σ (fun r1 σ2 => (if r1 = 0 then x6_row_22 i1 i2 i3 σ2 k else (if i2 < 0 then x6_row_22 i1 i2 i3 σ2 k else (if 2 < i2 then x6_row_22 i1 i2 i3 σ2 k else (if i3 ≤ 40 then (if 0 ≤ i3 then (vp_in i1 8 ∧ x4_begin (2 + 2 * i1.toNatClampNeg) i2 i3 σ2 (fun σ5 => x6_foundNone i3 σ5 (fun r6 σ7 => k r6 σ7))) else x6_found 4 σ2 (fun r8 σ9 => k r8 σ9)) else x6_row_22 i1 i2 i3 σ2 k)))))
def x6_set (i1 : Int32) (i2 : Int32) (i3 : Int32) (σ : St) (k : Int32 → St → Prop) : Prop :=
  x6_isRow i1 σ (fun r1 σ2 => (if r1 = 0 then k ((-1000001)) σ2 else (vp_in i1 8 ∧ x6_findingAt (2 + 2 * i1.toNatClampNeg) i2 1 σ2 (fun r4 σ5 => (if r4 = 0 then x4_narrowed (2 + 2 * i1.toNatClampNeg) i3 σ5 (fun r6 σ7 => (vp_in i2 (ln ((2 + 2 * i1.toNatClampNeg) + 1)) ∧ lt (st_up σ7 ((2 + 2 * i1.toNatClampNeg) + 1) i2.toNatClampNeg r6) fun σ8 => (vp_in i2 (ln ((2 + 2 * i1.toNatClampNeg) + 1)) ∧ x6_foundNone (σ8 ((2 + 2 * i1.toNatClampNeg) + 1) i2.toNatClampNeg) σ8 (fun r9 σ10 => k r9 σ10)))) else x6_found r4 σ5 (fun r11 σ12 => k r11 σ12))))))
def x6_sleeps_28 (i1 : Int32) (i2 : Int32) (i3 : Int32)   (σ : St) (k : Int64 → St → Prop) : Prop :=
  k ((-1000001)) σ
def x6_sleeps_66 (i1 : Int32) (i2 : Int32) (i3 : Int32)  (i5 : Int32) (s0 : Int32) (σ : St) (k : Int64 → St → Prop) : Prop :=
  (¬ i5 = 0 ∧ k ((s0 / i5 : Int32).toInt64) σ)
def x6_sleeps (i1 : Int32) (i2 : Int32) (i3 : Int32) (σ : St) (k : Int64 → St → Prop) : Prop :=
  x5_hasCaller 19 i1 σ (fun r1 σ2 => (if r1 = 0 then x6_sleeps_28 i1 i2 i3 σ2 k else (if i2 < 0 then x6_sleeps_28 i1 i2 i3 σ2 k else (if 10 < i2 then x6_sleeps_28 i1 i2 i3 σ2 k else x6_isBit i3 σ2 (fun r3 σ4 => (if r3 = 0 then x6_sleeps_28 i1 i2 i3 σ4 k else x6_meetingCases i1 i2 σ4 (fun r5 σ6 => x6_commonDivisor 1000 r5 σ6 (fun r7 σ8 => lt (imax 1 r7) fun v9 => (if i3 = 0 then x6_sleeps_66 i1 i2 i3 v9 r5 σ8 k else x6_sleeps_66 i1 i2 i3 v9 1000 σ8 k)))))))))
def x6_soon_33 (i1 : Int32)  (s0 : Int32) (σ : St) (k : Int32 → St → Prop) : Prop :=
  k s0 σ
def x6_soon (i1 : Int32) (σ : St) (k : Int32 → St → Prop) : Prop :=
  x5_hasCaller 19 i1 σ (fun r1 σ2 => (if r1 = 0 then x6_soon_33 i1 ((-1000001)) σ2 k else (vp_in i1 (ln (19 + 5)) ∧ x5_firstMeeting 19 i1 (σ2 (19 + 5) i1.toNatClampNeg) σ2 (fun r3 σ4 => x6_soon_33 i1 r3 σ4 k))))
def x6_sound_25 (i1 : Int32) (i2 : Int32) (i3 : Int32)   (σ : St) (k : Int32 → St → Prop) : Prop :=
  k ((-1000001)) σ
def x6_sound_87 (i1 : Int32) (i2 : Int32) (i3 : Int32)  (o4 : Nat) (σ : St) (k : Int32 → St → Prop) : Prop :=
  (vp_in i1 (ln o4) ∧ lt (st_up σ o4 i1.toNatClampNeg i3) fun σ9 => x0_keep i2 i1 (1 - i3) σ9 (fun σ11 => x5_usedSounds 19 σ11 (fun r12 σ13 => k r12 σ13)))
def x6_sound_49 (i1 : Int32) (i2 : Int32) (i3 : Int32)  (so0 : Nat) (σ : St) (k : Int32 → St → Prop) : Prop :=
  (vp_in i1 (ln so0) ∧ (if (σ so0 i1.toNatClampNeg) = i3 then k ((-1000002)) σ else (if i3 = 1 then x5_usedSounds 19 σ (fun r7 σ8 => (if r7 < (σ8 19 11) then x6_sound_87 i1 i2 i3 so0 σ8 k else k ((-1000003)) σ8)) else x6_sound_87 i1 i2 i3 so0 σ k)))
def x6_sound (i1 : Int32) (i2 : Int32) (i3 : Int32) (σ : St) (k : Int32 → St → Prop) : Prop :=
  x5_hasDoor 19 i1 σ (fun r1 σ2 => (if r1 = 0 then x6_sound_25 i1 i2 i3 σ2 k else x6_isBit i2 σ2 (fun r3 σ4 => (if r3 = 0 then x6_sound_25 i1 i2 i3 σ4 k else x6_isBit i3 σ4 (fun r5 σ6 => (if r5 = 0 then x6_sound_25 i1 i2 i3 σ6 k else (if i2 = 0 then x6_sound_49 i1 i2 i3 (19 + 3) σ6 k else x6_sound_49 i1 i2 i3 (19 + 4) σ6 k)))))))
def x6_status  (σ : St) (k : Int32 → St → Prop) : Prop :=
  k (σ 0 9) σ
def x6_street  (σ : St) (k : Int32 → St → Prop) : Prop :=
  x3_readInto 28 σ (fun r1 σ2 => lt (st_up σ2 55 1 0) fun σ3 => (if r1 = 0 then lt (st_up σ3 0 8 (σ3 55 4)) fun σ4 => k (((-1000100)) - (σ4 55 3)) σ4 else x5_takeOver 19 28 σ3 (fun σ6 => x0_forgetAll  σ6 (fun σ8 => k (σ8 19 9) σ8))))
def x6_stretch_20 (i1 : Int32) (i2 : Int32)   (σ : St) (k : Int32 → St → Prop) : Prop :=
  k ((-1000001)) σ
def x6_stretch (i1 : Int32) (i2 : Int32) (σ : St) (k : Int32 → St → Prop) : Prop :=
  x5_hasDoor 19 i1 σ (fun r1 σ2 => (if r1 = 0 then x6_stretch_20 i1 i2 σ2 k else (if i2 < 0 then x6_stretch_20 i1 i2 σ2 k else (if i2 ≤ 5 then (vp_in i1 (ln (19 + 2)) ∧ lt (σ2 (19 + 2) i1.toNatClampNeg) fun v3 => x5_usedSeconds 19 σ2 (fun r4 σ5 => (if ((r4 - v3) + i2) ≤ (σ5 19 10) then (vp_in i1 (ln (19 + 2)) ∧ lt (st_up σ5 (19 + 2) i1.toNatClampNeg i2) fun σ6 => x0_keep 2 i1 v3 σ6 (fun σ8 => k v3 σ8)) else k ((-1000003)) σ5))) else x6_stretch_20 i1 i2 σ2 k))))
def x6_trace_29 (i1 : Int32)  (s0 : Int32) (σ : St) (k : Int32 → St → Prop) : Prop :=
  k s0 σ
def x6_trace_27 (i1 : Int32)   (σ : St) (k : Int32 → St → Prop) : Prop :=
  x6_trace_29 i1 ((-1000000)) σ k
def x6_trace (i1 : Int32) (σ : St) (k : Int32 → St → Prop) : Prop :=
  (if i1 < 0 then x6_trace_27 i1 σ k else (if (σ 63 1) ≤ i1 then x6_trace_27 i1 σ k else (vp_in i1 (ln 64) ∧ x6_trace_29 i1 (σ 64 i1.toNatClampNeg) σ k)))
def x6_undo  (σ : St) (k : Int32 → St → Prop) : Prop :=
  (if (σ 57 4) = 0 then k ((-1000002)) σ else x0_takeBackLatest 19 σ (fun σ2 => k (σ2 57 4) σ2))
def x6_used_44 (i1 : Int32)  (s0 : Int32) (σ : St) (k : Int32 → St → Prop) : Prop :=
  k s0 σ
def x6_used (i1 : Int32) (σ : St) (k : Int32 → St → Prop) : Prop :=
  x5_isTold 19 σ (fun r1 σ2 => (if r1 = 0 then k ((-1000002)) σ2 else x6_isBit i1 σ2 (fun r3 σ4 => (if r3 = 0 then k ((-1000001)) σ4 else (if i1 = 0 then x5_usedSeconds 19 σ4 (fun r5 σ6 => x6_used_44 i1 r5 σ6 k) else x5_usedSounds 19 σ4 (fun r7 σ8 => x6_used_44 i1 r7 σ8 k))))))
def x6_whichDoor (i1 : Int32) (i2 : Int32) (σ : St) (k : Int32 → St → Prop) : Prop :=
  x5_isTold 19 σ (fun r1 σ2 => (if r1 = 0 then k ((-1000002)) σ2 else x6_areApartSets i1 i2 σ2 (fun r3 σ4 => (if r3 = 0 then k ((-1000001)) σ4 else x2_weigh 19 i1 i2 σ4 (fun σ6 => x2_firstThatCanNot  σ6 (fun r7 σ8 => k r7 σ8))))))
def x6_who_31 (i1 : Int32) (i2 : Int32) (i3 : Int32) (i4 : Int32)   (σ : St) (k : Int32 → St → Prop) : Prop :=
  k ((-1000001)) σ
def x6_who_106 (i1 : Int32) (i2 : Int32) (i3 : Int32) (i4 : Int32) (R70 : Nat → Int32 → Int32 → St → Prop) (o5 : Nat) (i7 : Int32) (i8 : Int32) (σ : St) (k : Int32 → St → Prop) : Prop :=
  R70 o5 i7 (i8 + 1) σ
def x6_who_70 (i1 : Int32) (i2 : Int32) (i3 : Int32) (i4 : Int32)  (k : Int32 → St → Prop) : Nat → Nat → Int32 → Int32 → St → Prop
  | 0, _, _, _, _ => False
  | n + 1, o5, i7, i8, σ => (if 5 < i8 then x6_foundNone i7 σ (fun r8 σ9 => k r8 σ9) else x5_firstMeeting 19 i1 i8 σ (fun r10 σ11 => x4_tellsMeetingsFrom o5 r10 i3 i4 σ11 (fun r12 σ13 => (if r12 = 0 then x6_who_106 i1 i2 i3 i4 (x6_who_70 i1 i2 i3 i4 k n) o5 i7 i8 σ13 k else lt (i7 ||| (1 <<< (i8 &&& 31))) fun v14 => x6_who_106 i1 i2 i3 i4 (x6_who_70 i1 i2 i3 i4 k n) o5 v14 i8 σ13 k))))
def x6_who (i1 : Int32) (i2 : Int32) (i3 : Int32) (i4 : Int32) (σ : St) (k : Int32 → St → Prop) : Prop :=
  x5_hasCaller 19 i1 σ (fun r1 σ2 => (if r1 = 0 then x6_who_31 i1 i2 i3 i4 σ2 k else x6_isRow i2 σ2 (fun r3 σ4 => (if r3 = 0 then x6_who_31 i1 i2 i3 i4 σ4 k else (if i4 < 1 then x6_who_31 i1 i2 i3 i4 σ4 k else (if i4 ≤ 12 then (vp_in i2 8 ∧ x6_findingAt (2 + 2 * i2.toNatClampNeg) i3 i4 σ4 (fun r6 σ7 => (if r6 = 0 then ∃ n70, x6_who_70 i1 i2 i3 i4 k n70 (2 + 2 * i2.toNatClampNeg) 0 1 σ7 else x6_found r6 σ7 (fun r15 σ16 => k r15 σ16)))) else x6_who_31 i1 i2 i3 i4 σ4 k))))))
def x7_lay_3 (o0 : Nat) (i1 : Int32) (o2 : Nat) (i3 : Int32)  (k : St → Prop) : Nat → Int32 → St → Prop
  | 0, _, _ => False
  | n + 1, i4, σ => (if 53 ≤ i4 then k σ else (vp_in (i1 + i4) (ln o0) ∧ (vp_in (i3 + i4) (ln o2) ∧ lt (st_up σ o2 (i3 + i4).toNatClampNeg (σ o0 (i1 + i4).toNatClampNeg)) fun σ1 => x7_lay_3 o0 i1 o2 i3 k n (i4 + 1) σ1)))
def x7_lay (o0 : Nat) (i1 : Int32) (o2 : Nat) (i3 : Int32) (σ : St) (k : St → Prop) : Prop :=
  ∃ n3, x7_lay_3 o0 i1 o2 i3 k n3 0 σ
def x7_act_49    (σ : St) (k : St → Prop) : Prop :=
  x7_lay 70 0 75 (53 * (σ 65 18)) σ (fun σ3 => lt (st_up σ3 65 18 ((σ3 65 18) + 1)) fun σ4 => k σ4)
def x7_act_11   (k : St → Prop) : Nat → Int32 → St → Prop
  | 0, _, _ => False
  | n + 1, i1, σ => (if 1219 ≤ i1 then lt (st_up σ 65 18 ((σ 65 18) - 1)) fun σ1 => x7_act_49 σ1 k else (vp_in (i1 + 53) (ln 75) ∧ (vp_in i1 (ln 75) ∧ lt (st_up σ 75 i1.toNatClampNeg (σ 75 (i1 + 53).toNatClampNeg)) fun σ5 => x7_act_11 k n (i1 + 1) σ5)))
def x7_act  (σ : St) (k : St → Prop) : Prop :=
  (if (σ 65 18) = 24 then ∃ n11, x7_act_11 k n11 0 σ else x7_act_49 σ k)
def x7_in_15 (i0 : Int32) (i1 : Int32) (i2 : Int32)  (s0 : Int32) (σ : St) (k : Int32 → St → Prop) : Prop :=
  (isB s0 ∧ k s0 σ)
def x7_in_14 (i0 : Int32) (i1 : Int32) (i2 : Int32)   (σ : St) (k : Int32 → St → Prop) : Prop :=
  x7_in_15 i0 i1 i2 0 σ k
def x7_in (i0 : Int32) (i1 : Int32) (i2 : Int32) (σ : St) (k : Int32 → St → Prop) : Prop :=
  (if i0 < i1 then x7_in_14 i0 i1 i2 σ k else (if i2 < i0 then x7_in_14 i0 i1 i2 σ k else x7_in_15 i0 i1 i2 1 σ k))
def x7_isOne (i1 : Int32) (σ : St) (k : Int32 → St → Prop) : Prop :=
  (vp_in 3 (ln 70) ∧ x7_in i1 0 ((σ 70 (3 : Int32).toNatClampNeg) - 1) σ (fun r1 σ2 => (isB r1 ∧ k r1 σ2)))
def x7_isHeard_72 (o0 : Nat) (i1 : Int32)  (s0 : Int32) (σ : St) (k : Int32 → St → Prop) : Prop :=
  (isB s0 ∧ k s0 σ)
def x7_isHeard_67 (o0 : Nat) (i1 : Int32)   (σ : St) (k : Int32 → St → Prop) : Prop :=
  x7_isHeard_72 o0 i1 1 σ k
def x7_isHeard_48 (o0 : Nat) (i1 : Int32)  (i2 : Int32) (s0 : Int32) (σ : St) (k : Int32 → St → Prop) : Prop :=
  (vp_in (23 + i1) (ln o0) ∧ (if (σ o0 (23 + i1).toNatClampNeg) = 1 then x7_isHeard_67 o0 i1 σ k else (if i2 = 0 then (if s0 = 0 then x7_isHeard_72 o0 i1 0 σ k else x7_isHeard_67 o0 i1 σ k) else x7_isHeard_67 o0 i1 σ k)))
def x7_isHeard_47 (o0 : Nat) (i1 : Int32)  (i2 : Int32) (σ : St) (k : Int32 → St → Prop) : Prop :=
  x7_isHeard_48 o0 i1 i2 0 σ k
def x7_isHeard_21 (o0 : Nat) (i1 : Int32)  (s0 : Int32) (σ : St) (k : Int32 → St → Prop) : Prop :=
  (vp_in 2 (ln o0) ∧ (if (σ o0 (2 : Int32).toNatClampNeg) ≤ (i1 + 1) then x7_isHeard_47 o0 i1 s0 σ k else (vp_in ((23 + i1) + 1) (ln o0) ∧ (if (σ o0 ((23 + i1) + 1).toNatClampNeg) = 1 then x7_isHeard_48 o0 i1 s0 1 σ k else x7_isHeard_47 o0 i1 s0 σ k))))
def x7_isHeard_20 (o0 : Nat) (i1 : Int32)   (σ : St) (k : Int32 → St → Prop) : Prop :=
  x7_isHeard_21 o0 i1 0 σ k
def x7_isHeard (o0 : Nat) (i1 : Int32) (σ : St) (k : Int32 → St → Prop) : Prop :=
  (if i1 ≤ 0 then x7_isHeard_20 o0 i1 σ k else (vp_in ((23 + i1) - 1) (ln o0) ∧ (if (σ o0 ((23 + i1) - 1).toNatClampNeg) = 1 then x7_isHeard_21 o0 i1 1 σ k else x7_isHeard_20 o0 i1 σ k)))
def x7_opensAt_28 (i0 : Int32) (i1 : Int32) (i2 : Int32) (i3 : Int32)  (s0 : Int32) (σ : St) (k : Int32 → St → Prop) : Prop :=
  k s0 σ
def x7_opensAt_12 (i0 : Int32) (i1 : Int32) (i2 : Int32) (i3 : Int32)  (s1 : Int32) (s0 : Int32) (σ : St) (k : Int32 → St → Prop) : Prop :=
  lt ((s0 + s1) - i2) fun v1 => (if 0 ≤ v1 then x7_opensAt_28 i0 i1 i2 i3 v1 σ k else x7_opensAt_28 i0 i1 i2 i3 0 σ k)
def x7_opensAt (i0 : Int32) (i1 : Int32) (i2 : Int32) (i3 : Int32) (σ : St) (k : Int32 → St → Prop) : Prop :=
  (if i3 = 0 then x7_opensAt_12 i0 i1 i2 i3 0 (i0 + i1) σ k else x7_opensAt_12 i0 i1 i2 i3 2 (i0 + i1) σ k)
def x7_opensOf (o0 : Nat) (i1 : Int32) (σ : St) (k : Int32 → St → Prop) : Prop :=
  (vp_in (5 + i1) (ln o0) ∧ (vp_in (11 + i1) (ln o0) ∧ (vp_in (17 + i1) (ln o0) ∧ x7_isHeard o0 i1 σ (fun r1 σ2 => x7_opensAt (σ o0 (5 + i1).toNatClampNeg) (σ o0 (11 + i1).toNatClampNeg) (σ o0 (17 + i1).toNatClampNeg) r1 σ2 (fun r3 σ4 => k r3 σ4)))))
def x7_staysAt_85 (i0 : Int32) (i1 : Int32) (i2 : Int32) (i3 : Int32) (i4 : Int32)  (s0 : Int32) (σ : St) (k : Int32 → St → Prop) : Prop :=
  k s0 σ
def x7_staysAt_83 (i0 : Int32) (i1 : Int32) (i2 : Int32) (i3 : Int32) (i4 : Int32)  (i6 : Int32) (σ : St) (k : Int32 → St → Prop) : Prop :=
  x7_staysAt_85 i0 i1 i2 i3 i4 i6 σ k
def x7_staysAt_17 (i0 : Int32) (i1 : Int32) (i2 : Int32) (i3 : Int32) (i4 : Int32)  (i5 : Int32) (s0 : Int32) (σ : St) (k : Int32 → St → Prop) : Prop :=
  (if i0 = 1 then k i5 σ else (if i0 = 2 then k (i5 + i2) σ else (if i0 = 3 then k (2 * i5) σ else (if i0 = 4 then k s0 σ else (if i4 = 0 then x7_staysAt_83 i0 i1 i2 i3 i4 s0 σ k else (if s0 ≤ 1 then x7_staysAt_83 i0 i1 i2 i3 i4 s0 σ k else x7_staysAt_85 i0 i1 i2 i3 i4 1 σ k))))))
def x7_staysAt (i0 : Int32) (i1 : Int32) (i2 : Int32) (i3 : Int32) (i4 : Int32) (σ : St) (k : Int32 → St → Prop) : Prop :=
  lt (i1 + (2 * i3)) fun v1 => (if i1 ≤ 3 then x7_staysAt_17 i0 i1 i2 i3 i4 v1 i1 σ k else x7_staysAt_17 i0 i1 i2 i3 i4 v1 3 σ k)
def x7_staysOf (o0 : Nat) (i1 : Int32) (σ : St) (k : Int32 → St → Prop) : Prop :=
  (vp_in (41 + i1) (ln o0) ∧ lt (σ o0 (41 + i1).toNatClampNeg) fun v1 => (vp_in (29 + i1) (ln o0) ∧ (vp_in (35 + i1) (ln o0) ∧ (vp_in (11 + v1) (ln o0) ∧ (vp_in (17 + v1) (ln o0) ∧ x7_isHeard o0 v1 σ (fun r2 σ3 => x7_staysAt (σ o0 (29 + i1).toNatClampNeg) (σ o0 (35 + i1).toNatClampNeg) (σ o0 (11 + v1).toNatClampNeg) (σ o0 (17 + v1).toNatClampNeg) r2 σ3 (fun r4 σ5 => k r4 σ5)))))))
def x7_doesMeet_23 (o0 : Nat) (i1 : Int32)  (s0 : Int32) (σ : St) (k : Int32 → St → Prop) : Prop :=
  (isB s0 ∧ k s0 σ)
def x7_doesMeet (o0 : Nat) (i1 : Int32) (σ : St) (k : Int32 → St → Prop) : Prop :=
  (vp_in (41 + i1) (ln o0) ∧ x7_opensOf o0 (σ o0 (41 + i1).toNatClampNeg) σ (fun r1 σ2 => x7_staysOf o0 i1 σ2 (fun r3 σ4 => (if r3 < r1 then x7_doesMeet_23 o0 i1 0 σ4 k else x7_doesMeet_23 o0 i1 1 σ4 k))))
def x7_meetersOf_27 (o0 : Nat) (R4 : Int32 → Int32 → St → Prop) (i2 : Int32) (s1 : Int32) (s0 : Int32) (σ : St) (k : Int32 → St → Prop) : Prop :=
  lt (s0 ||| s1) fun v3 => R4 v3 (i2 + 1) σ
def x7_meetersOf_4 (o0 : Nat)  (k : Int32 → St → Prop) : Nat → Int32 → Int32 → St → Prop
  | 0, _, _, _ => False
  | n + 1, i1, i2, σ => (vp_in 3 (ln o0) ∧ (if (σ o0 (3 : Int32).toNatClampNeg) ≤ i2 then k i1 σ else x7_doesMeet o0 i2 σ (fun r1 σ2 => (if r1 = 0 then x7_meetersOf_27 o0 (x7_meetersOf_4 o0 k n) i2 0 i1 σ2 k else x7_meetersOf_27 o0 (x7_meetersOf_4 o0 k n) i2 (1 <<< (i2 &&& 31)) i1 σ2 k))))
def x7_meetersOf (o0 : Nat) (σ : St) (k : Int32 → St → Prop) : Prop :=
  ∃ n4, x7_meetersOf_4 o0 k n4 0 0 σ
def x7_has_14 (i0 : Int32) (i1 : Int32)  (s0 : Int32) (σ : St) (k : Int32 → St → Prop) : Prop :=
  (isB s0 ∧ k s0 σ)
def x7_has (i0 : Int32) (i1 : Int32) (σ : St) (k : Int32 → St → Prop) : Prop :=
  (if ((i0 >>> (i1 &&& 31)) &&& 1) = 1 then x7_has_14 i0 i1 1 σ k else x7_has_14 i0 i1 0 σ k)
def x7_pass_53 (o0 : Nat) (R7 : Int32 → Int32 → St → Prop) (i1 : Int32) (i2 : Int32) (σ : St) (k : Int32 → St → Prop) : Prop :=
  R7 i1 (i2 + 1) σ
def x7_pass_7 (o0 : Nat)  (k : Int32 → St → Prop) : Nat → Int32 → Int32 → St → Prop
  | 0, _, _, _ => False
  | n + 1, i1, i2, σ => (vp_in 3 (ln o0) ∧ (if (σ o0 (3 : Int32).toNatClampNeg) ≤ i2 then (vp_in 4 (ln o0) ∧ (vp_in 4 (ln o0) ∧ lt (st_up σ o0 (4 : Int32).toNatClampNeg ((σ o0 (4 : Int32).toNatClampNeg) + 1)) fun σ3 => k i1 σ3)) else x7_has i1 i2 σ (fun r4 σ5 => (if r4 = 0 then (vp_in (41 + i2) (ln o0) ∧ (vp_in 2 (ln o0) ∧ (¬ (σ5 o0 (2 : Int32).toNatClampNeg) = 0 ∧ (vp_in (41 + i2) (ln o0) ∧ lt (st_up σ5 o0 (41 + i2).toNatClampNeg (((σ5 o0 (41 + i2).toNatClampNeg) + 1) % (σ5 o0 (2 : Int32).toNatClampNeg))) fun σ6 => x7_pass_53 o0 (x7_pass_7 o0 k n) i1 i2 σ6 k)))) else (vp_in (47 + i2) (ln o0) ∧ (vp_in (47 + i2) (ln o0) ∧ lt (st_up σ5 o0 (47 + i2).toNatClampNeg ((σ5 o0 (47 + i2).toNatClampNeg) + 1)) fun σ7 => x7_pass_53 o0 (x7_pass_7 o0 k n) i1 i2 σ7 k))))))
def x7_pass (o0 : Nat) (σ : St) (k : Int32 → St → Prop) : Prop :=
  x7_meetersOf o0 σ (fun r1 σ2 => ∃ n7, x7_pass_7 o0 k n7 r1 0 σ2)
def x7_ahead_27 (i1 : Int32) (i2 : Int32) (i3 : Int32)   (σ : St) (k : Int32 → St → Prop) : Prop :=
  k ((-1000001)) σ
def x7_ahead_91 (i1 : Int32) (i2 : Int32) (i3 : Int32)  (s0 : Int32) (σ : St) (k : Int32 → St → Prop) : Prop :=
  k s0 σ
def x7_ahead_46 (i1 : Int32) (i2 : Int32) (i3 : Int32)  (k : Int32 → St → Prop) : Nat → Int32 → St → Prop
  | 0, _, _ => False
  | n + 1, i4, σ => (if i2 ≤ i4 then (if i3 = 0 then (vp_in (41 + i1) (ln 72) ∧ x7_ahead_91 i1 i2 i3 (σ 72 (41 + i1).toNatClampNeg) σ k) else (vp_in (47 + i1) (ln 72) ∧ x7_ahead_91 i1 i2 i3 (σ 72 (47 + i1).toNatClampNeg) σ k)) else x7_pass 72 σ (fun r9 σ10 => x7_ahead_46 i1 i2 i3 k n (i4 + 1) σ10))
def x7_ahead (i1 : Int32) (i2 : Int32) (i3 : Int32) (σ : St) (k : Int32 → St → Prop) : Prop :=
  x7_isOne i1 σ (fun r1 σ2 => (if r1 = 0 then x7_ahead_27 i1 i2 i3 σ2 k else x7_in i2 0 60 σ2 (fun r3 σ4 => (if r3 = 0 then x7_ahead_27 i1 i2 i3 σ4 k else x7_in i3 0 1 σ4 (fun r5 σ6 => (if r5 = 0 then x7_ahead_27 i1 i2 i3 σ6 k else x7_lay 70 0 72 0 σ6 (fun σ8 => ∃ n46, x7_ahead_46 i1 i2 i3 k n46 0 σ8)))))))
def x7_areSets_40 (i1 : Int32) (i2 : Int32)  (s0 : Int32) (σ : St) (k : Int32 → St → Prop) : Prop :=
  (isB s0 ∧ k s0 σ)
def x7_areSets_39 (i1 : Int32) (i2 : Int32)   (σ : St) (k : Int32 → St → Prop) : Prop :=
  x7_areSets_40 i1 i2 0 σ k
def x7_areSets (i1 : Int32) (i2 : Int32) (σ : St) (k : Int32 → St → Prop) : Prop :=
  (vp_in 3 (ln 70) ∧ lt ((1 <<< ((σ 70 (3 : Int32).toNatClampNeg) &&& 31)) - 1) fun v1 => x7_in i1 0 v1 σ (fun r2 σ3 => (if r2 = 0 then x7_areSets_39 i1 i2 σ3 k else x7_in i2 0 v1 σ3 (fun r4 σ5 => (if r4 = 0 then x7_areSets_39 i1 i2 σ5 k else (if (i1 &&& i2) = 0 then x7_areSets_40 i1 i2 1 σ5 k else x7_areSets_39 i1 i2 σ5 k))))))
def x7_kindOf (i1 : Int32) (σ : St) (k : Int32 → St → Prop) : Prop :=
  (vp_in (29 + i1) (ln 70) ∧ k (σ 70 (29 + i1).toNatClampNeg) σ)
def x7_parentOf_24 (i0 : Int32)  (s0 : Int32) (σ : St) (k : Int32 → St → Prop) : Prop :=
  k s0 σ
def x7_parentOf_10 (i0 : Int32)   (σ : St) (k : Int32 → St → Prop) : Prop :=
  x7_parentOf_24 i0 0 σ k
def x7_parentOf (i0 : Int32) (σ : St) (k : Int32 → St → Prop) : Prop :=
  (if i0 = 1 then x7_parentOf_10 i0 σ k else (if i0 = 4 then x7_parentOf_10 i0 σ k else (if i0 = 5 then x7_parentOf_24 i0 4 σ k else x7_parentOf_24 i0 1 σ k)))
def x7_done (i1 : Int32) (σ : St) (k : Int32 → St → Prop) : Prop :=
  lt (st_up σ 65 3 0) fun σ1 => k i1 σ1
def x7_finds (i1 : Int32) (σ : St) (k : Int32 → St → Prop) : Prop :=
  lt (st_up σ 65 3 i1) fun σ1 => k (((-1000010)) - i1) σ1
def x7_as_17 (i1 : Int32) (i2 : Int32)   (σ : St) (k : Int32 → St → Prop) : Prop :=
  k ((-1000001)) σ
def x7_as_68 (i1 : Int32) (i2 : Int32)  (s0 : Int32) (σ : St) (k : Int32 → St → Prop) : Prop :=
  k s0 σ
def x7_as_48 (i1 : Int32) (i2 : Int32)  (s0 : Int32) (σ : St) (k : Int32 → St → Prop) : Prop :=
  (if s0 = 0 then x7_finds 3 σ (fun r7 σ8 => x7_as_68 i1 i2 r7 σ8 k) else x7_done i1 σ (fun r9 σ10 => x7_as_68 i1 i2 r9 σ10 k))
def x7_as_43 (i1 : Int32) (i2 : Int32)   (σ : St) (k : Int32 → St → Prop) : Prop :=
  x7_as_48 i1 i2 1 σ k
def x7_as (i1 : Int32) (i2 : Int32) (σ : St) (k : Int32 → St → Prop) : Prop :=
  x7_isOne i1 σ (fun r1 σ2 => (if r1 = 0 then x7_as_17 i1 i2 σ2 k else x7_in i2 0 5 σ2 (fun r3 σ4 => (if r3 = 0 then x7_as_17 i1 i2 σ4 k else x7_kindOf i1 σ4 (fun r5 σ6 => (if i2 = 0 then x7_as_43 i1 i2 σ6 k else (if r5 = i2 then x7_as_43 i1 i2 σ6 k else x7_parentOf r5 σ6 (fun r11 σ12 => (if r11 = i2 then x7_as_43 i1 i2 σ12 k else x7_as_48 i1 i2 0 σ12 k)))))))))
def x7_begins_29 (i1 : Int32)   (σ : St) (k : St → Prop) : Prop :=
  k σ
def x7_begins (i1 : Int32) (σ : St) (k : St → Prop) : Prop :=
  (if 16 ≤ (σ 65 20) then x7_begins_29 i1 σ k else (vp_in (σ 65 20) (ln 76) ∧ lt (st_up σ 76 (σ 65 20).toNatClampNeg i1) fun σ1 => lt (st_up σ1 65 20 ((σ1 65 20) + 1)) fun σ2 => x7_begins_29 i1 σ2 k))
def x7_sizePost (i1 : Int32) (σ : St) (k : Int32 → St → Prop) : Prop :=
  x7_begins 13 σ (fun σ2 => x7_begins 10 σ2 (fun σ4 => (vp_in (35 + i1) (ln 70) ∧ k ((σ4 70 (35 + i1).toNatClampNeg) - 100) σ4)))
def x7_markGuest (i1 : Int32) (σ : St) (k : Int32 → St → Prop) : Prop :=
  x7_begins 21 σ (fun σ2 => x7_begins 20 σ2 (fun σ4 => (vp_in (41 + i1) (ln 70) ∧ k (i1 + (σ4 70 (41 + i1).toNatClampNeg)) σ4)))
def x7_markPlain (i1 : Int32) (σ : St) (k : Int32 → St → Prop) : Prop :=
  x7_kindOf i1 σ (fun r1 σ2 => (if r1 = 2 then x7_begins 24 σ2 (fun σ4 => x7_markGuest i1 σ4 (fun r5 σ6 => k (2 * r5) σ6)) else (if r1 = 3 then x7_begins 22 σ2 (fun σ8 => x7_markGuest i1 σ8 (fun r9 σ10 => k (r9 - 1000) σ10)) else x7_markGuest i1 σ2 (fun r11 σ12 => k r11 σ12))))
def x7_sizeOf_86 (i1 : Int32)  (s0 : Int32) (σ : St) (k : Int32 → St → Prop) : Prop :=
  k s0 σ
def x7_sizeOf_47 (i1 : Int32)  (i2 : Int32) (σ : St) (k : Int32 → St → Prop) : Prop :=
  x7_begins 11 σ (fun σ12 => x7_begins 10 σ12 (fun σ14 => (vp_in (35 + i1) (ln 70) ∧ x7_markPlain i1 σ14 (fun r15 σ16 => lt ((σ14 70 (35 + i1).toNatClampNeg) + r15) fun v17 => (if i2 = 2 then x7_sizeOf_86 i1 (-v17) σ16 k else x7_sizeOf_86 i1 v17 σ16 k)))))
def x7_sizeOf (i1 : Int32) (σ : St) (k : Int32 → St → Prop) : Prop :=
  x7_kindOf i1 σ (fun r1 σ2 => (if r1 = 5 then x7_begins 14 σ2 (fun σ4 => x7_sizePost i1 σ4 (fun r5 σ6 => k (2 * r5) σ6)) else (if r1 = 4 then x7_sizePost i1 σ2 (fun r7 σ8 => k r7 σ8) else (if r1 = 2 then x7_begins 12 σ2 (fun σ10 => x7_sizeOf_47 i1 r1 σ10 k) else x7_sizeOf_47 i1 r1 σ2 k))))
def x7_markOf (i1 : Int32) (σ : St) (k : Int32 → St → Prop) : Prop :=
  x7_kindOf i1 σ (fun r1 σ2 => (if 4 ≤ r1 then x7_begins 23 σ2 (fun σ4 => x7_begins 20 σ4 (fun σ6 => x7_sizeOf i1 σ6 (fun r7 σ8 => k (i1 - r7) σ8))) else x7_markPlain i1 σ2 (fun r9 σ10 => k r9 σ10)))
def x7_ask_17 (i1 : Int32) (i2 : Int32)   (σ : St) (k : Int32 → St → Prop) : Prop :=
  k ((-1000001)) σ
def x7_ask_42 (i1 : Int32) (i2 : Int32)  (s0 : Int32) (σ : St) (k : Int32 → St → Prop) : Prop :=
  k s0 σ
def x7_ask (i1 : Int32) (i2 : Int32) (σ : St) (k : Int32 → St → Prop) : Prop :=
  x7_isOne i1 σ (fun r1 σ2 => (if r1 = 0 then x7_ask_17 i1 i2 σ2 k else x7_in i2 0 1 σ2 (fun r3 σ4 => (if r3 = 0 then x7_ask_17 i1 i2 σ4 k else lt (st_up σ4 65 20 0) fun σ5 => (if i2 = 0 then x7_sizeOf i1 σ5 (fun r6 σ7 => x7_ask_42 i1 i2 r6 σ7 k) else x7_markOf i1 σ5 (fun r8 σ9 => x7_ask_42 i1 i2 r8 σ9 k))))))
def x7_caller_93 (i1 : Int32) (i2 : Int32)  (s0 : Int32) (σ : St) (k : Int32 → St → Prop) : Prop :=
  k s0 σ
def x7_caller (i1 : Int32) (i2 : Int32) (σ : St) (k : Int32 → St → Prop) : Prop :=
  x7_isOne i1 σ (fun r1 σ2 => (if r1 = 0 then k ((-1000001)) σ2 else (if i2 = 0 then (vp_in (41 + i1) (ln 70) ∧ k (σ2 70 (41 + i1).toNatClampNeg) σ2) else (if i2 = 1 then (vp_in (35 + i1) (ln 70) ∧ k (σ2 70 (35 + i1).toNatClampNeg) σ2) else (if i2 = 2 then x7_staysOf 70 i1 σ2 (fun r3 σ4 => k r3 σ4) else (if i2 = 3 then x7_doesMeet 70 i1 σ2 (fun r5 σ6 => (if r5 = 0 then x7_caller_93 i1 i2 0 σ6 k else x7_caller_93 i1 i2 1 σ6 k)) else (if i2 = 4 then (vp_in (47 + i1) (ln 70) ∧ k (σ2 70 (47 + i1).toNatClampNeg) σ2) else k ((-1000001)) σ2)))))))
def x7_callersAt_35 (i1 : Int32) (R4 : Int32 → Int32 → St → Prop) (i3 : Int32) (s1 : Int32) (s0 : Int32) (σ : St) (k : Int32 → St → Prop) : Prop :=
  lt (s0 ||| s1) fun v1 => R4 v1 (i3 + 1) σ
def x7_callersAt_4 (i1 : Int32)  (k : Int32 → St → Prop) : Nat → Int32 → Int32 → St → Prop
  | 0, _, _, _ => False
  | n + 1, i2, i3, σ => (vp_in 3 (ln 70) ∧ (if (σ 70 (3 : Int32).toNatClampNeg) ≤ i3 then k i2 σ else (vp_in (41 + i3) (ln 70) ∧ (if (σ 70 (41 + i3).toNatClampNeg) = i1 then x7_callersAt_35 i1 (x7_callersAt_4 i1 k n) i3 (1 <<< (i3 &&& 31)) i2 σ k else x7_callersAt_35 i1 (x7_callersAt_4 i1 k n) i3 0 i2 σ k))))
def x7_callersAt (i1 : Int32) (σ : St) (k : Int32 → St → Prop) : Prop :=
  ∃ n4, x7_callersAt_4 i1 k n4 0 0 σ
def x7_isRow (i0 : Int32) (σ : St) (k : Int32 → St → Prop) : Prop :=
  x7_in i0 0 7 σ (fun r1 σ2 => (isB r1 ∧ k r1 σ2))
def x7_isPart_25 (i0 : Int32) (i1 : Int32) (i2 : Int32)  (s0 : Int32) (σ : St) (k : Int32 → St → Prop) : Prop :=
  (isB s0 ∧ k s0 σ)
def x7_isPart_24 (i0 : Int32) (i1 : Int32) (i2 : Int32)   (σ : St) (k : Int32 → St → Prop) : Prop :=
  x7_isPart_25 i0 i1 i2 0 σ k
def x7_isPart (i0 : Int32) (i1 : Int32) (i2 : Int32) (σ : St) (k : Int32 → St → Prop) : Prop :=
  (if i0 < 0 then x7_isPart_24 i0 i1 i2 σ k else (if i1 < 0 then x7_isPart_24 i0 i1 i2 σ k else (if i2 < i1 then x7_isPart_24 i0 i1 i2 σ k else (if (i2 - i1) < i0 then x7_isPart_24 i0 i1 i2 σ k else x7_isPart_25 i0 i1 i2 1 σ k))))
def x7_copy_14 (i1 : Int32) (i2 : Int32) (i3 : Int32) (i4 : Int32) (i5 : Int32)   (σ : St) (k : Int32 → St → Prop) : Prop :=
  k ((-1000001)) σ
def x7_copy_35 (i1 : Int32) (i2 : Int32) (i3 : Int32) (i4 : Int32) (i5 : Int32)   (σ : St) (k : Int32 → St → Prop) : Prop :=
  x7_finds 1 σ (fun r5 σ6 => k r5 σ6)
def x7_copy_93 (i1 : Int32) (i2 : Int32) (i3 : Int32) (i4 : Int32) (i5 : Int32)   (σ : St) (k : Int32 → St → Prop) : Prop :=
  x7_finds 2 σ (fun r9 σ10 => k r9 σ10)
def x7_copy_144 (i1 : Int32) (i2 : Int32) (i3 : Int32) (i4 : Int32) (i5 : Int32) (R120 : Int32 → Int32 → St → Prop) (i6 : Int32) (i7 : Int32) (s0 : Int32) (σ : St) (k : Int32 → St → Prop) : Prop :=
  (vp_in (((40 * i1) + i2) + s0) (ln 68) ∧ (vp_in (((40 * i3) + i4) + s0) (ln 68) ∧ lt (st_up σ 68 (((40 * i3) + i4) + s0).toNatClampNeg (σ 68 (((40 * i1) + i2) + s0).toNatClampNeg)) fun σ15 => R120 i6 (i7 + 1) σ15))
def x7_copy_120 (i1 : Int32) (i2 : Int32) (i3 : Int32) (i4 : Int32) (i5 : Int32)  (k : Int32 → St → Prop) : Nat → Int32 → Int32 → St → Prop
  | 0, _, _, _ => False
  | n + 1, i6, i7, σ => (if i5 ≤ i7 then x7_done i5 σ (fun r13 σ14 => k r13 σ14) else (if i6 = 0 then x7_copy_144 i1 i2 i3 i4 i5 (x7_copy_120 i1 i2 i3 i4 i5 k n) i6 i7 i7 σ k else x7_copy_144 i1 i2 i3 i4 i5 (x7_copy_120 i1 i2 i3 i4 i5 k n) i6 i7 ((i5 - 1) - i7) σ k))
def x7_copy_115 (i1 : Int32) (i2 : Int32) (i3 : Int32) (i4 : Int32) (i5 : Int32)  (s0 : Int32) (σ : St) (k : Int32 → St → Prop) : Prop :=
  ∃ n120, x7_copy_120 i1 i2 i3 i4 i5 k n120 s0 0 σ
def x7_copy_114 (i1 : Int32) (i2 : Int32) (i3 : Int32) (i4 : Int32) (i5 : Int32)   (σ : St) (k : Int32 → St → Prop) : Prop :=
  x7_copy_115 i1 i2 i3 i4 i5 0 σ k
def x7_copy (i1 : Int32) (i2 : Int32) (i3 : Int32) (i4 : Int32) (i5 : Int32) (σ : St) (k : Int32 → St → Prop) : Prop :=
  x7_isRow i1 σ (fun r1 σ2 => (if r1 = 0 then x7_copy_14 i1 i2 i3 i4 i5 σ2 k else x7_isRow i3 σ2 (fun r3 σ4 => (if r3 = 0 then x7_copy_14 i1 i2 i3 i4 i5 σ4 k else (vp_in i1 (ln 66) ∧ (if (σ4 66 i1.toNatClampNeg) < 0 then x7_copy_35 i1 i2 i3 i4 i5 σ4 k else (vp_in i3 (ln 66) ∧ (if 0 ≤ (σ4 66 i3.toNatClampNeg) then (vp_in i1 (ln 66) ∧ (vp_in i3 (ln 66) ∧ (if (σ4 66 i1.toNatClampNeg) = (σ4 66 i3.toNatClampNeg) then (vp_in i1 (ln 67) ∧ x7_isPart i2 i5 (σ4 67 i1.toNatClampNeg) σ4 (fun r7 σ8 => (if r7 = 0 then x7_copy_93 i1 i2 i3 i4 i5 σ8 k else (vp_in i3 (ln 67) ∧ x7_isPart i4 i5 (σ8 67 i3.toNatClampNeg) σ8 (fun r11 σ12 => (if r11 = 0 then x7_copy_93 i1 i2 i3 i4 i5 σ12 k else (if i1 = i3 then (if i4 ≤ i2 then x7_copy_114 i1 i2 i3 i4 i5 σ12 k else x7_copy_115 i1 i2 i3 i4 i5 1 σ12 k) else x7_copy_114 i1 i2 i3 i4 i5 σ12 k))))))) else x7_finds 5 σ4 (fun r16 σ17 => k r16 σ17)))) else x7_copy_35 i1 i2 i3 i4 i5 σ4 k))))))))
def x7_fits_127 (i1 : Int32) (i2 : Int32) (i3 : Int32) (i4 : Int32) (i5 : Int32) (i6 : Int32) (R23 : Int32 → Int32 → Int32 → St → Prop) (i8 : Int32) (i9 : Int32) (s0 : Int32) (σ : St) (k : Int32 → St → Prop) : Prop :=
  R23 s0 i8 (i9 + 1) σ
def x7_fits_126 (i1 : Int32) (i2 : Int32) (i3 : Int32) (i4 : Int32) (i5 : Int32) (i6 : Int32) (R23 : Int32 → Int32 → Int32 → St → Prop) (i8 : Int32) (i9 : Int32) (σ : St) (k : Int32 → St → Prop) : Prop :=
  x7_fits_127 i1 i2 i3 i4 i5 i6 R23 i8 i9 0 σ k
def x7_fits_122 (i1 : Int32) (i2 : Int32) (i3 : Int32) (i4 : Int32) (i5 : Int32) (i6 : Int32) (R23 : Int32 → Int32 → Int32 → St → Prop) (i8 : Int32) (i9 : Int32) (σ : St) (k : Int32 → St → Prop) : Prop :=
  x7_fits_127 i1 i2 i3 i4 i5 i6 R23 i8 i9 1 σ k
def x7_fits_107 (i1 : Int32) (i2 : Int32) (i3 : Int32) (i4 : Int32) (i5 : Int32) (i6 : Int32) (R23 : Int32 → Int32 → Int32 → St → Prop) (i8 : Int32) (i9 : Int32) (i10 : Int32) (σ : St) (k : Int32 → St → Prop) : Prop :=
  x7_has i6 i9 σ (fun r7 σ8 => (if r7 = 0 then x7_fits_122 i1 i2 i3 i4 i5 i6 R23 i8 i9 σ8 k else (if i10 = 0 then x7_fits_122 i1 i2 i3 i4 i5 i6 R23 i8 i9 σ8 k else x7_fits_126 i1 i2 i3 i4 i5 i6 R23 i8 i9 σ8 k)))
def x7_fits_71 (i1 : Int32) (i2 : Int32) (i3 : Int32) (i4 : Int32) (i5 : Int32) (i6 : Int32) (R23 : Int32 → Int32 → Int32 → St → Prop) (i7 : Int32) (i8 : Int32) (i9 : Int32) (s0 : Int32) (σ : St) (k : Int32 → St → Prop) : Prop :=
  (if i7 = 0 then x7_fits_126 i1 i2 i3 i4 i5 i6 R23 i8 i9 σ k else (vp_in (41 + i9) (ln 70) ∧ (if (σ 70 (41 + i9).toNatClampNeg) = i1 then x7_has i5 i9 σ (fun r5 σ6 => (if r5 = 0 then x7_fits_107 i1 i2 i3 i4 i5 i6 R23 i8 i9 s0 σ6 k else (if s0 = 0 then x7_fits_126 i1 i2 i3 i4 i5 i6 R23 i8 i9 σ6 k else x7_fits_107 i1 i2 i3 i4 i5 i6 R23 i8 i9 s0 σ6 k))) else x7_fits_122 i1 i2 i3 i4 i5 i6 R23 i8 i9 σ k)))
def x7_fits_23 (i1 : Int32) (i2 : Int32) (i3 : Int32) (i4 : Int32) (i5 : Int32) (i6 : Int32)  (k : Int32 → St → Prop) : Nat → Int32 → Int32 → Int32 → St → Prop
  | 0, _, _, _, _ => False
  | n + 1, i7, i8, i9, σ => (vp_in 3 (ln 70) ∧ (if (σ 70 (3 : Int32).toNatClampNeg) ≤ i9 then (isB i7 ∧ k i7 σ) else (vp_in (29 + i9) (ln 70) ∧ (vp_in (35 + i9) (ln 70) ∧ x7_staysAt (σ 70 (29 + i9).toNatClampNeg) (σ 70 (35 + i9).toNatClampNeg) i2 i3 i4 σ (fun r3 σ4 => (if r3 < i8 then x7_fits_71 i1 i2 i3 i4 i5 i6 (x7_fits_23 i1 i2 i3 i4 i5 i6 k n) i7 i8 i9 0 σ4 k else x7_fits_71 i1 i2 i3 i4 i5 i6 (x7_fits_23 i1 i2 i3 i4 i5 i6 k n) i7 i8 i9 1 σ4 k))))))
def x7_fits (i1 : Int32) (i2 : Int32) (i3 : Int32) (i4 : Int32) (i5 : Int32) (i6 : Int32) (σ : St) (k : Int32 → St → Prop) : Prop :=
  (vp_in (5 + i1) (ln 70) ∧ x7_opensAt (σ 70 (5 + i1).toNatClampNeg) i2 i3 i4 σ (fun r1 σ2 => ∃ n23, x7_fits_23 i1 i2 i3 i4 i5 i6 k n23 1 r1 0 σ2))
def x7_costBy_135 (i1 : Int32) (i2 : Int32) (i3 : Int32) (i4 : Int32) (i5 : Int32) (i6 : Int32) (R27 : Int32 → Int32 → Int32 → St → Prop) (i8 : Int32) (i9 : Int32) (s0 : Int32) (σ : St) (k : Int32 → St → Prop) : Prop :=
  R27 s0 i8 (i9 + 1) σ
def x7_costBy_119 (i1 : Int32) (i2 : Int32) (i3 : Int32) (i4 : Int32) (i5 : Int32) (i6 : Int32) (R27 : Int32 → Int32 → Int32 → St → Prop) (i7 : Int32) (i8 : Int32) (i9 : Int32) (s0 : Int32) (σ : St) (k : Int32 → St → Prop) : Prop :=
  (if i7 ≤ s0 then x7_costBy_135 i1 i2 i3 i4 i5 i6 R27 i8 i9 i7 σ k else x7_costBy_135 i1 i2 i3 i4 i5 i6 R27 i8 i9 s0 σ k)
def x7_costBy_112 (i1 : Int32) (i2 : Int32) (i3 : Int32) (i4 : Int32) (i5 : Int32) (i6 : Int32) (R27 : Int32 → Int32 → Int32 → St → Prop) (i7 : Int32) (i8 : Int32) (i9 : Int32) (s1 : Int32) (s0 : Int32) (σ : St) (k : Int32 → St → Prop) : Prop :=
  x7_costBy_119 i1 i2 i3 i4 i5 i6 R27 i7 i8 i9 (s0 + s1) σ k
def x7_costBy_57 (i1 : Int32) (i2 : Int32) (i3 : Int32) (i4 : Int32) (i5 : Int32) (i6 : Int32) (R27 : Int32 → Int32 → Int32 → St → Prop) (i7 : Int32) (i8 : Int32) (i9 : Int32) (s0 : Int32) (σ : St) (k : Int32 → St → Prop) : Prop :=
  x7_fits i1 i3 i4 s0 i5 i6 σ (fun r1 σ2 => (if r1 = 0 then x7_costBy_119 i1 i2 i3 i4 i5 i6 R27 i7 i8 i9 9999 σ2 k else (¬ (2 : Int32) = 0 ∧ (if i8 = 0 then (¬ (2 : Int32) = 0 ∧ (vp_in ((((4 * i1) + 4) + ((i2 % 2) * 2)) + i9) (ln 78) ∧ x7_costBy_112 i1 i2 i3 i4 i5 i6 R27 i7 i8 i9 (σ2 78 ((((4 * i1) + 4) + ((i2 % 2) * 2)) + i9).toNatClampNeg) ((i3 + i4) + (i2 % 2)) σ2 k)) else x7_costBy_112 i1 i2 i3 i4 i5 i6 R27 i7 i8 i9 0 ((i3 + i4) + (i2 % 2)) σ2 k))))
def x7_costBy_52 (i1 : Int32) (i2 : Int32) (i3 : Int32) (i4 : Int32) (i5 : Int32) (i6 : Int32) (R27 : Int32 → Int32 → Int32 → St → Prop) (i7 : Int32) (i8 : Int32) (i9 : Int32) (σ : St) (k : Int32 → St → Prop) : Prop :=
  x7_costBy_57 i1 i2 i3 i4 i5 i6 R27 i7 i8 i9 1 σ k
def x7_costBy_39 (i1 : Int32) (i2 : Int32) (i3 : Int32) (i4 : Int32) (i5 : Int32) (i6 : Int32) (R27 : Int32 → Int32 → Int32 → St → Prop) (i7 : Int32) (i8 : Int32) (i9 : Int32) (s1 : Int32) (s0 : Int32) (σ : St) (k : Int32 → St → Prop) : Prop :=
  (if s1 ≤ s0 then k i7 σ else (if 0 < i2 then x7_costBy_52 i1 i2 i3 i4 i5 i6 R27 i7 i8 i9 σ k else (if i9 = 1 then x7_costBy_52 i1 i2 i3 i4 i5 i6 R27 i7 i8 i9 σ k else x7_costBy_57 i1 i2 i3 i4 i5 i6 R27 i7 i8 i9 0 σ k)))
def x7_costBy_27 (i1 : Int32) (i2 : Int32) (i3 : Int32) (i4 : Int32) (i5 : Int32) (i6 : Int32)  (k : Int32 → St → Prop) : Nat → Int32 → Int32 → Int32 → St → Prop
  | 0, _, _, _, _ => False
  | n + 1, i7, i8, i9, σ => (if i8 = 0 then x7_costBy_39 i1 i2 i3 i4 i5 i6 (x7_costBy_27 i1 i2 i3 i4 i5 i6 k n) i7 i8 i9 2 i9 σ k else x7_costBy_39 i1 i2 i3 i4 i5 i6 (x7_costBy_27 i1 i2 i3 i4 i5 i6 k n) i7 i8 i9 1 i9 σ k)
def x7_costBy_22 (i1 : Int32) (i2 : Int32) (i3 : Int32) (i4 : Int32) (i5 : Int32) (i6 : Int32)  (i7 : Int32) (s0 : Int32) (σ : St) (k : Int32 → St → Prop) : Prop :=
  ∃ n27, x7_costBy_27 i1 i2 i3 i4 i5 i6 k n27 i7 s0 0 σ
def x7_costBy (i1 : Int32) (i2 : Int32) (i3 : Int32) (i4 : Int32) (i5 : Int32) (i6 : Int32) (σ : St) (k : Int32 → St → Prop) : Prop :=
  (vp_in 2 (ln 70) ∧ (if (i1 + 1) = (σ 70 (2 : Int32).toNatClampNeg) then x7_costBy_22 i1 i2 i3 i4 i5 i6 9999 1 σ k else x7_costBy_22 i1 i2 i3 i4 i5 i6 9999 0 σ k))
def x7_count_38 (i1 : Int32)  (k : Int32 → St → Prop) : Nat → Int32 → Int32 → Int32 → St → Prop
  | 0, _, _, _, _ => False
  | n + 1, i2, i3, i4, σ => (if 6 ≤ i4 then (if i1 = 0 then k i2 σ else (if i1 = 1 then (vp_in 2 (ln 70) ∧ k (σ 70 (2 : Int32).toNatClampNeg) σ) else (if i1 = 2 then (vp_in 3 (ln 70) ∧ k (σ 70 (3 : Int32).toNatClampNeg) σ) else (if i1 = 3 then (vp_in 0 (ln 70) ∧ k (σ 70 (0 : Int32).toNatClampNeg) σ) else (if i1 = 4 then (vp_in 1 (ln 70) ∧ k (σ 70 (1 : Int32).toNatClampNeg) σ) else (if i1 = 5 then (vp_in 4 (ln 70) ∧ k (σ 70 (4 : Int32).toNatClampNeg) σ) else (if i1 = 6 then k i3 σ else (if i1 = 7 then k (σ 65 18) σ else (if i1 = 8 then k (σ 65 4) σ else k ((-1000001)) σ))))))))) else (vp_in (47 + i4) (ln 70) ∧ lt (i3 + (σ 70 (47 + i4).toNatClampNeg)) fun v1 => x7_count_38 i1 k n i2 v1 (i4 + 1) σ))
def x7_count_25 (i1 : Int32) (R4 : Int32 → Int32 → St → Prop) (i3 : Int32) (s1 : Int32) (s0 : Int32) (σ : St) (k : Int32 → St → Prop) : Prop :=
  lt (s0 + s1) fun v2 => R4 v2 (i3 + 1) σ
def x7_count_4 (i1 : Int32)  (k : Int32 → St → Prop) : Nat → Int32 → Int32 → St → Prop
  | 0, _, _, _ => False
  | n + 1, i2, i3, σ => (if 8 ≤ i3 then ∃ n38, x7_count_38 i1 k n38 i2 0 0 σ else (vp_in i3 (ln 66) ∧ (if 0 ≤ (σ 66 i3.toNatClampNeg) then x7_count_25 i1 (x7_count_4 i1 k n) i3 1 i2 σ k else x7_count_25 i1 (x7_count_4 i1 k n) i3 0 i2 σ k)))
def x7_count (i1 : Int32) (σ : St) (k : Int32 → St → Prop) : Prop :=
  ∃ n4, x7_count_4 i1 k n4 0 0 σ
def x7_isStreet_14   (s0 : Int32) (σ : St) (k : Int32 → St → Prop) : Prop :=
  (isB s0 ∧ k s0 σ)
def x7_isStreet  (σ : St) (k : Int32 → St → Prop) : Prop :=
  (vp_in 2 (ln 70) ∧ (if (σ 70 (2 : Int32).toNatClampNeg) ≤ 0 then x7_isStreet_14 0 σ k else x7_isStreet_14 1 σ k))
def x7_days_44 (i1 : Int32)  (k : Int32 → St → Prop) : Nat → Int32 → Int32 → St → Prop
  | 0, _, _, _ => False
  | n + 1, i2, i3, σ => (if i1 ≤ i3 then k i2 σ else x7_act  σ (fun σ6 => x7_pass 70 σ6 (fun r7 σ8 => x7_days_44 i1 k n r7 (i3 + 1) σ8)))
def x7_days (i1 : Int32) (σ : St) (k : Int32 → St → Prop) : Prop :=
  x7_isStreet  σ (fun r1 σ2 => (if r1 = 0 then k ((-1000002)) σ2 else x7_in i1 1 24 σ2 (fun r3 σ4 => (if r3 = 0 then k ((-1000001)) σ4 else (vp_in 4 (ln 70) ∧ (if ((σ4 70 (4 : Int32).toNatClampNeg) + i1) ≤ 999 then ∃ n44, x7_days_44 i1 k n44 0 0 σ4 else k ((-1000003)) σ4))))))
def x7_isDoorAt (i1 : Int32) (σ : St) (k : Int32 → St → Prop) : Prop :=
  (vp_in 2 (ln 70) ∧ x7_in i1 0 ((σ 70 (2 : Int32).toNatClampNeg) - 1) σ (fun r1 σ2 => (isB r1 ∧ k r1 σ2)))
def x7_door_111 (i1 : Int32) (i2 : Int32)  (s0 : Int32) (σ : St) (k : Int32 → St → Prop) : Prop :=
  k s0 σ
def x7_door (i1 : Int32) (i2 : Int32) (σ : St) (k : Int32 → St → Prop) : Prop :=
  x7_isDoorAt i1 σ (fun r1 σ2 => (if r1 = 0 then k ((-1000001)) σ2 else (if i2 = 0 then (vp_in (5 + i1) (ln 70) ∧ k (σ2 70 (5 + i1).toNatClampNeg) σ2) else (if i2 = 1 then (vp_in (11 + i1) (ln 70) ∧ k (σ2 70 (11 + i1).toNatClampNeg) σ2) else (if i2 = 2 then (vp_in (17 + i1) (ln 70) ∧ k (σ2 70 (17 + i1).toNatClampNeg) σ2) else (if i2 = 3 then (vp_in (23 + i1) (ln 70) ∧ k (σ2 70 (23 + i1).toNatClampNeg) σ2) else (if i2 = 4 then x7_isHeard 70 i1 σ2 (fun r3 σ4 => (if r3 = 0 then x7_door_111 i1 i2 0 σ4 k else x7_door_111 i1 i2 1 σ4 k)) else (if i2 = 5 then x7_opensOf 70 i1 σ2 (fun r5 σ6 => k r5 σ6) else (if i2 = 6 then x7_callersAt i1 σ2 (fun r7 σ8 => k r7 σ8) else k ((-1000001)) σ2)))))))))
def x7_drawn_39 (i1 : Int32) (i2 : Int32) (i3 : Int32)   (σ : St) (k : Int32 → St → Prop) : Prop :=
  k ((-1000001)) σ
def x7_drawn_261 (i1 : Int32) (i2 : Int32) (i3 : Int32)  (s0 : Int32) (σ : St) (k : Int32 → St → Prop) : Prop :=
  k s0 σ
def x7_drawn_218 (i1 : Int32) (i2 : Int32) (i3 : Int32)  (k : Int32 → St → Prop) : Nat → Int32 → Int32 → Int32 → St → Prop
  | 0, _, _, _, _ => False
  | n + 1, i6, i7, i8, σ => (vp_in 3 (ln 70) ∧ (if (σ 70 (3 : Int32).toNatClampNeg) ≤ i8 then (if i3 = 0 then x7_drawn_261 i1 i2 i3 i6 σ k else x7_drawn_261 i1 i2 i3 i7 σ k) else (vp_in (41 + i8) (ln 72) ∧ lt (i7 + (σ 72 (41 + i8).toNatClampNeg)) fun v12 => x7_drawn_218 i1 i2 i3 k n i6 v12 (i8 + 1) σ)))
def x7_drawn_177 (i1 : Int32) (i2 : Int32) (i3 : Int32) (R65 : Int64 → Int32 → Int32 → St → Prop) (k : Int32 → St → Prop) : Nat → Int64 → Int32 → Int32 → Int32 → Int32 → St → Prop
  | 0, _, _, _, _, _, _ => False
  | n + 1, l4, i6, i7, i9, i10, σ => (vp_in 3 (ln 70) ∧ (if (σ 70 (3 : Int32).toNatClampNeg) ≤ i10 then R65 l4 i6 (i7 + 1) σ else lt (i6 + ((i9 >>> (i10 &&& 31)) &&& 1)) fun v20 => x7_drawn_177 i1 i2 i3 R65 k n l4 v20 i7 i9 (i10 + 1) σ))
def x7_drawn_164 (i1 : Int32) (i2 : Int32) (i3 : Int32) (R65 : Int64 → Int32 → Int32 → St → Prop) (l4 : Int64) (i6 : Int32) (i7 : Int32) (s2 : Int32) (s1 : Int32) (so0 : Nat) (σ : St) (k : Int32 → St → Prop) : Prop :=
  (vp_in s1 (ln so0) ∧ lt (st_up σ so0 s1.toNatClampNeg s2) fun σ17 => x7_pass 72 σ17 (fun r18 σ19 => ∃ n177, x7_drawn_177 i1 i2 i3 R65 k n177 l4 i6 i7 r18 0 σ19))
def x7_drawn_138 (i1 : Int32) (i2 : Int32) (i3 : Int32) (R65 : Int64 → Int32 → Int32 → St → Prop) (l4 : Int64) (i6 : Int32) (i7 : Int32) (i8 : Int32) (s2 : Int32) (s1 : Int32) (so0 : Nat) (σ : St) (k : Int32 → St → Prop) : Prop :=
  (vp_in s1 (ln so0) ∧ lt (st_up σ so0 s1.toNatClampNeg s2) fun σ16 => (¬ (3 : Int64) = 0 ∧ (if (lg_cmp (l4 % 3) 0) = 0 then x7_drawn_164 i1 i2 i3 R65 l4 i6 i7 1 (23 + i8) 72 σ16 k else x7_drawn_164 i1 i2 i3 R65 l4 i6 i7 0 (23 + i8) 72 σ16 k)))
def x7_drawn_65 (i1 : Int32) (i2 : Int32) (i3 : Int32)  (k : Int32 → St → Prop) : Nat → Int64 → Int32 → Int32 → St → Prop
  | 0, _, _, _, _ => False
  | n + 1, l4, i6, i7, σ => (if i1 ≤ i7 then ∃ n218, x7_drawn_218 i1 i2 i3 k n218 i6 0 0 σ else (¬ (2147483647 : Int64) = 0 ∧ lt ((l4 * 16807) % 2147483647) fun v13 => (vp_in 2 (ln 70) ∧ (¬ ((σ 70 (2 : Int32).toNatClampNeg : Int32).toInt64) = 0 ∧ lt ((v13 % ((σ 70 (2 : Int32).toNatClampNeg : Int32).toInt64) : Int64).toInt32) fun v14 => (¬ (6 : Int64) = 0 ∧ (vp_in (11 + v14) (ln 72) ∧ lt (st_up σ 72 (11 + v14).toNatClampNeg ((v13 % 6 : Int64).toInt32)) fun σ15 => (¬ (2 : Int64) = 0 ∧ (if (lg_cmp (v13 % 2) 0) = 0 then x7_drawn_138 i1 i2 i3 (x7_drawn_65 i1 i2 i3 k n) v13 i6 i7 v14 1 (17 + v14) 72 σ15 k else x7_drawn_138 i1 i2 i3 (x7_drawn_65 i1 i2 i3 k n) v13 i6 i7 v14 0 (17 + v14) 72 σ15 k))))))))
def x7_drawn (i1 : Int32) (i2 : Int32) (i3 : Int32) (σ : St) (k : Int32 → St → Prop) : Prop :=
  x7_isStreet  σ (fun r1 σ2 => (if r1 = 0 then k ((-1000002)) σ2 else x7_in i1 0 60 σ2 (fun r3 σ4 => (if r3 = 0 then x7_drawn_39 i1 i2 i3 σ4 k else x7_in i2 1 999999 σ4 (fun r5 σ6 => (if r5 = 0 then x7_drawn_39 i1 i2 i3 σ6 k else x7_in i3 0 1 σ6 (fun r7 σ8 => (if r7 = 0 then x7_drawn_39 i1 i2 i3 σ8 k else x7_lay 70 0 72 0 σ8 (fun σ10 => lt i2.toInt64 fun v11 => ∃ n65, x7_drawn_65 i1 i2 i3 k n65 v11 0 0 σ10)))))))))
def x7_drop (i1 : Int32) (σ : St) (k : Int32 → St → Prop) : Prop :=
  x7_isRow i1 σ (fun r1 σ2 => (if r1 = 0 then k ((-1000001)) σ2 else (vp_in i1 (ln 66) ∧ (if 0 ≤ (σ2 66 i1.toNatClampNeg) then (vp_in i1 (ln 66) ∧ lt (st_up σ2 66 i1.toNatClampNeg ((-1))) fun σ3 => (vp_in i1 (ln 67) ∧ x7_done (σ3 67 i1.toNatClampNeg) σ3 (fun r4 σ5 => k r4 σ5))) else x7_finds 1 σ2 (fun r6 σ7 => k r6 σ7)))))
def x7_fails (i1 : Int32) (σ : St) (k : Int32 → St → Prop) : Prop :=
  lt (st_up σ 65 11 i1) fun σ1 => (isB 0 ∧ k 0 σ1)
def x7_fault  (σ : St) (k : Int32 → St → Prop) : Prop :=
  k (σ 65 10) σ
def x7_feed (i1 : Int32) (σ : St) (k : Int32 → St → Prop) : Prop :=
  x7_in i1 0 255 σ (fun r1 σ2 => (if r1 = 0 then k ((-1000001)) σ2 else (if (σ2 65 4) = 100 then k ((-1000003)) σ2 else (vp_in (σ2 65 4) (ln 69) ∧ lt (st_up σ2 69 (σ2 65 4).toNatClampNeg i1) fun σ3 => lt (st_up σ3 65 4 ((σ3 65 4) + 1)) fun σ4 => k (σ4 65 4) σ4))))
def x7_image (i1 : Int32) (σ : St) (k : Int32 → St → Prop) : Prop :=
  x7_in i1 0 1 σ (fun r1 σ2 => (if r1 = 0 then k ((-1000001)) σ2 else x7_isStreet  σ2 (fun r3 σ4 => (if r3 = 0 then k ((-1000002)) σ4 else x7_lay 70 0 73 (53 * i1) σ4 (fun σ6 => (vp_in i1 (ln 74) ∧ lt (st_up σ6 74 i1.toNatClampNeg 1) fun σ7 => k 1 σ7))))))
def x7_sortOf_51 (i0 : Int32)  (s0 : Int32) (σ : St) (k : Int32 → St → Prop) : Prop :=
  k s0 σ
def x7_sortOf (i0 : Int32) (σ : St) (k : Int32 → St → Prop) : Prop :=
  (if i0 = 117 then x7_sortOf_51 i0 1 σ k else (if i0 = 108 then x7_sortOf_51 i0 2 σ k else (if i0 = 98 then x7_sortOf_51 i0 3 σ k else (if i0 = 112 then x7_sortOf_51 i0 4 σ k else (if i0 = 107 then x7_sortOf_51 i0 5 σ k else x7_sortOf_51 i0 0 σ k)))))
def x7_nextToken_218    (σ : St) (k : St → Prop) : Prop :=
  k σ
def x7_nextToken_205   (s1 : Int32) (σ : St) (k : St → Prop) : Prop :=
  lt (st_up σ 65 8 s1) fun σ9 => lt (st_up σ9 65 6 ((σ9 65 6) + 1)) fun σ10 => x7_nextToken_218 σ10 k
def x7_nextToken_199   (i1 : Int32) (σ : St) (k : St → Prop) : Prop :=
  x7_nextToken_205 i1 σ k
def x7_nextToken_159   (s1 : Int32) (σ : St) (k : St → Prop) : Prop :=
  lt (st_up σ 65 8 s1) fun σ11 => x7_nextToken_218 σ11 k
def x7_nextToken_139    (σ : St) (k : St → Prop) : Prop :=
  (if ((σ 65 6) - (σ 65 7)) ≤ 2 then x7_nextToken_159 ((-1)) σ k else x7_nextToken_159 ((-3)) σ k)
def x7_nextToken_123  (R52 : St → Prop) (s1 : Int32) (σ : St) (k : St → Prop) : Prop :=
  lt (st_up σ 65 9 s1) fun σ14 => lt (st_up σ14 65 6 ((σ14 65 6) + 1)) fun σ15 => R52 σ15
def x7_nextToken_52   (k : St → Prop) : Nat → St → Prop
  | 0, _ => False
  | n + 1, σ => (if (σ 65 4) ≤ (σ 65 6) then x7_nextToken_139 σ k else (vp_in (σ 65 6) (ln 69) ∧ x7_in (σ 69 (σ 65 6).toNatClampNeg) 48 57 σ (fun r12 σ13 => (if r12 = 0 then x7_nextToken_139 σ13 k else (if 2 ≤ ((σ13 65 6) - (σ13 65 7)) then x7_nextToken_123 (x7_nextToken_52 k n) (σ13 65 9) σ13 k else (vp_in (σ13 65 6) (ln 69) ∧ x7_nextToken_123 (x7_nextToken_52 k n) (((10 * (σ13 65 9)) + (σ13 69 (σ13 65 6).toNatClampNeg)) - 48) σ13 k))))))
def x7_nextToken  (σ : St) (k : St → Prop) : Prop :=
  lt (st_up σ 65 7 (σ 65 6)) fun σ1 => lt (st_up σ1 65 9 0) fun σ2 => (if (σ2 65 6) = (σ2 65 4) then lt (st_up σ2 65 8 ((-2))) fun σ3 => x7_nextToken_218 σ3 k else (vp_in (σ2 65 6) (ln 69) ∧ x7_in (σ2 69 (σ2 65 6).toNatClampNeg) 48 57 σ2 (fun r4 σ5 => (if r4 = 0 then (vp_in (σ5 65 6) (ln 69) ∧ lt (σ5 69 (σ5 65 6).toNatClampNeg) fun v6 => x7_in v6 97 122 σ5 (fun r7 σ8 => (if r7 = 0 then (if v6 = 44 then x7_nextToken_199 v6 σ8 k else (if v6 = 59 then x7_nextToken_199 v6 σ8 k else x7_nextToken_205 ((-3)) σ8 k)) else x7_nextToken_199 v6 σ8 k))) else ∃ n52, x7_nextToken_52 k n52 σ5))))
def x7_isNumber_43 (i1 : Int32) (i2 : Int32)  (s0 : Int32) (σ : St) (k : Int32 → St → Prop) : Prop :=
  (isB s0 ∧ k s0 σ)
def x7_isNumber_38 (i1 : Int32) (i2 : Int32)   (σ : St) (k : Int32 → St → Prop) : Prop :=
  x7_isNumber_43 i1 i2 1 σ k
def x7_isNumber (i1 : Int32) (i2 : Int32) (σ : St) (k : Int32 → St → Prop) : Prop :=
  x7_nextToken  σ (fun σ2 => (if (σ2 65 8) = ((-1)) then x7_in (σ2 65 9) i1 i2 σ2 (fun r3 σ4 => (if r3 = 0 then x7_fails 2 σ4 (fun r5 σ6 => (if r5 = 0 then x7_isNumber_43 i1 i2 0 σ6 k else x7_isNumber_38 i1 i2 σ6 k)) else x7_isNumber_38 i1 i2 σ4 k)) else x7_fails 1 σ2 (fun r7 σ8 => (isB r7 ∧ k r7 σ8))))
def x7_isSign_25 (i1 : Int32)  (s0 : Int32) (σ : St) (k : Int32 → St → Prop) : Prop :=
  (isB s0 ∧ k s0 σ)
def x7_isSign_20 (i1 : Int32)   (σ : St) (k : Int32 → St → Prop) : Prop :=
  x7_isSign_25 i1 1 σ k
def x7_isSign (i1 : Int32) (σ : St) (k : Int32 → St → Prop) : Prop :=
  x7_nextToken  σ (fun σ2 => (if (σ2 65 8) = i1 then x7_isSign_20 i1 σ2 k else x7_fails 1 σ2 (fun r3 σ4 => (if r3 = 0 then x7_isSign_25 i1 0 σ4 k else x7_isSign_20 i1 σ4 k))))
def x7_isCaller_90    (σ : St) (k : Int32 → St → Prop) : Prop :=
  (isB 0 ∧ k 0 σ)
def x7_isCaller  (σ : St) (k : Int32 → St → Prop) : Prop :=
  (vp_in 3 (ln 71) ∧ (if (σ 71 (3 : Int32).toNatClampNeg) = 6 then x7_fails 3 σ (fun r1 σ2 => (isB r1 ∧ k r1 σ2)) else (vp_in 3 (ln 71) ∧ lt (σ 71 (3 : Int32).toNatClampNeg) fun v3 => x7_sortOf (σ 65 8) σ (fun r4 σ5 => (vp_in (29 + v3) (ln 71) ∧ lt (st_up σ5 71 (29 + v3).toNatClampNeg r4) fun σ6 => (vp_in 2 (ln 71) ∧ x7_isNumber 0 ((σ6 71 (2 : Int32).toNatClampNeg) - 1) σ6 (fun r7 σ8 => (if r7 = 0 then (isB 0 ∧ k 0 σ8) else (vp_in (41 + v3) (ln 71) ∧ lt (st_up σ8 71 (41 + v3).toNatClampNeg (σ8 65 9)) fun σ9 => x7_isSign 44 σ9 (fun r10 σ11 => (if r10 = 0 then x7_isCaller_90 σ11 k else x7_isNumber 0 20 σ11 (fun r12 σ13 => (if r12 = 0 then x7_isCaller_90 σ13 k else (vp_in (35 + v3) (ln 71) ∧ lt (st_up σ13 71 (35 + v3).toNatClampNeg (σ13 65 9)) fun σ14 => (vp_in 3 (ln 71) ∧ (vp_in 3 (ln 71) ∧ lt (st_up σ14 71 (3 : Int32).toNatClampNeg ((σ14 71 (3 : Int32).toNatClampNeg) + 1)) fun σ15 => x7_isSign 59 σ15 (fun r16 σ17 => (isB r16 ∧ k r16 σ17))))))))))))))))))
def x7_isDoor  (σ : St) (k : Int32 → St → Prop) : Prop :=
  (vp_in 2 (ln 71) ∧ (if (σ 71 (2 : Int32).toNatClampNeg) = 6 then x7_fails 3 σ (fun r1 σ2 => (isB r1 ∧ k r1 σ2)) else x7_isNumber 1 20 σ (fun r3 σ4 => (if r3 = 0 then (isB 0 ∧ k 0 σ4) else (vp_in 2 (ln 71) ∧ (vp_in (5 + (σ4 71 (2 : Int32).toNatClampNeg)) (ln 71) ∧ lt (st_up σ4 71 (5 + (σ4 71 (2 : Int32).toNatClampNeg)).toNatClampNeg (σ4 65 9)) fun σ5 => (vp_in 2 (ln 71) ∧ (vp_in 2 (ln 71) ∧ lt (st_up σ5 71 (2 : Int32).toNatClampNeg ((σ5 71 (2 : Int32).toNatClampNeg) + 1)) fun σ6 => x7_isSign 59 σ6 (fun r7 σ8 => (isB r7 ∧ k r7 σ8))))))))))
def x7_isLaw_19    (σ : St) (k : Int32 → St → Prop) : Prop :=
  (isB 0 ∧ k 0 σ)
def x7_isLaw_50    (σ : St) (k : Int32 → St → Prop) : Prop :=
  (isB 0 ∧ k 0 σ)
def x7_isLaw  (σ : St) (k : Int32 → St → Prop) : Prop :=
  x7_isSign 103 σ (fun r1 σ2 => (if r1 = 0 then x7_isLaw_19 σ2 k else x7_isNumber 0 60 σ2 (fun r3 σ4 => (if r3 = 0 then x7_isLaw_19 σ4 k else (vp_in 0 (ln 71) ∧ lt (st_up σ4 71 (0 : Int32).toNatClampNeg (σ4 65 9)) fun σ5 => x7_isSign 44 σ5 (fun r6 σ7 => (if r6 = 0 then x7_isLaw_50 σ7 k else x7_isNumber 0 12 σ7 (fun r8 σ9 => (if r8 = 0 then x7_isLaw_50 σ9 k else (vp_in 1 (ln 71) ∧ lt (st_up σ9 71 (1 : Int32).toNatClampNeg (σ9 65 9)) fun σ10 => x7_isSign 59 σ10 (fun r11 σ12 => (isB r11 ∧ k r11 σ12))))))))))))
def x7_isRead_141    (σ : St) (k : Int32 → St → Prop) : Prop :=
  (isB 0 ∧ k 0 σ)
def x7_isRead_143  (R39 : St → Prop)  (σ : St) (k : Int32 → St → Prop) : Prop :=
  x7_nextToken  σ (fun σ11 => R39 σ11)
def x7_isRead_120  (R39 : St → Prop) (i1 : Int32) (σ : St) (k : Int32 → St → Prop) : Prop :=
  (if i1 = 0 then x7_isDoor  σ (fun r8 σ9 => (if r8 = 0 then x7_isRead_141 σ9 k else x7_isRead_143 R39 σ9 k)) else x7_isCaller  σ (fun r12 σ13 => (if r12 = 0 then x7_isRead_141 σ13 k else x7_isRead_143 R39 σ13 k)))
def x7_isRead_105  (R39 : St → Prop) (i1 : Int32) (s0 : Int32) (σ : St) (k : Int32 → St → Prop) : Prop :=
  (if i1 = 0 then (if s0 = 0 then x7_fails 1 σ (fun r6 σ7 => (isB r6 ∧ k r6 σ7)) else x7_isRead_120 R39 i1 σ k) else x7_isRead_120 R39 i1 σ k)
def x7_isRead_104  (R39 : St → Prop) (i1 : Int32) (σ : St) (k : Int32 → St → Prop) : Prop :=
  x7_isRead_105 R39 i1 0 σ k
def x7_isRead_81  (R39 : St → Prop) (s0 : Int32) (σ : St) (k : Int32 → St → Prop) : Prop :=
  (if (σ 65 8) = 100 then (vp_in 3 (ln 71) ∧ (if (σ 71 (3 : Int32).toNatClampNeg) = 0 then x7_isRead_105 R39 s0 1 σ k else x7_isRead_104 R39 s0 σ k)) else x7_isRead_104 R39 s0 σ k)
def x7_isRead_80  (R39 : St → Prop)  (σ : St) (k : Int32 → St → Prop) : Prop :=
  x7_isRead_81 R39 0 σ k
def x7_isRead_57  (R39 : St → Prop)  (σ : St) (k : Int32 → St → Prop) : Prop :=
  (vp_in 2 (ln 71) ∧ (if (σ 71 (2 : Int32).toNatClampNeg) ≤ 0 then x7_isRead_80 R39 σ k else x7_sortOf (σ 65 8) σ (fun r14 σ15 => (if r14 ≤ 0 then x7_isRead_80 R39 σ15 k else x7_isRead_81 R39 1 σ15 k))))
def x7_isRead_39   (k : Int32 → St → Prop) : Nat → St → Prop
  | 0, _ => False
  | n + 1, σ => (if (σ 65 8) = ((-2)) then (vp_in 2 (ln 71) ∧ (if (σ 71 (2 : Int32).toNatClampNeg) = 0 then x7_isRead_57 (x7_isRead_39 k n) σ k else (isB 1 ∧ k 1 σ))) else x7_isRead_57 (x7_isRead_39 k n) σ k)
def x7_isRead_7   (k : Int32 → St → Prop) : Nat → Int32 → St → Prop
  | 0, _, _ => False
  | n + 1, i1, σ => (if 53 ≤ i1 then x7_isLaw  σ (fun r2 σ3 => (if r2 = 0 then (isB 0 ∧ k 0 σ3) else x7_nextToken  σ3 (fun σ5 => ∃ n39, x7_isRead_39 k n39 σ5))) else (vp_in i1 (ln 71) ∧ lt (st_up σ 71 i1.toNatClampNeg 0) fun σ16 => x7_isRead_7 k n (i1 + 1) σ16))
def x7_isRead  (σ : St) (k : Int32 → St → Prop) : Prop :=
  lt (st_up σ 65 6 0) fun σ1 => ∃ n7, x7_isRead_7 k n7 0 σ1
def x7_kind_18 (i1 : Int32)  (s0 : Int32) (σ : St) (k : Int32 → St → Prop) : Prop :=
  k s0 σ
def x7_kind (i1 : Int32) (σ : St) (k : Int32 → St → Prop) : Prop :=
  x7_isOne i1 σ (fun r1 σ2 => (if r1 = 0 then x7_kind_18 i1 ((-1000001)) σ2 k else x7_kindOf i1 σ2 (fun r3 σ4 => x7_kind_18 i1 r3 σ4 k)))
def x7_layCosts_70 (i1 : Int32) (i2 : Int32) (R9 : Int32 → St → Prop) (R16 : Int32 → Int32 → St → Prop) (R30 : Int32 → Int32 → Int32 → Int32 → St → Prop) (i3 : Int32) (i4 : Int32) (i6 : Int32) (s0 : Int32) (σ : St) (k : St → Prop) : Prop :=
  R30 i3 i4 s0 (i6 + 1) σ
def x7_layCosts_30 (i1 : Int32) (i2 : Int32) (R9 : Int32 → St → Prop) (R16 : Int32 → Int32 → St → Prop) (k : St → Prop) : Nat → Int32 → Int32 → Int32 → Int32 → St → Prop
  | 0, _, _, _, _, _ => False
  | n + 1, i3, i4, i5, i6, σ => (if 12 ≤ i6 then (vp_in ((4 * i3) + i4) (ln 78) ∧ lt (st_up σ 78 ((4 * i3) + i4).toNatClampNeg i5) fun σ2 => R16 i3 (i4 + 1) σ2) else (¬ (2 : Int32) = 0 ∧ (¬ (2 : Int32) = 0 ∧ x7_costBy i3 i4 (i6 / 2) (i6 % 2) i1 i2 σ (fun r3 σ4 => (if i5 ≤ r3 then x7_layCosts_70 i1 i2 R9 R16 (x7_layCosts_30 i1 i2 R9 R16 k n) i3 i4 i6 i5 σ4 k else x7_layCosts_70 i1 i2 R9 R16 (x7_layCosts_30 i1 i2 R9 R16 k n) i3 i4 i6 r3 σ4 k)))))
def x7_layCosts_16 (i1 : Int32) (i2 : Int32) (R9 : Int32 → St → Prop) (k : St → Prop) : Nat → Int32 → Int32 → St → Prop
  | 0, _, _, _ => False
  | n + 1, i3, i4, σ => (if 4 ≤ i4 then R9 (i3 + (-1)) σ else ∃ n30, x7_layCosts_30 i1 i2 R9 (x7_layCosts_16 i1 i2 R9 k n) k n30 i3 i4 9999 0 σ)
def x7_layCosts_9 (i1 : Int32) (i2 : Int32)  (k : St → Prop) : Nat → Int32 → St → Prop
  | 0, _, _ => False
  | n + 1, i3, σ => (if i3 < 0 then k σ else ∃ n16, x7_layCosts_16 i1 i2 (x7_layCosts_9 i1 i2 k n) k n16 i3 0 σ)
def x7_layCosts (i1 : Int32) (i2 : Int32) (σ : St) (k : St → Prop) : Prop :=
  (vp_in 2 (ln 70) ∧ lt ((σ 70 (2 : Int32).toNatClampNeg) - 1) fun v1 => ∃ n9, x7_layCosts_9 i1 i2 k n9 v1 σ)
def x7_layLeast_207 (i1 : Int32) (i2 : Int32) (R66 : Int32 → Int32 → Int32 → Int32 → Int32 → Int32 → Int32 → St → Prop) (i3 : Int32) (i4 : Int32) (i5 : Int32) (i9 : Int32) (σ : St) (k : Int32 → St → Prop) : Prop :=
  (vp_in i9 (ln 77) ∧ (¬ (2 : Int32) = 0 ∧ lt ((σ 77 i9.toNatClampNeg) % 2) fun v3 => (vp_in i9 (ln 77) ∧ (¬ (4 : Int32) = 0 ∧ lt ((σ 77 i9.toNatClampNeg) / 4) fun v4 => (vp_in i9 (ln 77) ∧ (¬ (2 : Int32) = 0 ∧ (¬ (2 : Int32) = 0 ∧ lt (((σ 77 i9.toNatClampNeg) / 2) % 2) fun v5 => lt (i4 - ((v4 + v5) + v3)) fun v6 => R66 i3 v6 v3 v4 v5 i5 (i9 + 1) σ)))))))
def x7_layLeast_201 (i1 : Int32) (i2 : Int32) (R66 : Int32 → Int32 → Int32 → Int32 → Int32 → Int32 → Int32 → St → Prop) (R83 : Int32 → Int32 → Int32 → Int32 → Int32 → Int32 → Int32 → Int32 → Int32 → St → Prop) (i3 : Int32) (i4 : Int32) (i5 : Int32) (i6 : Int32) (i7 : Int32) (i8 : Int32) (i9 : Int32) (i10 : Int32) (i11 : Int32) (σ : St) (k : Int32 → St → Prop) : Prop :=
  R83 i3 i4 i5 i6 i7 i8 i9 i10 (i11 + 1) σ
def x7_layLeast_157 (i1 : Int32) (i2 : Int32) (R66 : Int32 → Int32 → Int32 → Int32 → Int32 → Int32 → Int32 → St → Prop) (R83 : Int32 → Int32 → Int32 → Int32 → Int32 → Int32 → Int32 → Int32 → Int32 → St → Prop) (i3 : Int32) (i4 : Int32) (i5 : Int32) (i6 : Int32) (i7 : Int32) (i8 : Int32) (i9 : Int32) (i10 : Int32) (i11 : Int32) (i13 : Int32) (s0 : Int32) (σ : St) (k : Int32 → St → Prop) : Prop :=
  (if s0 = 0 then x7_layLeast_201 i1 i2 R66 R83 i3 i4 i5 i6 i7 i8 i9 i10 i11 σ k else (¬ (4 : Int32) = 0 ∧ (¬ (2 : Int32) = 0 ∧ (¬ (2 : Int32) = 0 ∧ x7_costBy i9 i13 (i11 / 4) ((i11 / 2) % 2) i1 i2 σ (fun r9 σ10 => (if r9 = i4 then (vp_in i9 (ln 77) ∧ lt (st_up σ10 77 i9.toNatClampNeg i11) fun σ11 => x7_layLeast_201 i1 i2 R66 R83 i3 i4 i5 i6 i7 i8 i9 1 i11 σ11 k) else x7_layLeast_201 i1 i2 R66 R83 i3 i4 i5 i6 i7 i8 i9 i10 i11 σ10 k))))))
def x7_layLeast_152 (i1 : Int32) (i2 : Int32) (R66 : Int32 → Int32 → Int32 → Int32 → Int32 → Int32 → Int32 → St → Prop) (R83 : Int32 → Int32 → Int32 → Int32 → Int32 → Int32 → Int32 → Int32 → Int32 → St → Prop) (i3 : Int32) (i4 : Int32) (i5 : Int32) (i6 : Int32) (i7 : Int32) (i8 : Int32) (i9 : Int32) (i10 : Int32) (i11 : Int32) (i13 : Int32) (σ : St) (k : Int32 → St → Prop) : Prop :=
  x7_layLeast_157 i1 i2 R66 R83 i3 i4 i5 i6 i7 i8 i9 i10 i11 i13 1 σ k
def x7_layLeast_144 (i1 : Int32) (i2 : Int32) (R66 : Int32 → Int32 → Int32 → Int32 → Int32 → Int32 → Int32 → St → Prop) (R83 : Int32 → Int32 → Int32 → Int32 → Int32 → Int32 → Int32 → Int32 → Int32 → St → Prop) (i3 : Int32) (i4 : Int32) (i5 : Int32) (i6 : Int32) (i7 : Int32) (i8 : Int32) (i9 : Int32) (i10 : Int32) (i11 : Int32) (i13 : Int32) (s4 : Int32) (s3 : Int32) (s2 : Int32) (s1 : Int32) (σ : St) (k : Int32 → St → Prop) : Prop :=
  x7_fits s1 s2 s3 s4 i1 i2 σ (fun r12 σ13 => (if r12 = 0 then x7_layLeast_157 i1 i2 R66 R83 i3 i4 i5 i6 i7 i8 i9 i10 i11 i13 0 σ13 k else x7_layLeast_152 i1 i2 R66 R83 i3 i4 i5 i6 i7 i8 i9 i10 i11 i13 σ13 k))
def x7_layLeast_139 (i1 : Int32) (i2 : Int32) (R66 : Int32 → Int32 → Int32 → Int32 → Int32 → Int32 → Int32 → St → Prop) (R83 : Int32 → Int32 → Int32 → Int32 → Int32 → Int32 → Int32 → Int32 → Int32 → St → Prop) (i3 : Int32) (i4 : Int32) (i5 : Int32) (i6 : Int32) (i7 : Int32) (i8 : Int32) (i9 : Int32) (i10 : Int32) (i11 : Int32) (i13 : Int32) (s3 : Int32) (s2 : Int32) (s1 : Int32) (σ : St) (k : Int32 → St → Prop) : Prop :=
  x7_layLeast_144 i1 i2 R66 R83 i3 i4 i5 i6 i7 i8 i9 i10 i11 i13 1 s3 s2 s1 σ k
def x7_layLeast_83 (i1 : Int32) (i2 : Int32) (R66 : Int32 → Int32 → Int32 → Int32 → Int32 → Int32 → Int32 → St → Prop) (k : Int32 → St → Prop) : Nat → Int32 → Int32 → Int32 → Int32 → Int32 → Int32 → Int32 → Int32 → Int32 → St → Prop
  | 0, _, _, _, _, _, _, _, _, _, _ => False
  | n + 1, i3, i4, i5, i6, i7, i8, i9, i10, i11, σ => (if 24 ≤ i11 then x7_layLeast_207 i1 i2 R66 i3 i4 i5 i9 σ k else (if i10 = 0 then (¬ (2 : Int32) = 0 ∧ lt (i11 % 2) fun v7 => lt ((2 * i5) + v7) fun v8 => (if i6 < 0 then x7_layLeast_152 i1 i2 R66 (x7_layLeast_83 i1 i2 R66 k n) i3 i4 i5 i6 i7 i8 i9 i10 i11 v8 σ k else (if 0 < i8 then x7_layLeast_139 i1 i2 R66 (x7_layLeast_83 i1 i2 R66 k n) i3 i4 i5 i6 i7 i8 i9 i10 i11 v8 i7 i6 (i9 - 1) σ k else (if 0 < i5 then x7_layLeast_139 i1 i2 R66 (x7_layLeast_83 i1 i2 R66 k n) i3 i4 i5 i6 i7 i8 i9 i10 i11 v8 i7 i6 (i9 - 1) σ k else (if v7 ≤ 0 then x7_layLeast_144 i1 i2 R66 (x7_layLeast_83 i1 i2 R66 k n) i3 i4 i5 i6 i7 i8 i9 i10 i11 v8 0 i7 i6 (i9 - 1) σ k else x7_layLeast_139 i1 i2 R66 (x7_layLeast_83 i1 i2 R66 k n) i3 i4 i5 i6 i7 i8 i9 i10 i11 v8 i7 i6 (i9 - 1) σ k))))) else x7_layLeast_207 i1 i2 R66 i3 i4 i5 i9 σ k))
def x7_layLeast_66 (i1 : Int32) (i2 : Int32)  (k : Int32 → St → Prop) : Nat → Int32 → Int32 → Int32 → Int32 → Int32 → Int32 → Int32 → St → Prop
  | 0, _, _, _, _, _, _, _, _ => False
  | n + 1, i3, i4, i5, i6, i7, i8, i9, σ => (vp_in 2 (ln 70) ∧ (if (σ 70 (2 : Int32).toNatClampNeg) ≤ i9 then k i3 σ else ∃ n83, x7_layLeast_83 i1 i2 (x7_layLeast_66 i1 i2 k n) k n83 i3 i4 i5 i6 i7 i8 i9 0 0 σ))
def x7_layLeast_36 (i1 : Int32) (i2 : Int32)  (s0 : Int32) (σ : St) (k : Int32 → St → Prop) : Prop :=
  (if s0 < 9999 then ∃ n66, x7_layLeast_66 i1 i2 k n66 s0 s0 0 ((-1)) 0 0 0 σ else k 9999 σ)
def x7_layLeast (i1 : Int32) (i2 : Int32) (σ : St) (k : Int32 → St → Prop) : Prop :=
  x7_layCosts i1 i2 σ (fun σ2 => (vp_in 0 (ln 78) ∧ (vp_in 1 (ln 78) ∧ (if (σ2 78 (1 : Int32).toNatClampNeg) ≤ (σ2 78 (0 : Int32).toNatClampNeg) then (vp_in 1 (ln 78) ∧ x7_layLeast_36 i1 i2 (σ2 78 (1 : Int32).toNatClampNeg) σ2 k) else (vp_in 0 (ln 78) ∧ x7_layLeast_36 i1 i2 (σ2 78 (0 : Int32).toNatClampNeg) σ2 k)))))
def x7_least_32 (i1 : Int32) (i2 : Int32) (i3 : Int32)   (σ : St) (k : Int32 → St → Prop) : Prop :=
  k ((-1000001)) σ
def x7_least_71 (i1 : Int32) (i2 : Int32) (i3 : Int32)  (s0 : Int32) (σ : St) (k : Int32 → St → Prop) : Prop :=
  k s0 σ
def x7_least_35 (i1 : Int32) (i2 : Int32) (i3 : Int32)   (σ : St) (k : Int32 → St → Prop) : Prop :=
  x7_layLeast i1 i2 σ (fun r5 σ6 => (if r5 < 9999 then (if 0 ≤ i3 then (vp_in i3 (ln 77) ∧ x7_least_71 i1 i2 i3 (σ6 77 i3.toNatClampNeg) σ6 k) else x7_least_71 i1 i2 i3 r5 σ6 k) else x7_least_71 i1 i2 i3 ((-1000000)) σ6 k))
def x7_least (i1 : Int32) (i2 : Int32) (i3 : Int32) (σ : St) (k : Int32 → St → Prop) : Prop :=
  x7_isStreet  σ (fun r1 σ2 => (if r1 = 0 then k ((-1000002)) σ2 else x7_areSets i1 i2 σ2 (fun r3 σ4 => (if r3 = 0 then x7_least_32 i1 i2 i3 σ4 k else (if i3 = ((-1)) then x7_least_35 i1 i2 i3 σ4 k else x7_isDoorAt i3 σ4 (fun r7 σ8 => (if r7 = 0 then x7_least_32 i1 i2 i3 σ8 k else x7_least_35 i1 i2 i3 σ8 k)))))))
def x7_meets_19   (s0 : Int32) (σ : St) (k : Int32 → St → Prop) : Prop :=
  k s0 σ
def x7_meets  (σ : St) (k : Int32 → St → Prop) : Prop :=
  x7_isStreet  σ (fun r1 σ2 => (if r1 = 0 then x7_meets_19 ((-1000002)) σ2 k else x7_meetersOf 70 σ2 (fun r3 σ4 => x7_meets_19 r3 σ4 k)))
def x7_nothing_48  (R20 : Int32 → Int32 → St → Prop) (i1 : Int32) (i2 : Int32) (σ : St) (k : Int32 → St → Prop) : Prop :=
  R20 i1 (i2 + 1) σ
def x7_nothing_20   (k : Int32 → St → Prop) : Nat → Int32 → Int32 → St → Prop
  | 0, _, _, _ => False
  | n + 1, i1, i2, σ => (vp_in 2 (ln 70) ∧ (if (σ 70 (2 : Int32).toNatClampNeg) ≤ i2 then k ((-1000000)) σ else x7_callersAt i2 σ (fun r5 σ6 => (if r5 = 0 then x7_nothing_48 (x7_nothing_20 k n) i1 i2 σ6 k else (if (r5 &&& i1) = 0 then k i2 σ6 else x7_nothing_48 (x7_nothing_20 k n) i1 i2 σ6 k)))))
def x7_nothing  (σ : St) (k : Int32 → St → Prop) : Prop :=
  x7_isStreet  σ (fun r1 σ2 => (if r1 = 0 then k ((-1000002)) σ2 else x7_meetersOf 70 σ2 (fun r3 σ4 => ∃ n20, x7_nothing_20 k n20 r3 0 σ4)))
def x7_rather_16 (i1 : Int32) (i2 : Int32) (i3 : Int32)   (σ : St) (k : Int32 → St → Prop) : Prop :=
  k ((-1000001)) σ
def x7_rather_264 (i1 : Int32) (i2 : Int32) (i3 : Int32)  (s1 : Int32) (σ : St) (k : Int32 → St → Prop) : Prop :=
  x7_done s1 σ (fun r10 σ11 => k r10 σ11)
def x7_rather_243 (i1 : Int32) (i2 : Int32) (i3 : Int32) (R111 : Int32 → Int32 → Int32 → Int32 → St → Prop) (i4 : Int32) (i5 : Int32) (i7 : Int32) (s1 : Int32) (s0 : Int32) (σ : St) (k : Int32 → St → Prop) : Prop :=
  lt (s0 + s1) fun v13 => R111 i4 i5 v13 (i7 + 1) σ
def x7_rather_228 (i1 : Int32) (i2 : Int32) (i3 : Int32) (R111 : Int32 → Int32 → Int32 → Int32 → St → Prop) (i4 : Int32) (i6 : Int32) (i7 : Int32) (i10 : Int32) (s1 : Int32) (s0 : Int32) (σ : St) (k : Int32 → St → Prop) : Prop :=
  lt (s0 ||| s1) fun v12 => (if i10 = 0 then x7_rather_243 i1 i2 i3 R111 i4 v12 i7 0 i6 σ k else x7_rather_243 i1 i2 i3 R111 i4 v12 i7 1 i6 σ k)
def x7_rather_211 (i1 : Int32) (i2 : Int32) (i3 : Int32) (R111 : Int32 → Int32 → Int32 → Int32 → St → Prop) (i4 : Int32) (i5 : Int32) (i6 : Int32) (i7 : Int32) (s0 : Int32) (σ : St) (k : Int32 → St → Prop) : Prop :=
  (if s0 = 0 then x7_rather_228 i1 i2 i3 R111 i4 i6 i7 s0 0 i5 σ k else x7_rather_228 i1 i2 i3 R111 i4 i6 i7 s0 (1 <<< (i7 &&& 31)) i5 σ k)
def x7_rather_210 (i1 : Int32) (i2 : Int32) (i3 : Int32) (R111 : Int32 → Int32 → Int32 → Int32 → St → Prop) (i4 : Int32) (i5 : Int32) (i6 : Int32) (i7 : Int32) (σ : St) (k : Int32 → St → Prop) : Prop :=
  x7_rather_211 i1 i2 i3 R111 i4 i5 i6 i7 0 σ k
def x7_rather_154 (i1 : Int32) (i2 : Int32) (i3 : Int32) (R111 : Int32 → Int32 → Int32 → Int32 → St → Prop) (i4 : Int32) (i5 : Int32) (i6 : Int32) (i7 : Int32) (i8 : Int32) (s0 : Int32) (σ : St) (k : Int32 → St → Prop) : Prop :=
  (vp_in (i4 + i7) (ln 68) ∧ (vp_in (i4 + i8) (ln 68) ∧ (if (σ 68 (i4 + i7).toNatClampNeg) < (σ 68 (i4 + i8).toNatClampNeg) then x7_rather_210 i1 i2 i3 R111 i4 i5 i6 i7 σ k else (vp_in ((i4 + 4) + i7) (ln 68) ∧ (vp_in ((i4 + 4) + s0) (ln 68) ∧ (if (σ 68 ((i4 + 4) + i7).toNatClampNeg) < (σ 68 ((i4 + 4) + s0).toNatClampNeg) then x7_rather_210 i1 i2 i3 R111 i4 i5 i6 i7 σ k else x7_rather_211 i1 i2 i3 R111 i4 i5 i6 i7 1 σ k))))))
def x7_rather_134 (i1 : Int32) (i2 : Int32) (i3 : Int32) (R111 : Int32 → Int32 → Int32 → Int32 → St → Prop) (i4 : Int32) (i5 : Int32) (i6 : Int32) (i7 : Int32) (s0 : Int32) (σ : St) (k : Int32 → St → Prop) : Prop :=
  (¬ (2 : Int32) = 0 ∧ (if (i7 % 2) = 0 then x7_rather_154 i1 i2 i3 R111 i4 i5 i6 i7 s0 (i7 + 1) σ k else x7_rather_154 i1 i2 i3 R111 i4 i5 i6 i7 s0 (i7 - 1) σ k))
def x7_rather_111 (i1 : Int32) (i2 : Int32) (i3 : Int32)  (k : Int32 → St → Prop) : Nat → Int32 → Int32 → Int32 → Int32 → St → Prop
  | 0, _, _, _, _, _ => False
  | n + 1, i4, i5, i6, i7, σ => (if 4 ≤ i7 then (if i3 = 0 then x7_rather_264 i1 i2 i3 i6 σ k else x7_rather_264 i1 i2 i3 i5 σ k) else (if 2 ≤ i7 then x7_rather_134 i1 i2 i3 (x7_rather_111 i1 i2 i3 k n) i4 i5 i6 i7 (i7 - 2) σ k else x7_rather_134 i1 i2 i3 (x7_rather_111 i1 i2 i3 k n) i4 i5 i6 i7 (i7 + 2) σ k))
def x7_rather_66 (i1 : Int32) (i2 : Int32) (i3 : Int32)  (k : Int32 → St → Prop) : Nat → Int32 → Int32 → St → Prop
  | 0, _, _, _ => False
  | n + 1, i4, i5, σ => (if 8 ≤ i5 then ∃ n111, x7_rather_111 i1 i2 i3 k n111 i4 0 0 0 σ else (vp_in (i4 + i5) (ln 68) ∧ x7_in (σ 68 (i4 + i5).toNatClampNeg) ((-20)) 20 σ (fun r14 σ15 => (if r14 = 0 then k ((-1000001)) σ15 else x7_rather_66 i1 i2 i3 k n i4 (i5 + 1) σ15))))
def x7_rather (i1 : Int32) (i2 : Int32) (i3 : Int32) (σ : St) (k : Int32 → St → Prop) : Prop :=
  x7_isRow i1 σ (fun r1 σ2 => (if r1 = 0 then x7_rather_16 i1 i2 i3 σ2 k else x7_in i3 0 1 σ2 (fun r3 σ4 => (if r3 = 0 then x7_rather_16 i1 i2 i3 σ4 k else (vp_in i1 (ln 66) ∧ (if 0 ≤ (σ4 66 i1.toNatClampNeg) then (vp_in i1 (ln 67) ∧ x7_isPart i2 8 (σ4 67 i1.toNatClampNeg) σ4 (fun r5 σ6 => (if r5 = 0 then x7_finds 2 σ6 (fun r7 σ8 => k r7 σ8) else lt ((40 * i1) + i2) fun v9 => ∃ n66, x7_rather_66 i1 i2 i3 k n66 v9 0 σ6))) else x7_finds 1 σ4 (fun r16 σ17 => k r16 σ17)))))))
def x7_reaches_17 (i1 : Int32) (i2 : Int32)   (σ : St) (k : Int32 → St → Prop) : Prop :=
  k ((-1000001)) σ
def x7_reaches_123 (i1 : Int32) (i2 : Int32)  (s0 : Int32) (σ : St) (k : Int32 → St → Prop) : Prop :=
  k s0 σ
def x7_reaches_92 (i1 : Int32) (i2 : Int32) (R58 : Int32 → Int32 → St → Prop) (i4 : Int32) (s1 : Int32) (s0 : Int32) (σ : St) (k : Int32 → St → Prop) : Prop :=
  lt (s0 ||| s1) fun v15 => R58 v15 (i4 + 1) σ
def x7_reaches_58 (i1 : Int32) (i2 : Int32)  (k : Int32 → St → Prop) : Nat → Int32 → Int32 → St → Prop
  | 0, _, _, _ => False
  | n + 1, i3, i4, σ => (vp_in 2 (ln 70) ∧ (if (σ 70 (2 : Int32).toNatClampNeg) ≤ i4 then (if i2 = 0 then x7_reaches_123 i1 i2 i3 σ k else x7_meetersOf 70 σ (fun r9 σ10 => x7_meetersOf 72 σ10 (fun r11 σ12 => x7_reaches_123 i1 i2 (r9 ^^^ r11) σ12 k))) else x7_in i4 (i1 - 1) (i1 + 1) σ (fun r13 σ14 => (if r13 = 0 then x7_reaches_92 i1 i2 (x7_reaches_58 i1 i2 k n) i4 0 i3 σ14 k else x7_reaches_92 i1 i2 (x7_reaches_58 i1 i2 k n) i4 (1 <<< (i4 &&& 31)) i3 σ14 k))))
def x7_reaches (i1 : Int32) (i2 : Int32) (σ : St) (k : Int32 → St → Prop) : Prop :=
  x7_isDoorAt i1 σ (fun r1 σ2 => (if r1 = 0 then x7_reaches_17 i1 i2 σ2 k else x7_in i2 0 1 σ2 (fun r3 σ4 => (if r3 = 0 then x7_reaches_17 i1 i2 σ4 k else x7_lay 70 0 72 0 σ4 (fun σ6 => (vp_in (17 + i1) (ln 72) ∧ lt (st_up σ6 72 (17 + i1).toNatClampNeg 0) fun σ7 => (vp_in (23 + i1) (ln 72) ∧ lt (st_up σ7 72 (23 + i1).toNatClampNeg 0) fun σ8 => ∃ n58, x7_reaches_58 i1 i2 k n58 0 0 σ8)))))))
def x7_restore (i1 : Int32) (σ : St) (k : Int32 → St → Prop) : Prop :=
  x7_in i1 0 1 σ (fun r1 σ2 => (if r1 = 0 then k ((-1000001)) σ2 else (vp_in i1 (ln 74) ∧ (if (σ2 74 i1.toNatClampNeg) = 0 then k ((-1000002)) σ2 else x7_lay 73 (53 * i1) 70 0 σ2 (fun σ4 => lt (st_up σ4 65 18 0) fun σ5 => k 1 σ5)))))
def x7_row_22 (i1 : Int32) (i2 : Int32) (i3 : Int32)   (σ : St) (k : Int32 → St → Prop) : Prop :=
  k ((-1000001)) σ
def x7_row_52 (i1 : Int32) (i2 : Int32) (i3 : Int32)  (k : Int32 → St → Prop) : Nat → Int32 → St → Prop
  | 0, _, _ => False
  | n + 1, i4, σ => (if 40 ≤ i4 then x7_done i3 σ (fun r7 σ8 => k r7 σ8) else (vp_in ((40 * i1) + i4) (ln 68) ∧ lt (st_up σ 68 ((40 * i1) + i4).toNatClampNeg 0) fun σ9 => x7_row_52 i1 i2 i3 k n (i4 + 1) σ9))
def x7_row (i1 : Int32) (i2 : Int32) (i3 : Int32) (σ : St) (k : Int32 → St → Prop) : Prop :=
  x7_isRow i1 σ (fun r1 σ2 => (if r1 = 0 then x7_row_22 i1 i2 i3 σ2 k else x7_in i2 0 2 σ2 (fun r3 σ4 => (if r3 = 0 then x7_row_22 i1 i2 i3 σ4 k else (if i3 ≤ 40 then (if 0 ≤ i3 then (vp_in i1 (ln 66) ∧ lt (st_up σ4 66 i1.toNatClampNeg i2) fun σ5 => (vp_in i1 (ln 67) ∧ lt (st_up σ5 67 i1.toNatClampNeg i3) fun σ6 => ∃ n52, x7_row_52 i1 i2 i3 k n52 0 σ6)) else x7_finds 4 σ4 (fun r10 σ11 => k r10 σ11)) else x7_row_22 i1 i2 i3 σ4 k)))))
def x7_secondsUsed_4   (k : Int32 → St → Prop) : Nat → Int32 → Int32 → St → Prop
  | 0, _, _, _ => False
  | n + 1, i1, i2, σ => (if 6 ≤ i2 then k i1 σ else (vp_in (11 + i2) (ln 70) ∧ lt (i1 + (σ 70 (11 + i2).toNatClampNeg)) fun v1 => x7_secondsUsed_4 k n v1 (i2 + 1) σ))
def x7_secondsUsed  (σ : St) (k : Int32 → St → Prop) : Prop :=
  ∃ n4, x7_secondsUsed_4 k n4 0 0 σ
def x7_set_87 (i1 : Int32) (i2 : Int32) (i3 : Int32)  (s2 : Int32) (s1 : Int32) (so0 : Nat) (σ : St) (k : Int32 → St → Prop) : Prop :=
  (vp_in s1 (ln so0) ∧ lt (st_up σ so0 s1.toNatClampNeg s2) fun σ7 => (vp_in ((40 * i1) + i2) (ln 68) ∧ x7_done (σ7 68 ((40 * i1) + i2).toNatClampNeg) σ7 (fun r8 σ9 => k r8 σ9)))
def x7_set (i1 : Int32) (i2 : Int32) (i3 : Int32) (σ : St) (k : Int32 → St → Prop) : Prop :=
  x7_isRow i1 σ (fun r1 σ2 => (if r1 = 0 then k ((-1000001)) σ2 else (vp_in i1 (ln 66) ∧ (if 0 ≤ (σ2 66 i1.toNatClampNeg) then (vp_in i1 (ln 67) ∧ x7_in i2 0 ((σ2 67 i1.toNatClampNeg) - 1) σ2 (fun r3 σ4 => (if r3 = 0 then x7_finds 2 σ4 (fun r5 σ6 => k r5 σ6) else (vp_in i1 (ln 66) ∧ (if (σ4 66 i1.toNatClampNeg) = 0 then x7_set_87 i1 i2 i3 i3.toInt8.toInt32 ((40 * i1) + i2) 68 σ4 k else (vp_in i1 (ln 66) ∧ (if (σ4 66 i1.toNatClampNeg) = 1 then x7_set_87 i1 i2 i3 i3.toInt16.toInt32 ((40 * i1) + i2) 68 σ4 k else x7_set_87 i1 i2 i3 i3 ((40 * i1) + i2) 68 σ4 k))))))) else x7_finds 1 σ2 (fun r10 σ11 => k r10 σ11)))))
def x7_sleeps_27 (i1 : Int32) (i2 : Int32) (i3 : Int32)   (σ : St) (k : Int64 → St → Prop) : Prop :=
  k ((-1000001)) σ
def x7_sleeps_305 (i1 : Int32) (i2 : Int32) (i3 : Int32)  (l8 : Int64) (sl0 : Int64) (σ : St) (k : Int64 → St → Prop) : Prop :=
  (¬ l8 = 0 ∧ k (sl0 / l8) σ)
def x7_sleeps_269 (i1 : Int32) (i2 : Int32) (i3 : Int32)  (k : Int64 → St → Prop) : Nat → Int64 → Int64 → Int64 → Int64 → St → Prop
  | 0, _, _, _, _, _ => False
  | n + 1, l4, l6, l8, l10, σ => (if (lg_cmp l10 0) ≤ 0 then (if i3 = 0 then x7_sleeps_305 i1 i2 i3 l8 l4 σ k else x7_sleeps_305 i1 i2 i3 l8 l6 σ k) else (¬ l10 = 0 ∧ lt (l8 % l10) fun v7 => x7_sleeps_269 i1 i2 i3 k n l4 l6 l10 v7 σ))
def x7_sleeps_236 (i1 : Int32) (i2 : Int32) (i3 : Int32)  (k : Int64 → St → Prop) : Nat → Int64 → Int64 → Int32 → St → Prop
  | 0, _, _, _, _ => False
  | n + 1, l4, l6, i8, σ => (vp_in 2 (ln 70) ∧ (if (σ 70 (2 : Int32).toNatClampNeg) ≤ i8 then ∃ n269, x7_sleeps_269 i1 i2 i3 k n269 l4 l6 l4 l6 σ else lt (l6 * 10) fun v8 => x7_sleeps_236 i1 i2 i3 k n l4 v8 (i8 + 1) σ))
def x7_sleeps_221 (i1 : Int32) (i2 : Int32) (i3 : Int32) (R37 : Int64 → Int32 → St → Prop) (i6 : Int32) (sl1 : Int64) (sl0 : Int64) (σ : St) (k : Int64 → St → Prop) : Prop :=
  lt (sl0 + sl1) fun v13 => R37 v13 (i6 + 1) σ
def x7_sleeps_195 (i1 : Int32) (i2 : Int32) (i3 : Int32) (R37 : Int64 → Int32 → St → Prop) (R69 : Int64 → Int32 → Int64 → Int32 → St → Prop) (l4 : Int64) (i6 : Int32) (l7 : Int64) (i9 : Int32) (s2 : Int32) (s1 : Int32) (so0 : Nat) (σ : St) (k : Int64 → St → Prop) : Prop :=
  (vp_in s1 (ln so0) ∧ lt (st_up σ so0 s1.toNatClampNeg s2) fun σ19 => R69 l4 i6 l7 (i9 + 1) σ19)
def x7_sleeps_166 (i1 : Int32) (i2 : Int32) (i3 : Int32) (R37 : Int64 → Int32 → St → Prop) (R69 : Int64 → Int32 → Int64 → Int32 → St → Prop) (l4 : Int64) (i6 : Int32) (l7 : Int64) (i9 : Int32) (i10 : Int32) (s2 : Int32) (s1 : Int32) (so0 : Nat) (σ : St) (k : Int64 → St → Prop) : Prop :=
  (vp_in s1 (ln so0) ∧ lt (st_up σ so0 s1.toNatClampNeg s2) fun σ18 => (if i10 = 0 then (vp_in (23 + i9) (ln 70) ∧ x7_sleeps_195 i1 i2 i3 R37 R69 l4 i6 l7 i9 (σ18 70 (23 + i9).toNatClampNeg) (23 + i9) 72 σ18 k) else x7_sleeps_195 i1 i2 i3 R37 R69 l4 i6 l7 i9 0 (23 + i9) 72 σ18 k))
def x7_sleeps_137 (i1 : Int32) (i2 : Int32) (i3 : Int32) (R37 : Int64 → Int32 → St → Prop) (R69 : Int64 → Int32 → Int64 → Int32 → St → Prop) (l4 : Int64) (i6 : Int32) (l7 : Int64) (i9 : Int32) (i10 : Int32) (s2 : Int32) (s1 : Int32) (so0 : Nat) (σ : St) (k : Int64 → St → Prop) : Prop :=
  (vp_in s1 (ln so0) ∧ lt (st_up σ so0 s1.toNatClampNeg s2) fun σ17 => (if i10 = 0 then (vp_in (17 + i9) (ln 70) ∧ x7_sleeps_166 i1 i2 i3 R37 R69 l4 i6 l7 i9 i10 (σ17 70 (17 + i9).toNatClampNeg) (17 + i9) 72 σ17 k) else x7_sleeps_166 i1 i2 i3 R37 R69 l4 i6 l7 i9 i10 0 (17 + i9) 72 σ17 k))
def x7_sleeps_106 (i1 : Int32) (i2 : Int32) (i3 : Int32) (R37 : Int64 → Int32 → St → Prop) (R69 : Int64 → Int32 → Int64 → Int32 → St → Prop) (l4 : Int64) (i6 : Int32) (i9 : Int32) (i10 : Int32) (sl1 : Int64) (sl0 : Int64) (σ : St) (k : Int64 → St → Prop) : Prop :=
  lt (sl0 * sl1) fun v16 => (if i10 = 0 then (vp_in (11 + i9) (ln 70) ∧ x7_sleeps_137 i1 i2 i3 R37 R69 l4 i6 v16 i9 i10 (σ 70 (11 + i9).toNatClampNeg) (11 + i9) 72 σ k) else x7_sleeps_137 i1 i2 i3 R37 R69 l4 i6 v16 i9 i10 0 (11 + i9) 72 σ k)
def x7_sleeps_69 (i1 : Int32) (i2 : Int32) (i3 : Int32) (R37 : Int64 → Int32 → St → Prop) (k : Int64 → St → Prop) : Nat → Int64 → Int32 → Int64 → Int32 → St → Prop
  | 0, _, _, _, _, _ => False
  | n + 1, l4, i6, l7, i9, σ => (vp_in 2 (ln 70) ∧ (if (σ 70 (2 : Int32).toNatClampNeg) ≤ i9 then x7_doesMeet 72 i1 σ (fun r11 σ12 => (if r11 = 0 then x7_sleeps_221 i1 i2 i3 R37 i6 0 l4 σ12 k else x7_sleeps_221 i1 i2 i3 R37 i6 l7 l4 σ12 k)) else x7_has i6 i9 σ (fun r14 σ15 => (if r14 = 0 then x7_sleeps_106 i1 i2 i3 R37 (x7_sleeps_69 i1 i2 i3 R37 k n) l4 i6 i9 r14 ((10 - i2 : Int32).toInt64) l7 σ15 k else x7_sleeps_106 i1 i2 i3 R37 (x7_sleeps_69 i1 i2 i3 R37 k n) l4 i6 i9 r14 i2.toInt64 l7 σ15 k))))
def x7_sleeps_37 (i1 : Int32) (i2 : Int32) (i3 : Int32)  (k : Int64 → St → Prop) : Nat → Int64 → Int32 → St → Prop
  | 0, _, _, _ => False
  | n + 1, l4, i6, σ => (vp_in 2 (ln 70) ∧ (if (1 <<< ((σ 70 (2 : Int32).toNatClampNeg) &&& 31)) ≤ i6 then ∃ n236, x7_sleeps_236 i1 i2 i3 k n236 l4 1 0 σ else x7_lay 70 0 72 0 σ (fun σ10 => ∃ n69, x7_sleeps_69 i1 i2 i3 (x7_sleeps_37 i1 i2 i3 k n) k n69 l4 i6 1 0 σ10)))
def x7_sleeps (i1 : Int32) (i2 : Int32) (i3 : Int32) (σ : St) (k : Int64 → St → Prop) : Prop :=
  x7_isOne i1 σ (fun r1 σ2 => (if r1 = 0 then x7_sleeps_27 i1 i2 i3 σ2 k else x7_in i2 0 10 σ2 (fun r3 σ4 => (if r3 = 0 then x7_sleeps_27 i1 i2 i3 σ4 k else x7_in i3 0 1 σ4 (fun r5 σ6 => (if r5 = 0 then x7_sleeps_27 i1 i2 i3 σ6 k else ∃ n37, x7_sleeps_37 i1 i2 i3 k n37 0 0 σ6))))))
def x7_soon_26 (i1 : Int32)  (k : Int32 → St → Prop) : Nat → Int32 → St → Prop
  | 0, _, _ => False
  | n + 1, i2, σ => (if 60 < i2 then k ((-1000000)) σ else x7_pass 72 σ (fun r5 σ6 => x7_has r5 i1 σ6 (fun r7 σ8 => (if r7 = 0 then x7_soon_26 i1 k n (i2 + 1) σ8 else k i2 σ8))))
def x7_soon (i1 : Int32) (σ : St) (k : Int32 → St → Prop) : Prop :=
  x7_isOne i1 σ (fun r1 σ2 => (if r1 = 0 then k ((-1000001)) σ2 else x7_lay 70 0 72 0 σ2 (fun σ4 => ∃ n26, x7_soon_26 i1 k n26 0 σ4)))
def x7_soundsUsed_4   (k : Int32 → St → Prop) : Nat → Int32 → Int32 → St → Prop
  | 0, _, _, _ => False
  | n + 1, i1, i2, σ => (if 6 ≤ i2 then k i1 σ else (vp_in (17 + i2) (ln 70) ∧ (vp_in (23 + i2) (ln 70) ∧ lt (i1 + ((σ 70 (17 + i2).toNatClampNeg) + (σ 70 (23 + i2).toNatClampNeg))) fun v1 => x7_soundsUsed_4 k n v1 (i2 + 1) σ)))
def x7_soundsUsed  (σ : St) (k : Int32 → St → Prop) : Prop :=
  ∃ n4, x7_soundsUsed_4 k n4 0 0 σ
def x7_sound_26 (i1 : Int32) (i2 : Int32) (i3 : Int32)   (σ : St) (k : Int32 → St → Prop) : Prop :=
  k ((-1000001)) σ
def x7_sound_81 (i1 : Int32) (i2 : Int32) (i3 : Int32)  (i4 : Int32) (σ : St) (k : Int32 → St → Prop) : Prop :=
  x7_act  σ (fun σ11 => (vp_in i4 (ln 70) ∧ lt (st_up σ11 70 i4.toNatClampNeg i3) fun σ12 => x7_soundsUsed  σ12 (fun r13 σ14 => k r13 σ14)))
def x7_sound_40 (i1 : Int32) (i2 : Int32) (i3 : Int32)  (s0 : Int32) (σ : St) (k : Int32 → St → Prop) : Prop :=
  lt (s0 + i1) fun v7 => (vp_in v7 (ln 70) ∧ (if (σ 70 v7.toNatClampNeg) = i3 then k ((-1000002)) σ else (if i3 = 1 then x7_soundsUsed  σ (fun r8 σ9 => (vp_in 1 (ln 70) ∧ (if (r8 + 1) ≤ (σ9 70 (1 : Int32).toNatClampNeg) then x7_sound_81 i1 i2 i3 v7 σ9 k else k ((-1000003)) σ9))) else x7_sound_81 i1 i2 i3 v7 σ k)))
def x7_sound (i1 : Int32) (i2 : Int32) (i3 : Int32) (σ : St) (k : Int32 → St → Prop) : Prop :=
  x7_isDoorAt i1 σ (fun r1 σ2 => (if r1 = 0 then x7_sound_26 i1 i2 i3 σ2 k else x7_in i2 0 1 σ2 (fun r3 σ4 => (if r3 = 0 then x7_sound_26 i1 i2 i3 σ4 k else x7_in i3 0 1 σ4 (fun r5 σ6 => (if r5 = 0 then x7_sound_26 i1 i2 i3 σ6 k else (if i2 = 0 then x7_sound_40 i1 i2 i3 17 σ6 k else x7_sound_40 i1 i2 i3 23 σ6 k)))))))
def x7_status  (σ : St) (k : Int32 → St → Prop) : Prop :=
  k (σ 65 3) σ
def x7_street  (σ : St) (k : Int32 → St → Prop) : Prop :=
  x7_isRead  σ (fun r1 σ2 => lt (st_up σ2 65 4 0) fun σ3 => (if r1 = 0 then lt (st_up σ3 65 10 (σ3 65 11)) fun σ4 => k (((-1000100)) - (σ4 65 7)) σ4 else x7_lay 71 0 70 0 σ3 (fun σ6 => lt (st_up σ6 65 18 0) fun σ7 => (vp_in 3 (ln 70) ∧ k (σ7 70 (3 : Int32).toNatClampNeg) σ7))))
def x7_stretch_17 (i1 : Int32) (i2 : Int32)   (σ : St) (k : Int32 → St → Prop) : Prop :=
  k ((-1000001)) σ
def x7_stretch (i1 : Int32) (i2 : Int32) (σ : St) (k : Int32 → St → Prop) : Prop :=
  x7_isDoorAt i1 σ (fun r1 σ2 => (if r1 = 0 then x7_stretch_17 i1 i2 σ2 k else x7_in i2 0 5 σ2 (fun r3 σ4 => (if r3 = 0 then x7_stretch_17 i1 i2 σ4 k else (vp_in (11 + i1) (ln 70) ∧ lt (σ4 70 (11 + i1).toNatClampNeg) fun v5 => x7_secondsUsed  σ4 (fun r6 σ7 => (vp_in 0 (ln 70) ∧ (if ((r6 - v5) + i2) ≤ (σ7 70 (0 : Int32).toNatClampNeg) then x7_act  σ7 (fun σ9 => (vp_in (11 + i1) (ln 70) ∧ lt (st_up σ9 70 (11 + i1).toNatClampNeg i2) fun σ10 => k v5 σ10)) else k ((-1000003)) σ7))))))))
def x7_trace_25 (i1 : Int32)  (s0 : Int32) (σ : St) (k : Int32 → St → Prop) : Prop :=
  k s0 σ
def x7_trace (i1 : Int32) (σ : St) (k : Int32 → St → Prop) : Prop :=
  x7_in i1 0 ((σ 65 20) - 1) σ (fun r1 σ2 => (if r1 = 0 then x7_trace_25 i1 ((-1000000)) σ2 k else (vp_in i1 (ln 76) ∧ x7_trace_25 i1 (σ2 76 i1.toNatClampNeg) σ2 k)))
def x7_undo  (σ : St) (k : Int32 → St → Prop) : Prop :=
  (if (σ 65 18) = 0 then k ((-1000002)) σ else lt (st_up σ 65 18 ((σ 65 18) - 1)) fun σ1 => x7_lay 75 (53 * (σ1 65 18)) 70 0 σ1 (fun σ3 => k (σ3 65 18) σ3))
def x7_used_35 (i1 : Int32)  (s0 : Int32) (σ : St) (k : Int32 → St → Prop) : Prop :=
  k s0 σ
def x7_used (i1 : Int32) (σ : St) (k : Int32 → St → Prop) : Prop :=
  x7_isStreet  σ (fun r1 σ2 => (if r1 = 0 then k ((-1000002)) σ2 else (if i1 = 0 then x7_secondsUsed  σ2 (fun r3 σ4 => x7_used_35 i1 r3 σ4 k) else (if i1 = 1 then x7_soundsUsed  σ2 (fun r5 σ6 => x7_used_35 i1 r5 σ6 k) else x7_used_35 i1 ((-1000001)) σ2 k))))
def x7_whichDoor_90 (i1 : Int32) (i2 : Int32) (R24 : Int32 → St → Prop) (R40 : Int32 → Int32 → Int32 → St → Prop) (i3 : Int32) (i5 : Int32) (s0 : Int32) (σ : St) (k : Int32 → St → Prop) : Prop :=
  R40 i3 s0 (i5 + 1) σ
def x7_whichDoor_85 (i1 : Int32) (i2 : Int32) (R24 : Int32 → St → Prop) (R40 : Int32 → Int32 → Int32 → St → Prop) (i3 : Int32) (i5 : Int32) (σ : St) (k : Int32 → St → Prop) : Prop :=
  x7_whichDoor_90 i1 i2 R24 R40 i3 i5 1 σ k
def x7_whichDoor_77 (i1 : Int32) (i2 : Int32) (R24 : Int32 → St → Prop) (R40 : Int32 → Int32 → Int32 → St → Prop) (i3 : Int32) (i5 : Int32) (s4 : Int32) (s3 : Int32) (s2 : Int32) (s1 : Int32) (σ : St) (k : Int32 → St → Prop) : Prop :=
  x7_fits s1 s2 s3 s4 i1 i2 σ (fun r5 σ6 => (if r5 = 0 then x7_whichDoor_90 i1 i2 R24 R40 i3 i5 0 σ6 k else x7_whichDoor_85 i1 i2 R24 R40 i3 i5 σ6 k))
def x7_whichDoor_40 (i1 : Int32) (i2 : Int32) (R24 : Int32 → St → Prop) (k : Int32 → St → Prop) : Nat → Int32 → Int32 → Int32 → St → Prop
  | 0, _, _, _, _ => False
  | n + 1, i3, i4, i5, σ => (if 24 ≤ i5 then (if i4 = 0 then k i3 σ else R24 (i3 + 1) σ) else (if i4 = 0 then (¬ (4 : Int32) = 0 ∧ (¬ (2 : Int32) = 0 ∧ (¬ (2 : Int32) = 0 ∧ (¬ (2 : Int32) = 0 ∧ (if (i5 % 2) = 1 then x7_whichDoor_77 i1 i2 R24 (x7_whichDoor_40 i1 i2 R24 k n) i3 i5 1 ((i5 / 2) % 2) (i5 / 4) i3 σ k else x7_whichDoor_77 i1 i2 R24 (x7_whichDoor_40 i1 i2 R24 k n) i3 i5 0 ((i5 / 2) % 2) (i5 / 4) i3 σ k))))) else x7_whichDoor_85 i1 i2 R24 (x7_whichDoor_40 i1 i2 R24 k n) i3 i5 σ k))
def x7_whichDoor_24 (i1 : Int32) (i2 : Int32)  (k : Int32 → St → Prop) : Nat → Int32 → St → Prop
  | 0, _, _ => False
  | n + 1, i3, σ => (vp_in 2 (ln 70) ∧ (if (σ 70 (2 : Int32).toNatClampNeg) ≤ i3 then k ((-1000000)) σ else ∃ n40, x7_whichDoor_40 i1 i2 (x7_whichDoor_24 i1 i2 k n) k n40 i3 0 0 σ))
def x7_whichDoor (i1 : Int32) (i2 : Int32) (σ : St) (k : Int32 → St → Prop) : Prop :=
  x7_isStreet  σ (fun r1 σ2 => (if r1 = 0 then k ((-1000002)) σ2 else x7_areSets i1 i2 σ2 (fun r3 σ4 => (if r3 = 0 then k ((-1000001)) σ4 else ∃ n24, x7_whichDoor_24 i1 i2 k n24 0 σ4))))
def x7_who_26 (i1 : Int32) (i2 : Int32) (i3 : Int32) (i4 : Int32)   (σ : St) (k : Int32 → St → Prop) : Prop :=
  k ((-1000001)) σ
def x7_who_180 (i1 : Int32) (i2 : Int32) (i3 : Int32) (i4 : Int32) (R71 : Int32 → Int32 → St → Prop) (i6 : Int32) (s1 : Int32) (s0 : Int32) (σ : St) (k : Int32 → St → Prop) : Prop :=
  lt (s0 ||| s1) fun v16 => R71 v16 (i6 + 1) σ
def x7_who_157 (i1 : Int32) (i2 : Int32) (i3 : Int32) (i4 : Int32) (R71 : Int32 → Int32 → St → Prop) (R108 : Int32 → Int32 → Int32 → Int32 → St → Prop) (i5 : Int32) (i6 : Int32) (i8 : Int32) (s0 : Int32) (σ : St) (k : Int32 → St → Prop) : Prop :=
  R108 i5 i6 s0 (i8 + 1) σ
def x7_who_156 (i1 : Int32) (i2 : Int32) (i3 : Int32) (i4 : Int32) (R71 : Int32 → Int32 → St → Prop) (R108 : Int32 → Int32 → Int32 → Int32 → St → Prop) (i5 : Int32) (i6 : Int32) (i8 : Int32) (σ : St) (k : Int32 → St → Prop) : Prop :=
  x7_who_157 i1 i2 i3 i4 R71 R108 i5 i6 i8 0 σ k
def x7_who_108 (i1 : Int32) (i2 : Int32) (i3 : Int32) (i4 : Int32) (R71 : Int32 → Int32 → St → Prop) (k : Int32 → St → Prop) : Nat → Int32 → Int32 → Int32 → Int32 → St → Prop
  | 0, _, _, _, _, _ => False
  | n + 1, i5, i6, i7, i8, σ => (if i4 ≤ i8 then (if i7 = 0 then x7_who_180 i1 i2 i3 i4 R71 i6 0 i5 σ k else x7_who_180 i1 i2 i3 i4 R71 i6 (1 <<< (i6 &&& 31)) i5 σ k) else x7_pass 72 σ (fun r17 σ18 => lt ((r17 >>> (i1 &&& 31)) &&& 1) fun v19 => (if i7 = 0 then x7_who_156 i1 i2 i3 i4 R71 (x7_who_108 i1 i2 i3 i4 R71 k n) i5 i6 i8 σ18 k else (vp_in (((40 * i2) + i3) + i8) (ln 68) ∧ (if (σ18 68 (((40 * i2) + i3) + i8).toNatClampNeg) = v19 then x7_who_157 i1 i2 i3 i4 R71 (x7_who_108 i1 i2 i3 i4 R71 k n) i5 i6 i8 1 σ18 k else x7_who_156 i1 i2 i3 i4 R71 (x7_who_108 i1 i2 i3 i4 R71 k n) i5 i6 i8 σ18 k)))))
def x7_who_71 (i1 : Int32) (i2 : Int32) (i3 : Int32) (i4 : Int32)  (k : Int32 → St → Prop) : Nat → Int32 → Int32 → St → Prop
  | 0, _, _, _ => False
  | n + 1, i5, i6, σ => (if 6 ≤ i6 then x7_done i5 σ (fun r11 σ12 => k r11 σ12) else x7_lay 70 0 72 0 σ (fun σ14 => (vp_in (29 + i1) (ln 72) ∧ lt (st_up σ14 72 (29 + i1).toNatClampNeg i6) fun σ15 => ∃ n108, x7_who_108 i1 i2 i3 i4 (x7_who_71 i1 i2 i3 i4 k n) k n108 i5 i6 1 0 σ15)))
def x7_who (i1 : Int32) (i2 : Int32) (i3 : Int32) (i4 : Int32) (σ : St) (k : Int32 → St → Prop) : Prop :=
  x7_isOne i1 σ (fun r1 σ2 => (if r1 = 0 then x7_who_26 i1 i2 i3 i4 σ2 k else x7_isRow i2 σ2 (fun r3 σ4 => (if r3 = 0 then x7_who_26 i1 i2 i3 i4 σ4 k else x7_in i4 1 12 σ4 (fun r5 σ6 => (if r5 = 0 then x7_who_26 i1 i2 i3 i4 σ6 k else (vp_in i2 (ln 66) ∧ (if 0 ≤ (σ6 66 i2.toNatClampNeg) then (vp_in i2 (ln 67) ∧ x7_isPart i3 i4 (σ6 67 i2.toNatClampNeg) σ6 (fun r7 σ8 => (if r7 = 0 then x7_finds 2 σ8 (fun r9 σ10 => k r9 σ10) else ∃ n71, x7_who_71 i1 i2 i3 i4 k n71 0 1 σ8))) else x7_finds 1 σ6 (fun r20 σ21 => k r20 σ21)))))))))
