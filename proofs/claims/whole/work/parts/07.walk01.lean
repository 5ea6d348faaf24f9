set_option maxRecDepth 100000 in
set_option maxHeartbeats 4000000 in
theorem tJ6_bitCount_0f7a4 {l : Launch} {i0 : Int32} {σ : St} {k : Int32 → St → Prop}  (h : xJ6_bitCount_0f7a4 i0 σ k) : CI l yJ6_bitCount_0f7a4 cJ6_bitCount_0f7a4 1 1 (some .int) (fun ad => [.int i0]) σ k := by
  refine CI.of (lv := fun ad => [(0, .int i0)]) (by decide) (fun _ => Nat.le_of_ble_eq_true rfl) (fun _ => rfl) (fun κ hc => ?_)
  show Wd κ 1 (QI κ k) 0 [(0, .int i0)] [] σ
  unfold xJ6_bitCount_0f7a4 at h
  refine r_iload_n 0 hc dJ6_bitCount_0f7a4_0 rfl ?_
  refine r_iload_n 0 hc dJ6_bitCount_0f7a4_1 rfl ?_
  refine r_iconst (v := 1) hc dJ6_bitCount_0f7a4_2 (by decide) ?_
  refine r_iushr hc dJ6_bitCount_0f7a4_3 ?_
  refine r_ldcw hc dJ6_bitCount_0f7a4_4 kJ6_265 ?_
  refine r_iand hc dJ6_bitCount_0f7a4_7 ?_
  refine r_isub hc dJ6_bitCount_0f7a4_8 ?_
  refine r_nmI h (fun v1 h => ?_)
  refine r_istore_n (lv' := [(0, .int v1)]) hc dJ6_bitCount_0f7a4_9 (by decide) rfl ?_
  refine r_iload_n 0 hc dJ6_bitCount_0f7a4_10 rfl ?_
  refine r_ldcw hc dJ6_bitCount_0f7a4_11 kJ6_266 ?_
  refine r_iand hc dJ6_bitCount_0f7a4_14 ?_
  refine r_iload_n 0 hc dJ6_bitCount_0f7a4_15 rfl ?_
  refine r_iconst (v := 2) hc dJ6_bitCount_0f7a4_16 (by decide) ?_
  refine r_iushr hc dJ6_bitCount_0f7a4_17 ?_
  refine r_ldcw hc dJ6_bitCount_0f7a4_18 kJ6_266 ?_
  refine r_iand hc dJ6_bitCount_0f7a4_21 ?_
  refine r_iadd hc dJ6_bitCount_0f7a4_22 ?_
  refine r_nmI h (fun v2 h => ?_)
  refine r_istore_n (lv' := [(0, .int v2)]) hc dJ6_bitCount_0f7a4_23 (by decide) rfl ?_
  refine r_iload_n 0 hc dJ6_bitCount_0f7a4_24 rfl ?_
  refine r_iload_n 0 hc dJ6_bitCount_0f7a4_25 rfl ?_
  refine r_iconst (v := 4) hc dJ6_bitCount_0f7a4_26 (by decide) ?_
  refine r_iushr hc dJ6_bitCount_0f7a4_27 ?_
  refine r_iadd hc dJ6_bitCount_0f7a4_28 ?_
  refine r_ldcw hc dJ6_bitCount_0f7a4_29 kJ6_267 ?_
  refine r_iand hc dJ6_bitCount_0f7a4_32 ?_
  refine r_nmI h (fun v3 h => ?_)
  refine r_istore_n (lv' := [(0, .int v3)]) hc dJ6_bitCount_0f7a4_33 (by decide) rfl ?_
  refine r_iload_n 0 hc dJ6_bitCount_0f7a4_34 rfl ?_
  refine r_iload_n 0 hc dJ6_bitCount_0f7a4_35 rfl ?_
  refine r_bipush (v := 8) hc dJ6_bitCount_0f7a4_36 (by decide) ?_
  refine r_iushr hc dJ6_bitCount_0f7a4_38 ?_
  refine r_iadd hc dJ6_bitCount_0f7a4_39 ?_
  refine r_nmI h (fun v4 h => ?_)
  refine r_istore_n (lv' := [(0, .int v4)]) hc dJ6_bitCount_0f7a4_40 (by decide) rfl ?_
  refine r_iload_n 0 hc dJ6_bitCount_0f7a4_41 rfl ?_
  refine r_iload_n 0 hc dJ6_bitCount_0f7a4_42 rfl ?_
  refine r_bipush (v := 16) hc dJ6_bitCount_0f7a4_43 (by decide) ?_
  refine r_iushr hc dJ6_bitCount_0f7a4_45 ?_
  refine r_iadd hc dJ6_bitCount_0f7a4_46 ?_
  refine r_nmI h (fun v5 h => ?_)
  refine r_istore_n (lv' := [(0, .int v5)]) hc dJ6_bitCount_0f7a4_47 (by decide) rfl ?_
  refine r_iload_n 0 hc dJ6_bitCount_0f7a4_48 rfl ?_
  refine r_bipush (v := 63) hc dJ6_bitCount_0f7a4_49 (by decide) ?_
  refine r_iand hc dJ6_bitCount_0f7a4_51 ?_
  exact r_iret hc dJ6_bitCount_0f7a4_52 h
set_option maxRecDepth 100000 in
set_option maxHeartbeats 4000000 in
theorem t0_forgetAll {l : Launch}  {σ : St} {k : St → Prop}  (h : x0_forgetAll  σ k) : CV l yX0_forgetAll cX0_forgetAll 1 1 none (fun ad => [.ref (ad 57)]) σ k := by
  refine CV.of (lv := fun ad => [(0, .ref (ad 57))]) (by decide) (fun _ => Nat.le_of_ble_eq_true rfl) (fun _ => rfl) (fun κ hc => ?_)
  show Wd κ 1 (QV κ k) 0 [(0, aK κ 57)] [] σ
  unfold x0_forgetAll at h
  refine r_aload_n 0 hc dX0_forgetAll_0 rfl ?_
  refine r_iconst (v := 0) hc dX0_forgetAll_1 (by decide) ?_
  refine r_put (K := 0) (f := 3) hc dX0_forgetAll_2 fX0_21 inX0 tyX0_ok nmX0 rfl rfl rfl rfl (by decide) (by decide) rfl rfl ?_
  refine r_nmS h (fun σ1 h => ?_)
  refine r_aload_n 0 hc dX0_forgetAll_5 rfl ?_
  refine r_iconst (v := 0) hc dX0_forgetAll_6 (by decide) ?_
  refine r_put (K := 0) (f := 4) hc dX0_forgetAll_7 fX0_25 inX0 tyX0_ok nmX0 rfl rfl rfl rfl (by decide) (by decide) rfl rfl ?_
  refine r_nmS h (fun σ2 h => ?_)
  exact r_vret hc dX0_forgetAll_10 h
set_option maxRecDepth 100000 in
set_option maxHeartbeats 4000000 in
theorem t0_keep {l : Launch} {i1 : Int32} {i2 : Int32} {i3 : Int32} {σ : St} {k : St → Prop}  (h : x0_keep i1 i2 i3 σ k) : CV l yX0_keep cX0_keep 4 1 none (fun ad => [.ref (ad 57), .int i1, .int i2, .int i3]) σ k := by
  refine CV.of (lv := fun ad => [(0, .ref (ad 57)), (1, .int i1), (2, .int i2), (3, .int i3)]) (by decide) (fun _ => Nat.le_of_ble_eq_true rfl) (fun _ => rfl) (fun κ hc => ?_)
  show Wd κ 4 (QV κ k) 0 [(0, aK κ 57), (1, .int i1), (2, .int i2), (3, .int i3)] [] σ
  unfold x0_keep at h
  refine r_aload_n 0 hc dX0_keep_0 rfl ?_
  refine r_get (K := 0) (f := 0) hc dX0_keep_1 fX0_9 inX0 rfl rfl (by decide) (by decide) rfl rfl ?_
  refine r_aload_n 0 hc dX0_keep_4 rfl ?_
  refine r_get (K := 0) (f := 3) hc dX0_keep_5 fX0_21 inX0 rfl rfl (by decide) (by decide) rfl rfl ?_
  refine r_iload_n 1 hc dX0_keep_8 rfl ?_
  refine r_iast hc dX0_keep_9 rfl h (fun h => ?_)
  refine r_nmS h (fun σ1 h => ?_)
  refine r_aload_n 0 hc dX0_keep_10 rfl ?_
  refine r_get (K := 0) (f := 1) hc dX0_keep_11 fX0_15 inX0 rfl rfl (by decide) (by decide) rfl rfl ?_
  refine r_aload_n 0 hc dX0_keep_14 rfl ?_
  refine r_get (K := 0) (f := 3) hc dX0_keep_15 fX0_21 inX0 rfl rfl (by decide) (by decide) rfl rfl ?_
  refine r_iload_n 2 hc dX0_keep_18 rfl ?_
  refine r_iast hc dX0_keep_19 rfl h (fun h => ?_)
  refine r_nmS h (fun σ2 h => ?_)
  refine r_aload_n 0 hc dX0_keep_20 rfl ?_
  refine r_get (K := 0) (f := 2) hc dX0_keep_21 fX0_18 inX0 rfl rfl (by decide) (by decide) rfl rfl ?_
  refine r_aload_n 0 hc dX0_keep_24 rfl ?_
  refine r_get (K := 0) (f := 3) hc dX0_keep_25 fX0_21 inX0 rfl rfl (by decide) (by decide) rfl rfl ?_
  refine r_iload_n 3 hc dX0_keep_28 rfl ?_
  refine r_iast hc dX0_keep_29 rfl h (fun h => ?_)
  refine r_nmS h (fun σ3 h => ?_)
  refine r_aload_n 0 hc dX0_keep_30 rfl ?_
  refine r_aload_n 0 hc dX0_keep_31 rfl ?_
  refine r_get (K := 0) (f := 3) hc dX0_keep_32 fX0_21 inX0 rfl rfl (by decide) (by decide) rfl rfl ?_
  refine r_iconst (v := 1) hc dX0_keep_35 (by decide) ?_
  refine r_iadd hc dX0_keep_36 ?_
  refine r_bipush (v := 24) hc dX0_keep_37 (by decide) ?_
  refine r_irem hc dX0_keep_39 h (fun h => ?_)
  refine r_put (K := 0) (f := 3) hc dX0_keep_40 fX0_21 inX0 tyX0_ok nmX0 rfl rfl rfl rfl (by decide) (by decide) rfl rfl ?_
  refine r_nmS h (fun σ4 h => ?_)
  refine r_aload_n 0 hc dX0_keep_43 rfl ?_
  refine r_aload_n 0 hc dX0_keep_44 rfl ?_
  refine r_get (K := 0) (f := 4) hc dX0_keep_45 fX0_25 inX0 rfl rfl (by decide) (by decide) rfl rfl ?_
  refine r_iconst (v := 1) hc dX0_keep_48 (by decide) ?_
  refine r_iadd hc dX0_keep_49 ?_
  refine r_bipush (v := 24) hc dX0_keep_50 (by decide) ?_
  refine r_min hc dX0_keep_52 mX0_28 wStat_min wIni_Math wCode_min (by decide) (Nat.le_of_ble_eq_true rfl) ?_
  refine r_put (K := 0) (f := 4) hc dX0_keep_55 fX0_25 inX0 tyX0_ok nmX0 rfl rfl rfl rfl (by decide) (by decide) rfl rfl ?_
  refine r_nmS h (fun σ5 h => ?_)
  exact r_vret hc dX0_keep_58 h
set_option maxRecDepth 100000 in
set_option maxHeartbeats 4000000 in
theorem u5_placeAfter_24 {κ : KT} {k : Int32 → St → Prop} {o0 : Nat} {i1 : Int32} {i2 : Int32}  {s0 : Int32} {σ : St}  (hc : Cx κ cX5_placeAfter 3 RX5 1 (some .int)) (ho0 : kd o0 = 5)   (h : x5_placeAfter_24 o0 i1 i2 s0 σ k) : Wd κ 3 (QI κ k) 24 [(0, aK κ o0), (1, .int i1), (2, .int i2)] [.int s0] σ := by
  unfold x5_placeAfter_24 at h
  exact r_iret hc dX5_placeAfter_24 h
set_option maxRecDepth 100000 in
set_option maxHeartbeats 4000000 in
theorem t5_placeAfter {l : Launch} {o0 : Nat} {i1 : Int32} {i2 : Int32} {σ : St} {k : Int32 → St → Prop} (ho0 : kd o0 = 5) (h : x5_placeAfter o0 i1 i2 σ k) : CI l yX5_placeAfter cX5_placeAfter 3 1 (some .int) (fun ad => [.ref (ad o0), .int i1, .int i2]) σ k := by
  refine CI.of (lv := fun ad => [(0, .ref (ad o0)), (1, .int i1), (2, .int i2)]) (by decide) (fun _ => Nat.le_of_ble_eq_true rfl) (fun _ => rfl) (fun κ hc => ?_)
  show Wd κ 3 (QI κ k) 0 [(0, aK κ o0), (1, .int i1), (2, .int i2)] [] σ
  unfold x5_placeAfter at h
  refine r_aload_n 0 hc dX5_placeAfter_0 rfl ?_
  refine r_get (K := 5) (f := 8) hc dX5_placeAfter_1 fX5_36 inX5 rfl rfl (by decide) (by decide) ho0 rfl ?_
  refine r_if_le 23 hc dX5_placeAfter_4 (by decide) h (fun h => ?_) (fun h => ?_)
  · refine r_iconst (v := 0) hc dX5_placeAfter_23 (by decide) ?_
    exact u5_placeAfter_24 hc (ho0) h
  · refine r_aload_n 0 hc dX5_placeAfter_7 rfl ?_
    refine r_get (K := 5) (f := 5) hc dX5_placeAfter_8 fX5_27 inX5 rfl rfl (by decide) (by decide) ho0 rfl ?_
    refine r_iload_n 1 hc dX5_placeAfter_11 rfl ?_
    refine r_iald hc dX5_placeAfter_12 (k5_6 ho0) h (fun h => ?_)
    refine r_iload_n 2 hc dX5_placeAfter_13 rfl ?_
    refine r_iadd hc dX5_placeAfter_14 ?_
    refine r_aload_n 0 hc dX5_placeAfter_15 rfl ?_
    refine r_get (K := 5) (f := 8) hc dX5_placeAfter_16 fX5_36 inX5 rfl rfl (by decide) (by decide) ho0 rfl ?_
    refine r_irem hc dX5_placeAfter_19 h (fun h => ?_)
    refine r_goto 24 hc dX5_placeAfter_20 (by decide) ?_
    exact u5_placeAfter_24 hc (ho0) h
set_option maxRecDepth 100000 in
set_option maxHeartbeats 4000000 in
theorem u5_takeBackDay_49 {κ : KT} {k : St → Prop} {o0 : Nat} {i1 : Int32} {R2 : Int32 → St → Prop} {i2 : Int32} {σ : St}  (hc : Cx κ cX5_takeBackDay 3 RX5 2 none) (ho0 : kd o0 = 5) (hR2 : ∀ (i2 : Int32) (σ : St), R2 i2 σ → Wd κ 3 (QV κ k) 2 [(0, aK κ o0), (1, .int i1), (2, .int i2)] [] σ)  (h : x5_takeBackDay_49 o0 i1 R2 i2 σ k) : Wd κ 3 (QV κ k) 49 [(0, aK κ o0), (1, .int i1), (2, .int i2)] [] σ := by
  unfold x5_takeBackDay_49 at h
  refine r_iinc (v := 1) (lv' := [(2, .int (i2 + 1)), (0, aK κ o0), (1, .int i1)]) 2 hc dX5_takeBackDay_49 rfl (by decide) (by decide) rfl ?_
  refine r_goto 2 hc dX5_takeBackDay_52 (by decide) ?_
  refine r_sub [1, 2, 0] rfl ?_
  exact hR2 _ _ h
set_option maxRecDepth 100000 in
set_option maxHeartbeats 4000000 in
theorem u5_takeBackDay_2 {κ : KT} {k : St → Prop} {o0 : Nat} {i1 : Int32}   (hc : Cx κ cX5_takeBackDay 3 RX5 2 none) (ho0 : kd o0 = 5)  : ∀ (n : Nat) (i2 : Int32) (σ : St), x5_takeBackDay_2 o0 i1 k n i2 σ → Wd κ 3 (QV κ k) 2 [(0, aK κ o0), (1, .int i1), (2, .int i2)] [] σ := by
  intro n
  induction n with
  | zero => intro i2 σ h; exact h.elim
  | succ n ih =>
    intro i2 σ h
    unfold x5_takeBackDay_2 at h
    refine r_iload_n 2 hc dX5_takeBackDay_2 rfl ?_
    refine r_aload_n 0 hc dX5_takeBackDay_3 rfl ?_
    refine r_get (K := 5) (f := 9) hc dX5_takeBackDay_4 fX5_40 inX5 rfl rfl (by decide) (by decide) ho0 rfl ?_
    refine r_icmp_ge 55 hc dX5_takeBackDay_7 (by decide) h (fun h => ?_) (fun h => ?_)
    · refine r_aload_n 0 hc dX5_takeBackDay_55 rfl ?_
      refine r_dup hc dX5_takeBackDay_56 rfl ?_
      refine r_get (K := 5) (f := 12) hc dX5_takeBackDay_57 fX5_49 inX5 rfl rfl (by decide) (by decide) ho0 rfl ?_
      refine r_iconst (v := 1) hc dX5_takeBackDay_60 (by decide) ?_
      refine r_isub hc dX5_takeBackDay_61 ?_
      refine r_put (K := 5) (f := 12) hc dX5_takeBackDay_62 fX5_49 inX5 tyX5_ok nmX5 rfl rfl rfl rfl (by decide) (by decide) ho0 rfl ?_
      refine r_nmS h (fun σ1 h => ?_)
      exact r_vret hc dX5_takeBackDay_65 h
    · refine r_iload_n 1 hc dX5_takeBackDay_10 rfl ?_
      refine r_iload_n 2 hc dX5_takeBackDay_11 rfl ?_
      refine r_ishr hc dX5_takeBackDay_12 ?_
      refine r_iconst (v := 1) hc dX5_takeBackDay_13 (by decide) ?_
      refine r_iand hc dX5_takeBackDay_14 ?_
      refine r_iconst (v := 1) hc dX5_takeBackDay_15 (by decide) ?_
      refine r_icmp_ne 32 hc dX5_takeBackDay_16 (by decide) h (fun h => ?_) (fun h => ?_)
      · refine r_aload_n 0 hc dX5_takeBackDay_19 rfl ?_
        refine r_get (K := 5) (f := 7) hc dX5_takeBackDay_20 fX5_33 inX5 rfl rfl (by decide) (by decide) ho0 rfl ?_
        refine r_iload_n 2 hc dX5_takeBackDay_23 rfl ?_
        refine r_dup2 hc dX5_takeBackDay_24 rfl rfl ?_
        refine r_iald hc dX5_takeBackDay_25 (k5_8 ho0) h (fun h => ?_)
        refine r_iconst (v := 1) hc dX5_takeBackDay_26 (by decide) ?_
        refine r_isub hc dX5_takeBackDay_27 ?_
        refine r_iast hc dX5_takeBackDay_28 (k5_8 ho0) h (fun h => ?_)
        refine r_nmS h (fun σ2 h => ?_)
        refine r_goto 49 hc dX5_takeBackDay_29 (by decide) ?_
        exact u5_takeBackDay_49 hc (ho0) ih h
      · refine r_aload_n 0 hc dX5_takeBackDay_32 rfl ?_
        refine r_get (K := 5) (f := 5) hc dX5_takeBackDay_33 fX5_27 inX5 rfl rfl (by decide) (by decide) ho0 rfl ?_
        refine r_iload_n 2 hc dX5_takeBackDay_36 rfl ?_
        refine r_aload_n 0 hc dX5_takeBackDay_37 rfl ?_
        refine r_iload_n 2 hc dX5_takeBackDay_38 rfl ?_
        refine r_aload_n 0 hc dX5_takeBackDay_39 rfl ?_
        refine r_get (K := 5) (f := 8) hc dX5_takeBackDay_40 fX5_36 inX5 rfl rfl (by decide) (by decide) ho0 rfl ?_
        refine r_iconst (v := 1) hc dX5_takeBackDay_43 (by decide) ?_
        refine r_isub hc dX5_takeBackDay_44 ?_
        refine r_cvI [.int i2, .int ((σ o0 8) - 1)] hc dX5_takeBackDay_45 cX5_101 (t5_placeAfter ho0 h) rfl (by decide) ho0 rfl rfl rfl (Nat.le_of_ble_eq_true rfl) (by decide) (by decide) (fun r3 σ4 h => ?_)
        refine r_iast hc dX5_takeBackDay_48 (k5_6 ho0) h (fun h => ?_)
        refine r_nmS h (fun σ5 h => ?_)
        exact u5_takeBackDay_49 hc (ho0) ih h
set_option maxRecDepth 100000 in
set_option maxHeartbeats 4000000 in
theorem t5_takeBackDay {l : Launch} {o0 : Nat} {i1 : Int32} {σ : St} {k : St → Prop} (ho0 : kd o0 = 5) (h : x5_takeBackDay o0 i1 σ k) : CV l yX5_takeBackDay cX5_takeBackDay 3 2 none (fun ad => [.ref (ad o0), .int i1]) σ k := by
  refine CV.of (lv := fun ad => [(0, .ref (ad o0)), (1, .int i1)]) (by decide) (fun _ => Nat.le_of_ble_eq_true rfl) (fun _ => rfl) (fun κ hc => ?_)
  show Wd κ 3 (QV κ k) 0 [(0, aK κ o0), (1, .int i1)] [] σ
  unfold x5_takeBackDay at h
  refine r_iconst (v := 0) hc dX5_takeBackDay_0 (by decide) ?_
  refine r_istore_n (lv' := [(2, .int 0), (0, aK κ o0), (1, .int i1)]) hc dX5_takeBackDay_1 (by decide) rfl ?_
  refine r_sub [1, 2, 0] rfl ?_
  obtain ⟨n0, h⟩ := h
  exact u5_takeBackDay_2 hc (ho0) n0 _ _ h
set_option maxRecDepth 100000 in
set_option maxHeartbeats 4000000 in
theorem u0_takeBackLatest_119 {κ : KT} {k : St → Prop} {o1 : Nat}   {σ : St}  (hc : Cx κ cX0_takeBackLatest 4 RX0 3 none) (ho1 : kd o1 = 5)   (h : x0_takeBackLatest_119 o1 σ k) : Wd κ 4 (QV κ k) 119 [(0, aK κ 57), (1, aK κ o1)] [] σ := by
  unfold x0_takeBackLatest_119 at h
  exact r_vret hc dX0_takeBackLatest_119 h
set_option maxRecDepth 100000 in
set_option maxHeartbeats 4000000 in
theorem t0_takeBackLatest {l : Launch} {o1 : Nat} {σ : St} {k : St → Prop} (ho1 : kd o1 = 5) (h : x0_takeBackLatest o1 σ k) : CV l yX0_takeBackLatest cX0_takeBackLatest 4 3 none (fun ad => [.ref (ad 57), .ref (ad o1)]) σ k := by
  refine CV.of (lv := fun ad => [(0, .ref (ad 57)), (1, .ref (ad o1))]) (by decide) (fun _ => Nat.le_of_ble_eq_true rfl) (fun _ => rfl) (fun κ hc => ?_)
  show Wd κ 4 (QV κ k) 0 [(0, aK κ 57), (1, aK κ o1)] [] σ
  unfold x0_takeBackLatest at h
  refine r_aload_n 0 hc dX0_takeBackLatest_0 rfl ?_
  refine r_aload_n 0 hc dX0_takeBackLatest_1 rfl ?_
  refine r_get (K := 0) (f := 3) hc dX0_takeBackLatest_2 fX0_21 inX0 rfl rfl (by decide) (by decide) rfl rfl ?_
  refine r_bipush (v := 24) hc dX0_takeBackLatest_5 (by decide) ?_
  refine r_iadd hc dX0_takeBackLatest_7 ?_
  refine r_iconst (v := 1) hc dX0_takeBackLatest_8 (by decide) ?_
  refine r_isub hc dX0_takeBackLatest_9 ?_
  refine r_bipush (v := 24) hc dX0_takeBackLatest_10 (by decide) ?_
  refine r_irem hc dX0_takeBackLatest_12 h (fun h => ?_)
  refine r_put (K := 0) (f := 3) hc dX0_takeBackLatest_13 fX0_21 inX0 tyX0_ok nmX0 rfl rfl rfl rfl (by decide) (by decide) rfl rfl ?_
  refine r_nmS h (fun σ1 h => ?_)
  refine r_aload_n 0 hc dX0_takeBackLatest_16 rfl ?_
  refine r_aload_n 0 hc dX0_takeBackLatest_17 rfl ?_
  refine r_get (K := 0) (f := 4) hc dX0_takeBackLatest_18 fX0_25 inX0 rfl rfl (by decide) (by decide) rfl rfl ?_
  refine r_iconst (v := 1) hc dX0_takeBackLatest_21 (by decide) ?_
  refine r_isub hc dX0_takeBackLatest_22 ?_
  refine r_iconst (v := 0) hc dX0_takeBackLatest_23 (by decide) ?_
  refine r_max hc dX0_takeBackLatest_24 mX0_34 wStat_max wIni_Math wCode_max (by decide) (Nat.le_of_ble_eq_true rfl) ?_
  refine r_put (K := 0) (f := 4) hc dX0_takeBackLatest_27 fX0_25 inX0 tyX0_ok nmX0 rfl rfl rfl rfl (by decide) (by decide) rfl rfl ?_
  refine r_nmS h (fun σ2 h => ?_)
  refine r_aload_n 0 hc dX0_takeBackLatest_30 rfl ?_
  refine r_get (K := 0) (f := 1) hc dX0_takeBackLatest_31 fX0_15 inX0 rfl rfl (by decide) (by decide) rfl rfl ?_
  refine r_aload_n 0 hc dX0_takeBackLatest_34 rfl ?_
  refine r_get (K := 0) (f := 3) hc dX0_takeBackLatest_35 fX0_21 inX0 rfl rfl (by decide) (by decide) rfl rfl ?_
  refine r_iald hc dX0_takeBackLatest_38 rfl h (fun h => ?_)
  refine r_nmI h (fun v3 h => ?_)
  refine r_istore_n (lv' := [(2, .int v3), (0, aK κ 57), (1, aK κ o1)]) hc dX0_takeBackLatest_39 (by decide) rfl ?_
  refine r_aload_n 1 hc dX0_takeBackLatest_40 rfl ?_
  refine r_get (K := 0) (f := 2) hc dX0_takeBackLatest_41 fX0_18 inX0 rfl rfl (by decide) (by decide) rfl rfl ?_
  refine r_aload_n 1 hc dX0_takeBackLatest_44 rfl ?_
  refine r_get (K := 0) (f := 3) hc dX0_takeBackLatest_45 fX0_21 inX0 rfl rfl (by decide) (by decide) rfl rfl ?_
  refine r_iald hc dX0_takeBackLatest_48 rfl h (fun h => ?_)
  refine r_nmI h (fun v4 h => ?_)
  refine r_istore_n (lv' := [(3, .int v4), (2, .int v3), (0, aK κ 57), (1, aK κ o1)]) hc dX0_takeBackLatest_49 (by decide) rfl ?_
  refine r_aload_n 2 hc dX0_takeBackLatest_50 rfl ?_
  refine r_get (K := 0) (f := 0) hc dX0_takeBackLatest_51 fX0_9 inX0 rfl rfl (by decide) (by decide) rfl rfl ?_
  refine r_aload_n 2 hc dX0_takeBackLatest_54 rfl ?_
  refine r_get (K := 0) (f := 3) hc dX0_takeBackLatest_55 fX0_21 inX0 rfl rfl (by decide) (by decide) rfl rfl ?_
  refine r_iald hc dX0_takeBackLatest_58 rfl h (fun h => ?_)
  by_cases hq59_0 : (σ2 58 (σ2 57 3).toNatClampNeg) = 0
  · rw [if_pos hq59_0] at h
    refine r_tswIn 0 84 hc dX0_takeBackLatest_59 hq59_0 (by decide) (by decide) rfl (by decide) ?_
    refine r_aload_n 3 hc dX0_takeBackLatest_84 rfl ?_
    refine r_get (K := 5) (f := 2) hc dX0_takeBackLatest_85 fX0_37 inX5 rfl rfl (by decide) (by decide) ho1 rfl ?_
    refine r_iload_n 1 hc dX0_takeBackLatest_88 rfl ?_
    refine r_iload_n 0 hc dX0_takeBackLatest_89 rfl ?_
    refine r_iast hc dX0_takeBackLatest_90 (k5_3 ho1) h (fun h => ?_)
    refine r_nmS h (fun σ5 h => ?_)
    refine r_goto 119 hc dX0_takeBackLatest_91 (by decide) ?_
    refine r_sub [2, 3] rfl ?_
    exact u0_takeBackLatest_119 hc (ho1) h
  · rw [if_neg hq59_0] at h
    by_cases hq59_1 : (σ2 58 (σ2 57 3).toNatClampNeg) = 1
    · rw [if_pos hq59_1] at h
      refine r_tswIn 1 94 hc dX0_takeBackLatest_59 hq59_1 (by decide) (by decide) rfl (by decide) ?_
      refine r_aload_n 3 hc dX0_takeBackLatest_94 rfl ?_
      refine r_get (K := 5) (f := 3) hc dX0_takeBackLatest_95 fX0_42 inX5 rfl rfl (by decide) (by decide) ho1 rfl ?_
      refine r_iload_n 1 hc dX0_takeBackLatest_98 rfl ?_
      refine r_iload_n 0 hc dX0_takeBackLatest_99 rfl ?_
      refine r_iast hc dX0_takeBackLatest_100 (k5_4 ho1) h (fun h => ?_)
      refine r_nmS h (fun σ6 h => ?_)
      refine r_goto 119 hc dX0_takeBackLatest_101 (by decide) ?_
      refine r_sub [2, 3] rfl ?_
      exact u0_takeBackLatest_119 hc (ho1) h
    · rw [if_neg hq59_1] at h
      by_cases hq59_2 : (σ2 58 (σ2 57 3).toNatClampNeg) = 2
      · rw [if_pos hq59_2] at h
        refine r_tswIn 2 104 hc dX0_takeBackLatest_59 hq59_2 (by decide) (by decide) rfl (by decide) ?_
        refine r_aload_n 3 hc dX0_takeBackLatest_104 rfl ?_
        refine r_get (K := 5) (f := 1) hc dX0_takeBackLatest_105 fX0_45 inX5 rfl rfl (by decide) (by decide) ho1 rfl ?_
        refine r_iload_n 1 hc dX0_takeBackLatest_108 rfl ?_
        refine r_iload_n 0 hc dX0_takeBackLatest_109 rfl ?_
        refine r_iast hc dX0_takeBackLatest_110 (k5_2 ho1) h (fun h => ?_)
        refine r_nmS h (fun σ7 h => ?_)
        refine r_goto 119 hc dX0_takeBackLatest_111 (by decide) ?_
        refine r_sub [2, 3] rfl ?_
        exact u0_takeBackLatest_119 hc (ho1) h
      · rw [if_neg hq59_2] at h
        refine r_tswOut 114 hc dX0_takeBackLatest_59 (by have a0 := lv_neT hq59_0 (a := 0) (by decide); have a1 := lv_neT hq59_1 (a := 1) (by decide); have a2 := lv_neT hq59_2 (a := 2) (by decide); omega) (by decide) ?_
        refine r_aload_n 3 hc dX0_takeBackLatest_114 rfl ?_
        refine r_iload_n 0 hc dX0_takeBackLatest_115 rfl ?_
        refine r_cvV [.int v4] hc dX0_takeBackLatest_116 cX0_48 (t5_takeBackDay ho1 h) rfl (by decide) ho1 rfl rfl rfl (Nat.le_of_ble_eq_true rfl) (by decide) (by decide) (fun σ9 h => ?_)
        refine r_sub [2, 3] rfl ?_
        exact u0_takeBackLatest_119 hc (ho1) h
set_option maxRecDepth 100000 in
set_option maxHeartbeats 4000000 in
theorem u1_leave_29 {κ : KT} {k : St → Prop} {i1 : Int32}   {σ : St}  (hc : Cx κ cX1_leave 2 RX1 1 none)    (h : x1_leave_29 i1 σ k) : Wd κ 2 (QV κ k) 29 [(0, aK κ 63), (1, .int i1)] [] σ := by
  unfold x1_leave_29 at h
  exact r_vret hc dX1_leave_29 h
set_option maxRecDepth 100000 in
set_option maxHeartbeats 4000000 in
theorem t1_leave {l : Launch} {i1 : Int32} {σ : St} {k : St → Prop}  (h : x1_leave i1 σ k) : CV l yX1_leave cX1_leave 2 1 none (fun ad => [.ref (ad 63), .int i1]) σ k := by
  refine CV.of (lv := fun ad => [(0, .ref (ad 63)), (1, .int i1)]) (by decide) (fun _ => Nat.le_of_ble_eq_true rfl) (fun _ => rfl) (fun κ hc => ?_)
  show Wd κ 2 (QV κ k) 0 [(0, aK κ 63), (1, .int i1)] [] σ
  unfold x1_leave at h
  refine r_aload_n 0 hc dX1_leave_0 rfl ?_
  refine r_get (K := 1) (f := 1) hc dX1_leave_1 fX1_13 inX1 rfl rfl (by decide) (by decide) rfl rfl ?_
  refine r_bipush (v := 16) hc dX1_leave_4 (by decide) ?_
  refine r_icmp_ge 29 hc dX1_leave_6 (by decide) h (fun h => ?_) (fun h => ?_)
  · exact u1_leave_29 hc h
  · refine r_aload_n 0 hc dX1_leave_9 rfl ?_
    refine r_get (K := 1) (f := 0) hc dX1_leave_10 fX1_9 inX1 rfl rfl (by decide) (by decide) rfl rfl ?_
    refine r_aload_n 0 hc dX1_leave_13 rfl ?_
    refine r_get (K := 1) (f := 1) hc dX1_leave_14 fX1_13 inX1 rfl rfl (by decide) (by decide) rfl rfl ?_
    refine r_iload_n 1 hc dX1_leave_17 rfl ?_
    refine r_iast hc dX1_leave_18 rfl h (fun h => ?_)
    refine r_nmS h (fun σ1 h => ?_)
    refine r_aload_n 0 hc dX1_leave_19 rfl ?_
    refine r_dup hc dX1_leave_20 rfl ?_
    refine r_get (K := 1) (f := 1) hc dX1_leave_21 fX1_13 inX1 rfl rfl (by decide) (by decide) rfl rfl ?_
    refine r_iconst (v := 1) hc dX1_leave_24 (by decide) ?_
    refine r_iadd hc dX1_leave_25 ?_
    refine r_put (K := 1) (f := 1) hc dX1_leave_26 fX1_13 inX1 tyX1_ok nmX1 rfl rfl rfl rfl (by decide) (by decide) rfl rfl ?_
    refine r_nmS h (fun σ2 h => ?_)
    exact u1_leave_29 hc h
set_option maxRecDepth 100000 in
set_option maxHeartbeats 4000000 in
theorem t1_give {l : Launch} : ∀ (nr : Nat) (i1 : Int32) (o2 : Nat) (i3 : Int32) (i4 : Int32) (σ : St) (k : Int32 → St → Prop), kd o2 = 5 → x1_give nr i1 o2 i3 i4 σ k → CI l yX1_give cX1_give 7 (nr + 2) (some .int) (fun ad => [.ref (ad 63), .int i1, .ref (ad o2), .int i3, .int i4]) σ k := by
  intro nr
  induction nr generalizing l with
  | zero => intro i1 o2 i3 i4 σ k ho2 h; exact h.elim
  | succ nr ih0 =>
    intro i1 o2 i3 i4 σ k ho2 h
    refine CI.of (lv := fun ad => [(0, .ref (ad 63)), (1, .int i1), (2, .ref (ad o2)), (3, .int i3), (4, .int i4)]) (by decide) (fun _ => Nat.le_of_ble_eq_true rfl) (fun _ => rfl) (fun κ hc => ?_)
    have ihr := @ih0 κ.1.2.1
    show Wd κ 7 (QI κ k) 0 [(0, aK κ 63), (1, .int i1), (2, aK κ o2), (3, .int i3), (4, .int i4)] [] σ
    unfold x1_give at h
    refine r_iload 4 hc dX1_give_0 rfl ?_
    refine r_bipush (v := 16) hc dX1_give_2 (by decide) ?_
    refine r_icmp_le 9 hc dX1_give_4 (by decide) h (fun h => ?_) (fun h => ?_)
    · refine r_aload_n 0 hc dX1_give_9 rfl ?_
      refine r_iload_n 1 hc dX1_give_10 rfl ?_
      refine r_cvV [.int i1] hc dX1_give_11 cX1_32 (t1_leave h) rfl (by decide) rfl rfl rfl rfl (Nat.le_of_ble_eq_true rfl) (by omega) (by decide) (fun σ2 h => ?_)
      refine r_aload_n 2 hc dX1_give_14 rfl ?_
      refine r_get (K := 5) (f := 4) hc dX1_give_15 fX1_17 inX5 rfl rfl (by decide) (by decide) ho2 rfl ?_
      refine r_iload_n 3 hc dX1_give_18 rfl ?_
      refine r_iald hc dX1_give_19 (k5_5 ho2) h (fun h => ?_)
      refine r_nmI h (fun v3 h => ?_)
      refine r_istore (lv' := [(5, .int v3), (0, aK κ 63), (1, .int i1), (2, aK κ o2), (3, .int i3), (4, .int i4)]) hc dX1_give_20 (by decide) rfl ?_
      refine r_iload 5 hc dX1_give_22 rfl ?_
      refine r_iconst (v := 1) hc dX1_give_24 (by decide) ?_
      refine r_iadd hc dX1_give_25 ?_
      refine r_nmI h (fun v4 h => ?_)
      refine r_istore (lv' := [(6, .int v4), (5, .int v3), (0, aK κ 63), (1, .int i1), (2, aK κ o2), (3, .int i3), (4, .int i4)]) hc dX1_give_26 (by decide) rfl ?_
      refine r_iload_n 3 hc dX1_give_28 rfl ?_
      by_cases hq29_0 : i1 = 10
      · rw [if_pos hq29_0] at h
        refine r_tswIn 10 104 hc dX1_give_29 hq29_0 (by decide) (by decide) rfl (by decide) ?_
        refine r_aload_n 4 hc dX1_give_104 rfl ?_
        refine r_get (K := 5) (f := 6) hc dX1_give_105 fX1_36 inX5 rfl rfl (by decide) (by decide) ho2 rfl ?_
        refine r_iload_n 5 hc dX1_give_108 rfl ?_
        refine r_iald hc dX1_give_109 (k5_7 ho2) h (fun h => ?_)
        exact r_iret hc dX1_give_110 h
      · rw [if_neg hq29_0] at h
        by_cases hq29_1 : i1 = 11
        · rw [if_pos hq29_1] at h
          refine r_tswIn 11 111 hc dX1_give_29 hq29_1 (by decide) (by decide) rfl (by decide) ?_
          refine r_aload_n 2 hc dX1_give_111 rfl ?_
          refine r_bipush (v := 10) hc dX1_give_112 (by decide) ?_
          refine r_aload_n 4 hc dX1_give_114 rfl ?_
          refine r_iload_n 5 hc dX1_give_115 rfl ?_
          refine r_iload 0 hc dX1_give_116 rfl ?_
          refine r_cvI [.int 10, aK κ o2, .int i3, .int v4] hc dX1_give_118 cX1_28 (ihr _ _ _ _ _ _ ho2 h) rfl (by decide) rfl rfl rfl rfl (Nat.le_of_ble_eq_true rfl) (by omega) (by decide) (fun r5 σ6 h => ?_)
          refine r_aload_n 2 hc dX1_give_121 rfl ?_
          refine r_gs_mark hc dX1_give_122 fX1_25 ?_
          refine r_iload 1 hc dX1_give_125 rfl ?_
          refine r_ld_mark hc dX1_give_127 h (fun h => ?_)
          refine r_aload_n 4 hc dX1_give_128 rfl ?_
          refine r_iload_n 5 hc dX1_give_129 rfl ?_
          refine r_iload 0 hc dX1_give_130 rfl ?_
          refine r_cvI [.int (mkB v3.toNatClampNeg), aK κ o2, .int i3, .int v4] hc dX1_give_132 cX1_28 (ihr _ _ _ _ _ _ ho2 h) rfl (by decide) rfl rfl rfl rfl (Nat.le_of_ble_eq_true rfl) (by omega) (by decide) (fun r7 σ8 h => ?_)
          refine r_iadd hc dX1_give_135 ?_
          exact r_iret hc dX1_give_136 h
        · rw [if_neg hq29_1] at h
          by_cases hq29_2 : i1 = 12
          · rw [if_pos hq29_2] at h
            refine r_tswIn 12 137 hc dX1_give_29 hq29_2 (by decide) (by decide) rfl (by decide) ?_
            refine r_aload_n 2 hc dX1_give_137 rfl ?_
            refine r_bipush (v := 11) hc dX1_give_138 (by decide) ?_
            refine r_aload_n 4 hc dX1_give_140 rfl ?_
            refine r_iload_n 5 hc dX1_give_141 rfl ?_
            refine r_iload 0 hc dX1_give_142 rfl ?_
            refine r_cvI [.int 11, aK κ o2, .int i3, .int v4] hc dX1_give_144 cX1_28 (ihr _ _ _ _ _ _ ho2 h) rfl (by decide) rfl rfl rfl rfl (Nat.le_of_ble_eq_true rfl) (by omega) (by decide) (fun r9 σ10 h => ?_)
            refine r_ineg hc dX1_give_147 ?_
            exact r_iret hc dX1_give_148 h
          · rw [if_neg hq29_2] at h
            by_cases hq29_3 : i1 = 13
            · rw [if_pos hq29_3] at h
              refine r_tswIn 13 149 hc dX1_give_29 hq29_3 (by decide) (by decide) rfl (by decide) ?_
              refine r_aload_n 2 hc dX1_give_149 rfl ?_
              refine r_bipush (v := 10) hc dX1_give_150 (by decide) ?_
              refine r_aload_n 4 hc dX1_give_152 rfl ?_
              refine r_iload_n 5 hc dX1_give_153 rfl ?_
              refine r_iload 0 hc dX1_give_154 rfl ?_
              refine r_cvI [.int 10, aK κ o2, .int i3, .int v4] hc dX1_give_156 cX1_28 (ihr _ _ _ _ _ _ ho2 h) rfl (by decide) rfl rfl rfl rfl (Nat.le_of_ble_eq_true rfl) (by omega) (by decide) (fun r11 σ12 h => ?_)
              refine r_bipush (v := 100) hc dX1_give_159 (by decide) ?_
              refine r_isub hc dX1_give_161 ?_
              exact r_iret hc dX1_give_162 h
            · rw [if_neg hq29_3] at h
              by_cases hq29_4 : i1 = 14
              · rw [if_pos hq29_4] at h
                refine r_tswIn 14 163 hc dX1_give_29 hq29_4 (by decide) (by decide) rfl (by decide) ?_
                refine r_iconst (v := 2) hc dX1_give_163 (by decide) ?_
                refine r_aload_n 2 hc dX1_give_164 rfl ?_
                refine r_bipush (v := 13) hc dX1_give_165 (by decide) ?_
                refine r_aload_n 4 hc dX1_give_167 rfl ?_
                refine r_iload_n 5 hc dX1_give_168 rfl ?_
                refine r_iload 0 hc dX1_give_169 rfl ?_
                refine r_cvI [.int 13, aK κ o2, .int i3, .int v4] hc dX1_give_171 cX1_28 (ihr _ _ _ _ _ _ ho2 h) rfl (by decide) rfl rfl rfl rfl (Nat.le_of_ble_eq_true rfl) (by omega) (by decide) (fun r13 σ14 h => ?_)
                refine r_imul hc dX1_give_174 ?_
                exact r_iret hc dX1_give_175 h
              · rw [if_neg hq29_4] at h
                by_cases hq29_5 : i1 = 15
                · rw [if_pos hq29_5] at h
                  refine r_tswIn 15 250 hc dX1_give_29 hq29_5 (by decide) (by decide) rfl (by decide) ?_
                  refine r_iconst (v := 0) hc dX1_give_250 (by decide) ?_
                  exact r_iret hc dX1_give_251 h
                · rw [if_neg hq29_5] at h
                  by_cases hq29_6 : i1 = 16
                  · rw [if_pos hq29_6] at h
                    refine r_tswIn 16 250 hc dX1_give_29 hq29_6 (by decide) (by decide) rfl (by decide) ?_
                    refine r_iconst (v := 0) hc dX1_give_250 (by decide) ?_
                    exact r_iret hc dX1_give_251 h
                  · rw [if_neg hq29_6] at h
                    by_cases hq29_7 : i1 = 17
                    · rw [if_pos hq29_7] at h
                      refine r_tswIn 17 250 hc dX1_give_29 hq29_7 (by decide) (by decide) rfl (by decide) ?_
                      refine r_iconst (v := 0) hc dX1_give_250 (by decide) ?_
                      exact r_iret hc dX1_give_251 h
                    · rw [if_neg hq29_7] at h
                      by_cases hq29_8 : i1 = 18
                      · rw [if_pos hq29_8] at h
                        refine r_tswIn 18 250 hc dX1_give_29 hq29_8 (by decide) (by decide) rfl (by decide) ?_
                        refine r_iconst (v := 0) hc dX1_give_250 (by decide) ?_
                        exact r_iret hc dX1_give_251 h
                      · rw [if_neg hq29_8] at h
                        by_cases hq29_9 : i1 = 19
                        · rw [if_pos hq29_9] at h
                          refine r_tswIn 19 250 hc dX1_give_29 hq29_9 (by decide) (by decide) rfl (by decide) ?_
                          refine r_iconst (v := 0) hc dX1_give_250 (by decide) ?_
                          exact r_iret hc dX1_give_251 h
                        · rw [if_neg hq29_9] at h
                          by_cases hq29_10 : i1 = 20
                          · rw [if_pos hq29_10] at h
                            refine r_tswIn 20 176 hc dX1_give_29 hq29_10 (by decide) (by decide) rfl (by decide) ?_
                            refine r_iload_n 5 hc dX1_give_176 rfl ?_
                            exact r_iret hc dX1_give_177 h
                          · rw [if_neg hq29_10] at h
                            by_cases hq29_11 : i1 = 21
                            · rw [if_pos hq29_11] at h
                              refine r_tswIn 21 178 hc dX1_give_29 hq29_11 (by decide) (by decide) rfl (by decide) ?_
                              refine r_aload_n 2 hc dX1_give_178 rfl ?_
                              refine r_bipush (v := 20) hc dX1_give_179 (by decide) ?_
                              refine r_aload_n 4 hc dX1_give_181 rfl ?_
                              refine r_iload_n 5 hc dX1_give_182 rfl ?_
                              refine r_iload 0 hc dX1_give_183 rfl ?_
                              refine r_cvI [.int 20, aK κ o2, .int i3, .int v4] hc dX1_give_185 cX1_28 (ihr _ _ _ _ _ _ ho2 h) rfl (by decide) rfl rfl rfl rfl (Nat.le_of_ble_eq_true rfl) (by omega) (by decide) (fun r15 σ16 h => ?_)
                              refine r_aload_n 4 hc dX1_give_188 rfl ?_
                              refine r_get (K := 5) (f := 5) hc dX1_give_189 fX1_39 inX5 rfl rfl (by decide) (by decide) ho2 rfl ?_
                              refine r_iload_n 5 hc dX1_give_192 rfl ?_
                              refine r_iald hc dX1_give_193 (k5_6 ho2) h (fun h => ?_)
                              refine r_iadd hc dX1_give_194 ?_
                              exact r_iret hc dX1_give_195 h
                            · rw [if_neg hq29_11] at h
                              by_cases hq29_12 : i1 = 22
                              · rw [if_pos hq29_12] at h
                                refine r_tswIn 22 196 hc dX1_give_29 hq29_12 (by decide) (by decide) rfl (by decide) ?_
                                refine r_aload_n 2 hc dX1_give_196 rfl ?_
                                refine r_bipush (v := 21) hc dX1_give_197 (by decide) ?_
                                refine r_aload_n 4 hc dX1_give_199 rfl ?_
                                refine r_iload_n 5 hc dX1_give_200 rfl ?_
                                refine r_iload 0 hc dX1_give_201 rfl ?_
                                refine r_cvI [.int 21, aK κ o2, .int i3, .int v4] hc dX1_give_203 cX1_28 (ihr _ _ _ _ _ _ ho2 h) rfl (by decide) rfl rfl rfl rfl (Nat.le_of_ble_eq_true rfl) (by omega) (by decide) (fun r17 σ18 h => ?_)
                                refine r_sipush (v := 1000) hc dX1_give_206 (by decide) ?_
                                refine r_isub hc dX1_give_209 ?_
                                exact r_iret hc dX1_give_210 h
                              · rw [if_neg hq29_12] at h
                                by_cases hq29_13 : i1 = 23
                                · rw [if_pos hq29_13] at h
                                  refine r_tswIn 23 211 hc dX1_give_29 hq29_13 (by decide) (by decide) rfl (by decide) ?_
                                  refine r_aload_n 2 hc dX1_give_211 rfl ?_
                                  refine r_bipush (v := 20) hc dX1_give_212 (by decide) ?_
                                  refine r_aload_n 4 hc dX1_give_214 rfl ?_
                                  refine r_iload_n 5 hc dX1_give_215 rfl ?_
                                  refine r_iload 0 hc dX1_give_216 rfl ?_
                                  refine r_cvI [.int 20, aK κ o2, .int i3, .int v4] hc dX1_give_218 cX1_28 (ihr _ _ _ _ _ _ ho2 h) rfl (by decide) rfl rfl rfl rfl (Nat.le_of_ble_eq_true rfl) (by omega) (by decide) (fun r19 σ20 h => ?_)
                                  refine r_aload_n 2 hc dX1_give_221 rfl ?_
                                  refine r_gs_size hc dX1_give_222 fX1_22 ?_
                                  refine r_iload 1 hc dX1_give_225 rfl ?_
                                  refine r_ld_size hc dX1_give_227 h (fun h => ?_)
                                  refine r_aload_n 4 hc dX1_give_228 rfl ?_
                                  refine r_iload_n 5 hc dX1_give_229 rfl ?_
                                  refine r_iload 0 hc dX1_give_230 rfl ?_
                                  refine r_cvI [.int (szB v3.toNatClampNeg), aK κ o2, .int i3, .int v4] hc dX1_give_232 cX1_28 (ihr _ _ _ _ _ _ ho2 h) rfl (by decide) rfl rfl rfl rfl (Nat.le_of_ble_eq_true rfl) (by omega) (by decide) (fun r21 σ22 h => ?_)
                                  refine r_isub hc dX1_give_235 ?_
                                  exact r_iret hc dX1_give_236 h
                                · rw [if_neg hq29_13] at h
                                  by_cases hq29_14 : i1 = 24
                                  · rw [if_pos hq29_14] at h
                                    refine r_tswIn 24 237 hc dX1_give_29 hq29_14 (by decide) (by decide) rfl (by decide) ?_
                                    refine r_iconst (v := 2) hc dX1_give_237 (by decide) ?_
                                    refine r_aload_n 2 hc dX1_give_238 rfl ?_
                                    refine r_bipush (v := 21) hc dX1_give_239 (by decide) ?_
                                    refine r_aload_n 4 hc dX1_give_241 rfl ?_
                                    refine r_iload_n 5 hc dX1_give_242 rfl ?_
                                    refine r_iload 0 hc dX1_give_243 rfl ?_
                                    refine r_cvI [.int 21, aK κ o2, .int i3, .int v4] hc dX1_give_245 cX1_28 (ihr _ _ _ _ _ _ ho2 h) rfl (by decide) rfl rfl rfl rfl (Nat.le_of_ble_eq_true rfl) (by omega) (by decide) (fun r23 σ24 h => ?_)
                                    refine r_imul hc dX1_give_248 ?_
                                    exact r_iret hc dX1_give_249 h
                                  · rw [if_neg hq29_14] at h
                                    refine r_tswOut 250 hc dX1_give_29 (by have a0 := lv_neT hq29_0 (a := 10) (by decide); have a1 := lv_neT hq29_1 (a := 11) (by decide); have a2 := lv_neT hq29_2 (a := 12) (by decide); have a3 := lv_neT hq29_3 (a := 13) (by decide); have a4 := lv_neT hq29_4 (a := 14) (by decide); have a5 := lv_neT hq29_5 (a := 15) (by decide); have a6 := lv_neT hq29_6 (a := 16) (by decide); have a7 := lv_neT hq29_7 (a := 17) (by decide); have a8 := lv_neT hq29_8 (a := 18) (by decide); have a9 := lv_neT hq29_9 (a := 19) (by decide); have a10 := lv_neT hq29_10 (a := 20) (by decide); have a11 := lv_neT hq29_11 (a := 21) (by decide); have a12 := lv_neT hq29_12 (a := 22) (by decide); have a13 := lv_neT hq29_13 (a := 23) (by decide); have a14 := lv_neT hq29_14 (a := 24) (by decide); omega) (by decide) ?_
                                    refine r_iconst (v := 0) hc dX1_give_250 (by decide) ?_
                                    exact r_iret hc dX1_give_251 h
    · refine r_iconst (v := 0) hc dX1_give_7 (by decide) ?_
      exact r_iret hc dX1_give_8 h
set_option maxRecDepth 100000 in
set_option maxHeartbeats 4000000 in
theorem u1_answer_33 {κ : KT} {k : Int32 → St → Prop} {o1 : Nat} {i2 : Int32} {i3 : Int32}  {s1 : Int32} {σ : St}  (hc : Cx κ cX1_answer 5 RX1 11 (some .int)) (ho1 : kd o1 = 5)   (h : x1_answer_33 o1 i2 i3 s1 σ k) : Wd κ 5 (QI κ k) 33 [(0, aK κ 63), (1, aK κ o1), (2, .int i2), (3, .int i3)] [.int s1, aK κ 63] σ := by
  unfold x1_answer_33 at h
  refine r_aload_n 1 hc dX1_answer_33 rfl ?_
  refine r_iload_n 2 hc dX1_answer_34 rfl ?_
  refine r_iconst (v := 0) hc dX1_answer_35 (by decide) ?_
  refine r_cvI [.int s1, aK κ o1, .int i2, .int 0] hc dX1_answer_36 cX1_28 (t1_give 8 _ _ _ _ _ _ ho1 h) rfl (by decide) rfl rfl rfl rfl (Nat.le_of_ble_eq_true rfl) (by decide) (by decide) (fun r3 σ4 h => ?_)
  exact r_iret hc dX1_answer_39 h
set_option maxRecDepth 100000 in
set_option maxHeartbeats 4000000 in
theorem t1_answer {l : Launch} {o1 : Nat} {i2 : Int32} {i3 : Int32} {σ : St} {k : Int32 → St → Prop} (ho1 : kd o1 = 5) (h : x1_answer o1 i2 i3 σ k) : CI l yX1_answer cX1_answer 5 11 (some .int) (fun ad => [.ref (ad 63), .ref (ad o1), .int i2, .int i3]) σ k := by
  refine CI.of (lv := fun ad => [(0, .ref (ad 63)), (1, .ref (ad o1)), (2, .int i2), (3, .int i3)]) (by decide) (fun _ => Nat.le_of_ble_eq_true rfl) (fun _ => rfl) (fun κ hc => ?_)
  show Wd κ 5 (QI κ k) 0 [(0, aK κ 63), (1, aK κ o1), (2, .int i2), (3, .int i3)] [] σ
  unfold x1_answer at h
  refine r_aload_n 0 hc dX1_answer_0 rfl ?_
  refine r_iconst (v := 0) hc dX1_answer_1 (by decide) ?_
  refine r_put (K := 1) (f := 1) hc dX1_answer_2 fX1_13 inX1 tyX1_ok nmX1 rfl rfl rfl rfl (by decide) (by decide) rfl rfl ?_
  refine r_nmS h (fun σ1 h => ?_)
  refine r_aload_n 1 hc dX1_answer_5 rfl ?_
  refine r_get (K := 5) (f := 4) hc dX1_answer_6 fX1_17 inX5 rfl rfl (by decide) (by decide) ho1 rfl ?_
  refine r_iload_n 2 hc dX1_answer_9 rfl ?_
  refine r_iald hc dX1_answer_10 (k5_5 ho1) h (fun h => ?_)
  refine r_nmI h (fun v2 h => ?_)
  refine r_istore (lv' := [(4, .int v2), (0, aK κ 63), (1, aK κ o1), (2, .int i2), (3, .int i3)]) hc dX1_answer_11 (by decide) rfl ?_
  refine r_aload_n 1 hc dX1_answer_13 rfl ?_
  refine r_iload_n 4 hc dX1_answer_14 rfl ?_
  refine r_if_ne 27 hc dX1_answer_15 (by decide) h (fun h => ?_) (fun h => ?_)
  · refine r_gs_size hc dX1_answer_18 fX1_22 ?_
    refine r_iload 0 hc dX1_answer_21 rfl ?_
    refine r_ld_size hc dX1_answer_23 h (fun h => ?_)
    refine r_goto 33 hc dX1_answer_24 (by decide) ?_
    refine r_sub [1, 2, 3, 4] rfl ?_
    exact u1_answer_33 hc (ho1) h
  · refine r_gs_mark hc dX1_answer_27 fX1_25 ?_
    refine r_iload 0 hc dX1_answer_30 rfl ?_
    refine r_ld_mark hc dX1_answer_32 h (fun h => ?_)
    refine r_sub [1, 2, 3, 4] rfl ?_
    exact u1_answer_33 hc (ho1) h
set_option maxRecDepth 100000 in
set_option maxHeartbeats 4000000 in
theorem t2_costOf {l : Launch} {i0 : Int32} {σ : St} {k : Int32 → St → Prop}  (h : x2_costOf i0 σ k) : CI l yX2_costOf cX2_costOf 1 1 (some .int) (fun ad => [.int i0]) σ k := by
  refine CI.of (lv := fun ad => [(0, .int i0)]) (by decide) (fun _ => Nat.le_of_ble_eq_true rfl) (fun _ => rfl) (fun κ hc => ?_)
  show Wd κ 1 (QI κ k) 0 [(0, .int i0)] [] σ
  unfold x2_costOf at h
  refine r_iload_n 0 hc dX2_costOf_0 rfl ?_
  refine r_iconst (v := 2) hc dX2_costOf_1 (by decide) ?_
  refine r_ishr hc dX2_costOf_2 ?_
  refine r_iload_n 0 hc dX2_costOf_3 rfl ?_
  refine r_iconst (v := 1) hc dX2_costOf_4 (by decide) ?_
  refine r_ishr hc dX2_costOf_5 ?_
  refine r_iconst (v := 1) hc dX2_costOf_6 (by decide) ?_
  refine r_iand hc dX2_costOf_7 ?_
  refine r_iadd hc dX2_costOf_8 ?_
  refine r_iload_n 0 hc dX2_costOf_9 rfl ?_
  refine r_iconst (v := 1) hc dX2_costOf_10 (by decide) ?_
  refine r_iand hc dX2_costOf_11 ?_
  refine r_iadd hc dX2_costOf_12 ?_
  exact r_iret hc dX2_costOf_13 h
set_option maxRecDepth 100000 in
set_option maxHeartbeats 4000000 in
theorem t5_opening {l : Launch} {i0 : Int32} {i1 : Int32} {i2 : Int32} {i3 : Int32} {σ : St} {k : Int32 → St → Prop}  (h : x5_opening i0 i1 i2 i3 σ k) : CI l yX5_opening cX5_opening 4 1 (some .int) (fun ad => [.int i0, .int i1, .int i2, .int i3]) σ k := by
  refine CI.of (lv := fun ad => [(0, .int i0), (1, .int i1), (2, .int i2), (3, .int i3)]) (by decide) (fun _ => Nat.le_of_ble_eq_true rfl) (fun _ => rfl) (fun κ hc => ?_)
  show Wd κ 4 (QI κ k) 0 [(0, .int i0), (1, .int i1), (2, .int i2), (3, .int i3)] [] σ
  unfold x5_opening at h
  refine r_iconst (v := 0) hc dX5_opening_0 (by decide) ?_
  refine r_iload_n 0 hc dX5_opening_1 rfl ?_
  refine r_iload_n 1 hc dX5_opening_2 rfl ?_
  refine r_iadd hc dX5_opening_3 ?_
  refine r_iconst (v := 2) hc dX5_opening_4 (by decide) ?_
  refine r_iload_n 3 hc dX5_opening_5 rfl ?_
  refine r_imul hc dX5_opening_6 ?_
  refine r_iadd hc dX5_opening_7 ?_
  refine r_iload_n 2 hc dX5_opening_8 rfl ?_
  refine r_isub hc dX5_opening_9 ?_
  refine r_max hc dX5_opening_10 mX5_111 wStat_max wIni_Math wCode_max (by decide) (Nat.le_of_ble_eq_true rfl) ?_
  exact r_iret hc dX5_opening_13 h
set_option maxRecDepth 100000 in
set_option maxHeartbeats 4000000 in
theorem u5_staying_74 {κ : KT} {k : Int32 → St → Prop} {i0 : Int32} {i1 : Int32} {i2 : Int32} {i3 : Int32} {i4 : Int32}  {s0 : Int32} {σ : St}  (hc : Cx κ cX5_staying 7 RX5 1 (some .int))    (h : x5_staying_74 i0 i1 i2 i3 i4 s0 σ k) : Wd κ 7 (QI κ k) 74 [(0, .int i0), (1, .int i1), (2, .int i2), (3, .int i3), (4, .int i4)] [.int s0] σ := by
  unfold x5_staying_74 at h
  exact r_iret hc dX5_staying_74 h
set_option maxRecDepth 100000 in
set_option maxHeartbeats 4000000 in
theorem t5_staying {l : Launch} {i0 : Int32} {i1 : Int32} {i2 : Int32} {i3 : Int32} {i4 : Int32} {σ : St} {k : Int32 → St → Prop}  (h : x5_staying i0 i1 i2 i3 i4 σ k) : CI l yX5_staying cX5_staying 7 1 (some .int) (fun ad => [.int i0, .int i1, .int i2, .int i3, .int i4]) σ k := by
  refine CI.of (lv := fun ad => [(0, .int i0), (1, .int i1), (2, .int i2), (3, .int i3), (4, .int i4)]) (by decide) (fun _ => Nat.le_of_ble_eq_true rfl) (fun _ => rfl) (fun κ hc => ?_)
  show Wd κ 7 (QI κ k) 0 [(0, .int i0), (1, .int i1), (2, .int i2), (3, .int i3), (4, .int i4)] [] σ
  unfold x5_staying at h
  refine r_iload_n 1 hc dX5_staying_0 rfl ?_
  refine r_iconst (v := 2) hc dX5_staying_1 (by decide) ?_
  refine r_iload_n 3 hc dX5_staying_2 rfl ?_
  refine r_imul hc dX5_staying_3 ?_
  refine r_iadd hc dX5_staying_4 ?_
  refine r_nmI h (fun v1 h => ?_)
  refine r_istore (lv' := [(5, .int v1), (0, .int i0), (1, .int i1), (2, .int i2), (3, .int i3), (4, .int i4)]) hc dX5_staying_5 (by decide) rfl ?_
  refine r_iload_n 2 hc dX5_staying_7 rfl ?_
  refine r_iconst (v := 3) hc dX5_staying_8 (by decide) ?_
  refine r_min hc dX5_staying_9 mX5_116 wStat_min wIni_Math wCode_min (by decide) (Nat.le_of_ble_eq_true rfl) ?_
  refine r_nmI h (fun v2 h => ?_)
  refine r_istore (lv' := [(6, .int v2), (5, .int v1), (0, .int i0), (1, .int i1), (2, .int i2), (3, .int i3), (4, .int i4)]) hc dX5_staying_12 (by decide) rfl ?_
  refine r_iload_n 2 hc dX5_staying_14 rfl ?_
  by_cases hq15_0 : i0 = 2
  · rw [if_pos hq15_0] at h
    refine r_tswIn 2 44 hc dX5_staying_15 hq15_0 (by decide) (by decide) rfl (by decide) ?_
    refine r_iload 1 hc dX5_staying_44 rfl ?_
    refine r_iload_n 4 hc dX5_staying_46 rfl ?_
    refine r_iadd hc dX5_staying_47 ?_
    exact r_iret hc dX5_staying_48 h
  · rw [if_neg hq15_0] at h
    by_cases hq15_1 : i0 = 3
    · rw [if_pos hq15_1] at h
      refine r_tswIn 3 49 hc dX5_staying_15 hq15_1 (by decide) (by decide) rfl (by decide) ?_
      refine r_iconst (v := 2) hc dX5_staying_49 (by decide) ?_
      refine r_iload 1 hc dX5_staying_50 rfl ?_
      refine r_imul hc dX5_staying_52 ?_
      exact r_iret hc dX5_staying_53 h
    · rw [if_neg hq15_1] at h
      by_cases hq15_2 : i0 = 4
      · rw [if_pos hq15_2] at h
        refine r_tswIn 4 54 hc dX5_staying_15 hq15_2 (by decide) (by decide) rfl (by decide) ?_
        refine r_iload 0 hc dX5_staying_54 rfl ?_
        exact r_iret hc dX5_staying_56 h
      · rw [if_neg hq15_2] at h
        by_cases hq15_3 : i0 = 5
        · rw [if_pos hq15_3] at h
          refine r_tswIn 5 57 hc dX5_staying_15 hq15_3 (by decide) (by decide) rfl (by decide) ?_
          refine r_iload 6 hc dX5_staying_57 rfl ?_
          refine r_iconst (v := 1) hc dX5_staying_59 (by decide) ?_
          refine r_icmp_ne 72 hc dX5_staying_60 (by decide) h (fun h => ?_) (fun h => ?_)
          · refine r_iload 0 hc dX5_staying_63 rfl ?_
            refine r_iconst (v := 1) hc dX5_staying_65 (by decide) ?_
            refine r_min hc dX5_staying_66 mX5_116 wStat_min wIni_Math wCode_min (by decide) (Nat.le_of_ble_eq_true rfl) ?_
            refine r_goto 74 hc dX5_staying_69 (by decide) ?_
            refine r_sub [2, 3, 4, 5, 6] rfl ?_
            exact u5_staying_74 hc h
          · refine r_iload 0 hc dX5_staying_72 rfl ?_
            refine r_sub [2, 3, 4, 5, 6] rfl ?_
            exact u5_staying_74 hc h
        · rw [if_neg hq15_3] at h
          refine r_tswOut 75 hc dX5_staying_15 (by have a0 := lv_neT hq15_0 (a := 2) (by decide); have a1 := lv_neT hq15_1 (a := 3) (by decide); have a2 := lv_neT hq15_2 (a := 4) (by decide); have a3 := lv_neT hq15_3 (a := 5) (by decide); omega) (by decide) ?_
          refine r_iload 1 hc dX5_staying_75 rfl ?_
          exact r_iret hc dX5_staying_77 h
set_option maxRecDepth 100000 in
set_option maxHeartbeats 4000000 in
theorem u2_meetersAt_94 {κ : KT} {k : Int32 → St → Prop} {o0 : Nat} {i1 : Int32} {i2 : Int32} {i3 : Int32} {i4 : Int32} {R34 : Int32 → Int32 → Int32 → Int32 → Int32 → St → Prop} {i5 : Int32} {i6 : Int32} {i7 : Int32} {i8 : Int32} {i9 : Int32} {σ : St}  (hc : Cx κ cX2_meetersAt 11 RX2 2 (some .int)) (ho0 : kd o0 = 5) (hR34 : ∀ (i5 : Int32) (i6 : Int32) (i7 : Int32) (i8 : Int32) (i9 : Int32) (σ : St), R34 i5 i6 i7 i8 i9 σ → Wd κ 11 (QI κ k) 34 [(0, aK κ o0), (1, .int i1), (2, .int i2), (3, .int i3), (4, .int i4), (5, .int i5), (6, .int i6), (7, .int i7), (8, .int i8), (9, .int i9)] [] σ)  (h : x2_meetersAt_94 o0 i1 i2 i3 i4 R34 i5 i6 i7 i8 i9 σ k) : Wd κ 11 (QI κ k) 94 [(0, aK κ o0), (1, .int i1), (2, .int i2), (3, .int i3), (4, .int i4), (5, .int i5), (6, .int i6), (7, .int i7), (8, .int i8), (9, .int i9)] [] σ := by
  unfold x2_meetersAt_94 at h
  refine r_iinc (v := 1) (lv' := [(9, .int (i9 + 1)), (0, aK κ o0), (1, .int i1), (2, .int i2), (3, .int i3), (4, .int i4), (5, .int i5), (6, .int i6), (7, .int i7), (8, .int i8)]) 9 hc dX2_meetersAt_94 rfl (by decide) (by decide) rfl ?_
  refine r_goto 34 hc dX2_meetersAt_97 (by decide) ?_
  refine r_sub [1, 2, 3, 4, 5, 6, 7, 8, 9, 0] rfl ?_
  exact hR34 _ _ _ _ _ _ h
set_option maxRecDepth 100000 in
set_option maxHeartbeats 4000000 in
theorem u2_meetersAt_34 {κ : KT} {k : Int32 → St → Prop} {o0 : Nat} {i1 : Int32} {i2 : Int32} {i3 : Int32} {i4 : Int32}   (hc : Cx κ cX2_meetersAt 11 RX2 2 (some .int)) (ho0 : kd o0 = 5)  : ∀ (n : Nat) (i5 : Int32) (i6 : Int32) (i7 : Int32) (i8 : Int32) (i9 : Int32) (σ : St), x2_meetersAt_34 o0 i1 i2 i3 i4 k n i5 i6 i7 i8 i9 σ → Wd κ 11 (QI κ k) 34 [(0, aK κ o0), (1, .int i1), (2, .int i2), (3, .int i3), (4, .int i4), (5, .int i5), (6, .int i6), (7, .int i7), (8, .int i8), (9, .int i9)] [] σ := by
  intro n
  induction n with
  | zero => intro i5 i6 i7 i8 i9 σ h; exact h.elim
  | succ n ih =>
    intro i5 i6 i7 i8 i9 σ h
    unfold x2_meetersAt_34 at h
    refine r_iload 9 hc dX2_meetersAt_34 rfl ?_
    refine r_aload_n 0 hc dX2_meetersAt_36 rfl ?_
    refine r_get (K := 5) (f := 9) hc dX2_meetersAt_37 fX2_61 inX5 rfl rfl (by decide) (by decide) ho0 rfl ?_
    refine r_icmp_ge 100 hc dX2_meetersAt_40 (by decide) h (fun h => ?_) (fun h => ?_)
    · refine r_iload 8 hc dX2_meetersAt_100 rfl ?_
      exact r_iret hc dX2_meetersAt_102 h
    · refine r_aload_n 0 hc dX2_meetersAt_43 rfl ?_
      refine r_get (K := 5) (f := 4) hc dX2_meetersAt_44 fX2_64 inX5 rfl rfl (by decide) (by decide) ho0 rfl ?_
      refine r_iload 9 hc dX2_meetersAt_47 rfl ?_
      refine r_iald hc dX2_meetersAt_49 (k5_5 ho0) h (fun h => ?_)
      refine r_aload_n 0 hc dX2_meetersAt_50 rfl ?_
      refine r_get (K := 5) (f := 6) hc dX2_meetersAt_51 fX2_67 inX5 rfl rfl (by decide) (by decide) ho0 rfl ?_
      refine r_iload 9 hc dX2_meetersAt_54 rfl ?_
      refine r_iald hc dX2_meetersAt_56 (k5_7 ho0) h (fun h => ?_)
      refine r_iload 5 hc dX2_meetersAt_57 rfl ?_
      refine r_iload 6 hc dX2_meetersAt_59 rfl ?_
      refine r_iload_n 2 hc dX2_meetersAt_61 rfl ?_
      refine r_csI [.int (σ (o0 + 5) i9.toNatClampNeg), .int (σ (o0 + 7) i9.toNatClampNeg), .int i5, .int i6, .int i2] hc dX2_meetersAt_62 cX2_70 (t5_staying h) rfl rfl rfl (Nat.le_of_ble_eq_true rfl) (by decide) (by decide) (fun r5 σ6 h => ?_)
      refine r_istore (lv' := [(10, .int r5), (0, aK κ o0), (1, .int i1), (2, .int i2), (3, .int i3), (4, .int i4), (5, .int i5), (6, .int i6), (7, .int i7), (8, .int i8), (9, .int i9)]) hc dX2_meetersAt_65 (by decide) rfl ?_
      refine r_iload 5 hc dX2_meetersAt_67 rfl ?_
      refine r_iload 10 hc dX2_meetersAt_69 rfl ?_
      refine r_ishr hc dX2_meetersAt_71 ?_
      refine r_iconst (v := 1) hc dX2_meetersAt_72 (by decide) ?_
      refine r_iand hc dX2_meetersAt_73 ?_
      refine r_iconst (v := 1) hc dX2_meetersAt_74 (by decide) ?_
      refine r_icmp_ne 94 hc dX2_meetersAt_75 (by decide) h (fun h => ?_) (fun h => ?_)
      · refine r_iload 8 hc dX2_meetersAt_78 rfl ?_
        refine r_iload 0 hc dX2_meetersAt_80 rfl ?_
        refine r_icmp_gt 94 hc dX2_meetersAt_82 (by decide) h (fun h => ?_) (fun h => ?_)
        · refine r_sub [1, 2, 3, 4, 5, 6, 7, 8, 9, 10] rfl ?_
          exact u2_meetersAt_94 hc (ho0) ih h
        · refine r_iload 9 hc dX2_meetersAt_85 rfl ?_
          refine r_iconst (v := 1) hc dX2_meetersAt_87 (by decide) ?_
          refine r_iload 10 hc dX2_meetersAt_88 rfl ?_
          refine r_ishl hc dX2_meetersAt_90 ?_
          refine r_ior hc dX2_meetersAt_91 ?_
          refine r_nmI h (fun v7 h => ?_)
          refine r_istore (lv' := [(8, .int v7), (10, .int r5), (0, aK κ o0), (1, .int i1), (2, .int i2), (3, .int i3), (4, .int i4), (5, .int i5), (6, .int i6), (7, .int i7), (9, .int i9)]) hc dX2_meetersAt_92 (by decide) rfl ?_
          refine r_sub [2, 3, 4, 5, 6, 7, 8, 9, 0, 10] rfl ?_
          exact u2_meetersAt_94 hc (ho0) ih h
      · refine r_sub [1, 2, 3, 4, 5, 6, 7, 8, 9, 10] rfl ?_
        exact u2_meetersAt_94 hc (ho0) ih h
set_option maxRecDepth 100000 in
set_option maxHeartbeats 4000000 in
theorem t2_meetersAt {l : Launch} {o0 : Nat} {i1 : Int32} {i2 : Int32} {i3 : Int32} {i4 : Int32} {σ : St} {k : Int32 → St → Prop} (ho0 : kd o0 = 5) (h : x2_meetersAt o0 i1 i2 i3 i4 σ k) : CI l yX2_meetersAt cX2_meetersAt 11 2 (some .int) (fun ad => [.ref (ad o0), .int i1, .int i2, .int i3, .int i4]) σ k := by
  refine CI.of (lv := fun ad => [(0, .ref (ad o0)), (1, .int i1), (2, .int i2), (3, .int i3), (4, .int i4)]) (by decide) (fun _ => Nat.le_of_ble_eq_true rfl) (fun _ => rfl) (fun κ hc => ?_)
  show Wd κ 11 (QI κ k) 0 [(0, aK κ o0), (1, .int i1), (2, .int i2), (3, .int i3), (4, .int i4)] [] σ
  unfold x2_meetersAt at h
  refine r_iload_n 3 hc dX2_meetersAt_0 rfl ?_
  refine r_iconst (v := 2) hc dX2_meetersAt_1 (by decide) ?_
  refine r_ishr hc dX2_meetersAt_2 ?_
  refine r_nmI h (fun v1 h => ?_)
  refine r_istore (lv' := [(5, .int v1), (0, aK κ o0), (1, .int i1), (2, .int i2), (3, .int i3), (4, .int i4)]) hc dX2_meetersAt_3 (by decide) rfl ?_
  refine r_iload_n 4 hc dX2_meetersAt_5 rfl ?_
  refine r_iconst (v := 1) hc dX2_meetersAt_6 (by decide) ?_
  refine r_ishr hc dX2_meetersAt_7 ?_
  refine r_iconst (v := 1) hc dX2_meetersAt_8 (by decide) ?_
  refine r_iand hc dX2_meetersAt_9 ?_
  refine r_nmI h (fun v2 h => ?_)
  refine r_istore (lv' := [(6, .int v2), (5, .int v1), (0, aK κ o0), (1, .int i1), (2, .int i2), (3, .int i3), (4, .int i4)]) hc dX2_meetersAt_10 (by decide) rfl ?_
  refine r_aload_n 2 hc dX2_meetersAt_12 rfl ?_
  refine r_get (K := 5) (f := 0) hc dX2_meetersAt_13 fX2_54 inX5 rfl rfl (by decide) (by decide) ho0 rfl ?_
  refine r_iload_n 3 hc dX2_meetersAt_16 rfl ?_
  refine r_iald hc dX2_meetersAt_17 (k5_1 ho0) h (fun h => ?_)
  refine r_iload 1 hc dX2_meetersAt_18 rfl ?_
  refine r_iload 0 hc dX2_meetersAt_20 rfl ?_
  refine r_iload_n 4 hc dX2_meetersAt_22 rfl ?_
  refine r_csI [.int (σ (o0 + 1) i1.toNatClampNeg), .int v1, .int v2, .int i2] hc dX2_meetersAt_23 cX2_57 (t5_opening h) rfl rfl rfl (Nat.le_of_ble_eq_true rfl) (by decide) (by decide) (fun r3 σ4 h => ?_)
  refine r_istore (lv' := [(7, .int r3), (6, .int v2), (5, .int v1), (0, aK κ o0), (1, .int i1), (2, .int i2), (3, .int i3), (4, .int i4)]) hc dX2_meetersAt_26 (by decide) rfl ?_
  refine r_iconst (v := 0) hc dX2_meetersAt_28 (by decide) ?_
  refine r_istore (lv' := [(8, .int 0), (7, .int r3), (6, .int v2), (5, .int v1), (0, aK κ o0), (1, .int i1), (2, .int i2), (3, .int i3), (4, .int i4)]) hc dX2_meetersAt_29 (by decide) rfl ?_
  refine r_iconst (v := 0) hc dX2_meetersAt_31 (by decide) ?_
  refine r_istore (lv' := [(9, .int 0), (8, .int 0), (7, .int r3), (6, .int v2), (5, .int v1), (0, aK κ o0), (1, .int i1), (2, .int i2), (3, .int i3), (4, .int i4)]) hc dX2_meetersAt_32 (by decide) rfl ?_
  refine r_sub [5, 6, 7, 8, 9, 4, 3, 2, 1, 0] rfl ?_
  obtain ⟨n0, h⟩ := h
  exact u2_meetersAt_34 hc (ho0) n0 _ _ _ _ _ _ h
set_option maxRecDepth 100000 in
set_option maxHeartbeats 4000000 in
theorem u2_cheapestAt_64 {κ : KT} {k : Int32 → St → Prop} {o0 : Nat} {i1 : Int32} {i2 : Int32} {i3 : Int32} {i4 : Int32} {R6 : Int32 → Int32 → St → Prop} {i5 : Int32} {i6 : Int32} {σ : St}  (hc : Cx κ cX2_cheapestAt 8 RX2 3 (some .int)) (ho0 : kd o0 = 5) (hR6 : ∀ (i5 : Int32) (i6 : Int32) (σ : St), R6 i5 i6 σ → Wd κ 8 (QI κ k) 6 [(0, aK κ o0), (1, .int i1), (2, .int i2), (3, .int i3), (4, .int i4), (5, .int i5), (6, .int i6)] [] σ)  (h : x2_cheapestAt_64 o0 i1 i2 i3 i4 R6 i5 i6 σ k) : Wd κ 8 (QI κ k) 64 [(0, aK κ o0), (1, .int i1), (2, .int i2), (3, .int i3), (4, .int i4), (5, .int i5), (6, .int i6)] [] σ := by
  unfold x2_cheapestAt_64 at h
  refine r_iinc (v := 2) (lv' := [(6, .int (i6 + 2)), (0, aK κ o0), (1, .int i1), (2, .int i2), (3, .int i3), (4, .int i4), (5, .int i5)]) 6 hc dX2_cheapestAt_64 rfl (by decide) (by decide) rfl ?_
  refine r_goto 6 hc dX2_cheapestAt_67 (by decide) ?_
  refine r_sub [1, 2, 3, 4, 5, 6, 0] rfl ?_
  exact hR6 _ _ _ h
set_option maxRecDepth 100000 in
set_option maxHeartbeats 4000000 in
theorem u2_cheapestAt_37 {κ : KT} {k : Int32 → St → Prop} {o0 : Nat} {i1 : Int32} {i2 : Int32} {i3 : Int32} {i4 : Int32} {R6 : Int32 → Int32 → St → Prop} {i5 : Int32} {i6 : Int32} {s0 : Int32} {σ : St}  (hc : Cx κ cX2_cheapestAt 8 RX2 3 (some .int)) (ho0 : kd o0 = 5) (hR6 : ∀ (i5 : Int32) (i6 : Int32) (σ : St), R6 i5 i6 σ → Wd κ 8 (QI κ k) 6 [(0, aK κ o0), (1, .int i1), (2, .int i2), (3, .int i3), (4, .int i4), (5, .int i5), (6, .int i6)] [] σ)  (h : x2_cheapestAt_37 o0 i1 i2 i3 i4 R6 i5 i6 s0 σ k) : Wd κ 8 (QI κ k) 37 [(0, aK κ o0), (1, .int i1), (2, .int i2), (3, .int i3), (4, .int i4), (5, .int i5), (6, .int i6)] [.int s0] σ := by
  unfold x2_cheapestAt_37 at h
  refine r_istore (lv' := [(7, .int s0), (0, aK κ o0), (1, .int i1), (2, .int i2), (3, .int i3), (4, .int i4), (5, .int i5), (6, .int i6)]) hc dX2_cheapestAt_37 (by decide) rfl ?_
  refine r_iload 0 hc dX2_cheapestAt_39 rfl ?_
  refine r_if_eq 64 hc dX2_cheapestAt_41 (by decide) h (fun h => ?_) (fun h => ?_)
  · refine r_sub [1, 2, 3, 4, 5, 6, 7] rfl ?_
    exact u2_cheapestAt_64 hc (ho0) hR6 h
  · refine r_aload_n 1 hc dX2_cheapestAt_44 rfl ?_
    refine r_iload_n 2 hc dX2_cheapestAt_45 rfl ?_
    refine r_iload_n 3 hc dX2_cheapestAt_46 rfl ?_
    refine r_iload 7 hc dX2_cheapestAt_47 rfl ?_
    refine r_iload_n 4 hc dX2_cheapestAt_49 rfl ?_
    refine r_iload 5 hc dX2_cheapestAt_50 rfl ?_
    refine r_ior hc dX2_cheapestAt_52 ?_
    refine r_csI [aK κ o0, .int i1, .int i2, .int i6, .int (i3 ||| i4)] hc dX2_cheapestAt_53 cX2_51 (t2_meetersAt ho0 h) rfl rfl rfl (Nat.le_of_ble_eq_true rfl) (by decide) (by decide) (fun r1 σ2 h => ?_)
    refine r_iload_n 4 hc dX2_cheapestAt_56 rfl ?_
    refine r_icmp_ne 64 hc dX2_cheapestAt_57 (by decide) h (fun h => ?_) (fun h => ?_)
    · refine r_iload 7 hc dX2_cheapestAt_60 rfl ?_
      refine r_istore (lv' := [(5, .int i6), (7, .int s0), (0, aK κ o0), (1, .int i1), (2, .int i2), (3, .int i3), (4, .int i4), (6, .int i6)]) hc dX2_cheapestAt_62 (by decide) rfl ?_
      refine r_sub [2, 3, 4, 5, 6, 0, 7] rfl ?_
      exact u2_cheapestAt_64 hc (ho0) hR6 h
    · refine r_sub [1, 2, 3, 4, 5, 6, 7] rfl ?_
      exact u2_cheapestAt_64 hc (ho0) hR6 h
set_option maxRecDepth 100000 in
set_option maxHeartbeats 4000000 in
theorem u2_cheapestAt_32 {κ : KT} {k : Int32 → St → Prop} {o0 : Nat} {i1 : Int32} {i2 : Int32} {i3 : Int32} {i4 : Int32} {R6 : Int32 → Int32 → St → Prop} {i5 : Int32} {i6 : Int32} {σ : St}  (hc : Cx κ cX2_cheapestAt 8 RX2 3 (some .int)) (ho0 : kd o0 = 5) (hR6 : ∀ (i5 : Int32) (i6 : Int32) (σ : St), R6 i5 i6 σ → Wd κ 8 (QI κ k) 6 [(0, aK κ o0), (1, .int i1), (2, .int i2), (3, .int i3), (4, .int i4), (5, .int i5), (6, .int i6)] [] σ)  (h : x2_cheapestAt_32 o0 i1 i2 i3 i4 R6 i5 i6 σ k) : Wd κ 8 (QI κ k) 32 [(0, aK κ o0), (1, .int i1), (2, .int i2), (3, .int i3), (4, .int i4), (5, .int i5), (6, .int i6)] [] σ := by
  unfold x2_cheapestAt_32 at h
  refine r_iconst (v := 1) hc dX2_cheapestAt_32 (by decide) ?_
  refine r_goto 37 hc dX2_cheapestAt_33 (by decide) ?_
  exact u2_cheapestAt_37 hc (ho0) hR6 h
set_option maxRecDepth 100000 in
set_option maxHeartbeats 4000000 in
theorem u2_cheapestAt_6 {κ : KT} {k : Int32 → St → Prop} {o0 : Nat} {i1 : Int32} {i2 : Int32} {i3 : Int32} {i4 : Int32}   (hc : Cx κ cX2_cheapestAt 8 RX2 3 (some .int)) (ho0 : kd o0 = 5)  : ∀ (n : Nat) (i5 : Int32) (i6 : Int32) (σ : St), x2_cheapestAt_6 o0 i1 i2 i3 i4 k n i5 i6 σ → Wd κ 8 (QI κ k) 6 [(0, aK κ o0), (1, .int i1), (2, .int i2), (3, .int i3), (4, .int i4), (5, .int i5), (6, .int i6)] [] σ := by
  intro n
  induction n with
  | zero => intro i5 i6 σ h; exact h.elim
  | succ n ih =>
    intro i5 i6 σ h
    unfold x2_cheapestAt_6 at h
    refine r_iload 6 hc dX2_cheapestAt_6 rfl ?_
    refine r_bipush (v := 22) hc dX2_cheapestAt_8 (by decide) ?_
    refine r_icmp_gt 70 hc dX2_cheapestAt_10 (by decide) h (fun h => ?_) (fun h => ?_)
    · refine r_iload 5 hc dX2_cheapestAt_70 rfl ?_
      exact r_iret hc dX2_cheapestAt_72 h
    · refine r_iload 5 hc dX2_cheapestAt_13 rfl ?_
      refine r_iconst (v := (-1)) hc dX2_cheapestAt_15 (by decide) ?_
      refine r_icmp_eq 32 hc dX2_cheapestAt_16 (by decide) h (fun h => ?_) (fun h => ?_)
      · exact u2_cheapestAt_32 hc (ho0) ih h
      · refine r_iload 6 hc dX2_cheapestAt_19 rfl ?_
        refine r_csI [.int i6] hc dX2_cheapestAt_21 cX2_48 (t2_costOf h) rfl rfl rfl (Nat.le_of_ble_eq_true rfl) (by decide) (by decide) (fun r3 σ4 h => ?_)
        refine r_iload 5 hc dX2_cheapestAt_24 rfl ?_
        refine r_csI [.int i5] hc dX2_cheapestAt_26 cX2_48 (t2_costOf h) rfl rfl rfl (Nat.le_of_ble_eq_true rfl) (by decide) (by decide) (fun r5 σ6 h => ?_)
        refine r_icmp_ge 36 hc dX2_cheapestAt_29 (by decide) h (fun h => ?_) (fun h => ?_)
        · refine r_iconst (v := 0) hc dX2_cheapestAt_36 (by decide) ?_
          exact u2_cheapestAt_37 hc (ho0) ih h
        · exact u2_cheapestAt_32 hc (ho0) ih h
set_option maxRecDepth 100000 in
set_option maxHeartbeats 4000000 in
theorem t2_cheapestAt {l : Launch} {o0 : Nat} {i1 : Int32} {i2 : Int32} {i3 : Int32} {i4 : Int32} {σ : St} {k : Int32 → St → Prop} (ho0 : kd o0 = 5) (h : x2_cheapestAt o0 i1 i2 i3 i4 σ k) : CI l yX2_cheapestAt cX2_cheapestAt 8 3 (some .int) (fun ad => [.ref (ad o0), .int i1, .int i2, .int i3, .int i4]) σ k := by
  refine CI.of (lv := fun ad => [(0, .ref (ad o0)), (1, .int i1), (2, .int i2), (3, .int i3), (4, .int i4)]) (by decide) (fun _ => Nat.le_of_ble_eq_true rfl) (fun _ => rfl) (fun κ hc => ?_)
  show Wd κ 8 (QI κ k) 0 [(0, aK κ o0), (1, .int i1), (2, .int i2), (3, .int i3), (4, .int i4)] [] σ
  unfold x2_cheapestAt at h
  refine r_iconst (v := (-1)) hc dX2_cheapestAt_0 (by decide) ?_
  refine r_istore (lv' := [(5, .int ((-1))), (0, aK κ o0), (1, .int i1), (2, .int i2), (3, .int i3), (4, .int i4)]) hc dX2_cheapestAt_1 (by decide) rfl ?_
  refine r_iconst (v := 0) hc dX2_cheapestAt_3 (by decide) ?_
  refine r_istore (lv' := [(6, .int 0), (5, .int ((-1))), (0, aK κ o0), (1, .int i1), (2, .int i2), (3, .int i3), (4, .int i4)]) hc dX2_cheapestAt_4 (by decide) rfl ?_
  refine r_sub [2, 3, 4, 5, 6, 1, 0] rfl ?_
  obtain ⟨n0, h⟩ := h
  exact u2_cheapestAt_6 hc (ho0) n0 _ _ _ h
set_option maxRecDepth 100000 in
set_option maxHeartbeats 4000000 in
theorem u2_codeAt_51 {κ : KT} {k : Int32 → St → Prop} {i1 : Int32} {i2 : Int32}  {s0 : Int32} {σ : St}  (hc : Cx κ cX2_codeAt 6 RX2 1 (some .int))    (h : x2_codeAt_51 i1 i2 s0 σ k) : Wd κ 6 (QI κ k) 51 [(0, aK κ 61), (1, .int i1), (2, .int i2)] [.int s0] σ := by
  unfold x2_codeAt_51 at h
  exact r_iret hc dX2_codeAt_51 h
set_option maxRecDepth 100000 in
set_option maxHeartbeats 4000000 in
theorem u2_codeAt_18 {κ : KT} {k : Int32 → St → Prop} {i1 : Int32} {i2 : Int32}  {s0 : Int32} {σ : St}  (hc : Cx κ cX2_codeAt 6 RX2 1 (some .int))    (h : x2_codeAt_18 i1 i2 s0 σ k) : Wd κ 6 (QI κ k) 18 [(0, aK κ 61), (1, .int i1), (2, .int i2)] [.int s0] σ := by
  unfold x2_codeAt_18 at h
  refine r_istore (lv' := [(4, .int s0), (0, aK κ 61), (1, .int i1), (2, .int i2)]) hc dX2_codeAt_18 (by decide) rfl ?_
  refine r_aload_n 1 hc dX2_codeAt_20 rfl ?_
  refine r_get (K := 2) (f := 0) hc dX2_codeAt_21 fX2_9 inX2 rfl rfl (by decide) (by decide) rfl rfl ?_
  refine r_iconst (v := 2) hc dX2_codeAt_24 (by decide) ?_
  refine r_iload_n 2 hc dX2_codeAt_25 rfl ?_
  refine r_imul hc dX2_codeAt_26 ?_
  refine r_iload 0 hc dX2_codeAt_27 rfl ?_
  refine r_iadd hc dX2_codeAt_29 ?_
  refine r_iald hc dX2_codeAt_30 rfl h (fun h => ?_)
  refine r_nmI h (fun v2 h => ?_)
  refine r_istore (lv' := [(5, .int v2), (4, .int s0), (0, aK κ 61), (1, .int i1), (2, .int i2)]) hc dX2_codeAt_31 (by decide) rfl ?_
  refine r_iload 0 hc dX2_codeAt_33 rfl ?_
  refine r_iconst (v := (-1)) hc dX2_codeAt_35 (by decide) ?_
  refine r_icmp_ne 43 hc dX2_codeAt_36 (by decide) h (fun h => ?_) (fun h => ?_)
  · refine r_iconst (v := (-1)) hc dX2_codeAt_39 (by decide) ?_
    refine r_goto 51 hc dX2_codeAt_40 (by decide) ?_
    refine r_sub [2, 3, 4] rfl ?_
    exact u2_codeAt_51 hc h
  · refine r_iload 0 hc dX2_codeAt_43 rfl ?_
    refine r_iload_n 4 hc dX2_codeAt_45 rfl ?_
    refine r_iload_n 3 hc dX2_codeAt_46 rfl ?_
    refine r_ishr hc dX2_codeAt_47 ?_
    refine r_iconst (v := 1) hc dX2_codeAt_48 (by decide) ?_
    refine r_iand hc dX2_codeAt_49 ?_
    refine r_iadd hc dX2_codeAt_50 ?_
    refine r_sub [2, 3, 4] rfl ?_
    exact u2_codeAt_51 hc h
set_option maxRecDepth 100000 in
set_option maxHeartbeats 4000000 in
theorem t2_codeAt {l : Launch} {i1 : Int32} {i2 : Int32} {σ : St} {k : Int32 → St → Prop}  (h : x2_codeAt i1 i2 σ k) : CI l yX2_codeAt cX2_codeAt 6 1 (some .int) (fun ad => [.ref (ad 61), .int i1, .int i2]) σ k := by
  refine CI.of (lv := fun ad => [(0, .ref (ad 61)), (1, .int i1), (2, .int i2)]) (by decide) (fun _ => Nat.le_of_ble_eq_true rfl) (fun _ => rfl) (fun κ hc => ?_)
  show Wd κ 6 (QI κ k) 0 [(0, aK κ 61), (1, .int i1), (2, .int i2)] [] σ
  unfold x2_codeAt at h
  refine r_bipush (v := 7) hc dX2_codeAt_0 (by decide) ?_
  refine r_iload_n 1 hc dX2_codeAt_2 rfl ?_
  refine r_ishl hc dX2_codeAt_3 ?_
  refine r_iconst (v := 1) hc dX2_codeAt_4 (by decide) ?_
  refine r_ishr hc dX2_codeAt_5 ?_
  refine r_nmI h (fun v1 h => ?_)
  refine r_istore_n (lv' := [(3, .int v1), (0, aK κ 61), (1, .int i1), (2, .int i2)]) hc dX2_codeAt_6 (by decide) rfl ?_
  refine r_iload_n 3 hc dX2_codeAt_7 rfl ?_
  refine r_iload_n 0 hc dX2_codeAt_8 rfl ?_
  refine r_iand hc dX2_codeAt_9 ?_
  refine r_if_eq 17 hc dX2_codeAt_10 (by decide) h (fun h => ?_) (fun h => ?_)
  · refine r_iconst (v := 0) hc dX2_codeAt_17 (by decide) ?_
    refine r_sub [1, 2, 3] rfl ?_
    exact u2_codeAt_18 hc h
  · refine r_iconst (v := 1) hc dX2_codeAt_13 (by decide) ?_
    refine r_goto 18 hc dX2_codeAt_14 (by decide) ?_
    refine r_sub [1, 2, 3] rfl ?_
    exact u2_codeAt_18 hc h
set_option maxRecDepth 100000 in
set_option maxHeartbeats 4000000 in
theorem u2_totalOf_4 {κ : KT} {k : Int32 → St → Prop} {i1 : Int32}   (hc : Cx κ cX2_totalOf 5 RX2 2 (some .int))   : ∀ (n : Nat) (i2 : Int32) (i3 : Int32) (σ : St), x2_totalOf_4 i1 k n i2 i3 σ → Wd κ 5 (QI κ k) 4 [(0, aK κ 61), (1, .int i1), (2, .int i2), (3, .int i3)] [] σ := by
  intro n
  induction n with
  | zero => intro i2 i3 σ h; exact h.elim
  | succ n ih =>
    intro i2 i3 σ h
    unfold x2_totalOf_4 at h
    refine r_iload_n 3 hc dX2_totalOf_4 rfl ?_
    refine r_aload_n 0 hc dX2_totalOf_5 rfl ?_
    refine r_get (K := 2) (f := 1) hc dX2_totalOf_6 fX2_15 inX2 rfl rfl (by decide) (by decide) rfl rfl ?_
    refine r_icmp_ge 42 hc dX2_totalOf_9 (by decide) h (fun h => ?_) (fun h => ?_)
    · refine r_iload_n 2 hc dX2_totalOf_42 rfl ?_
      exact r_iret hc dX2_totalOf_43 h
    · refine r_aload_n 0 hc dX2_totalOf_12 rfl ?_
      refine r_iload_n 3 hc dX2_totalOf_13 rfl ?_
      refine r_iload_n 1 hc dX2_totalOf_14 rfl ?_
      refine r_cvI [.int i3, .int i1] hc dX2_totalOf_15 cX2_44 (t2_codeAt h) rfl (by decide) rfl rfl rfl rfl (Nat.le_of_ble_eq_true rfl) (by decide) (by decide) (fun r1 σ2 h => ?_)
      refine r_istore (lv' := [(4, .int r1), (0, aK κ 61), (1, .int i1), (2, .int i2), (3, .int i3)]) hc dX2_totalOf_18 (by decide) rfl ?_
      refine r_iload 0 hc dX2_totalOf_20 rfl ?_
      refine r_iconst (v := (-1)) hc dX2_totalOf_22 (by decide) ?_
      refine r_icmp_ne 28 hc dX2_totalOf_23 (by decide) h (fun h => ?_) (fun h => ?_)
      · refine r_iconst (v := (-1)) hc dX2_totalOf_26 (by decide) ?_
        exact r_iret hc dX2_totalOf_27 h
      · refine r_iload_n 3 hc dX2_totalOf_28 rfl ?_
        refine r_iload 0 hc dX2_totalOf_29 rfl ?_
        refine r_csI [.int r1] hc dX2_totalOf_31 cX2_48 (t2_costOf h) rfl rfl rfl (Nat.le_of_ble_eq_true rfl) (by decide) (by decide) (fun r3 σ4 h => ?_)
        refine r_iadd hc dX2_totalOf_34 ?_
        refine r_nmI h (fun v5 h => ?_)
        refine r_istore_n (lv' := [(2, .int v5), (4, .int r1), (0, aK κ 61), (1, .int i1), (3, .int i3)]) hc dX2_totalOf_35 (by decide) rfl ?_
        refine r_iinc (v := 1) (lv' := [(3, .int (i3 + 1)), (2, .int v5), (4, .int r1), (0, aK κ 61), (1, .int i1)]) 4 hc dX2_totalOf_36 rfl (by decide) (by decide) rfl ?_
        refine r_goto 4 hc dX2_totalOf_39 (by decide) ?_
        refine r_sub [3, 4, 1, 0] rfl ?_
        exact ih _ _ _ h
set_option maxRecDepth 100000 in
set_option maxHeartbeats 4000000 in
theorem t2_totalOf {l : Launch} {i1 : Int32} {σ : St} {k : Int32 → St → Prop}  (h : x2_totalOf i1 σ k) : CI l yX2_totalOf cX2_totalOf 5 2 (some .int) (fun ad => [.ref (ad 61), .int i1]) σ k := by
  refine CI.of (lv := fun ad => [(0, .ref (ad 61)), (1, .int i1)]) (by decide) (fun _ => Nat.le_of_ble_eq_true rfl) (fun _ => rfl) (fun κ hc => ?_)
  show Wd κ 5 (QI κ k) 0 [(0, aK κ 61), (1, .int i1)] [] σ
  unfold x2_totalOf at h
  refine r_iconst (v := 0) hc dX2_totalOf_0 (by decide) ?_
  refine r_istore_n (lv' := [(2, .int 0), (0, aK κ 61), (1, .int i1)]) hc dX2_totalOf_1 (by decide) rfl ?_
  refine r_iconst (v := 0) hc dX2_totalOf_2 (by decide) ?_
  refine r_istore_n (lv' := [(3, .int 0), (2, .int 0), (0, aK κ 61), (1, .int i1)]) hc dX2_totalOf_3 (by decide) rfl ?_
  refine r_sub [2, 3, 1, 0] rfl ?_
  obtain ⟨n0, h⟩ := h
  exact u2_totalOf_4 hc n0 _ _ _ h
set_option maxRecDepth 100000 in
set_option maxHeartbeats 4000000 in
theorem u2_isAhead_45 {κ : KT} {k : Int32 → St → Prop} {i1 : Int32} {i2 : Int32}  {s0 : Int32} {σ : St}  (hc : Cx κ cX2_isAhead 6 RX2 2 (some .boolean))    (h : x2_isAhead_45 i1 i2 s0 σ k) : Wd κ 6 (QI κ k) 45 [(0, aK κ 61), (1, .int i1), (2, .int i2)] [.int s0] σ := by
  unfold x2_isAhead_45 at h
  exact r_zret hc dX2_isAhead_45 h
set_option maxRecDepth 100000 in
set_option maxHeartbeats 4000000 in
theorem u2_isAhead_2 {κ : KT} {k : Int32 → St → Prop} {i1 : Int32} {i2 : Int32}   (hc : Cx κ cX2_isAhead 6 RX2 2 (some .boolean))   : ∀ (n : Nat) (i3 : Int32) (σ : St), x2_isAhead_2 i1 i2 k n i3 σ → Wd κ 6 (QI κ k) 2 [(0, aK κ 61), (1, .int i1), (2, .int i2), (3, .int i3)] [] σ := by
  intro n
  induction n with
  | zero => intro i3 σ h; exact h.elim
  | succ n ih =>
    intro i3 σ h
    unfold x2_isAhead_2 at h
    refine r_iload_n 3 hc dX2_isAhead_2 rfl ?_
    refine r_aload_n 0 hc dX2_isAhead_3 rfl ?_
    refine r_get (K := 2) (f := 1) hc dX2_isAhead_4 fX2_15 inX2 rfl rfl (by decide) (by decide) rfl rfl ?_
    refine r_icmp_ge 52 hc dX2_isAhead_7 (by decide) h (fun h => ?_) (fun h => ?_)
    · refine r_iconst (v := 0) hc dX2_isAhead_52 (by decide) ?_
      exact r_zret hc dX2_isAhead_53 h
    · refine r_aload_n 0 hc dX2_isAhead_10 rfl ?_
      refine r_iload_n 3 hc dX2_isAhead_11 rfl ?_
      refine r_iload_n 1 hc dX2_isAhead_12 rfl ?_
      refine r_cvI [.int i3, .int i1] hc dX2_isAhead_13 cX2_44 (t2_codeAt h) rfl (by decide) rfl rfl rfl rfl (Nat.le_of_ble_eq_true rfl) (by decide) (by decide) (fun r1 σ2 h => ?_)
      refine r_istore (lv' := [(4, .int r1), (0, aK κ 61), (1, .int i1), (2, .int i2), (3, .int i3)]) hc dX2_isAhead_16 (by decide) rfl ?_
      refine r_aload_n 1 hc dX2_isAhead_18 rfl ?_
      refine r_iload_n 4 hc dX2_isAhead_19 rfl ?_
      refine r_iload_n 3 hc dX2_isAhead_20 rfl ?_
      refine r_cvI [.int i3, .int i2] hc dX2_isAhead_21 cX2_44 (t2_codeAt h) rfl (by decide) rfl rfl rfl rfl (Nat.le_of_ble_eq_true rfl) (by decide) (by decide) (fun r3 σ4 h => ?_)
      refine r_istore (lv' := [(5, .int r3), (4, .int r1), (0, aK κ 61), (1, .int i1), (2, .int i2), (3, .int i3)]) hc dX2_isAhead_24 (by decide) rfl ?_
      refine r_iload 1 hc dX2_isAhead_26 rfl ?_
      refine r_iload 0 hc dX2_isAhead_28 rfl ?_
      refine r_icmp_eq 46 hc dX2_isAhead_30 (by decide) h (fun h => ?_) (fun h => ?_)
      · refine r_iinc (v := 1) (lv' := [(3, .int (i3 + 1)), (5, .int r3), (4, .int r1), (0, aK κ 61), (1, .int i1), (2, .int i2)]) 5 hc dX2_isAhead_46 rfl (by decide) (by decide) rfl ?_
        refine r_goto 2 hc dX2_isAhead_49 (by decide) ?_
        refine r_sub [3, 4, 5, 0] rfl ?_
        exact ih _ _ h
      · refine r_iload 1 hc dX2_isAhead_33 rfl ?_
        refine r_iload 0 hc dX2_isAhead_35 rfl ?_
        refine r_icmp_ge 44 hc dX2_isAhead_37 (by decide) h (fun h => ?_) (fun h => ?_)
        · refine r_iconst (v := 0) hc dX2_isAhead_44 (by decide) ?_
          refine r_sub [2, 3, 4] rfl ?_
          exact u2_isAhead_45 hc h
        · refine r_iconst (v := 1) hc dX2_isAhead_40 (by decide) ?_
          refine r_goto 45 hc dX2_isAhead_41 (by decide) ?_
          refine r_sub [2, 3, 4] rfl ?_
          exact u2_isAhead_45 hc h
set_option maxRecDepth 100000 in
set_option maxHeartbeats 4000000 in
theorem t2_isAhead {l : Launch} {i1 : Int32} {i2 : Int32} {σ : St} {k : Int32 → St → Prop}  (h : x2_isAhead i1 i2 σ k) : CI l yX2_isAhead cX2_isAhead 6 2 (some .boolean) (fun ad => [.ref (ad 61), .int i1, .int i2]) σ k := by
  refine CI.of (lv := fun ad => [(0, .ref (ad 61)), (1, .int i1), (2, .int i2)]) (by decide) (fun _ => Nat.le_of_ble_eq_true rfl) (fun _ => rfl) (fun κ hc => ?_)
  show Wd κ 6 (QI κ k) 0 [(0, aK κ 61), (1, .int i1), (2, .int i2)] [] σ
  unfold x2_isAhead at h
  refine r_iconst (v := 0) hc dX2_isAhead_0 (by decide) ?_
  refine r_istore_n (lv' := [(3, .int 0), (0, aK κ 61), (1, .int i1), (2, .int i2)]) hc dX2_isAhead_1 (by decide) rfl ?_
  refine r_sub [1, 2, 3, 0] rfl ?_
  obtain ⟨n0, h⟩ := h
  exact u2_isAhead_2 hc n0 _ _ h
set_option maxRecDepth 100000 in
set_option maxHeartbeats 4000000 in
theorem u2_choose_108 {κ : KT} {k : Int32 → St → Prop}   {s0 : Int32} {σ : St}  (hc : Cx κ cX2_choose 4 RX2 3 (some .boolean))    (h : x2_choose_108 s0 σ k) : Wd κ 4 (QI κ k) 108 [(0, aK κ 61)] [.int s0] σ := by
  unfold x2_choose_108 at h
  exact r_zret hc dX2_choose_108 h
set_option maxRecDepth 100000 in
set_option maxHeartbeats 4000000 in
theorem u2_choose_89 {κ : KT} {k : Int32 → St → Prop}  {R7 : Int32 → St → Prop} {i1 : Int32} {σ : St}  (hc : Cx κ cX2_choose 4 RX2 3 (some .boolean))  (hR7 : ∀ (i1 : Int32) (σ : St), R7 i1 σ → Wd κ 4 (QI κ k) 7 [(0, aK κ 61), (1, .int i1)] [] σ)  (h : x2_choose_89 R7 i1 σ k) : Wd κ 4 (QI κ k) 89 [(0, aK κ 61), (1, .int i1)] [] σ := by
  unfold x2_choose_89 at h
  refine r_iinc (v := 1) (lv' := [(1, .int (i1 + 1)), (0, aK κ 61)]) 1 hc dX2_choose_89 rfl (by decide) (by decide) rfl ?_
  refine r_goto 7 hc dX2_choose_92 (by decide) ?_
  refine r_sub [1, 0] rfl ?_
  exact hR7 _ _ h
set_option maxRecDepth 100000 in
set_option maxHeartbeats 4000000 in
theorem u2_choose_79 {κ : KT} {k : Int32 → St → Prop}  {R7 : Int32 → St → Prop} {i1 : Int32} {i2 : Int32} {σ : St}  (hc : Cx κ cX2_choose 4 RX2 3 (some .boolean))  (hR7 : ∀ (i1 : Int32) (σ : St), R7 i1 σ → Wd κ 4 (QI κ k) 7 [(0, aK κ 61), (1, .int i1)] [] σ)  (h : x2_choose_79 R7 i1 i2 σ k) : Wd κ 4 (QI κ k) 79 [(0, aK κ 61), (1, .int i1), (2, .int i2)] [] σ := by
  unfold x2_choose_79 at h
  refine r_aload_n 0 hc dX2_choose_79 rfl ?_
  refine r_iload_n 2 hc dX2_choose_80 rfl ?_
  refine r_put (K := 2) (f := 3) hc dX2_choose_81 fX2_22 inX2 tyX2_ok nmX2 rfl rfl rfl rfl (by decide) (by decide) rfl rfl ?_
  refine r_nmS h (fun σ6 h => ?_)
  refine r_aload_n 0 hc dX2_choose_84 rfl ?_
  refine r_iload_n 1 hc dX2_choose_85 rfl ?_
  refine r_put (K := 2) (f := 2) hc dX2_choose_86 fX2_19 inX2 tyX2_ok nmX2 rfl rfl rfl rfl (by decide) (by decide) rfl rfl ?_
  refine r_nmS h (fun σ7 h => ?_)
  refine r_sub [0, 1] rfl ?_
  exact u2_choose_89 hc hR7 h
set_option maxRecDepth 100000 in
set_option maxHeartbeats 4000000 in
theorem u2_choose_49 {κ : KT} {k : Int32 → St → Prop}  {R7 : Int32 → St → Prop} {i1 : Int32} {i2 : Int32} {s0 : Int32} {σ : St}  (hc : Cx κ cX2_choose 4 RX2 3 (some .boolean))  (hR7 : ∀ (i1 : Int32) (σ : St), R7 i1 σ → Wd κ 4 (QI κ k) 7 [(0, aK κ 61), (1, .int i1)] [] σ)  (h : x2_choose_49 R7 i1 i2 s0 σ k) : Wd κ 4 (QI κ k) 49 [(0, aK κ 61), (1, .int i1), (2, .int i2)] [.int s0] σ := by
  unfold x2_choose_49 at h
  refine r_istore_n (lv' := [(3, .int s0), (0, aK κ 61), (1, .int i1), (2, .int i2)]) hc dX2_choose_49 (by decide) rfl ?_
  refine r_iload_n 0 hc dX2_choose_50 rfl ?_
  refine r_if_ne 79 hc dX2_choose_51 (by decide) h (fun h => ?_) (fun h => ?_)
  · refine r_iload_n 3 hc dX2_choose_54 rfl ?_
    refine r_iconst (v := (-1)) hc dX2_choose_55 (by decide) ?_
    refine r_icmp_eq 89 hc dX2_choose_56 (by decide) h (fun h => ?_) (fun h => ?_)
    · refine r_sub [1, 2] rfl ?_
      exact u2_choose_89 hc hR7 h
    · refine r_iload_n 3 hc dX2_choose_59 rfl ?_
      refine r_aload_n 1 hc dX2_choose_60 rfl ?_
      refine r_get (K := 2) (f := 3) hc dX2_choose_61 fX2_22 inX2 rfl rfl (by decide) (by decide) rfl rfl ?_
      refine r_icmp_ne 89 hc dX2_choose_64 (by decide) h (fun h => ?_) (fun h => ?_)
      · refine r_aload_n 1 hc dX2_choose_67 rfl ?_
        refine r_iload_n 2 hc dX2_choose_68 rfl ?_
        refine r_aload_n 1 hc dX2_choose_69 rfl ?_
        refine r_get (K := 2) (f := 2) hc dX2_choose_70 fX2_19 inX2 rfl rfl (by decide) (by decide) rfl rfl ?_
        refine r_cvI [.int i1, .int (σ 61 2)] hc dX2_choose_73 cX2_39 (t2_isAhead h) rfl (by decide) rfl rfl rfl rfl (Nat.le_of_ble_eq_true rfl) (by decide) (by decide) (fun r4 σ5 h => ?_)
        refine r_if_eq 89 hc dX2_choose_76 (by decide) h (fun h => ?_) (fun h => ?_)
        · refine r_sub [1, 2] rfl ?_
          exact u2_choose_89 hc hR7 h
        · refine r_sub [1, 2, 3] rfl ?_
          exact u2_choose_79 hc hR7 h
      · refine r_sub [1, 2] rfl ?_
        exact u2_choose_89 hc hR7 h
  · refine r_sub [1, 2, 3] rfl ?_
    exact u2_choose_79 hc hR7 h
set_option maxRecDepth 100000 in
set_option maxHeartbeats 4000000 in
theorem u2_choose_48 {κ : KT} {k : Int32 → St → Prop}  {R7 : Int32 → St → Prop} {i1 : Int32} {i2 : Int32} {σ : St}  (hc : Cx κ cX2_choose 4 RX2 3 (some .boolean))  (hR7 : ∀ (i1 : Int32) (σ : St), R7 i1 σ → Wd κ 4 (QI κ k) 7 [(0, aK κ 61), (1, .int i1)] [] σ)  (h : x2_choose_48 R7 i1 i2 σ k) : Wd κ 4 (QI κ k) 48 [(0, aK κ 61), (1, .int i1), (2, .int i2)] [] σ := by
  unfold x2_choose_48 at h
  refine r_iconst (v := 0) hc dX2_choose_48 (by decide) ?_
  exact u2_choose_49 hc hR7 h
set_option maxRecDepth 100000 in
set_option maxHeartbeats 4000000 in
theorem u2_choose_44 {κ : KT} {k : Int32 → St → Prop}  {R7 : Int32 → St → Prop} {i1 : Int32} {i2 : Int32} {σ : St}  (hc : Cx κ cX2_choose 4 RX2 3 (some .boolean))  (hR7 : ∀ (i1 : Int32) (σ : St), R7 i1 σ → Wd κ 4 (QI κ k) 7 [(0, aK κ 61), (1, .int i1)] [] σ)  (h : x2_choose_44 R7 i1 i2 σ k) : Wd κ 4 (QI κ k) 44 [(0, aK κ 61), (1, .int i1), (2, .int i2)] [] σ := by
  unfold x2_choose_44 at h
  refine r_iconst (v := 1) hc dX2_choose_44 (by decide) ?_
  refine r_goto 49 hc dX2_choose_45 (by decide) ?_
  exact u2_choose_49 hc hR7 h
set_option maxRecDepth 100000 in
set_option maxHeartbeats 4000000 in
theorem u2_choose_7 {κ : KT} {k : Int32 → St → Prop}    (hc : Cx κ cX2_choose 4 RX2 3 (some .boolean))   : ∀ (n : Nat) (i1 : Int32) (σ : St), x2_choose_7 k n i1 σ → Wd κ 4 (QI κ k) 7 [(0, aK κ 61), (1, .int i1)] [] σ := by
  intro n
  induction n with
  | zero => intro i1 σ h; exact h.elim
  | succ n ih =>
    intro i1 σ h
    unfold x2_choose_7 at h
    refine r_iload_n 1 hc dX2_choose_7 rfl ?_
    refine r_iconst (v := 1) hc dX2_choose_8 (by decide) ?_
    refine r_aload_n 0 hc dX2_choose_9 rfl ?_
    refine r_get (K := 2) (f := 1) hc dX2_choose_10 fX2_15 inX2 rfl rfl (by decide) (by decide) rfl rfl ?_
    refine r_ishl hc dX2_choose_13 ?_
    refine r_icmp_ge 95 hc dX2_choose_14 (by decide) h (fun h => ?_) (fun h => ?_)
    · refine r_aload_n 0 hc dX2_choose_95 rfl ?_
      refine r_get (K := 2) (f := 3) hc dX2_choose_96 fX2_22 inX2 rfl rfl (by decide) (by decide) rfl rfl ?_
      refine r_iconst (v := (-1)) hc dX2_choose_99 (by decide) ?_
      refine r_icmp_eq 107 hc dX2_choose_100 (by decide) h (fun h => ?_) (fun h => ?_)
      · refine r_iconst (v := 0) hc dX2_choose_107 (by decide) ?_
        refine r_sub [0] rfl ?_
        exact u2_choose_108 hc h
      · refine r_iconst (v := 1) hc dX2_choose_103 (by decide) ?_
        refine r_goto 108 hc dX2_choose_104 (by decide) ?_
        refine r_sub [0] rfl ?_
        exact u2_choose_108 hc h
    · refine r_aload_n 0 hc dX2_choose_17 rfl ?_
      refine r_iload_n 1 hc dX2_choose_18 rfl ?_
      refine r_cvI [.int i1] hc dX2_choose_19 cX2_36 (t2_totalOf h) rfl (by decide) rfl rfl rfl rfl (Nat.le_of_ble_eq_true rfl) (by decide) (by decide) (fun r2 σ3 h => ?_)
      refine r_istore_n (lv' := [(2, .int r2), (0, aK κ 61), (1, .int i1)]) hc dX2_choose_22 (by decide) rfl ?_
      refine r_iload_n 0 hc dX2_choose_23 rfl ?_
      refine r_iconst (v := (-1)) hc dX2_choose_24 (by decide) ?_
      refine r_icmp_eq 48 hc dX2_choose_25 (by decide) h (fun h => ?_) (fun h => ?_)
      · refine r_sub [1, 2, 0] rfl ?_
        exact u2_choose_48 hc ih h
      · refine r_aload_n 1 hc dX2_choose_28 rfl ?_
        refine r_get (K := 2) (f := 3) hc dX2_choose_29 fX2_22 inX2 rfl rfl (by decide) (by decide) rfl rfl ?_
        refine r_iconst (v := (-1)) hc dX2_choose_32 (by decide) ?_
        refine r_icmp_eq 44 hc dX2_choose_33 (by decide) h (fun h => ?_) (fun h => ?_)
        · refine r_sub [1, 2, 0] rfl ?_
          exact u2_choose_44 hc ih h
        · refine r_iload_n 0 hc dX2_choose_36 rfl ?_
          refine r_aload_n 1 hc dX2_choose_37 rfl ?_
          refine r_get (K := 2) (f := 3) hc dX2_choose_38 fX2_22 inX2 rfl rfl (by decide) (by decide) rfl rfl ?_
          refine r_icmp_ge 48 hc dX2_choose_41 (by decide) h (fun h => ?_) (fun h => ?_)
          · refine r_sub [1, 2, 0] rfl ?_
            exact u2_choose_48 hc ih h
          · refine r_sub [1, 2, 0] rfl ?_
            exact u2_choose_44 hc ih h
set_option maxRecDepth 100000 in
set_option maxHeartbeats 4000000 in
theorem t2_choose {l : Launch}  {σ : St} {k : Int32 → St → Prop}  (h : x2_choose  σ k) : CI l yX2_choose cX2_choose 4 3 (some .boolean) (fun ad => [.ref (ad 61)]) σ k := by
  refine CI.of (lv := fun ad => [(0, .ref (ad 61))]) (by decide) (fun _ => Nat.le_of_ble_eq_true rfl) (fun _ => rfl) (fun κ hc => ?_)
  show Wd κ 4 (QI κ k) 0 [(0, aK κ 61)] [] σ
  unfold x2_choose at h
  refine r_aload_n 0 hc dX2_choose_0 rfl ?_
  refine r_iconst (v := (-1)) hc dX2_choose_1 (by decide) ?_
  refine r_put (K := 2) (f := 3) hc dX2_choose_2 fX2_22 inX2 tyX2_ok nmX2 rfl rfl rfl rfl (by decide) (by decide) rfl rfl ?_
  refine r_nmS h (fun σ1 h => ?_)
  refine r_iconst (v := 0) hc dX2_choose_5 (by decide) ?_
  refine r_istore_n (lv' := [(1, .int 0), (0, aK κ 61)]) hc dX2_choose_6 (by decide) rfl ?_
  refine r_sub [1, 0] rfl ?_
  obtain ⟨n0, h⟩ := h
  exact u2_choose_7 hc n0 _ _ h
set_option maxRecDepth 100000 in
set_option maxHeartbeats 4000000 in
theorem u2_firstThatCanNot_38 {κ : KT} {k : Int32 → St → Prop}  {R2 : Int32 → St → Prop} {i1 : Int32} {σ : St}  (hc : Cx κ cX2_firstThatCanNot 2 RX2 1 (some .int))  (hR2 : ∀ (i1 : Int32) (σ : St), R2 i1 σ → Wd κ 2 (QI κ k) 2 [(0, aK κ 61), (1, .int i1)] [] σ)  (h : x2_firstThatCanNot_38 R2 i1 σ k) : Wd κ 2 (QI κ k) 38 [(0, aK κ 61), (1, .int i1)] [] σ := by
  unfold x2_firstThatCanNot_38 at h
  refine r_iinc (v := 1) (lv' := [(1, .int (i1 + 1)), (0, aK κ 61)]) 1 hc dX2_firstThatCanNot_38 rfl (by decide) (by decide) rfl ?_
  refine r_goto 2 hc dX2_firstThatCanNot_41 (by decide) ?_
  refine r_sub [1, 0] rfl ?_
  exact hR2 _ _ h
set_option maxRecDepth 100000 in
set_option maxHeartbeats 4000000 in
theorem u2_firstThatCanNot_2 {κ : KT} {k : Int32 → St → Prop}    (hc : Cx κ cX2_firstThatCanNot 2 RX2 1 (some .int))   : ∀ (n : Nat) (i1 : Int32) (σ : St), x2_firstThatCanNot_2 k n i1 σ → Wd κ 2 (QI κ k) 2 [(0, aK κ 61), (1, .int i1)] [] σ := by
  intro n
  induction n with
  | zero => intro i1 σ h; exact h.elim
  | succ n ih =>
    intro i1 σ h
    unfold x2_firstThatCanNot_2 at h
    refine r_iload_n 1 hc dX2_firstThatCanNot_2 rfl ?_
    refine r_aload_n 0 hc dX2_firstThatCanNot_3 rfl ?_
    refine r_get (K := 2) (f := 1) hc dX2_firstThatCanNot_4 fX2_15 inX2 rfl rfl (by decide) (by decide) rfl rfl ?_
    refine r_icmp_ge 44 hc dX2_firstThatCanNot_7 (by decide) h (fun h => ?_) (fun h => ?_)
    · refine r_ldc hc dX2_firstThatCanNot_44 kX2_43 ?_
      exact r_iret hc dX2_firstThatCanNot_46 h
    · refine r_aload_n 0 hc dX2_firstThatCanNot_10 rfl ?_
      refine r_get (K := 2) (f := 0) hc dX2_firstThatCanNot_11 fX2_9 inX2 rfl rfl (by decide) (by decide) rfl rfl ?_
      refine r_iconst (v := 2) hc dX2_firstThatCanNot_14 (by decide) ?_
      refine r_iload_n 1 hc dX2_firstThatCanNot_15 rfl ?_
      refine r_imul hc dX2_firstThatCanNot_16 ?_
      refine r_iald hc dX2_firstThatCanNot_17 rfl h (fun h => ?_)
      refine r_iconst (v := (-1)) hc dX2_firstThatCanNot_18 (by decide) ?_
      refine r_icmp_ne 38 hc dX2_firstThatCanNot_19 (by decide) h (fun h => ?_) (fun h => ?_)
      · refine r_aload_n 0 hc dX2_firstThatCanNot_22 rfl ?_
        refine r_get (K := 2) (f := 0) hc dX2_firstThatCanNot_23 fX2_9 inX2 rfl rfl (by decide) (by decide) rfl rfl ?_
        refine r_iconst (v := 2) hc dX2_firstThatCanNot_26 (by decide) ?_
        refine r_iload_n 1 hc dX2_firstThatCanNot_27 rfl ?_
        refine r_imul hc dX2_firstThatCanNot_28 ?_
        refine r_iconst (v := 1) hc dX2_firstThatCanNot_29 (by decide) ?_
        refine r_iadd hc dX2_firstThatCanNot_30 ?_
        refine r_iald hc dX2_firstThatCanNot_31 rfl h (fun h => ?_)
        refine r_iconst (v := (-1)) hc dX2_firstThatCanNot_32 (by decide) ?_
        refine r_icmp_ne 38 hc dX2_firstThatCanNot_33 (by decide) h (fun h => ?_) (fun h => ?_)
        · refine r_iload_n 1 hc dX2_firstThatCanNot_36 rfl ?_
          exact r_iret hc dX2_firstThatCanNot_37 h
        · exact u2_firstThatCanNot_38 hc ih h
      · exact u2_firstThatCanNot_38 hc ih h
set_option maxRecDepth 100000 in
set_option maxHeartbeats 4000000 in
theorem t2_firstThatCanNot {l : Launch}  {σ : St} {k : Int32 → St → Prop}  (h : x2_firstThatCanNot  σ k) : CI l yX2_firstThatCanNot cX2_firstThatCanNot 2 1 (some .int) (fun ad => [.ref (ad 61)]) σ k := by
  refine CI.of (lv := fun ad => [(0, .ref (ad 61))]) (by decide) (fun _ => Nat.le_of_ble_eq_true rfl) (fun _ => rfl) (fun κ hc => ?_)
  show Wd κ 2 (QI κ k) 0 [(0, aK κ 61)] [] σ
  unfold x2_firstThatCanNot at h
  refine r_iconst (v := 0) hc dX2_firstThatCanNot_0 (by decide) ?_
  refine r_istore_n (lv' := [(1, .int 0), (0, aK κ 61)]) hc dX2_firstThatCanNot_1 (by decide) rfl ?_
  refine r_sub [1, 0] rfl ?_
  obtain ⟨n0, h⟩ := h
  exact u2_firstThatCanNot_2 hc n0 _ _ h
set_option maxRecDepth 100000 in
set_option maxHeartbeats 4000000 in
theorem u5_callersAt_28 {κ : KT} {k : Int32 → St → Prop} {o0 : Nat} {i1 : Int32} {R4 : Int32 → Int32 → St → Prop} {i2 : Int32} {i3 : Int32} {σ : St}  (hc : Cx κ cX5_callersAt 4 RX5 1 (some .int)) (ho0 : kd o0 = 5) (hR4 : ∀ (i2 : Int32) (i3 : Int32) (σ : St), R4 i2 i3 σ → Wd κ 4 (QI κ k) 4 [(0, aK κ o0), (1, .int i1), (2, .int i2), (3, .int i3)] [] σ)  (h : x5_callersAt_28 o0 i1 R4 i2 i3 σ k) : Wd κ 4 (QI κ k) 28 [(0, aK κ o0), (1, .int i1), (2, .int i2), (3, .int i3)] [] σ := by
  unfold x5_callersAt_28 at h
  refine r_iinc (v := 1) (lv' := [(3, .int (i3 + 1)), (0, aK κ o0), (1, .int i1), (2, .int i2)]) 3 hc dX5_callersAt_28 rfl (by decide) (by decide) rfl ?_
  refine r_goto 4 hc dX5_callersAt_31 (by decide) ?_
  refine r_sub [1, 2, 3, 0] rfl ?_
  exact hR4 _ _ _ h
set_option maxRecDepth 100000 in
set_option maxHeartbeats 4000000 in
theorem u5_callersAt_4 {κ : KT} {k : Int32 → St → Prop} {o0 : Nat} {i1 : Int32}   (hc : Cx κ cX5_callersAt 4 RX5 1 (some .int)) (ho0 : kd o0 = 5)  : ∀ (n : Nat) (i2 : Int32) (i3 : Int32) (σ : St), x5_callersAt_4 o0 i1 k n i2 i3 σ → Wd κ 4 (QI κ k) 4 [(0, aK κ o0), (1, .int i1), (2, .int i2), (3, .int i3)] [] σ := by
  intro n
  induction n with
  | zero => intro i2 i3 σ h; exact h.elim
  | succ n ih =>
    intro i2 i3 σ h
    unfold x5_callersAt_4 at h
    refine r_iload_n 3 hc dX5_callersAt_4 rfl ?_
    refine r_aload_n 0 hc dX5_callersAt_5 rfl ?_
    refine r_get (K := 5) (f := 9) hc dX5_callersAt_6 fX5_40 inX5 rfl rfl (by decide) (by decide) ho0 rfl ?_
    refine r_icmp_ge 34 hc dX5_callersAt_9 (by decide) h (fun h => ?_) (fun h => ?_)
    · refine r_iload_n 2 hc dX5_callersAt_34 rfl ?_
      exact r_iret hc dX5_callersAt_35 h
    · refine r_aload_n 0 hc dX5_callersAt_12 rfl ?_
      refine r_get (K := 5) (f := 5) hc dX5_callersAt_13 fX5_27 inX5 rfl rfl (by decide) (by decide) ho0 rfl ?_
      refine r_iload_n 3 hc dX5_callersAt_16 rfl ?_
      refine r_iald hc dX5_callersAt_17 (k5_6 ho0) h (fun h => ?_)
      refine r_iload_n 1 hc dX5_callersAt_18 rfl ?_
      refine r_icmp_ne 28 hc dX5_callersAt_19 (by decide) h (fun h => ?_) (fun h => ?_)
      · refine r_iload_n 2 hc dX5_callersAt_22 rfl ?_
        refine r_iconst (v := 1) hc dX5_callersAt_23 (by decide) ?_
        refine r_iload_n 3 hc dX5_callersAt_24 rfl ?_
        refine r_ishl hc dX5_callersAt_25 ?_
        refine r_ior hc dX5_callersAt_26 ?_
        refine r_nmI h (fun v1 h => ?_)
        refine r_istore_n (lv' := [(2, .int v1), (0, aK κ o0), (1, .int i1), (3, .int i3)]) hc dX5_callersAt_27 (by decide) rfl ?_
        refine r_sub [1, 2, 0, 3] rfl ?_
        exact u5_callersAt_28 hc (ho0) ih h
      · exact u5_callersAt_28 hc (ho0) ih h
set_option maxRecDepth 100000 in
set_option maxHeartbeats 4000000 in
theorem t5_callersAt {l : Launch} {o0 : Nat} {i1 : Int32} {σ : St} {k : Int32 → St → Prop} (ho0 : kd o0 = 5) (h : x5_callersAt o0 i1 σ k) : CI l yX5_callersAt cX5_callersAt 4 1 (some .int) (fun ad => [.ref (ad o0), .int i1]) σ k := by
  refine CI.of (lv := fun ad => [(0, .ref (ad o0)), (1, .int i1)]) (by decide) (fun _ => Nat.le_of_ble_eq_true rfl) (fun _ => rfl) (fun κ hc => ?_)
  show Wd κ 4 (QI κ k) 0 [(0, aK κ o0), (1, .int i1)] [] σ
  unfold x5_callersAt at h
  refine r_iconst (v := 0) hc dX5_callersAt_0 (by decide) ?_
  refine r_istore_n (lv' := [(2, .int 0), (0, aK κ o0), (1, .int i1)]) hc dX5_callersAt_1 (by decide) rfl ?_
  refine r_iconst (v := 0) hc dX5_callersAt_2 (by decide) ?_
  refine r_istore_n (lv' := [(3, .int 0), (2, .int 0), (0, aK κ o0), (1, .int i1)]) hc dX5_callersAt_3 (by decide) rfl ?_
  refine r_sub [2, 3, 1, 0] rfl ?_
  obtain ⟨n0, h⟩ := h
  exact u5_callersAt_4 hc (ho0) n0 _ _ _ h
set_option maxRecDepth 100000 in
set_option maxHeartbeats 4000000 in
theorem u2_weigh_31 {κ : KT} {k : St → Prop} {o1 : Nat} {i2 : Int32} {i3 : Int32} {R11 : Int32 → St → Prop}  (hc : Cx κ cX2_weigh 7 RX2 4 none) (ho1 : kd o1 = 5) (hR11 : ∀ (i4 : Int32) (σ : St), R11 i4 σ → Wd κ 7 (QV κ k) 11 [(0, aK κ 61), (1, aK κ o1), (2, .int i2), (3, .int i3), (4, .int i4)] [] σ) : ∀ (n : Nat) (i4 : Int32) (i5 : Int32) (i6 : Int32) (σ : St), x2_weigh_31 o1 i2 i3 R11 k n i4 i5 i6 σ → Wd κ 7 (QV κ k) 31 [(0, aK κ 61), (1, aK κ o1), (2, .int i2), (3, .int i3), (4, .int i4), (5, .int i5), (6, .int i6)] [] σ := by
  intro n
  induction n with
  | zero => intro i4 i5 i6 σ h; exact h.elim
  | succ n ih =>
    intro i4 i5 i6 σ h
    unfold x2_weigh_31 at h
    refine r_iload 6 hc dX2_weigh_31 rfl ?_
    refine r_iconst (v := 2) hc dX2_weigh_33 (by decide) ?_
    refine r_icmp_ge 71 hc dX2_weigh_34 (by decide) h (fun h => ?_) (fun h => ?_)
    · refine r_iinc (v := 1) (lv' := [(4, .int (i4 + 1)), (0, aK κ 61), (1, aK κ o1), (2, .int i2), (3, .int i3), (5, .int i5), (6, .int i6)]) 4 hc dX2_weigh_71 rfl (by decide) (by decide) rfl ?_
      refine r_goto 11 hc dX2_weigh_74 (by decide) ?_
      refine r_sub [1, 2, 3, 4, 0] rfl ?_
      exact hR11 _ _ h
    · refine r_aload_n 0 hc dX2_weigh_37 rfl ?_
      refine r_get (K := 2) (f := 0) hc dX2_weigh_38 fX2_9 inX2 rfl rfl (by decide) (by decide) rfl rfl ?_
      refine r_iconst (v := 2) hc dX2_weigh_41 (by decide) ?_
      refine r_iload 4 hc dX2_weigh_42 rfl ?_
      refine r_imul hc dX2_weigh_44 ?_
      refine r_iload 6 hc dX2_weigh_45 rfl ?_
      refine r_iadd hc dX2_weigh_47 ?_
      refine r_aload_n 1 hc dX2_weigh_48 rfl ?_
      refine r_iload 4 hc dX2_weigh_49 rfl ?_
      refine r_iload 6 hc dX2_weigh_51 rfl ?_
      refine r_iload_n 2 hc dX2_weigh_53 rfl ?_
      refine r_iload 5 hc dX2_weigh_54 rfl ?_
      refine r_iand hc dX2_weigh_56 ?_
      refine r_iload_n 3 hc dX2_weigh_57 rfl ?_
      refine r_iload 5 hc dX2_weigh_58 rfl ?_
      refine r_iand hc dX2_weigh_60 ?_
      refine r_csI [aK κ o1, .int i4, .int i6, .int (i2 &&& i5), .int (i3 &&& i5)] hc dX2_weigh_61 cX2_32 (t2_cheapestAt ho1 h) rfl rfl rfl (Nat.le_of_ble_eq_true rfl) (by decide) (by decide) (fun r4 σ5 h => ?_)
      refine r_iast hc dX2_weigh_64 rfl h (fun h => ?_)
      refine r_nmS h (fun σ6 h => ?_)
      refine r_iinc (v := 1) (lv' := [(6, .int (i6 + 1)), (0, aK κ 61), (1, aK κ o1), (2, .int i2), (3, .int i3), (4, .int i4), (5, .int i5)]) 6 hc dX2_weigh_65 rfl (by decide) (by decide) rfl ?_
      refine r_goto 31 hc dX2_weigh_68 (by decide) ?_
      refine r_sub [1, 2, 3, 4, 5, 6, 0] rfl ?_
      exact ih _ _ _ _ h
set_option maxRecDepth 100000 in
set_option maxHeartbeats 4000000 in
theorem u2_weigh_11 {κ : KT} {k : St → Prop} {o1 : Nat} {i2 : Int32} {i3 : Int32}   (hc : Cx κ cX2_weigh 7 RX2 4 none) (ho1 : kd o1 = 5)  : ∀ (n : Nat) (i4 : Int32) (σ : St), x2_weigh_11 o1 i2 i3 k n i4 σ → Wd κ 7 (QV κ k) 11 [(0, aK κ 61), (1, aK κ o1), (2, .int i2), (3, .int i3), (4, .int i4)] [] σ := by
  intro n
  induction n with
  | zero => intro i4 σ h; exact h.elim
  | succ n ih =>
    intro i4 σ h
    unfold x2_weigh_11 at h
    refine r_iload 4 hc dX2_weigh_11 rfl ?_
    refine r_aload_n 0 hc dX2_weigh_13 rfl ?_
    refine r_get (K := 2) (f := 1) hc dX2_weigh_14 fX2_15 inX2 rfl rfl (by decide) (by decide) rfl rfl ?_
    refine r_icmp_ge 77 hc dX2_weigh_17 (by decide) h (fun h => ?_) (fun h => ?_)
    · exact r_vret hc dX2_weigh_77 h
    · refine r_aload_n 1 hc dX2_weigh_20 rfl ?_
      refine r_iload 4 hc dX2_weigh_21 rfl ?_
      refine r_cvI [.int i4] hc dX2_weigh_23 cX2_28 (t5_callersAt ho1 h) rfl (by decide) ho1 rfl rfl rfl (Nat.le_of_ble_eq_true rfl) (by decide) (by decide) (fun r2 σ3 h => ?_)
      refine r_istore (lv' := [(5, .int r2), (0, aK κ 61), (1, aK κ o1), (2, .int i2), (3, .int i3), (4, .int i4)]) hc dX2_weigh_26 (by decide) rfl ?_
      refine r_iconst (v := 0) hc dX2_weigh_28 (by decide) ?_
      refine r_istore (lv' := [(6, .int 0), (5, .int r2), (0, aK κ 61), (1, aK κ o1), (2, .int i2), (3, .int i3), (4, .int i4)]) hc dX2_weigh_29 (by decide) rfl ?_
      refine r_sub [2, 3, 4, 5, 6, 1, 0] rfl ?_
      obtain ⟨n0, h⟩ := h
      exact u2_weigh_31 hc (ho1) ih n0 _ _ _ _ h
set_option maxRecDepth 100000 in
set_option maxHeartbeats 4000000 in
theorem t2_weigh {l : Launch} {o1 : Nat} {i2 : Int32} {i3 : Int32} {σ : St} {k : St → Prop} (ho1 : kd o1 = 5) (h : x2_weigh o1 i2 i3 σ k) : CV l yX2_weigh cX2_weigh 7 4 none (fun ad => [.ref (ad 61), .ref (ad o1), .int i2, .int i3]) σ k := by
  refine CV.of (lv := fun ad => [(0, .ref (ad 61)), (1, .ref (ad o1)), (2, .int i2), (3, .int i3)]) (by decide) (fun _ => Nat.le_of_ble_eq_true rfl) (fun _ => rfl) (fun κ hc => ?_)
  show Wd κ 7 (QV κ k) 0 [(0, aK κ 61), (1, aK κ o1), (2, .int i2), (3, .int i3)] [] σ
  unfold x2_weigh at h
  refine r_aload_n 0 hc dX2_weigh_0 rfl ?_
  refine r_aload_n 1 hc dX2_weigh_1 rfl ?_
  refine r_get (K := 5) (f := 8) hc dX2_weigh_2 fX2_25 inX5 rfl rfl (by decide) (by decide) ho1 rfl ?_
  refine r_put (K := 2) (f := 1) hc dX2_weigh_5 fX2_15 inX2 tyX2_ok nmX2 rfl rfl rfl rfl (by decide) (by decide) rfl rfl ?_
  refine r_nmS h (fun σ1 h => ?_)
  refine r_iconst (v := 0) hc dX2_weigh_8 (by decide) ?_
  refine r_istore (lv' := [(4, .int 0), (0, aK κ 61), (1, aK κ o1), (2, .int i2), (3, .int i3)]) hc dX2_weigh_9 (by decide) rfl ?_
  refine r_sub [1, 2, 3, 4, 0] rfl ?_
  obtain ⟨n0, h⟩ := h
  exact u2_weigh_11 hc (ho1) n0 _ _ h
set_option maxRecDepth 100000 in
set_option maxHeartbeats 4000000 in
theorem t3_fail {l : Launch} {i1 : Int32} {σ : St} {k : Int32 → St → Prop}  (h : x3_fail i1 σ k) : CI l yX3_fail cX3_fail 2 1 (some .boolean) (fun ad => [.ref (ad 55), .int i1]) σ k := by
  refine CI.of (lv := fun ad => [(0, .ref (ad 55)), (1, .int i1)]) (by decide) (fun _ => Nat.le_of_ble_eq_true rfl) (fun _ => rfl) (fun κ hc => ?_)
  show Wd κ 2 (QI κ k) 0 [(0, aK κ 55), (1, .int i1)] [] σ
  unfold x3_fail at h
  refine r_aload_n 0 hc dX3_fail_0 rfl ?_
  refine r_aload_n 0 hc dX3_fail_1 rfl ?_
  refine r_get (K := 3) (f := 2) hc dX3_fail_2 fX3_19 inX3 rfl rfl (by decide) (by decide) rfl rfl ?_
  refine r_put (K := 3) (f := 3) hc dX3_fail_5 fX3_22 inX3 tyX3_ok nmX3 rfl rfl rfl rfl (by decide) (by decide) rfl rfl ?_
  refine r_nmS h (fun σ1 h => ?_)
  refine r_aload_n 0 hc dX3_fail_8 rfl ?_
  refine r_iload_n 1 hc dX3_fail_9 rfl ?_
  refine r_put (K := 3) (f := 4) hc dX3_fail_10 fX3_25 inX3 tyX3_ok nmX3 rfl rfl rfl rfl (by decide) (by decide) rfl rfl ?_
  refine r_nmS h (fun σ2 h => ?_)
  refine r_iconst (v := 0) hc dX3_fail_13 (by decide) ?_
  exact r_zret hc dX3_fail_14 h
set_option maxRecDepth 100000 in
set_option maxHeartbeats 4000000 in
theorem u3_isFigure_17 {κ : KT} {k : Int32 → St → Prop} {i0 : Int32}  {s0 : Int32} {σ : St}  (hc : Cx κ cX3_isFigure 1 RX3 1 (some .boolean))    (h : x3_isFigure_17 i0 s0 σ k) : Wd κ 1 (QI κ k) 17 [(0, .int i0)] [.int s0] σ := by
  unfold x3_isFigure_17 at h
  exact r_zret hc dX3_isFigure_17 h
set_option maxRecDepth 100000 in
set_option maxHeartbeats 4000000 in
theorem u3_isFigure_16 {κ : KT} {k : Int32 → St → Prop} {i0 : Int32}   {σ : St}  (hc : Cx κ cX3_isFigure 1 RX3 1 (some .boolean))    (h : x3_isFigure_16 i0 σ k) : Wd κ 1 (QI κ k) 16 [(0, .int i0)] [] σ := by
  unfold x3_isFigure_16 at h
  refine r_iconst (v := 0) hc dX3_isFigure_16 (by decide) ?_
  exact u3_isFigure_17 hc h
set_option maxRecDepth 100000 in
set_option maxHeartbeats 4000000 in
theorem t3_isFigure {l : Launch} {i0 : Int32} {σ : St} {k : Int32 → St → Prop}  (h : x3_isFigure i0 σ k) : CI l yX3_isFigure cX3_isFigure 1 1 (some .boolean) (fun ad => [.int i0]) σ k := by
  refine CI.of (lv := fun ad => [(0, .int i0)]) (by decide) (fun _ => Nat.le_of_ble_eq_true rfl) (fun _ => rfl) (fun κ hc => ?_)
  show Wd κ 1 (QI κ k) 0 [(0, .int i0)] [] σ
  unfold x3_isFigure at h
  refine r_iload_n 0 hc dX3_isFigure_0 rfl ?_
  refine r_bipush (v := 48) hc dX3_isFigure_1 (by decide) ?_
  refine r_icmp_lt 16 hc dX3_isFigure_3 (by decide) h (fun h => ?_) (fun h => ?_)
  · exact u3_isFigure_16 hc h
  · refine r_iload_n 0 hc dX3_isFigure_6 rfl ?_
    refine r_bipush (v := 57) hc dX3_isFigure_7 (by decide) ?_
    refine r_icmp_gt 16 hc dX3_isFigure_9 (by decide) h (fun h => ?_) (fun h => ?_)
    · exact u3_isFigure_16 hc h
    · refine r_iconst (v := 1) hc dX3_isFigure_12 (by decide) ?_
      refine r_goto 17 hc dX3_isFigure_13 (by decide) ?_
      exact u3_isFigure_17 hc h
set_option maxRecDepth 100000 in
set_option maxHeartbeats 4000000 in
theorem t3_kindOfSort {l : Launch} {i0 : Int32} {σ : St} {k : Int32 → St → Prop}  (h : x3_kindOfSort i0 σ k) : CI l yX3_kindOfSort cX3_kindOfSort 1 1 (some .int) (fun ad => [.int i0]) σ k := by
  refine CI.of (lv := fun ad => [(0, .int i0)]) (by decide) (fun _ => Nat.le_of_ble_eq_true rfl) (fun _ => rfl) (fun κ hc => ?_)
  show Wd κ 1 (QI κ k) 0 [(0, .int i0)] [] σ
  unfold x3_kindOfSort at h
  refine r_iload_n 0 hc dX3_kindOfSort_0 rfl ?_
  by_cases hq1_0 : i0 = 98
  · rw [if_pos hq1_0] at h
    refine r_lsw (off := 55) 56 hc dX3_kindOfSort_1 (by decide) (by rw [hq1_0]; decide +kernel) (by decide) ?_
    refine r_iconst (v := 3) hc dX3_kindOfSort_56 (by decide) ?_
    exact r_iret hc dX3_kindOfSort_57 h
  · rw [if_neg hq1_0] at h
    by_cases hq1_1 : i0 = 107
    · rw [if_pos hq1_1] at h
      refine r_lsw (off := 59) 60 hc dX3_kindOfSort_1 (by decide) (by rw [hq1_1]; decide +kernel) (by decide) ?_
      refine r_iconst (v := 5) hc dX3_kindOfSort_60 (by decide) ?_
      exact r_iret hc dX3_kindOfSort_61 h
    · rw [if_neg hq1_1] at h
      by_cases hq1_2 : i0 = 108
      · rw [if_pos hq1_2] at h
        refine r_lsw (off := 53) 54 hc dX3_kindOfSort_1 (by decide) (by rw [hq1_2]; decide +kernel) (by decide) ?_
        refine r_iconst (v := 2) hc dX3_kindOfSort_54 (by decide) ?_
        exact r_iret hc dX3_kindOfSort_55 h
      · rw [if_neg hq1_2] at h
        by_cases hq1_3 : i0 = 112
        · rw [if_pos hq1_3] at h
          refine r_lsw (off := 57) 58 hc dX3_kindOfSort_1 (by decide) (by rw [hq1_3]; decide +kernel) (by decide) ?_
          refine r_iconst (v := 4) hc dX3_kindOfSort_58 (by decide) ?_
          exact r_iret hc dX3_kindOfSort_59 h
        · rw [if_neg hq1_3] at h
          by_cases hq1_4 : i0 = 117
          · rw [if_pos hq1_4] at h
            refine r_lsw (off := 51) 52 hc dX3_kindOfSort_1 (by decide) (by rw [hq1_4]; decide +kernel) (by decide) ?_
            refine r_iconst (v := 1) hc dX3_kindOfSort_52 (by decide) ?_
            exact r_iret hc dX3_kindOfSort_53 h
          · rw [if_neg hq1_4] at h
            refine r_lsw (off := 61) 62 hc dX3_kindOfSort_1 (by decide) (by show Op.lookupswitch.offset [(98, 55), (107, 59), (108, 53), (112, 57), (117, 51)] 61 _ = _; rw [lv_osw hq1_0 (by decide), lv_osw hq1_1 (by decide), lv_osw hq1_2 (by decide), lv_osw hq1_3 (by decide), lv_osw hq1_4 (by decide)]; rfl) (by decide) ?_
            refine r_iconst (v := 0) hc dX3_kindOfSort_62 (by decide) ?_
            exact r_iret hc dX3_kindOfSort_63 h
set_option maxRecDepth 100000 in
set_option maxHeartbeats 4000000 in
theorem u3_nextIs_29 {κ : KT} {k : Int32 → St → Prop} {i1 : Int32}  {s0 : Int32} {σ : St}  (hc : Cx κ cX3_nextIs 2 RX3 1 (some .boolean))    (h : x3_nextIs_29 i1 s0 σ k) : Wd κ 2 (QI κ k) 29 [(0, aK κ 55), (1, .int i1)] [.int s0] σ := by
  unfold x3_nextIs_29 at h
  exact r_zret hc dX3_nextIs_29 h
set_option maxRecDepth 100000 in
set_option maxHeartbeats 4000000 in
theorem u3_nextIs_28 {κ : KT} {k : Int32 → St → Prop} {i1 : Int32}   {σ : St}  (hc : Cx κ cX3_nextIs 2 RX3 1 (some .boolean))    (h : x3_nextIs_28 i1 σ k) : Wd κ 2 (QI κ k) 28 [(0, aK κ 55), (1, .int i1)] [] σ := by
  unfold x3_nextIs_28 at h
  refine r_iconst (v := 0) hc dX3_nextIs_28 (by decide) ?_
  exact u3_nextIs_29 hc h
set_option maxRecDepth 100000 in
set_option maxHeartbeats 4000000 in
theorem t3_nextIs {l : Launch} {i1 : Int32} {σ : St} {k : Int32 → St → Prop}  (h : x3_nextIs i1 σ k) : CI l yX3_nextIs cX3_nextIs 2 1 (some .boolean) (fun ad => [.ref (ad 55), .int i1]) σ k := by
  refine CI.of (lv := fun ad => [(0, .ref (ad 55)), (1, .int i1)]) (by decide) (fun _ => Nat.le_of_ble_eq_true rfl) (fun _ => rfl) (fun κ hc => ?_)
  show Wd κ 2 (QI κ k) 0 [(0, aK κ 55), (1, .int i1)] [] σ
  unfold x3_nextIs at h
  refine r_aload_n 0 hc dX3_nextIs_0 rfl ?_
  refine r_get (K := 3) (f := 2) hc dX3_nextIs_1 fX3_19 inX3 rfl rfl (by decide) (by decide) rfl rfl ?_
  refine r_aload_n 0 hc dX3_nextIs_4 rfl ?_
  refine r_get (K := 3) (f := 1) hc dX3_nextIs_5 fX3_15 inX3 rfl rfl (by decide) (by decide) rfl rfl ?_
  refine r_icmp_ge 28 hc dX3_nextIs_8 (by decide) h (fun h => ?_) (fun h => ?_)
  · exact u3_nextIs_28 hc h
  · refine r_aload_n 0 hc dX3_nextIs_11 rfl ?_
    refine r_get (K := 3) (f := 0) hc dX3_nextIs_12 fX3_9 inX3 rfl rfl (by decide) (by decide) rfl rfl ?_
    refine r_aload_n 0 hc dX3_nextIs_15 rfl ?_
    refine r_get (K := 3) (f := 2) hc dX3_nextIs_16 fX3_19 inX3 rfl rfl (by decide) (by decide) rfl rfl ?_
    refine r_iald hc dX3_nextIs_19 rfl h (fun h => ?_)
    refine r_iload_n 1 hc dX3_nextIs_20 rfl ?_
    refine r_icmp_ne 28 hc dX3_nextIs_21 (by decide) h (fun h => ?_) (fun h => ?_)
    · refine r_iconst (v := 1) hc dX3_nextIs_24 (by decide) ?_
      refine r_goto 29 hc dX3_nextIs_25 (by decide) ?_
      exact u3_nextIs_29 hc h
    · exact u3_nextIs_28 hc h
set_option maxRecDepth 100000 in
set_option maxHeartbeats 4000000 in
theorem u3_readNumber_109 {κ : KT} {k : Int32 → St → Prop} {i1 : Int32} {i2 : Int32}  {s1 : Int32} {σ : St}  (hc : Cx κ cX3_readNumber 6 RX3 2 (some .int))    (h : x3_readNumber_109 i1 i2 s1 σ k) : Wd κ 6 (QI κ k) 109 [(0, aK κ 55), (1, .int i1), (2, .int i2)] [.int s1, aK κ 55] σ := by
  unfold x3_readNumber_109 at h
  refine r_cvI [.int s1] hc dX3_readNumber_109 cX3_61 (t3_fail h) rfl (by decide) rfl rfl rfl rfl (Nat.le_of_ble_eq_true rfl) (by decide) (by decide) (fun r2 σ3 h => ?_)
  refine r_pop hc dX3_readNumber_112 rfl ?_
  refine r_iconst (v := (-1)) hc dX3_readNumber_113 (by decide) ?_
  exact r_iret hc dX3_readNumber_114 h
set_option maxRecDepth 100000 in
set_option maxHeartbeats 4000000 in
theorem u3_readNumber_98 {κ : KT} {k : Int32 → St → Prop} {i1 : Int32} {i2 : Int32}  {i5 : Int32} {σ : St}  (hc : Cx κ cX3_readNumber 6 RX3 2 (some .int))    (h : x3_readNumber_98 i1 i2 i5 σ k) : Wd κ 6 (QI κ k) 98 [(0, aK κ 55), (1, .int i1), (2, .int i2), (5, .int i5)] [] σ := by
  unfold x3_readNumber_98 at h
  refine r_aload_n 0 hc dX3_readNumber_98 rfl ?_
  refine r_iload 3 hc dX3_readNumber_99 rfl ?_
  refine r_if_eq 108 hc dX3_readNumber_101 (by decide) h (fun h => ?_) (fun h => ?_)
  · refine r_iconst (v := 1) hc dX3_readNumber_108 (by decide) ?_
    refine r_sub [0, 1, 2] rfl ?_
    exact u3_readNumber_109 hc h
  · refine r_iconst (v := 2) hc dX3_readNumber_104 (by decide) ?_
    refine r_goto 109 hc dX3_readNumber_105 (by decide) ?_
    refine r_sub [0, 1, 2] rfl ?_
    exact u3_readNumber_109 hc h
set_option maxRecDepth 100000 in
set_option maxHeartbeats 4000000 in
theorem u3_readNumber_81 {κ : KT} {k : Int32 → St → Prop} {i1 : Int32} {i2 : Int32}  {i3 : Int32} {i4 : Int32} {s0 : Int32} {σ : St}  (hc : Cx κ cX3_readNumber 6 RX3 2 (some .int))    (h : x3_readNumber_81 i1 i2 i3 i4 s0 σ k) : Wd κ 6 (QI κ k) 81 [(0, aK κ 55), (1, .int i1), (2, .int i2), (3, .int i3), (4, .int i4)] [.int s0] σ := by
  unfold x3_readNumber_81 at h
  refine r_istore (lv' := [(5, .int s0), (0, aK κ 55), (1, .int i1), (2, .int i2), (3, .int i3), (4, .int i4)]) hc dX3_readNumber_81 (by decide) rfl ?_
  refine r_iload 0 hc dX3_readNumber_83 rfl ?_
  refine r_if_eq 98 hc dX3_readNumber_85 (by decide) h (fun h => ?_) (fun h => ?_)
  · refine r_sub [1, 2, 3, 0] rfl ?_
    exact u3_readNumber_98 hc h
  · refine r_iload_n 4 hc dX3_readNumber_88 rfl ?_
    refine r_iload_n 2 hc dX3_readNumber_89 rfl ?_
    refine r_icmp_lt 98 hc dX3_readNumber_90 (by decide) h (fun h => ?_) (fun h => ?_)
    · refine r_sub [1, 2, 3, 0] rfl ?_
      exact u3_readNumber_98 hc h
    · refine r_iload_n 4 hc dX3_readNumber_93 rfl ?_
      refine r_iload_n 3 hc dX3_readNumber_94 rfl ?_
      refine r_icmp_le 115 hc dX3_readNumber_95 (by decide) h (fun h => ?_) (fun h => ?_)
      · refine r_aload_n 1 hc dX3_readNumber_115 rfl ?_
        refine r_dup hc dX3_readNumber_116 rfl ?_
        refine r_get (K := 3) (f := 2) hc dX3_readNumber_117 fX3_19 inX3 rfl rfl (by decide) (by decide) rfl rfl ?_
        refine r_iload 5 hc dX3_readNumber_120 rfl ?_
        refine r_iadd hc dX3_readNumber_122 ?_
        refine r_put (K := 3) (f := 2) hc dX3_readNumber_123 fX3_19 inX3 tyX3_ok nmX3 rfl rfl rfl rfl (by decide) (by decide) rfl rfl ?_
        refine r_nmS h (fun σ4 h => ?_)
        refine r_iload_n 4 hc dX3_readNumber_126 rfl ?_
        exact r_iret hc dX3_readNumber_127 h
      · refine r_sub [1, 2, 3, 0] rfl ?_
        exact u3_readNumber_98 hc h
set_option maxRecDepth 100000 in
set_option maxHeartbeats 4000000 in
theorem u3_readNumber_76 {κ : KT} {k : Int32 → St → Prop} {i1 : Int32} {i2 : Int32}  {i3 : Int32} {i4 : Int32} {σ : St}  (hc : Cx κ cX3_readNumber 6 RX3 2 (some .int))    (h : x3_readNumber_76 i1 i2 i3 i4 σ k) : Wd κ 6 (QI κ k) 76 [(0, aK κ 55), (1, .int i1), (2, .int i2), (3, .int i3), (4, .int i4)] [] σ := by
  unfold x3_readNumber_76 at h
  refine r_iconst (v := 1) hc dX3_readNumber_76 (by decide) ?_
  refine r_goto 81 hc dX3_readNumber_77 (by decide) ?_
  exact u3_readNumber_81 hc h
set_option maxRecDepth 100000 in
set_option maxHeartbeats 4000000 in
theorem u3_readNumber_64 {κ : KT} {k : Int32 → St → Prop} {i1 : Int32} {i2 : Int32}  {i3 : Int32} {i4 : Int32} {σ : St}  (hc : Cx κ cX3_readNumber 6 RX3 2 (some .int))    (h : x3_readNumber_64 i1 i2 i3 i4 σ k) : Wd κ 6 (QI κ k) 64 [(0, aK κ 55), (1, .int i1), (2, .int i2), (3, .int i3), (4, .int i4)] [] σ := by
  unfold x3_readNumber_64 at h
  refine r_iload 4 hc dX3_readNumber_64 rfl ?_
  refine r_iconst (v := 1) hc dX3_readNumber_66 (by decide) ?_
  refine r_icmp_eq 76 hc dX3_readNumber_67 (by decide) h (fun h => ?_) (fun h => ?_)
  · exact u3_readNumber_76 hc h
  · refine r_iload 4 hc dX3_readNumber_70 rfl ?_
    refine r_iconst (v := 2) hc dX3_readNumber_72 (by decide) ?_
    refine r_icmp_ne 80 hc dX3_readNumber_73 (by decide) h (fun h => ?_) (fun h => ?_)
    · exact u3_readNumber_76 hc h
    · refine r_iconst (v := 0) hc dX3_readNumber_80 (by decide) ?_
      exact u3_readNumber_81 hc h
set_option maxRecDepth 100000 in
set_option maxHeartbeats 4000000 in
theorem u3_readNumber_11 {κ : KT} {k : Int32 → St → Prop} {i1 : Int32} {i2 : Int32}   (hc : Cx κ cX3_readNumber 6 RX3 2 (some .int))   : ∀ (n : Nat) (i3 : Int32) (i4 : Int32) (i5 : Int32) (σ : St), x3_readNumber_11 i1 i2 k n i3 i4 i5 σ → Wd κ 6 (QI κ k) 11 [(0, aK κ 55), (1, .int i1), (2, .int i2), (3, .int i3), (4, .int i4), (5, .int i5)] [] σ := by
  intro n
  induction n with
  | zero => intro i3 i4 i5 σ h; exact h.elim
  | succ n ih =>
    intro i3 i4 i5 σ h
    unfold x3_readNumber_11 at h
    refine r_iload 5 hc dX3_readNumber_11 rfl ?_
    refine r_aload_n 0 hc dX3_readNumber_13 rfl ?_
    refine r_get (K := 3) (f := 1) hc dX3_readNumber_14 fX3_15 inX3 rfl rfl (by decide) (by decide) rfl rfl ?_
    refine r_icmp_ge 64 hc dX3_readNumber_17 (by decide) h (fun h => ?_) (fun h => ?_)
    · refine r_sub [0, 1, 2, 3, 4] rfl ?_
      exact u3_readNumber_64 hc h
    · refine r_aload_n 0 hc dX3_readNumber_20 rfl ?_
      refine r_get (K := 3) (f := 0) hc dX3_readNumber_21 fX3_9 inX3 rfl rfl (by decide) (by decide) rfl rfl ?_
      refine r_iload 5 hc dX3_readNumber_24 rfl ?_
      refine r_iald hc dX3_readNumber_26 rfl h (fun h => ?_)
      refine r_csI [.int (σ 56 i5.toNatClampNeg)] hc dX3_readNumber_27 cX3_76 (t3_isFigure h) rfl rfl rfl (Nat.le_of_ble_eq_true rfl) (by decide) (by decide) (fun r5 σ6 h => ?_)
      refine r_if_eq 64 hc dX3_readNumber_30 (by decide) h (fun h => ?_) (fun h => ?_)
      · refine r_sub [0, 1, 2, 3, 4] rfl ?_
        exact u3_readNumber_64 hc h
      · refine r_iload 4 hc dX3_readNumber_33 rfl ?_
        refine r_iconst (v := 3) hc dX3_readNumber_35 (by decide) ?_
        refine r_icmp_ge 64 hc dX3_readNumber_36 (by decide) h (fun h => ?_) (fun h => ?_)
        · refine r_sub [0, 1, 2, 3, 4] rfl ?_
          exact u3_readNumber_64 hc h
        · refine r_bipush (v := 10) hc dX3_readNumber_39 (by decide) ?_
          refine r_iload_n 3 hc dX3_readNumber_41 rfl ?_
          refine r_imul hc dX3_readNumber_42 ?_
          refine r_aload_n 0 hc dX3_readNumber_43 rfl ?_
          refine r_get (K := 3) (f := 0) hc dX3_readNumber_44 fX3_9 inX3 rfl rfl (by decide) (by decide) rfl rfl ?_
          refine r_iload 5 hc dX3_readNumber_47 rfl ?_
          refine r_iald hc dX3_readNumber_49 rfl h (fun h => ?_)
          refine r_iadd hc dX3_readNumber_50 ?_
          refine r_bipush (v := 48) hc dX3_readNumber_51 (by decide) ?_
          refine r_isub hc dX3_readNumber_53 ?_
          refine r_nmI h (fun v7 h => ?_)
          refine r_istore_n (lv' := [(3, .int v7), (0, aK κ 55), (1, .int i1), (2, .int i2), (4, .int i4), (5, .int i5)]) hc dX3_readNumber_54 (by decide) rfl ?_
          refine r_iinc (v := 1) (lv' := [(4, .int (i4 + 1)), (3, .int v7), (0, aK κ 55), (1, .int i1), (2, .int i2), (5, .int i5)]) 4 hc dX3_readNumber_55 rfl (by decide) (by decide) rfl ?_
          refine r_iinc (v := 1) (lv' := [(5, .int (i5 + 1)), (4, .int (i4 + 1)), (3, .int v7), (0, aK κ 55), (1, .int i1), (2, .int i2)]) 5 hc dX3_readNumber_58 rfl (by decide) (by decide) rfl ?_
          refine r_goto 11 hc dX3_readNumber_61 (by decide) ?_
          refine r_sub [3, 4, 5, 2, 1, 0] rfl ?_
          exact ih _ _ _ _ h
set_option maxRecDepth 100000 in
set_option maxHeartbeats 4000000 in
theorem t3_readNumber {l : Launch} {i1 : Int32} {i2 : Int32} {σ : St} {k : Int32 → St → Prop}  (h : x3_readNumber i1 i2 σ k) : CI l yX3_readNumber cX3_readNumber 6 2 (some .int) (fun ad => [.ref (ad 55), .int i1, .int i2]) σ k := by
  refine CI.of (lv := fun ad => [(0, .ref (ad 55)), (1, .int i1), (2, .int i2)]) (by decide) (fun _ => Nat.le_of_ble_eq_true rfl) (fun _ => rfl) (fun κ hc => ?_)
  show Wd κ 6 (QI κ k) 0 [(0, aK κ 55), (1, .int i1), (2, .int i2)] [] σ
  unfold x3_readNumber at h
  refine r_iconst (v := 0) hc dX3_readNumber_0 (by decide) ?_
  refine r_istore_n (lv' := [(3, .int 0), (0, aK κ 55), (1, .int i1), (2, .int i2)]) hc dX3_readNumber_1 (by decide) rfl ?_
  refine r_iconst (v := 0) hc dX3_readNumber_2 (by decide) ?_
  refine r_istore (lv' := [(4, .int 0), (3, .int 0), (0, aK κ 55), (1, .int i1), (2, .int i2)]) hc dX3_readNumber_3 (by decide) rfl ?_
  refine r_aload_n 2 hc dX3_readNumber_5 rfl ?_
  refine r_get (K := 3) (f := 2) hc dX3_readNumber_6 fX3_19 inX3 rfl rfl (by decide) (by decide) rfl rfl ?_
  refine r_nmI h (fun v1 h => ?_)
  refine r_istore (lv' := [(5, .int v1), (4, .int 0), (3, .int 0), (0, aK κ 55), (1, .int i1), (2, .int i2)]) hc dX3_readNumber_9 (by decide) rfl ?_
  refine r_sub [3, 4, 5, 2, 1, 0] rfl ?_
  obtain ⟨n0, h⟩ := h
  exact u3_readNumber_11 hc n0 _ _ _ _ h
set_option maxRecDepth 100000 in
set_option maxHeartbeats 4000000 in
theorem t3_readSign {l : Launch} {i1 : Int32} {σ : St} {k : Int32 → St → Prop}  (h : x3_readSign i1 σ k) : CI l yX3_readSign cX3_readSign 2 2 (some .boolean) (fun ad => [.ref (ad 55), .int i1]) σ k := by
  refine CI.of (lv := fun ad => [(0, .ref (ad 55)), (1, .int i1)]) (by decide) (fun _ => Nat.le_of_ble_eq_true rfl) (fun _ => rfl) (fun κ hc => ?_)
  show Wd κ 2 (QI κ k) 0 [(0, aK κ 55), (1, .int i1)] [] σ
  unfold x3_readSign at h
  refine r_aload_n 0 hc dX3_readSign_0 rfl ?_
  refine r_iload_n 1 hc dX3_readSign_1 rfl ?_
  refine r_cvI [.int i1] hc dX3_readSign_2 cX3_40 (t3_nextIs h) rfl (by decide) rfl rfl rfl rfl (Nat.le_of_ble_eq_true rfl) (by decide) (by decide) (fun r1 σ2 h => ?_)
  refine r_if_ne 14 hc dX3_readSign_5 (by decide) h (fun h => ?_) (fun h => ?_)
  · refine r_aload_n 0 hc dX3_readSign_8 rfl ?_
    refine r_iconst (v := 1) hc dX3_readSign_9 (by decide) ?_
    refine r_cvI [.int 1] hc dX3_readSign_10 cX3_61 (t3_fail h) rfl (by decide) rfl rfl rfl rfl (Nat.le_of_ble_eq_true rfl) (by decide) (by decide) (fun r3 σ4 h => ?_)
    exact r_zret hc dX3_readSign_13 h
  · refine r_aload_n 0 hc dX3_readSign_14 rfl ?_
    refine r_dup hc dX3_readSign_15 rfl ?_
    refine r_get (K := 3) (f := 2) hc dX3_readSign_16 fX3_19 inX3 rfl rfl (by decide) (by decide) rfl rfl ?_
    refine r_iconst (v := 1) hc dX3_readSign_19 (by decide) ?_
    refine r_iadd hc dX3_readSign_20 ?_
    refine r_put (K := 3) (f := 2) hc dX3_readSign_21 fX3_19 inX3 tyX3_ok nmX3 rfl rfl rfl rfl (by decide) (by decide) rfl rfl ?_
    refine r_nmS h (fun σ5 h => ?_)
    refine r_iconst (v := 1) hc dX3_readSign_24 (by decide) ?_
    exact r_zret hc dX3_readSign_25 h
set_option maxRecDepth 100000 in
set_option maxHeartbeats 4000000 in
theorem t5_addCaller {l : Launch} {o0 : Nat} {i1 : Int32} {i2 : Int32} {i3 : Int32} {σ : St} {k : St → Prop} (ho0 : kd o0 = 5) (h : x5_addCaller o0 i1 i2 i3 σ k) : CV l yX5_addCaller cX5_addCaller 4 1 none (fun ad => [.ref (ad o0), .int i1, .int i2, .int i3]) σ k := by
  refine CV.of (lv := fun ad => [(0, .ref (ad o0)), (1, .int i1), (2, .int i2), (3, .int i3)]) (by decide) (fun _ => Nat.le_of_ble_eq_true rfl) (fun _ => rfl) (fun κ hc => ?_)
  show Wd κ 4 (QV κ k) 0 [(0, aK κ o0), (1, .int i1), (2, .int i2), (3, .int i3)] [] σ
  unfold x5_addCaller at h
  refine r_aload_n 0 hc dX5_addCaller_0 rfl ?_
  refine r_get (K := 5) (f := 4) hc dX5_addCaller_1 fX5_24 inX5 rfl rfl (by decide) (by decide) ho0 rfl ?_
  refine r_aload_n 0 hc dX5_addCaller_4 rfl ?_
  refine r_get (K := 5) (f := 9) hc dX5_addCaller_5 fX5_40 inX5 rfl rfl (by decide) (by decide) ho0 rfl ?_
  refine r_iload_n 1 hc dX5_addCaller_8 rfl ?_
  refine r_iast hc dX5_addCaller_9 (k5_5 ho0) h (fun h => ?_)
  refine r_nmS h (fun σ1 h => ?_)
  refine r_aload_n 0 hc dX5_addCaller_10 rfl ?_
  refine r_get (K := 5) (f := 5) hc dX5_addCaller_11 fX5_27 inX5 rfl rfl (by decide) (by decide) ho0 rfl ?_
  refine r_aload_n 0 hc dX5_addCaller_14 rfl ?_
  refine r_get (K := 5) (f := 9) hc dX5_addCaller_15 fX5_40 inX5 rfl rfl (by decide) (by decide) ho0 rfl ?_
  refine r_iload_n 2 hc dX5_addCaller_18 rfl ?_
  refine r_iast hc dX5_addCaller_19 (k5_6 ho0) h (fun h => ?_)
  refine r_nmS h (fun σ2 h => ?_)
  refine r_aload_n 0 hc dX5_addCaller_20 rfl ?_
  refine r_get (K := 5) (f := 6) hc dX5_addCaller_21 fX5_30 inX5 rfl rfl (by decide) (by decide) ho0 rfl ?_
  refine r_aload_n 0 hc dX5_addCaller_24 rfl ?_
  refine r_get (K := 5) (f := 9) hc dX5_addCaller_25 fX5_40 inX5 rfl rfl (by decide) (by decide) ho0 rfl ?_
  refine r_iload_n 3 hc dX5_addCaller_28 rfl ?_
  refine r_iast hc dX5_addCaller_29 (k5_7 ho0) h (fun h => ?_)
  refine r_nmS h (fun σ3 h => ?_)
  refine r_aload_n 0 hc dX5_addCaller_30 rfl ?_
  refine r_get (K := 5) (f := 7) hc dX5_addCaller_31 fX5_33 inX5 rfl rfl (by decide) (by decide) ho0 rfl ?_
  refine r_aload_n 0 hc dX5_addCaller_34 rfl ?_
  refine r_get (K := 5) (f := 9) hc dX5_addCaller_35 fX5_40 inX5 rfl rfl (by decide) (by decide) ho0 rfl ?_
  refine r_iconst (v := 0) hc dX5_addCaller_38 (by decide) ?_
  refine r_iast hc dX5_addCaller_39 (k5_8 ho0) h (fun h => ?_)
  refine r_nmS h (fun σ4 h => ?_)
  refine r_aload_n 0 hc dX5_addCaller_40 rfl ?_
  refine r_dup hc dX5_addCaller_41 rfl ?_
  refine r_get (K := 5) (f := 9) hc dX5_addCaller_42 fX5_40 inX5 rfl rfl (by decide) (by decide) ho0 rfl ?_
  refine r_iconst (v := 1) hc dX5_addCaller_45 (by decide) ?_
  refine r_iadd hc dX5_addCaller_46 ?_
  refine r_put (K := 5) (f := 9) hc dX5_addCaller_47 fX5_40 inX5 tyX5_ok nmX5 rfl rfl rfl rfl (by decide) (by decide) ho0 rfl ?_
  refine r_nmS h (fun σ5 h => ?_)
  exact r_vret hc dX5_addCaller_50 h
set_option maxRecDepth 100000 in
set_option maxHeartbeats 4000000 in
theorem u3_readCaller_88 {κ : KT} {k : Int32 → St → Prop} {o1 : Nat}   {σ : St}  (hc : Cx κ cX3_readCaller 5 RX3 3 (some .boolean)) (ho1 : kd o1 = 5)   (h : x3_readCaller_88 o1 σ k) : Wd κ 5 (QI κ k) 88 [(0, aK κ 55), (1, aK κ o1)] [] σ := by
  unfold x3_readCaller_88 at h
  refine r_iconst (v := 0) hc dX3_readCaller_88 (by decide) ?_
  exact r_zret hc dX3_readCaller_89 h
set_option maxRecDepth 100000 in
set_option maxHeartbeats 4000000 in
theorem u3_readCaller_113 {κ : KT} {k : Int32 → St → Prop} {o1 : Nat}   {σ : St}  (hc : Cx κ cX3_readCaller 5 RX3 3 (some .boolean)) (ho1 : kd o1 = 5)   (h : x3_readCaller_113 o1 σ k) : Wd κ 5 (QI κ k) 113 [(0, aK κ 55), (1, aK κ o1)] [] σ := by
  unfold x3_readCaller_113 at h
  refine r_iconst (v := 0) hc dX3_readCaller_113 (by decide) ?_
  exact r_zret hc dX3_readCaller_114 h
set_option maxRecDepth 100000 in
set_option maxHeartbeats 4000000 in
theorem u3_readCaller_27 {κ : KT} {k : Int32 → St → Prop} {o1 : Nat}  {s0 : Int32} {σ : St}  (hc : Cx κ cX3_readCaller 5 RX3 3 (some .boolean)) (ho1 : kd o1 = 5)   (h : x3_readCaller_27 o1 s0 σ k) : Wd κ 5 (QI κ k) 27 [(0, aK κ 55), (1, aK κ o1)] [.int s0] σ := by
  unfold x3_readCaller_27 at h
  refine r_istore_n (lv' := [(2, .int s0), (0, aK κ 55), (1, aK κ o1)]) hc dX3_readCaller_27 (by decide) rfl ?_
  refine r_iload_n 0 hc dX3_readCaller_28 rfl ?_
  refine r_if_ne 38 hc dX3_readCaller_29 (by decide) h (fun h => ?_) (fun h => ?_)
  · refine r_aload_n 1 hc dX3_readCaller_32 rfl ?_
    refine r_iconst (v := 1) hc dX3_readCaller_33 (by decide) ?_
    refine r_cvI [.int 1] hc dX3_readCaller_34 cX3_61 (t3_fail h) rfl (by decide) rfl rfl rfl rfl (Nat.le_of_ble_eq_true rfl) (by decide) (by decide) (fun r1 σ2 h => ?_)
    exact r_zret hc dX3_readCaller_37 h
  · refine r_aload_n 2 hc dX3_readCaller_38 rfl ?_
    refine r_get (K := 5) (f := 9) hc dX3_readCaller_39 fX3_35 inX5 rfl rfl (by decide) (by decide) ho1 rfl ?_
    refine r_bipush (v := 6) hc dX3_readCaller_42 (by decide) ?_
    refine r_icmp_lt 53 hc dX3_readCaller_44 (by decide) h (fun h => ?_) (fun h => ?_)
    · refine r_aload_n 1 hc dX3_readCaller_53 rfl ?_
      refine r_dup hc dX3_readCaller_54 rfl ?_
      refine r_get (K := 3) (f := 2) hc dX3_readCaller_55 fX3_19 inX3 rfl rfl (by decide) (by decide) rfl rfl ?_
      refine r_iconst (v := 1) hc dX3_readCaller_58 (by decide) ?_
      refine r_iadd hc dX3_readCaller_59 ?_
      refine r_put (K := 3) (f := 2) hc dX3_readCaller_60 fX3_19 inX3 tyX3_ok nmX3 rfl rfl rfl rfl (by decide) (by decide) rfl rfl ?_
      refine r_nmS h (fun σ3 h => ?_)
      refine r_aload_n 1 hc dX3_readCaller_63 rfl ?_
      refine r_iconst (v := 0) hc dX3_readCaller_64 (by decide) ?_
      refine r_aload_n 2 hc dX3_readCaller_65 rfl ?_
      refine r_get (K := 5) (f := 8) hc dX3_readCaller_66 fX3_58 inX5 rfl rfl (by decide) (by decide) ho1 rfl ?_
      refine r_iconst (v := 1) hc dX3_readCaller_69 (by decide) ?_
      refine r_isub hc dX3_readCaller_70 ?_
      refine r_cvI [.int 0, .int ((σ3 o1 8) - 1)] hc dX3_readCaller_71 cX3_50 (t3_readNumber h) rfl (by decide) rfl rfl rfl rfl (Nat.le_of_ble_eq_true rfl) (by decide) (by decide) (fun r4 σ5 h => ?_)
      refine r_istore_n (lv' := [(3, .int r4), (2, .int s0), (0, aK κ 55), (1, aK κ o1)]) hc dX3_readCaller_74 (by decide) rfl ?_
      refine r_iload_n 0 hc dX3_readCaller_75 rfl ?_
      refine r_if_lt 88 hc dX3_readCaller_76 (by decide) h (fun h => ?_) (fun h => ?_)
      · refine r_sub [2, 3] rfl ?_
        exact u3_readCaller_88 hc (ho1) h
      · refine r_aload_n 2 hc dX3_readCaller_79 rfl ?_
        refine r_bipush (v := 44) hc dX3_readCaller_80 (by decide) ?_
        refine r_cvI [.int 44] hc dX3_readCaller_82 cX3_47 (t3_readSign h) rfl (by decide) rfl rfl rfl rfl (Nat.le_of_ble_eq_true rfl) (by decide) (by decide) (fun r6 σ7 h => ?_)
        refine r_if_ne 90 hc dX3_readCaller_85 (by decide) h (fun h => ?_) (fun h => ?_)
        · refine r_sub [2, 3] rfl ?_
          exact u3_readCaller_88 hc (ho1) h
        · refine r_aload_n 2 hc dX3_readCaller_90 rfl ?_
          refine r_iconst (v := 0) hc dX3_readCaller_91 (by decide) ?_
          refine r_bipush (v := 20) hc dX3_readCaller_92 (by decide) ?_
          refine r_cvI [.int 0, .int 20] hc dX3_readCaller_94 cX3_50 (t3_readNumber h) rfl (by decide) rfl rfl rfl rfl (Nat.le_of_ble_eq_true rfl) (by decide) (by decide) (fun r8 σ9 h => ?_)
          refine r_istore (lv' := [(4, .int r8), (3, .int r4), (2, .int s0), (0, aK κ 55), (1, aK κ o1)]) hc dX3_readCaller_97 (by decide) rfl ?_
          refine r_iload 0 hc dX3_readCaller_99 rfl ?_
          refine r_if_lt 113 hc dX3_readCaller_101 (by decide) h (fun h => ?_) (fun h => ?_)
          · refine r_sub [3, 4] rfl ?_
            exact u3_readCaller_113 hc (ho1) h
          · refine r_aload_n 3 hc dX3_readCaller_104 rfl ?_
            refine r_bipush (v := 59) hc dX3_readCaller_105 (by decide) ?_
            refine r_cvI [.int 59] hc dX3_readCaller_107 cX3_47 (t3_readSign h) rfl (by decide) rfl rfl rfl rfl (Nat.le_of_ble_eq_true rfl) (by decide) (by decide) (fun r10 σ11 h => ?_)
            refine r_if_ne 115 hc dX3_readCaller_110 (by decide) h (fun h => ?_) (fun h => ?_)
            · refine r_sub [3, 4] rfl ?_
              exact u3_readCaller_113 hc (ho1) h
            · refine r_aload_n 4 hc dX3_readCaller_115 rfl ?_
              refine r_iload_n 2 hc dX3_readCaller_116 rfl ?_
              refine r_iload_n 1 hc dX3_readCaller_117 rfl ?_
              refine r_iload 0 hc dX3_readCaller_118 rfl ?_
              refine r_cvV [.int s0, .int r4, .int r8] hc dX3_readCaller_120 cX3_72 (t5_addCaller ho1 h) rfl (by decide) ho1 rfl rfl rfl (Nat.le_of_ble_eq_true rfl) (by decide) (by decide) (fun σ13 h => ?_)
              refine r_iconst (v := 1) hc dX3_readCaller_123 (by decide) ?_
              exact r_zret hc dX3_readCaller_124 h
    · refine r_aload_n 1 hc dX3_readCaller_47 rfl ?_
      refine r_iconst (v := 3) hc dX3_readCaller_48 (by decide) ?_
      refine r_cvI [.int 3] hc dX3_readCaller_49 cX3_61 (t3_fail h) rfl (by decide) rfl rfl rfl rfl (Nat.le_of_ble_eq_true rfl) (by decide) (by decide) (fun r14 σ15 h => ?_)
      exact r_zret hc dX3_readCaller_52 h
set_option maxRecDepth 100000 in
set_option maxHeartbeats 4000000 in
theorem t3_readCaller {l : Launch} {o1 : Nat} {σ : St} {k : Int32 → St → Prop} (ho1 : kd o1 = 5) (h : x3_readCaller o1 σ k) : CI l yX3_readCaller cX3_readCaller 5 3 (some .boolean) (fun ad => [.ref (ad 55), .ref (ad o1)]) σ k := by
  refine CI.of (lv := fun ad => [(0, .ref (ad 55)), (1, .ref (ad o1))]) (by decide) (fun _ => Nat.le_of_ble_eq_true rfl) (fun _ => rfl) (fun κ hc => ?_)
  show Wd κ 5 (QI κ k) 0 [(0, aK κ 55), (1, aK κ o1)] [] σ
  unfold x3_readCaller at h
  refine r_aload_n 0 hc dX3_readCaller_0 rfl ?_
  refine r_get (K := 3) (f := 2) hc dX3_readCaller_1 fX3_19 inX3 rfl rfl (by decide) (by decide) rfl rfl ?_
  refine r_aload_n 0 hc dX3_readCaller_4 rfl ?_
  refine r_get (K := 3) (f := 1) hc dX3_readCaller_5 fX3_15 inX3 rfl rfl (by decide) (by decide) rfl rfl ?_
  refine r_icmp_ge 26 hc dX3_readCaller_8 (by decide) h (fun h => ?_) (fun h => ?_)
  · refine r_iconst (v := 0) hc dX3_readCaller_26 (by decide) ?_
    exact u3_readCaller_27 hc (ho1) h
  · refine r_aload_n 0 hc dX3_readCaller_11 rfl ?_
    refine r_get (K := 3) (f := 0) hc dX3_readCaller_12 fX3_9 inX3 rfl rfl (by decide) (by decide) rfl rfl ?_
    refine r_aload_n 0 hc dX3_readCaller_15 rfl ?_
    refine r_get (K := 3) (f := 2) hc dX3_readCaller_16 fX3_19 inX3 rfl rfl (by decide) (by decide) rfl rfl ?_
    refine r_iald hc dX3_readCaller_19 rfl h (fun h => ?_)
    refine r_csI [.int (σ 56 (σ 55 2).toNatClampNeg)] hc dX3_readCaller_20 cX3_68 (t3_kindOfSort h) rfl rfl rfl (Nat.le_of_ble_eq_true rfl) (by decide) (by decide) (fun r16 σ17 h => ?_)
    refine r_goto 27 hc dX3_readCaller_23 (by decide) ?_
    exact u3_readCaller_27 hc (ho1) h
