set_option maxRecDepth 100000 in
set_option maxHeartbeats 4000000 in
theorem u5_hasDoor_17 {κ : KT} {k : Int32 → St → Prop} {o0 : Nat} {i1 : Int32}  {s0 : Int32} {σ : St}  (hc : Cx κ cX5_hasDoor 2 RX5 1 (some .boolean)) (ho0 : kd o0 = 5)   (h : x5_hasDoor_17 o0 i1 s0 σ k) : Wd κ 2 (QI κ k) 17 [(0, aK κ o0), (1, .int i1)] [.int s0] σ := by
  unfold x5_hasDoor_17 at h
  exact r_zret hc dX5_hasDoor_17 h
set_option maxRecDepth 100000 in
set_option maxHeartbeats 4000000 in
theorem u5_hasDoor_16 {κ : KT} {k : Int32 → St → Prop} {o0 : Nat} {i1 : Int32}   {σ : St}  (hc : Cx κ cX5_hasDoor 2 RX5 1 (some .boolean)) (ho0 : kd o0 = 5)   (h : x5_hasDoor_16 o0 i1 σ k) : Wd κ 2 (QI κ k) 16 [(0, aK κ o0), (1, .int i1)] [] σ := by
  unfold x5_hasDoor_16 at h
  refine r_iconst (v := 0) hc dX5_hasDoor_16 (by decide) ?_
  exact u5_hasDoor_17 hc (ho0) h
set_option maxRecDepth 100000 in
set_option maxHeartbeats 4000000 in
theorem t5_hasDoor {l : Launch} {o0 : Nat} {i1 : Int32} {σ : St} {k : Int32 → St → Prop} (ho0 : kd o0 = 5) (h : x5_hasDoor o0 i1 σ k) : CI l yX5_hasDoor cX5_hasDoor 2 1 (some .boolean) (fun ad => [.ref (ad o0), .int i1]) σ k := by
  refine CI.of (lv := fun ad => [(0, .ref (ad o0)), (1, .int i1)]) (by decide) (fun _ => Nat.le_of_ble_eq_true rfl) (fun _ => rfl) (fun κ hc => ?_)
  show Wd κ 2 (QI κ k) 0 [(0, aK κ o0), (1, .int i1)] [] σ
  unfold x5_hasDoor at h
  refine r_iload_n 1 hc dX5_hasDoor_0 rfl ?_
  refine r_if_lt 16 hc dX5_hasDoor_1 (by decide) h (fun h => ?_) (fun h => ?_)
  · exact u5_hasDoor_16 hc (ho0) h
  · refine r_iload_n 1 hc dX5_hasDoor_4 rfl ?_
    refine r_aload_n 0 hc dX5_hasDoor_5 rfl ?_
    refine r_get (K := 5) (f := 8) hc dX5_hasDoor_6 fX5_36 inX5 rfl rfl (by decide) (by decide) ho0 rfl ?_
    refine r_icmp_ge 16 hc dX5_hasDoor_9 (by decide) h (fun h => ?_) (fun h => ?_)
    · exact u5_hasDoor_16 hc (ho0) h
    · refine r_iconst (v := 1) hc dX5_hasDoor_12 (by decide) ?_
      refine r_goto 17 hc dX5_hasDoor_13 (by decide) ?_
      exact u5_hasDoor_17 hc (ho0) h
set_option maxRecDepth 100000 in
set_option maxHeartbeats 4000000 in
theorem u5_clearDoor_29 {κ : KT} {k : St → Prop} {o0 : Nat} {i1 : Int32}   {σ : St}  (hc : Cx κ cX5_clearDoor 2 RX5 2 none) (ho0 : kd o0 = 5)   (h : x5_clearDoor_29 o0 i1 σ k) : Wd κ 2 (QV κ k) 29 [(0, aK κ o0), (1, .int i1)] [] σ := by
  unfold x5_clearDoor_29 at h
  exact r_vret hc dX5_clearDoor_29 h
set_option maxRecDepth 100000 in
set_option maxHeartbeats 4000000 in
theorem t5_clearDoor {l : Launch} {o0 : Nat} {i1 : Int32} {σ : St} {k : St → Prop} (ho0 : kd o0 = 5) (h : x5_clearDoor o0 i1 σ k) : CV l yX5_clearDoor cX5_clearDoor 2 2 none (fun ad => [.ref (ad o0), .int i1]) σ k := by
  refine CV.of (lv := fun ad => [(0, .ref (ad o0)), (1, .int i1)]) (by decide) (fun _ => Nat.le_of_ble_eq_true rfl) (fun _ => rfl) (fun κ hc => ?_)
  show Wd κ 2 (QV κ k) 0 [(0, aK κ o0), (1, .int i1)] [] σ
  unfold x5_clearDoor at h
  refine r_aload_n 0 hc dX5_clearDoor_0 rfl ?_
  refine r_iload_n 1 hc dX5_clearDoor_1 rfl ?_
  refine r_cvI [.int i1] hc dX5_clearDoor_2 cX5_56 (t5_hasDoor ho0 h) rfl (by decide) ho0 rfl rfl rfl (Nat.le_of_ble_eq_true rfl) (by decide) (by decide) (fun r1 σ2 h => ?_)
  refine r_if_eq 29 hc dX5_clearDoor_5 (by decide) h (fun h => ?_) (fun h => ?_)
  · exact u5_clearDoor_29 hc (ho0) h
  · refine r_aload_n 0 hc dX5_clearDoor_8 rfl ?_
    refine r_get (K := 5) (f := 1) hc dX5_clearDoor_9 fX5_15 inX5 rfl rfl (by decide) (by decide) ho0 rfl ?_
    refine r_iload_n 1 hc dX5_clearDoor_12 rfl ?_
    refine r_iconst (v := 0) hc dX5_clearDoor_13 (by decide) ?_
    refine r_iast hc dX5_clearDoor_14 (k5_2 ho0) h (fun h => ?_)
    refine r_nmS h (fun σ3 h => ?_)
    refine r_aload_n 0 hc dX5_clearDoor_15 rfl ?_
    refine r_get (K := 5) (f := 2) hc dX5_clearDoor_16 fX5_18 inX5 rfl rfl (by decide) (by decide) ho0 rfl ?_
    refine r_iload_n 1 hc dX5_clearDoor_19 rfl ?_
    refine r_iconst (v := 0) hc dX5_clearDoor_20 (by decide) ?_
    refine r_iast hc dX5_clearDoor_21 (k5_3 ho0) h (fun h => ?_)
    refine r_nmS h (fun σ4 h => ?_)
    refine r_aload_n 0 hc dX5_clearDoor_22 rfl ?_
    refine r_get (K := 5) (f := 3) hc dX5_clearDoor_23 fX5_21 inX5 rfl rfl (by decide) (by decide) ho0 rfl ?_
    refine r_iload_n 1 hc dX5_clearDoor_26 rfl ?_
    refine r_iconst (v := 0) hc dX5_clearDoor_27 (by decide) ?_
    refine r_iast hc dX5_clearDoor_28 (k5_4 ho0) h (fun h => ?_)
    refine r_nmS h (fun σ5 h => ?_)
    exact u5_clearDoor_29 hc (ho0) h
set_option maxRecDepth 100000 in
set_option maxHeartbeats 4000000 in
theorem t5_addDoor {l : Launch} {o0 : Nat} {i1 : Int32} {σ : St} {k : St → Prop} (ho0 : kd o0 = 5) (h : x5_addDoor o0 i1 σ k) : CV l yX5_addDoor cX5_addDoor 2 3 none (fun ad => [.ref (ad o0), .int i1]) σ k := by
  refine CV.of (lv := fun ad => [(0, .ref (ad o0)), (1, .int i1)]) (by decide) (fun _ => Nat.le_of_ble_eq_true rfl) (fun _ => rfl) (fun κ hc => ?_)
  show Wd κ 2 (QV κ k) 0 [(0, aK κ o0), (1, .int i1)] [] σ
  unfold x5_addDoor at h
  refine r_aload_n 0 hc dX5_addDoor_0 rfl ?_
  refine r_get (K := 5) (f := 0) hc dX5_addDoor_1 fX5_9 inX5 rfl rfl (by decide) (by decide) ho0 rfl ?_
  refine r_aload_n 0 hc dX5_addDoor_4 rfl ?_
  refine r_get (K := 5) (f := 8) hc dX5_addDoor_5 fX5_36 inX5 rfl rfl (by decide) (by decide) ho0 rfl ?_
  refine r_iload_n 1 hc dX5_addDoor_8 rfl ?_
  refine r_iast hc dX5_addDoor_9 (k5_1 ho0) h (fun h => ?_)
  refine r_nmS h (fun σ1 h => ?_)
  refine r_aload_n 0 hc dX5_addDoor_10 rfl ?_
  refine r_dup hc dX5_addDoor_11 rfl ?_
  refine r_get (K := 5) (f := 8) hc dX5_addDoor_12 fX5_36 inX5 rfl rfl (by decide) (by decide) ho0 rfl ?_
  refine r_iconst (v := 1) hc dX5_addDoor_15 (by decide) ?_
  refine r_iadd hc dX5_addDoor_16 ?_
  refine r_put (K := 5) (f := 8) hc dX5_addDoor_17 fX5_36 inX5 tyX5_ok nmX5 rfl rfl rfl rfl (by decide) (by decide) ho0 rfl ?_
  refine r_nmS h (fun σ2 h => ?_)
  refine r_aload_n 0 hc dX5_addDoor_20 rfl ?_
  refine r_aload_n 0 hc dX5_addDoor_21 rfl ?_
  refine r_get (K := 5) (f := 8) hc dX5_addDoor_22 fX5_36 inX5 rfl rfl (by decide) (by decide) ho0 rfl ?_
  refine r_iconst (v := 1) hc dX5_addDoor_25 (by decide) ?_
  refine r_isub hc dX5_addDoor_26 ?_
  refine r_cvV [.int ((σ2 o0 8) - 1)] hc dX5_addDoor_27 cX5_52 (t5_clearDoor ho0 h) rfl (by decide) ho0 rfl rfl rfl (Nat.le_of_ble_eq_true rfl) (by decide) (by decide) (fun σ4 h => ?_)
  exact r_vret hc dX5_addDoor_30 h
set_option maxRecDepth 100000 in
set_option maxHeartbeats 4000000 in
theorem u3_readDoor_56 {κ : KT} {k : Int32 → St → Prop} {o1 : Nat}   {σ : St}  (hc : Cx κ cX3_readDoor 3 RX3 4 (some .boolean)) (ho1 : kd o1 = 5)   (h : x3_readDoor_56 o1 σ k) : Wd κ 3 (QI κ k) 56 [(0, aK κ 55), (1, aK κ o1)] [] σ := by
  unfold x3_readDoor_56 at h
  refine r_iconst (v := 0) hc dX3_readDoor_56 (by decide) ?_
  exact r_zret hc dX3_readDoor_57 h
set_option maxRecDepth 100000 in
set_option maxHeartbeats 4000000 in
theorem u3_readDoor_24 {κ : KT} {k : Int32 → St → Prop} {o1 : Nat}   {σ : St}  (hc : Cx κ cX3_readDoor 3 RX3 4 (some .boolean)) (ho1 : kd o1 = 5)   (h : x3_readDoor_24 o1 σ k) : Wd κ 3 (QI κ k) 24 [(0, aK κ 55), (1, aK κ o1)] [] σ := by
  unfold x3_readDoor_24 at h
  refine r_aload_n 0 hc dX3_readDoor_24 rfl ?_
  refine r_bipush (v := 100) hc dX3_readDoor_25 (by decide) ?_
  refine r_cvI [.int 100] hc dX3_readDoor_27 cX3_47 (t3_readSign h) rfl (by decide) rfl rfl rfl rfl (Nat.le_of_ble_eq_true rfl) (by decide) (by decide) (fun r3 σ4 h => ?_)
  refine r_if_ne 35 hc dX3_readDoor_30 (by decide) h (fun h => ?_) (fun h => ?_)
  · refine r_iconst (v := 0) hc dX3_readDoor_33 (by decide) ?_
    exact r_zret hc dX3_readDoor_34 h
  · refine r_aload_n 0 hc dX3_readDoor_35 rfl ?_
    refine r_iconst (v := 1) hc dX3_readDoor_36 (by decide) ?_
    refine r_bipush (v := 20) hc dX3_readDoor_37 (by decide) ?_
    refine r_cvI [.int 1, .int 20] hc dX3_readDoor_39 cX3_50 (t3_readNumber h) rfl (by decide) rfl rfl rfl rfl (Nat.le_of_ble_eq_true rfl) (by decide) (by decide) (fun r5 σ6 h => ?_)
    refine r_istore_n (lv' := [(2, .int r5), (0, aK κ 55), (1, aK κ o1)]) hc dX3_readDoor_42 (by decide) rfl ?_
    refine r_iload_n 0 hc dX3_readDoor_43 rfl ?_
    refine r_if_lt 56 hc dX3_readDoor_44 (by decide) h (fun h => ?_) (fun h => ?_)
    · refine r_sub [1, 2] rfl ?_
      exact u3_readDoor_56 hc (ho1) h
    · refine r_aload_n 1 hc dX3_readDoor_47 rfl ?_
      refine r_bipush (v := 59) hc dX3_readDoor_48 (by decide) ?_
      refine r_cvI [.int 59] hc dX3_readDoor_50 cX3_47 (t3_readSign h) rfl (by decide) rfl rfl rfl rfl (Nat.le_of_ble_eq_true rfl) (by decide) (by decide) (fun r7 σ8 h => ?_)
      refine r_if_ne 58 hc dX3_readDoor_53 (by decide) h (fun h => ?_) (fun h => ?_)
      · refine r_sub [1, 2] rfl ?_
        exact u3_readDoor_56 hc (ho1) h
      · refine r_aload_n 2 hc dX3_readDoor_58 rfl ?_
        refine r_iload_n 0 hc dX3_readDoor_59 rfl ?_
        refine r_cvV [.int r5] hc dX3_readDoor_60 cX3_64 (t5_addDoor ho1 h) rfl (by decide) ho1 rfl rfl rfl (Nat.le_of_ble_eq_true rfl) (by decide) (by decide) (fun σ10 h => ?_)
        refine r_iconst (v := 1) hc dX3_readDoor_63 (by decide) ?_
        exact r_zret hc dX3_readDoor_64 h
set_option maxRecDepth 100000 in
set_option maxHeartbeats 4000000 in
theorem t3_readDoor {l : Launch} {o1 : Nat} {σ : St} {k : Int32 → St → Prop} (ho1 : kd o1 = 5) (h : x3_readDoor o1 σ k) : CI l yX3_readDoor cX3_readDoor 3 4 (some .boolean) (fun ad => [.ref (ad 55), .ref (ad o1)]) σ k := by
  refine CI.of (lv := fun ad => [(0, .ref (ad 55)), (1, .ref (ad o1))]) (by decide) (fun _ => Nat.le_of_ble_eq_true rfl) (fun _ => rfl) (fun κ hc => ?_)
  show Wd κ 3 (QI κ k) 0 [(0, aK κ 55), (1, aK κ o1)] [] σ
  unfold x3_readDoor at h
  refine r_aload_n 0 hc dX3_readDoor_0 rfl ?_
  refine r_bipush (v := 100) hc dX3_readDoor_1 (by decide) ?_
  refine r_cvI [.int 100] hc dX3_readDoor_3 cX3_40 (t3_nextIs h) rfl (by decide) rfl rfl rfl rfl (Nat.le_of_ble_eq_true rfl) (by decide) (by decide) (fun r1 σ2 h => ?_)
  refine r_if_eq 24 hc dX3_readDoor_6 (by decide) h (fun h => ?_) (fun h => ?_)
  · exact u3_readDoor_24 hc (ho1) h
  · refine r_aload_n 1 hc dX3_readDoor_9 rfl ?_
    refine r_get (K := 5) (f := 8) hc dX3_readDoor_10 fX3_58 inX5 rfl rfl (by decide) (by decide) ho1 rfl ?_
    refine r_bipush (v := 6) hc dX3_readDoor_13 (by decide) ?_
    refine r_icmp_lt 24 hc dX3_readDoor_15 (by decide) h (fun h => ?_) (fun h => ?_)
    · exact u3_readDoor_24 hc (ho1) h
    · refine r_aload_n 0 hc dX3_readDoor_18 rfl ?_
      refine r_iconst (v := 3) hc dX3_readDoor_19 (by decide) ?_
      refine r_cvI [.int 3] hc dX3_readDoor_20 cX3_61 (t3_fail h) rfl (by decide) rfl rfl rfl rfl (Nat.le_of_ble_eq_true rfl) (by decide) (by decide) (fun r11 σ12 h => ?_)
      exact r_zret hc dX3_readDoor_23 h
set_option maxRecDepth 100000 in
set_option maxHeartbeats 4000000 in
theorem t5_begin {l : Launch} {o0 : Nat} {i1 : Int32} {i2 : Int32} {σ : St} {k : St → Prop} (ho0 : kd o0 = 5) (h : x5_begin o0 i1 i2 σ k) : CV l yX5_begin cX5_begin 3 1 none (fun ad => [.ref (ad o0), .int i1, .int i2]) σ k := by
  refine CV.of (lv := fun ad => [(0, .ref (ad o0)), (1, .int i1), (2, .int i2)]) (by decide) (fun _ => Nat.le_of_ble_eq_true rfl) (fun _ => rfl) (fun κ hc => ?_)
  show Wd κ 3 (QV κ k) 0 [(0, aK κ o0), (1, .int i1), (2, .int i2)] [] σ
  unfold x5_begin at h
  refine r_aload_n 0 hc dX5_begin_0 rfl ?_
  refine r_iconst (v := 0) hc dX5_begin_1 (by decide) ?_
  refine r_put (K := 5) (f := 8) hc dX5_begin_2 fX5_36 inX5 tyX5_ok nmX5 rfl rfl rfl rfl (by decide) (by decide) ho0 rfl ?_
  refine r_nmS h (fun σ1 h => ?_)
  refine r_aload_n 0 hc dX5_begin_5 rfl ?_
  refine r_iconst (v := 0) hc dX5_begin_6 (by decide) ?_
  refine r_put (K := 5) (f := 9) hc dX5_begin_7 fX5_40 inX5 tyX5_ok nmX5 rfl rfl rfl rfl (by decide) (by decide) ho0 rfl ?_
  refine r_nmS h (fun σ2 h => ?_)
  refine r_aload_n 0 hc dX5_begin_10 rfl ?_
  refine r_iload_n 1 hc dX5_begin_11 rfl ?_
  refine r_put (K := 5) (f := 10) hc dX5_begin_12 fX5_43 inX5 tyX5_ok nmX5 rfl rfl rfl rfl (by decide) (by decide) ho0 rfl ?_
  refine r_nmS h (fun σ3 h => ?_)
  refine r_aload_n 0 hc dX5_begin_15 rfl ?_
  refine r_iload_n 2 hc dX5_begin_16 rfl ?_
  refine r_put (K := 5) (f := 11) hc dX5_begin_17 fX5_46 inX5 tyX5_ok nmX5 rfl rfl rfl rfl (by decide) (by decide) ho0 rfl ?_
  refine r_nmS h (fun σ4 h => ?_)
  refine r_aload_n 0 hc dX5_begin_20 rfl ?_
  refine r_iconst (v := 0) hc dX5_begin_21 (by decide) ?_
  refine r_put (K := 5) (f := 12) hc dX5_begin_22 fX5_49 inX5 tyX5_ok nmX5 rfl rfl rfl rfl (by decide) (by decide) ho0 rfl ?_
  refine r_nmS h (fun σ5 h => ?_)
  exact r_vret hc dX5_begin_25 h
set_option maxRecDepth 100000 in
set_option maxHeartbeats 4000000 in
theorem u3_readLaw_32 {κ : KT} {k : Int32 → St → Prop} {o1 : Nat}   {σ : St}  (hc : Cx κ cX3_readLaw 4 RX3 3 (some .boolean)) (ho1 : kd o1 = 5)   (h : x3_readLaw_32 o1 σ k) : Wd κ 4 (QI κ k) 32 [(0, aK κ 55), (1, aK κ o1)] [] σ := by
  unfold x3_readLaw_32 at h
  refine r_iconst (v := 0) hc dX3_readLaw_32 (by decide) ?_
  exact r_zret hc dX3_readLaw_33 h
set_option maxRecDepth 100000 in
set_option maxHeartbeats 4000000 in
theorem u3_readLaw_55 {κ : KT} {k : Int32 → St → Prop} {o1 : Nat}   {σ : St}  (hc : Cx κ cX3_readLaw 4 RX3 3 (some .boolean)) (ho1 : kd o1 = 5)   (h : x3_readLaw_55 o1 σ k) : Wd κ 4 (QI κ k) 55 [(0, aK κ 55), (1, aK κ o1)] [] σ := by
  unfold x3_readLaw_55 at h
  refine r_iconst (v := 0) hc dX3_readLaw_55 (by decide) ?_
  exact r_zret hc dX3_readLaw_56 h
set_option maxRecDepth 100000 in
set_option maxHeartbeats 4000000 in
theorem t3_readLaw {l : Launch} {o1 : Nat} {σ : St} {k : Int32 → St → Prop} (ho1 : kd o1 = 5) (h : x3_readLaw o1 σ k) : CI l yX3_readLaw cX3_readLaw 4 3 (some .boolean) (fun ad => [.ref (ad 55), .ref (ad o1)]) σ k := by
  refine CI.of (lv := fun ad => [(0, .ref (ad 55)), (1, .ref (ad o1))]) (by decide) (fun _ => Nat.le_of_ble_eq_true rfl) (fun _ => rfl) (fun κ hc => ?_)
  show Wd κ 4 (QI κ k) 0 [(0, aK κ 55), (1, aK κ o1)] [] σ
  unfold x3_readLaw at h
  refine r_aload_n 0 hc dX3_readLaw_0 rfl ?_
  refine r_bipush (v := 103) hc dX3_readLaw_1 (by decide) ?_
  refine r_cvI [.int 103] hc dX3_readLaw_3 cX3_47 (t3_readSign h) rfl (by decide) rfl rfl rfl rfl (Nat.le_of_ble_eq_true rfl) (by decide) (by decide) (fun r1 σ2 h => ?_)
  refine r_if_ne 11 hc dX3_readLaw_6 (by decide) h (fun h => ?_) (fun h => ?_)
  · refine r_iconst (v := 0) hc dX3_readLaw_9 (by decide) ?_
    exact r_zret hc dX3_readLaw_10 h
  · refine r_aload_n 0 hc dX3_readLaw_11 rfl ?_
    refine r_iconst (v := 0) hc dX3_readLaw_12 (by decide) ?_
    refine r_bipush (v := 60) hc dX3_readLaw_13 (by decide) ?_
    refine r_cvI [.int 0, .int 60] hc dX3_readLaw_15 cX3_50 (t3_readNumber h) rfl (by decide) rfl rfl rfl rfl (Nat.le_of_ble_eq_true rfl) (by decide) (by decide) (fun r3 σ4 h => ?_)
    refine r_istore_n (lv' := [(2, .int r3), (0, aK κ 55), (1, aK κ o1)]) hc dX3_readLaw_18 (by decide) rfl ?_
    refine r_iload_n 0 hc dX3_readLaw_19 rfl ?_
    refine r_if_lt 32 hc dX3_readLaw_20 (by decide) h (fun h => ?_) (fun h => ?_)
    · refine r_sub [1, 2] rfl ?_
      exact u3_readLaw_32 hc (ho1) h
    · refine r_aload_n 1 hc dX3_readLaw_23 rfl ?_
      refine r_bipush (v := 44) hc dX3_readLaw_24 (by decide) ?_
      refine r_cvI [.int 44] hc dX3_readLaw_26 cX3_47 (t3_readSign h) rfl (by decide) rfl rfl rfl rfl (Nat.le_of_ble_eq_true rfl) (by decide) (by decide) (fun r5 σ6 h => ?_)
      refine r_if_ne 34 hc dX3_readLaw_29 (by decide) h (fun h => ?_) (fun h => ?_)
      · refine r_sub [1, 2] rfl ?_
        exact u3_readLaw_32 hc (ho1) h
      · refine r_aload_n 1 hc dX3_readLaw_34 rfl ?_
        refine r_iconst (v := 0) hc dX3_readLaw_35 (by decide) ?_
        refine r_bipush (v := 12) hc dX3_readLaw_36 (by decide) ?_
        refine r_cvI [.int 0, .int 12] hc dX3_readLaw_38 cX3_50 (t3_readNumber h) rfl (by decide) rfl rfl rfl rfl (Nat.le_of_ble_eq_true rfl) (by decide) (by decide) (fun r7 σ8 h => ?_)
        refine r_istore_n (lv' := [(3, .int r7), (2, .int r3), (0, aK κ 55), (1, aK κ o1)]) hc dX3_readLaw_41 (by decide) rfl ?_
        refine r_iload_n 0 hc dX3_readLaw_42 rfl ?_
        refine r_if_lt 55 hc dX3_readLaw_43 (by decide) h (fun h => ?_) (fun h => ?_)
        · refine r_sub [2, 3] rfl ?_
          exact u3_readLaw_55 hc (ho1) h
        · refine r_aload_n 2 hc dX3_readLaw_46 rfl ?_
          refine r_bipush (v := 59) hc dX3_readLaw_47 (by decide) ?_
          refine r_cvI [.int 59] hc dX3_readLaw_49 cX3_47 (t3_readSign h) rfl (by decide) rfl rfl rfl rfl (Nat.le_of_ble_eq_true rfl) (by decide) (by decide) (fun r9 σ10 h => ?_)
          refine r_if_ne 57 hc dX3_readLaw_52 (by decide) h (fun h => ?_) (fun h => ?_)
          · refine r_sub [2, 3] rfl ?_
            exact u3_readLaw_55 hc (ho1) h
          · refine r_aload_n 3 hc dX3_readLaw_57 rfl ?_
            refine r_iload_n 1 hc dX3_readLaw_58 rfl ?_
            refine r_iload_n 0 hc dX3_readLaw_59 rfl ?_
            refine r_cvV [.int r3, .int r7] hc dX3_readLaw_60 cX3_54 (t5_begin ho1 h) rfl (by decide) ho1 rfl rfl rfl (Nat.le_of_ble_eq_true rfl) (by decide) (by decide) (fun σ12 h => ?_)
            refine r_iconst (v := 1) hc dX3_readLaw_63 (by decide) ?_
            exact r_zret hc dX3_readLaw_64 h
set_option maxRecDepth 100000 in
set_option maxHeartbeats 4000000 in
theorem u3_readInto_21 {κ : KT} {k : Int32 → St → Prop} {o1 : Nat}   {σ : St}  (hc : Cx κ cX3_readInto 5 RX3 5 (some .boolean)) (ho1 : kd o1 = 5)   (h : x3_readInto_21 o1 σ k) : Wd κ 5 (QI κ k) 21 [(0, aK κ 55), (1, aK κ o1)] [] σ := by
  unfold x3_readInto_21 at h
  refine r_iconst (v := 0) hc dX3_readInto_21 (by decide) ?_
  exact r_zret hc dX3_readInto_22 h
set_option maxRecDepth 100000 in
set_option maxHeartbeats 4000000 in
theorem u3_readInto_96 {κ : KT} {k : Int32 → St → Prop} {o1 : Nat}   {σ : St}  (hc : Cx κ cX3_readInto 5 RX3 5 (some .boolean)) (ho1 : kd o1 = 5)   (h : x3_readInto_96 o1 σ k) : Wd κ 5 (QI κ k) 96 [(0, aK κ 55), (1, aK κ o1)] [] σ := by
  unfold x3_readInto_96 at h
  refine r_iconst (v := 1) hc dX3_readInto_96 (by decide) ?_
  exact r_zret hc dX3_readInto_97 h
set_option maxRecDepth 100000 in
set_option maxHeartbeats 4000000 in
theorem u3_readInto_81 {κ : KT} {k : Int32 → St → Prop} {o1 : Nat} {R25 : Int32 → St → Prop} {i2 : Int32} {s0 : Int32} {σ : St}  (hc : Cx κ cX3_readInto 5 RX3 5 (some .boolean)) (ho1 : kd o1 = 5) (hR25 : ∀ (i2 : Int32) (σ : St), R25 i2 σ → Wd κ 5 (QI κ k) 25 [(0, aK κ 55), (1, aK κ o1), (2, .int i2)] [] σ)  (h : x3_readInto_81 o1 R25 i2 s0 σ k) : Wd κ 5 (QI κ k) 81 [(0, aK κ 55), (1, aK κ o1), (2, .int i2)] [.int s0] σ := by
  unfold x3_readInto_81 at h
  refine r_istore (lv' := [(4, .int s0), (0, aK κ 55), (1, aK κ o1), (2, .int i2)]) hc dX3_readInto_81 (by decide) rfl ?_
  refine r_iload 0 hc dX3_readInto_83 rfl ?_
  refine r_if_ne 90 hc dX3_readInto_85 (by decide) h (fun h => ?_) (fun h => ?_)
  · refine r_iconst (v := 0) hc dX3_readInto_88 (by decide) ?_
    exact r_zret hc dX3_readInto_89 h
  · refine r_iinc (v := 1) (lv' := [(2, .int (i2 + 1)), (4, .int s0), (0, aK κ 55), (1, aK κ o1)]) 3 hc dX3_readInto_90 rfl (by decide) (by decide) rfl ?_
    refine r_goto 25 hc dX3_readInto_93 (by decide) ?_
    refine r_sub [2, 3, 0] rfl ?_
    exact hR25 _ _ h
set_option maxRecDepth 100000 in
set_option maxHeartbeats 4000000 in
theorem u3_readInto_63 {κ : KT} {k : Int32 → St → Prop} {o1 : Nat} {R25 : Int32 → St → Prop} {i2 : Int32} {s0 : Int32} {σ : St}  (hc : Cx κ cX3_readInto 5 RX3 5 (some .boolean)) (ho1 : kd o1 = 5) (hR25 : ∀ (i2 : Int32) (σ : St), R25 i2 σ → Wd κ 5 (QI κ k) 25 [(0, aK κ 55), (1, aK κ o1), (2, .int i2)] [] σ)  (h : x3_readInto_63 o1 R25 i2 s0 σ k) : Wd κ 5 (QI κ k) 63 [(0, aK κ 55), (1, aK κ o1), (2, .int i2)] [.int s0] σ := by
  unfold x3_readInto_63 at h
  refine r_istore_n (lv' := [(3, .int s0), (0, aK κ 55), (1, aK κ o1), (2, .int i2)]) hc dX3_readInto_63 (by decide) rfl ?_
  refine r_iload_n 0 hc dX3_readInto_64 rfl ?_
  refine r_if_eq 76 hc dX3_readInto_65 (by decide) h (fun h => ?_) (fun h => ?_)
  · refine r_aload_n 1 hc dX3_readInto_76 rfl ?_
    refine r_aload_n 2 hc dX3_readInto_77 rfl ?_
    refine r_cvI [aK κ o1] hc dX3_readInto_78 cX3_44 (t3_readCaller ho1 h) rfl (by decide) rfl rfl rfl rfl (Nat.le_of_ble_eq_true rfl) (by decide) (by decide) (fun r8 σ9 h => ?_)
    refine r_sub [1, 2, 3] rfl ?_
    exact u3_readInto_81 hc (ho1) hR25 h
  · refine r_aload_n 1 hc dX3_readInto_68 rfl ?_
    refine r_aload_n 2 hc dX3_readInto_69 rfl ?_
    refine r_cvI [aK κ o1] hc dX3_readInto_70 cX3_32 (t3_readDoor ho1 h) rfl (by decide) rfl rfl rfl rfl (Nat.le_of_ble_eq_true rfl) (by decide) (by decide) (fun r10 σ11 h => ?_)
    refine r_goto 81 hc dX3_readInto_73 (by decide) ?_
    refine r_sub [1, 2, 3] rfl ?_
    exact u3_readInto_81 hc (ho1) hR25 h
set_option maxRecDepth 100000 in
set_option maxHeartbeats 4000000 in
theorem u3_readInto_62 {κ : KT} {k : Int32 → St → Prop} {o1 : Nat} {R25 : Int32 → St → Prop} {i2 : Int32} {σ : St}  (hc : Cx κ cX3_readInto 5 RX3 5 (some .boolean)) (ho1 : kd o1 = 5) (hR25 : ∀ (i2 : Int32) (σ : St), R25 i2 σ → Wd κ 5 (QI κ k) 25 [(0, aK κ 55), (1, aK κ o1), (2, .int i2)] [] σ)  (h : x3_readInto_62 o1 R25 i2 σ k) : Wd κ 5 (QI κ k) 62 [(0, aK κ 55), (1, aK κ o1), (2, .int i2)] [] σ := by
  unfold x3_readInto_62 at h
  refine r_iconst (v := 0) hc dX3_readInto_62 (by decide) ?_
  exact u3_readInto_63 hc (ho1) hR25 h
set_option maxRecDepth 100000 in
set_option maxHeartbeats 4000000 in
theorem u3_readInto_25 {κ : KT} {k : Int32 → St → Prop} {o1 : Nat}   (hc : Cx κ cX3_readInto 5 RX3 5 (some .boolean)) (ho1 : kd o1 = 5)  : ∀ (n : Nat) (i2 : Int32) (σ : St), x3_readInto_25 o1 k n i2 σ → Wd κ 5 (QI κ k) 25 [(0, aK κ 55), (1, aK κ o1), (2, .int i2)] [] σ := by
  intro n
  induction n with
  | zero => intro i2 σ h; exact h.elim
  | succ n ih =>
    intro i2 σ h
    unfold x3_readInto_25 at h
    refine r_iload_n 2 hc dX3_readInto_25 rfl ?_
    refine r_bipush (v := 100) hc dX3_readInto_26 (by decide) ?_
    refine r_icmp_ge 96 hc dX3_readInto_28 (by decide) h (fun h => ?_) (fun h => ?_)
    · refine r_sub [0, 1] rfl ?_
      exact u3_readInto_96 hc (ho1) h
    · refine r_aload_n 0 hc dX3_readInto_31 rfl ?_
      refine r_get (K := 3) (f := 2) hc dX3_readInto_32 fX3_19 inX3 rfl rfl (by decide) (by decide) rfl rfl ?_
      refine r_aload_n 0 hc dX3_readInto_35 rfl ?_
      refine r_get (K := 3) (f := 1) hc dX3_readInto_36 fX3_15 inX3 rfl rfl (by decide) (by decide) rfl rfl ?_
      refine r_icmp_ge 96 hc dX3_readInto_39 (by decide) h (fun h => ?_) (fun h => ?_)
      · refine r_sub [0, 1] rfl ?_
        exact u3_readInto_96 hc (ho1) h
      · refine r_aload_n 1 hc dX3_readInto_42 rfl ?_
        refine r_get (K := 5) (f := 9) hc dX3_readInto_43 fX3_35 inX5 rfl rfl (by decide) (by decide) ho1 rfl ?_
        refine r_if_ne 62 hc dX3_readInto_46 (by decide) h (fun h => ?_) (fun h => ?_)
        · refine r_aload_n 0 hc dX3_readInto_49 rfl ?_
          refine r_bipush (v := 100) hc dX3_readInto_50 (by decide) ?_
          refine r_cvI [.int 100] hc dX3_readInto_52 cX3_40 (t3_nextIs h) rfl (by decide) rfl rfl rfl rfl (Nat.le_of_ble_eq_true rfl) (by decide) (by decide) (fun r6 σ7 h => ?_)
          refine r_if_eq 62 hc dX3_readInto_55 (by decide) h (fun h => ?_) (fun h => ?_)
          · exact u3_readInto_62 hc (ho1) ih h
          · refine r_iconst (v := 1) hc dX3_readInto_58 (by decide) ?_
            refine r_goto 63 hc dX3_readInto_59 (by decide) ?_
            exact u3_readInto_63 hc (ho1) ih h
        · exact u3_readInto_62 hc (ho1) ih h
set_option maxRecDepth 100000 in
set_option maxHeartbeats 4000000 in
theorem t3_readInto {l : Launch} {o1 : Nat} {σ : St} {k : Int32 → St → Prop} (ho1 : kd o1 = 5) (h : x3_readInto o1 σ k) : CI l yX3_readInto cX3_readInto 5 5 (some .boolean) (fun ad => [.ref (ad 55), .ref (ad o1)]) σ k := by
  refine CI.of (lv := fun ad => [(0, .ref (ad 55)), (1, .ref (ad o1))]) (by decide) (fun _ => Nat.le_of_ble_eq_true rfl) (fun _ => rfl) (fun κ hc => ?_)
  show Wd κ 5 (QI κ k) 0 [(0, aK κ 55), (1, aK κ o1)] [] σ
  unfold x3_readInto at h
  refine r_aload_n 0 hc dX3_readInto_0 rfl ?_
  refine r_iconst (v := 0) hc dX3_readInto_1 (by decide) ?_
  refine r_put (K := 3) (f := 2) hc dX3_readInto_2 fX3_19 inX3 tyX3_ok nmX3 rfl rfl rfl rfl (by decide) (by decide) rfl rfl ?_
  refine r_nmS h (fun σ1 h => ?_)
  refine r_aload_n 0 hc dX3_readInto_5 rfl ?_
  refine r_aload_n 1 hc dX3_readInto_6 rfl ?_
  refine r_cvI [aK κ o1] hc dX3_readInto_7 cX3_28 (t3_readLaw ho1 h) rfl (by decide) rfl rfl rfl rfl (Nat.le_of_ble_eq_true rfl) (by decide) (by decide) (fun r2 σ3 h => ?_)
  refine r_if_eq 21 hc dX3_readInto_10 (by decide) h (fun h => ?_) (fun h => ?_)
  · exact u3_readInto_21 hc (ho1) h
  · refine r_aload_n 0 hc dX3_readInto_13 rfl ?_
    refine r_aload_n 1 hc dX3_readInto_14 rfl ?_
    refine r_cvI [aK κ o1] hc dX3_readInto_15 cX3_32 (t3_readDoor ho1 h) rfl (by decide) rfl rfl rfl rfl (Nat.le_of_ble_eq_true rfl) (by decide) (by decide) (fun r4 σ5 h => ?_)
    refine r_if_ne 23 hc dX3_readInto_18 (by decide) h (fun h => ?_) (fun h => ?_)
    · exact u3_readInto_21 hc (ho1) h
    · refine r_iconst (v := 0) hc dX3_readInto_23 (by decide) ?_
      refine r_istore_n (lv' := [(2, .int 0), (0, aK κ 55), (1, aK κ o1)]) hc dX3_readInto_24 (by decide) rfl ?_
      refine r_sub [1, 2, 0] rfl ?_
      obtain ⟨n0, h⟩ := h
      exact u3_readInto_25 hc (ho1) n0 _ _ h
set_option maxRecDepth 100000 in
set_option maxHeartbeats 4000000 in
theorem t3_take {l : Launch} {i1 : Int32} {σ : St} {k : Int32 → St → Prop}  (h : x3_take i1 σ k) : CI l yX3_take cX3_take 2 1 (some .boolean) (fun ad => [.ref (ad 55), .int i1]) σ k := by
  refine CI.of (lv := fun ad => [(0, .ref (ad 55)), (1, .int i1)]) (by decide) (fun _ => Nat.le_of_ble_eq_true rfl) (fun _ => rfl) (fun κ hc => ?_)
  show Wd κ 2 (QI κ k) 0 [(0, aK κ 55), (1, .int i1)] [] σ
  unfold x3_take at h
  refine r_aload_n 0 hc dX3_take_0 rfl ?_
  refine r_get (K := 3) (f := 1) hc dX3_take_1 fX3_15 inX3 rfl rfl (by decide) (by decide) rfl rfl ?_
  refine r_bipush (v := 100) hc dX3_take_4 (by decide) ?_
  refine r_icmp_lt 11 hc dX3_take_6 (by decide) h (fun h => ?_) (fun h => ?_)
  · refine r_aload_n 0 hc dX3_take_11 rfl ?_
    refine r_get (K := 3) (f := 0) hc dX3_take_12 fX3_9 inX3 rfl rfl (by decide) (by decide) rfl rfl ?_
    refine r_aload_n 0 hc dX3_take_15 rfl ?_
    refine r_get (K := 3) (f := 1) hc dX3_take_16 fX3_15 inX3 rfl rfl (by decide) (by decide) rfl rfl ?_
    refine r_iload_n 1 hc dX3_take_19 rfl ?_
    refine r_iast hc dX3_take_20 rfl h (fun h => ?_)
    refine r_nmS h (fun σ1 h => ?_)
    refine r_aload_n 0 hc dX3_take_21 rfl ?_
    refine r_dup hc dX3_take_22 rfl ?_
    refine r_get (K := 3) (f := 1) hc dX3_take_23 fX3_15 inX3 rfl rfl (by decide) (by decide) rfl rfl ?_
    refine r_iconst (v := 1) hc dX3_take_26 (by decide) ?_
    refine r_iadd hc dX3_take_27 ?_
    refine r_put (K := 3) (f := 1) hc dX3_take_28 fX3_15 inX3 tyX3_ok nmX3 rfl rfl rfl rfl (by decide) (by decide) rfl rfl ?_
    refine r_nmS h (fun σ2 h => ?_)
    refine r_iconst (v := 1) hc dX3_take_31 (by decide) ?_
    exact r_zret hc dX3_take_32 h
  · refine r_iconst (v := 0) hc dX3_take_9 (by decide) ?_
    exact r_zret hc dX3_take_10 h
set_option maxRecDepth 100000 in
set_option maxHeartbeats 4000000 in
theorem u4_begin_12 {κ : KT} {k : St → Prop} {o0 : Nat} {i1 : Int32} {i2 : Int32}   (hc : Cx κ cX4_begin 4 RX4 1 none) (ho0 : kd o0 = 4)  : ∀ (n : Nat) (i3 : Int32) (σ : St), x4_begin_12 o0 i1 i2 k n i3 σ → Wd κ 4 (QV κ k) 12 [(0, aK κ o0), (1, .int i1), (2, .int i2), (3, .int i3)] [] σ := by
  intro n
  induction n with
  | zero => intro i3 σ h; exact h.elim
  | succ n ih =>
    intro i3 σ h
    unfold x4_begin_12 at h
    refine r_iload_n 3 hc dX4_begin_12 rfl ?_
    refine r_bipush (v := 40) hc dX4_begin_13 (by decide) ?_
    refine r_icmp_ge 31 hc dX4_begin_15 (by decide) h (fun h => ?_) (fun h => ?_)
    · exact r_vret hc dX4_begin_31 h
    · refine r_aload_n 0 hc dX4_begin_18 rfl ?_
      refine r_get (K := 4) (f := 0) hc dX4_begin_19 fX4_9 inX4 rfl rfl (by decide) (by decide) ho0 rfl ?_
      refine r_iload_n 3 hc dX4_begin_22 rfl ?_
      refine r_iconst (v := 0) hc dX4_begin_23 (by decide) ?_
      refine r_iast hc dX4_begin_24 (k4_1 ho0) h (fun h => ?_)
      refine r_nmS h (fun σ3 h => ?_)
      refine r_iinc (v := 1) (lv' := [(3, .int (i3 + 1)), (0, aK κ o0), (1, .int i1), (2, .int i2)]) 3 hc dX4_begin_25 rfl (by decide) (by decide) rfl ?_
      refine r_goto 12 hc dX4_begin_28 (by decide) ?_
      refine r_sub [1, 2, 3, 0] rfl ?_
      exact ih _ _ h
set_option maxRecDepth 100000 in
set_option maxHeartbeats 4000000 in
theorem t4_begin {l : Launch} {o0 : Nat} {i1 : Int32} {i2 : Int32} {σ : St} {k : St → Prop} (ho0 : kd o0 = 4) (h : x4_begin o0 i1 i2 σ k) : CV l yX4_begin cX4_begin 4 1 none (fun ad => [.ref (ad o0), .int i1, .int i2]) σ k := by
  refine CV.of (lv := fun ad => [(0, .ref (ad o0)), (1, .int i1), (2, .int i2)]) (by decide) (fun _ => Nat.le_of_ble_eq_true rfl) (fun _ => rfl) (fun κ hc => ?_)
  show Wd κ 4 (QV κ k) 0 [(0, aK κ o0), (1, .int i1), (2, .int i2)] [] σ
  unfold x4_begin at h
  refine r_aload_n 0 hc dX4_begin_0 rfl ?_
  refine r_iload_n 1 hc dX4_begin_1 rfl ?_
  refine r_put (K := 4) (f := 1) hc dX4_begin_2 fX4_15 inX4 tyX4_ok nmX4 rfl rfl rfl rfl (by decide) (by decide) ho0 rfl ?_
  refine r_nmS h (fun σ1 h => ?_)
  refine r_aload_n 0 hc dX4_begin_5 rfl ?_
  refine r_iload_n 2 hc dX4_begin_6 rfl ?_
  refine r_put (K := 4) (f := 2) hc dX4_begin_7 fX4_19 inX4 tyX4_ok nmX4 rfl rfl rfl rfl (by decide) (by decide) ho0 rfl ?_
  refine r_nmS h (fun σ2 h => ?_)
  refine r_iconst (v := 0) hc dX4_begin_10 (by decide) ?_
  refine r_istore_n (lv' := [(3, .int 0), (0, aK κ o0), (1, .int i1), (2, .int i2)]) hc dX4_begin_11 (by decide) rfl ?_
  refine r_sub [1, 2, 3, 0] rfl ?_
  obtain ⟨n0, h⟩ := h
  exact u4_begin_12 hc (ho0) n0 _ _ h
set_option maxRecDepth 100000 in
set_option maxHeartbeats 4000000 in
theorem u4_isMissing_13 {κ : KT} {k : Int32 → St → Prop} {o0 : Nat}  {s0 : Int32} {σ : St}  (hc : Cx κ cX4_isMissing 1 RX4 1 (some .boolean)) (ho0 : kd o0 = 4)   (h : x4_isMissing_13 o0 s0 σ k) : Wd κ 1 (QI κ k) 13 [(0, aK κ o0)] [.int s0] σ := by
  unfold x4_isMissing_13 at h
  exact r_zret hc dX4_isMissing_13 h
set_option maxRecDepth 100000 in
set_option maxHeartbeats 4000000 in
theorem t4_isMissing {l : Launch} {o0 : Nat} {σ : St} {k : Int32 → St → Prop} (ho0 : kd o0 = 4) (h : x4_isMissing o0 σ k) : CI l yX4_isMissing cX4_isMissing 1 1 (some .boolean) (fun ad => [.ref (ad o0)]) σ k := by
  refine CI.of (lv := fun ad => [(0, .ref (ad o0))]) (by decide) (fun _ => Nat.le_of_ble_eq_true rfl) (fun _ => rfl) (fun κ hc => ?_)
  show Wd κ 1 (QI κ k) 0 [(0, aK κ o0)] [] σ
  unfold x4_isMissing at h
  refine r_aload_n 0 hc dX4_isMissing_0 rfl ?_
  refine r_get (K := 4) (f := 1) hc dX4_isMissing_1 fX4_15 inX4 rfl rfl (by decide) (by decide) ho0 rfl ?_
  refine r_iconst (v := (-1)) hc dX4_isMissing_4 (by decide) ?_
  refine r_icmp_ne 12 hc dX4_isMissing_5 (by decide) h (fun h => ?_) (fun h => ?_)
  · refine r_iconst (v := 1) hc dX4_isMissing_8 (by decide) ?_
    refine r_goto 13 hc dX4_isMissing_9 (by decide) ?_
    exact u4_isMissing_13 hc (ho0) h
  · refine r_iconst (v := 0) hc dX4_isMissing_12 (by decide) ?_
    exact u4_isMissing_13 hc (ho0) h
set_option maxRecDepth 100000 in
set_option maxHeartbeats 4000000 in
theorem u4_narrowed_24 {κ : KT} {k : Int32 → St → Prop} {o0 : Nat} {i1 : Int32}  {s0 : Int32} {σ : St}  (hc : Cx κ cX4_narrowed 2 RX4 1 (some .int)) (ho0 : kd o0 = 4)   (h : x4_narrowed_24 o0 i1 s0 σ k) : Wd κ 2 (QI κ k) 24 [(0, aK κ o0), (1, .int i1)] [.int s0] σ := by
  unfold x4_narrowed_24 at h
  exact r_iret hc dX4_narrowed_24 h
set_option maxRecDepth 100000 in
set_option maxHeartbeats 4000000 in
theorem t4_narrowed {l : Launch} {o0 : Nat} {i1 : Int32} {σ : St} {k : Int32 → St → Prop} (ho0 : kd o0 = 4) (h : x4_narrowed o0 i1 σ k) : CI l yX4_narrowed cX4_narrowed 2 1 (some .int) (fun ad => [.ref (ad o0), .int i1]) σ k := by
  refine CI.of (lv := fun ad => [(0, .ref (ad o0)), (1, .int i1)]) (by decide) (fun _ => Nat.le_of_ble_eq_true rfl) (fun _ => rfl) (fun κ hc => ?_)
  show Wd κ 2 (QI κ k) 0 [(0, aK κ o0), (1, .int i1)] [] σ
  unfold x4_narrowed at h
  refine r_aload_n 0 hc dX4_narrowed_0 rfl ?_
  refine r_get (K := 4) (f := 1) hc dX4_narrowed_1 fX4_15 inX4 rfl rfl (by decide) (by decide) ho0 rfl ?_
  refine r_if_ne 10 hc dX4_narrowed_4 (by decide) h (fun h => ?_) (fun h => ?_)
  · refine r_iload_n 1 hc dX4_narrowed_7 rfl ?_
    refine r_i2b hc dX4_narrowed_8 ?_
    exact r_iret hc dX4_narrowed_9 h
  · refine r_aload_n 0 hc dX4_narrowed_10 rfl ?_
    refine r_get (K := 4) (f := 1) hc dX4_narrowed_11 fX4_15 inX4 rfl rfl (by decide) (by decide) ho0 rfl ?_
    refine r_iconst (v := 1) hc dX4_narrowed_14 (by decide) ?_
    refine r_icmp_ne 23 hc dX4_narrowed_15 (by decide) h (fun h => ?_) (fun h => ?_)
    · refine r_iload_n 1 hc dX4_narrowed_18 rfl ?_
      refine r_i2s hc dX4_narrowed_19 ?_
      refine r_goto 24 hc dX4_narrowed_20 (by decide) ?_
      exact u4_narrowed_24 hc (ho0) h
    · refine r_iload_n 1 hc dX4_narrowed_23 rfl ?_
      exact u4_narrowed_24 hc (ho0) h
set_option maxRecDepth 100000 in
set_option maxHeartbeats 4000000 in
theorem u4_spans_31 {κ : KT} {k : Int32 → St → Prop} {o0 : Nat} {i1 : Int32} {i2 : Int32}  {s0 : Int32} {σ : St}  (hc : Cx κ cX4_spans 3 RX4 1 (some .boolean)) (ho0 : kd o0 = 4)   (h : x4_spans_31 o0 i1 i2 s0 σ k) : Wd κ 3 (QI κ k) 31 [(0, aK κ o0), (1, .int i1), (2, .int i2)] [.int s0] σ := by
  unfold x4_spans_31 at h
  exact r_zret hc dX4_spans_31 h
set_option maxRecDepth 100000 in
set_option maxHeartbeats 4000000 in
theorem u4_spans_30 {κ : KT} {k : Int32 → St → Prop} {o0 : Nat} {i1 : Int32} {i2 : Int32}   {σ : St}  (hc : Cx κ cX4_spans 3 RX4 1 (some .boolean)) (ho0 : kd o0 = 4)   (h : x4_spans_30 o0 i1 i2 σ k) : Wd κ 3 (QI κ k) 30 [(0, aK κ o0), (1, .int i1), (2, .int i2)] [] σ := by
  unfold x4_spans_30 at h
  refine r_iconst (v := 0) hc dX4_spans_30 (by decide) ?_
  exact u4_spans_31 hc (ho0) h
set_option maxRecDepth 100000 in
set_option maxHeartbeats 4000000 in
theorem t4_spans {l : Launch} {o0 : Nat} {i1 : Int32} {i2 : Int32} {σ : St} {k : Int32 → St → Prop} (ho0 : kd o0 = 4) (h : x4_spans o0 i1 i2 σ k) : CI l yX4_spans cX4_spans 3 1 (some .boolean) (fun ad => [.ref (ad o0), .int i1, .int i2]) σ k := by
  refine CI.of (lv := fun ad => [(0, .ref (ad o0)), (1, .int i1), (2, .int i2)]) (by decide) (fun _ => Nat.le_of_ble_eq_true rfl) (fun _ => rfl) (fun κ hc => ?_)
  show Wd κ 3 (QI κ k) 0 [(0, aK κ o0), (1, .int i1), (2, .int i2)] [] σ
  unfold x4_spans at h
  refine r_iload_n 1 hc dX4_spans_0 rfl ?_
  refine r_if_lt 30 hc dX4_spans_1 (by decide) h (fun h => ?_) (fun h => ?_)
  · exact u4_spans_30 hc (ho0) h
  · refine r_iload_n 2 hc dX4_spans_4 rfl ?_
    refine r_if_lt 30 hc dX4_spans_5 (by decide) h (fun h => ?_) (fun h => ?_)
    · exact u4_spans_30 hc (ho0) h
    · refine r_iload_n 2 hc dX4_spans_8 rfl ?_
      refine r_aload_n 0 hc dX4_spans_9 rfl ?_
      refine r_get (K := 4) (f := 2) hc dX4_spans_10 fX4_19 inX4 rfl rfl (by decide) (by decide) ho0 rfl ?_
      refine r_icmp_gt 30 hc dX4_spans_13 (by decide) h (fun h => ?_) (fun h => ?_)
      · exact u4_spans_30 hc (ho0) h
      · refine r_iload_n 1 hc dX4_spans_16 rfl ?_
        refine r_aload_n 0 hc dX4_spans_17 rfl ?_
        refine r_get (K := 4) (f := 2) hc dX4_spans_18 fX4_19 inX4 rfl rfl (by decide) (by decide) ho0 rfl ?_
        refine r_iload_n 2 hc dX4_spans_21 rfl ?_
        refine r_isub hc dX4_spans_22 ?_
        refine r_icmp_gt 30 hc dX4_spans_23 (by decide) h (fun h => ?_) (fun h => ?_)
        · exact u4_spans_30 hc (ho0) h
        · refine r_iconst (v := 1) hc dX4_spans_26 (by decide) ?_
          refine r_goto 31 hc dX4_spans_27 (by decide) ?_
          exact u4_spans_31 hc (ho0) h
set_option maxRecDepth 100000 in
set_option maxHeartbeats 4000000 in
theorem u4_tellsMeetingsFrom_26 {κ : KT} {k : Int32 → St → Prop} {o0 : Nat} {i1 : Int32} {i2 : Int32} {i3 : Int32} {R3 : Int32 → St → Prop} {i4 : Int32} {s0 : Int32} {σ : St}  (hc : Cx κ cX4_tellsMeetingsFrom 6 RX4 1 (some .boolean)) (ho0 : kd o0 = 4) (hR3 : ∀ (i4 : Int32) (σ : St), R3 i4 σ → Wd κ 6 (QI κ k) 3 [(0, aK κ o0), (1, .int i1), (2, .int i2), (3, .int i3), (4, .int i4)] [] σ)  (h : x4_tellsMeetingsFrom_26 o0 i1 i2 i3 R3 i4 s0 σ k) : Wd κ 6 (QI κ k) 26 [(0, aK κ o0), (1, .int i1), (2, .int i2), (3, .int i3), (4, .int i4)] [.int s0] σ := by
  unfold x4_tellsMeetingsFrom_26 at h
  refine r_istore (lv' := [(5, .int s0), (0, aK κ o0), (1, .int i1), (2, .int i2), (3, .int i3), (4, .int i4)]) hc dX4_tellsMeetingsFrom_26 (by decide) rfl ?_
  refine r_aload_n 1 hc dX4_tellsMeetingsFrom_28 rfl ?_
  refine r_get (K := 4) (f := 0) hc dX4_tellsMeetingsFrom_29 fX4_9 inX4 rfl rfl (by decide) (by decide) ho0 rfl ?_
  refine r_iload_n 3 hc dX4_tellsMeetingsFrom_32 rfl ?_
  refine r_iload 5 hc dX4_tellsMeetingsFrom_33 rfl ?_
  refine r_iadd hc dX4_tellsMeetingsFrom_35 ?_
  refine r_iald hc dX4_tellsMeetingsFrom_36 (k4_1 ho0) h (fun h => ?_)
  refine r_iload 0 hc dX4_tellsMeetingsFrom_37 rfl ?_
  refine r_icmp_eq 44 hc dX4_tellsMeetingsFrom_39 (by decide) h (fun h => ?_) (fun h => ?_)
  · refine r_iinc (v := 1) (lv' := [(4, .int (i4 + 1)), (5, .int s0), (0, aK κ o0), (1, .int i1), (2, .int i2), (3, .int i3)]) 5 hc dX4_tellsMeetingsFrom_44 rfl (by decide) (by decide) rfl ?_
    refine r_goto 3 hc dX4_tellsMeetingsFrom_47 (by decide) ?_
    refine r_sub [2, 3, 4, 5, 0] rfl ?_
    exact hR3 _ _ h
  · refine r_iconst (v := 0) hc dX4_tellsMeetingsFrom_42 (by decide) ?_
    exact r_zret hc dX4_tellsMeetingsFrom_43 h
set_option maxRecDepth 100000 in
set_option maxHeartbeats 4000000 in
theorem u4_tellsMeetingsFrom_25 {κ : KT} {k : Int32 → St → Prop} {o0 : Nat} {i1 : Int32} {i2 : Int32} {i3 : Int32} {R3 : Int32 → St → Prop} {i4 : Int32} {σ : St}  (hc : Cx κ cX4_tellsMeetingsFrom 6 RX4 1 (some .boolean)) (ho0 : kd o0 = 4) (hR3 : ∀ (i4 : Int32) (σ : St), R3 i4 σ → Wd κ 6 (QI κ k) 3 [(0, aK κ o0), (1, .int i1), (2, .int i2), (3, .int i3), (4, .int i4)] [] σ)  (h : x4_tellsMeetingsFrom_25 o0 i1 i2 i3 R3 i4 σ k) : Wd κ 6 (QI κ k) 25 [(0, aK κ o0), (1, .int i1), (2, .int i2), (3, .int i3), (4, .int i4)] [] σ := by
  unfold x4_tellsMeetingsFrom_25 at h
  refine r_iconst (v := 0) hc dX4_tellsMeetingsFrom_25 (by decide) ?_
  exact u4_tellsMeetingsFrom_26 hc (ho0) hR3 h
set_option maxRecDepth 100000 in
set_option maxHeartbeats 4000000 in
theorem u4_tellsMeetingsFrom_3 {κ : KT} {k : Int32 → St → Prop} {o0 : Nat} {i1 : Int32} {i2 : Int32} {i3 : Int32}   (hc : Cx κ cX4_tellsMeetingsFrom 6 RX4 1 (some .boolean)) (ho0 : kd o0 = 4)  : ∀ (n : Nat) (i4 : Int32) (σ : St), x4_tellsMeetingsFrom_3 o0 i1 i2 i3 k n i4 σ → Wd κ 6 (QI κ k) 3 [(0, aK κ o0), (1, .int i1), (2, .int i2), (3, .int i3), (4, .int i4)] [] σ := by
  intro n
  induction n with
  | zero => intro i4 σ h; exact h.elim
  | succ n ih =>
    intro i4 σ h
    unfold x4_tellsMeetingsFrom_3 at h
    refine r_iload 4 hc dX4_tellsMeetingsFrom_3 rfl ?_
    refine r_iload_n 3 hc dX4_tellsMeetingsFrom_5 rfl ?_
    refine r_icmp_ge 50 hc dX4_tellsMeetingsFrom_6 (by decide) h (fun h => ?_) (fun h => ?_)
    · refine r_iconst (v := 1) hc dX4_tellsMeetingsFrom_50 (by decide) ?_
      exact r_zret hc dX4_tellsMeetingsFrom_51 h
    · refine r_iload_n 1 hc dX4_tellsMeetingsFrom_9 rfl ?_
      refine r_ldc hc dX4_tellsMeetingsFrom_10 kX4_22 ?_
      refine r_icmp_eq 25 hc dX4_tellsMeetingsFrom_12 (by decide) h (fun h => ?_) (fun h => ?_)
      · exact u4_tellsMeetingsFrom_25 hc (ho0) ih h
      · refine r_iload 4 hc dX4_tellsMeetingsFrom_15 rfl ?_
        refine r_iload_n 1 hc dX4_tellsMeetingsFrom_17 rfl ?_
        refine r_icmp_lt 25 hc dX4_tellsMeetingsFrom_18 (by decide) h (fun h => ?_) (fun h => ?_)
        · exact u4_tellsMeetingsFrom_25 hc (ho0) ih h
        · refine r_iconst (v := 1) hc dX4_tellsMeetingsFrom_21 (by decide) ?_
          refine r_goto 26 hc dX4_tellsMeetingsFrom_22 (by decide) ?_
          exact u4_tellsMeetingsFrom_26 hc (ho0) ih h
set_option maxRecDepth 100000 in
set_option maxHeartbeats 4000000 in
theorem t4_tellsMeetingsFrom {l : Launch} {o0 : Nat} {i1 : Int32} {i2 : Int32} {i3 : Int32} {σ : St} {k : Int32 → St → Prop} (ho0 : kd o0 = 4) (h : x4_tellsMeetingsFrom o0 i1 i2 i3 σ k) : CI l yX4_tellsMeetingsFrom cX4_tellsMeetingsFrom 6 1 (some .boolean) (fun ad => [.ref (ad o0), .int i1, .int i2, .int i3]) σ k := by
  refine CI.of (lv := fun ad => [(0, .ref (ad o0)), (1, .int i1), (2, .int i2), (3, .int i3)]) (by decide) (fun _ => Nat.le_of_ble_eq_true rfl) (fun _ => rfl) (fun κ hc => ?_)
  show Wd κ 6 (QI κ k) 0 [(0, aK κ o0), (1, .int i1), (2, .int i2), (3, .int i3)] [] σ
  unfold x4_tellsMeetingsFrom at h
  refine r_iconst (v := 0) hc dX4_tellsMeetingsFrom_0 (by decide) ?_
  refine r_istore (lv' := [(4, .int 0), (0, aK κ o0), (1, .int i1), (2, .int i2), (3, .int i3)]) hc dX4_tellsMeetingsFrom_1 (by decide) rfl ?_
  refine r_sub [1, 2, 3, 4, 0] rfl ?_
  obtain ⟨n0, h⟩ := h
  exact u4_tellsMeetingsFrom_3 hc (ho0) n0 _ _ h
set_option maxRecDepth 100000 in
set_option maxHeartbeats 4000000 in
theorem t5_allCallers {l : Launch} {o0 : Nat} {σ : St} {k : Int32 → St → Prop} (ho0 : kd o0 = 5) (h : x5_allCallers o0 σ k) : CI l yX5_allCallers cX5_allCallers 1 1 (some .int) (fun ad => [.ref (ad o0)]) σ k := by
  refine CI.of (lv := fun ad => [(0, .ref (ad o0))]) (by decide) (fun _ => Nat.le_of_ble_eq_true rfl) (fun _ => rfl) (fun κ hc => ?_)
  show Wd κ 1 (QI κ k) 0 [(0, aK κ o0)] [] σ
  unfold x5_allCallers at h
  refine r_iconst (v := 1) hc dX5_allCallers_0 (by decide) ?_
  refine r_aload_n 0 hc dX5_allCallers_1 rfl ?_
  refine r_get (K := 5) (f := 9) hc dX5_allCallers_2 fX5_40 inX5 rfl rfl (by decide) (by decide) ho0 rfl ?_
  refine r_ishl hc dX5_allCallers_5 ?_
  refine r_iconst (v := 1) hc dX5_allCallers_6 (by decide) ?_
  refine r_isub hc dX5_allCallers_7 ?_
  exact r_iret hc dX5_allCallers_8 h
set_option maxRecDepth 100000 in
set_option maxHeartbeats 4000000 in
theorem t5_allDoors {l : Launch} {o0 : Nat} {σ : St} {k : Int32 → St → Prop} (ho0 : kd o0 = 5) (h : x5_allDoors o0 σ k) : CI l yX5_allDoors cX5_allDoors 1 1 (some .int) (fun ad => [.ref (ad o0)]) σ k := by
  refine CI.of (lv := fun ad => [(0, .ref (ad o0))]) (by decide) (fun _ => Nat.le_of_ble_eq_true rfl) (fun _ => rfl) (fun κ hc => ?_)
  show Wd κ 1 (QI κ k) 0 [(0, aK κ o0)] [] σ
  unfold x5_allDoors at h
  refine r_iconst (v := 1) hc dX5_allDoors_0 (by decide) ?_
  refine r_aload_n 0 hc dX5_allDoors_1 rfl ?_
  refine r_get (K := 5) (f := 8) hc dX5_allDoors_2 fX5_36 inX5 rfl rfl (by decide) (by decide) ho0 rfl ?_
  refine r_ishl hc dX5_allDoors_5 ?_
  refine r_iconst (v := 1) hc dX5_allDoors_6 (by decide) ?_
  refine r_isub hc dX5_allDoors_7 ?_
  exact r_iret hc dX5_allDoors_8 h
set_option maxRecDepth 100000 in
set_option maxHeartbeats 4000000 in
theorem u5_heardAt_31 {κ : KT} {k : Int32 → St → Prop} {o0 : Nat} {i1 : Int32} {R4 : Int32 → St → Prop} {i2 : Int32} {σ : St}  (hc : Cx κ cX5_heardAt 3 RX5 2 (some .int)) (ho0 : kd o0 = 5) (hR4 : ∀ (i2 : Int32) (σ : St), R4 i2 σ → Wd κ 3 (QI κ k) 4 [(0, aK κ o0), (1, .int i1), (2, .int i2)] [] σ)  (h : x5_heardAt_31 o0 i1 R4 i2 σ k) : Wd κ 3 (QI κ k) 31 [(0, aK κ o0), (1, .int i1), (2, .int i2)] [] σ := by
  unfold x5_heardAt_31 at h
  refine r_iinc (v := 1) (lv' := [(2, .int (i2 + 1)), (0, aK κ o0), (1, .int i1)]) 2 hc dX5_heardAt_31 rfl (by decide) (by decide) rfl ?_
  refine r_goto 4 hc dX5_heardAt_34 (by decide) ?_
  refine r_sub [1, 2, 0] rfl ?_
  exact hR4 _ _ h
set_option maxRecDepth 100000 in
set_option maxHeartbeats 4000000 in
theorem u5_heardAt_4 {κ : KT} {k : Int32 → St → Prop} {o0 : Nat} {i1 : Int32}   (hc : Cx κ cX5_heardAt 3 RX5 2 (some .int)) (ho0 : kd o0 = 5)  : ∀ (n : Nat) (i2 : Int32) (σ : St), x5_heardAt_4 o0 i1 k n i2 σ → Wd κ 3 (QI κ k) 4 [(0, aK κ o0), (1, .int i1), (2, .int i2)] [] σ := by
  intro n
  induction n with
  | zero => intro i2 σ h; exact h.elim
  | succ n ih =>
    intro i2 σ h
    unfold x5_heardAt_4 at h
    refine r_iload_n 2 hc dX5_heardAt_4 rfl ?_
    refine r_iload_n 1 hc dX5_heardAt_5 rfl ?_
    refine r_iconst (v := 1) hc dX5_heardAt_6 (by decide) ?_
    refine r_iadd hc dX5_heardAt_7 ?_
    refine r_icmp_gt 37 hc dX5_heardAt_8 (by decide) h (fun h => ?_) (fun h => ?_)
    · refine r_iconst (v := 0) hc dX5_heardAt_37 (by decide) ?_
      exact r_iret hc dX5_heardAt_38 h
    · refine r_aload_n 0 hc dX5_heardAt_11 rfl ?_
      refine r_iload_n 2 hc dX5_heardAt_12 rfl ?_
      refine r_cvI [.int i2] hc dX5_heardAt_13 cX5_56 (t5_hasDoor ho0 h) rfl (by decide) ho0 rfl rfl rfl (Nat.le_of_ble_eq_true rfl) (by decide) (by decide) (fun r2 σ3 h => ?_)
      refine r_if_eq 31 hc dX5_heardAt_16 (by decide) h (fun h => ?_) (fun h => ?_)
      · exact u5_heardAt_31 hc (ho0) ih h
      · refine r_aload_n 0 hc dX5_heardAt_19 rfl ?_
        refine r_get (K := 5) (f := 3) hc dX5_heardAt_20 fX5_21 inX5 rfl rfl (by decide) (by decide) ho0 rfl ?_
        refine r_iload_n 2 hc dX5_heardAt_23 rfl ?_
        refine r_iald hc dX5_heardAt_24 (k5_4 ho0) h (fun h => ?_)
        refine r_iconst (v := 1) hc dX5_heardAt_25 (by decide) ?_
        refine r_icmp_ne 31 hc dX5_heardAt_26 (by decide) h (fun h => ?_) (fun h => ?_)
        · refine r_iconst (v := 1) hc dX5_heardAt_29 (by decide) ?_
          exact r_iret hc dX5_heardAt_30 h
        · exact u5_heardAt_31 hc (ho0) ih h
set_option maxRecDepth 100000 in
set_option maxHeartbeats 4000000 in
theorem t5_heardAt {l : Launch} {o0 : Nat} {i1 : Int32} {σ : St} {k : Int32 → St → Prop} (ho0 : kd o0 = 5) (h : x5_heardAt o0 i1 σ k) : CI l yX5_heardAt cX5_heardAt 3 2 (some .int) (fun ad => [.ref (ad o0), .int i1]) σ k := by
  refine CI.of (lv := fun ad => [(0, .ref (ad o0)), (1, .int i1)]) (by decide) (fun _ => Nat.le_of_ble_eq_true rfl) (fun _ => rfl) (fun κ hc => ?_)
  show Wd κ 3 (QI κ k) 0 [(0, aK κ o0), (1, .int i1)] [] σ
  unfold x5_heardAt at h
  refine r_iload_n 1 hc dX5_heardAt_0 rfl ?_
  refine r_iconst (v := 1) hc dX5_heardAt_1 (by decide) ?_
  refine r_isub hc dX5_heardAt_2 ?_
  refine r_nmI h (fun v1 h => ?_)
  refine r_istore_n (lv' := [(2, .int v1), (0, aK κ o0), (1, .int i1)]) hc dX5_heardAt_3 (by decide) rfl ?_
  refine r_sub [1, 2, 0] rfl ?_
  obtain ⟨n0, h⟩ := h
  exact u5_heardAt_4 hc (ho0) n0 _ _ h
set_option maxRecDepth 100000 in
set_option maxHeartbeats 4000000 in
theorem t5_opensBehind {l : Launch} {o0 : Nat} {i1 : Int32} {σ : St} {k : Int32 → St → Prop} (ho0 : kd o0 = 5) (h : x5_opensBehind o0 i1 σ k) : CI l yX5_opensBehind cX5_opensBehind 2 3 (some .int) (fun ad => [.ref (ad o0), .int i1]) σ k := by
  refine CI.of (lv := fun ad => [(0, .ref (ad o0)), (1, .int i1)]) (by decide) (fun _ => Nat.le_of_ble_eq_true rfl) (fun _ => rfl) (fun κ hc => ?_)
  show Wd κ 2 (QI κ k) 0 [(0, aK κ o0), (1, .int i1)] [] σ
  unfold x5_opensBehind at h
  refine r_aload_n 0 hc dX5_opensBehind_0 rfl ?_
  refine r_get (K := 5) (f := 0) hc dX5_opensBehind_1 fX5_9 inX5 rfl rfl (by decide) (by decide) ho0 rfl ?_
  refine r_iload_n 1 hc dX5_opensBehind_4 rfl ?_
  refine r_iald hc dX5_opensBehind_5 (k5_1 ho0) h (fun h => ?_)
  refine r_aload_n 0 hc dX5_opensBehind_6 rfl ?_
  refine r_get (K := 5) (f := 1) hc dX5_opensBehind_7 fX5_15 inX5 rfl rfl (by decide) (by decide) ho0 rfl ?_
  refine r_iload_n 1 hc dX5_opensBehind_10 rfl ?_
  refine r_iald hc dX5_opensBehind_11 (k5_2 ho0) h (fun h => ?_)
  refine r_aload_n 0 hc dX5_opensBehind_12 rfl ?_
  refine r_get (K := 5) (f := 2) hc dX5_opensBehind_13 fX5_18 inX5 rfl rfl (by decide) (by decide) ho0 rfl ?_
  refine r_iload_n 1 hc dX5_opensBehind_16 rfl ?_
  refine r_iald hc dX5_opensBehind_17 (k5_3 ho0) h (fun h => ?_)
  refine r_aload_n 0 hc dX5_opensBehind_18 rfl ?_
  refine r_iload_n 1 hc dX5_opensBehind_19 rfl ?_
  refine r_cvI [.int i1] hc dX5_opensBehind_20 cX5_70 (t5_heardAt ho0 h) rfl (by decide) ho0 rfl rfl rfl (Nat.le_of_ble_eq_true rfl) (by decide) (by decide) (fun r1 σ2 h => ?_)
  refine r_csI [.int (σ (o0 + 1) i1.toNatClampNeg), .int (σ (o0 + 2) i1.toNatClampNeg), .int (σ (o0 + 3) i1.toNatClampNeg), .int r1] hc dX5_opensBehind_23 cX5_74 (t5_opening h) rfl rfl rfl (Nat.le_of_ble_eq_true rfl) (by decide) (by decide) (fun r3 σ4 h => ?_)
  exact r_iret hc dX5_opensBehind_26 h
set_option maxRecDepth 100000 in
set_option maxHeartbeats 4000000 in
theorem t5_staysAs {l : Launch} {o0 : Nat} {i1 : Int32} {i2 : Int32} {i3 : Int32} {σ : St} {k : Int32 → St → Prop} (ho0 : kd o0 = 5) (h : x5_staysAs o0 i1 i2 i3 σ k) : CI l yX5_staysAs cX5_staysAs 4 3 (some .int) (fun ad => [.ref (ad o0), .int i1, .int i2, .int i3]) σ k := by
  refine CI.of (lv := fun ad => [(0, .ref (ad o0)), (1, .int i1), (2, .int i2), (3, .int i3)]) (by decide) (fun _ => Nat.le_of_ble_eq_true rfl) (fun _ => rfl) (fun κ hc => ?_)
  show Wd κ 4 (QI κ k) 0 [(0, aK κ o0), (1, .int i1), (2, .int i2), (3, .int i3)] [] σ
  unfold x5_staysAs at h
  refine r_iload_n 2 hc dX5_staysAs_0 rfl ?_
  refine r_aload_n 0 hc dX5_staysAs_1 rfl ?_
  refine r_get (K := 5) (f := 6) hc dX5_staysAs_2 fX5_30 inX5 rfl rfl (by decide) (by decide) ho0 rfl ?_
  refine r_iload_n 1 hc dX5_staysAs_5 rfl ?_
  refine r_iald hc dX5_staysAs_6 (k5_7 ho0) h (fun h => ?_)
  refine r_aload_n 0 hc dX5_staysAs_7 rfl ?_
  refine r_get (K := 5) (f := 1) hc dX5_staysAs_8 fX5_15 inX5 rfl rfl (by decide) (by decide) ho0 rfl ?_
  refine r_iload_n 3 hc dX5_staysAs_11 rfl ?_
  refine r_iald hc dX5_staysAs_12 (k5_2 ho0) h (fun h => ?_)
  refine r_aload_n 0 hc dX5_staysAs_13 rfl ?_
  refine r_get (K := 5) (f := 2) hc dX5_staysAs_14 fX5_18 inX5 rfl rfl (by decide) (by decide) ho0 rfl ?_
  refine r_iload_n 3 hc dX5_staysAs_17 rfl ?_
  refine r_iald hc dX5_staysAs_18 (k5_3 ho0) h (fun h => ?_)
  refine r_aload_n 0 hc dX5_staysAs_19 rfl ?_
  refine r_iload_n 3 hc dX5_staysAs_20 rfl ?_
  refine r_cvI [.int i3] hc dX5_staysAs_21 cX5_70 (t5_heardAt ho0 h) rfl (by decide) ho0 rfl rfl rfl (Nat.le_of_ble_eq_true rfl) (by decide) (by decide) (fun r1 σ2 h => ?_)
  refine r_csI [.int i2, .int (σ (o0 + 7) i1.toNatClampNeg), .int (σ (o0 + 2) i3.toNatClampNeg), .int (σ (o0 + 3) i3.toNatClampNeg), .int r1] hc dX5_staysAs_24 cX5_82 (t5_staying h) rfl rfl rfl (Nat.le_of_ble_eq_true rfl) (by decide) (by decide) (fun r3 σ4 h => ?_)
  exact r_iret hc dX5_staysAs_27 h
set_option maxRecDepth 100000 in
set_option maxHeartbeats 4000000 in
theorem u5_meetsAs_20 {κ : KT} {k : Int32 → St → Prop} {o0 : Nat} {i1 : Int32} {i2 : Int32} {i3 : Int32}  {s0 : Int32} {σ : St}  (hc : Cx κ cX5_meetsAs 4 RX5 4 (some .boolean)) (ho0 : kd o0 = 5)   (h : x5_meetsAs_20 o0 i1 i2 i3 s0 σ k) : Wd κ 4 (QI κ k) 20 [(0, aK κ o0), (1, .int i1), (2, .int i2), (3, .int i3)] [.int s0] σ := by
  unfold x5_meetsAs_20 at h
  exact r_zret hc dX5_meetsAs_20 h
set_option maxRecDepth 100000 in
set_option maxHeartbeats 4000000 in
theorem t5_meetsAs {l : Launch} {o0 : Nat} {i1 : Int32} {i2 : Int32} {i3 : Int32} {σ : St} {k : Int32 → St → Prop} (ho0 : kd o0 = 5) (h : x5_meetsAs o0 i1 i2 i3 σ k) : CI l yX5_meetsAs cX5_meetsAs 4 4 (some .boolean) (fun ad => [.ref (ad o0), .int i1, .int i2, .int i3]) σ k := by
  refine CI.of (lv := fun ad => [(0, .ref (ad o0)), (1, .int i1), (2, .int i2), (3, .int i3)]) (by decide) (fun _ => Nat.le_of_ble_eq_true rfl) (fun _ => rfl) (fun κ hc => ?_)
  show Wd κ 4 (QI κ k) 0 [(0, aK κ o0), (1, .int i1), (2, .int i2), (3, .int i3)] [] σ
  unfold x5_meetsAs at h
  refine r_aload_n 0 hc dX5_meetsAs_0 rfl ?_
  refine r_iload_n 3 hc dX5_meetsAs_1 rfl ?_
  refine r_cvI [.int i3] hc dX5_meetsAs_2 cX5_90 (t5_opensBehind ho0 h) rfl (by decide) ho0 rfl rfl rfl (Nat.le_of_ble_eq_true rfl) (by decide) (by decide) (fun r1 σ2 h => ?_)
  refine r_aload_n 0 hc dX5_meetsAs_5 rfl ?_
  refine r_iload_n 1 hc dX5_meetsAs_6 rfl ?_
  refine r_iload_n 2 hc dX5_meetsAs_7 rfl ?_
  refine r_iload_n 3 hc dX5_meetsAs_8 rfl ?_
  refine r_cvI [.int i1, .int i2, .int i3] hc dX5_meetsAs_9 cX5_78 (t5_staysAs ho0 h) rfl (by decide) ho0 rfl rfl rfl (Nat.le_of_ble_eq_true rfl) (by decide) (by decide) (fun r3 σ4 h => ?_)
  refine r_icmp_gt 19 hc dX5_meetsAs_12 (by decide) h (fun h => ?_) (fun h => ?_)
  · refine r_iconst (v := 0) hc dX5_meetsAs_19 (by decide) ?_
    exact u5_meetsAs_20 hc (ho0) h
  · refine r_iconst (v := 1) hc dX5_meetsAs_15 (by decide) ?_
    refine r_goto 20 hc dX5_meetsAs_16 (by decide) ?_
    exact u5_meetsAs_20 hc (ho0) h
set_option maxRecDepth 100000 in
set_option maxHeartbeats 4000000 in
theorem u5_firstMeeting_2 {κ : KT} {k : Int32 → St → Prop} {o0 : Nat} {i1 : Int32} {i2 : Int32}   (hc : Cx κ cX5_firstMeeting 4 RX5 5 (some .int)) (ho0 : kd o0 = 5)  : ∀ (n : Nat) (i3 : Int32) (σ : St), x5_firstMeeting_2 o0 i1 i2 k n i3 σ → Wd κ 4 (QI κ k) 2 [(0, aK κ o0), (1, .int i1), (2, .int i2), (3, .int i3)] [] σ := by
  intro n
  induction n with
  | zero => intro i3 σ h; exact h.elim
  | succ n ih =>
    intro i3 σ h
    unfold x5_firstMeeting_2 at h
    refine r_iload_n 3 hc dX5_firstMeeting_2 rfl ?_
    refine r_aload_n 0 hc dX5_firstMeeting_3 rfl ?_
    refine r_get (K := 5) (f := 8) hc dX5_firstMeeting_4 fX5_36 inX5 rfl rfl (by decide) (by decide) ho0 rfl ?_
    refine r_icmp_ge 33 hc dX5_firstMeeting_7 (by decide) h (fun h => ?_) (fun h => ?_)
    · refine r_ldc hc dX5_firstMeeting_33 kX5_100 ?_
      exact r_iret hc dX5_firstMeeting_35 h
    · refine r_aload_n 0 hc dX5_firstMeeting_10 rfl ?_
      refine r_iload_n 1 hc dX5_firstMeeting_11 rfl ?_
      refine r_iload_n 2 hc dX5_firstMeeting_12 rfl ?_
      refine r_aload_n 0 hc dX5_firstMeeting_13 rfl ?_
      refine r_iload_n 1 hc dX5_firstMeeting_14 rfl ?_
      refine r_iload_n 3 hc dX5_firstMeeting_15 rfl ?_
      refine r_cvI [.int i1, .int i3] hc dX5_firstMeeting_16 cX5_101 (t5_placeAfter ho0 h) rfl (by decide) ho0 rfl rfl rfl (Nat.le_of_ble_eq_true rfl) (by decide) (by decide) (fun r1 σ2 h => ?_)
      refine r_cvI [.int i1, .int i2, .int r1] hc dX5_firstMeeting_19 cX5_86 (t5_meetsAs ho0 h) rfl (by decide) ho0 rfl rfl rfl (Nat.le_of_ble_eq_true rfl) (by decide) (by decide) (fun r3 σ4 h => ?_)
      refine r_if_eq 27 hc dX5_firstMeeting_22 (by decide) h (fun h => ?_) (fun h => ?_)
      · refine r_iinc (v := 1) (lv' := [(3, .int (i3 + 1)), (0, aK κ o0), (1, .int i1), (2, .int i2)]) 3 hc dX5_firstMeeting_27 rfl (by decide) (by decide) rfl ?_
        refine r_goto 2 hc dX5_firstMeeting_30 (by decide) ?_
        refine r_sub [1, 2, 3, 0] rfl ?_
        exact ih _ _ h
      · refine r_iload_n 3 hc dX5_firstMeeting_25 rfl ?_
        exact r_iret hc dX5_firstMeeting_26 h
set_option maxRecDepth 100000 in
set_option maxHeartbeats 4000000 in
theorem t5_firstMeeting {l : Launch} {o0 : Nat} {i1 : Int32} {i2 : Int32} {σ : St} {k : Int32 → St → Prop} (ho0 : kd o0 = 5) (h : x5_firstMeeting o0 i1 i2 σ k) : CI l yX5_firstMeeting cX5_firstMeeting 4 5 (some .int) (fun ad => [.ref (ad o0), .int i1, .int i2]) σ k := by
  refine CI.of (lv := fun ad => [(0, .ref (ad o0)), (1, .int i1), (2, .int i2)]) (by decide) (fun _ => Nat.le_of_ble_eq_true rfl) (fun _ => rfl) (fun κ hc => ?_)
  show Wd κ 4 (QI κ k) 0 [(0, aK κ o0), (1, .int i1), (2, .int i2)] [] σ
  unfold x5_firstMeeting at h
  refine r_iconst (v := 0) hc dX5_firstMeeting_0 (by decide) ?_
  refine r_istore_n (lv' := [(3, .int 0), (0, aK κ o0), (1, .int i1), (2, .int i2)]) hc dX5_firstMeeting_1 (by decide) rfl ?_
  refine r_sub [1, 2, 3, 0] rfl ?_
  obtain ⟨n0, h⟩ := h
  exact u5_firstMeeting_2 hc (ho0) n0 _ _ h
set_option maxRecDepth 100000 in
set_option maxHeartbeats 4000000 in
theorem u5_meetingNow_38 {κ : KT} {k : Int32 → St → Prop} {o0 : Nat} {R4 : Int32 → Int32 → St → Prop} {i1 : Int32} {i2 : Int32} {σ : St}  (hc : Cx κ cX5_meetingNow 3 RX5 5 (some .int)) (ho0 : kd o0 = 5) (hR4 : ∀ (i1 : Int32) (i2 : Int32) (σ : St), R4 i1 i2 σ → Wd κ 3 (QI κ k) 4 [(0, aK κ o0), (1, .int i1), (2, .int i2)] [] σ)  (h : x5_meetingNow_38 o0 R4 i1 i2 σ k) : Wd κ 3 (QI κ k) 38 [(0, aK κ o0), (1, .int i1), (2, .int i2)] [] σ := by
  unfold x5_meetingNow_38 at h
  refine r_iinc (v := 1) (lv' := [(2, .int (i2 + 1)), (0, aK κ o0), (1, .int i1)]) 2 hc dX5_meetingNow_38 rfl (by decide) (by decide) rfl ?_
  refine r_goto 4 hc dX5_meetingNow_41 (by decide) ?_
  refine r_sub [1, 2, 0] rfl ?_
  exact hR4 _ _ _ h
set_option maxRecDepth 100000 in
set_option maxHeartbeats 4000000 in
theorem u5_meetingNow_4 {κ : KT} {k : Int32 → St → Prop} {o0 : Nat}   (hc : Cx κ cX5_meetingNow 3 RX5 5 (some .int)) (ho0 : kd o0 = 5)  : ∀ (n : Nat) (i1 : Int32) (i2 : Int32) (σ : St), x5_meetingNow_4 o0 k n i1 i2 σ → Wd κ 3 (QI κ k) 4 [(0, aK κ o0), (1, .int i1), (2, .int i2)] [] σ := by
  intro n
  induction n with
  | zero => intro i1 i2 σ h; exact h.elim
  | succ n ih =>
    intro i1 i2 σ h
    unfold x5_meetingNow_4 at h
    refine r_iload_n 2 hc dX5_meetingNow_4 rfl ?_
    refine r_aload_n 0 hc dX5_meetingNow_5 rfl ?_
    refine r_get (K := 5) (f := 9) hc dX5_meetingNow_6 fX5_40 inX5 rfl rfl (by decide) (by decide) ho0 rfl ?_
    refine r_icmp_ge 44 hc dX5_meetingNow_9 (by decide) h (fun h => ?_) (fun h => ?_)
    · refine r_iload_n 1 hc dX5_meetingNow_44 rfl ?_
      exact r_iret hc dX5_meetingNow_45 h
    · refine r_aload_n 0 hc dX5_meetingNow_12 rfl ?_
      refine r_iload_n 2 hc dX5_meetingNow_13 rfl ?_
      refine r_aload_n 0 hc dX5_meetingNow_14 rfl ?_
      refine r_get (K := 5) (f := 4) hc dX5_meetingNow_15 fX5_24 inX5 rfl rfl (by decide) (by decide) ho0 rfl ?_
      refine r_iload_n 2 hc dX5_meetingNow_18 rfl ?_
      refine r_iald hc dX5_meetingNow_19 (k5_5 ho0) h (fun h => ?_)
      refine r_aload_n 0 hc dX5_meetingNow_20 rfl ?_
      refine r_get (K := 5) (f := 5) hc dX5_meetingNow_21 fX5_27 inX5 rfl rfl (by decide) (by decide) ho0 rfl ?_
      refine r_iload_n 2 hc dX5_meetingNow_24 rfl ?_
      refine r_iald hc dX5_meetingNow_25 (k5_6 ho0) h (fun h => ?_)
      refine r_cvI [.int i2, .int (σ (o0 + 5) i2.toNatClampNeg), .int (σ (o0 + 6) i2.toNatClampNeg)] hc dX5_meetingNow_26 cX5_86 (t5_meetsAs ho0 h) rfl (by decide) ho0 rfl rfl rfl (Nat.le_of_ble_eq_true rfl) (by decide) (by decide) (fun r1 σ2 h => ?_)
      refine r_if_eq 38 hc dX5_meetingNow_29 (by decide) h (fun h => ?_) (fun h => ?_)
      · exact u5_meetingNow_38 hc (ho0) ih h
      · refine r_iload_n 1 hc dX5_meetingNow_32 rfl ?_
        refine r_iconst (v := 1) hc dX5_meetingNow_33 (by decide) ?_
        refine r_iload_n 2 hc dX5_meetingNow_34 rfl ?_
        refine r_ishl hc dX5_meetingNow_35 ?_
        refine r_ior hc dX5_meetingNow_36 ?_
        refine r_nmI h (fun v3 h => ?_)
        refine r_istore_n (lv' := [(1, .int v3), (0, aK κ o0), (2, .int i2)]) hc dX5_meetingNow_37 (by decide) rfl ?_
        refine r_sub [1, 0, 2] rfl ?_
        exact u5_meetingNow_38 hc (ho0) ih h
set_option maxRecDepth 100000 in
set_option maxHeartbeats 4000000 in
theorem t5_meetingNow {l : Launch} {o0 : Nat} {σ : St} {k : Int32 → St → Prop} (ho0 : kd o0 = 5) (h : x5_meetingNow o0 σ k) : CI l yX5_meetingNow cX5_meetingNow 3 5 (some .int) (fun ad => [.ref (ad o0)]) σ k := by
  refine CI.of (lv := fun ad => [(0, .ref (ad o0))]) (by decide) (fun _ => Nat.le_of_ble_eq_true rfl) (fun _ => rfl) (fun κ hc => ?_)
  show Wd κ 3 (QI κ k) 0 [(0, aK κ o0)] [] σ
  unfold x5_meetingNow at h
  refine r_iconst (v := 0) hc dX5_meetingNow_0 (by decide) ?_
  refine r_istore_n (lv' := [(1, .int 0), (0, aK κ o0)]) hc dX5_meetingNow_1 (by decide) rfl ?_
  refine r_iconst (v := 0) hc dX5_meetingNow_2 (by decide) ?_
  refine r_istore_n (lv' := [(2, .int 0), (1, .int 0), (0, aK κ o0)]) hc dX5_meetingNow_3 (by decide) rfl ?_
  refine r_sub [2, 1, 0] rfl ?_
  obtain ⟨n0, h⟩ := h
  exact u5_meetingNow_4 hc (ho0) n0 _ _ _ h
set_option maxRecDepth 100000 in
set_option maxHeartbeats 4000000 in
theorem u5_firstOnNothing_33 {κ : KT} {k : Int32 → St → Prop} {o0 : Nat} {R7 : Int32 → Int32 → St → Prop} {i1 : Int32} {i2 : Int32} {σ : St}  (hc : Cx κ cX5_firstOnNothing 4 RX5 6 (some .int)) (ho0 : kd o0 = 5) (hR7 : ∀ (i1 : Int32) (i2 : Int32) (σ : St), R7 i1 i2 σ → Wd κ 4 (QI κ k) 7 [(0, aK κ o0), (1, .int i1), (2, .int i2)] [] σ)  (h : x5_firstOnNothing_33 o0 R7 i1 i2 σ k) : Wd κ 4 (QI κ k) 33 [(0, aK κ o0), (1, .int i1), (2, .int i2)] [] σ := by
  unfold x5_firstOnNothing_33 at h
  refine r_iinc (v := 1) (lv' := [(2, .int (i2 + 1)), (0, aK κ o0), (1, .int i1)]) 2 hc dX5_firstOnNothing_33 rfl (by decide) (by decide) rfl ?_
  refine r_goto 7 hc dX5_firstOnNothing_36 (by decide) ?_
  refine r_sub [1, 2, 0] rfl ?_
  exact hR7 _ _ _ h
set_option maxRecDepth 100000 in
set_option maxHeartbeats 4000000 in
theorem u5_firstOnNothing_7 {κ : KT} {k : Int32 → St → Prop} {o0 : Nat}   (hc : Cx κ cX5_firstOnNothing 4 RX5 6 (some .int)) (ho0 : kd o0 = 5)  : ∀ (n : Nat) (i1 : Int32) (i2 : Int32) (σ : St), x5_firstOnNothing_7 o0 k n i1 i2 σ → Wd κ 4 (QI κ k) 7 [(0, aK κ o0), (1, .int i1), (2, .int i2)] [] σ := by
  intro n
  induction n with
  | zero => intro i1 i2 σ h; exact h.elim
  | succ n ih =>
    intro i1 i2 σ h
    unfold x5_firstOnNothing_7 at h
    refine r_iload_n 2 hc dX5_firstOnNothing_7 rfl ?_
    refine r_aload_n 0 hc dX5_firstOnNothing_8 rfl ?_
    refine r_get (K := 5) (f := 8) hc dX5_firstOnNothing_9 fX5_36 inX5 rfl rfl (by decide) (by decide) ho0 rfl ?_
    refine r_icmp_ge 39 hc dX5_firstOnNothing_12 (by decide) h (fun h => ?_) (fun h => ?_)
    · refine r_ldc hc dX5_firstOnNothing_39 kX5_100 ?_
      exact r_iret hc dX5_firstOnNothing_41 h
    · refine r_aload_n 0 hc dX5_firstOnNothing_15 rfl ?_
      refine r_iload_n 2 hc dX5_firstOnNothing_16 rfl ?_
      refine r_cvI [.int i2] hc dX5_firstOnNothing_17 cX5_97 (t5_callersAt ho0 h) rfl (by decide) ho0 rfl rfl rfl (Nat.le_of_ble_eq_true rfl) (by decide) (by decide) (fun r3 σ4 h => ?_)
      refine r_istore_n (lv' := [(3, .int r3), (0, aK κ o0), (1, .int i1), (2, .int i2)]) hc dX5_firstOnNothing_20 (by decide) rfl ?_
      refine r_iload_n 0 hc dX5_firstOnNothing_21 rfl ?_
      refine r_if_eq 33 hc dX5_firstOnNothing_22 (by decide) h (fun h => ?_) (fun h => ?_)
      · refine r_sub [1, 2, 3] rfl ?_
        exact u5_firstOnNothing_33 hc (ho0) ih h
      · refine r_iload_n 0 hc dX5_firstOnNothing_25 rfl ?_
        refine r_iload_n 2 hc dX5_firstOnNothing_26 rfl ?_
        refine r_iand hc dX5_firstOnNothing_27 ?_
        refine r_if_ne 33 hc dX5_firstOnNothing_28 (by decide) h (fun h => ?_) (fun h => ?_)
        · refine r_iload_n 3 hc dX5_firstOnNothing_31 rfl ?_
          exact r_iret hc dX5_firstOnNothing_32 h
        · refine r_sub [1, 2, 3] rfl ?_
          exact u5_firstOnNothing_33 hc (ho0) ih h
set_option maxRecDepth 100000 in
set_option maxHeartbeats 4000000 in
theorem t5_firstOnNothing {l : Launch} {o0 : Nat} {σ : St} {k : Int32 → St → Prop} (ho0 : kd o0 = 5) (h : x5_firstOnNothing o0 σ k) : CI l yX5_firstOnNothing cX5_firstOnNothing 4 6 (some .int) (fun ad => [.ref (ad o0)]) σ k := by
  refine CI.of (lv := fun ad => [(0, .ref (ad o0))]) (by decide) (fun _ => Nat.le_of_ble_eq_true rfl) (fun _ => rfl) (fun κ hc => ?_)
  show Wd κ 4 (QI κ k) 0 [(0, aK κ o0)] [] σ
  unfold x5_firstOnNothing at h
  refine r_aload_n 0 hc dX5_firstOnNothing_0 rfl ?_
  refine r_cvI [] hc dX5_firstOnNothing_1 cX5_93 (t5_meetingNow ho0 h) rfl (by decide) ho0 rfl rfl rfl (Nat.le_of_ble_eq_true rfl) (by decide) (by decide) (fun r1 σ2 h => ?_)
  refine r_istore_n (lv' := [(1, .int r1), (0, aK κ o0)]) hc dX5_firstOnNothing_4 (by decide) rfl ?_
  refine r_iconst (v := 0) hc dX5_firstOnNothing_5 (by decide) ?_
  refine r_istore_n (lv' := [(2, .int 0), (1, .int r1), (0, aK κ o0)]) hc dX5_firstOnNothing_6 (by decide) rfl ?_
  refine r_sub [2, 1, 0] rfl ?_
  obtain ⟨n0, h⟩ := h
  exact u5_firstOnNothing_7 hc (ho0) n0 _ _ _ h
set_option maxRecDepth 100000 in
set_option maxHeartbeats 4000000 in
theorem u5_hasCaller_17 {κ : KT} {k : Int32 → St → Prop} {o0 : Nat} {i1 : Int32}  {s0 : Int32} {σ : St}  (hc : Cx κ cX5_hasCaller 2 RX5 1 (some .boolean)) (ho0 : kd o0 = 5)   (h : x5_hasCaller_17 o0 i1 s0 σ k) : Wd κ 2 (QI κ k) 17 [(0, aK κ o0), (1, .int i1)] [.int s0] σ := by
  unfold x5_hasCaller_17 at h
  exact r_zret hc dX5_hasCaller_17 h
set_option maxRecDepth 100000 in
set_option maxHeartbeats 4000000 in
theorem u5_hasCaller_16 {κ : KT} {k : Int32 → St → Prop} {o0 : Nat} {i1 : Int32}   {σ : St}  (hc : Cx κ cX5_hasCaller 2 RX5 1 (some .boolean)) (ho0 : kd o0 = 5)   (h : x5_hasCaller_16 o0 i1 σ k) : Wd κ 2 (QI κ k) 16 [(0, aK κ o0), (1, .int i1)] [] σ := by
  unfold x5_hasCaller_16 at h
  refine r_iconst (v := 0) hc dX5_hasCaller_16 (by decide) ?_
  exact u5_hasCaller_17 hc (ho0) h
set_option maxRecDepth 100000 in
set_option maxHeartbeats 4000000 in
theorem t5_hasCaller {l : Launch} {o0 : Nat} {i1 : Int32} {σ : St} {k : Int32 → St → Prop} (ho0 : kd o0 = 5) (h : x5_hasCaller o0 i1 σ k) : CI l yX5_hasCaller cX5_hasCaller 2 1 (some .boolean) (fun ad => [.ref (ad o0), .int i1]) σ k := by
  refine CI.of (lv := fun ad => [(0, .ref (ad o0)), (1, .int i1)]) (by decide) (fun _ => Nat.le_of_ble_eq_true rfl) (fun _ => rfl) (fun κ hc => ?_)
  show Wd κ 2 (QI κ k) 0 [(0, aK κ o0), (1, .int i1)] [] σ
  unfold x5_hasCaller at h
  refine r_iload_n 1 hc dX5_hasCaller_0 rfl ?_
  refine r_if_lt 16 hc dX5_hasCaller_1 (by decide) h (fun h => ?_) (fun h => ?_)
  · exact u5_hasCaller_16 hc (ho0) h
  · refine r_iload_n 1 hc dX5_hasCaller_4 rfl ?_
    refine r_aload_n 0 hc dX5_hasCaller_5 rfl ?_
    refine r_get (K := 5) (f := 9) hc dX5_hasCaller_6 fX5_40 inX5 rfl rfl (by decide) (by decide) ho0 rfl ?_
    refine r_icmp_ge 16 hc dX5_hasCaller_9 (by decide) h (fun h => ?_) (fun h => ?_)
    · exact u5_hasCaller_16 hc (ho0) h
    · refine r_iconst (v := 1) hc dX5_hasCaller_12 (by decide) ?_
      refine r_goto 17 hc dX5_hasCaller_13 (by decide) ?_
      exact u5_hasCaller_17 hc (ho0) h
set_option maxRecDepth 100000 in
set_option maxHeartbeats 4000000 in
theorem t5_isMeeting {l : Launch} {o0 : Nat} {i1 : Int32} {σ : St} {k : Int32 → St → Prop} (ho0 : kd o0 = 5) (h : x5_isMeeting o0 i1 σ k) : CI l yX5_isMeeting cX5_isMeeting 2 5 (some .boolean) (fun ad => [.ref (ad o0), .int i1]) σ k := by
  refine CI.of (lv := fun ad => [(0, .ref (ad o0)), (1, .int i1)]) (by decide) (fun _ => Nat.le_of_ble_eq_true rfl) (fun _ => rfl) (fun κ hc => ?_)
  show Wd κ 2 (QI κ k) 0 [(0, aK κ o0), (1, .int i1)] [] σ
  unfold x5_isMeeting at h
  refine r_aload_n 0 hc dX5_isMeeting_0 rfl ?_
  refine r_iload_n 1 hc dX5_isMeeting_1 rfl ?_
  refine r_aload_n 0 hc dX5_isMeeting_2 rfl ?_
  refine r_get (K := 5) (f := 4) hc dX5_isMeeting_3 fX5_24 inX5 rfl rfl (by decide) (by decide) ho0 rfl ?_
  refine r_iload_n 1 hc dX5_isMeeting_6 rfl ?_
  refine r_iald hc dX5_isMeeting_7 (k5_5 ho0) h (fun h => ?_)
  refine r_aload_n 0 hc dX5_isMeeting_8 rfl ?_
  refine r_get (K := 5) (f := 5) hc dX5_isMeeting_9 fX5_27 inX5 rfl rfl (by decide) (by decide) ho0 rfl ?_
  refine r_iload_n 1 hc dX5_isMeeting_12 rfl ?_
  refine r_iald hc dX5_isMeeting_13 (k5_6 ho0) h (fun h => ?_)
  refine r_cvI [.int i1, .int (σ (o0 + 5) i1.toNatClampNeg), .int (σ (o0 + 6) i1.toNatClampNeg)] hc dX5_isMeeting_14 cX5_86 (t5_meetsAs ho0 h) rfl (by decide) ho0 rfl rfl rfl (Nat.le_of_ble_eq_true rfl) (by decide) (by decide) (fun r1 σ2 h => ?_)
  exact r_zret hc dX5_isMeeting_17 h
set_option maxRecDepth 100000 in
set_option maxHeartbeats 4000000 in
theorem u5_isTold_12 {κ : KT} {k : Int32 → St → Prop} {o0 : Nat}  {s0 : Int32} {σ : St}  (hc : Cx κ cX5_isTold 1 RX5 1 (some .boolean)) (ho0 : kd o0 = 5)   (h : x5_isTold_12 o0 s0 σ k) : Wd κ 1 (QI κ k) 12 [(0, aK κ o0)] [.int s0] σ := by
  unfold x5_isTold_12 at h
  exact r_zret hc dX5_isTold_12 h
set_option maxRecDepth 100000 in
set_option maxHeartbeats 4000000 in
theorem t5_isTold {l : Launch} {o0 : Nat} {σ : St} {k : Int32 → St → Prop} (ho0 : kd o0 = 5) (h : x5_isTold o0 σ k) : CI l yX5_isTold cX5_isTold 1 1 (some .boolean) (fun ad => [.ref (ad o0)]) σ k := by
  refine CI.of (lv := fun ad => [(0, .ref (ad o0))]) (by decide) (fun _ => Nat.le_of_ble_eq_true rfl) (fun _ => rfl) (fun κ hc => ?_)
  show Wd κ 1 (QI κ k) 0 [(0, aK κ o0)] [] σ
  unfold x5_isTold at h
  refine r_aload_n 0 hc dX5_isTold_0 rfl ?_
  refine r_get (K := 5) (f := 8) hc dX5_isTold_1 fX5_36 inX5 rfl rfl (by decide) (by decide) ho0 rfl ?_
  refine r_if_le 11 hc dX5_isTold_4 (by decide) h (fun h => ?_) (fun h => ?_)
  · refine r_iconst (v := 0) hc dX5_isTold_11 (by decide) ?_
    exact u5_isTold_12 hc (ho0) h
  · refine r_iconst (v := 1) hc dX5_isTold_7 (by decide) ?_
    refine r_goto 12 hc dX5_isTold_8 (by decide) ?_
    exact u5_isTold_12 hc (ho0) h
set_option maxRecDepth 100000 in
set_option maxHeartbeats 4000000 in
theorem u5_layByDraw_70 {κ : KT} {k : St → Prop} {o0 : Nat} {l1 : Int64}   {σ : St}  (hc : Cx κ cX5_layByDraw 4 RX5 1 none) (ho0 : kd o0 = 5)   (h : x5_layByDraw_70 o0 l1 σ k) : Wd κ 4 (QV κ k) 70 [(0, aK κ o0), (1, .long l1)] [] σ := by
  unfold x5_layByDraw_70 at h
  exact r_vret hc dX5_layByDraw_70 h
set_option maxRecDepth 100000 in
set_option maxHeartbeats 4000000 in
theorem u5_layByDraw_69 {κ : KT} {k : St → Prop} {o0 : Nat} {l1 : Int64}  {s2 : Int32} {s1 : Int32} {so0 : Nat} {σ : St}  (hc : Cx κ cX5_layByDraw 4 RX5 1 none) (ho0 : kd o0 = 5)  (hso0 : kd so0 = 8) (h : x5_layByDraw_69 o0 l1 s2 s1 so0 σ k) : Wd κ 4 (QV κ k) 69 [(0, aK κ o0), (1, .long l1)] [.int s2, .int s1, aK κ so0] σ := by
  unfold x5_layByDraw_69 at h
  refine r_iast hc dX5_layByDraw_69 hso0 h (fun h => ?_)
  refine r_nmS h (fun σ4 h => ?_)
  exact u5_layByDraw_70 hc (ho0) h
set_option maxRecDepth 100000 in
set_option maxHeartbeats 4000000 in
theorem u5_layByDraw_48 {κ : KT} {k : St → Prop} {o0 : Nat} {l1 : Int64}  {i3 : Int32} {s2 : Int32} {s1 : Int32} {so0 : Nat} {σ : St}  (hc : Cx κ cX5_layByDraw 4 RX5 1 none) (ho0 : kd o0 = 5)  (hso0 : kd so0 = 8) (h : x5_layByDraw_48 o0 l1 i3 s2 s1 so0 σ k) : Wd κ 4 (QV κ k) 48 [(0, aK κ o0), (1, .long l1), (3, .int i3)] [.int s2, .int s1, aK κ so0] σ := by
  unfold x5_layByDraw_48 at h
  refine r_iast hc dX5_layByDraw_48 hso0 h (fun h => ?_)
  refine r_nmS h (fun σ3 h => ?_)
  refine r_aload_n 0 hc dX5_layByDraw_49 rfl ?_
  refine r_get (K := 5) (f := 3) hc dX5_layByDraw_50 fX5_21 inX5 rfl rfl (by decide) (by decide) ho0 rfl ?_
  refine r_iload_n 2 hc dX5_layByDraw_53 rfl ?_
  refine r_lload_n 1 hc dX5_layByDraw_54 rfl ?_
  refine r_ldc2 hc dX5_layByDraw_55 kX5_109 ?_
  refine r_lrem hc dX5_layByDraw_58 h (fun h => ?_)
  refine r_lconst (v := 0) hc dX5_layByDraw_59 (by decide) ?_
  refine r_lcmp hc dX5_layByDraw_60 ?_
  refine r_if_ne 68 hc dX5_layByDraw_61 (by decide) h (fun h => ?_) (fun h => ?_)
  · refine r_iconst (v := 1) hc dX5_layByDraw_64 (by decide) ?_
    refine r_goto 69 hc dX5_layByDraw_65 (by decide) ?_
    refine r_sub [0, 1] rfl ?_
    exact u5_layByDraw_69 hc (ho0) (k5_4 ho0) h
  · refine r_iconst (v := 0) hc dX5_layByDraw_68 (by decide) ?_
    refine r_sub [0, 1] rfl ?_
    exact u5_layByDraw_69 hc (ho0) (k5_4 ho0) h
set_option maxRecDepth 100000 in
set_option maxHeartbeats 4000000 in
theorem t5_layByDraw {l : Launch} {o0 : Nat} {l1 : Int64} {σ : St} {k : St → Prop} (ho0 : kd o0 = 5) (h : x5_layByDraw o0 l1 σ k) : CV l yX5_layByDraw cX5_layByDraw 4 1 none (fun ad => [.ref (ad o0), .long l1]) σ k := by
  refine CV.of (lv := fun ad => [(0, .ref (ad o0)), (1, .long l1)]) (by decide) (fun _ => Nat.le_of_ble_eq_true rfl) (fun _ => rfl) (fun κ hc => ?_)
  show Wd κ 4 (QV κ k) 0 [(0, aK κ o0), (1, .long l1)] [] σ
  unfold x5_layByDraw at h
  refine r_aload_n 0 hc dX5_layByDraw_0 rfl ?_
  refine r_get (K := 5) (f := 8) hc dX5_layByDraw_1 fX5_36 inX5 rfl rfl (by decide) (by decide) ho0 rfl ?_
  refine r_if_le 70 hc dX5_layByDraw_4 (by decide) h (fun h => ?_) (fun h => ?_)
  · exact u5_layByDraw_70 hc (ho0) h
  · refine r_lload_n 1 hc dX5_layByDraw_7 rfl ?_
    refine r_aload_n 0 hc dX5_layByDraw_8 rfl ?_
    refine r_get (K := 5) (f := 8) hc dX5_layByDraw_9 fX5_36 inX5 rfl rfl (by decide) (by decide) ho0 rfl ?_
    refine r_i2l hc dX5_layByDraw_12 ?_
    refine r_lrem hc dX5_layByDraw_13 h (fun h => ?_)
    refine r_l2i hc dX5_layByDraw_14 ?_
    refine r_nmI h (fun v1 h => ?_)
    refine r_istore_n (lv' := [(3, .int v1), (0, aK κ o0), (1, .long l1)]) hc dX5_layByDraw_15 (by decide) rfl ?_
    refine r_aload_n 1 hc dX5_layByDraw_16 rfl ?_
    refine r_get (K := 5) (f := 1) hc dX5_layByDraw_17 fX5_15 inX5 rfl rfl (by decide) (by decide) ho0 rfl ?_
    refine r_iload_n 0 hc dX5_layByDraw_20 rfl ?_
    refine r_lload_n 2 hc dX5_layByDraw_21 rfl ?_
    refine r_ldc2 hc dX5_layByDraw_22 kX5_105 ?_
    refine r_lrem hc dX5_layByDraw_25 h (fun h => ?_)
    refine r_l2i hc dX5_layByDraw_26 ?_
    refine r_iast hc dX5_layByDraw_27 (k5_2 ho0) h (fun h => ?_)
    refine r_nmS h (fun σ2 h => ?_)
    refine r_aload_n 1 hc dX5_layByDraw_28 rfl ?_
    refine r_get (K := 5) (f := 2) hc dX5_layByDraw_29 fX5_18 inX5 rfl rfl (by decide) (by decide) ho0 rfl ?_
    refine r_iload_n 0 hc dX5_layByDraw_32 rfl ?_
    refine r_lload_n 2 hc dX5_layByDraw_33 rfl ?_
    refine r_ldc2 hc dX5_layByDraw_34 kX5_107 ?_
    refine r_lrem hc dX5_layByDraw_37 h (fun h => ?_)
    refine r_lconst (v := 0) hc dX5_layByDraw_38 (by decide) ?_
    refine r_lcmp hc dX5_layByDraw_39 ?_
    refine r_if_ne 47 hc dX5_layByDraw_40 (by decide) h (fun h => ?_) (fun h => ?_)
    · refine r_iconst (v := 1) hc dX5_layByDraw_43 (by decide) ?_
      refine r_goto 48 hc dX5_layByDraw_44 (by decide) ?_
      refine r_sub [1, 2, 0] rfl ?_
      exact u5_layByDraw_48 hc (ho0) (k5_3 ho0) h
    · refine r_iconst (v := 0) hc dX5_layByDraw_47 (by decide) ?_
      refine r_sub [1, 2, 0] rfl ?_
      exact u5_layByDraw_48 hc (ho0) (k5_3 ho0) h
set_option maxRecDepth 100000 in
set_option maxHeartbeats 4000000 in
theorem u5_sum_4 {κ : KT} {k : Int32 → St → Prop} {o0 : Nat} {i1 : Int32}   (hc : Cx κ cX5_sum 4 RX5 1 (some .int)) (ho0 : kd o0 = 8)  : ∀ (n : Nat) (i2 : Int32) (i3 : Int32) (σ : St), x5_sum_4 o0 i1 k n i2 i3 σ → Wd κ 4 (QI κ k) 4 [(0, aK κ o0), (1, .int i1), (2, .int i2), (3, .int i3)] [] σ := by
  intro n
  induction n with
  | zero => intro i2 i3 σ h; exact h.elim
  | succ n ih =>
    intro i2 i3 σ h
    unfold x5_sum_4 at h
    refine r_iload_n 3 hc dX5_sum_4 rfl ?_
    refine r_iload_n 1 hc dX5_sum_5 rfl ?_
    refine r_icmp_ge 21 hc dX5_sum_6 (by decide) h (fun h => ?_) (fun h => ?_)
    · refine r_iload_n 2 hc dX5_sum_21 rfl ?_
      exact r_iret hc dX5_sum_22 h
    · refine r_iload_n 2 hc dX5_sum_9 rfl ?_
      refine r_aload_n 0 hc dX5_sum_10 rfl ?_
      refine r_iload_n 3 hc dX5_sum_11 rfl ?_
      refine r_iald hc dX5_sum_12 ho0 h (fun h => ?_)
      refine r_iadd hc dX5_sum_13 ?_
      refine r_nmI h (fun v1 h => ?_)
      refine r_istore_n (lv' := [(2, .int v1), (0, aK κ o0), (1, .int i1), (3, .int i3)]) hc dX5_sum_14 (by decide) rfl ?_
      refine r_iinc (v := 1) (lv' := [(3, .int (i3 + 1)), (2, .int v1), (0, aK κ o0), (1, .int i1)]) 3 hc dX5_sum_15 rfl (by decide) (by decide) rfl ?_
      refine r_goto 4 hc dX5_sum_18 (by decide) ?_
      refine r_sub [2, 3, 1, 0] rfl ?_
      exact ih _ _ _ h
set_option maxRecDepth 100000 in
set_option maxHeartbeats 4000000 in
theorem t5_sum {l : Launch} {o0 : Nat} {i1 : Int32} {σ : St} {k : Int32 → St → Prop} (ho0 : kd o0 = 8) (h : x5_sum o0 i1 σ k) : CI l yX5_sum cX5_sum 4 1 (some .int) (fun ad => [.ref (ad o0), .int i1]) σ k := by
  refine CI.of (lv := fun ad => [(0, .ref (ad o0)), (1, .int i1)]) (by decide) (fun _ => Nat.le_of_ble_eq_true rfl) (fun _ => rfl) (fun κ hc => ?_)
  show Wd κ 4 (QI κ k) 0 [(0, aK κ o0), (1, .int i1)] [] σ
  unfold x5_sum at h
  refine r_iconst (v := 0) hc dX5_sum_0 (by decide) ?_
  refine r_istore_n (lv' := [(2, .int 0), (0, aK κ o0), (1, .int i1)]) hc dX5_sum_1 (by decide) rfl ?_
  refine r_iconst (v := 0) hc dX5_sum_2 (by decide) ?_
  refine r_istore_n (lv' := [(3, .int 0), (2, .int 0), (0, aK κ o0), (1, .int i1)]) hc dX5_sum_3 (by decide) rfl ?_
  refine r_sub [2, 3, 1, 0] rfl ?_
  obtain ⟨n0, h⟩ := h
  exact u5_sum_4 hc (ho0) n0 _ _ _ h
set_option maxRecDepth 100000 in
set_option maxHeartbeats 4000000 in
theorem t5_metsAdded {l : Launch} {o0 : Nat} {σ : St} {k : Int32 → St → Prop} (ho0 : kd o0 = 5) (h : x5_metsAdded o0 σ k) : CI l yX5_metsAdded cX5_metsAdded 1 2 (some .int) (fun ad => [.ref (ad o0)]) σ k := by
  refine CI.of (lv := fun ad => [(0, .ref (ad o0))]) (by decide) (fun _ => Nat.le_of_ble_eq_true rfl) (fun _ => rfl) (fun κ hc => ?_)
  show Wd κ 1 (QI κ k) 0 [(0, aK κ o0)] [] σ
  unfold x5_metsAdded at h
  refine r_aload_n 0 hc dX5_metsAdded_0 rfl ?_
  refine r_get (K := 5) (f := 7) hc dX5_metsAdded_1 fX5_33 inX5 rfl rfl (by decide) (by decide) ho0 rfl ?_
  refine r_aload_n 0 hc dX5_metsAdded_4 rfl ?_
  refine r_get (K := 5) (f := 9) hc dX5_metsAdded_5 fX5_40 inX5 rfl rfl (by decide) (by decide) ho0 rfl ?_
  refine r_csI [aK κ (o0 + 8), .int (σ o0 9)] hc dX5_metsAdded_8 cX5_66 (t5_sum (k5_8 ho0) h) rfl rfl rfl (Nat.le_of_ble_eq_true rfl) (by decide) (by decide) (fun r1 σ2 h => ?_)
  exact r_iret hc dX5_metsAdded_11 h
set_option maxRecDepth 100000 in
set_option maxHeartbeats 4000000 in
theorem u5_passDay_49 {κ : KT} {k : Int32 → St → Prop} {o0 : Nat} {R7 : Int32 → Int32 → St → Prop} {i1 : Int32} {i2 : Int32} {σ : St}  (hc : Cx κ cX5_passDay 3 RX5 6 (some .int)) (ho0 : kd o0 = 5) (hR7 : ∀ (i1 : Int32) (i2 : Int32) (σ : St), R7 i1 i2 σ → Wd κ 3 (QI κ k) 7 [(0, aK κ o0), (1, .int i1), (2, .int i2)] [] σ)  (h : x5_passDay_49 o0 R7 i1 i2 σ k) : Wd κ 3 (QI κ k) 49 [(0, aK κ o0), (1, .int i1), (2, .int i2)] [] σ := by
  unfold x5_passDay_49 at h
  refine r_iinc (v := 1) (lv' := [(2, .int (i2 + 1)), (0, aK κ o0), (1, .int i1)]) 2 hc dX5_passDay_49 rfl (by decide) (by decide) rfl ?_
  refine r_goto 7 hc dX5_passDay_52 (by decide) ?_
  refine r_sub [1, 2, 0] rfl ?_
  exact hR7 _ _ _ h
set_option maxRecDepth 100000 in
set_option maxHeartbeats 4000000 in
theorem u5_passDay_7 {κ : KT} {k : Int32 → St → Prop} {o0 : Nat}   (hc : Cx κ cX5_passDay 3 RX5 6 (some .int)) (ho0 : kd o0 = 5)  : ∀ (n : Nat) (i1 : Int32) (i2 : Int32) (σ : St), x5_passDay_7 o0 k n i1 i2 σ → Wd κ 3 (QI κ k) 7 [(0, aK κ o0), (1, .int i1), (2, .int i2)] [] σ := by
  intro n
  induction n with
  | zero => intro i1 i2 σ h; exact h.elim
  | succ n ih =>
    intro i1 i2 σ h
    unfold x5_passDay_7 at h
    refine r_iload_n 2 hc dX5_passDay_7 rfl ?_
    refine r_aload_n 0 hc dX5_passDay_8 rfl ?_
    refine r_get (K := 5) (f := 9) hc dX5_passDay_9 fX5_40 inX5 rfl rfl (by decide) (by decide) ho0 rfl ?_
    refine r_icmp_ge 55 hc dX5_passDay_12 (by decide) h (fun h => ?_) (fun h => ?_)
    · refine r_aload_n 0 hc dX5_passDay_55 rfl ?_
      refine r_dup hc dX5_passDay_56 rfl ?_
      refine r_get (K := 5) (f := 12) hc dX5_passDay_57 fX5_49 inX5 rfl rfl (by decide) (by decide) ho0 rfl ?_
      refine r_iconst (v := 1) hc dX5_passDay_60 (by decide) ?_
      refine r_iadd hc dX5_passDay_61 ?_
      refine r_put (K := 5) (f := 12) hc dX5_passDay_62 fX5_49 inX5 tyX5_ok nmX5 rfl rfl rfl rfl (by decide) (by decide) ho0 rfl ?_
      refine r_nmS h (fun σ3 h => ?_)
      refine r_iload_n 1 hc dX5_passDay_65 rfl ?_
      exact r_iret hc dX5_passDay_66 h
    · refine r_iload_n 1 hc dX5_passDay_15 rfl ?_
      refine r_iload_n 2 hc dX5_passDay_16 rfl ?_
      refine r_ishr hc dX5_passDay_17 ?_
      refine r_iconst (v := 1) hc dX5_passDay_18 (by decide) ?_
      refine r_iand hc dX5_passDay_19 ?_
      refine r_iconst (v := 1) hc dX5_passDay_20 (by decide) ?_
      refine r_icmp_ne 37 hc dX5_passDay_21 (by decide) h (fun h => ?_) (fun h => ?_)
      · refine r_aload_n 0 hc dX5_passDay_24 rfl ?_
        refine r_get (K := 5) (f := 7) hc dX5_passDay_25 fX5_33 inX5 rfl rfl (by decide) (by decide) ho0 rfl ?_
        refine r_iload_n 2 hc dX5_passDay_28 rfl ?_
        refine r_dup2 hc dX5_passDay_29 rfl rfl ?_
        refine r_iald hc dX5_passDay_30 (k5_8 ho0) h (fun h => ?_)
        refine r_iconst (v := 1) hc dX5_passDay_31 (by decide) ?_
        refine r_iadd hc dX5_passDay_32 ?_
        refine r_iast hc dX5_passDay_33 (k5_8 ho0) h (fun h => ?_)
        refine r_nmS h (fun σ4 h => ?_)
        refine r_goto 49 hc dX5_passDay_34 (by decide) ?_
        exact u5_passDay_49 hc (ho0) ih h
      · refine r_aload_n 0 hc dX5_passDay_37 rfl ?_
        refine r_get (K := 5) (f := 5) hc dX5_passDay_38 fX5_27 inX5 rfl rfl (by decide) (by decide) ho0 rfl ?_
        refine r_iload_n 2 hc dX5_passDay_41 rfl ?_
        refine r_aload_n 0 hc dX5_passDay_42 rfl ?_
        refine r_iload_n 2 hc dX5_passDay_43 rfl ?_
        refine r_iconst (v := 1) hc dX5_passDay_44 (by decide) ?_
        refine r_cvI [.int i2, .int 1] hc dX5_passDay_45 cX5_101 (t5_placeAfter ho0 h) rfl (by decide) ho0 rfl rfl rfl (Nat.le_of_ble_eq_true rfl) (by decide) (by decide) (fun r5 σ6 h => ?_)
        refine r_iast hc dX5_passDay_48 (k5_6 ho0) h (fun h => ?_)
        refine r_nmS h (fun σ7 h => ?_)
        exact u5_passDay_49 hc (ho0) ih h
set_option maxRecDepth 100000 in
set_option maxHeartbeats 4000000 in
theorem t5_passDay {l : Launch} {o0 : Nat} {σ : St} {k : Int32 → St → Prop} (ho0 : kd o0 = 5) (h : x5_passDay o0 σ k) : CI l yX5_passDay cX5_passDay 3 6 (some .int) (fun ad => [.ref (ad o0)]) σ k := by
  refine CI.of (lv := fun ad => [(0, .ref (ad o0))]) (by decide) (fun _ => Nat.le_of_ble_eq_true rfl) (fun _ => rfl) (fun κ hc => ?_)
  show Wd κ 3 (QI κ k) 0 [(0, aK κ o0)] [] σ
  unfold x5_passDay at h
  refine r_aload_n 0 hc dX5_passDay_0 rfl ?_
  refine r_cvI [] hc dX5_passDay_1 cX5_93 (t5_meetingNow ho0 h) rfl (by decide) ho0 rfl rfl rfl (Nat.le_of_ble_eq_true rfl) (by decide) (by decide) (fun r1 σ2 h => ?_)
  refine r_istore_n (lv' := [(1, .int r1), (0, aK κ o0)]) hc dX5_passDay_4 (by decide) rfl ?_
  refine r_iconst (v := 0) hc dX5_passDay_5 (by decide) ?_
  refine r_istore_n (lv' := [(2, .int 0), (1, .int r1), (0, aK κ o0)]) hc dX5_passDay_6 (by decide) rfl ?_
  refine r_sub [2, 1, 0] rfl ?_
  obtain ⟨n0, h⟩ := h
  exact u5_passDay_7 hc (ho0) n0 _ _ _ h
set_option maxRecDepth 100000 in
set_option maxHeartbeats 4000000 in
theorem t5_placesAdded {l : Launch} {o0 : Nat} {σ : St} {k : Int32 → St → Prop} (ho0 : kd o0 = 5) (h : x5_placesAdded o0 σ k) : CI l yX5_placesAdded cX5_placesAdded 1 2 (some .int) (fun ad => [.ref (ad o0)]) σ k := by
  refine CI.of (lv := fun ad => [(0, .ref (ad o0))]) (by decide) (fun _ => Nat.le_of_ble_eq_true rfl) (fun _ => rfl) (fun κ hc => ?_)
  show Wd κ 1 (QI κ k) 0 [(0, aK κ o0)] [] σ
  unfold x5_placesAdded at h
  refine r_aload_n 0 hc dX5_placesAdded_0 rfl ?_
  refine r_get (K := 5) (f := 5) hc dX5_placesAdded_1 fX5_27 inX5 rfl rfl (by decide) (by decide) ho0 rfl ?_
  refine r_aload_n 0 hc dX5_placesAdded_4 rfl ?_
  refine r_get (K := 5) (f := 9) hc dX5_placesAdded_5 fX5_40 inX5 rfl rfl (by decide) (by decide) ho0 rfl ?_
  refine r_csI [aK κ (o0 + 6), .int (σ o0 9)] hc dX5_placesAdded_8 cX5_66 (t5_sum (k5_6 ho0) h) rfl rfl rfl (Nat.le_of_ble_eq_true rfl) (by decide) (by decide) (fun r1 σ2 h => ?_)
  exact r_iret hc dX5_placesAdded_11 h
set_option maxRecDepth 100000 in
set_option maxHeartbeats 4000000 in
theorem t5_staysHowLong {l : Launch} {o0 : Nat} {i1 : Int32} {σ : St} {k : Int32 → St → Prop} (ho0 : kd o0 = 5) (h : x5_staysHowLong o0 i1 σ k) : CI l yX5_staysHowLong cX5_staysHowLong 2 4 (some .int) (fun ad => [.ref (ad o0), .int i1]) σ k := by
  refine CI.of (lv := fun ad => [(0, .ref (ad o0)), (1, .int i1)]) (by decide) (fun _ => Nat.le_of_ble_eq_true rfl) (fun _ => rfl) (fun κ hc => ?_)
  show Wd κ 2 (QI κ k) 0 [(0, aK κ o0), (1, .int i1)] [] σ
  unfold x5_staysHowLong at h
  refine r_aload_n 0 hc dX5_staysHowLong_0 rfl ?_
  refine r_iload_n 1 hc dX5_staysHowLong_1 rfl ?_
  refine r_aload_n 0 hc dX5_staysHowLong_2 rfl ?_
  refine r_get (K := 5) (f := 4) hc dX5_staysHowLong_3 fX5_24 inX5 rfl rfl (by decide) (by decide) ho0 rfl ?_
  refine r_iload_n 1 hc dX5_staysHowLong_6 rfl ?_
  refine r_iald hc dX5_staysHowLong_7 (k5_5 ho0) h (fun h => ?_)
  refine r_aload_n 0 hc dX5_staysHowLong_8 rfl ?_
  refine r_get (K := 5) (f := 5) hc dX5_staysHowLong_9 fX5_27 inX5 rfl rfl (by decide) (by decide) ho0 rfl ?_
  refine r_iload_n 1 hc dX5_staysHowLong_12 rfl ?_
  refine r_iald hc dX5_staysHowLong_13 (k5_6 ho0) h (fun h => ?_)
  refine r_cvI [.int i1, .int (σ (o0 + 5) i1.toNatClampNeg), .int (σ (o0 + 6) i1.toNatClampNeg)] hc dX5_staysHowLong_14 cX5_78 (t5_staysAs ho0 h) rfl (by decide) ho0 rfl rfl rfl (Nat.le_of_ble_eq_true rfl) (by decide) (by decide) (fun r1 σ2 h => ?_)
  exact r_iret hc dX5_staysHowLong_17 h
set_option maxRecDepth 100000 in
set_option maxHeartbeats 4000000 in
theorem t5_takeOver {l : Launch} {o0 : Nat} {o1 : Nat} {σ : St} {k : St → Prop} (ho0 : kd o0 = 5) (ho1 : kd o1 = 5) (h : x5_takeOver o0 o1 σ k) : CV l yX5_takeOver cX5_takeOver 2 1 none (fun ad => [.ref (ad o0), .ref (ad o1)]) σ k := by
  refine CV.of (lv := fun ad => [(0, .ref (ad o0)), (1, .ref (ad o1))]) (by decide) (fun _ => Nat.le_of_ble_eq_true rfl) (fun _ => rfl) (fun κ hc => ?_)
  show Wd κ 2 (QV κ k) 0 [(0, aK κ o0), (1, aK κ o1)] [] σ
  unfold x5_takeOver at h
  refine r_aload_n 1 hc dX5_takeOver_0 rfl ?_
  refine r_get (K := 5) (f := 0) hc dX5_takeOver_1 fX5_9 inX5 rfl rfl (by decide) (by decide) ho1 rfl ?_
  refine r_iconst (v := 0) hc dX5_takeOver_4 (by decide) ?_
  refine r_aload_n 0 hc dX5_takeOver_5 rfl ?_
  refine r_get (K := 5) (f := 0) hc dX5_takeOver_6 fX5_9 inX5 rfl rfl (by decide) (by decide) ho0 rfl ?_
  refine r_iconst (v := 0) hc dX5_takeOver_9 (by decide) ?_
  refine r_bipush (v := 6) hc dX5_takeOver_10 (by decide) ?_
  refine r_cpy hc dX5_takeOver_12 mX5_60 wNat_cpy wStat_cpy wIni_Sys (k5_1 ho1) (k5_1 ho0) (by decide) (Nat.le_of_ble_eq_true rfl) h (fun h => ?_)
  refine r_nmS h (fun σ1 h => ?_)
  refine r_aload_n 1 hc dX5_takeOver_15 rfl ?_
  refine r_get (K := 5) (f := 1) hc dX5_takeOver_16 fX5_15 inX5 rfl rfl (by decide) (by decide) ho1 rfl ?_
  refine r_iconst (v := 0) hc dX5_takeOver_19 (by decide) ?_
  refine r_aload_n 0 hc dX5_takeOver_20 rfl ?_
  refine r_get (K := 5) (f := 1) hc dX5_takeOver_21 fX5_15 inX5 rfl rfl (by decide) (by decide) ho0 rfl ?_
  refine r_iconst (v := 0) hc dX5_takeOver_24 (by decide) ?_
  refine r_bipush (v := 6) hc dX5_takeOver_25 (by decide) ?_
  refine r_cpy hc dX5_takeOver_27 mX5_60 wNat_cpy wStat_cpy wIni_Sys (k5_2 ho1) (k5_2 ho0) (by decide) (Nat.le_of_ble_eq_true rfl) h (fun h => ?_)
  refine r_nmS h (fun σ2 h => ?_)
  refine r_aload_n 1 hc dX5_takeOver_30 rfl ?_
  refine r_get (K := 5) (f := 2) hc dX5_takeOver_31 fX5_18 inX5 rfl rfl (by decide) (by decide) ho1 rfl ?_
  refine r_iconst (v := 0) hc dX5_takeOver_34 (by decide) ?_
  refine r_aload_n 0 hc dX5_takeOver_35 rfl ?_
  refine r_get (K := 5) (f := 2) hc dX5_takeOver_36 fX5_18 inX5 rfl rfl (by decide) (by decide) ho0 rfl ?_
  refine r_iconst (v := 0) hc dX5_takeOver_39 (by decide) ?_
  refine r_bipush (v := 6) hc dX5_takeOver_40 (by decide) ?_
  refine r_cpy hc dX5_takeOver_42 mX5_60 wNat_cpy wStat_cpy wIni_Sys (k5_3 ho1) (k5_3 ho0) (by decide) (Nat.le_of_ble_eq_true rfl) h (fun h => ?_)
  refine r_nmS h (fun σ3 h => ?_)
  refine r_aload_n 1 hc dX5_takeOver_45 rfl ?_
  refine r_get (K := 5) (f := 3) hc dX5_takeOver_46 fX5_21 inX5 rfl rfl (by decide) (by decide) ho1 rfl ?_
  refine r_iconst (v := 0) hc dX5_takeOver_49 (by decide) ?_
  refine r_aload_n 0 hc dX5_takeOver_50 rfl ?_
  refine r_get (K := 5) (f := 3) hc dX5_takeOver_51 fX5_21 inX5 rfl rfl (by decide) (by decide) ho0 rfl ?_
  refine r_iconst (v := 0) hc dX5_takeOver_54 (by decide) ?_
  refine r_bipush (v := 6) hc dX5_takeOver_55 (by decide) ?_
  refine r_cpy hc dX5_takeOver_57 mX5_60 wNat_cpy wStat_cpy wIni_Sys (k5_4 ho1) (k5_4 ho0) (by decide) (Nat.le_of_ble_eq_true rfl) h (fun h => ?_)
  refine r_nmS h (fun σ4 h => ?_)
  refine r_aload_n 1 hc dX5_takeOver_60 rfl ?_
  refine r_get (K := 5) (f := 4) hc dX5_takeOver_61 fX5_24 inX5 rfl rfl (by decide) (by decide) ho1 rfl ?_
  refine r_iconst (v := 0) hc dX5_takeOver_64 (by decide) ?_
  refine r_aload_n 0 hc dX5_takeOver_65 rfl ?_
  refine r_get (K := 5) (f := 4) hc dX5_takeOver_66 fX5_24 inX5 rfl rfl (by decide) (by decide) ho0 rfl ?_
  refine r_iconst (v := 0) hc dX5_takeOver_69 (by decide) ?_
  refine r_bipush (v := 6) hc dX5_takeOver_70 (by decide) ?_
  refine r_cpy hc dX5_takeOver_72 mX5_60 wNat_cpy wStat_cpy wIni_Sys (k5_5 ho1) (k5_5 ho0) (by decide) (Nat.le_of_ble_eq_true rfl) h (fun h => ?_)
  refine r_nmS h (fun σ5 h => ?_)
  refine r_aload_n 1 hc dX5_takeOver_75 rfl ?_
  refine r_get (K := 5) (f := 5) hc dX5_takeOver_76 fX5_27 inX5 rfl rfl (by decide) (by decide) ho1 rfl ?_
  refine r_iconst (v := 0) hc dX5_takeOver_79 (by decide) ?_
  refine r_aload_n 0 hc dX5_takeOver_80 rfl ?_
  refine r_get (K := 5) (f := 5) hc dX5_takeOver_81 fX5_27 inX5 rfl rfl (by decide) (by decide) ho0 rfl ?_
  refine r_iconst (v := 0) hc dX5_takeOver_84 (by decide) ?_
  refine r_bipush (v := 6) hc dX5_takeOver_85 (by decide) ?_
  refine r_cpy hc dX5_takeOver_87 mX5_60 wNat_cpy wStat_cpy wIni_Sys (k5_6 ho1) (k5_6 ho0) (by decide) (Nat.le_of_ble_eq_true rfl) h (fun h => ?_)
  refine r_nmS h (fun σ6 h => ?_)
  refine r_aload_n 1 hc dX5_takeOver_90 rfl ?_
  refine r_get (K := 5) (f := 6) hc dX5_takeOver_91 fX5_30 inX5 rfl rfl (by decide) (by decide) ho1 rfl ?_
  refine r_iconst (v := 0) hc dX5_takeOver_94 (by decide) ?_
  refine r_aload_n 0 hc dX5_takeOver_95 rfl ?_
  refine r_get (K := 5) (f := 6) hc dX5_takeOver_96 fX5_30 inX5 rfl rfl (by decide) (by decide) ho0 rfl ?_
  refine r_iconst (v := 0) hc dX5_takeOver_99 (by decide) ?_
  refine r_bipush (v := 6) hc dX5_takeOver_100 (by decide) ?_
  refine r_cpy hc dX5_takeOver_102 mX5_60 wNat_cpy wStat_cpy wIni_Sys (k5_7 ho1) (k5_7 ho0) (by decide) (Nat.le_of_ble_eq_true rfl) h (fun h => ?_)
  refine r_nmS h (fun σ7 h => ?_)
  refine r_aload_n 1 hc dX5_takeOver_105 rfl ?_
  refine r_get (K := 5) (f := 7) hc dX5_takeOver_106 fX5_33 inX5 rfl rfl (by decide) (by decide) ho1 rfl ?_
  refine r_iconst (v := 0) hc dX5_takeOver_109 (by decide) ?_
  refine r_aload_n 0 hc dX5_takeOver_110 rfl ?_
  refine r_get (K := 5) (f := 7) hc dX5_takeOver_111 fX5_33 inX5 rfl rfl (by decide) (by decide) ho0 rfl ?_
  refine r_iconst (v := 0) hc dX5_takeOver_114 (by decide) ?_
  refine r_bipush (v := 6) hc dX5_takeOver_115 (by decide) ?_
  refine r_cpy hc dX5_takeOver_117 mX5_60 wNat_cpy wStat_cpy wIni_Sys (k5_8 ho1) (k5_8 ho0) (by decide) (Nat.le_of_ble_eq_true rfl) h (fun h => ?_)
  refine r_nmS h (fun σ8 h => ?_)
  refine r_aload_n 0 hc dX5_takeOver_120 rfl ?_
  refine r_aload_n 1 hc dX5_takeOver_121 rfl ?_
  refine r_get (K := 5) (f := 8) hc dX5_takeOver_122 fX5_36 inX5 rfl rfl (by decide) (by decide) ho1 rfl ?_
  refine r_put (K := 5) (f := 8) hc dX5_takeOver_125 fX5_36 inX5 tyX5_ok nmX5 rfl rfl rfl rfl (by decide) (by decide) ho0 rfl ?_
  refine r_nmS h (fun σ9 h => ?_)
  refine r_aload_n 0 hc dX5_takeOver_128 rfl ?_
  refine r_aload_n 1 hc dX5_takeOver_129 rfl ?_
  refine r_get (K := 5) (f := 9) hc dX5_takeOver_130 fX5_40 inX5 rfl rfl (by decide) (by decide) ho1 rfl ?_
  refine r_put (K := 5) (f := 9) hc dX5_takeOver_133 fX5_40 inX5 tyX5_ok nmX5 rfl rfl rfl rfl (by decide) (by decide) ho0 rfl ?_
  refine r_nmS h (fun σ10 h => ?_)
  refine r_aload_n 0 hc dX5_takeOver_136 rfl ?_
  refine r_aload_n 1 hc dX5_takeOver_137 rfl ?_
  refine r_get (K := 5) (f := 10) hc dX5_takeOver_138 fX5_43 inX5 rfl rfl (by decide) (by decide) ho1 rfl ?_
  refine r_put (K := 5) (f := 10) hc dX5_takeOver_141 fX5_43 inX5 tyX5_ok nmX5 rfl rfl rfl rfl (by decide) (by decide) ho0 rfl ?_
  refine r_nmS h (fun σ11 h => ?_)
  refine r_aload_n 0 hc dX5_takeOver_144 rfl ?_
  refine r_aload_n 1 hc dX5_takeOver_145 rfl ?_
  refine r_get (K := 5) (f := 11) hc dX5_takeOver_146 fX5_46 inX5 rfl rfl (by decide) (by decide) ho1 rfl ?_
  refine r_put (K := 5) (f := 11) hc dX5_takeOver_149 fX5_46 inX5 tyX5_ok nmX5 rfl rfl rfl rfl (by decide) (by decide) ho0 rfl ?_
  refine r_nmS h (fun σ12 h => ?_)
  refine r_aload_n 0 hc dX5_takeOver_152 rfl ?_
  refine r_aload_n 1 hc dX5_takeOver_153 rfl ?_
  refine r_get (K := 5) (f := 12) hc dX5_takeOver_154 fX5_49 inX5 rfl rfl (by decide) (by decide) ho1 rfl ?_
  refine r_put (K := 5) (f := 12) hc dX5_takeOver_157 fX5_49 inX5 tyX5_ok nmX5 rfl rfl rfl rfl (by decide) (by decide) ho0 rfl ?_
  refine r_nmS h (fun σ13 h => ?_)
  exact r_vret hc dX5_takeOver_160 h
set_option maxRecDepth 100000 in
set_option maxHeartbeats 4000000 in
theorem t5_usedSeconds {l : Launch} {o0 : Nat} {σ : St} {k : Int32 → St → Prop} (ho0 : kd o0 = 5) (h : x5_usedSeconds o0 σ k) : CI l yX5_usedSeconds cX5_usedSeconds 1 2 (some .int) (fun ad => [.ref (ad o0)]) σ k := by
  refine CI.of (lv := fun ad => [(0, .ref (ad o0))]) (by decide) (fun _ => Nat.le_of_ble_eq_true rfl) (fun _ => rfl) (fun κ hc => ?_)
  show Wd κ 1 (QI κ k) 0 [(0, aK κ o0)] [] σ
  unfold x5_usedSeconds at h
  refine r_aload_n 0 hc dX5_usedSeconds_0 rfl ?_
  refine r_get (K := 5) (f := 1) hc dX5_usedSeconds_1 fX5_15 inX5 rfl rfl (by decide) (by decide) ho0 rfl ?_
  refine r_aload_n 0 hc dX5_usedSeconds_4 rfl ?_
  refine r_get (K := 5) (f := 8) hc dX5_usedSeconds_5 fX5_36 inX5 rfl rfl (by decide) (by decide) ho0 rfl ?_
  refine r_csI [aK κ (o0 + 2), .int (σ o0 8)] hc dX5_usedSeconds_8 cX5_66 (t5_sum (k5_2 ho0) h) rfl rfl rfl (Nat.le_of_ble_eq_true rfl) (by decide) (by decide) (fun r1 σ2 h => ?_)
  exact r_iret hc dX5_usedSeconds_11 h
set_option maxRecDepth 100000 in
set_option maxHeartbeats 4000000 in
theorem t5_usedSounds {l : Launch} {o0 : Nat} {σ : St} {k : Int32 → St → Prop} (ho0 : kd o0 = 5) (h : x5_usedSounds o0 σ k) : CI l yX5_usedSounds cX5_usedSounds 1 2 (some .int) (fun ad => [.ref (ad o0)]) σ k := by
  refine CI.of (lv := fun ad => [(0, .ref (ad o0))]) (by decide) (fun _ => Nat.le_of_ble_eq_true rfl) (fun _ => rfl) (fun κ hc => ?_)
  show Wd κ 1 (QI κ k) 0 [(0, aK κ o0)] [] σ
  unfold x5_usedSounds at h
  refine r_aload_n 0 hc dX5_usedSounds_0 rfl ?_
  refine r_get (K := 5) (f := 2) hc dX5_usedSounds_1 fX5_18 inX5 rfl rfl (by decide) (by decide) ho0 rfl ?_
  refine r_aload_n 0 hc dX5_usedSounds_4 rfl ?_
  refine r_get (K := 5) (f := 8) hc dX5_usedSounds_5 fX5_36 inX5 rfl rfl (by decide) (by decide) ho0 rfl ?_
  refine r_csI [aK κ (o0 + 3), .int (σ o0 8)] hc dX5_usedSounds_8 cX5_66 (t5_sum (k5_3 ho0) h) rfl rfl rfl (Nat.le_of_ble_eq_true rfl) (by decide) (by decide) (fun r1 σ2 h => ?_)
  refine r_aload_n 0 hc dX5_usedSounds_11 rfl ?_
  refine r_get (K := 5) (f := 3) hc dX5_usedSounds_12 fX5_21 inX5 rfl rfl (by decide) (by decide) ho0 rfl ?_
  refine r_aload_n 0 hc dX5_usedSounds_15 rfl ?_
  refine r_get (K := 5) (f := 8) hc dX5_usedSounds_16 fX5_36 inX5 rfl rfl (by decide) (by decide) ho0 rfl ?_
  refine r_csI [aK κ (o0 + 4), .int (σ2 o0 8)] hc dX5_usedSounds_19 cX5_66 (t5_sum (k5_4 ho0) h) rfl rfl rfl (Nat.le_of_ble_eq_true rfl) (by decide) (by decide) (fun r3 σ4 h => ?_)
  refine r_iadd hc dX5_usedSounds_22 ?_
  exact r_iret hc dX5_usedSounds_23 h
set_option maxRecDepth 100000 in
set_option maxHeartbeats 4000000 in
theorem u6_isBit_14 {κ : KT} {k : Int32 → St → Prop} {i0 : Int32}  {s0 : Int32} {σ : St}  (hc : Cx κ cX6_isBit 1 RX6 1 (some .boolean))    (h : x6_isBit_14 i0 s0 σ k) : Wd κ 1 (QI κ k) 14 [(0, .int i0)] [.int s0] σ := by
  unfold x6_isBit_14 at h
  exact r_zret hc dX6_isBit_14 h
set_option maxRecDepth 100000 in
set_option maxHeartbeats 4000000 in
theorem u6_isBit_9 {κ : KT} {k : Int32 → St → Prop} {i0 : Int32}   {σ : St}  (hc : Cx κ cX6_isBit 1 RX6 1 (some .boolean))    (h : x6_isBit_9 i0 σ k) : Wd κ 1 (QI κ k) 9 [(0, .int i0)] [] σ := by
  unfold x6_isBit_9 at h
  refine r_iconst (v := 1) hc dX6_isBit_9 (by decide) ?_
  refine r_goto 14 hc dX6_isBit_10 (by decide) ?_
  exact u6_isBit_14 hc h
set_option maxRecDepth 100000 in
set_option maxHeartbeats 4000000 in
theorem t6_isBit {l : Launch} {i0 : Int32} {σ : St} {k : Int32 → St → Prop}  (h : x6_isBit i0 σ k) : CI l yX6_isBit cX6_isBit 1 1 (some .boolean) (fun ad => [.int i0]) σ k := by
  refine CI.of (lv := fun ad => [(0, .int i0)]) (by decide) (fun _ => Nat.le_of_ble_eq_true rfl) (fun _ => rfl) (fun κ hc => ?_)
  show Wd κ 1 (QI κ k) 0 [(0, .int i0)] [] σ
  unfold x6_isBit at h
  refine r_iload_n 0 hc dX6_isBit_0 rfl ?_
  refine r_if_eq 9 hc dX6_isBit_1 (by decide) h (fun h => ?_) (fun h => ?_)
  · exact u6_isBit_9 hc h
  · refine r_iload_n 0 hc dX6_isBit_4 rfl ?_
    refine r_iconst (v := 1) hc dX6_isBit_5 (by decide) ?_
    refine r_icmp_ne 13 hc dX6_isBit_6 (by decide) h (fun h => ?_) (fun h => ?_)
    · exact u6_isBit_9 hc h
    · refine r_iconst (v := 0) hc dX6_isBit_13 (by decide) ?_
      exact u6_isBit_14 hc h
set_option maxRecDepth 100000 in
set_option maxHeartbeats 4000000 in
theorem u6_ahead_28 {κ : KT} {k : Int32 → St → Prop} {i1 : Int32} {i2 : Int32} {i3 : Int32}   {σ : St}  (hc : Cx κ cX6_ahead 6 RX6 6 (some .int))    (h : x6_ahead_28 i1 i2 i3 σ k) : Wd κ 6 (QI κ k) 28 [(0, aK κ 0), (1, .int i1), (2, .int i2), (3, .int i3)] [] σ := by
  unfold x6_ahead_28 at h
  refine r_ldc hc dX6_ahead_28 kX6_69 ?_
  exact r_iret hc dX6_ahead_30 h
set_option maxRecDepth 100000 in
set_option maxHeartbeats 4000000 in
theorem u6_ahead_100 {κ : KT} {k : Int32 → St → Prop} {i1 : Int32} {i2 : Int32} {i3 : Int32}  {s0 : Int32} {σ : St}  (hc : Cx κ cX6_ahead 6 RX6 6 (some .int))    (h : x6_ahead_100 i1 i2 i3 s0 σ k) : Wd κ 6 (QI κ k) 100 [(0, aK κ 0), (1, .int i1), (2, .int i2), (3, .int i3)] [.int s0] σ := by
  unfold x6_ahead_100 at h
  exact r_iret hc dX6_ahead_100 h
set_option maxRecDepth 100000 in
set_option maxHeartbeats 4000000 in
theorem u6_ahead_67 {κ : KT} {k : Int32 → St → Prop} {i1 : Int32} {i2 : Int32} {i3 : Int32}  {s0 : Int32} {σ : St}  (hc : Cx κ cX6_ahead 6 RX6 6 (some .int))    (h : x6_ahead_67 i1 i2 i3 s0 σ k) : Wd κ 6 (QI κ k) 67 [(0, aK κ 0), (1, .int i1), (2, .int i2), (3, .int i3)] [.int s0] σ := by
  unfold x6_ahead_67 at h
  refine r_istore (lv' := [(5, .int s0), (0, aK κ 0), (1, .int i1), (2, .int i2), (3, .int i3)]) hc dX6_ahead_67 (by decide) rfl ?_
  refine r_iload_n 4 hc dX6_ahead_69 rfl ?_
  refine r_if_ne 86 hc dX6_ahead_70 (by decide) h (fun h => ?_) (fun h => ?_)
  · refine r_aload_n 1 hc dX6_ahead_73 rfl ?_
    refine r_get (K := 6) (f := 2) hc dX6_ahead_74 fX6_22 inX6 rfl rfl (by decide) (by decide) rfl rfl ?_
    refine r_iload_n 2 hc dX6_ahead_77 rfl ?_
    refine r_iload 0 hc dX6_ahead_78 rfl ?_
    refine r_cvI [.int i1, .int s0] hc dX6_ahead_80 cX6_237 (t5_placeAfter rfl h) rfl (by decide) rfl rfl rfl rfl (Nat.le_of_ble_eq_true rfl) (by decide) (by decide) (fun r7 σ8 h => ?_)
    refine r_goto 100 hc dX6_ahead_83 (by decide) ?_
    refine r_sub [1, 2, 3, 4] rfl ?_
    exact u6_ahead_100 hc h
  · refine r_aload_n 1 hc dX6_ahead_86 rfl ?_
    refine r_get (K := 6) (f := 2) hc dX6_ahead_87 fX6_22 inX6 rfl rfl (by decide) (by decide) rfl rfl ?_
    refine r_get (K := 5) (f := 7) hc dX6_ahead_90 fX6_215 inX5 rfl rfl (by decide) (by decide) rfl rfl ?_
    refine r_iload_n 2 hc dX6_ahead_93 rfl ?_
    refine r_iald hc dX6_ahead_94 (k5_8 rfl) h (fun h => ?_)
    refine r_iload_n 3 hc dX6_ahead_95 rfl ?_
    refine r_iadd hc dX6_ahead_96 ?_
    refine r_iload 0 hc dX6_ahead_97 rfl ?_
    refine r_isub hc dX6_ahead_99 ?_
    refine r_sub [1, 2, 3, 4] rfl ?_
    exact u6_ahead_100 hc h
set_option maxRecDepth 100000 in
set_option maxHeartbeats 4000000 in
theorem t6_ahead {l : Launch} {i1 : Int32} {i2 : Int32} {i3 : Int32} {σ : St} {k : Int32 → St → Prop}  (h : x6_ahead i1 i2 i3 σ k) : CI l yX6_ahead cX6_ahead 6 6 (some .int) (fun ad => [.ref (ad 0), .int i1, .int i2, .int i3]) σ k := by
  refine CI.of (lv := fun ad => [(0, .ref (ad 0)), (1, .int i1), (2, .int i2), (3, .int i3)]) (by decide) (fun _ => Nat.le_of_ble_eq_true rfl) (fun _ => rfl) (fun κ hc => ?_)
  show Wd κ 6 (QI κ k) 0 [(0, aK κ 0), (1, .int i1), (2, .int i2), (3, .int i3)] [] σ
  unfold x6_ahead at h
  refine r_aload_n 0 hc dX6_ahead_0 rfl ?_
  refine r_get (K := 6) (f := 2) hc dX6_ahead_1 fX6_22 inX6 rfl rfl (by decide) (by decide) rfl rfl ?_
  refine r_iload_n 1 hc dX6_ahead_4 rfl ?_
  refine r_cvI [.int i1] hc dX6_ahead_5 cX6_200 (t5_hasCaller rfl h) rfl (by decide) rfl rfl rfl rfl (Nat.le_of_ble_eq_true rfl) (by decide) (by decide) (fun r1 σ2 h => ?_)
  refine r_if_eq 28 hc dX6_ahead_8 (by decide) h (fun h => ?_) (fun h => ?_)
  · exact u6_ahead_28 hc h
  · refine r_iload_n 2 hc dX6_ahead_11 rfl ?_
    refine r_if_lt 28 hc dX6_ahead_12 (by decide) h (fun h => ?_) (fun h => ?_)
    · exact u6_ahead_28 hc h
    · refine r_iload_n 2 hc dX6_ahead_15 rfl ?_
      refine r_bipush (v := 60) hc dX6_ahead_16 (by decide) ?_
      refine r_icmp_gt 28 hc dX6_ahead_18 (by decide) h (fun h => ?_) (fun h => ?_)
      · exact u6_ahead_28 hc h
      · refine r_iload_n 3 hc dX6_ahead_21 rfl ?_
        refine r_csI [.int i3] hc dX6_ahead_22 cX6_164 (t6_isBit h) rfl rfl rfl (Nat.le_of_ble_eq_true rfl) (by decide) (by decide) (fun r3 σ4 h => ?_)
        refine r_if_ne 31 hc dX6_ahead_25 (by decide) h (fun h => ?_) (fun h => ?_)
        · exact u6_ahead_28 hc h
        · refine r_aload_n 0 hc dX6_ahead_31 rfl ?_
          refine r_get (K := 6) (f := 2) hc dX6_ahead_32 fX6_22 inX6 rfl rfl (by decide) (by decide) rfl rfl ?_
          refine r_iload_n 1 hc dX6_ahead_35 rfl ?_
          refine r_aload_n 0 hc dX6_ahead_36 rfl ?_
          refine r_get (K := 6) (f := 2) hc dX6_ahead_37 fX6_22 inX6 rfl rfl (by decide) (by decide) rfl rfl ?_
          refine r_get (K := 5) (f := 4) hc dX6_ahead_40 fX6_224 inX5 rfl rfl (by decide) (by decide) rfl rfl ?_
          refine r_iload_n 1 hc dX6_ahead_43 rfl ?_
          refine r_iald hc dX6_ahead_44 (k5_5 rfl) h (fun h => ?_)
          refine r_cvI [.int i1, .int (σ4 (19 + 5) i1.toNatClampNeg)] hc dX6_ahead_45 cX6_227 (t5_firstMeeting rfl h) rfl (by decide) rfl rfl rfl rfl (Nat.le_of_ble_eq_true rfl) (by decide) (by decide) (fun r5 σ6 h => ?_)
          refine r_istore (lv' := [(4, .int r5), (0, aK κ 0), (1, .int i1), (2, .int i2), (3, .int i3)]) hc dX6_ahead_48 (by decide) rfl ?_
          refine r_iload 0 hc dX6_ahead_50 rfl ?_
          refine r_ldc hc dX6_ahead_52 kX6_231 ?_
          refine r_icmp_ne 61 hc dX6_ahead_54 (by decide) h (fun h => ?_) (fun h => ?_)
          · refine r_iload_n 3 hc dX6_ahead_57 rfl ?_
            refine r_goto 67 hc dX6_ahead_58 (by decide) ?_
            refine r_sub [1, 2, 3, 4] rfl ?_
            exact u6_ahead_67 hc h
          · refine r_iload_n 3 hc dX6_ahead_61 rfl ?_
            refine r_iload 0 hc dX6_ahead_62 rfl ?_
            refine r_min hc dX6_ahead_64 mX6_232 wStat_min wIni_Math wCode_min (by decide) (Nat.le_of_ble_eq_true rfl) ?_
            refine r_sub [1, 2, 3, 4] rfl ?_
            exact u6_ahead_67 hc h
set_option maxRecDepth 100000 in
set_option maxHeartbeats 4000000 in
theorem u6_areApartSets_35 {κ : KT} {k : Int32 → St → Prop} {i1 : Int32} {i2 : Int32}  {s0 : Int32} {σ : St}  (hc : Cx κ cX6_areApartSets 4 RX6 2 (some .boolean))    (h : x6_areApartSets_35 i1 i2 s0 σ k) : Wd κ 4 (QI κ k) 35 [(0, aK κ 0), (1, .int i1), (2, .int i2)] [.int s0] σ := by
  unfold x6_areApartSets_35 at h
  exact r_zret hc dX6_areApartSets_35 h
set_option maxRecDepth 100000 in
set_option maxHeartbeats 4000000 in
theorem u6_areApartSets_34 {κ : KT} {k : Int32 → St → Prop} {i1 : Int32} {i2 : Int32}   {σ : St}  (hc : Cx κ cX6_areApartSets 4 RX6 2 (some .boolean))    (h : x6_areApartSets_34 i1 i2 σ k) : Wd κ 4 (QI κ k) 34 [(0, aK κ 0), (1, .int i1), (2, .int i2)] [] σ := by
  unfold x6_areApartSets_34 at h
  refine r_iconst (v := 0) hc dX6_areApartSets_34 (by decide) ?_
  exact u6_areApartSets_35 hc h
set_option maxRecDepth 100000 in
set_option maxHeartbeats 4000000 in
theorem t6_areApartSets {l : Launch} {i1 : Int32} {i2 : Int32} {σ : St} {k : Int32 → St → Prop}  (h : x6_areApartSets i1 i2 σ k) : CI l yX6_areApartSets cX6_areApartSets 4 2 (some .boolean) (fun ad => [.ref (ad 0), .int i1, .int i2]) σ k := by
  refine CI.of (lv := fun ad => [(0, .ref (ad 0)), (1, .int i1), (2, .int i2)]) (by decide) (fun _ => Nat.le_of_ble_eq_true rfl) (fun _ => rfl) (fun κ hc => ?_)
  show Wd κ 4 (QI κ k) 0 [(0, aK κ 0), (1, .int i1), (2, .int i2)] [] σ
  unfold x6_areApartSets at h
  refine r_aload_n 0 hc dX6_areApartSets_0 rfl ?_
  refine r_get (K := 6) (f := 2) hc dX6_areApartSets_1 fX6_22 inX6 rfl rfl (by decide) (by decide) rfl rfl ?_
  refine r_cvI [] hc dX6_areApartSets_4 cX6_324 (t5_allCallers rfl h) rfl (by decide) rfl rfl rfl rfl (Nat.le_of_ble_eq_true rfl) (by decide) (by decide) (fun r1 σ2 h => ?_)
  refine r_istore_n (lv' := [(3, .int r1), (0, aK κ 0), (1, .int i1), (2, .int i2)]) hc dX6_areApartSets_7 (by decide) rfl ?_
  refine r_iload_n 2 hc dX6_areApartSets_8 rfl ?_
  refine r_iload_n 0 hc dX6_areApartSets_9 rfl ?_
  refine r_iconst (v := (-1)) hc dX6_areApartSets_10 (by decide) ?_
  refine r_ixor hc dX6_areApartSets_11 ?_
  refine r_iand hc dX6_areApartSets_12 ?_
  refine r_if_ne 34 hc dX6_areApartSets_13 (by decide) h (fun h => ?_) (fun h => ?_)
  · refine r_iload_n 3 hc dX6_areApartSets_16 rfl ?_
    refine r_iload_n 0 hc dX6_areApartSets_17 rfl ?_
    refine r_iconst (v := (-1)) hc dX6_areApartSets_18 (by decide) ?_
    refine r_ixor hc dX6_areApartSets_19 ?_
    refine r_iand hc dX6_areApartSets_20 ?_
    refine r_if_ne 34 hc dX6_areApartSets_21 (by decide) h (fun h => ?_) (fun h => ?_)
    · refine r_iload_n 2 hc dX6_areApartSets_24 rfl ?_
      refine r_iload_n 3 hc dX6_areApartSets_25 rfl ?_
      refine r_iand hc dX6_areApartSets_26 ?_
      refine r_if_ne 34 hc dX6_areApartSets_27 (by decide) h (fun h => ?_) (fun h => ?_)
      · refine r_iconst (v := 1) hc dX6_areApartSets_30 (by decide) ?_
        refine r_goto 35 hc dX6_areApartSets_31 (by decide) ?_
        refine r_sub [1, 2, 3] rfl ?_
        exact u6_areApartSets_35 hc h
      · refine r_sub [1, 2, 3] rfl ?_
        exact u6_areApartSets_34 hc h
    · refine r_sub [1, 2, 3] rfl ?_
      exact u6_areApartSets_34 hc h
  · refine r_sub [1, 2, 3] rfl ?_
    exact u6_areApartSets_34 hc h
set_option maxRecDepth 100000 in
set_option maxHeartbeats 4000000 in
theorem u6_isOneOf_9 {κ : KT} {k : Int32 → St → Prop} {i0 : Int32} {i1 : Int32}   {σ : St}  (hc : Cx κ cX6_isOneOf 2 RX6 1 (some .boolean))    (h : x6_isOneOf_9 i0 i1 σ k) : Wd κ 2 (QI κ k) 9 [(0, .int i0), (1, .int i1)] [] σ := by
  unfold x6_isOneOf_9 at h
  refine r_iconst (v := 1) hc dX6_isOneOf_9 (by decide) ?_
  exact r_zret hc dX6_isOneOf_10 h
set_option maxRecDepth 100000 in
set_option maxHeartbeats 4000000 in
theorem u6_isOneOf_31 {κ : KT} {k : Int32 → St → Prop} {i0 : Int32} {i1 : Int32}  {s0 : Int32} {σ : St}  (hc : Cx κ cX6_isOneOf 2 RX6 1 (some .boolean))    (h : x6_isOneOf_31 i0 i1 s0 σ k) : Wd κ 2 (QI κ k) 31 [(0, .int i0), (1, .int i1)] [.int s0] σ := by
  unfold x6_isOneOf_31 at h
  exact r_zret hc dX6_isOneOf_31 h
set_option maxRecDepth 100000 in
set_option maxHeartbeats 4000000 in
theorem u6_isOneOf_26 {κ : KT} {k : Int32 → St → Prop} {i0 : Int32} {i1 : Int32}   {σ : St}  (hc : Cx κ cX6_isOneOf 2 RX6 1 (some .boolean))    (h : x6_isOneOf_26 i0 i1 σ k) : Wd κ 2 (QI κ k) 26 [(0, .int i0), (1, .int i1)] [] σ := by
  unfold x6_isOneOf_26 at h
  refine r_iconst (v := 1) hc dX6_isOneOf_26 (by decide) ?_
  refine r_goto 31 hc dX6_isOneOf_27 (by decide) ?_
  exact u6_isOneOf_31 hc h
set_option maxRecDepth 100000 in
set_option maxHeartbeats 4000000 in
theorem u6_isOneOf_47 {κ : KT} {k : Int32 → St → Prop} {i0 : Int32} {i1 : Int32}  {s0 : Int32} {σ : St}  (hc : Cx κ cX6_isOneOf 2 RX6 1 (some .boolean))    (h : x6_isOneOf_47 i0 i1 s0 σ k) : Wd κ 2 (QI κ k) 47 [(0, .int i0), (1, .int i1)] [.int s0] σ := by
  unfold x6_isOneOf_47 at h
  exact r_zret hc dX6_isOneOf_47 h
set_option maxRecDepth 100000 in
set_option maxHeartbeats 4000000 in
theorem u6_isOneOf_46 {κ : KT} {k : Int32 → St → Prop} {i0 : Int32} {i1 : Int32}   {σ : St}  (hc : Cx κ cX6_isOneOf 2 RX6 1 (some .boolean))    (h : x6_isOneOf_46 i0 i1 σ k) : Wd κ 2 (QI κ k) 46 [(0, .int i0), (1, .int i1)] [] σ := by
  unfold x6_isOneOf_46 at h
  refine r_iconst (v := 0) hc dX6_isOneOf_46 (by decide) ?_
  exact u6_isOneOf_47 hc h
set_option maxRecDepth 100000 in
set_option maxHeartbeats 4000000 in
theorem t6_isOneOf {l : Launch} {i0 : Int32} {i1 : Int32} {σ : St} {k : Int32 → St → Prop}  (h : x6_isOneOf i0 i1 σ k) : CI l yX6_isOneOf cX6_isOneOf 2 1 (some .boolean) (fun ad => [.int i0, .int i1]) σ k := by
  refine CI.of (lv := fun ad => [(0, .int i0), (1, .int i1)]) (by decide) (fun _ => Nat.le_of_ble_eq_true rfl) (fun _ => rfl) (fun κ hc => ?_)
  show Wd κ 2 (QI κ k) 0 [(0, .int i0), (1, .int i1)] [] σ
  unfold x6_isOneOf at h
  refine r_iload_n 1 hc dX6_isOneOf_0 rfl ?_
  refine r_if_eq 9 hc dX6_isOneOf_1 (by decide) h (fun h => ?_) (fun h => ?_)
  · exact u6_isOneOf_9 hc h
  · refine r_iload_n 1 hc dX6_isOneOf_4 rfl ?_
    refine r_iload_n 0 hc dX6_isOneOf_5 rfl ?_
    refine r_icmp_ne 11 hc dX6_isOneOf_6 (by decide) h (fun h => ?_) (fun h => ?_)
    · exact u6_isOneOf_9 hc h
    · refine r_iload_n 1 hc dX6_isOneOf_11 rfl ?_
      refine r_iconst (v := 1) hc dX6_isOneOf_12 (by decide) ?_
      refine r_icmp_ne 32 hc dX6_isOneOf_13 (by decide) h (fun h => ?_) (fun h => ?_)
      · refine r_iload_n 0 hc dX6_isOneOf_16 rfl ?_
        refine r_iconst (v := 2) hc dX6_isOneOf_17 (by decide) ?_
        refine r_icmp_eq 26 hc dX6_isOneOf_18 (by decide) h (fun h => ?_) (fun h => ?_)
        · exact u6_isOneOf_26 hc h
        · refine r_iload_n 0 hc dX6_isOneOf_21 rfl ?_
          refine r_iconst (v := 3) hc dX6_isOneOf_22 (by decide) ?_
          refine r_icmp_ne 30 hc dX6_isOneOf_23 (by decide) h (fun h => ?_) (fun h => ?_)
          · exact u6_isOneOf_26 hc h
          · refine r_iconst (v := 0) hc dX6_isOneOf_30 (by decide) ?_
            exact u6_isOneOf_31 hc h
      · refine r_iload_n 1 hc dX6_isOneOf_32 rfl ?_
        refine r_iconst (v := 4) hc dX6_isOneOf_33 (by decide) ?_
        refine r_icmp_ne 46 hc dX6_isOneOf_34 (by decide) h (fun h => ?_) (fun h => ?_)
        · refine r_iload_n 0 hc dX6_isOneOf_37 rfl ?_
          refine r_iconst (v := 5) hc dX6_isOneOf_38 (by decide) ?_
          refine r_icmp_ne 46 hc dX6_isOneOf_39 (by decide) h (fun h => ?_) (fun h => ?_)
          · refine r_iconst (v := 1) hc dX6_isOneOf_42 (by decide) ?_
            refine r_goto 47 hc dX6_isOneOf_43 (by decide) ?_
            exact u6_isOneOf_47 hc h
          · exact u6_isOneOf_46 hc h
        · exact u6_isOneOf_46 hc h
set_option maxRecDepth 100000 in
set_option maxHeartbeats 4000000 in
theorem t6_foundNone {l : Launch} {i1 : Int32} {σ : St} {k : Int32 → St → Prop}  (h : x6_foundNone i1 σ k) : CI l yX6_foundNone cX6_foundNone 2 1 (some .int) (fun ad => [.ref (ad 0), .int i1]) σ k := by
  refine CI.of (lv := fun ad => [(0, .ref (ad 0)), (1, .int i1)]) (by decide) (fun _ => Nat.le_of_ble_eq_true rfl) (fun _ => rfl) (fun κ hc => ?_)
  show Wd κ 2 (QI κ k) 0 [(0, aK κ 0), (1, .int i1)] [] σ
  unfold x6_foundNone at h
  refine r_aload_n 0 hc dX6_foundNone_0 rfl ?_
  refine r_iconst (v := 0) hc dX6_foundNone_1 (by decide) ?_
  refine r_put (K := 6) (f := 9) hc dX6_foundNone_2 fX6_61 inX6 tyX6_ok nmX6 rfl rfl rfl rfl (by decide) (by decide) rfl rfl ?_
  refine r_nmS h (fun σ1 h => ?_)
  refine r_iload_n 1 hc dX6_foundNone_5 rfl ?_
  exact r_iret hc dX6_foundNone_6 h
set_option maxRecDepth 100000 in
set_option maxHeartbeats 4000000 in
theorem t6_found {l : Launch} {i1 : Int32} {σ : St} {k : Int32 → St → Prop}  (h : x6_found i1 σ k) : CI l yX6_found cX6_found 2 1 (some .int) (fun ad => [.ref (ad 0), .int i1]) σ k := by
  refine CI.of (lv := fun ad => [(0, .ref (ad 0)), (1, .int i1)]) (by decide) (fun _ => Nat.le_of_ble_eq_true rfl) (fun _ => rfl) (fun κ hc => ?_)
  show Wd κ 2 (QI κ k) 0 [(0, aK κ 0), (1, .int i1)] [] σ
  unfold x6_found at h
  refine r_aload_n 0 hc dX6_found_0 rfl ?_
  refine r_iload_n 1 hc dX6_found_1 rfl ?_
  refine r_put (K := 6) (f := 9) hc dX6_found_2 fX6_61 inX6 tyX6_ok nmX6 rfl rfl rfl rfl (by decide) (by decide) rfl rfl ?_
  refine r_nmS h (fun σ1 h => ?_)
  refine r_ldcw hc dX6_found_5 kX6_323 ?_
  refine r_iload_n 1 hc dX6_found_8 rfl ?_
  refine r_isub hc dX6_found_9 ?_
  exact r_iret hc dX6_found_10 h
set_option maxRecDepth 100000 in
set_option maxHeartbeats 4000000 in
theorem u6_as_20 {κ : KT} {k : Int32 → St → Prop} {i1 : Int32} {i2 : Int32}   {σ : St}  (hc : Cx κ cX6_as 3 RX6 2 (some .int))    (h : x6_as_20 i1 i2 σ k) : Wd κ 3 (QI κ k) 20 [(0, aK κ 0), (1, .int i1), (2, .int i2)] [] σ := by
  unfold x6_as_20 at h
  refine r_ldc hc dX6_as_20 kX6_69 ?_
  exact r_iret hc dX6_as_22 h
set_option maxRecDepth 100000 in
set_option maxHeartbeats 4000000 in
theorem u6_as_52 {κ : KT} {k : Int32 → St → Prop} {i1 : Int32} {i2 : Int32}  {s0 : Int32} {σ : St}  (hc : Cx κ cX6_as 3 RX6 2 (some .int))    (h : x6_as_52 i1 i2 s0 σ k) : Wd κ 3 (QI κ k) 52 [(0, aK κ 0), (1, .int i1), (2, .int i2)] [.int s0] σ := by
  unfold x6_as_52 at h
  exact r_iret hc dX6_as_52 h
set_option maxRecDepth 100000 in
set_option maxHeartbeats 4000000 in
theorem t6_as {l : Launch} {i1 : Int32} {i2 : Int32} {σ : St} {k : Int32 → St → Prop}  (h : x6_as i1 i2 σ k) : CI l yX6_as cX6_as 3 2 (some .int) (fun ad => [.ref (ad 0), .int i1, .int i2]) σ k := by
  refine CI.of (lv := fun ad => [(0, .ref (ad 0)), (1, .int i1), (2, .int i2)]) (by decide) (fun _ => Nat.le_of_ble_eq_true rfl) (fun _ => rfl) (fun κ hc => ?_)
  show Wd κ 3 (QI κ k) 0 [(0, aK κ 0), (1, .int i1), (2, .int i2)] [] σ
  unfold x6_as at h
  refine r_aload_n 0 hc dX6_as_0 rfl ?_
  refine r_get (K := 6) (f := 2) hc dX6_as_1 fX6_22 inX6 rfl rfl (by decide) (by decide) rfl rfl ?_
  refine r_iload_n 1 hc dX6_as_4 rfl ?_
  refine r_cvI [.int i1] hc dX6_as_5 cX6_200 (t5_hasCaller rfl h) rfl (by decide) rfl rfl rfl rfl (Nat.le_of_ble_eq_true rfl) (by decide) (by decide) (fun r1 σ2 h => ?_)
  refine r_if_eq 20 hc dX6_as_8 (by decide) h (fun h => ?_) (fun h => ?_)
  · exact u6_as_20 hc h
  · refine r_iload_n 2 hc dX6_as_11 rfl ?_
    refine r_if_lt 20 hc dX6_as_12 (by decide) h (fun h => ?_) (fun h => ?_)
    · exact u6_as_20 hc h
    · refine r_iload_n 2 hc dX6_as_15 rfl ?_
      refine r_iconst (v := 5) hc dX6_as_16 (by decide) ?_
      refine r_icmp_le 23 hc dX6_as_17 (by decide) h (fun h => ?_) (fun h => ?_)
      · refine r_aload_n 0 hc dX6_as_23 rfl ?_
        refine r_get (K := 6) (f := 2) hc dX6_as_24 fX6_22 inX6 rfl rfl (by decide) (by decide) rfl rfl ?_
        refine r_get (K := 5) (f := 4) hc dX6_as_27 fX6_224 inX5 rfl rfl (by decide) (by decide) rfl rfl ?_
        refine r_iload_n 1 hc dX6_as_30 rfl ?_
        refine r_iald hc dX6_as_31 (k5_5 rfl) h (fun h => ?_)
        refine r_iload_n 2 hc dX6_as_32 rfl ?_
        refine r_csI [.int (σ2 (19 + 5) i1.toNatClampNeg), .int i2] hc dX6_as_33 cX6_301 (t6_isOneOf h) rfl rfl rfl (Nat.le_of_ble_eq_true rfl) (by decide) (by decide) (fun r3 σ4 h => ?_)
        refine r_if_eq 47 hc dX6_as_36 (by decide) h (fun h => ?_) (fun h => ?_)
        · refine r_aload_n 0 hc dX6_as_47 rfl ?_
          refine r_iconst (v := 3) hc dX6_as_48 (by decide) ?_
          refine r_cvI [.int 3] hc dX6_as_49 cX6_70 (t6_found h) rfl (by decide) rfl rfl rfl rfl (Nat.le_of_ble_eq_true rfl) (by decide) (by decide) (fun r5 σ6 h => ?_)
          exact u6_as_52 hc h
        · refine r_aload_n 0 hc dX6_as_39 rfl ?_
          refine r_iload_n 1 hc dX6_as_40 rfl ?_
          refine r_cvI [.int i1] hc dX6_as_41 cX6_78 (t6_foundNone h) rfl (by decide) rfl rfl rfl rfl (Nat.le_of_ble_eq_true rfl) (by decide) (by decide) (fun r7 σ8 h => ?_)
          refine r_goto 52 hc dX6_as_44 (by decide) ?_
          exact u6_as_52 hc h
      · exact u6_as_20 hc h
set_option maxRecDepth 100000 in
set_option maxHeartbeats 4000000 in
theorem u6_ask_18 {κ : KT} {k : Int32 → St → Prop} {i1 : Int32} {i2 : Int32}   {σ : St}  (hc : Cx κ cX6_ask 3 RX6 12 (some .int))    (h : x6_ask_18 i1 i2 σ k) : Wd κ 3 (QI κ k) 18 [(0, aK κ 0), (1, .int i1), (2, .int i2)] [] σ := by
  unfold x6_ask_18 at h
  refine r_ldc hc dX6_ask_18 kX6_69 ?_
  exact r_iret hc dX6_ask_20 h
set_option maxRecDepth 100000 in
set_option maxHeartbeats 4000000 in
theorem t6_ask {l : Launch} {i1 : Int32} {i2 : Int32} {σ : St} {k : Int32 → St → Prop}  (h : x6_ask i1 i2 σ k) : CI l yX6_ask cX6_ask 3 12 (some .int) (fun ad => [.ref (ad 0), .int i1, .int i2]) σ k := by
  refine CI.of (lv := fun ad => [(0, .ref (ad 0)), (1, .int i1), (2, .int i2)]) (by decide) (fun _ => Nat.le_of_ble_eq_true rfl) (fun _ => rfl) (fun κ hc => ?_)
  show Wd κ 3 (QI κ k) 0 [(0, aK κ 0), (1, .int i1), (2, .int i2)] [] σ
  unfold x6_ask at h
  refine r_aload_n 0 hc dX6_ask_0 rfl ?_
  refine r_get (K := 6) (f := 2) hc dX6_ask_1 fX6_22 inX6 rfl rfl (by decide) (by decide) rfl rfl ?_
  refine r_iload_n 1 hc dX6_ask_4 rfl ?_
  refine r_cvI [.int i1] hc dX6_ask_5 cX6_200 (t5_hasCaller rfl h) rfl (by decide) rfl rfl rfl rfl (Nat.le_of_ble_eq_true rfl) (by decide) (by decide) (fun r1 σ2 h => ?_)
  refine r_if_eq 18 hc dX6_ask_8 (by decide) h (fun h => ?_) (fun h => ?_)
  · exact u6_ask_18 hc h
  · refine r_iload_n 2 hc dX6_ask_11 rfl ?_
    refine r_csI [.int i2] hc dX6_ask_12 cX6_164 (t6_isBit h) rfl rfl rfl (Nat.le_of_ble_eq_true rfl) (by decide) (by decide) (fun r3 σ4 h => ?_)
    refine r_if_ne 21 hc dX6_ask_15 (by decide) h (fun h => ?_) (fun h => ?_)
    · exact u6_ask_18 hc h
    · refine r_aload_n 0 hc dX6_ask_21 rfl ?_
      refine r_get (K := 6) (f := 7) hc dX6_ask_22 fX6_53 inX6 rfl rfl (by decide) (by decide) rfl rfl ?_
      refine r_aload_n 0 hc dX6_ask_25 rfl ?_
      refine r_get (K := 6) (f := 2) hc dX6_ask_26 fX6_22 inX6 rfl rfl (by decide) (by decide) rfl rfl ?_
      refine r_iload_n 1 hc dX6_ask_29 rfl ?_
      refine r_iload_n 2 hc dX6_ask_30 rfl ?_
      refine r_cvI [aK κ 19, .int i1, .int i2] hc dX6_ask_31 cX6_304 (t1_answer rfl h) rfl (by decide) rfl rfl rfl rfl (Nat.le_of_ble_eq_true rfl) (by decide) (by decide) (fun r5 σ6 h => ?_)
      exact r_iret hc dX6_ask_34 h
set_option maxRecDepth 100000 in
set_option maxHeartbeats 4000000 in
theorem u6_caller_93 {κ : KT} {k : Int32 → St → Prop} {i1 : Int32} {i2 : Int32}  {s0 : Int32} {σ : St}  (hc : Cx κ cX6_caller 3 RX6 6 (some .int))    (h : x6_caller_93 i1 i2 s0 σ k) : Wd κ 3 (QI κ k) 93 [(0, aK κ 0), (1, .int i1), (2, .int i2)] [.int s0] σ := by
  unfold x6_caller_93 at h
  exact r_iret hc dX6_caller_93 h
set_option maxRecDepth 100000 in
set_option maxHeartbeats 4000000 in
theorem t6_caller {l : Launch} {i1 : Int32} {i2 : Int32} {σ : St} {k : Int32 → St → Prop}  (h : x6_caller i1 i2 σ k) : CI l yX6_caller cX6_caller 3 6 (some .int) (fun ad => [.ref (ad 0), .int i1, .int i2]) σ k := by
  refine CI.of (lv := fun ad => [(0, .ref (ad 0)), (1, .int i1), (2, .int i2)]) (by decide) (fun _ => Nat.le_of_ble_eq_true rfl) (fun _ => rfl) (fun κ hc => ?_)
  show Wd κ 3 (QI κ k) 0 [(0, aK κ 0), (1, .int i1), (2, .int i2)] [] σ
  unfold x6_caller at h
  refine r_aload_n 0 hc dX6_caller_0 rfl ?_
  refine r_get (K := 6) (f := 2) hc dX6_caller_1 fX6_22 inX6 rfl rfl (by decide) (by decide) rfl rfl ?_
  refine r_iload_n 1 hc dX6_caller_4 rfl ?_
  refine r_cvI [.int i1] hc dX6_caller_5 cX6_200 (t5_hasCaller rfl h) rfl (by decide) rfl rfl rfl rfl (Nat.le_of_ble_eq_true rfl) (by decide) (by decide) (fun r1 σ2 h => ?_)
  refine r_if_ne 14 hc dX6_caller_8 (by decide) h (fun h => ?_) (fun h => ?_)
  · refine r_ldc hc dX6_caller_11 kX6_69 ?_
    exact r_iret hc dX6_caller_13 h
  · refine r_iload_n 2 hc dX6_caller_14 rfl ?_
    by_cases hq15_0 : i2 = 0
    · rw [if_pos hq15_0] at h
      refine r_tswIn 0 48 hc dX6_caller_15 hq15_0 (by decide) (by decide) rfl (by decide) ?_
      refine r_aload_n 0 hc dX6_caller_48 rfl ?_
      refine r_get (K := 6) (f := 2) hc dX6_caller_49 fX6_22 inX6 rfl rfl (by decide) (by decide) rfl rfl ?_
      refine r_get (K := 5) (f := 5) hc dX6_caller_52 fX6_203 inX5 rfl rfl (by decide) (by decide) rfl rfl ?_
      refine r_iload_n 1 hc dX6_caller_55 rfl ?_
      refine r_iald hc dX6_caller_56 (k5_6 rfl) h (fun h => ?_)
      exact r_iret hc dX6_caller_57 h
    · rw [if_neg hq15_0] at h
      by_cases hq15_1 : i2 = 1
      · rw [if_pos hq15_1] at h
        refine r_tswIn 1 58 hc dX6_caller_15 hq15_1 (by decide) (by decide) rfl (by decide) ?_
        refine r_aload_n 0 hc dX6_caller_58 rfl ?_
        refine r_get (K := 6) (f := 2) hc dX6_caller_59 fX6_22 inX6 rfl rfl (by decide) (by decide) rfl rfl ?_
        refine r_get (K := 5) (f := 6) hc dX6_caller_62 fX6_206 inX5 rfl rfl (by decide) (by decide) rfl rfl ?_
        refine r_iload_n 1 hc dX6_caller_65 rfl ?_
        refine r_iald hc dX6_caller_66 (k5_7 rfl) h (fun h => ?_)
        exact r_iret hc dX6_caller_67 h
      · rw [if_neg hq15_1] at h
        by_cases hq15_2 : i2 = 2
        · rw [if_pos hq15_2] at h
          refine r_tswIn 2 68 hc dX6_caller_15 hq15_2 (by decide) (by decide) rfl (by decide) ?_
          refine r_aload_n 0 hc dX6_caller_68 rfl ?_
          refine r_get (K := 6) (f := 2) hc dX6_caller_69 fX6_22 inX6 rfl rfl (by decide) (by decide) rfl rfl ?_
          refine r_iload_n 1 hc dX6_caller_72 rfl ?_
          refine r_cvI [.int i1] hc dX6_caller_73 cX6_209 (t5_staysHowLong rfl h) rfl (by decide) rfl rfl rfl rfl (Nat.le_of_ble_eq_true rfl) (by decide) (by decide) (fun r3 σ4 h => ?_)
          exact r_iret hc dX6_caller_76 h
        · rw [if_neg hq15_2] at h
          by_cases hq15_3 : i2 = 3
          · rw [if_pos hq15_3] at h
            refine r_tswIn 3 77 hc dX6_caller_15 hq15_3 (by decide) (by decide) rfl (by decide) ?_
            refine r_aload_n 0 hc dX6_caller_77 rfl ?_
            refine r_get (K := 6) (f := 2) hc dX6_caller_78 fX6_22 inX6 rfl rfl (by decide) (by decide) rfl rfl ?_
            refine r_iload_n 1 hc dX6_caller_81 rfl ?_
            refine r_cvI [.int i1] hc dX6_caller_82 cX6_212 (t5_isMeeting rfl h) rfl (by decide) rfl rfl rfl rfl (Nat.le_of_ble_eq_true rfl) (by decide) (by decide) (fun r5 σ6 h => ?_)
            refine r_if_eq 92 hc dX6_caller_85 (by decide) h (fun h => ?_) (fun h => ?_)
            · refine r_iconst (v := 0) hc dX6_caller_92 (by decide) ?_
              exact u6_caller_93 hc h
            · refine r_iconst (v := 1) hc dX6_caller_88 (by decide) ?_
              refine r_goto 93 hc dX6_caller_89 (by decide) ?_
              exact u6_caller_93 hc h
          · rw [if_neg hq15_3] at h
            by_cases hq15_4 : i2 = 4
            · rw [if_pos hq15_4] at h
              refine r_tswIn 4 94 hc dX6_caller_15 hq15_4 (by decide) (by decide) rfl (by decide) ?_
              refine r_aload_n 0 hc dX6_caller_94 rfl ?_
              refine r_get (K := 6) (f := 2) hc dX6_caller_95 fX6_22 inX6 rfl rfl (by decide) (by decide) rfl rfl ?_
              refine r_get (K := 5) (f := 7) hc dX6_caller_98 fX6_215 inX5 rfl rfl (by decide) (by decide) rfl rfl ?_
              refine r_iload_n 1 hc dX6_caller_101 rfl ?_
              refine r_iald hc dX6_caller_102 (k5_8 rfl) h (fun h => ?_)
              exact r_iret hc dX6_caller_103 h
            · rw [if_neg hq15_4] at h
              refine r_tswOut 104 hc dX6_caller_15 (by have a0 := lv_neT hq15_0 (a := 0) (by decide); have a1 := lv_neT hq15_1 (a := 1) (by decide); have a2 := lv_neT hq15_2 (a := 2) (by decide); have a3 := lv_neT hq15_3 (a := 3) (by decide); have a4 := lv_neT hq15_4 (a := 4) (by decide); omega) (by decide) ?_
              refine r_ldc hc dX6_caller_104 kX6_69 ?_
              exact r_iret hc dX6_caller_106 h
