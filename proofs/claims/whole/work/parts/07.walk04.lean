set_option maxRecDepth 100000 in
set_option maxHeartbeats 4000000 in
theorem u6_trace_29 {κ : KT} {k : Int32 → St → Prop} {i1 : Int32}  {s0 : Int32} {σ : St}  (hc : Cx κ cX6_trace 2 RX6 1 (some .int))    (h : x6_trace_29 i1 s0 σ k) : Wd κ 2 (QI κ k) 29 [(0, aK κ 0), (1, .int i1)] [.int s0] σ := by
  unfold x6_trace_29 at h
  exact r_iret hc dX6_trace_29 h
set_option maxRecDepth 100000 in
set_option maxHeartbeats 4000000 in
theorem u6_trace_27 {κ : KT} {k : Int32 → St → Prop} {i1 : Int32}   {σ : St}  (hc : Cx κ cX6_trace 2 RX6 1 (some .int))    (h : x6_trace_27 i1 σ k) : Wd κ 2 (QI κ k) 27 [(0, aK κ 0), (1, .int i1)] [] σ := by
  unfold x6_trace_27 at h
  refine r_ldc hc dX6_trace_27 kX6_231 ?_
  exact u6_trace_29 hc h
set_option maxRecDepth 100000 in
set_option maxHeartbeats 4000000 in
theorem t6_trace {l : Launch} {i1 : Int32} {σ : St} {k : Int32 → St → Prop}  (h : x6_trace i1 σ k) : CI l yX6_trace cX6_trace 2 1 (some .int) (fun ad => [.ref (ad 0), .int i1]) σ k := by
  refine CI.of (lv := fun ad => [(0, .ref (ad 0)), (1, .int i1)]) (by decide) (fun _ => Nat.le_of_ble_eq_true rfl) (fun _ => rfl) (fun κ hc => ?_)
  show Wd κ 2 (QI κ k) 0 [(0, aK κ 0), (1, .int i1)] [] σ
  unfold x6_trace at h
  refine r_iload_n 1 hc dX6_trace_0 rfl ?_
  refine r_if_lt 27 hc dX6_trace_1 (by decide) h (fun h => ?_) (fun h => ?_)
  · exact u6_trace_27 hc h
  · refine r_iload_n 1 hc dX6_trace_4 rfl ?_
    refine r_aload_n 0 hc dX6_trace_5 rfl ?_
    refine r_get (K := 6) (f := 7) hc dX6_trace_6 fX6_53 inX6 rfl rfl (by decide) (by decide) rfl rfl ?_
    refine r_get (K := 1) (f := 1) hc dX6_trace_9 fX6_308 inX1 rfl rfl (by decide) (by decide) rfl rfl ?_
    refine r_icmp_ge 27 hc dX6_trace_12 (by decide) h (fun h => ?_) (fun h => ?_)
    · exact u6_trace_27 hc h
    · refine r_aload_n 0 hc dX6_trace_15 rfl ?_
      refine r_get (K := 6) (f := 7) hc dX6_trace_16 fX6_53 inX6 rfl rfl (by decide) (by decide) rfl rfl ?_
      refine r_get (K := 1) (f := 0) hc dX6_trace_19 fX6_311 inX1 rfl rfl (by decide) (by decide) rfl rfl ?_
      refine r_iload_n 1 hc dX6_trace_22 rfl ?_
      refine r_iald hc dX6_trace_23 rfl h (fun h => ?_)
      refine r_goto 29 hc dX6_trace_24 (by decide) ?_
      exact u6_trace_29 hc h
set_option maxRecDepth 100000 in
set_option maxHeartbeats 4000000 in
theorem t6_undo {l : Launch}  {σ : St} {k : Int32 → St → Prop}  (h : x6_undo  σ k) : CI l yX6_undo cX6_undo 1 4 (some .int) (fun ad => [.ref (ad 0)]) σ k := by
  refine CI.of (lv := fun ad => [(0, .ref (ad 0))]) (by decide) (fun _ => Nat.le_of_ble_eq_true rfl) (fun _ => rfl) (fun κ hc => ?_)
  show Wd κ 1 (QI κ k) 0 [(0, aK κ 0)] [] σ
  unfold x6_undo at h
  refine r_aload_n 0 hc dX6_undo_0 rfl ?_
  refine r_get (K := 6) (f := 5) hc dX6_undo_1 fX6_39 inX6 rfl rfl (by decide) (by decide) rfl rfl ?_
  refine r_get (K := 0) (f := 4) hc dX6_undo_4 fX6_140 inX0 rfl rfl (by decide) (by decide) rfl rfl ?_
  refine r_if_ne 13 hc dX6_undo_7 (by decide) h (fun h => ?_) (fun h => ?_)
  · refine r_ldc hc dX6_undo_10 kX6_143 ?_
    exact r_iret hc dX6_undo_12 h
  · refine r_aload_n 0 hc dX6_undo_13 rfl ?_
    refine r_get (K := 6) (f := 5) hc dX6_undo_14 fX6_39 inX6 rfl rfl (by decide) (by decide) rfl rfl ?_
    refine r_aload_n 0 hc dX6_undo_17 rfl ?_
    refine r_get (K := 6) (f := 2) hc dX6_undo_18 fX6_22 inX6 rfl rfl (by decide) (by decide) rfl rfl ?_
    refine r_cvV [aK κ 19] hc dX6_undo_21 cX6_144 (t0_takeBackLatest rfl h) rfl (by decide) rfl rfl rfl rfl (Nat.le_of_ble_eq_true rfl) (by decide) (by decide) (fun σ2 h => ?_)
    refine r_aload_n 0 hc dX6_undo_24 rfl ?_
    refine r_get (K := 6) (f := 5) hc dX6_undo_25 fX6_39 inX6 rfl rfl (by decide) (by decide) rfl rfl ?_
    refine r_get (K := 0) (f := 4) hc dX6_undo_28 fX6_140 inX0 rfl rfl (by decide) (by decide) rfl rfl ?_
    exact r_iret hc dX6_undo_31 h
set_option maxRecDepth 100000 in
set_option maxHeartbeats 4000000 in
theorem u6_used_44 {κ : KT} {k : Int32 → St → Prop} {i1 : Int32}  {s0 : Int32} {σ : St}  (hc : Cx κ cX6_used 2 RX6 3 (some .int))    (h : x6_used_44 i1 s0 σ k) : Wd κ 2 (QI κ k) 44 [(0, aK κ 0), (1, .int i1)] [.int s0] σ := by
  unfold x6_used_44 at h
  exact r_iret hc dX6_used_44 h
set_option maxRecDepth 100000 in
set_option maxHeartbeats 4000000 in
theorem t6_used {l : Launch} {i1 : Int32} {σ : St} {k : Int32 → St → Prop}  (h : x6_used i1 σ k) : CI l yX6_used cX6_used 2 3 (some .int) (fun ad => [.ref (ad 0), .int i1]) σ k := by
  refine CI.of (lv := fun ad => [(0, .ref (ad 0)), (1, .int i1)]) (by decide) (fun _ => Nat.le_of_ble_eq_true rfl) (fun _ => rfl) (fun κ hc => ?_)
  show Wd κ 2 (QI κ k) 0 [(0, aK κ 0), (1, .int i1)] [] σ
  unfold x6_used at h
  refine r_aload_n 0 hc dX6_used_0 rfl ?_
  refine r_get (K := 6) (f := 2) hc dX6_used_1 fX6_22 inX6 rfl rfl (by decide) (by decide) rfl rfl ?_
  refine r_cvI [] hc dX6_used_4 cX6_179 (t5_isTold rfl h) rfl (by decide) rfl rfl rfl rfl (Nat.le_of_ble_eq_true rfl) (by decide) (by decide) (fun r1 σ2 h => ?_)
  refine r_if_ne 13 hc dX6_used_7 (by decide) h (fun h => ?_) (fun h => ?_)
  · refine r_ldc hc dX6_used_10 kX6_143 ?_
    exact r_iret hc dX6_used_12 h
  · refine r_iload_n 1 hc dX6_used_13 rfl ?_
    refine r_csI [.int i1] hc dX6_used_14 cX6_164 (t6_isBit h) rfl rfl rfl (Nat.le_of_ble_eq_true rfl) (by decide) (by decide) (fun r3 σ4 h => ?_)
    refine r_if_ne 23 hc dX6_used_17 (by decide) h (fun h => ?_) (fun h => ?_)
    · refine r_ldc hc dX6_used_20 kX6_69 ?_
      exact r_iret hc dX6_used_22 h
    · refine r_iload_n 1 hc dX6_used_23 rfl ?_
      refine r_if_ne 37 hc dX6_used_24 (by decide) h (fun h => ?_) (fun h => ?_)
      · refine r_aload_n 0 hc dX6_used_27 rfl ?_
        refine r_get (K := 6) (f := 2) hc dX6_used_28 fX6_22 inX6 rfl rfl (by decide) (by decide) rfl rfl ?_
        refine r_cvI [] hc dX6_used_31 cX6_153 (t5_usedSeconds rfl h) rfl (by decide) rfl rfl rfl rfl (Nat.le_of_ble_eq_true rfl) (by decide) (by decide) (fun r5 σ6 h => ?_)
        refine r_goto 44 hc dX6_used_34 (by decide) ?_
        exact u6_used_44 hc h
      · refine r_aload_n 0 hc dX6_used_37 rfl ?_
        refine r_get (K := 6) (f := 2) hc dX6_used_38 fX6_22 inX6 rfl rfl (by decide) (by decide) rfl rfl ?_
        refine r_cvI [] hc dX6_used_41 cX6_173 (t5_usedSounds rfl h) rfl (by decide) rfl rfl rfl rfl (Nat.le_of_ble_eq_true rfl) (by decide) (by decide) (fun r7 σ8 h => ?_)
        exact u6_used_44 hc h
set_option maxRecDepth 100000 in
set_option maxHeartbeats 4000000 in
theorem t6_whichDoor {l : Launch} {i1 : Int32} {i2 : Int32} {σ : St} {k : Int32 → St → Prop}  (h : x6_whichDoor i1 i2 σ k) : CI l yX6_whichDoor cX6_whichDoor 3 5 (some .int) (fun ad => [.ref (ad 0), .int i1, .int i2]) σ k := by
  refine CI.of (lv := fun ad => [(0, .ref (ad 0)), (1, .int i1), (2, .int i2)]) (by decide) (fun _ => Nat.le_of_ble_eq_true rfl) (fun _ => rfl) (fun κ hc => ?_)
  show Wd κ 3 (QI κ k) 0 [(0, aK κ 0), (1, .int i1), (2, .int i2)] [] σ
  unfold x6_whichDoor at h
  refine r_aload_n 0 hc dX6_whichDoor_0 rfl ?_
  refine r_get (K := 6) (f := 2) hc dX6_whichDoor_1 fX6_22 inX6 rfl rfl (by decide) (by decide) rfl rfl ?_
  refine r_cvI [] hc dX6_whichDoor_4 cX6_179 (t5_isTold rfl h) rfl (by decide) rfl rfl rfl rfl (Nat.le_of_ble_eq_true rfl) (by decide) (by decide) (fun r1 σ2 h => ?_)
  refine r_if_ne 13 hc dX6_whichDoor_7 (by decide) h (fun h => ?_) (fun h => ?_)
  · refine r_ldc hc dX6_whichDoor_10 kX6_143 ?_
    exact r_iret hc dX6_whichDoor_12 h
  · refine r_aload_n 0 hc dX6_whichDoor_13 rfl ?_
    refine r_iload_n 1 hc dX6_whichDoor_14 rfl ?_
    refine r_iload_n 2 hc dX6_whichDoor_15 rfl ?_
    refine r_cvI [.int i1, .int i2] hc dX6_whichDoor_16 cX6_240 (t6_areApartSets h) rfl (by decide) rfl rfl rfl rfl (Nat.le_of_ble_eq_true rfl) (by decide) (by decide) (fun r3 σ4 h => ?_)
    refine r_if_ne 25 hc dX6_whichDoor_19 (by decide) h (fun h => ?_) (fun h => ?_)
    · refine r_ldc hc dX6_whichDoor_22 kX6_69 ?_
      exact r_iret hc dX6_whichDoor_24 h
    · refine r_aload_n 0 hc dX6_whichDoor_25 rfl ?_
      refine r_get (K := 6) (f := 6) hc dX6_whichDoor_26 fX6_46 inX6 rfl rfl (by decide) (by decide) rfl rfl ?_
      refine r_aload_n 0 hc dX6_whichDoor_29 rfl ?_
      refine r_get (K := 6) (f := 2) hc dX6_whichDoor_30 fX6_22 inX6 rfl rfl (by decide) (by decide) rfl rfl ?_
      refine r_iload_n 1 hc dX6_whichDoor_33 rfl ?_
      refine r_iload_n 2 hc dX6_whichDoor_34 rfl ?_
      refine r_cvV [aK κ 19, .int i1, .int i2] hc dX6_whichDoor_35 cX6_243 (t2_weigh rfl h) rfl (by decide) rfl rfl rfl rfl (Nat.le_of_ble_eq_true rfl) (by decide) (by decide) (fun σ6 h => ?_)
      refine r_aload_n 0 hc dX6_whichDoor_38 rfl ?_
      refine r_get (K := 6) (f := 6) hc dX6_whichDoor_39 fX6_46 inX6 rfl rfl (by decide) (by decide) rfl rfl ?_
      refine r_cvI [] hc dX6_whichDoor_42 cX6_259 (t2_firstThatCanNot h) rfl (by decide) rfl rfl rfl rfl (Nat.le_of_ble_eq_true rfl) (by decide) (by decide) (fun r7 σ8 h => ?_)
      exact r_iret hc dX6_whichDoor_45 h
set_option maxRecDepth 100000 in
set_option maxHeartbeats 4000000 in
theorem u6_who_31 {κ : KT} {k : Int32 → St → Prop} {i1 : Int32} {i2 : Int32} {i3 : Int32} {i4 : Int32}   {σ : St}  (hc : Cx κ cX6_who 9 RX6 6 (some .int))    (h : x6_who_31 i1 i2 i3 i4 σ k) : Wd κ 9 (QI κ k) 31 [(0, aK κ 0), (1, .int i1), (2, .int i2), (3, .int i3), (4, .int i4)] [] σ := by
  unfold x6_who_31 at h
  refine r_ldc hc dX6_who_31 kX6_69 ?_
  exact r_iret hc dX6_who_33 h
set_option maxRecDepth 100000 in
set_option maxHeartbeats 4000000 in
theorem u6_who_106 {κ : KT} {k : Int32 → St → Prop} {i1 : Int32} {i2 : Int32} {i3 : Int32} {i4 : Int32} {R70 : Nat → Int32 → Int32 → St → Prop} {o5 : Nat} {i7 : Int32} {i8 : Int32} {σ : St}  (hc : Cx κ cX6_who 9 RX6 6 (some .int))  (hR70 : ∀ (o5 : Nat) (i7 : Int32) (i8 : Int32) (σ : St), kd o5 = 4 → R70 o5 i7 i8 σ → Wd κ 9 (QI κ k) 70 [(0, aK κ 0), (1, .int i1), (2, .int i2), (3, .int i3), (4, .int i4), (5, aK κ o5), (7, .int i7), (8, .int i8)] [] σ) (ho5 : kd o5 = 4) (h : x6_who_106 i1 i2 i3 i4 R70 o5 i7 i8 σ k) : Wd κ 9 (QI κ k) 106 [(0, aK κ 0), (1, .int i1), (2, .int i2), (3, .int i3), (4, .int i4), (5, aK κ o5), (7, .int i7), (8, .int i8)] [] σ := by
  unfold x6_who_106 at h
  refine r_iinc (v := 1) (lv' := [(8, .int (i8 + 1)), (0, aK κ 0), (1, .int i1), (2, .int i2), (3, .int i3), (4, .int i4), (5, aK κ o5), (7, .int i7)]) 7 hc dX6_who_106 rfl (by decide) (by decide) rfl ?_
  refine r_goto 70 hc dX6_who_109 (by decide) ?_
  refine r_sub [1, 2, 3, 4, 5, 6, 7, 0] rfl ?_
  exact hR70 _ _ _ _ (ho5) h
set_option maxRecDepth 100000 in
set_option maxHeartbeats 4000000 in
theorem u6_who_70 {κ : KT} {k : Int32 → St → Prop} {i1 : Int32} {i2 : Int32} {i3 : Int32} {i4 : Int32}   (hc : Cx κ cX6_who 9 RX6 6 (some .int))   : ∀ (n : Nat) (o5 : Nat) (i7 : Int32) (i8 : Int32) (σ : St), kd o5 = 4 → x6_who_70 i1 i2 i3 i4 k n o5 i7 i8 σ → Wd κ 9 (QI κ k) 70 [(0, aK κ 0), (1, .int i1), (2, .int i2), (3, .int i3), (4, .int i4), (5, aK κ o5), (7, .int i7), (8, .int i8)] [] σ := by
  intro n
  induction n with
  | zero => intro o5 i7 i8 σ ho5 h; exact h.elim
  | succ n ih =>
    intro o5 i7 i8 σ ho5 h
    unfold x6_who_70 at h
    refine r_iload 7 hc dX6_who_70 rfl ?_
    refine r_iconst (v := 5) hc dX6_who_72 (by decide) ?_
    refine r_icmp_gt 112 hc dX6_who_73 (by decide) h (fun h => ?_) (fun h => ?_)
    · refine r_aload_n 0 hc dX6_who_112 rfl ?_
      refine r_iload 6 hc dX6_who_113 rfl ?_
      refine r_cvI [.int i7] hc dX6_who_115 cX6_78 (t6_foundNone h) rfl (by decide) rfl rfl rfl rfl (Nat.le_of_ble_eq_true rfl) (by decide) (by decide) (fun r8 σ9 h => ?_)
      exact r_iret hc dX6_who_118 h
    · refine r_aload 5 hc dX6_who_76 rfl ?_
      refine r_aload_n 0 hc dX6_who_78 rfl ?_
      refine r_get (K := 6) (f := 2) hc dX6_who_79 fX6_22 inX6 rfl rfl (by decide) (by decide) rfl rfl ?_
      refine r_iload_n 1 hc dX6_who_82 rfl ?_
      refine r_iload 7 hc dX6_who_83 rfl ?_
      refine r_cvI [.int i1, .int i8] hc dX6_who_85 cX6_227 (t5_firstMeeting rfl h) rfl (by decide) rfl rfl rfl rfl (Nat.le_of_ble_eq_true rfl) (by decide) (by decide) (fun r10 σ11 h => ?_)
      refine r_iload_n 3 hc dX6_who_88 rfl ?_
      refine r_iload 4 hc dX6_who_89 rfl ?_
      refine r_cvI [.int r10, .int i3, .int i4] hc dX6_who_91 cX6_262 (t4_tellsMeetingsFrom ho5 h) rfl (by decide) ho5 rfl rfl rfl (Nat.le_of_ble_eq_true rfl) (by decide) (by decide) (fun r12 σ13 h => ?_)
      refine r_if_eq 106 hc dX6_who_94 (by decide) h (fun h => ?_) (fun h => ?_)
      · exact u6_who_106 hc ih (ho5) h
      · refine r_iload 6 hc dX6_who_97 rfl ?_
        refine r_iconst (v := 1) hc dX6_who_99 (by decide) ?_
        refine r_iload 7 hc dX6_who_100 rfl ?_
        refine r_ishl hc dX6_who_102 ?_
        refine r_ior hc dX6_who_103 ?_
        refine r_nmI h (fun v14 h => ?_)
        refine r_istore (lv' := [(7, .int v14), (0, aK κ 0), (1, .int i1), (2, .int i2), (3, .int i3), (4, .int i4), (5, aK κ o5), (8, .int i8)]) hc dX6_who_104 (by decide) rfl ?_
        refine r_sub [1, 2, 3, 4, 5, 6, 0, 7] rfl ?_
        exact u6_who_106 hc ih (ho5) h
set_option maxRecDepth 100000 in
set_option maxHeartbeats 4000000 in
theorem t6_who {l : Launch} {i1 : Int32} {i2 : Int32} {i3 : Int32} {i4 : Int32} {σ : St} {k : Int32 → St → Prop}  (h : x6_who i1 i2 i3 i4 σ k) : CI l yX6_who cX6_who 9 6 (some .int) (fun ad => [.ref (ad 0), .int i1, .int i2, .int i3, .int i4]) σ k := by
  refine CI.of (lv := fun ad => [(0, .ref (ad 0)), (1, .int i1), (2, .int i2), (3, .int i3), (4, .int i4)]) (by decide) (fun _ => Nat.le_of_ble_eq_true rfl) (fun _ => rfl) (fun κ hc => ?_)
  show Wd κ 9 (QI κ k) 0 [(0, aK κ 0), (1, .int i1), (2, .int i2), (3, .int i3), (4, .int i4)] [] σ
  unfold x6_who at h
  refine r_aload_n 0 hc dX6_who_0 rfl ?_
  refine r_get (K := 6) (f := 2) hc dX6_who_1 fX6_22 inX6 rfl rfl (by decide) (by decide) rfl rfl ?_
  refine r_iload_n 1 hc dX6_who_4 rfl ?_
  refine r_cvI [.int i1] hc dX6_who_5 cX6_200 (t5_hasCaller rfl h) rfl (by decide) rfl rfl rfl rfl (Nat.le_of_ble_eq_true rfl) (by decide) (by decide) (fun r1 σ2 h => ?_)
  refine r_if_eq 31 hc dX6_who_8 (by decide) h (fun h => ?_) (fun h => ?_)
  · exact u6_who_31 hc h
  · refine r_iload_n 2 hc dX6_who_11 rfl ?_
    refine r_csI [.int i2] hc dX6_who_12 cX6_65 (t6_isRow h) rfl rfl rfl (Nat.le_of_ble_eq_true rfl) (by decide) (by decide) (fun r3 σ4 h => ?_)
    refine r_if_eq 31 hc dX6_who_15 (by decide) h (fun h => ?_) (fun h => ?_)
    · exact u6_who_31 hc h
    · refine r_iload 4 hc dX6_who_18 rfl ?_
      refine r_iconst (v := 1) hc dX6_who_20 (by decide) ?_
      refine r_icmp_lt 31 hc dX6_who_21 (by decide) h (fun h => ?_) (fun h => ?_)
      · exact u6_who_31 hc h
      · refine r_iload 4 hc dX6_who_24 rfl ?_
        refine r_bipush (v := 12) hc dX6_who_26 (by decide) ?_
        refine r_icmp_le 34 hc dX6_who_28 (by decide) h (fun h => ?_) (fun h => ?_)
        · refine r_aload_n 0 hc dX6_who_34 rfl ?_
          refine r_get (K := 6) (f := 0) hc dX6_who_35 fX6_11 inX6 rfl rfl (by decide) (by decide) rfl rfl ?_
          refine r_iload_n 2 hc dX6_who_38 rfl ?_
          have hk5 := k_row h.1
          refine r_rows hc dX6_who_39 h (fun h => ?_)
          refine r_astore (lv' := [(5, aK κ (2 + 2 * i2.toNatClampNeg)), (0, aK κ 0), (1, .int i1), (2, .int i2), (3, .int i3), (4, .int i4)]) hc dX6_who_40 (by decide) rfl ?_
          refine r_aload 0 hc dX6_who_42 rfl ?_
          refine r_iload_n 4 hc dX6_who_44 rfl ?_
          refine r_iload 5 hc dX6_who_45 rfl ?_
          refine r_csI [aK κ (2 + 2 * i2.toNatClampNeg), .int i3, .int i4] hc dX6_who_47 cX6_81 (t6_findingAt hk5 h) rfl rfl rfl (Nat.le_of_ble_eq_true rfl) (by decide) (by decide) (fun r6 σ7 h => ?_)
          refine r_istore (lv' := [(6, .int r6), (5, aK κ (2 + 2 * i2.toNatClampNeg)), (0, aK κ 0), (1, .int i1), (2, .int i2), (3, .int i3), (4, .int i4)]) hc dX6_who_50 (by decide) rfl ?_
          refine r_iload 0 hc dX6_who_52 rfl ?_
          refine r_if_eq 64 hc dX6_who_54 (by decide) h (fun h => ?_) (fun h => ?_)
          · refine r_iconst (v := 0) hc dX6_who_64 (by decide) ?_
            refine r_istore (lv' := [(7, .int 0), (6, .int r6), (5, aK κ (2 + 2 * i2.toNatClampNeg)), (0, aK κ 0), (1, .int i1), (2, .int i2), (3, .int i3), (4, .int i4)]) hc dX6_who_65 (by decide) rfl ?_
            refine r_iconst (v := 1) hc dX6_who_67 (by decide) ?_
            refine r_istore (lv' := [(8, .int 1), (7, .int 0), (6, .int r6), (5, aK κ (2 + 2 * i2.toNatClampNeg)), (0, aK κ 0), (1, .int i1), (2, .int i2), (3, .int i3), (4, .int i4)]) hc dX6_who_68 (by decide) rfl ?_
            refine r_sub [4, 5, 6, 7, 8, 3, 1, 0] rfl ?_
            obtain ⟨n0, h⟩ := h
            exact u6_who_70 hc n0 _ _ _ _ (hk5) h
          · refine r_aload_n 2 hc dX6_who_57 rfl ?_
            refine r_iload 0 hc dX6_who_58 rfl ?_
            refine r_cvI [.int r6] hc dX6_who_60 cX6_70 (t6_found h) rfl (by decide) rfl rfl rfl rfl (Nat.le_of_ble_eq_true rfl) (by decide) (by decide) (fun r15 σ16 h => ?_)
            exact r_iret hc dX6_who_63 h
        · exact u6_who_31 hc h
set_option maxRecDepth 100000 in
set_option maxHeartbeats 4000000 in
theorem u7_lay_3 {κ : KT} {k : St → Prop} {o0 : Nat} {i1 : Int32} {o2 : Nat} {i3 : Int32}   (hc : Cx κ cX7_lay 5 RX7 1 none) (ho0 : kd o0 = 8) (ho2 : kd o2 = 8)  : ∀ (n : Nat) (i4 : Int32) (σ : St), x7_lay_3 o0 i1 o2 i3 k n i4 σ → Wd κ 5 (QV κ k) 3 [(0, aK κ o0), (1, .int i1), (2, aK κ o2), (3, .int i3), (4, .int i4)] [] σ := by
  intro n
  induction n with
  | zero => intro i4 σ h; exact h.elim
  | succ n ih =>
    intro i4 σ h
    unfold x7_lay_3 at h
    refine r_iload 4 hc dX7_lay_3 rfl ?_
    refine r_bipush (v := 53) hc dX7_lay_5 (by decide) ?_
    refine r_icmp_ge 28 hc dX7_lay_7 (by decide) h (fun h => ?_) (fun h => ?_)
    · exact r_vret hc dX7_lay_28 h
    · refine r_aload_n 2 hc dX7_lay_10 rfl ?_
      refine r_iload_n 3 hc dX7_lay_11 rfl ?_
      refine r_iload 4 hc dX7_lay_12 rfl ?_
      refine r_iadd hc dX7_lay_14 ?_
      refine r_aload_n 0 hc dX7_lay_15 rfl ?_
      refine r_iload_n 1 hc dX7_lay_16 rfl ?_
      refine r_iload 4 hc dX7_lay_17 rfl ?_
      refine r_iadd hc dX7_lay_19 ?_
      refine r_iald hc dX7_lay_20 ho0 h (fun h => ?_)
      refine r_iast hc dX7_lay_21 ho2 h (fun h => ?_)
      refine r_nmS h (fun σ1 h => ?_)
      refine r_iinc (v := 1) (lv' := [(4, .int (i4 + 1)), (0, aK κ o0), (1, .int i1), (2, aK κ o2), (3, .int i3)]) 4 hc dX7_lay_22 rfl (by decide) (by decide) rfl ?_
      refine r_goto 3 hc dX7_lay_25 (by decide) ?_
      refine r_sub [1, 2, 3, 4, 0] rfl ?_
      exact ih _ _ h
set_option maxRecDepth 100000 in
set_option maxHeartbeats 4000000 in
theorem t7_lay {l : Launch} {o0 : Nat} {i1 : Int32} {o2 : Nat} {i3 : Int32} {σ : St} {k : St → Prop} (ho0 : kd o0 = 8) (ho2 : kd o2 = 8) (h : x7_lay o0 i1 o2 i3 σ k) : CV l yX7_lay cX7_lay 5 1 none (fun ad => [.ref (ad o0), .int i1, .ref (ad o2), .int i3]) σ k := by
  refine CV.of (lv := fun ad => [(0, .ref (ad o0)), (1, .int i1), (2, .ref (ad o2)), (3, .int i3)]) (by decide) (fun _ => Nat.le_of_ble_eq_true rfl) (fun _ => rfl) (fun κ hc => ?_)
  show Wd κ 5 (QV κ k) 0 [(0, aK κ o0), (1, .int i1), (2, aK κ o2), (3, .int i3)] [] σ
  unfold x7_lay at h
  refine r_iconst (v := 0) hc dX7_lay_0 (by decide) ?_
  refine r_istore (lv' := [(4, .int 0), (0, aK κ o0), (1, .int i1), (2, aK κ o2), (3, .int i3)]) hc dX7_lay_1 (by decide) rfl ?_
  refine r_sub [1, 2, 3, 4, 0] rfl ?_
  obtain ⟨n0, h⟩ := h
  exact u7_lay_3 hc (ho0) (ho2) n0 _ _ h
set_option maxRecDepth 100000 in
set_option maxHeartbeats 4000000 in
theorem u7_act_49 {κ : KT} {k : St → Prop}    {σ : St}  (hc : Cx κ cX7_act 2 RX7 2 none)    (h : x7_act_49 σ k) : Wd κ 2 (QV κ k) 49 [(0, aK κ 65)] [] σ := by
  unfold x7_act_49 at h
  refine r_aload_n 0 hc dX7_act_49 rfl ?_
  refine r_get (K := 7) (f := 12) hc dX7_act_50 fX7_22 inX7 rfl rfl (by decide) (by decide) rfl rfl ?_
  refine r_iconst (v := 0) hc dX7_act_53 (by decide) ?_
  refine r_aload_n 0 hc dX7_act_54 rfl ?_
  refine r_get (K := 7) (f := 17) hc dX7_act_55 fX7_38 inX7 rfl rfl (by decide) (by decide) rfl rfl ?_
  refine r_bipush (v := 53) hc dX7_act_58 (by decide) ?_
  refine r_aload_n 0 hc dX7_act_60 rfl ?_
  refine r_get (K := 7) (f := 18) hc dX7_act_61 fX7_130 inX7 rfl rfl (by decide) (by decide) rfl rfl ?_
  refine r_imul hc dX7_act_64 ?_
  refine r_csV [aK κ 70, .int 0, aK κ 75, .int (53 * (σ 65 18))] hc dX7_act_65 cX7_126 (t7_lay rfl rfl h) rfl rfl rfl (Nat.le_of_ble_eq_true rfl) (by decide) (by decide) (fun σ3 h => ?_)
  refine r_aload_n 0 hc dX7_act_68 rfl ?_
  refine r_dup hc dX7_act_69 rfl ?_
  refine r_get (K := 7) (f := 18) hc dX7_act_70 fX7_130 inX7 rfl rfl (by decide) (by decide) rfl rfl ?_
  refine r_iconst (v := 1) hc dX7_act_73 (by decide) ?_
  refine r_iadd hc dX7_act_74 ?_
  refine r_put (K := 7) (f := 18) hc dX7_act_75 fX7_130 inX7 tyX7_ok nmX7 rfl rfl rfl rfl (by decide) (by decide) rfl rfl ?_
  refine r_nmS h (fun σ4 h => ?_)
  exact r_vret hc dX7_act_78 h
set_option maxRecDepth 100000 in
set_option maxHeartbeats 4000000 in
theorem u7_act_11 {κ : KT} {k : St → Prop}    (hc : Cx κ cX7_act 2 RX7 2 none)   : ∀ (n : Nat) (i1 : Int32) (σ : St), x7_act_11 k n i1 σ → Wd κ 2 (QV κ k) 11 [(0, aK κ 65), (1, .int i1)] [] σ := by
  intro n
  induction n with
  | zero => intro i1 σ h; exact h.elim
  | succ n ih =>
    intro i1 σ h
    unfold x7_act_11 at h
    refine r_iload_n 1 hc dX7_act_11 rfl ?_
    refine r_sipush (v := 1219) hc dX7_act_12 (by decide) ?_
    refine r_icmp_ge 39 hc dX7_act_15 (by decide) h (fun h => ?_) (fun h => ?_)
    · refine r_aload_n 0 hc dX7_act_39 rfl ?_
      refine r_dup hc dX7_act_40 rfl ?_
      refine r_get (K := 7) (f := 18) hc dX7_act_41 fX7_130 inX7 rfl rfl (by decide) (by decide) rfl rfl ?_
      refine r_iconst (v := 1) hc dX7_act_44 (by decide) ?_
      refine r_isub hc dX7_act_45 ?_
      refine r_put (K := 7) (f := 18) hc dX7_act_46 fX7_130 inX7 tyX7_ok nmX7 rfl rfl rfl rfl (by decide) (by decide) rfl rfl ?_
      refine r_nmS h (fun σ1 h => ?_)
      refine r_sub [0] rfl ?_
      exact u7_act_49 hc h
    · refine r_aload_n 0 hc dX7_act_18 rfl ?_
      refine r_get (K := 7) (f := 17) hc dX7_act_19 fX7_38 inX7 rfl rfl (by decide) (by decide) rfl rfl ?_
      refine r_iload_n 1 hc dX7_act_22 rfl ?_
      refine r_aload_n 0 hc dX7_act_23 rfl ?_
      refine r_get (K := 7) (f := 17) hc dX7_act_24 fX7_38 inX7 rfl rfl (by decide) (by decide) rfl rfl ?_
      refine r_iload_n 1 hc dX7_act_27 rfl ?_
      refine r_bipush (v := 53) hc dX7_act_28 (by decide) ?_
      refine r_iadd hc dX7_act_30 ?_
      refine r_iald hc dX7_act_31 rfl h (fun h => ?_)
      refine r_iast hc dX7_act_32 rfl h (fun h => ?_)
      refine r_nmS h (fun σ5 h => ?_)
      refine r_iinc (v := 1) (lv' := [(1, .int (i1 + 1)), (0, aK κ 65)]) 1 hc dX7_act_33 rfl (by decide) (by decide) rfl ?_
      refine r_goto 11 hc dX7_act_36 (by decide) ?_
      refine r_sub [1, 0] rfl ?_
      exact ih _ _ h
set_option maxRecDepth 100000 in
set_option maxHeartbeats 4000000 in
theorem t7_act {l : Launch}  {σ : St} {k : St → Prop}  (h : x7_act  σ k) : CV l yX7_act cX7_act 2 2 none (fun ad => [.ref (ad 65)]) σ k := by
  refine CV.of (lv := fun ad => [(0, .ref (ad 65))]) (by decide) (fun _ => Nat.le_of_ble_eq_true rfl) (fun _ => rfl) (fun κ hc => ?_)
  show Wd κ 2 (QV κ k) 0 [(0, aK κ 65)] [] σ
  unfold x7_act at h
  refine r_aload_n 0 hc dX7_act_0 rfl ?_
  refine r_get (K := 7) (f := 18) hc dX7_act_1 fX7_130 inX7 rfl rfl (by decide) (by decide) rfl rfl ?_
  refine r_bipush (v := 24) hc dX7_act_4 (by decide) ?_
  refine r_icmp_ne 49 hc dX7_act_6 (by decide) h (fun h => ?_) (fun h => ?_)
  · refine r_iconst (v := 0) hc dX7_act_9 (by decide) ?_
    refine r_istore_n (lv' := [(1, .int 0), (0, aK κ 65)]) hc dX7_act_10 (by decide) rfl ?_
    refine r_sub [1, 0] rfl ?_
    obtain ⟨n0, h⟩ := h
    exact u7_act_11 hc n0 _ _ h
  · exact u7_act_49 hc h
set_option maxRecDepth 100000 in
set_option maxHeartbeats 4000000 in
theorem u7_in_15 {κ : KT} {k : Int32 → St → Prop} {i0 : Int32} {i1 : Int32} {i2 : Int32}  {s0 : Int32} {σ : St}  (hc : Cx κ cX7_in 3 RX7 1 (some .boolean))    (h : x7_in_15 i0 i1 i2 s0 σ k) : Wd κ 3 (QI κ k) 15 [(0, .int i0), (1, .int i1), (2, .int i2)] [.int s0] σ := by
  unfold x7_in_15 at h
  exact r_zret hc dX7_in_15 h
set_option maxRecDepth 100000 in
set_option maxHeartbeats 4000000 in
theorem u7_in_14 {κ : KT} {k : Int32 → St → Prop} {i0 : Int32} {i1 : Int32} {i2 : Int32}   {σ : St}  (hc : Cx κ cX7_in 3 RX7 1 (some .boolean))    (h : x7_in_14 i0 i1 i2 σ k) : Wd κ 3 (QI κ k) 14 [(0, .int i0), (1, .int i1), (2, .int i2)] [] σ := by
  unfold x7_in_14 at h
  refine r_iconst (v := 0) hc dX7_in_14 (by decide) ?_
  exact u7_in_15 hc h
set_option maxRecDepth 100000 in
set_option maxHeartbeats 4000000 in
theorem t7_in {l : Launch} {i0 : Int32} {i1 : Int32} {i2 : Int32} {σ : St} {k : Int32 → St → Prop}  (h : x7_in i0 i1 i2 σ k) : CI l yX7_in cX7_in 3 1 (some .boolean) (fun ad => [.int i0, .int i1, .int i2]) σ k := by
  refine CI.of (lv := fun ad => [(0, .int i0), (1, .int i1), (2, .int i2)]) (by decide) (fun _ => Nat.le_of_ble_eq_true rfl) (fun _ => rfl) (fun κ hc => ?_)
  show Wd κ 3 (QI κ k) 0 [(0, .int i0), (1, .int i1), (2, .int i2)] [] σ
  unfold x7_in at h
  refine r_iload_n 0 hc dX7_in_0 rfl ?_
  refine r_iload_n 1 hc dX7_in_1 rfl ?_
  refine r_icmp_lt 14 hc dX7_in_2 (by decide) h (fun h => ?_) (fun h => ?_)
  · exact u7_in_14 hc h
  · refine r_iload_n 0 hc dX7_in_5 rfl ?_
    refine r_iload_n 2 hc dX7_in_6 rfl ?_
    refine r_icmp_gt 14 hc dX7_in_7 (by decide) h (fun h => ?_) (fun h => ?_)
    · exact u7_in_14 hc h
    · refine r_iconst (v := 1) hc dX7_in_10 (by decide) ?_
      refine r_goto 15 hc dX7_in_11 (by decide) ?_
      exact u7_in_15 hc h
set_option maxRecDepth 100000 in
set_option maxHeartbeats 4000000 in
theorem t7_isOne {l : Launch} {i1 : Int32} {σ : St} {k : Int32 → St → Prop}  (h : x7_isOne i1 σ k) : CI l yX7_isOne cX7_isOne 2 2 (some .boolean) (fun ad => [.ref (ad 65), .int i1]) σ k := by
  refine CI.of (lv := fun ad => [(0, .ref (ad 65)), (1, .int i1)]) (by decide) (fun _ => Nat.le_of_ble_eq_true rfl) (fun _ => rfl) (fun κ hc => ?_)
  show Wd κ 2 (QI κ k) 0 [(0, aK κ 65), (1, .int i1)] [] σ
  unfold x7_isOne at h
  refine r_iload_n 1 hc dX7_isOne_0 rfl ?_
  refine r_iconst (v := 0) hc dX7_isOne_1 (by decide) ?_
  refine r_aload_n 0 hc dX7_isOne_2 rfl ?_
  refine r_get (K := 7) (f := 12) hc dX7_isOne_3 fX7_22 inX7 rfl rfl (by decide) (by decide) rfl rfl ?_
  refine r_iconst (v := 3) hc dX7_isOne_6 (by decide) ?_
  refine r_iald hc dX7_isOne_7 rfl h (fun h => ?_)
  refine r_iconst (v := 1) hc dX7_isOne_8 (by decide) ?_
  refine r_isub hc dX7_isOne_9 ?_
  refine r_csI [.int i1, .int 0, .int ((σ 70 (3 : Int32).toNatClampNeg) - 1)] hc dX7_isOne_10 cX7_55 (t7_in h) rfl rfl rfl (Nat.le_of_ble_eq_true rfl) (by decide) (by decide) (fun r1 σ2 h => ?_)
  exact r_zret hc dX7_isOne_13 h
set_option maxRecDepth 100000 in
set_option maxHeartbeats 4000000 in
theorem u7_isHeard_72 {κ : KT} {k : Int32 → St → Prop} {o0 : Nat} {i1 : Int32}  {s0 : Int32} {σ : St}  (hc : Cx κ cX7_isHeard 4 RX7 1 (some .boolean)) (ho0 : kd o0 = 8)   (h : x7_isHeard_72 o0 i1 s0 σ k) : Wd κ 4 (QI κ k) 72 [(0, aK κ o0), (1, .int i1)] [.int s0] σ := by
  unfold x7_isHeard_72 at h
  exact r_zret hc dX7_isHeard_72 h
set_option maxRecDepth 100000 in
set_option maxHeartbeats 4000000 in
theorem u7_isHeard_67 {κ : KT} {k : Int32 → St → Prop} {o0 : Nat} {i1 : Int32}   {σ : St}  (hc : Cx κ cX7_isHeard 4 RX7 1 (some .boolean)) (ho0 : kd o0 = 8)   (h : x7_isHeard_67 o0 i1 σ k) : Wd κ 4 (QI κ k) 67 [(0, aK κ o0), (1, .int i1)] [] σ := by
  unfold x7_isHeard_67 at h
  refine r_iconst (v := 1) hc dX7_isHeard_67 (by decide) ?_
  refine r_goto 72 hc dX7_isHeard_68 (by decide) ?_
  exact u7_isHeard_72 hc (ho0) h
set_option maxRecDepth 100000 in
set_option maxHeartbeats 4000000 in
theorem u7_isHeard_48 {κ : KT} {k : Int32 → St → Prop} {o0 : Nat} {i1 : Int32}  {i2 : Int32} {s0 : Int32} {σ : St}  (hc : Cx κ cX7_isHeard 4 RX7 1 (some .boolean)) (ho0 : kd o0 = 8)   (h : x7_isHeard_48 o0 i1 i2 s0 σ k) : Wd κ 4 (QI κ k) 48 [(0, aK κ o0), (1, .int i1), (2, .int i2)] [.int s0] σ := by
  unfold x7_isHeard_48 at h
  refine r_istore_n (lv' := [(3, .int s0), (0, aK κ o0), (1, .int i1), (2, .int i2)]) hc dX7_isHeard_48 (by decide) rfl ?_
  refine r_aload_n 1 hc dX7_isHeard_49 rfl ?_
  refine r_bipush (v := 23) hc dX7_isHeard_50 (by decide) ?_
  refine r_iload_n 2 hc dX7_isHeard_52 rfl ?_
  refine r_iadd hc dX7_isHeard_53 ?_
  refine r_iald hc dX7_isHeard_54 ho0 h (fun h => ?_)
  refine r_iconst (v := 1) hc dX7_isHeard_55 (by decide) ?_
  refine r_icmp_eq 67 hc dX7_isHeard_56 (by decide) h (fun h => ?_) (fun h => ?_)
  · refine r_sub [1, 2] rfl ?_
    exact u7_isHeard_67 hc (ho0) h
  · refine r_iload_n 3 hc dX7_isHeard_59 rfl ?_
    refine r_if_ne 67 hc dX7_isHeard_60 (by decide) h (fun h => ?_) (fun h => ?_)
    · refine r_iload_n 0 hc dX7_isHeard_63 rfl ?_
      refine r_if_eq 71 hc dX7_isHeard_64 (by decide) h (fun h => ?_) (fun h => ?_)
      · refine r_iconst (v := 0) hc dX7_isHeard_71 (by decide) ?_
        refine r_sub [1, 2] rfl ?_
        exact u7_isHeard_72 hc (ho0) h
      · refine r_sub [1, 2] rfl ?_
        exact u7_isHeard_67 hc (ho0) h
    · refine r_sub [1, 2] rfl ?_
      exact u7_isHeard_67 hc (ho0) h
set_option maxRecDepth 100000 in
set_option maxHeartbeats 4000000 in
theorem u7_isHeard_47 {κ : KT} {k : Int32 → St → Prop} {o0 : Nat} {i1 : Int32}  {i2 : Int32} {σ : St}  (hc : Cx κ cX7_isHeard 4 RX7 1 (some .boolean)) (ho0 : kd o0 = 8)   (h : x7_isHeard_47 o0 i1 i2 σ k) : Wd κ 4 (QI κ k) 47 [(0, aK κ o0), (1, .int i1), (2, .int i2)] [] σ := by
  unfold x7_isHeard_47 at h
  refine r_iconst (v := 0) hc dX7_isHeard_47 (by decide) ?_
  exact u7_isHeard_48 hc (ho0) h
set_option maxRecDepth 100000 in
set_option maxHeartbeats 4000000 in
theorem u7_isHeard_21 {κ : KT} {k : Int32 → St → Prop} {o0 : Nat} {i1 : Int32}  {s0 : Int32} {σ : St}  (hc : Cx κ cX7_isHeard 4 RX7 1 (some .boolean)) (ho0 : kd o0 = 8)   (h : x7_isHeard_21 o0 i1 s0 σ k) : Wd κ 4 (QI κ k) 21 [(0, aK κ o0), (1, .int i1)] [.int s0] σ := by
  unfold x7_isHeard_21 at h
  refine r_istore_n (lv' := [(2, .int s0), (0, aK κ o0), (1, .int i1)]) hc dX7_isHeard_21 (by decide) rfl ?_
  refine r_iload_n 2 hc dX7_isHeard_22 rfl ?_
  refine r_iconst (v := 1) hc dX7_isHeard_23 (by decide) ?_
  refine r_iadd hc dX7_isHeard_24 ?_
  refine r_aload_n 1 hc dX7_isHeard_25 rfl ?_
  refine r_iconst (v := 2) hc dX7_isHeard_26 (by decide) ?_
  refine r_iald hc dX7_isHeard_27 ho0 h (fun h => ?_)
  refine r_icmp_ge 47 hc dX7_isHeard_28 (by decide) h (fun h => ?_) (fun h => ?_)
  · refine r_sub [1, 2, 0] rfl ?_
    exact u7_isHeard_47 hc (ho0) h
  · refine r_aload_n 1 hc dX7_isHeard_31 rfl ?_
    refine r_bipush (v := 23) hc dX7_isHeard_32 (by decide) ?_
    refine r_iload_n 2 hc dX7_isHeard_34 rfl ?_
    refine r_iadd hc dX7_isHeard_35 ?_
    refine r_iconst (v := 1) hc dX7_isHeard_36 (by decide) ?_
    refine r_iadd hc dX7_isHeard_37 ?_
    refine r_iald hc dX7_isHeard_38 ho0 h (fun h => ?_)
    refine r_iconst (v := 1) hc dX7_isHeard_39 (by decide) ?_
    refine r_icmp_ne 47 hc dX7_isHeard_40 (by decide) h (fun h => ?_) (fun h => ?_)
    · refine r_iconst (v := 1) hc dX7_isHeard_43 (by decide) ?_
      refine r_goto 48 hc dX7_isHeard_44 (by decide) ?_
      refine r_sub [1, 2, 0] rfl ?_
      exact u7_isHeard_48 hc (ho0) h
    · refine r_sub [1, 2, 0] rfl ?_
      exact u7_isHeard_47 hc (ho0) h
set_option maxRecDepth 100000 in
set_option maxHeartbeats 4000000 in
theorem u7_isHeard_20 {κ : KT} {k : Int32 → St → Prop} {o0 : Nat} {i1 : Int32}   {σ : St}  (hc : Cx κ cX7_isHeard 4 RX7 1 (some .boolean)) (ho0 : kd o0 = 8)   (h : x7_isHeard_20 o0 i1 σ k) : Wd κ 4 (QI κ k) 20 [(0, aK κ o0), (1, .int i1)] [] σ := by
  unfold x7_isHeard_20 at h
  refine r_iconst (v := 0) hc dX7_isHeard_20 (by decide) ?_
  exact u7_isHeard_21 hc (ho0) h
set_option maxRecDepth 100000 in
set_option maxHeartbeats 4000000 in
theorem t7_isHeard {l : Launch} {o0 : Nat} {i1 : Int32} {σ : St} {k : Int32 → St → Prop} (ho0 : kd o0 = 8) (h : x7_isHeard o0 i1 σ k) : CI l yX7_isHeard cX7_isHeard 4 1 (some .boolean) (fun ad => [.ref (ad o0), .int i1]) σ k := by
  refine CI.of (lv := fun ad => [(0, .ref (ad o0)), (1, .int i1)]) (by decide) (fun _ => Nat.le_of_ble_eq_true rfl) (fun _ => rfl) (fun κ hc => ?_)
  show Wd κ 4 (QI κ k) 0 [(0, aK κ o0), (1, .int i1)] [] σ
  unfold x7_isHeard at h
  refine r_iload_n 1 hc dX7_isHeard_0 rfl ?_
  refine r_if_le 20 hc dX7_isHeard_1 (by decide) h (fun h => ?_) (fun h => ?_)
  · exact u7_isHeard_20 hc (ho0) h
  · refine r_aload_n 0 hc dX7_isHeard_4 rfl ?_
    refine r_bipush (v := 23) hc dX7_isHeard_5 (by decide) ?_
    refine r_iload_n 1 hc dX7_isHeard_7 rfl ?_
    refine r_iadd hc dX7_isHeard_8 ?_
    refine r_iconst (v := 1) hc dX7_isHeard_9 (by decide) ?_
    refine r_isub hc dX7_isHeard_10 ?_
    refine r_iald hc dX7_isHeard_11 ho0 h (fun h => ?_)
    refine r_iconst (v := 1) hc dX7_isHeard_12 (by decide) ?_
    refine r_icmp_ne 20 hc dX7_isHeard_13 (by decide) h (fun h => ?_) (fun h => ?_)
    · refine r_iconst (v := 1) hc dX7_isHeard_16 (by decide) ?_
      refine r_goto 21 hc dX7_isHeard_17 (by decide) ?_
      exact u7_isHeard_21 hc (ho0) h
    · exact u7_isHeard_20 hc (ho0) h
set_option maxRecDepth 100000 in
set_option maxHeartbeats 4000000 in
theorem u7_opensAt_28 {κ : KT} {k : Int32 → St → Prop} {i0 : Int32} {i1 : Int32} {i2 : Int32} {i3 : Int32}  {s0 : Int32} {σ : St}  (hc : Cx κ cX7_opensAt 5 RX7 1 (some .int))    (h : x7_opensAt_28 i0 i1 i2 i3 s0 σ k) : Wd κ 5 (QI κ k) 28 [(0, .int i0), (1, .int i1), (2, .int i2), (3, .int i3)] [.int s0] σ := by
  unfold x7_opensAt_28 at h
  exact r_iret hc dX7_opensAt_28 h
set_option maxRecDepth 100000 in
set_option maxHeartbeats 4000000 in
theorem u7_opensAt_12 {κ : KT} {k : Int32 → St → Prop} {i0 : Int32} {i1 : Int32} {i2 : Int32} {i3 : Int32}  {s1 : Int32} {s0 : Int32} {σ : St}  (hc : Cx κ cX7_opensAt 5 RX7 1 (some .int))    (h : x7_opensAt_12 i0 i1 i2 i3 s1 s0 σ k) : Wd κ 5 (QI κ k) 12 [(0, .int i0), (1, .int i1), (2, .int i2), (3, .int i3)] [.int s1, .int s0] σ := by
  unfold x7_opensAt_12 at h
  refine r_iadd hc dX7_opensAt_12 ?_
  refine r_iload_n 2 hc dX7_opensAt_13 rfl ?_
  refine r_isub hc dX7_opensAt_14 ?_
  refine r_nmI h (fun v1 h => ?_)
  refine r_istore (lv' := [(4, .int v1), (0, .int i0), (1, .int i1), (2, .int i2), (3, .int i3)]) hc dX7_opensAt_15 (by decide) rfl ?_
  refine r_iload 0 hc dX7_opensAt_17 rfl ?_
  refine r_if_ge 26 hc dX7_opensAt_19 (by decide) h (fun h => ?_) (fun h => ?_)
  · refine r_iload 0 hc dX7_opensAt_26 rfl ?_
    refine r_sub [1, 2, 3, 4] rfl ?_
    exact u7_opensAt_28 hc h
  · refine r_iconst (v := 0) hc dX7_opensAt_22 (by decide) ?_
    refine r_goto 28 hc dX7_opensAt_23 (by decide) ?_
    refine r_sub [1, 2, 3, 4] rfl ?_
    exact u7_opensAt_28 hc h
set_option maxRecDepth 100000 in
set_option maxHeartbeats 4000000 in
theorem t7_opensAt {l : Launch} {i0 : Int32} {i1 : Int32} {i2 : Int32} {i3 : Int32} {σ : St} {k : Int32 → St → Prop}  (h : x7_opensAt i0 i1 i2 i3 σ k) : CI l yX7_opensAt cX7_opensAt 5 1 (some .int) (fun ad => [.int i0, .int i1, .int i2, .int i3]) σ k := by
  refine CI.of (lv := fun ad => [(0, .int i0), (1, .int i1), (2, .int i2), (3, .int i3)]) (by decide) (fun _ => Nat.le_of_ble_eq_true rfl) (fun _ => rfl) (fun κ hc => ?_)
  show Wd κ 5 (QI κ k) 0 [(0, .int i0), (1, .int i1), (2, .int i2), (3, .int i3)] [] σ
  unfold x7_opensAt at h
  refine r_iload_n 0 hc dX7_opensAt_0 rfl ?_
  refine r_iload_n 1 hc dX7_opensAt_1 rfl ?_
  refine r_iadd hc dX7_opensAt_2 ?_
  refine r_iload_n 3 hc dX7_opensAt_3 rfl ?_
  refine r_if_eq 11 hc dX7_opensAt_4 (by decide) h (fun h => ?_) (fun h => ?_)
  · refine r_iconst (v := 0) hc dX7_opensAt_11 (by decide) ?_
    exact u7_opensAt_12 hc h
  · refine r_iconst (v := 2) hc dX7_opensAt_7 (by decide) ?_
    refine r_goto 12 hc dX7_opensAt_8 (by decide) ?_
    exact u7_opensAt_12 hc h
set_option maxRecDepth 100000 in
set_option maxHeartbeats 4000000 in
theorem t7_opensOf {l : Launch} {o0 : Nat} {i1 : Int32} {σ : St} {k : Int32 → St → Prop} (ho0 : kd o0 = 8) (h : x7_opensOf o0 i1 σ k) : CI l yX7_opensOf cX7_opensOf 2 2 (some .int) (fun ad => [.ref (ad o0), .int i1]) σ k := by
  refine CI.of (lv := fun ad => [(0, .ref (ad o0)), (1, .int i1)]) (by decide) (fun _ => Nat.le_of_ble_eq_true rfl) (fun _ => rfl) (fun κ hc => ?_)
  show Wd κ 2 (QI κ k) 0 [(0, aK κ o0), (1, .int i1)] [] σ
  unfold x7_opensOf at h
  refine r_aload_n 0 hc dX7_opensOf_0 rfl ?_
  refine r_iconst (v := 5) hc dX7_opensOf_1 (by decide) ?_
  refine r_iload_n 1 hc dX7_opensOf_2 rfl ?_
  refine r_iadd hc dX7_opensOf_3 ?_
  refine r_iald hc dX7_opensOf_4 ho0 h (fun h => ?_)
  refine r_aload_n 0 hc dX7_opensOf_5 rfl ?_
  refine r_bipush (v := 11) hc dX7_opensOf_6 (by decide) ?_
  refine r_iload_n 1 hc dX7_opensOf_8 rfl ?_
  refine r_iadd hc dX7_opensOf_9 ?_
  refine r_iald hc dX7_opensOf_10 ho0 h (fun h => ?_)
  refine r_aload_n 0 hc dX7_opensOf_11 rfl ?_
  refine r_bipush (v := 17) hc dX7_opensOf_12 (by decide) ?_
  refine r_iload_n 1 hc dX7_opensOf_14 rfl ?_
  refine r_iadd hc dX7_opensOf_15 ?_
  refine r_iald hc dX7_opensOf_16 ho0 h (fun h => ?_)
  refine r_aload_n 0 hc dX7_opensOf_17 rfl ?_
  refine r_iload_n 1 hc dX7_opensOf_18 rfl ?_
  refine r_csI [aK κ o0, .int i1] hc dX7_opensOf_19 cX7_133 (t7_isHeard ho0 h) rfl rfl rfl (Nat.le_of_ble_eq_true rfl) (by decide) (by decide) (fun r1 σ2 h => ?_)
  refine r_csI [.int (σ o0 (5 + i1).toNatClampNeg), .int (σ o0 (11 + i1).toNatClampNeg), .int (σ o0 (17 + i1).toNatClampNeg), .int r1] hc dX7_opensOf_22 cX7_137 (t7_opensAt h) rfl rfl rfl (Nat.le_of_ble_eq_true rfl) (by decide) (by decide) (fun r3 σ4 h => ?_)
  exact r_iret hc dX7_opensOf_25 h
set_option maxRecDepth 100000 in
set_option maxHeartbeats 4000000 in
theorem u7_staysAt_85 {κ : KT} {k : Int32 → St → Prop} {i0 : Int32} {i1 : Int32} {i2 : Int32} {i3 : Int32} {i4 : Int32}  {s0 : Int32} {σ : St}  (hc : Cx κ cX7_staysAt 7 RX7 1 (some .int))    (h : x7_staysAt_85 i0 i1 i2 i3 i4 s0 σ k) : Wd κ 7 (QI κ k) 85 [(0, .int i0), (1, .int i1), (2, .int i2), (3, .int i3), (4, .int i4)] [.int s0] σ := by
  unfold x7_staysAt_85 at h
  exact r_iret hc dX7_staysAt_85 h
set_option maxRecDepth 100000 in
set_option maxHeartbeats 4000000 in
theorem u7_staysAt_83 {κ : KT} {k : Int32 → St → Prop} {i0 : Int32} {i1 : Int32} {i2 : Int32} {i3 : Int32} {i4 : Int32}  {i6 : Int32} {σ : St}  (hc : Cx κ cX7_staysAt 7 RX7 1 (some .int))    (h : x7_staysAt_83 i0 i1 i2 i3 i4 i6 σ k) : Wd κ 7 (QI κ k) 83 [(0, .int i0), (1, .int i1), (2, .int i2), (3, .int i3), (4, .int i4), (6, .int i6)] [] σ := by
  unfold x7_staysAt_83 at h
  refine r_iload 5 hc dX7_staysAt_83 rfl ?_
  refine r_sub [0, 1, 2, 3, 4] rfl ?_
  exact u7_staysAt_85 hc h
set_option maxRecDepth 100000 in
set_option maxHeartbeats 4000000 in
theorem u7_staysAt_17 {κ : KT} {k : Int32 → St → Prop} {i0 : Int32} {i1 : Int32} {i2 : Int32} {i3 : Int32} {i4 : Int32}  {i5 : Int32} {s0 : Int32} {σ : St}  (hc : Cx κ cX7_staysAt 7 RX7 1 (some .int))    (h : x7_staysAt_17 i0 i1 i2 i3 i4 i5 s0 σ k) : Wd κ 7 (QI κ k) 17 [(0, .int i0), (1, .int i1), (2, .int i2), (3, .int i3), (4, .int i4), (5, .int i5)] [.int s0] σ := by
  unfold x7_staysAt_17 at h
  refine r_istore (lv' := [(6, .int s0), (0, .int i0), (1, .int i1), (2, .int i2), (3, .int i3), (4, .int i4), (5, .int i5)]) hc dX7_staysAt_17 (by decide) rfl ?_
  refine r_iload_n 1 hc dX7_staysAt_19 rfl ?_
  by_cases hq20_0 : i0 = 1
  · rw [if_pos hq20_0] at h
    refine r_tswIn 1 52 hc dX7_staysAt_20 hq20_0 (by decide) (by decide) rfl (by decide) ?_
    refine r_iload 6 hc dX7_staysAt_52 rfl ?_
    exact r_iret hc dX7_staysAt_54 h
  · rw [if_neg hq20_0] at h
    by_cases hq20_1 : i0 = 2
    · rw [if_pos hq20_1] at h
      refine r_tswIn 2 55 hc dX7_staysAt_20 hq20_1 (by decide) (by decide) rfl (by decide) ?_
      refine r_iload 6 hc dX7_staysAt_55 rfl ?_
      refine r_iload_n 3 hc dX7_staysAt_57 rfl ?_
      refine r_iadd hc dX7_staysAt_58 ?_
      exact r_iret hc dX7_staysAt_59 h
    · rw [if_neg hq20_1] at h
      by_cases hq20_2 : i0 = 3
      · rw [if_pos hq20_2] at h
        refine r_tswIn 3 60 hc dX7_staysAt_20 hq20_2 (by decide) (by decide) rfl (by decide) ?_
        refine r_iconst (v := 2) hc dX7_staysAt_60 (by decide) ?_
        refine r_iload 6 hc dX7_staysAt_61 rfl ?_
        refine r_imul hc dX7_staysAt_63 ?_
        exact r_iret hc dX7_staysAt_64 h
      · rw [if_neg hq20_2] at h
        by_cases hq20_3 : i0 = 4
        · rw [if_pos hq20_3] at h
          refine r_tswIn 4 65 hc dX7_staysAt_20 hq20_3 (by decide) (by decide) rfl (by decide) ?_
          refine r_iload 0 hc dX7_staysAt_65 rfl ?_
          exact r_iret hc dX7_staysAt_67 h
        · rw [if_neg hq20_3] at h
          refine r_tswOut 68 hc dX7_staysAt_20 (by have a0 := lv_neT hq20_0 (a := 1) (by decide); have a1 := lv_neT hq20_1 (a := 2) (by decide); have a2 := lv_neT hq20_2 (a := 3) (by decide); have a3 := lv_neT hq20_3 (a := 4) (by decide); omega) (by decide) ?_
          refine r_iload 5 hc dX7_staysAt_68 rfl ?_
          refine r_if_eq 83 hc dX7_staysAt_70 (by decide) h (fun h => ?_) (fun h => ?_)
          · refine r_sub [1, 2, 3, 4, 5, 0] rfl ?_
            exact u7_staysAt_83 hc h
          · refine r_iload 0 hc dX7_staysAt_73 rfl ?_
            refine r_iconst (v := 1) hc dX7_staysAt_75 (by decide) ?_
            refine r_icmp_le 83 hc dX7_staysAt_76 (by decide) h (fun h => ?_) (fun h => ?_)
            · refine r_sub [1, 2, 3, 4, 5, 0] rfl ?_
              exact u7_staysAt_83 hc h
            · refine r_iconst (v := 1) hc dX7_staysAt_79 (by decide) ?_
              refine r_goto 85 hc dX7_staysAt_80 (by decide) ?_
              refine r_sub [1, 2, 3, 4, 5] rfl ?_
              exact u7_staysAt_85 hc h
set_option maxRecDepth 100000 in
set_option maxHeartbeats 4000000 in
theorem t7_staysAt {l : Launch} {i0 : Int32} {i1 : Int32} {i2 : Int32} {i3 : Int32} {i4 : Int32} {σ : St} {k : Int32 → St → Prop}  (h : x7_staysAt i0 i1 i2 i3 i4 σ k) : CI l yX7_staysAt cX7_staysAt 7 1 (some .int) (fun ad => [.int i0, .int i1, .int i2, .int i3, .int i4]) σ k := by
  refine CI.of (lv := fun ad => [(0, .int i0), (1, .int i1), (2, .int i2), (3, .int i3), (4, .int i4)]) (by decide) (fun _ => Nat.le_of_ble_eq_true rfl) (fun _ => rfl) (fun κ hc => ?_)
  show Wd κ 7 (QI κ k) 0 [(0, .int i0), (1, .int i1), (2, .int i2), (3, .int i3), (4, .int i4)] [] σ
  unfold x7_staysAt at h
  refine r_iload_n 1 hc dX7_staysAt_0 rfl ?_
  refine r_iconst (v := 2) hc dX7_staysAt_1 (by decide) ?_
  refine r_iload_n 3 hc dX7_staysAt_2 rfl ?_
  refine r_imul hc dX7_staysAt_3 ?_
  refine r_iadd hc dX7_staysAt_4 ?_
  refine r_nmI h (fun v1 h => ?_)
  refine r_istore (lv' := [(5, .int v1), (0, .int i0), (1, .int i1), (2, .int i2), (3, .int i3), (4, .int i4)]) hc dX7_staysAt_5 (by decide) rfl ?_
  refine r_iload_n 2 hc dX7_staysAt_7 rfl ?_
  refine r_iconst (v := 3) hc dX7_staysAt_8 (by decide) ?_
  refine r_icmp_le 16 hc dX7_staysAt_9 (by decide) h (fun h => ?_) (fun h => ?_)
  · refine r_iload_n 2 hc dX7_staysAt_16 rfl ?_
    refine r_sub [1, 2, 3, 4, 5, 0] rfl ?_
    exact u7_staysAt_17 hc h
  · refine r_iconst (v := 3) hc dX7_staysAt_12 (by decide) ?_
    refine r_goto 17 hc dX7_staysAt_13 (by decide) ?_
    refine r_sub [1, 2, 3, 4, 5, 0] rfl ?_
    exact u7_staysAt_17 hc h
set_option maxRecDepth 100000 in
set_option maxHeartbeats 4000000 in
theorem t7_staysOf {l : Launch} {o0 : Nat} {i1 : Int32} {σ : St} {k : Int32 → St → Prop} (ho0 : kd o0 = 8) (h : x7_staysOf o0 i1 σ k) : CI l yX7_staysOf cX7_staysOf 3 2 (some .int) (fun ad => [.ref (ad o0), .int i1]) σ k := by
  refine CI.of (lv := fun ad => [(0, .ref (ad o0)), (1, .int i1)]) (by decide) (fun _ => Nat.le_of_ble_eq_true rfl) (fun _ => rfl) (fun κ hc => ?_)
  show Wd κ 3 (QI κ k) 0 [(0, aK κ o0), (1, .int i1)] [] σ
  unfold x7_staysOf at h
  refine r_aload_n 0 hc dX7_staysOf_0 rfl ?_
  refine r_bipush (v := 41) hc dX7_staysOf_1 (by decide) ?_
  refine r_iload_n 1 hc dX7_staysOf_3 rfl ?_
  refine r_iadd hc dX7_staysOf_4 ?_
  refine r_iald hc dX7_staysOf_5 ho0 h (fun h => ?_)
  refine r_nmI h (fun v1 h => ?_)
  refine r_istore_n (lv' := [(2, .int v1), (0, aK κ o0), (1, .int i1)]) hc dX7_staysOf_6 (by decide) rfl ?_
  refine r_aload_n 1 hc dX7_staysOf_7 rfl ?_
  refine r_bipush (v := 29) hc dX7_staysOf_8 (by decide) ?_
  refine r_iload_n 2 hc dX7_staysOf_10 rfl ?_
  refine r_iadd hc dX7_staysOf_11 ?_
  refine r_iald hc dX7_staysOf_12 ho0 h (fun h => ?_)
  refine r_aload_n 1 hc dX7_staysOf_13 rfl ?_
  refine r_bipush (v := 35) hc dX7_staysOf_14 (by decide) ?_
  refine r_iload_n 2 hc dX7_staysOf_16 rfl ?_
  refine r_iadd hc dX7_staysOf_17 ?_
  refine r_iald hc dX7_staysOf_18 ho0 h (fun h => ?_)
  refine r_aload_n 1 hc dX7_staysOf_19 rfl ?_
  refine r_bipush (v := 11) hc dX7_staysOf_20 (by decide) ?_
  refine r_iload_n 0 hc dX7_staysOf_22 rfl ?_
  refine r_iadd hc dX7_staysOf_23 ?_
  refine r_iald hc dX7_staysOf_24 ho0 h (fun h => ?_)
  refine r_aload_n 1 hc dX7_staysOf_25 rfl ?_
  refine r_bipush (v := 17) hc dX7_staysOf_26 (by decide) ?_
  refine r_iload_n 0 hc dX7_staysOf_28 rfl ?_
  refine r_iadd hc dX7_staysOf_29 ?_
  refine r_iald hc dX7_staysOf_30 ho0 h (fun h => ?_)
  refine r_aload_n 1 hc dX7_staysOf_31 rfl ?_
  refine r_iload_n 0 hc dX7_staysOf_32 rfl ?_
  refine r_csI [aK κ o0, .int v1] hc dX7_staysOf_33 cX7_133 (t7_isHeard ho0 h) rfl rfl rfl (Nat.le_of_ble_eq_true rfl) (by decide) (by decide) (fun r2 σ3 h => ?_)
  refine r_csI [.int (σ o0 (29 + i1).toNatClampNeg), .int (σ o0 (35 + i1).toNatClampNeg), .int (σ o0 (11 + v1).toNatClampNeg), .int (σ o0 (17 + v1).toNatClampNeg), .int r2] hc dX7_staysOf_36 cX7_141 (t7_staysAt h) rfl rfl rfl (Nat.le_of_ble_eq_true rfl) (by decide) (by decide) (fun r4 σ5 h => ?_)
  exact r_iret hc dX7_staysOf_39 h
set_option maxRecDepth 100000 in
set_option maxHeartbeats 4000000 in
theorem u7_doesMeet_23 {κ : KT} {k : Int32 → St → Prop} {o0 : Nat} {i1 : Int32}  {s0 : Int32} {σ : St}  (hc : Cx κ cX7_doesMeet 2 RX7 3 (some .boolean)) (ho0 : kd o0 = 8)   (h : x7_doesMeet_23 o0 i1 s0 σ k) : Wd κ 2 (QI κ k) 23 [(0, aK κ o0), (1, .int i1)] [.int s0] σ := by
  unfold x7_doesMeet_23 at h
  exact r_zret hc dX7_doesMeet_23 h
set_option maxRecDepth 100000 in
set_option maxHeartbeats 4000000 in
theorem t7_doesMeet {l : Launch} {o0 : Nat} {i1 : Int32} {σ : St} {k : Int32 → St → Prop} (ho0 : kd o0 = 8) (h : x7_doesMeet o0 i1 σ k) : CI l yX7_doesMeet cX7_doesMeet 2 3 (some .boolean) (fun ad => [.ref (ad o0), .int i1]) σ k := by
  refine CI.of (lv := fun ad => [(0, .ref (ad o0)), (1, .int i1)]) (by decide) (fun _ => Nat.le_of_ble_eq_true rfl) (fun _ => rfl) (fun κ hc => ?_)
  show Wd κ 2 (QI κ k) 0 [(0, aK κ o0), (1, .int i1)] [] σ
  unfold x7_doesMeet at h
  refine r_aload_n 0 hc dX7_doesMeet_0 rfl ?_
  refine r_aload_n 0 hc dX7_doesMeet_1 rfl ?_
  refine r_bipush (v := 41) hc dX7_doesMeet_2 (by decide) ?_
  refine r_iload_n 1 hc dX7_doesMeet_4 rfl ?_
  refine r_iadd hc dX7_doesMeet_5 ?_
  refine r_iald hc dX7_doesMeet_6 ho0 h (fun h => ?_)
  refine r_csI [aK κ o0, .int (σ o0 (41 + i1).toNatClampNeg)] hc dX7_doesMeet_7 cX7_145 (t7_opensOf ho0 h) rfl rfl rfl (Nat.le_of_ble_eq_true rfl) (by decide) (by decide) (fun r1 σ2 h => ?_)
  refine r_aload_n 0 hc dX7_doesMeet_10 rfl ?_
  refine r_iload_n 1 hc dX7_doesMeet_11 rfl ?_
  refine r_csI [aK κ o0, .int i1] hc dX7_doesMeet_12 cX7_149 (t7_staysOf ho0 h) rfl rfl rfl (Nat.le_of_ble_eq_true rfl) (by decide) (by decide) (fun r3 σ4 h => ?_)
  refine r_icmp_gt 22 hc dX7_doesMeet_15 (by decide) h (fun h => ?_) (fun h => ?_)
  · refine r_iconst (v := 0) hc dX7_doesMeet_22 (by decide) ?_
    exact u7_doesMeet_23 hc (ho0) h
  · refine r_iconst (v := 1) hc dX7_doesMeet_18 (by decide) ?_
    refine r_goto 23 hc dX7_doesMeet_19 (by decide) ?_
    exact u7_doesMeet_23 hc (ho0) h
set_option maxRecDepth 100000 in
set_option maxHeartbeats 4000000 in
theorem u7_meetersOf_27 {κ : KT} {k : Int32 → St → Prop} {o0 : Nat} {R4 : Int32 → Int32 → St → Prop} {i2 : Int32} {s1 : Int32} {s0 : Int32} {σ : St}  (hc : Cx κ cX7_meetersOf 3 RX7 4 (some .int)) (ho0 : kd o0 = 8) (hR4 : ∀ (i1 : Int32) (i2 : Int32) (σ : St), R4 i1 i2 σ → Wd κ 3 (QI κ k) 4 [(0, aK κ o0), (1, .int i1), (2, .int i2)] [] σ)  (h : x7_meetersOf_27 o0 R4 i2 s1 s0 σ k) : Wd κ 3 (QI κ k) 27 [(0, aK κ o0), (2, .int i2)] [.int s1, .int s0] σ := by
  unfold x7_meetersOf_27 at h
  refine r_ior hc dX7_meetersOf_27 ?_
  refine r_nmI h (fun v3 h => ?_)
  refine r_istore_n (lv' := [(1, .int v3), (0, aK κ o0), (2, .int i2)]) hc dX7_meetersOf_28 (by decide) rfl ?_
  refine r_iinc (v := 1) (lv' := [(2, .int (i2 + 1)), (1, .int v3), (0, aK κ o0)]) 2 hc dX7_meetersOf_29 rfl (by decide) (by decide) rfl ?_
  refine r_goto 4 hc dX7_meetersOf_32 (by decide) ?_
  refine r_sub [2, 1, 0] rfl ?_
  exact hR4 _ _ _ h
set_option maxRecDepth 100000 in
set_option maxHeartbeats 4000000 in
theorem u7_meetersOf_4 {κ : KT} {k : Int32 → St → Prop} {o0 : Nat}   (hc : Cx κ cX7_meetersOf 3 RX7 4 (some .int)) (ho0 : kd o0 = 8)  : ∀ (n : Nat) (i1 : Int32) (i2 : Int32) (σ : St), x7_meetersOf_4 o0 k n i1 i2 σ → Wd κ 3 (QI κ k) 4 [(0, aK κ o0), (1, .int i1), (2, .int i2)] [] σ := by
  intro n
  induction n with
  | zero => intro i1 i2 σ h; exact h.elim
  | succ n ih =>
    intro i1 i2 σ h
    unfold x7_meetersOf_4 at h
    refine r_iload_n 2 hc dX7_meetersOf_4 rfl ?_
    refine r_aload_n 0 hc dX7_meetersOf_5 rfl ?_
    refine r_iconst (v := 3) hc dX7_meetersOf_6 (by decide) ?_
    refine r_iald hc dX7_meetersOf_7 ho0 h (fun h => ?_)
    refine r_icmp_ge 35 hc dX7_meetersOf_8 (by decide) h (fun h => ?_) (fun h => ?_)
    · refine r_iload_n 1 hc dX7_meetersOf_35 rfl ?_
      exact r_iret hc dX7_meetersOf_36 h
    · refine r_iload_n 1 hc dX7_meetersOf_11 rfl ?_
      refine r_aload_n 0 hc dX7_meetersOf_12 rfl ?_
      refine r_iload_n 2 hc dX7_meetersOf_13 rfl ?_
      refine r_csI [aK κ o0, .int i2] hc dX7_meetersOf_14 cX7_152 (t7_doesMeet ho0 h) rfl rfl rfl (Nat.le_of_ble_eq_true rfl) (by decide) (by decide) (fun r1 σ2 h => ?_)
      refine r_if_eq 26 hc dX7_meetersOf_17 (by decide) h (fun h => ?_) (fun h => ?_)
      · refine r_iconst (v := 0) hc dX7_meetersOf_26 (by decide) ?_
        refine r_sub [0, 2] rfl ?_
        exact u7_meetersOf_27 hc (ho0) ih h
      · refine r_iconst (v := 1) hc dX7_meetersOf_20 (by decide) ?_
        refine r_iload_n 2 hc dX7_meetersOf_21 rfl ?_
        refine r_ishl hc dX7_meetersOf_22 ?_
        refine r_goto 27 hc dX7_meetersOf_23 (by decide) ?_
        refine r_sub [0, 2] rfl ?_
        exact u7_meetersOf_27 hc (ho0) ih h
set_option maxRecDepth 100000 in
set_option maxHeartbeats 4000000 in
theorem t7_meetersOf {l : Launch} {o0 : Nat} {σ : St} {k : Int32 → St → Prop} (ho0 : kd o0 = 8) (h : x7_meetersOf o0 σ k) : CI l yX7_meetersOf cX7_meetersOf 3 4 (some .int) (fun ad => [.ref (ad o0)]) σ k := by
  refine CI.of (lv := fun ad => [(0, .ref (ad o0))]) (by decide) (fun _ => Nat.le_of_ble_eq_true rfl) (fun _ => rfl) (fun κ hc => ?_)
  show Wd κ 3 (QI κ k) 0 [(0, aK κ o0)] [] σ
  unfold x7_meetersOf at h
  refine r_iconst (v := 0) hc dX7_meetersOf_0 (by decide) ?_
  refine r_istore_n (lv' := [(1, .int 0), (0, aK κ o0)]) hc dX7_meetersOf_1 (by decide) rfl ?_
  refine r_iconst (v := 0) hc dX7_meetersOf_2 (by decide) ?_
  refine r_istore_n (lv' := [(2, .int 0), (1, .int 0), (0, aK κ o0)]) hc dX7_meetersOf_3 (by decide) rfl ?_
  refine r_sub [2, 1, 0] rfl ?_
  obtain ⟨n0, h⟩ := h
  exact u7_meetersOf_4 hc (ho0) n0 _ _ _ h
set_option maxRecDepth 100000 in
set_option maxHeartbeats 4000000 in
theorem u7_has_14 {κ : KT} {k : Int32 → St → Prop} {i0 : Int32} {i1 : Int32}  {s0 : Int32} {σ : St}  (hc : Cx κ cX7_has 2 RX7 1 (some .boolean))    (h : x7_has_14 i0 i1 s0 σ k) : Wd κ 2 (QI κ k) 14 [(0, .int i0), (1, .int i1)] [.int s0] σ := by
  unfold x7_has_14 at h
  exact r_zret hc dX7_has_14 h
set_option maxRecDepth 100000 in
set_option maxHeartbeats 4000000 in
theorem t7_has {l : Launch} {i0 : Int32} {i1 : Int32} {σ : St} {k : Int32 → St → Prop}  (h : x7_has i0 i1 σ k) : CI l yX7_has cX7_has 2 1 (some .boolean) (fun ad => [.int i0, .int i1]) σ k := by
  refine CI.of (lv := fun ad => [(0, .int i0), (1, .int i1)]) (by decide) (fun _ => Nat.le_of_ble_eq_true rfl) (fun _ => rfl) (fun κ hc => ?_)
  show Wd κ 2 (QI κ k) 0 [(0, .int i0), (1, .int i1)] [] σ
  unfold x7_has at h
  refine r_iload_n 0 hc dX7_has_0 rfl ?_
  refine r_iload_n 1 hc dX7_has_1 rfl ?_
  refine r_ishr hc dX7_has_2 ?_
  refine r_iconst (v := 1) hc dX7_has_3 (by decide) ?_
  refine r_iand hc dX7_has_4 ?_
  refine r_iconst (v := 1) hc dX7_has_5 (by decide) ?_
  refine r_icmp_ne 13 hc dX7_has_6 (by decide) h (fun h => ?_) (fun h => ?_)
  · refine r_iconst (v := 1) hc dX7_has_9 (by decide) ?_
    refine r_goto 14 hc dX7_has_10 (by decide) ?_
    exact u7_has_14 hc h
  · refine r_iconst (v := 0) hc dX7_has_13 (by decide) ?_
    exact u7_has_14 hc h
set_option maxRecDepth 100000 in
set_option maxHeartbeats 4000000 in
theorem u7_pass_53 {κ : KT} {k : Int32 → St → Prop} {o0 : Nat} {R7 : Int32 → Int32 → St → Prop} {i1 : Int32} {i2 : Int32} {σ : St}  (hc : Cx κ cX7_pass 3 RX7 5 (some .int)) (ho0 : kd o0 = 8) (hR7 : ∀ (i1 : Int32) (i2 : Int32) (σ : St), R7 i1 i2 σ → Wd κ 3 (QI κ k) 7 [(0, aK κ o0), (1, .int i1), (2, .int i2)] [] σ)  (h : x7_pass_53 o0 R7 i1 i2 σ k) : Wd κ 3 (QI κ k) 53 [(0, aK κ o0), (1, .int i1), (2, .int i2)] [] σ := by
  unfold x7_pass_53 at h
  refine r_iinc (v := 1) (lv' := [(2, .int (i2 + 1)), (0, aK κ o0), (1, .int i1)]) 2 hc dX7_pass_53 rfl (by decide) (by decide) rfl ?_
  refine r_goto 7 hc dX7_pass_56 (by decide) ?_
  refine r_sub [1, 2, 0] rfl ?_
  exact hR7 _ _ _ h
set_option maxRecDepth 100000 in
set_option maxHeartbeats 4000000 in
theorem u7_pass_7 {κ : KT} {k : Int32 → St → Prop} {o0 : Nat}   (hc : Cx κ cX7_pass 3 RX7 5 (some .int)) (ho0 : kd o0 = 8)  : ∀ (n : Nat) (i1 : Int32) (i2 : Int32) (σ : St), x7_pass_7 o0 k n i1 i2 σ → Wd κ 3 (QI κ k) 7 [(0, aK κ o0), (1, .int i1), (2, .int i2)] [] σ := by
  intro n
  induction n with
  | zero => intro i1 i2 σ h; exact h.elim
  | succ n ih =>
    intro i1 i2 σ h
    unfold x7_pass_7 at h
    refine r_iload_n 2 hc dX7_pass_7 rfl ?_
    refine r_aload_n 0 hc dX7_pass_8 rfl ?_
    refine r_iconst (v := 3) hc dX7_pass_9 (by decide) ?_
    refine r_iald hc dX7_pass_10 ho0 h (fun h => ?_)
    refine r_icmp_ge 59 hc dX7_pass_11 (by decide) h (fun h => ?_) (fun h => ?_)
    · refine r_aload_n 0 hc dX7_pass_59 rfl ?_
      refine r_iconst (v := 4) hc dX7_pass_60 (by decide) ?_
      refine r_dup2 hc dX7_pass_61 rfl rfl ?_
      refine r_iald hc dX7_pass_62 ho0 h (fun h => ?_)
      refine r_iconst (v := 1) hc dX7_pass_63 (by decide) ?_
      refine r_iadd hc dX7_pass_64 ?_
      refine r_iast hc dX7_pass_65 ho0 h (fun h => ?_)
      refine r_nmS h (fun σ3 h => ?_)
      refine r_iload_n 1 hc dX7_pass_66 rfl ?_
      exact r_iret hc dX7_pass_67 h
    · refine r_iload_n 1 hc dX7_pass_14 rfl ?_
      refine r_iload_n 2 hc dX7_pass_15 rfl ?_
      refine r_csI [.int i1, .int i2] hc dX7_pass_16 cX7_159 (t7_has h) rfl rfl rfl (Nat.le_of_ble_eq_true rfl) (by decide) (by decide) (fun r4 σ5 h => ?_)
      refine r_if_eq 35 hc dX7_pass_19 (by decide) h (fun h => ?_) (fun h => ?_)
      · refine r_aload_n 0 hc dX7_pass_35 rfl ?_
        refine r_bipush (v := 41) hc dX7_pass_36 (by decide) ?_
        refine r_iload_n 2 hc dX7_pass_38 rfl ?_
        refine r_iadd hc dX7_pass_39 ?_
        refine r_aload_n 0 hc dX7_pass_40 rfl ?_
        refine r_bipush (v := 41) hc dX7_pass_41 (by decide) ?_
        refine r_iload_n 2 hc dX7_pass_43 rfl ?_
        refine r_iadd hc dX7_pass_44 ?_
        refine r_iald hc dX7_pass_45 ho0 h (fun h => ?_)
        refine r_iconst (v := 1) hc dX7_pass_46 (by decide) ?_
        refine r_iadd hc dX7_pass_47 ?_
        refine r_aload_n 0 hc dX7_pass_48 rfl ?_
        refine r_iconst (v := 2) hc dX7_pass_49 (by decide) ?_
        refine r_iald hc dX7_pass_50 ho0 h (fun h => ?_)
        refine r_irem hc dX7_pass_51 h (fun h => ?_)
        refine r_iast hc dX7_pass_52 ho0 h (fun h => ?_)
        refine r_nmS h (fun σ6 h => ?_)
        exact u7_pass_53 hc (ho0) ih h
      · refine r_aload_n 0 hc dX7_pass_22 rfl ?_
        refine r_bipush (v := 47) hc dX7_pass_23 (by decide) ?_
        refine r_iload_n 2 hc dX7_pass_25 rfl ?_
        refine r_iadd hc dX7_pass_26 ?_
        refine r_dup2 hc dX7_pass_27 rfl rfl ?_
        refine r_iald hc dX7_pass_28 ho0 h (fun h => ?_)
        refine r_iconst (v := 1) hc dX7_pass_29 (by decide) ?_
        refine r_iadd hc dX7_pass_30 ?_
        refine r_iast hc dX7_pass_31 ho0 h (fun h => ?_)
        refine r_nmS h (fun σ7 h => ?_)
        refine r_goto 53 hc dX7_pass_32 (by decide) ?_
        exact u7_pass_53 hc (ho0) ih h
set_option maxRecDepth 100000 in
set_option maxHeartbeats 4000000 in
theorem t7_pass {l : Launch} {o0 : Nat} {σ : St} {k : Int32 → St → Prop} (ho0 : kd o0 = 8) (h : x7_pass o0 σ k) : CI l yX7_pass cX7_pass 3 5 (some .int) (fun ad => [.ref (ad o0)]) σ k := by
  refine CI.of (lv := fun ad => [(0, .ref (ad o0))]) (by decide) (fun _ => Nat.le_of_ble_eq_true rfl) (fun _ => rfl) (fun κ hc => ?_)
  show Wd κ 3 (QI κ k) 0 [(0, aK κ o0)] [] σ
  unfold x7_pass at h
  refine r_aload_n 0 hc dX7_pass_0 rfl ?_
  refine r_csI [aK κ o0] hc dX7_pass_1 cX7_155 (t7_meetersOf ho0 h) rfl rfl rfl (Nat.le_of_ble_eq_true rfl) (by decide) (by decide) (fun r1 σ2 h => ?_)
  refine r_istore_n (lv' := [(1, .int r1), (0, aK κ o0)]) hc dX7_pass_4 (by decide) rfl ?_
  refine r_iconst (v := 0) hc dX7_pass_5 (by decide) ?_
  refine r_istore_n (lv' := [(2, .int 0), (1, .int r1), (0, aK κ o0)]) hc dX7_pass_6 (by decide) rfl ?_
  refine r_sub [2, 1, 0] rfl ?_
  obtain ⟨n0, h⟩ := h
  exact u7_pass_7 hc (ho0) n0 _ _ _ h
set_option maxRecDepth 100000 in
set_option maxHeartbeats 4000000 in
theorem u7_ahead_27 {κ : KT} {k : Int32 → St → Prop} {i1 : Int32} {i2 : Int32} {i3 : Int32}   {σ : St}  (hc : Cx κ cX7_ahead 5 RX7 6 (some .int))    (h : x7_ahead_27 i1 i2 i3 σ k) : Wd κ 5 (QI κ k) 27 [(0, aK κ 65), (1, .int i1), (2, .int i2), (3, .int i3)] [] σ := by
  unfold x7_ahead_27 at h
  refine r_ldc hc dX7_ahead_27 kX7_63 ?_
  exact r_iret hc dX7_ahead_29 h
set_option maxRecDepth 100000 in
set_option maxHeartbeats 4000000 in
theorem u7_ahead_91 {κ : KT} {k : Int32 → St → Prop} {i1 : Int32} {i2 : Int32} {i3 : Int32}  {s0 : Int32} {σ : St}  (hc : Cx κ cX7_ahead 5 RX7 6 (some .int))    (h : x7_ahead_91 i1 i2 i3 s0 σ k) : Wd κ 5 (QI κ k) 91 [(0, aK κ 65), (1, .int i1), (2, .int i2), (3, .int i3)] [.int s0] σ := by
  unfold x7_ahead_91 at h
  exact r_iret hc dX7_ahead_91 h
set_option maxRecDepth 100000 in
set_option maxHeartbeats 4000000 in
theorem u7_ahead_46 {κ : KT} {k : Int32 → St → Prop} {i1 : Int32} {i2 : Int32} {i3 : Int32}   (hc : Cx κ cX7_ahead 5 RX7 6 (some .int))   : ∀ (n : Nat) (i4 : Int32) (σ : St), x7_ahead_46 i1 i2 i3 k n i4 σ → Wd κ 5 (QI κ k) 46 [(0, aK κ 65), (1, .int i1), (2, .int i2), (3, .int i3), (4, .int i4)] [] σ := by
  intro n
  induction n with
  | zero => intro i4 σ h; exact h.elim
  | succ n ih =>
    intro i4 σ h
    unfold x7_ahead_46 at h
    refine r_iload 4 hc dX7_ahead_46 rfl ?_
    refine r_iload_n 2 hc dX7_ahead_48 rfl ?_
    refine r_icmp_ge 66 hc dX7_ahead_49 (by decide) h (fun h => ?_) (fun h => ?_)
    · refine r_iload_n 3 hc dX7_ahead_66 rfl ?_
      refine r_if_ne 82 hc dX7_ahead_67 (by decide) h (fun h => ?_) (fun h => ?_)
      · refine r_aload_n 0 hc dX7_ahead_70 rfl ?_
        refine r_get (K := 7) (f := 14) hc dX7_ahead_71 fX7_28 inX7 rfl rfl (by decide) (by decide) rfl rfl ?_
        refine r_bipush (v := 41) hc dX7_ahead_74 (by decide) ?_
        refine r_iload_n 1 hc dX7_ahead_76 rfl ?_
        refine r_iadd hc dX7_ahead_77 ?_
        refine r_iald hc dX7_ahead_78 rfl h (fun h => ?_)
        refine r_goto 91 hc dX7_ahead_79 (by decide) ?_
        refine r_sub [0, 1, 2, 3] rfl ?_
        exact u7_ahead_91 hc h
      · refine r_aload_n 0 hc dX7_ahead_82 rfl ?_
        refine r_get (K := 7) (f := 14) hc dX7_ahead_83 fX7_28 inX7 rfl rfl (by decide) (by decide) rfl rfl ?_
        refine r_bipush (v := 47) hc dX7_ahead_86 (by decide) ?_
        refine r_iload_n 1 hc dX7_ahead_88 rfl ?_
        refine r_iadd hc dX7_ahead_89 ?_
        refine r_iald hc dX7_ahead_90 rfl h (fun h => ?_)
        refine r_sub [0, 1, 2, 3] rfl ?_
        exact u7_ahead_91 hc h
    · refine r_aload_n 0 hc dX7_ahead_52 rfl ?_
      refine r_get (K := 7) (f := 14) hc dX7_ahead_53 fX7_28 inX7 rfl rfl (by decide) (by decide) rfl rfl ?_
      refine r_csI [aK κ 72] hc dX7_ahead_56 cX7_179 (t7_pass rfl h) rfl rfl rfl (Nat.le_of_ble_eq_true rfl) (by decide) (by decide) (fun r9 σ10 h => ?_)
      refine r_pop hc dX7_ahead_59 rfl ?_
      refine r_iinc (v := 1) (lv' := [(4, .int (i4 + 1)), (0, aK κ 65), (1, .int i1), (2, .int i2), (3, .int i3)]) 4 hc dX7_ahead_60 rfl (by decide) (by decide) rfl ?_
      refine r_goto 46 hc dX7_ahead_63 (by decide) ?_
      refine r_sub [1, 2, 3, 4, 0] rfl ?_
      exact ih _ _ h
set_option maxRecDepth 100000 in
set_option maxHeartbeats 4000000 in
theorem t7_ahead {l : Launch} {i1 : Int32} {i2 : Int32} {i3 : Int32} {σ : St} {k : Int32 → St → Prop}  (h : x7_ahead i1 i2 i3 σ k) : CI l yX7_ahead cX7_ahead 5 6 (some .int) (fun ad => [.ref (ad 65), .int i1, .int i2, .int i3]) σ k := by
  refine CI.of (lv := fun ad => [(0, .ref (ad 65)), (1, .int i1), (2, .int i2), (3, .int i3)]) (by decide) (fun _ => Nat.le_of_ble_eq_true rfl) (fun _ => rfl) (fun κ hc => ?_)
  show Wd κ 5 (QI κ k) 0 [(0, aK κ 65), (1, .int i1), (2, .int i2), (3, .int i3)] [] σ
  unfold x7_ahead at h
  refine r_aload_n 0 hc dX7_ahead_0 rfl ?_
  refine r_iload_n 1 hc dX7_ahead_1 rfl ?_
  refine r_cvI [.int i1] hc dX7_ahead_2 cX7_185 (t7_isOne h) rfl (by decide) rfl rfl rfl rfl (Nat.le_of_ble_eq_true rfl) (by decide) (by decide) (fun r1 σ2 h => ?_)
  refine r_if_eq 27 hc dX7_ahead_5 (by decide) h (fun h => ?_) (fun h => ?_)
  · exact u7_ahead_27 hc h
  · refine r_iload_n 2 hc dX7_ahead_8 rfl ?_
    refine r_iconst (v := 0) hc dX7_ahead_9 (by decide) ?_
    refine r_bipush (v := 60) hc dX7_ahead_10 (by decide) ?_
    refine r_csI [.int i2, .int 0, .int 60] hc dX7_ahead_12 cX7_55 (t7_in h) rfl rfl rfl (Nat.le_of_ble_eq_true rfl) (by decide) (by decide) (fun r3 σ4 h => ?_)
    refine r_if_eq 27 hc dX7_ahead_15 (by decide) h (fun h => ?_) (fun h => ?_)
    · exact u7_ahead_27 hc h
    · refine r_iload_n 3 hc dX7_ahead_18 rfl ?_
      refine r_iconst (v := 0) hc dX7_ahead_19 (by decide) ?_
      refine r_iconst (v := 1) hc dX7_ahead_20 (by decide) ?_
      refine r_csI [.int i3, .int 0, .int 1] hc dX7_ahead_21 cX7_55 (t7_in h) rfl rfl rfl (Nat.le_of_ble_eq_true rfl) (by decide) (by decide) (fun r5 σ6 h => ?_)
      refine r_if_ne 30 hc dX7_ahead_24 (by decide) h (fun h => ?_) (fun h => ?_)
      · exact u7_ahead_27 hc h
      · refine r_aload_n 0 hc dX7_ahead_30 rfl ?_
        refine r_get (K := 7) (f := 12) hc dX7_ahead_31 fX7_22 inX7 rfl rfl (by decide) (by decide) rfl rfl ?_
        refine r_iconst (v := 0) hc dX7_ahead_34 (by decide) ?_
        refine r_aload_n 0 hc dX7_ahead_35 rfl ?_
        refine r_get (K := 7) (f := 14) hc dX7_ahead_36 fX7_28 inX7 rfl rfl (by decide) (by decide) rfl rfl ?_
        refine r_iconst (v := 0) hc dX7_ahead_39 (by decide) ?_
        refine r_csV [aK κ 70, .int 0, aK κ 72, .int 0] hc dX7_ahead_40 cX7_126 (t7_lay rfl rfl h) rfl rfl rfl (Nat.le_of_ble_eq_true rfl) (by decide) (by decide) (fun σ8 h => ?_)
        refine r_iconst (v := 0) hc dX7_ahead_43 (by decide) ?_
        refine r_istore (lv' := [(4, .int 0), (0, aK κ 65), (1, .int i1), (2, .int i2), (3, .int i3)]) hc dX7_ahead_44 (by decide) rfl ?_
        refine r_sub [1, 2, 3, 4, 0] rfl ?_
        obtain ⟨n0, h⟩ := h
        exact u7_ahead_46 hc n0 _ _ h
set_option maxRecDepth 100000 in
set_option maxHeartbeats 4000000 in
theorem u7_areSets_40 {κ : KT} {k : Int32 → St → Prop} {i1 : Int32} {i2 : Int32}  {s0 : Int32} {σ : St}  (hc : Cx κ cX7_areSets 4 RX7 2 (some .boolean))    (h : x7_areSets_40 i1 i2 s0 σ k) : Wd κ 4 (QI κ k) 40 [(0, aK κ 65), (1, .int i1), (2, .int i2)] [.int s0] σ := by
  unfold x7_areSets_40 at h
  exact r_zret hc dX7_areSets_40 h
set_option maxRecDepth 100000 in
set_option maxHeartbeats 4000000 in
theorem u7_areSets_39 {κ : KT} {k : Int32 → St → Prop} {i1 : Int32} {i2 : Int32}   {σ : St}  (hc : Cx κ cX7_areSets 4 RX7 2 (some .boolean))    (h : x7_areSets_39 i1 i2 σ k) : Wd κ 4 (QI κ k) 39 [(0, aK κ 65), (1, .int i1), (2, .int i2)] [] σ := by
  unfold x7_areSets_39 at h
  refine r_iconst (v := 0) hc dX7_areSets_39 (by decide) ?_
  exact u7_areSets_40 hc h
set_option maxRecDepth 100000 in
set_option maxHeartbeats 4000000 in
theorem t7_areSets {l : Launch} {i1 : Int32} {i2 : Int32} {σ : St} {k : Int32 → St → Prop}  (h : x7_areSets i1 i2 σ k) : CI l yX7_areSets cX7_areSets 4 2 (some .boolean) (fun ad => [.ref (ad 65), .int i1, .int i2]) σ k := by
  refine CI.of (lv := fun ad => [(0, .ref (ad 65)), (1, .int i1), (2, .int i2)]) (by decide) (fun _ => Nat.le_of_ble_eq_true rfl) (fun _ => rfl) (fun κ hc => ?_)
  show Wd κ 4 (QI κ k) 0 [(0, aK κ 65), (1, .int i1), (2, .int i2)] [] σ
  unfold x7_areSets at h
  refine r_iconst (v := 1) hc dX7_areSets_0 (by decide) ?_
  refine r_aload_n 0 hc dX7_areSets_1 rfl ?_
  refine r_get (K := 7) (f := 12) hc dX7_areSets_2 fX7_22 inX7 rfl rfl (by decide) (by decide) rfl rfl ?_
  refine r_iconst (v := 3) hc dX7_areSets_5 (by decide) ?_
  refine r_iald hc dX7_areSets_6 rfl h (fun h => ?_)
  refine r_ishl hc dX7_areSets_7 ?_
  refine r_iconst (v := 1) hc dX7_areSets_8 (by decide) ?_
  refine r_isub hc dX7_areSets_9 ?_
  refine r_nmI h (fun v1 h => ?_)
  refine r_istore_n (lv' := [(3, .int v1), (0, aK κ 65), (1, .int i1), (2, .int i2)]) hc dX7_areSets_10 (by decide) rfl ?_
  refine r_iload_n 2 hc dX7_areSets_11 rfl ?_
  refine r_iconst (v := 0) hc dX7_areSets_12 (by decide) ?_
  refine r_iload_n 0 hc dX7_areSets_13 rfl ?_
  refine r_csI [.int i1, .int 0, .int v1] hc dX7_areSets_14 cX7_55 (t7_in h) rfl rfl rfl (Nat.le_of_ble_eq_true rfl) (by decide) (by decide) (fun r2 σ3 h => ?_)
  refine r_if_eq 39 hc dX7_areSets_17 (by decide) h (fun h => ?_) (fun h => ?_)
  · refine r_sub [1, 2, 3] rfl ?_
    exact u7_areSets_39 hc h
  · refine r_iload_n 3 hc dX7_areSets_20 rfl ?_
    refine r_iconst (v := 0) hc dX7_areSets_21 (by decide) ?_
    refine r_iload_n 0 hc dX7_areSets_22 rfl ?_
    refine r_csI [.int i2, .int 0, .int v1] hc dX7_areSets_23 cX7_55 (t7_in h) rfl rfl rfl (Nat.le_of_ble_eq_true rfl) (by decide) (by decide) (fun r4 σ5 h => ?_)
    refine r_if_eq 39 hc dX7_areSets_26 (by decide) h (fun h => ?_) (fun h => ?_)
    · refine r_sub [1, 2, 3] rfl ?_
      exact u7_areSets_39 hc h
    · refine r_iload_n 2 hc dX7_areSets_29 rfl ?_
      refine r_iload_n 3 hc dX7_areSets_30 rfl ?_
      refine r_iand hc dX7_areSets_31 ?_
      refine r_if_ne 39 hc dX7_areSets_32 (by decide) h (fun h => ?_) (fun h => ?_)
      · refine r_iconst (v := 1) hc dX7_areSets_35 (by decide) ?_
        refine r_goto 40 hc dX7_areSets_36 (by decide) ?_
        refine r_sub [1, 2, 3] rfl ?_
        exact u7_areSets_40 hc h
      · refine r_sub [1, 2, 3] rfl ?_
        exact u7_areSets_39 hc h
set_option maxRecDepth 100000 in
set_option maxHeartbeats 4000000 in
theorem t7_kindOf {l : Launch} {i1 : Int32} {σ : St} {k : Int32 → St → Prop}  (h : x7_kindOf i1 σ k) : CI l yX7_kindOf cX7_kindOf 2 1 (some .int) (fun ad => [.ref (ad 65), .int i1]) σ k := by
  refine CI.of (lv := fun ad => [(0, .ref (ad 65)), (1, .int i1)]) (by decide) (fun _ => Nat.le_of_ble_eq_true rfl) (fun _ => rfl) (fun κ hc => ?_)
  show Wd κ 2 (QI κ k) 0 [(0, aK κ 65), (1, .int i1)] [] σ
  unfold x7_kindOf at h
  refine r_aload_n 0 hc dX7_kindOf_0 rfl ?_
  refine r_get (K := 7) (f := 12) hc dX7_kindOf_1 fX7_22 inX7 rfl rfl (by decide) (by decide) rfl rfl ?_
  refine r_bipush (v := 29) hc dX7_kindOf_4 (by decide) ?_
  refine r_iload_n 1 hc dX7_kindOf_6 rfl ?_
  refine r_iadd hc dX7_kindOf_7 ?_
  refine r_iald hc dX7_kindOf_8 rfl h (fun h => ?_)
  exact r_iret hc dX7_kindOf_9 h
set_option maxRecDepth 100000 in
set_option maxHeartbeats 4000000 in
theorem u7_parentOf_24 {κ : KT} {k : Int32 → St → Prop} {i0 : Int32}  {s0 : Int32} {σ : St}  (hc : Cx κ cX7_parentOf 1 RX7 1 (some .int))    (h : x7_parentOf_24 i0 s0 σ k) : Wd κ 1 (QI κ k) 24 [(0, .int i0)] [.int s0] σ := by
  unfold x7_parentOf_24 at h
  exact r_iret hc dX7_parentOf_24 h
set_option maxRecDepth 100000 in
set_option maxHeartbeats 4000000 in
theorem u7_parentOf_10 {κ : KT} {k : Int32 → St → Prop} {i0 : Int32}   {σ : St}  (hc : Cx κ cX7_parentOf 1 RX7 1 (some .int))    (h : x7_parentOf_10 i0 σ k) : Wd κ 1 (QI κ k) 10 [(0, .int i0)] [] σ := by
  unfold x7_parentOf_10 at h
  refine r_iconst (v := 0) hc dX7_parentOf_10 (by decide) ?_
  refine r_goto 24 hc dX7_parentOf_11 (by decide) ?_
  exact u7_parentOf_24 hc h
set_option maxRecDepth 100000 in
set_option maxHeartbeats 4000000 in
theorem t7_parentOf {l : Launch} {i0 : Int32} {σ : St} {k : Int32 → St → Prop}  (h : x7_parentOf i0 σ k) : CI l yX7_parentOf cX7_parentOf 1 1 (some .int) (fun ad => [.int i0]) σ k := by
  refine CI.of (lv := fun ad => [(0, .int i0)]) (by decide) (fun _ => Nat.le_of_ble_eq_true rfl) (fun _ => rfl) (fun κ hc => ?_)
  show Wd κ 1 (QI κ k) 0 [(0, .int i0)] [] σ
  unfold x7_parentOf at h
  refine r_iload_n 0 hc dX7_parentOf_0 rfl ?_
  refine r_iconst (v := 1) hc dX7_parentOf_1 (by decide) ?_
  refine r_icmp_eq 10 hc dX7_parentOf_2 (by decide) h (fun h => ?_) (fun h => ?_)
  · exact u7_parentOf_10 hc h
  · refine r_iload_n 0 hc dX7_parentOf_5 rfl ?_
    refine r_iconst (v := 4) hc dX7_parentOf_6 (by decide) ?_
    refine r_icmp_ne 14 hc dX7_parentOf_7 (by decide) h (fun h => ?_) (fun h => ?_)
    · exact u7_parentOf_10 hc h
    · refine r_iload_n 0 hc dX7_parentOf_14 rfl ?_
      refine r_iconst (v := 5) hc dX7_parentOf_15 (by decide) ?_
      refine r_icmp_ne 23 hc dX7_parentOf_16 (by decide) h (fun h => ?_) (fun h => ?_)
      · refine r_iconst (v := 4) hc dX7_parentOf_19 (by decide) ?_
        refine r_goto 24 hc dX7_parentOf_20 (by decide) ?_
        exact u7_parentOf_24 hc h
      · refine r_iconst (v := 1) hc dX7_parentOf_23 (by decide) ?_
        exact u7_parentOf_24 hc h
set_option maxRecDepth 100000 in
set_option maxHeartbeats 4000000 in
theorem t7_done {l : Launch} {i1 : Int32} {σ : St} {k : Int32 → St → Prop}  (h : x7_done i1 σ k) : CI l yX7_done cX7_done 2 1 (some .int) (fun ad => [.ref (ad 65), .int i1]) σ k := by
  refine CI.of (lv := fun ad => [(0, .ref (ad 65)), (1, .int i1)]) (by decide) (fun _ => Nat.le_of_ble_eq_true rfl) (fun _ => rfl) (fun κ hc => ?_)
  show Wd κ 2 (QI κ k) 0 [(0, aK κ 65), (1, .int i1)] [] σ
  unfold x7_done at h
  refine r_aload_n 0 hc dX7_done_0 rfl ?_
  refine r_iconst (v := 0) hc dX7_done_1 (by decide) ?_
  refine r_put (K := 7) (f := 3) hc dX7_done_2 fX7_50 inX7 tyX7_ok nmX7 rfl rfl rfl rfl (by decide) (by decide) rfl rfl ?_
  refine r_nmS h (fun σ1 h => ?_)
  refine r_iload_n 1 hc dX7_done_5 rfl ?_
  exact r_iret hc dX7_done_6 h
set_option maxRecDepth 100000 in
set_option maxHeartbeats 4000000 in
theorem t7_finds {l : Launch} {i1 : Int32} {σ : St} {k : Int32 → St → Prop}  (h : x7_finds i1 σ k) : CI l yX7_finds cX7_finds 2 1 (some .int) (fun ad => [.ref (ad 65), .int i1]) σ k := by
  refine CI.of (lv := fun ad => [(0, .ref (ad 65)), (1, .int i1)]) (by decide) (fun _ => Nat.le_of_ble_eq_true rfl) (fun _ => rfl) (fun κ hc => ?_)
  show Wd κ 2 (QI κ k) 0 [(0, aK κ 65), (1, .int i1)] [] σ
  unfold x7_finds at h
  refine r_aload_n 0 hc dX7_finds_0 rfl ?_
  refine r_iload_n 1 hc dX7_finds_1 rfl ?_
  refine r_put (K := 7) (f := 3) hc dX7_finds_2 fX7_50 inX7 tyX7_ok nmX7 rfl rfl rfl rfl (by decide) (by decide) rfl rfl ?_
  refine r_nmS h (fun σ1 h => ?_)
  refine r_ldc hc dX7_finds_5 kX7_54 ?_
  refine r_iload_n 1 hc dX7_finds_7 rfl ?_
  refine r_isub hc dX7_finds_8 ?_
  exact r_iret hc dX7_finds_9 h
set_option maxRecDepth 100000 in
set_option maxHeartbeats 4000000 in
theorem u7_as_17 {κ : KT} {k : Int32 → St → Prop} {i1 : Int32} {i2 : Int32}   {σ : St}  (hc : Cx κ cX7_as 5 RX7 3 (some .int))    (h : x7_as_17 i1 i2 σ k) : Wd κ 5 (QI κ k) 17 [(0, aK κ 65), (1, .int i1), (2, .int i2)] [] σ := by
  unfold x7_as_17 at h
  refine r_ldc hc dX7_as_17 kX7_63 ?_
  exact r_iret hc dX7_as_19 h
set_option maxRecDepth 100000 in
set_option maxHeartbeats 4000000 in
theorem u7_as_68 {κ : KT} {k : Int32 → St → Prop} {i1 : Int32} {i2 : Int32}  {s0 : Int32} {σ : St}  (hc : Cx κ cX7_as 5 RX7 3 (some .int))    (h : x7_as_68 i1 i2 s0 σ k) : Wd κ 5 (QI κ k) 68 [(0, aK κ 65), (1, .int i1), (2, .int i2)] [.int s0] σ := by
  unfold x7_as_68 at h
  exact r_iret hc dX7_as_68 h
set_option maxRecDepth 100000 in
set_option maxHeartbeats 4000000 in
theorem u7_as_48 {κ : KT} {k : Int32 → St → Prop} {i1 : Int32} {i2 : Int32}  {s0 : Int32} {σ : St}  (hc : Cx κ cX7_as 5 RX7 3 (some .int))    (h : x7_as_48 i1 i2 s0 σ k) : Wd κ 5 (QI κ k) 48 [(0, aK κ 65), (1, .int i1), (2, .int i2)] [.int s0] σ := by
  unfold x7_as_48 at h
  refine r_istore (lv' := [(4, .int s0), (0, aK κ 65), (1, .int i1), (2, .int i2)]) hc dX7_as_48 (by decide) rfl ?_
  refine r_iload 0 hc dX7_as_50 rfl ?_
  refine r_if_eq 63 hc dX7_as_52 (by decide) h (fun h => ?_) (fun h => ?_)
  · refine r_aload_n 1 hc dX7_as_63 rfl ?_
    refine r_iconst (v := 3) hc dX7_as_64 (by decide) ?_
    refine r_cvI [.int 3] hc dX7_as_65 cX7_64 (t7_finds h) rfl (by decide) rfl rfl rfl rfl (Nat.le_of_ble_eq_true rfl) (by decide) (by decide) (fun r7 σ8 h => ?_)
    refine r_sub [1, 2, 3] rfl ?_
    exact u7_as_68 hc h
  · refine r_aload_n 1 hc dX7_as_55 rfl ?_
    refine r_iload_n 2 hc dX7_as_56 rfl ?_
    refine r_cvI [.int i1] hc dX7_as_57 cX7_68 (t7_done h) rfl (by decide) rfl rfl rfl rfl (Nat.le_of_ble_eq_true rfl) (by decide) (by decide) (fun r9 σ10 h => ?_)
    refine r_goto 68 hc dX7_as_60 (by decide) ?_
    refine r_sub [1, 2, 3] rfl ?_
    exact u7_as_68 hc h
set_option maxRecDepth 100000 in
set_option maxHeartbeats 4000000 in
theorem u7_as_43 {κ : KT} {k : Int32 → St → Prop} {i1 : Int32} {i2 : Int32}   {σ : St}  (hc : Cx κ cX7_as 5 RX7 3 (some .int))    (h : x7_as_43 i1 i2 σ k) : Wd κ 5 (QI κ k) 43 [(0, aK κ 65), (1, .int i1), (2, .int i2)] [] σ := by
  unfold x7_as_43 at h
  refine r_iconst (v := 1) hc dX7_as_43 (by decide) ?_
  refine r_goto 48 hc dX7_as_44 (by decide) ?_
  exact u7_as_48 hc h
set_option maxRecDepth 100000 in
set_option maxHeartbeats 4000000 in
theorem t7_as {l : Launch} {i1 : Int32} {i2 : Int32} {σ : St} {k : Int32 → St → Prop}  (h : x7_as i1 i2 σ k) : CI l yX7_as cX7_as 5 3 (some .int) (fun ad => [.ref (ad 65), .int i1, .int i2]) σ k := by
  refine CI.of (lv := fun ad => [(0, .ref (ad 65)), (1, .int i1), (2, .int i2)]) (by decide) (fun _ => Nat.le_of_ble_eq_true rfl) (fun _ => rfl) (fun κ hc => ?_)
  show Wd κ 5 (QI κ k) 0 [(0, aK κ 65), (1, .int i1), (2, .int i2)] [] σ
  unfold x7_as at h
  refine r_aload_n 0 hc dX7_as_0 rfl ?_
  refine r_iload_n 1 hc dX7_as_1 rfl ?_
  refine r_cvI [.int i1] hc dX7_as_2 cX7_185 (t7_isOne h) rfl (by decide) rfl rfl rfl rfl (Nat.le_of_ble_eq_true rfl) (by decide) (by decide) (fun r1 σ2 h => ?_)
  refine r_if_eq 17 hc dX7_as_5 (by decide) h (fun h => ?_) (fun h => ?_)
  · exact u7_as_17 hc h
  · refine r_iload_n 2 hc dX7_as_8 rfl ?_
    refine r_iconst (v := 0) hc dX7_as_9 (by decide) ?_
    refine r_iconst (v := 5) hc dX7_as_10 (by decide) ?_
    refine r_csI [.int i2, .int 0, .int 5] hc dX7_as_11 cX7_55 (t7_in h) rfl rfl rfl (Nat.le_of_ble_eq_true rfl) (by decide) (by decide) (fun r3 σ4 h => ?_)
    refine r_if_ne 20 hc dX7_as_14 (by decide) h (fun h => ?_) (fun h => ?_)
    · exact u7_as_17 hc h
    · refine r_aload_n 0 hc dX7_as_20 rfl ?_
      refine r_iload_n 1 hc dX7_as_21 rfl ?_
      refine r_cvI [.int i1] hc dX7_as_22 cX7_223 (t7_kindOf h) rfl (by decide) rfl rfl rfl rfl (Nat.le_of_ble_eq_true rfl) (by decide) (by decide) (fun r5 σ6 h => ?_)
      refine r_istore_n (lv' := [(3, .int r5), (0, aK κ 65), (1, .int i1), (2, .int i2)]) hc dX7_as_25 (by decide) rfl ?_
      refine r_iload_n 3 hc dX7_as_26 rfl ?_
      refine r_if_eq 43 hc dX7_as_27 (by decide) h (fun h => ?_) (fun h => ?_)
      · refine r_sub [1, 2, 3] rfl ?_
        exact u7_as_43 hc h
      · refine r_iload_n 0 hc dX7_as_30 rfl ?_
        refine r_iload_n 3 hc dX7_as_31 rfl ?_
        refine r_icmp_eq 43 hc dX7_as_32 (by decide) h (fun h => ?_) (fun h => ?_)
        · refine r_sub [1, 2, 3] rfl ?_
          exact u7_as_43 hc h
        · refine r_iload_n 0 hc dX7_as_35 rfl ?_
          refine r_csI [.int r5] hc dX7_as_36 cX7_226 (t7_parentOf h) rfl rfl rfl (Nat.le_of_ble_eq_true rfl) (by decide) (by decide) (fun r11 σ12 h => ?_)
          refine r_iload_n 3 hc dX7_as_39 rfl ?_
          refine r_icmp_ne 47 hc dX7_as_40 (by decide) h (fun h => ?_) (fun h => ?_)
          · refine r_sub [1, 2, 3] rfl ?_
            exact u7_as_43 hc h
          · refine r_iconst (v := 0) hc dX7_as_47 (by decide) ?_
            refine r_sub [1, 2, 3] rfl ?_
            exact u7_as_48 hc h
set_option maxRecDepth 100000 in
set_option maxHeartbeats 4000000 in
theorem u7_begins_29 {κ : KT} {k : St → Prop} {i1 : Int32}   {σ : St}  (hc : Cx κ cX7_begins 2 RX7 1 none)    (h : x7_begins_29 i1 σ k) : Wd κ 2 (QV κ k) 29 [(0, aK κ 65), (1, .int i1)] [] σ := by
  unfold x7_begins_29 at h
  exact r_vret hc dX7_begins_29 h
set_option maxRecDepth 100000 in
set_option maxHeartbeats 4000000 in
theorem t7_begins {l : Launch} {i1 : Int32} {σ : St} {k : St → Prop}  (h : x7_begins i1 σ k) : CV l yX7_begins cX7_begins 2 1 none (fun ad => [.ref (ad 65), .int i1]) σ k := by
  refine CV.of (lv := fun ad => [(0, .ref (ad 65)), (1, .int i1)]) (by decide) (fun _ => Nat.le_of_ble_eq_true rfl) (fun _ => rfl) (fun κ hc => ?_)
  show Wd κ 2 (QV κ k) 0 [(0, aK κ 65), (1, .int i1)] [] σ
  unfold x7_begins at h
  refine r_aload_n 0 hc dX7_begins_0 rfl ?_
  refine r_get (K := 7) (f := 20) hc dX7_begins_1 fX7_229 inX7 rfl rfl (by decide) (by decide) rfl rfl ?_
  refine r_bipush (v := 16) hc dX7_begins_4 (by decide) ?_
  refine r_icmp_ge 29 hc dX7_begins_6 (by decide) h (fun h => ?_) (fun h => ?_)
  · exact u7_begins_29 hc h
  · refine r_aload_n 0 hc dX7_begins_9 rfl ?_
    refine r_get (K := 7) (f := 19) hc dX7_begins_10 fX7_41 inX7 rfl rfl (by decide) (by decide) rfl rfl ?_
    refine r_aload_n 0 hc dX7_begins_13 rfl ?_
    refine r_get (K := 7) (f := 20) hc dX7_begins_14 fX7_229 inX7 rfl rfl (by decide) (by decide) rfl rfl ?_
    refine r_iload_n 1 hc dX7_begins_17 rfl ?_
    refine r_iast hc dX7_begins_18 rfl h (fun h => ?_)
    refine r_nmS h (fun σ1 h => ?_)
    refine r_aload_n 0 hc dX7_begins_19 rfl ?_
    refine r_dup hc dX7_begins_20 rfl ?_
    refine r_get (K := 7) (f := 20) hc dX7_begins_21 fX7_229 inX7 rfl rfl (by decide) (by decide) rfl rfl ?_
    refine r_iconst (v := 1) hc dX7_begins_24 (by decide) ?_
    refine r_iadd hc dX7_begins_25 ?_
    refine r_put (K := 7) (f := 20) hc dX7_begins_26 fX7_229 inX7 tyX7_ok nmX7 rfl rfl rfl rfl (by decide) (by decide) rfl rfl ?_
    refine r_nmS h (fun σ2 h => ?_)
    exact u7_begins_29 hc h
set_option maxRecDepth 100000 in
set_option maxHeartbeats 4000000 in
theorem t7_sizePost {l : Launch} {i1 : Int32} {σ : St} {k : Int32 → St → Prop}  (h : x7_sizePost i1 σ k) : CI l yX7_sizePost cX7_sizePost 2 2 (some .int) (fun ad => [.ref (ad 65), .int i1]) σ k := by
  refine CI.of (lv := fun ad => [(0, .ref (ad 65)), (1, .int i1)]) (by decide) (fun _ => Nat.le_of_ble_eq_true rfl) (fun _ => rfl) (fun κ hc => ?_)
  show Wd κ 2 (QI κ k) 0 [(0, aK κ 65), (1, .int i1)] [] σ
  unfold x7_sizePost at h
  refine r_aload_n 0 hc dX7_sizePost_0 rfl ?_
  refine r_bipush (v := 13) hc dX7_sizePost_1 (by decide) ?_
  refine r_cvV [.int 13] hc dX7_sizePost_3 cX7_232 (t7_begins h) rfl (by decide) rfl rfl rfl rfl (Nat.le_of_ble_eq_true rfl) (by decide) (by decide) (fun σ2 h => ?_)
  refine r_aload_n 0 hc dX7_sizePost_6 rfl ?_
  refine r_bipush (v := 10) hc dX7_sizePost_7 (by decide) ?_
  refine r_cvV [.int 10] hc dX7_sizePost_9 cX7_232 (t7_begins h) rfl (by decide) rfl rfl rfl rfl (Nat.le_of_ble_eq_true rfl) (by decide) (by decide) (fun σ4 h => ?_)
  refine r_aload_n 0 hc dX7_sizePost_12 rfl ?_
  refine r_get (K := 7) (f := 12) hc dX7_sizePost_13 fX7_22 inX7 rfl rfl (by decide) (by decide) rfl rfl ?_
  refine r_bipush (v := 35) hc dX7_sizePost_16 (by decide) ?_
  refine r_iload_n 1 hc dX7_sizePost_18 rfl ?_
  refine r_iadd hc dX7_sizePost_19 ?_
  refine r_iald hc dX7_sizePost_20 rfl h (fun h => ?_)
  refine r_bipush (v := 100) hc dX7_sizePost_21 (by decide) ?_
  refine r_isub hc dX7_sizePost_23 ?_
  exact r_iret hc dX7_sizePost_24 h
set_option maxRecDepth 100000 in
set_option maxHeartbeats 4000000 in
theorem t7_markGuest {l : Launch} {i1 : Int32} {σ : St} {k : Int32 → St → Prop}  (h : x7_markGuest i1 σ k) : CI l yX7_markGuest cX7_markGuest 2 2 (some .int) (fun ad => [.ref (ad 65), .int i1]) σ k := by
  refine CI.of (lv := fun ad => [(0, .ref (ad 65)), (1, .int i1)]) (by decide) (fun _ => Nat.le_of_ble_eq_true rfl) (fun _ => rfl) (fun κ hc => ?_)
  show Wd κ 2 (QI κ k) 0 [(0, aK κ 65), (1, .int i1)] [] σ
  unfold x7_markGuest at h
  refine r_aload_n 0 hc dX7_markGuest_0 rfl ?_
  refine r_bipush (v := 21) hc dX7_markGuest_1 (by decide) ?_
  refine r_cvV [.int 21] hc dX7_markGuest_3 cX7_232 (t7_begins h) rfl (by decide) rfl rfl rfl rfl (Nat.le_of_ble_eq_true rfl) (by decide) (by decide) (fun σ2 h => ?_)
  refine r_aload_n 0 hc dX7_markGuest_6 rfl ?_
  refine r_bipush (v := 20) hc dX7_markGuest_7 (by decide) ?_
  refine r_cvV [.int 20] hc dX7_markGuest_9 cX7_232 (t7_begins h) rfl (by decide) rfl rfl rfl rfl (Nat.le_of_ble_eq_true rfl) (by decide) (by decide) (fun σ4 h => ?_)
  refine r_iload_n 1 hc dX7_markGuest_12 rfl ?_
  refine r_aload_n 0 hc dX7_markGuest_13 rfl ?_
  refine r_get (K := 7) (f := 12) hc dX7_markGuest_14 fX7_22 inX7 rfl rfl (by decide) (by decide) rfl rfl ?_
  refine r_bipush (v := 41) hc dX7_markGuest_17 (by decide) ?_
  refine r_iload_n 1 hc dX7_markGuest_19 rfl ?_
  refine r_iadd hc dX7_markGuest_20 ?_
  refine r_iald hc dX7_markGuest_21 rfl h (fun h => ?_)
  refine r_iadd hc dX7_markGuest_22 ?_
  exact r_iret hc dX7_markGuest_23 h
set_option maxRecDepth 100000 in
set_option maxHeartbeats 4000000 in
theorem t7_markPlain {l : Launch} {i1 : Int32} {σ : St} {k : Int32 → St → Prop}  (h : x7_markPlain i1 σ k) : CI l yX7_markPlain cX7_markPlain 3 3 (some .int) (fun ad => [.ref (ad 65), .int i1]) σ k := by
  refine CI.of (lv := fun ad => [(0, .ref (ad 65)), (1, .int i1)]) (by decide) (fun _ => Nat.le_of_ble_eq_true rfl) (fun _ => rfl) (fun κ hc => ?_)
  show Wd κ 3 (QI κ k) 0 [(0, aK κ 65), (1, .int i1)] [] σ
  unfold x7_markPlain at h
  refine r_aload_n 0 hc dX7_markPlain_0 rfl ?_
  refine r_iload_n 1 hc dX7_markPlain_1 rfl ?_
  refine r_cvI [.int i1] hc dX7_markPlain_2 cX7_223 (t7_kindOf h) rfl (by decide) rfl rfl rfl rfl (Nat.le_of_ble_eq_true rfl) (by decide) (by decide) (fun r1 σ2 h => ?_)
  refine r_istore_n (lv' := [(2, .int r1), (0, aK κ 65), (1, .int i1)]) hc dX7_markPlain_5 (by decide) rfl ?_
  refine r_iload_n 0 hc dX7_markPlain_6 rfl ?_
  refine r_iconst (v := 2) hc dX7_markPlain_7 (by decide) ?_
  refine r_icmp_ne 25 hc dX7_markPlain_8 (by decide) h (fun h => ?_) (fun h => ?_)
  · refine r_aload_n 1 hc dX7_markPlain_11 rfl ?_
    refine r_bipush (v := 24) hc dX7_markPlain_12 (by decide) ?_
    refine r_cvV [.int 24] hc dX7_markPlain_14 cX7_232 (t7_begins h) rfl (by decide) rfl rfl rfl rfl (Nat.le_of_ble_eq_true rfl) (by decide) (by decide) (fun σ4 h => ?_)
    refine r_iconst (v := 2) hc dX7_markPlain_17 (by decide) ?_
    refine r_aload_n 1 hc dX7_markPlain_18 rfl ?_
    refine r_iload_n 2 hc dX7_markPlain_19 rfl ?_
    refine r_cvI [.int i1] hc dX7_markPlain_20 cX7_236 (t7_markGuest h) rfl (by decide) rfl rfl rfl rfl (Nat.le_of_ble_eq_true rfl) (by decide) (by decide) (fun r5 σ6 h => ?_)
    refine r_imul hc dX7_markPlain_23 ?_
    exact r_iret hc dX7_markPlain_24 h
  · refine r_iload_n 0 hc dX7_markPlain_25 rfl ?_
    refine r_iconst (v := 3) hc dX7_markPlain_26 (by decide) ?_
    refine r_icmp_ne 46 hc dX7_markPlain_27 (by decide) h (fun h => ?_) (fun h => ?_)
    · refine r_aload_n 1 hc dX7_markPlain_30 rfl ?_
      refine r_bipush (v := 22) hc dX7_markPlain_31 (by decide) ?_
      refine r_cvV [.int 22] hc dX7_markPlain_33 cX7_232 (t7_begins h) rfl (by decide) rfl rfl rfl rfl (Nat.le_of_ble_eq_true rfl) (by decide) (by decide) (fun σ8 h => ?_)
      refine r_aload_n 1 hc dX7_markPlain_36 rfl ?_
      refine r_iload_n 2 hc dX7_markPlain_37 rfl ?_
      refine r_cvI [.int i1] hc dX7_markPlain_38 cX7_236 (t7_markGuest h) rfl (by decide) rfl rfl rfl rfl (Nat.le_of_ble_eq_true rfl) (by decide) (by decide) (fun r9 σ10 h => ?_)
      refine r_sipush (v := 1000) hc dX7_markPlain_41 (by decide) ?_
      refine r_isub hc dX7_markPlain_44 ?_
      exact r_iret hc dX7_markPlain_45 h
    · refine r_aload_n 1 hc dX7_markPlain_46 rfl ?_
      refine r_iload_n 2 hc dX7_markPlain_47 rfl ?_
      refine r_cvI [.int i1] hc dX7_markPlain_48 cX7_236 (t7_markGuest h) rfl (by decide) rfl rfl rfl rfl (Nat.le_of_ble_eq_true rfl) (by decide) (by decide) (fun r11 σ12 h => ?_)
      exact r_iret hc dX7_markPlain_51 h
set_option maxRecDepth 100000 in
set_option maxHeartbeats 4000000 in
theorem u7_sizeOf_86 {κ : KT} {k : Int32 → St → Prop} {i1 : Int32}  {s0 : Int32} {σ : St}  (hc : Cx κ cX7_sizeOf 4 RX7 4 (some .int))    (h : x7_sizeOf_86 i1 s0 σ k) : Wd κ 4 (QI κ k) 86 [(0, aK κ 65), (1, .int i1)] [.int s0] σ := by
  unfold x7_sizeOf_86 at h
  exact r_iret hc dX7_sizeOf_86 h
set_option maxRecDepth 100000 in
set_option maxHeartbeats 4000000 in
theorem u7_sizeOf_47 {κ : KT} {k : Int32 → St → Prop} {i1 : Int32}  {i2 : Int32} {σ : St}  (hc : Cx κ cX7_sizeOf 4 RX7 4 (some .int))    (h : x7_sizeOf_47 i1 i2 σ k) : Wd κ 4 (QI κ k) 47 [(0, aK κ 65), (1, .int i1), (2, .int i2)] [] σ := by
  unfold x7_sizeOf_47 at h
  refine r_aload_n 0 hc dX7_sizeOf_47 rfl ?_
  refine r_bipush (v := 11) hc dX7_sizeOf_48 (by decide) ?_
  refine r_cvV [.int 11] hc dX7_sizeOf_50 cX7_232 (t7_begins h) rfl (by decide) rfl rfl rfl rfl (Nat.le_of_ble_eq_true rfl) (by decide) (by decide) (fun σ12 h => ?_)
  refine r_aload_n 0 hc dX7_sizeOf_53 rfl ?_
  refine r_bipush (v := 10) hc dX7_sizeOf_54 (by decide) ?_
  refine r_cvV [.int 10] hc dX7_sizeOf_56 cX7_232 (t7_begins h) rfl (by decide) rfl rfl rfl rfl (Nat.le_of_ble_eq_true rfl) (by decide) (by decide) (fun σ14 h => ?_)
  refine r_aload_n 0 hc dX7_sizeOf_59 rfl ?_
  refine r_get (K := 7) (f := 12) hc dX7_sizeOf_60 fX7_22 inX7 rfl rfl (by decide) (by decide) rfl rfl ?_
  refine r_bipush (v := 35) hc dX7_sizeOf_63 (by decide) ?_
  refine r_iload_n 1 hc dX7_sizeOf_65 rfl ?_
  refine r_iadd hc dX7_sizeOf_66 ?_
  refine r_iald hc dX7_sizeOf_67 rfl h (fun h => ?_)
  refine r_aload_n 0 hc dX7_sizeOf_68 rfl ?_
  refine r_iload_n 1 hc dX7_sizeOf_69 rfl ?_
  refine r_cvI [.int i1] hc dX7_sizeOf_70 cX7_242 (t7_markPlain h) rfl (by decide) rfl rfl rfl rfl (Nat.le_of_ble_eq_true rfl) (by decide) (by decide) (fun r15 σ16 h => ?_)
  refine r_iadd hc dX7_sizeOf_73 ?_
  refine r_nmI h (fun v17 h => ?_)
  refine r_istore_n (lv' := [(3, .int v17), (0, aK κ 65), (1, .int i1), (2, .int i2)]) hc dX7_sizeOf_74 (by decide) rfl ?_
  refine r_iload_n 3 hc dX7_sizeOf_75 rfl ?_
  refine r_iconst (v := 2) hc dX7_sizeOf_76 (by decide) ?_
  refine r_icmp_ne 85 hc dX7_sizeOf_77 (by decide) h (fun h => ?_) (fun h => ?_)
  · refine r_iload_n 0 hc dX7_sizeOf_80 rfl ?_
    refine r_ineg hc dX7_sizeOf_81 ?_
    refine r_goto 86 hc dX7_sizeOf_82 (by decide) ?_
    refine r_sub [1, 2] rfl ?_
    exact u7_sizeOf_86 hc h
  · refine r_iload_n 0 hc dX7_sizeOf_85 rfl ?_
    refine r_sub [1, 2] rfl ?_
    exact u7_sizeOf_86 hc h
set_option maxRecDepth 100000 in
set_option maxHeartbeats 4000000 in
theorem t7_sizeOf {l : Launch} {i1 : Int32} {σ : St} {k : Int32 → St → Prop}  (h : x7_sizeOf i1 σ k) : CI l yX7_sizeOf cX7_sizeOf 4 4 (some .int) (fun ad => [.ref (ad 65), .int i1]) σ k := by
  refine CI.of (lv := fun ad => [(0, .ref (ad 65)), (1, .int i1)]) (by decide) (fun _ => Nat.le_of_ble_eq_true rfl) (fun _ => rfl) (fun κ hc => ?_)
  show Wd κ 4 (QI κ k) 0 [(0, aK κ 65), (1, .int i1)] [] σ
  unfold x7_sizeOf at h
  refine r_aload_n 0 hc dX7_sizeOf_0 rfl ?_
  refine r_iload_n 1 hc dX7_sizeOf_1 rfl ?_
  refine r_cvI [.int i1] hc dX7_sizeOf_2 cX7_223 (t7_kindOf h) rfl (by decide) rfl rfl rfl rfl (Nat.le_of_ble_eq_true rfl) (by decide) (by decide) (fun r1 σ2 h => ?_)
  refine r_istore_n (lv' := [(2, .int r1), (0, aK κ 65), (1, .int i1)]) hc dX7_sizeOf_5 (by decide) rfl ?_
  refine r_iload_n 0 hc dX7_sizeOf_6 rfl ?_
  refine r_iconst (v := 5) hc dX7_sizeOf_7 (by decide) ?_
  refine r_icmp_ne 25 hc dX7_sizeOf_8 (by decide) h (fun h => ?_) (fun h => ?_)
  · refine r_aload_n 1 hc dX7_sizeOf_11 rfl ?_
    refine r_bipush (v := 14) hc dX7_sizeOf_12 (by decide) ?_
    refine r_cvV [.int 14] hc dX7_sizeOf_14 cX7_232 (t7_begins h) rfl (by decide) rfl rfl rfl rfl (Nat.le_of_ble_eq_true rfl) (by decide) (by decide) (fun σ4 h => ?_)
    refine r_iconst (v := 2) hc dX7_sizeOf_17 (by decide) ?_
    refine r_aload_n 1 hc dX7_sizeOf_18 rfl ?_
    refine r_iload_n 2 hc dX7_sizeOf_19 rfl ?_
    refine r_cvI [.int i1] hc dX7_sizeOf_20 cX7_239 (t7_sizePost h) rfl (by decide) rfl rfl rfl rfl (Nat.le_of_ble_eq_true rfl) (by decide) (by decide) (fun r5 σ6 h => ?_)
    refine r_imul hc dX7_sizeOf_23 ?_
    exact r_iret hc dX7_sizeOf_24 h
  · refine r_iload_n 0 hc dX7_sizeOf_25 rfl ?_
    refine r_iconst (v := 4) hc dX7_sizeOf_26 (by decide) ?_
    refine r_icmp_ne 36 hc dX7_sizeOf_27 (by decide) h (fun h => ?_) (fun h => ?_)
    · refine r_aload_n 1 hc dX7_sizeOf_30 rfl ?_
      refine r_iload_n 2 hc dX7_sizeOf_31 rfl ?_
      refine r_cvI [.int i1] hc dX7_sizeOf_32 cX7_239 (t7_sizePost h) rfl (by decide) rfl rfl rfl rfl (Nat.le_of_ble_eq_true rfl) (by decide) (by decide) (fun r7 σ8 h => ?_)
      exact r_iret hc dX7_sizeOf_35 h
    · refine r_iload_n 0 hc dX7_sizeOf_36 rfl ?_
      refine r_iconst (v := 2) hc dX7_sizeOf_37 (by decide) ?_
      refine r_icmp_ne 47 hc dX7_sizeOf_38 (by decide) h (fun h => ?_) (fun h => ?_)
      · refine r_aload_n 1 hc dX7_sizeOf_41 rfl ?_
        refine r_bipush (v := 12) hc dX7_sizeOf_42 (by decide) ?_
        refine r_cvV [.int 12] hc dX7_sizeOf_44 cX7_232 (t7_begins h) rfl (by decide) rfl rfl rfl rfl (Nat.le_of_ble_eq_true rfl) (by decide) (by decide) (fun σ10 h => ?_)
        refine r_sub [1, 2, 0] rfl ?_
        exact u7_sizeOf_47 hc h
      · refine r_sub [1, 2, 0] rfl ?_
        exact u7_sizeOf_47 hc h
set_option maxRecDepth 100000 in
set_option maxHeartbeats 4000000 in
theorem t7_markOf {l : Launch} {i1 : Int32} {σ : St} {k : Int32 → St → Prop}  (h : x7_markOf i1 σ k) : CI l yX7_markOf cX7_markOf 2 5 (some .int) (fun ad => [.ref (ad 65), .int i1]) σ k := by
  refine CI.of (lv := fun ad => [(0, .ref (ad 65)), (1, .int i1)]) (by decide) (fun _ => Nat.le_of_ble_eq_true rfl) (fun _ => rfl) (fun κ hc => ?_)
  show Wd κ 2 (QI κ k) 0 [(0, aK κ 65), (1, .int i1)] [] σ
  unfold x7_markOf at h
  refine r_aload_n 0 hc dX7_markOf_0 rfl ?_
  refine r_iload_n 1 hc dX7_markOf_1 rfl ?_
  refine r_cvI [.int i1] hc dX7_markOf_2 cX7_223 (t7_kindOf h) rfl (by decide) rfl rfl rfl rfl (Nat.le_of_ble_eq_true rfl) (by decide) (by decide) (fun r1 σ2 h => ?_)
  refine r_iconst (v := 4) hc dX7_markOf_5 (by decide) ?_
  refine r_icmp_ge 15 hc dX7_markOf_6 (by decide) h (fun h => ?_) (fun h => ?_)
  · refine r_aload_n 0 hc dX7_markOf_15 rfl ?_
    refine r_bipush (v := 23) hc dX7_markOf_16 (by decide) ?_
    refine r_cvV [.int 23] hc dX7_markOf_18 cX7_232 (t7_begins h) rfl (by decide) rfl rfl rfl rfl (Nat.le_of_ble_eq_true rfl) (by decide) (by decide) (fun σ4 h => ?_)
    refine r_aload_n 0 hc dX7_markOf_21 rfl ?_
    refine r_bipush (v := 20) hc dX7_markOf_22 (by decide) ?_
    refine r_cvV [.int 20] hc dX7_markOf_24 cX7_232 (t7_begins h) rfl (by decide) rfl rfl rfl rfl (Nat.le_of_ble_eq_true rfl) (by decide) (by decide) (fun σ6 h => ?_)
    refine r_iload_n 1 hc dX7_markOf_27 rfl ?_
    refine r_aload_n 0 hc dX7_markOf_28 rfl ?_
    refine r_iload_n 1 hc dX7_markOf_29 rfl ?_
    refine r_cvI [.int i1] hc dX7_markOf_30 cX7_245 (t7_sizeOf h) rfl (by decide) rfl rfl rfl rfl (Nat.le_of_ble_eq_true rfl) (by decide) (by decide) (fun r7 σ8 h => ?_)
    refine r_isub hc dX7_markOf_33 ?_
    exact r_iret hc dX7_markOf_34 h
  · refine r_aload_n 0 hc dX7_markOf_9 rfl ?_
    refine r_iload_n 1 hc dX7_markOf_10 rfl ?_
    refine r_cvI [.int i1] hc dX7_markOf_11 cX7_242 (t7_markPlain h) rfl (by decide) rfl rfl rfl rfl (Nat.le_of_ble_eq_true rfl) (by decide) (by decide) (fun r9 σ10 h => ?_)
    exact r_iret hc dX7_markOf_14 h
set_option maxRecDepth 100000 in
set_option maxHeartbeats 4000000 in
theorem u7_ask_17 {κ : KT} {k : Int32 → St → Prop} {i1 : Int32} {i2 : Int32}   {σ : St}  (hc : Cx κ cX7_ask 3 RX7 6 (some .int))    (h : x7_ask_17 i1 i2 σ k) : Wd κ 3 (QI κ k) 17 [(0, aK κ 65), (1, .int i1), (2, .int i2)] [] σ := by
  unfold x7_ask_17 at h
  refine r_ldc hc dX7_ask_17 kX7_63 ?_
  exact r_iret hc dX7_ask_19 h
set_option maxRecDepth 100000 in
set_option maxHeartbeats 4000000 in
theorem u7_ask_42 {κ : KT} {k : Int32 → St → Prop} {i1 : Int32} {i2 : Int32}  {s0 : Int32} {σ : St}  (hc : Cx κ cX7_ask 3 RX7 6 (some .int))    (h : x7_ask_42 i1 i2 s0 σ k) : Wd κ 3 (QI κ k) 42 [(0, aK κ 65), (1, .int i1), (2, .int i2)] [.int s0] σ := by
  unfold x7_ask_42 at h
  exact r_iret hc dX7_ask_42 h
set_option maxRecDepth 100000 in
set_option maxHeartbeats 4000000 in
theorem t7_ask {l : Launch} {i1 : Int32} {i2 : Int32} {σ : St} {k : Int32 → St → Prop}  (h : x7_ask i1 i2 σ k) : CI l yX7_ask cX7_ask 3 6 (some .int) (fun ad => [.ref (ad 65), .int i1, .int i2]) σ k := by
  refine CI.of (lv := fun ad => [(0, .ref (ad 65)), (1, .int i1), (2, .int i2)]) (by decide) (fun _ => Nat.le_of_ble_eq_true rfl) (fun _ => rfl) (fun κ hc => ?_)
  show Wd κ 3 (QI κ k) 0 [(0, aK κ 65), (1, .int i1), (2, .int i2)] [] σ
  unfold x7_ask at h
  refine r_aload_n 0 hc dX7_ask_0 rfl ?_
  refine r_iload_n 1 hc dX7_ask_1 rfl ?_
  refine r_cvI [.int i1] hc dX7_ask_2 cX7_185 (t7_isOne h) rfl (by decide) rfl rfl rfl rfl (Nat.le_of_ble_eq_true rfl) (by decide) (by decide) (fun r1 σ2 h => ?_)
  refine r_if_eq 17 hc dX7_ask_5 (by decide) h (fun h => ?_) (fun h => ?_)
  · exact u7_ask_17 hc h
  · refine r_iload_n 2 hc dX7_ask_8 rfl ?_
    refine r_iconst (v := 0) hc dX7_ask_9 (by decide) ?_
    refine r_iconst (v := 1) hc dX7_ask_10 (by decide) ?_
    refine r_csI [.int i2, .int 0, .int 1] hc dX7_ask_11 cX7_55 (t7_in h) rfl rfl rfl (Nat.le_of_ble_eq_true rfl) (by decide) (by decide) (fun r3 σ4 h => ?_)
    refine r_if_ne 20 hc dX7_ask_14 (by decide) h (fun h => ?_) (fun h => ?_)
    · exact u7_ask_17 hc h
    · refine r_aload_n 0 hc dX7_ask_20 rfl ?_
      refine r_iconst (v := 0) hc dX7_ask_21 (by decide) ?_
      refine r_put (K := 7) (f := 20) hc dX7_ask_22 fX7_229 inX7 tyX7_ok nmX7 rfl rfl rfl rfl (by decide) (by decide) rfl rfl ?_
      refine r_nmS h (fun σ5 h => ?_)
      refine r_iload_n 2 hc dX7_ask_25 rfl ?_
      refine r_if_ne 37 hc dX7_ask_26 (by decide) h (fun h => ?_) (fun h => ?_)
      · refine r_aload_n 0 hc dX7_ask_29 rfl ?_
        refine r_iload_n 1 hc dX7_ask_30 rfl ?_
        refine r_cvI [.int i1] hc dX7_ask_31 cX7_245 (t7_sizeOf h) rfl (by decide) rfl rfl rfl rfl (Nat.le_of_ble_eq_true rfl) (by decide) (by decide) (fun r6 σ7 h => ?_)
        refine r_goto 42 hc dX7_ask_34 (by decide) ?_
        exact u7_ask_42 hc h
      · refine r_aload_n 0 hc dX7_ask_37 rfl ?_
        refine r_iload_n 1 hc dX7_ask_38 rfl ?_
        refine r_cvI [.int i1] hc dX7_ask_39 cX7_248 (t7_markOf h) rfl (by decide) rfl rfl rfl rfl (Nat.le_of_ble_eq_true rfl) (by decide) (by decide) (fun r8 σ9 h => ?_)
        exact u7_ask_42 hc h
set_option maxRecDepth 100000 in
set_option maxHeartbeats 4000000 in
theorem u7_caller_93 {κ : KT} {k : Int32 → St → Prop} {i1 : Int32} {i2 : Int32}  {s0 : Int32} {σ : St}  (hc : Cx κ cX7_caller 3 RX7 4 (some .int))    (h : x7_caller_93 i1 i2 s0 σ k) : Wd κ 3 (QI κ k) 93 [(0, aK κ 65), (1, .int i1), (2, .int i2)] [.int s0] σ := by
  unfold x7_caller_93 at h
  exact r_iret hc dX7_caller_93 h
set_option maxRecDepth 100000 in
set_option maxHeartbeats 4000000 in
theorem t7_caller {l : Launch} {i1 : Int32} {i2 : Int32} {σ : St} {k : Int32 → St → Prop}  (h : x7_caller i1 i2 σ k) : CI l yX7_caller cX7_caller 3 4 (some .int) (fun ad => [.ref (ad 65), .int i1, .int i2]) σ k := by
  refine CI.of (lv := fun ad => [(0, .ref (ad 65)), (1, .int i1), (2, .int i2)]) (by decide) (fun _ => Nat.le_of_ble_eq_true rfl) (fun _ => rfl) (fun κ hc => ?_)
  show Wd κ 3 (QI κ k) 0 [(0, aK κ 65), (1, .int i1), (2, .int i2)] [] σ
  unfold x7_caller at h
  refine r_aload_n 0 hc dX7_caller_0 rfl ?_
  refine r_iload_n 1 hc dX7_caller_1 rfl ?_
  refine r_cvI [.int i1] hc dX7_caller_2 cX7_185 (t7_isOne h) rfl (by decide) rfl rfl rfl rfl (Nat.le_of_ble_eq_true rfl) (by decide) (by decide) (fun r1 σ2 h => ?_)
  refine r_if_ne 11 hc dX7_caller_5 (by decide) h (fun h => ?_) (fun h => ?_)
  · refine r_ldc hc dX7_caller_8 kX7_63 ?_
    exact r_iret hc dX7_caller_10 h
  · refine r_iload_n 2 hc dX7_caller_11 rfl ?_
    by_cases hq12_0 : i2 = 0
    · rw [if_pos hq12_0] at h
      refine r_tswIn 0 48 hc dX7_caller_12 hq12_0 (by decide) (by decide) rfl (by decide) ?_
      refine r_aload_n 0 hc dX7_caller_48 rfl ?_
      refine r_get (K := 7) (f := 12) hc dX7_caller_49 fX7_22 inX7 rfl rfl (by decide) (by decide) rfl rfl ?_
      refine r_bipush (v := 41) hc dX7_caller_52 (by decide) ?_
      refine r_iload_n 1 hc dX7_caller_54 rfl ?_
      refine r_iadd hc dX7_caller_55 ?_
      refine r_iald hc dX7_caller_56 rfl h (fun h => ?_)
      exact r_iret hc dX7_caller_57 h
    · rw [if_neg hq12_0] at h
      by_cases hq12_1 : i2 = 1
      · rw [if_pos hq12_1] at h
        refine r_tswIn 1 58 hc dX7_caller_12 hq12_1 (by decide) (by decide) rfl (by decide) ?_
        refine r_aload_n 0 hc dX7_caller_58 rfl ?_
        refine r_get (K := 7) (f := 12) hc dX7_caller_59 fX7_22 inX7 rfl rfl (by decide) (by decide) rfl rfl ?_
        refine r_bipush (v := 35) hc dX7_caller_62 (by decide) ?_
        refine r_iload_n 1 hc dX7_caller_64 rfl ?_
        refine r_iadd hc dX7_caller_65 ?_
        refine r_iald hc dX7_caller_66 rfl h (fun h => ?_)
        exact r_iret hc dX7_caller_67 h
      · rw [if_neg hq12_1] at h
        by_cases hq12_2 : i2 = 2
        · rw [if_pos hq12_2] at h
          refine r_tswIn 2 68 hc dX7_caller_12 hq12_2 (by decide) (by decide) rfl (by decide) ?_
          refine r_aload_n 0 hc dX7_caller_68 rfl ?_
          refine r_get (K := 7) (f := 12) hc dX7_caller_69 fX7_22 inX7 rfl rfl (by decide) (by decide) rfl rfl ?_
          refine r_iload_n 1 hc dX7_caller_72 rfl ?_
          refine r_csI [aK κ 70, .int i1] hc dX7_caller_73 cX7_149 (t7_staysOf rfl h) rfl rfl rfl (Nat.le_of_ble_eq_true rfl) (by decide) (by decide) (fun r3 σ4 h => ?_)
          exact r_iret hc dX7_caller_76 h
        · rw [if_neg hq12_2] at h
          by_cases hq12_3 : i2 = 3
          · rw [if_pos hq12_3] at h
            refine r_tswIn 3 77 hc dX7_caller_12 hq12_3 (by decide) (by decide) rfl (by decide) ?_
            refine r_aload_n 0 hc dX7_caller_77 rfl ?_
            refine r_get (K := 7) (f := 12) hc dX7_caller_78 fX7_22 inX7 rfl rfl (by decide) (by decide) rfl rfl ?_
            refine r_iload_n 1 hc dX7_caller_81 rfl ?_
            refine r_csI [aK κ 70, .int i1] hc dX7_caller_82 cX7_152 (t7_doesMeet rfl h) rfl rfl rfl (Nat.le_of_ble_eq_true rfl) (by decide) (by decide) (fun r5 σ6 h => ?_)
            refine r_if_eq 92 hc dX7_caller_85 (by decide) h (fun h => ?_) (fun h => ?_)
            · refine r_iconst (v := 0) hc dX7_caller_92 (by decide) ?_
              exact u7_caller_93 hc h
            · refine r_iconst (v := 1) hc dX7_caller_88 (by decide) ?_
              refine r_goto 93 hc dX7_caller_89 (by decide) ?_
              exact u7_caller_93 hc h
          · rw [if_neg hq12_3] at h
            by_cases hq12_4 : i2 = 4
            · rw [if_pos hq12_4] at h
              refine r_tswIn 4 94 hc dX7_caller_12 hq12_4 (by decide) (by decide) rfl (by decide) ?_
              refine r_aload_n 0 hc dX7_caller_94 rfl ?_
              refine r_get (K := 7) (f := 12) hc dX7_caller_95 fX7_22 inX7 rfl rfl (by decide) (by decide) rfl rfl ?_
              refine r_bipush (v := 47) hc dX7_caller_98 (by decide) ?_
              refine r_iload_n 1 hc dX7_caller_100 rfl ?_
              refine r_iadd hc dX7_caller_101 ?_
              refine r_iald hc dX7_caller_102 rfl h (fun h => ?_)
              exact r_iret hc dX7_caller_103 h
            · rw [if_neg hq12_4] at h
              refine r_tswOut 104 hc dX7_caller_12 (by have a0 := lv_neT hq12_0 (a := 0) (by decide); have a1 := lv_neT hq12_1 (a := 1) (by decide); have a2 := lv_neT hq12_2 (a := 2) (by decide); have a3 := lv_neT hq12_3 (a := 3) (by decide); have a4 := lv_neT hq12_4 (a := 4) (by decide); omega) (by decide) ?_
              refine r_ldc hc dX7_caller_104 kX7_63 ?_
              exact r_iret hc dX7_caller_106 h
set_option maxRecDepth 100000 in
set_option maxHeartbeats 4000000 in
theorem u7_callersAt_35 {κ : KT} {k : Int32 → St → Prop} {i1 : Int32} {R4 : Int32 → Int32 → St → Prop} {i3 : Int32} {s1 : Int32} {s0 : Int32} {σ : St}  (hc : Cx κ cX7_callersAt 4 RX7 1 (some .int))  (hR4 : ∀ (i2 : Int32) (i3 : Int32) (σ : St), R4 i2 i3 σ → Wd κ 4 (QI κ k) 4 [(0, aK κ 65), (1, .int i1), (2, .int i2), (3, .int i3)] [] σ)  (h : x7_callersAt_35 i1 R4 i3 s1 s0 σ k) : Wd κ 4 (QI κ k) 35 [(0, aK κ 65), (1, .int i1), (3, .int i3)] [.int s1, .int s0] σ := by
  unfold x7_callersAt_35 at h
  refine r_ior hc dX7_callersAt_35 ?_
  refine r_nmI h (fun v1 h => ?_)
  refine r_istore_n (lv' := [(2, .int v1), (0, aK κ 65), (1, .int i1), (3, .int i3)]) hc dX7_callersAt_36 (by decide) rfl ?_
  refine r_iinc (v := 1) (lv' := [(3, .int (i3 + 1)), (2, .int v1), (0, aK κ 65), (1, .int i1)]) 3 hc dX7_callersAt_37 rfl (by decide) (by decide) rfl ?_
  refine r_goto 4 hc dX7_callersAt_40 (by decide) ?_
  refine r_sub [2, 3, 1, 0] rfl ?_
  exact hR4 _ _ _ h
set_option maxRecDepth 100000 in
set_option maxHeartbeats 4000000 in
theorem u7_callersAt_4 {κ : KT} {k : Int32 → St → Prop} {i1 : Int32}   (hc : Cx κ cX7_callersAt 4 RX7 1 (some .int))   : ∀ (n : Nat) (i2 : Int32) (i3 : Int32) (σ : St), x7_callersAt_4 i1 k n i2 i3 σ → Wd κ 4 (QI κ k) 4 [(0, aK κ 65), (1, .int i1), (2, .int i2), (3, .int i3)] [] σ := by
  intro n
  induction n with
  | zero => intro i2 i3 σ h; exact h.elim
  | succ n ih =>
    intro i2 i3 σ h
    unfold x7_callersAt_4 at h
    refine r_iload_n 3 hc dX7_callersAt_4 rfl ?_
    refine r_aload_n 0 hc dX7_callersAt_5 rfl ?_
    refine r_get (K := 7) (f := 12) hc dX7_callersAt_6 fX7_22 inX7 rfl rfl (by decide) (by decide) rfl rfl ?_
    refine r_iconst (v := 3) hc dX7_callersAt_9 (by decide) ?_
    refine r_iald hc dX7_callersAt_10 rfl h (fun h => ?_)
    refine r_icmp_ge 43 hc dX7_callersAt_11 (by decide) h (fun h => ?_) (fun h => ?_)
    · refine r_iload_n 2 hc dX7_callersAt_43 rfl ?_
      exact r_iret hc dX7_callersAt_44 h
    · refine r_iload_n 2 hc dX7_callersAt_14 rfl ?_
      refine r_aload_n 0 hc dX7_callersAt_15 rfl ?_
      refine r_get (K := 7) (f := 12) hc dX7_callersAt_16 fX7_22 inX7 rfl rfl (by decide) (by decide) rfl rfl ?_
      refine r_bipush (v := 41) hc dX7_callersAt_19 (by decide) ?_
      refine r_iload_n 3 hc dX7_callersAt_21 rfl ?_
      refine r_iadd hc dX7_callersAt_22 ?_
      refine r_iald hc dX7_callersAt_23 rfl h (fun h => ?_)
      refine r_iload_n 1 hc dX7_callersAt_24 rfl ?_
      refine r_icmp_ne 34 hc dX7_callersAt_25 (by decide) h (fun h => ?_) (fun h => ?_)
      · refine r_iconst (v := 1) hc dX7_callersAt_28 (by decide) ?_
        refine r_iload_n 3 hc dX7_callersAt_29 rfl ?_
        refine r_ishl hc dX7_callersAt_30 ?_
        refine r_goto 35 hc dX7_callersAt_31 (by decide) ?_
        refine r_sub [0, 1, 3] rfl ?_
        exact u7_callersAt_35 hc ih h
      · refine r_iconst (v := 0) hc dX7_callersAt_34 (by decide) ?_
        refine r_sub [0, 1, 3] rfl ?_
        exact u7_callersAt_35 hc ih h
set_option maxRecDepth 100000 in
set_option maxHeartbeats 4000000 in
theorem t7_callersAt {l : Launch} {i1 : Int32} {σ : St} {k : Int32 → St → Prop}  (h : x7_callersAt i1 σ k) : CI l yX7_callersAt cX7_callersAt 4 1 (some .int) (fun ad => [.ref (ad 65), .int i1]) σ k := by
  refine CI.of (lv := fun ad => [(0, .ref (ad 65)), (1, .int i1)]) (by decide) (fun _ => Nat.le_of_ble_eq_true rfl) (fun _ => rfl) (fun κ hc => ?_)
  show Wd κ 4 (QI κ k) 0 [(0, aK κ 65), (1, .int i1)] [] σ
  unfold x7_callersAt at h
  refine r_iconst (v := 0) hc dX7_callersAt_0 (by decide) ?_
  refine r_istore_n (lv' := [(2, .int 0), (0, aK κ 65), (1, .int i1)]) hc dX7_callersAt_1 (by decide) rfl ?_
  refine r_iconst (v := 0) hc dX7_callersAt_2 (by decide) ?_
  refine r_istore_n (lv' := [(3, .int 0), (2, .int 0), (0, aK κ 65), (1, .int i1)]) hc dX7_callersAt_3 (by decide) rfl ?_
  refine r_sub [2, 3, 1, 0] rfl ?_
  obtain ⟨n0, h⟩ := h
  exact u7_callersAt_4 hc n0 _ _ _ h
set_option maxRecDepth 100000 in
set_option maxHeartbeats 4000000 in
theorem t7_isRow {l : Launch} {i0 : Int32} {σ : St} {k : Int32 → St → Prop}  (h : x7_isRow i0 σ k) : CI l yX7_isRow cX7_isRow 1 2 (some .boolean) (fun ad => [.int i0]) σ k := by
  refine CI.of (lv := fun ad => [(0, .int i0)]) (by decide) (fun _ => Nat.le_of_ble_eq_true rfl) (fun _ => rfl) (fun κ hc => ?_)
  show Wd κ 1 (QI κ k) 0 [(0, .int i0)] [] σ
  unfold x7_isRow at h
  refine r_iload_n 0 hc dX7_isRow_0 rfl ?_
  refine r_iconst (v := 0) hc dX7_isRow_1 (by decide) ?_
  refine r_bipush (v := 7) hc dX7_isRow_2 (by decide) ?_
  refine r_csI [.int i0, .int 0, .int 7] hc dX7_isRow_4 cX7_55 (t7_in h) rfl rfl rfl (Nat.le_of_ble_eq_true rfl) (by decide) (by decide) (fun r1 σ2 h => ?_)
  exact r_zret hc dX7_isRow_7 h
set_option maxRecDepth 100000 in
set_option maxHeartbeats 4000000 in
theorem u7_isPart_25 {κ : KT} {k : Int32 → St → Prop} {i0 : Int32} {i1 : Int32} {i2 : Int32}  {s0 : Int32} {σ : St}  (hc : Cx κ cX7_isPart 3 RX7 1 (some .boolean))    (h : x7_isPart_25 i0 i1 i2 s0 σ k) : Wd κ 3 (QI κ k) 25 [(0, .int i0), (1, .int i1), (2, .int i2)] [.int s0] σ := by
  unfold x7_isPart_25 at h
  exact r_zret hc dX7_isPart_25 h
set_option maxRecDepth 100000 in
set_option maxHeartbeats 4000000 in
theorem u7_isPart_24 {κ : KT} {k : Int32 → St → Prop} {i0 : Int32} {i1 : Int32} {i2 : Int32}   {σ : St}  (hc : Cx κ cX7_isPart 3 RX7 1 (some .boolean))    (h : x7_isPart_24 i0 i1 i2 σ k) : Wd κ 3 (QI κ k) 24 [(0, .int i0), (1, .int i1), (2, .int i2)] [] σ := by
  unfold x7_isPart_24 at h
  refine r_iconst (v := 0) hc dX7_isPart_24 (by decide) ?_
  exact u7_isPart_25 hc h
set_option maxRecDepth 100000 in
set_option maxHeartbeats 4000000 in
theorem t7_isPart {l : Launch} {i0 : Int32} {i1 : Int32} {i2 : Int32} {σ : St} {k : Int32 → St → Prop}  (h : x7_isPart i0 i1 i2 σ k) : CI l yX7_isPart cX7_isPart 3 1 (some .boolean) (fun ad => [.int i0, .int i1, .int i2]) σ k := by
  refine CI.of (lv := fun ad => [(0, .int i0), (1, .int i1), (2, .int i2)]) (by decide) (fun _ => Nat.le_of_ble_eq_true rfl) (fun _ => rfl) (fun κ hc => ?_)
  show Wd κ 3 (QI κ k) 0 [(0, .int i0), (1, .int i1), (2, .int i2)] [] σ
  unfold x7_isPart at h
  refine r_iload_n 0 hc dX7_isPart_0 rfl ?_
  refine r_if_lt 24 hc dX7_isPart_1 (by decide) h (fun h => ?_) (fun h => ?_)
  · exact u7_isPart_24 hc h
  · refine r_iload_n 1 hc dX7_isPart_4 rfl ?_
    refine r_if_lt 24 hc dX7_isPart_5 (by decide) h (fun h => ?_) (fun h => ?_)
    · exact u7_isPart_24 hc h
    · refine r_iload_n 1 hc dX7_isPart_8 rfl ?_
      refine r_iload_n 2 hc dX7_isPart_9 rfl ?_
      refine r_icmp_gt 24 hc dX7_isPart_10 (by decide) h (fun h => ?_) (fun h => ?_)
      · exact u7_isPart_24 hc h
      · refine r_iload_n 0 hc dX7_isPart_13 rfl ?_
        refine r_iload_n 2 hc dX7_isPart_14 rfl ?_
        refine r_iload_n 1 hc dX7_isPart_15 rfl ?_
        refine r_isub hc dX7_isPart_16 ?_
        refine r_icmp_gt 24 hc dX7_isPart_17 (by decide) h (fun h => ?_) (fun h => ?_)
        · exact u7_isPart_24 hc h
        · refine r_iconst (v := 1) hc dX7_isPart_20 (by decide) ?_
          refine r_goto 25 hc dX7_isPart_21 (by decide) ?_
          exact u7_isPart_25 hc h
set_option maxRecDepth 100000 in
set_option maxHeartbeats 4000000 in
theorem u7_copy_14 {κ : KT} {k : Int32 → St → Prop} {i1 : Int32} {i2 : Int32} {i3 : Int32} {i4 : Int32} {i5 : Int32}   {σ : St}  (hc : Cx κ cX7_copy 9 RX7 3 (some .int))    (h : x7_copy_14 i1 i2 i3 i4 i5 σ k) : Wd κ 9 (QI κ k) 14 [(0, aK κ 65), (1, .int i1), (2, .int i2), (3, .int i3), (4, .int i4), (5, .int i5)] [] σ := by
  unfold x7_copy_14 at h
  refine r_ldc hc dX7_copy_14 kX7_63 ?_
  exact r_iret hc dX7_copy_16 h
set_option maxRecDepth 100000 in
set_option maxHeartbeats 4000000 in
theorem u7_copy_35 {κ : KT} {k : Int32 → St → Prop} {i1 : Int32} {i2 : Int32} {i3 : Int32} {i4 : Int32} {i5 : Int32}   {σ : St}  (hc : Cx κ cX7_copy 9 RX7 3 (some .int))    (h : x7_copy_35 i1 i2 i3 i4 i5 σ k) : Wd κ 9 (QI κ k) 35 [(0, aK κ 65), (1, .int i1), (2, .int i2), (3, .int i3), (4, .int i4), (5, .int i5)] [] σ := by
  unfold x7_copy_35 at h
  refine r_aload_n 0 hc dX7_copy_35 rfl ?_
  refine r_iconst (v := 1) hc dX7_copy_36 (by decide) ?_
  refine r_cvI [.int 1] hc dX7_copy_37 cX7_64 (t7_finds h) rfl (by decide) rfl rfl rfl rfl (Nat.le_of_ble_eq_true rfl) (by decide) (by decide) (fun r5 σ6 h => ?_)
  exact r_iret hc dX7_copy_40 h
set_option maxRecDepth 100000 in
set_option maxHeartbeats 4000000 in
theorem u7_copy_93 {κ : KT} {k : Int32 → St → Prop} {i1 : Int32} {i2 : Int32} {i3 : Int32} {i4 : Int32} {i5 : Int32}   {σ : St}  (hc : Cx κ cX7_copy 9 RX7 3 (some .int))    (h : x7_copy_93 i1 i2 i3 i4 i5 σ k) : Wd κ 9 (QI κ k) 93 [(0, aK κ 65), (1, .int i1), (2, .int i2), (3, .int i3), (4, .int i4), (5, .int i5)] [] σ := by
  unfold x7_copy_93 at h
  refine r_aload_n 0 hc dX7_copy_93 rfl ?_
  refine r_iconst (v := 2) hc dX7_copy_94 (by decide) ?_
  refine r_cvI [.int 2] hc dX7_copy_95 cX7_64 (t7_finds h) rfl (by decide) rfl rfl rfl rfl (Nat.le_of_ble_eq_true rfl) (by decide) (by decide) (fun r9 σ10 h => ?_)
  exact r_iret hc dX7_copy_98 h
set_option maxRecDepth 100000 in
set_option maxHeartbeats 4000000 in
theorem u7_copy_144 {κ : KT} {k : Int32 → St → Prop} {i1 : Int32} {i2 : Int32} {i3 : Int32} {i4 : Int32} {i5 : Int32} {R120 : Int32 → Int32 → St → Prop} {i6 : Int32} {i7 : Int32} {s0 : Int32} {σ : St}  (hc : Cx κ cX7_copy 9 RX7 3 (some .int))  (hR120 : ∀ (i6 : Int32) (i7 : Int32) (σ : St), R120 i6 i7 σ → Wd κ 9 (QI κ k) 120 [(0, aK κ 65), (1, .int i1), (2, .int i2), (3, .int i3), (4, .int i4), (5, .int i5), (6, .int i6), (7, .int i7)] [] σ)  (h : x7_copy_144 i1 i2 i3 i4 i5 R120 i6 i7 s0 σ k) : Wd κ 9 (QI κ k) 144 [(0, aK κ 65), (1, .int i1), (2, .int i2), (3, .int i3), (4, .int i4), (5, .int i5), (6, .int i6), (7, .int i7)] [.int s0] σ := by
  unfold x7_copy_144 at h
  refine r_istore (lv' := [(8, .int s0), (0, aK κ 65), (1, .int i1), (2, .int i2), (3, .int i3), (4, .int i4), (5, .int i5), (6, .int i6), (7, .int i7)]) hc dX7_copy_144 (by decide) rfl ?_
  refine r_aload_n 1 hc dX7_copy_146 rfl ?_
  refine r_get (K := 7) (f := 2) hc dX7_copy_147 fX7_16 inX7 rfl rfl (by decide) (by decide) rfl rfl ?_
  refine r_bipush (v := 40) hc dX7_copy_150 (by decide) ?_
  refine r_iload_n 4 hc dX7_copy_152 rfl ?_
  refine r_imul hc dX7_copy_153 ?_
  refine r_iload 5 hc dX7_copy_154 rfl ?_
  refine r_iadd hc dX7_copy_156 ?_
  refine r_iload 0 hc dX7_copy_157 rfl ?_
  refine r_iadd hc dX7_copy_159 ?_
  refine r_aload_n 1 hc dX7_copy_160 rfl ?_
  refine r_get (K := 7) (f := 2) hc dX7_copy_161 fX7_16 inX7 rfl rfl (by decide) (by decide) rfl rfl ?_
  refine r_bipush (v := 40) hc dX7_copy_164 (by decide) ?_
  refine r_iload_n 2 hc dX7_copy_166 rfl ?_
  refine r_imul hc dX7_copy_167 ?_
  refine r_iload_n 3 hc dX7_copy_168 rfl ?_
  refine r_iadd hc dX7_copy_169 ?_
  refine r_iload 0 hc dX7_copy_170 rfl ?_
  refine r_iadd hc dX7_copy_172 ?_
  refine r_iald hc dX7_copy_173 rfl h (fun h => ?_)
  refine r_iast hc dX7_copy_174 rfl h (fun h => ?_)
  refine r_nmS h (fun σ15 h => ?_)
  refine r_iinc (v := 1) (lv' := [(7, .int (i7 + 1)), (8, .int s0), (0, aK κ 65), (1, .int i1), (2, .int i2), (3, .int i3), (4, .int i4), (5, .int i5), (6, .int i6)]) 8 hc dX7_copy_175 rfl (by decide) (by decide) rfl ?_
  refine r_goto 120 hc dX7_copy_178 (by decide) ?_
  refine r_sub [2, 3, 4, 5, 6, 7, 8, 0] rfl ?_
  exact hR120 _ _ _ h
set_option maxRecDepth 100000 in
set_option maxHeartbeats 4000000 in
theorem u7_copy_120 {κ : KT} {k : Int32 → St → Prop} {i1 : Int32} {i2 : Int32} {i3 : Int32} {i4 : Int32} {i5 : Int32}   (hc : Cx κ cX7_copy 9 RX7 3 (some .int))   : ∀ (n : Nat) (i6 : Int32) (i7 : Int32) (σ : St), x7_copy_120 i1 i2 i3 i4 i5 k n i6 i7 σ → Wd κ 9 (QI κ k) 120 [(0, aK κ 65), (1, .int i1), (2, .int i2), (3, .int i3), (4, .int i4), (5, .int i5), (6, .int i6), (7, .int i7)] [] σ := by
  intro n
  induction n with
  | zero => intro i6 i7 σ h; exact h.elim
  | succ n ih =>
    intro i6 i7 σ h
    unfold x7_copy_120 at h
    refine r_iload 7 hc dX7_copy_120 rfl ?_
    refine r_iload 5 hc dX7_copy_122 rfl ?_
    refine r_icmp_ge 181 hc dX7_copy_124 (by decide) h (fun h => ?_) (fun h => ?_)
    · refine r_aload_n 0 hc dX7_copy_181 rfl ?_
      refine r_iload 5 hc dX7_copy_182 rfl ?_
      refine r_cvI [.int i5] hc dX7_copy_184 cX7_68 (t7_done h) rfl (by decide) rfl rfl rfl rfl (Nat.le_of_ble_eq_true rfl) (by decide) (by decide) (fun r13 σ14 h => ?_)
      exact r_iret hc dX7_copy_187 h
    · refine r_iload 6 hc dX7_copy_127 rfl ?_
      refine r_if_eq 142 hc dX7_copy_129 (by decide) h (fun h => ?_) (fun h => ?_)
      · refine r_iload 7 hc dX7_copy_142 rfl ?_
        exact u7_copy_144 hc ih h
      · refine r_iload 5 hc dX7_copy_132 rfl ?_
        refine r_iconst (v := 1) hc dX7_copy_134 (by decide) ?_
        refine r_isub hc dX7_copy_135 ?_
        refine r_iload 7 hc dX7_copy_136 rfl ?_
        refine r_isub hc dX7_copy_138 ?_
        refine r_goto 144 hc dX7_copy_139 (by decide) ?_
        exact u7_copy_144 hc ih h
set_option maxRecDepth 100000 in
set_option maxHeartbeats 4000000 in
theorem u7_copy_115 {κ : KT} {k : Int32 → St → Prop} {i1 : Int32} {i2 : Int32} {i3 : Int32} {i4 : Int32} {i5 : Int32}  {s0 : Int32} {σ : St}  (hc : Cx κ cX7_copy 9 RX7 3 (some .int))    (h : x7_copy_115 i1 i2 i3 i4 i5 s0 σ k) : Wd κ 9 (QI κ k) 115 [(0, aK κ 65), (1, .int i1), (2, .int i2), (3, .int i3), (4, .int i4), (5, .int i5)] [.int s0] σ := by
  unfold x7_copy_115 at h
  refine r_istore (lv' := [(6, .int s0), (0, aK κ 65), (1, .int i1), (2, .int i2), (3, .int i3), (4, .int i4), (5, .int i5)]) hc dX7_copy_115 (by decide) rfl ?_
  refine r_iconst (v := 0) hc dX7_copy_117 (by decide) ?_
  refine r_istore (lv' := [(7, .int 0), (6, .int s0), (0, aK κ 65), (1, .int i1), (2, .int i2), (3, .int i3), (4, .int i4), (5, .int i5)]) hc dX7_copy_118 (by decide) rfl ?_
  refine r_sub [2, 3, 4, 5, 6, 7, 1, 0] rfl ?_
  obtain ⟨n0, h⟩ := h
  exact u7_copy_120 hc n0 _ _ _ h
set_option maxRecDepth 100000 in
set_option maxHeartbeats 4000000 in
theorem u7_copy_114 {κ : KT} {k : Int32 → St → Prop} {i1 : Int32} {i2 : Int32} {i3 : Int32} {i4 : Int32} {i5 : Int32}   {σ : St}  (hc : Cx κ cX7_copy 9 RX7 3 (some .int))    (h : x7_copy_114 i1 i2 i3 i4 i5 σ k) : Wd κ 9 (QI κ k) 114 [(0, aK κ 65), (1, .int i1), (2, .int i2), (3, .int i3), (4, .int i4), (5, .int i5)] [] σ := by
  unfold x7_copy_114 at h
  refine r_iconst (v := 0) hc dX7_copy_114 (by decide) ?_
  exact u7_copy_115 hc h
set_option maxRecDepth 100000 in
set_option maxHeartbeats 4000000 in
theorem t7_copy {l : Launch} {i1 : Int32} {i2 : Int32} {i3 : Int32} {i4 : Int32} {i5 : Int32} {σ : St} {k : Int32 → St → Prop}  (h : x7_copy i1 i2 i3 i4 i5 σ k) : CI l yX7_copy cX7_copy 9 3 (some .int) (fun ad => [.ref (ad 65), .int i1, .int i2, .int i3, .int i4, .int i5]) σ k := by
  refine CI.of (lv := fun ad => [(0, .ref (ad 65)), (1, .int i1), (2, .int i2), (3, .int i3), (4, .int i4), (5, .int i5)]) (by decide) (fun _ => Nat.le_of_ble_eq_true rfl) (fun _ => rfl) (fun κ hc => ?_)
  show Wd κ 9 (QI κ k) 0 [(0, aK κ 65), (1, .int i1), (2, .int i2), (3, .int i3), (4, .int i4), (5, .int i5)] [] σ
  unfold x7_copy at h
  refine r_iload_n 1 hc dX7_copy_0 rfl ?_
  refine r_csI [.int i1] hc dX7_copy_1 cX7_59 (t7_isRow h) rfl rfl rfl (Nat.le_of_ble_eq_true rfl) (by decide) (by decide) (fun r1 σ2 h => ?_)
  refine r_if_eq 14 hc dX7_copy_4 (by decide) h (fun h => ?_) (fun h => ?_)
  · exact u7_copy_14 hc h
  · refine r_iload_n 3 hc dX7_copy_7 rfl ?_
    refine r_csI [.int i3] hc dX7_copy_8 cX7_59 (t7_isRow h) rfl rfl rfl (Nat.le_of_ble_eq_true rfl) (by decide) (by decide) (fun r3 σ4 h => ?_)
    refine r_if_ne 17 hc dX7_copy_11 (by decide) h (fun h => ?_) (fun h => ?_)
    · exact u7_copy_14 hc h
    · refine r_aload_n 0 hc dX7_copy_17 rfl ?_
      refine r_get (K := 7) (f := 0) hc dX7_copy_18 fX7_7 inX7 rfl rfl (by decide) (by decide) rfl rfl ?_
      refine r_iload_n 1 hc dX7_copy_21 rfl ?_
      refine r_iald hc dX7_copy_22 rfl h (fun h => ?_)
      refine r_if_lt 35 hc dX7_copy_23 (by decide) h (fun h => ?_) (fun h => ?_)
      · exact u7_copy_35 hc h
      · refine r_aload_n 0 hc dX7_copy_26 rfl ?_
        refine r_get (K := 7) (f := 0) hc dX7_copy_27 fX7_7 inX7 rfl rfl (by decide) (by decide) rfl rfl ?_
        refine r_iload_n 3 hc dX7_copy_30 rfl ?_
        refine r_iald hc dX7_copy_31 rfl h (fun h => ?_)
        refine r_if_ge 41 hc dX7_copy_32 (by decide) h (fun h => ?_) (fun h => ?_)
        · refine r_aload_n 0 hc dX7_copy_41 rfl ?_
          refine r_get (K := 7) (f := 0) hc dX7_copy_42 fX7_7 inX7 rfl rfl (by decide) (by decide) rfl rfl ?_
          refine r_iload_n 1 hc dX7_copy_45 rfl ?_
          refine r_iald hc dX7_copy_46 rfl h (fun h => ?_)
          refine r_aload_n 0 hc dX7_copy_47 rfl ?_
          refine r_get (K := 7) (f := 0) hc dX7_copy_48 fX7_7 inX7 rfl rfl (by decide) (by decide) rfl rfl ?_
          refine r_iload_n 3 hc dX7_copy_51 rfl ?_
          refine r_iald hc dX7_copy_52 rfl h (fun h => ?_)
          refine r_icmp_eq 62 hc dX7_copy_53 (by decide) h (fun h => ?_) (fun h => ?_)
          · refine r_iload_n 2 hc dX7_copy_62 rfl ?_
            refine r_iload 5 hc dX7_copy_63 rfl ?_
            refine r_aload_n 0 hc dX7_copy_65 rfl ?_
            refine r_get (K := 7) (f := 1) hc dX7_copy_66 fX7_13 inX7 rfl rfl (by decide) (by decide) rfl rfl ?_
            refine r_iload_n 1 hc dX7_copy_69 rfl ?_
            refine r_iald hc dX7_copy_70 rfl h (fun h => ?_)
            refine r_csI [.int i2, .int i5, .int (σ4 67 i1.toNatClampNeg)] hc dX7_copy_71 cX7_71 (t7_isPart h) rfl rfl rfl (Nat.le_of_ble_eq_true rfl) (by decide) (by decide) (fun r7 σ8 h => ?_)
            refine r_if_eq 93 hc dX7_copy_74 (by decide) h (fun h => ?_) (fun h => ?_)
            · exact u7_copy_93 hc h
            · refine r_iload 4 hc dX7_copy_77 rfl ?_
              refine r_iload 5 hc dX7_copy_79 rfl ?_
              refine r_aload_n 0 hc dX7_copy_81 rfl ?_
              refine r_get (K := 7) (f := 1) hc dX7_copy_82 fX7_13 inX7 rfl rfl (by decide) (by decide) rfl rfl ?_
              refine r_iload_n 3 hc dX7_copy_85 rfl ?_
              refine r_iald hc dX7_copy_86 rfl h (fun h => ?_)
              refine r_csI [.int i4, .int i5, .int (σ8 67 i3.toNatClampNeg)] hc dX7_copy_87 cX7_71 (t7_isPart h) rfl rfl rfl (Nat.le_of_ble_eq_true rfl) (by decide) (by decide) (fun r11 σ12 h => ?_)
              refine r_if_ne 99 hc dX7_copy_90 (by decide) h (fun h => ?_) (fun h => ?_)
              · exact u7_copy_93 hc h
              · refine r_iload_n 1 hc dX7_copy_99 rfl ?_
                refine r_iload_n 3 hc dX7_copy_100 rfl ?_
                refine r_icmp_ne 114 hc dX7_copy_101 (by decide) h (fun h => ?_) (fun h => ?_)
                · refine r_iload 4 hc dX7_copy_104 rfl ?_
                  refine r_iload_n 2 hc dX7_copy_106 rfl ?_
                  refine r_icmp_le 114 hc dX7_copy_107 (by decide) h (fun h => ?_) (fun h => ?_)
                  · exact u7_copy_114 hc h
                  · refine r_iconst (v := 1) hc dX7_copy_110 (by decide) ?_
                    refine r_goto 115 hc dX7_copy_111 (by decide) ?_
                    exact u7_copy_115 hc h
                · exact u7_copy_114 hc h
          · refine r_aload_n 0 hc dX7_copy_56 rfl ?_
            refine r_iconst (v := 5) hc dX7_copy_57 (by decide) ?_
            refine r_cvI [.int 5] hc dX7_copy_58 cX7_64 (t7_finds h) rfl (by decide) rfl rfl rfl rfl (Nat.le_of_ble_eq_true rfl) (by decide) (by decide) (fun r16 σ17 h => ?_)
            exact r_iret hc dX7_copy_61 h
        · exact u7_copy_35 hc h
