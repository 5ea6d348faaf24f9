set_option maxRecDepth 100000 in
set_option maxHeartbeats 4000000 in
theorem u7_sound_26 {κ : KT} {k : Int32 → St → Prop} {i1 : Int32} {i2 : Int32} {i3 : Int32}   {σ : St}  (hc : Cx κ cX7_sound 5 RX7 3 (some .int))    (h : x7_sound_26 i1 i2 i3 σ k) : Wd κ 5 (QI κ k) 26 [(0, aK κ 65), (1, .int i1), (2, .int i2), (3, .int i3)] [] σ := by
  unfold x7_sound_26 at h
  refine r_ldc hc dX7_sound_26 kX7_63 ?_
  exact r_iret hc dX7_sound_28 h
set_option maxRecDepth 100000 in
set_option maxHeartbeats 4000000 in
theorem u7_sound_81 {κ : KT} {k : Int32 → St → Prop} {i1 : Int32} {i2 : Int32} {i3 : Int32}  {i4 : Int32} {σ : St}  (hc : Cx κ cX7_sound 5 RX7 3 (some .int))    (h : x7_sound_81 i1 i2 i3 i4 σ k) : Wd κ 5 (QI κ k) 81 [(0, aK κ 65), (1, .int i1), (2, .int i2), (3, .int i3), (4, .int i4)] [] σ := by
  unfold x7_sound_81 at h
  refine r_aload_n 0 hc dX7_sound_81 rfl ?_
  refine r_cvV [] hc dX7_sound_82 cX7_170 (t7_act h) rfl (by decide) rfl rfl rfl rfl (Nat.le_of_ble_eq_true rfl) (by decide) (by decide) (fun σ11 h => ?_)
  refine r_aload_n 0 hc dX7_sound_85 rfl ?_
  refine r_get (K := 7) (f := 12) hc dX7_sound_86 fX7_22 inX7 rfl rfl (by decide) (by decide) rfl rfl ?_
  refine r_iload 4 hc dX7_sound_89 rfl ?_
  refine r_iload_n 3 hc dX7_sound_91 rfl ?_
  refine r_iast hc dX7_sound_92 rfl h (fun h => ?_)
  refine r_nmS h (fun σ12 h => ?_)
  refine r_aload_n 0 hc dX7_sound_93 rfl ?_
  refine r_cvI [] hc dX7_sound_94 cX7_173 (t7_soundsUsed h) rfl (by decide) rfl rfl rfl rfl (Nat.le_of_ble_eq_true rfl) (by decide) (by decide) (fun r13 σ14 h => ?_)
  exact r_iret hc dX7_sound_97 h
set_option maxRecDepth 100000 in
set_option maxHeartbeats 4000000 in
theorem u7_sound_40 {κ : KT} {k : Int32 → St → Prop} {i1 : Int32} {i2 : Int32} {i3 : Int32}  {s0 : Int32} {σ : St}  (hc : Cx κ cX7_sound 5 RX7 3 (some .int))    (h : x7_sound_40 i1 i2 i3 s0 σ k) : Wd κ 5 (QI κ k) 40 [(0, aK κ 65), (1, .int i1), (2, .int i2), (3, .int i3)] [.int s0] σ := by
  unfold x7_sound_40 at h
  refine r_iload_n 1 hc dX7_sound_40 rfl ?_
  refine r_iadd hc dX7_sound_41 ?_
  refine r_nmI h (fun v7 h => ?_)
  refine r_istore (lv' := [(4, .int v7), (0, aK κ 65), (1, .int i1), (2, .int i2), (3, .int i3)]) hc dX7_sound_42 (by decide) rfl ?_
  refine r_aload_n 1 hc dX7_sound_44 rfl ?_
  refine r_get (K := 7) (f := 12) hc dX7_sound_45 fX7_22 inX7 rfl rfl (by decide) (by decide) rfl rfl ?_
  refine r_iload 0 hc dX7_sound_48 rfl ?_
  refine r_iald hc dX7_sound_50 rfl h (fun h => ?_)
  refine r_iload_n 4 hc dX7_sound_51 rfl ?_
  refine r_icmp_ne 58 hc dX7_sound_52 (by decide) h (fun h => ?_) (fun h => ?_)
  · refine r_ldc hc dX7_sound_55 kX7_162 ?_
    exact r_iret hc dX7_sound_57 h
  · refine r_iload_n 4 hc dX7_sound_58 rfl ?_
    refine r_iconst (v := 1) hc dX7_sound_59 (by decide) ?_
    refine r_icmp_ne 81 hc dX7_sound_60 (by decide) h (fun h => ?_) (fun h => ?_)
    · refine r_aload_n 1 hc dX7_sound_63 rfl ?_
      refine r_cvI [] hc dX7_sound_64 cX7_173 (t7_soundsUsed h) rfl (by decide) rfl rfl rfl rfl (Nat.le_of_ble_eq_true rfl) (by decide) (by decide) (fun r8 σ9 h => ?_)
      refine r_iconst (v := 1) hc dX7_sound_67 (by decide) ?_
      refine r_iadd hc dX7_sound_68 ?_
      refine r_aload_n 1 hc dX7_sound_69 rfl ?_
      refine r_get (K := 7) (f := 12) hc dX7_sound_70 fX7_22 inX7 rfl rfl (by decide) (by decide) rfl rfl ?_
      refine r_iconst (v := 1) hc dX7_sound_73 (by decide) ?_
      refine r_iald hc dX7_sound_74 rfl h (fun h => ?_)
      refine r_icmp_le 81 hc dX7_sound_75 (by decide) h (fun h => ?_) (fun h => ?_)
      · refine r_sub [1, 2, 3, 4, 0] rfl ?_
        exact u7_sound_81 hc h
      · refine r_ldc hc dX7_sound_78 kX7_77 ?_
        exact r_iret hc dX7_sound_80 h
    · refine r_sub [1, 2, 3, 4, 0] rfl ?_
      exact u7_sound_81 hc h
set_option maxRecDepth 100000 in
set_option maxHeartbeats 4000000 in
theorem t7_sound {l : Launch} {i1 : Int32} {i2 : Int32} {i3 : Int32} {σ : St} {k : Int32 → St → Prop}  (h : x7_sound i1 i2 i3 σ k) : CI l yX7_sound cX7_sound 5 3 (some .int) (fun ad => [.ref (ad 65), .int i1, .int i2, .int i3]) σ k := by
  refine CI.of (lv := fun ad => [(0, .ref (ad 65)), (1, .int i1), (2, .int i2), (3, .int i3)]) (by decide) (fun _ => Nat.le_of_ble_eq_true rfl) (fun _ => rfl) (fun κ hc => ?_)
  show Wd κ 5 (QI κ k) 0 [(0, aK κ 65), (1, .int i1), (2, .int i2), (3, .int i3)] [] σ
  unfold x7_sound at h
  refine r_aload_n 0 hc dX7_sound_0 rfl ?_
  refine r_iload_n 1 hc dX7_sound_1 rfl ?_
  refine r_cvI [.int i1] hc dX7_sound_2 cX7_163 (t7_isDoorAt h) rfl (by decide) rfl rfl rfl rfl (Nat.le_of_ble_eq_true rfl) (by decide) (by decide) (fun r1 σ2 h => ?_)
  refine r_if_eq 26 hc dX7_sound_5 (by decide) h (fun h => ?_) (fun h => ?_)
  · exact u7_sound_26 hc h
  · refine r_iload_n 2 hc dX7_sound_8 rfl ?_
    refine r_iconst (v := 0) hc dX7_sound_9 (by decide) ?_
    refine r_iconst (v := 1) hc dX7_sound_10 (by decide) ?_
    refine r_csI [.int i2, .int 0, .int 1] hc dX7_sound_11 cX7_55 (t7_in h) rfl rfl rfl (Nat.le_of_ble_eq_true rfl) (by decide) (by decide) (fun r3 σ4 h => ?_)
    refine r_if_eq 26 hc dX7_sound_14 (by decide) h (fun h => ?_) (fun h => ?_)
    · exact u7_sound_26 hc h
    · refine r_iload_n 3 hc dX7_sound_17 rfl ?_
      refine r_iconst (v := 0) hc dX7_sound_18 (by decide) ?_
      refine r_iconst (v := 1) hc dX7_sound_19 (by decide) ?_
      refine r_csI [.int i3, .int 0, .int 1] hc dX7_sound_20 cX7_55 (t7_in h) rfl rfl rfl (Nat.le_of_ble_eq_true rfl) (by decide) (by decide) (fun r5 σ6 h => ?_)
      refine r_if_ne 29 hc dX7_sound_23 (by decide) h (fun h => ?_) (fun h => ?_)
      · exact u7_sound_26 hc h
      · refine r_iload_n 2 hc dX7_sound_29 rfl ?_
        refine r_if_ne 38 hc dX7_sound_30 (by decide) h (fun h => ?_) (fun h => ?_)
        · refine r_bipush (v := 17) hc dX7_sound_33 (by decide) ?_
          refine r_goto 40 hc dX7_sound_35 (by decide) ?_
          exact u7_sound_40 hc h
        · refine r_bipush (v := 23) hc dX7_sound_38 (by decide) ?_
          exact u7_sound_40 hc h
set_option maxRecDepth 100000 in
set_option maxHeartbeats 4000000 in
theorem t7_status {l : Launch}  {σ : St} {k : Int32 → St → Prop}  (h : x7_status  σ k) : CI l yX7_status cX7_status 1 1 (some .int) (fun ad => [.ref (ad 65)]) σ k := by
  refine CI.of (lv := fun ad => [(0, .ref (ad 65))]) (by decide) (fun _ => Nat.le_of_ble_eq_true rfl) (fun _ => rfl) (fun κ hc => ?_)
  show Wd κ 1 (QI κ k) 0 [(0, aK κ 65)] [] σ
  unfold x7_status at h
  refine r_aload_n 0 hc dX7_status_0 rfl ?_
  refine r_get (K := 7) (f := 3) hc dX7_status_1 fX7_50 inX7 rfl rfl (by decide) (by decide) rfl rfl ?_
  exact r_iret hc dX7_status_4 h
set_option maxRecDepth 100000 in
set_option maxHeartbeats 4000000 in
theorem t7_street {l : Launch}  {σ : St} {k : Int32 → St → Prop}  (h : x7_street  σ k) : CI l yX7_street cX7_street 2 6 (some .int) (fun ad => [.ref (ad 65)]) σ k := by
  refine CI.of (lv := fun ad => [(0, .ref (ad 65))]) (by decide) (fun _ => Nat.le_of_ble_eq_true rfl) (fun _ => rfl) (fun κ hc => ?_)
  show Wd κ 2 (QI κ k) 0 [(0, aK κ 65)] [] σ
  unfold x7_street at h
  refine r_aload_n 0 hc dX7_street_0 rfl ?_
  refine r_cvI [] hc dX7_street_1 cX7_119 (t7_isRead h) rfl (by decide) rfl rfl rfl rfl (Nat.le_of_ble_eq_true rfl) (by decide) (by decide) (fun r1 σ2 h => ?_)
  refine r_istore_n (lv' := [(1, .int r1), (0, aK κ 65)]) hc dX7_street_4 (by decide) rfl ?_
  refine r_aload_n 1 hc dX7_street_5 rfl ?_
  refine r_iconst (v := 0) hc dX7_street_6 (by decide) ?_
  refine r_put (K := 7) (f := 4) hc dX7_street_7 fX7_74 inX7 tyX7_ok nmX7 rfl rfl rfl rfl (by decide) (by decide) rfl rfl ?_
  refine r_nmS h (fun σ3 h => ?_)
  refine r_iload_n 0 hc dX7_street_10 rfl ?_
  refine r_if_ne 30 hc dX7_street_11 (by decide) h (fun h => ?_) (fun h => ?_)
  · refine r_aload_n 1 hc dX7_street_14 rfl ?_
    refine r_aload_n 1 hc dX7_street_15 rfl ?_
    refine r_get (K := 7) (f := 11) hc dX7_street_16 fX7_90 inX7 rfl rfl (by decide) (by decide) rfl rfl ?_
    refine r_put (K := 7) (f := 10) hc dX7_street_19 fX7_122 inX7 tyX7_ok nmX7 rfl rfl rfl rfl (by decide) (by decide) rfl rfl ?_
    refine r_nmS h (fun σ4 h => ?_)
    refine r_ldc hc dX7_street_22 kX7_125 ?_
    refine r_aload_n 1 hc dX7_street_24 rfl ?_
    refine r_get (K := 7) (f := 7) hc dX7_street_25 fX7_81 inX7 rfl rfl (by decide) (by decide) rfl rfl ?_
    refine r_isub hc dX7_street_28 ?_
    exact r_iret hc dX7_street_29 h
  · refine r_aload_n 1 hc dX7_street_30 rfl ?_
    refine r_get (K := 7) (f := 13) hc dX7_street_31 fX7_25 inX7 rfl rfl (by decide) (by decide) rfl rfl ?_
    refine r_iconst (v := 0) hc dX7_street_34 (by decide) ?_
    refine r_aload_n 1 hc dX7_street_35 rfl ?_
    refine r_get (K := 7) (f := 12) hc dX7_street_36 fX7_22 inX7 rfl rfl (by decide) (by decide) rfl rfl ?_
    refine r_iconst (v := 0) hc dX7_street_39 (by decide) ?_
    refine r_csV [aK κ 71, .int 0, aK κ 70, .int 0] hc dX7_street_40 cX7_126 (t7_lay rfl rfl h) rfl rfl rfl (Nat.le_of_ble_eq_true rfl) (by decide) (by decide) (fun σ6 h => ?_)
    refine r_aload_n 1 hc dX7_street_43 rfl ?_
    refine r_iconst (v := 0) hc dX7_street_44 (by decide) ?_
    refine r_put (K := 7) (f := 18) hc dX7_street_45 fX7_130 inX7 tyX7_ok nmX7 rfl rfl rfl rfl (by decide) (by decide) rfl rfl ?_
    refine r_nmS h (fun σ7 h => ?_)
    refine r_aload_n 1 hc dX7_street_48 rfl ?_
    refine r_get (K := 7) (f := 12) hc dX7_street_49 fX7_22 inX7 rfl rfl (by decide) (by decide) rfl rfl ?_
    refine r_iconst (v := 3) hc dX7_street_52 (by decide) ?_
    refine r_iald hc dX7_street_53 rfl h (fun h => ?_)
    exact r_iret hc dX7_street_54 h
set_option maxRecDepth 100000 in
set_option maxHeartbeats 4000000 in
theorem u7_stretch_17 {κ : KT} {k : Int32 → St → Prop} {i1 : Int32} {i2 : Int32}   {σ : St}  (hc : Cx κ cX7_stretch 4 RX7 3 (some .int))    (h : x7_stretch_17 i1 i2 σ k) : Wd κ 4 (QI κ k) 17 [(0, aK κ 65), (1, .int i1), (2, .int i2)] [] σ := by
  unfold x7_stretch_17 at h
  refine r_ldc hc dX7_stretch_17 kX7_63 ?_
  exact r_iret hc dX7_stretch_19 h
set_option maxRecDepth 100000 in
set_option maxHeartbeats 4000000 in
theorem t7_stretch {l : Launch} {i1 : Int32} {i2 : Int32} {σ : St} {k : Int32 → St → Prop}  (h : x7_stretch i1 i2 σ k) : CI l yX7_stretch cX7_stretch 4 3 (some .int) (fun ad => [.ref (ad 65), .int i1, .int i2]) σ k := by
  refine CI.of (lv := fun ad => [(0, .ref (ad 65)), (1, .int i1), (2, .int i2)]) (by decide) (fun _ => Nat.le_of_ble_eq_true rfl) (fun _ => rfl) (fun κ hc => ?_)
  show Wd κ 4 (QI κ k) 0 [(0, aK κ 65), (1, .int i1), (2, .int i2)] [] σ
  unfold x7_stretch at h
  refine r_aload_n 0 hc dX7_stretch_0 rfl ?_
  refine r_iload_n 1 hc dX7_stretch_1 rfl ?_
  refine r_cvI [.int i1] hc dX7_stretch_2 cX7_163 (t7_isDoorAt h) rfl (by decide) rfl rfl rfl rfl (Nat.le_of_ble_eq_true rfl) (by decide) (by decide) (fun r1 σ2 h => ?_)
  refine r_if_eq 17 hc dX7_stretch_5 (by decide) h (fun h => ?_) (fun h => ?_)
  · exact u7_stretch_17 hc h
  · refine r_iload_n 2 hc dX7_stretch_8 rfl ?_
    refine r_iconst (v := 0) hc dX7_stretch_9 (by decide) ?_
    refine r_iconst (v := 5) hc dX7_stretch_10 (by decide) ?_
    refine r_csI [.int i2, .int 0, .int 5] hc dX7_stretch_11 cX7_55 (t7_in h) rfl rfl rfl (Nat.le_of_ble_eq_true rfl) (by decide) (by decide) (fun r3 σ4 h => ?_)
    refine r_if_ne 20 hc dX7_stretch_14 (by decide) h (fun h => ?_) (fun h => ?_)
    · exact u7_stretch_17 hc h
    · refine r_aload_n 0 hc dX7_stretch_20 rfl ?_
      refine r_get (K := 7) (f := 12) hc dX7_stretch_21 fX7_22 inX7 rfl rfl (by decide) (by decide) rfl rfl ?_
      refine r_bipush (v := 11) hc dX7_stretch_24 (by decide) ?_
      refine r_iload_n 1 hc dX7_stretch_26 rfl ?_
      refine r_iadd hc dX7_stretch_27 ?_
      refine r_iald hc dX7_stretch_28 rfl h (fun h => ?_)
      refine r_nmI h (fun v5 h => ?_)
      refine r_istore_n (lv' := [(3, .int v5), (0, aK κ 65), (1, .int i1), (2, .int i2)]) hc dX7_stretch_29 (by decide) rfl ?_
      refine r_aload_n 1 hc dX7_stretch_30 rfl ?_
      refine r_cvI [] hc dX7_stretch_31 cX7_166 (t7_secondsUsed h) rfl (by decide) rfl rfl rfl rfl (Nat.le_of_ble_eq_true rfl) (by decide) (by decide) (fun r6 σ7 h => ?_)
      refine r_iload_n 0 hc dX7_stretch_34 rfl ?_
      refine r_isub hc dX7_stretch_35 ?_
      refine r_iload_n 3 hc dX7_stretch_36 rfl ?_
      refine r_iadd hc dX7_stretch_37 ?_
      refine r_aload_n 1 hc dX7_stretch_38 rfl ?_
      refine r_get (K := 7) (f := 12) hc dX7_stretch_39 fX7_22 inX7 rfl rfl (by decide) (by decide) rfl rfl ?_
      refine r_iconst (v := 0) hc dX7_stretch_42 (by decide) ?_
      refine r_iald hc dX7_stretch_43 rfl h (fun h => ?_)
      refine r_icmp_le 50 hc dX7_stretch_44 (by decide) h (fun h => ?_) (fun h => ?_)
      · refine r_aload_n 1 hc dX7_stretch_50 rfl ?_
        refine r_cvV [] hc dX7_stretch_51 cX7_170 (t7_act h) rfl (by decide) rfl rfl rfl rfl (Nat.le_of_ble_eq_true rfl) (by decide) (by decide) (fun σ9 h => ?_)
        refine r_aload_n 1 hc dX7_stretch_54 rfl ?_
        refine r_get (K := 7) (f := 12) hc dX7_stretch_55 fX7_22 inX7 rfl rfl (by decide) (by decide) rfl rfl ?_
        refine r_bipush (v := 11) hc dX7_stretch_58 (by decide) ?_
        refine r_iload_n 2 hc dX7_stretch_60 rfl ?_
        refine r_iadd hc dX7_stretch_61 ?_
        refine r_iload_n 3 hc dX7_stretch_62 rfl ?_
        refine r_iast hc dX7_stretch_63 rfl h (fun h => ?_)
        refine r_nmS h (fun σ10 h => ?_)
        refine r_iload_n 0 hc dX7_stretch_64 rfl ?_
        exact r_iret hc dX7_stretch_65 h
      · refine r_ldc hc dX7_stretch_47 kX7_77 ?_
        exact r_iret hc dX7_stretch_49 h
set_option maxRecDepth 100000 in
set_option maxHeartbeats 4000000 in
theorem u7_trace_25 {κ : KT} {k : Int32 → St → Prop} {i1 : Int32}  {s0 : Int32} {σ : St}  (hc : Cx κ cX7_trace 2 RX7 2 (some .int))    (h : x7_trace_25 i1 s0 σ k) : Wd κ 2 (QI κ k) 25 [(0, aK κ 65), (1, .int i1)] [.int s0] σ := by
  unfold x7_trace_25 at h
  exact r_iret hc dX7_trace_25 h
set_option maxRecDepth 100000 in
set_option maxHeartbeats 4000000 in
theorem t7_trace {l : Launch} {i1 : Int32} {σ : St} {k : Int32 → St → Prop}  (h : x7_trace i1 σ k) : CI l yX7_trace cX7_trace 2 2 (some .int) (fun ad => [.ref (ad 65), .int i1]) σ k := by
  refine CI.of (lv := fun ad => [(0, .ref (ad 65)), (1, .int i1)]) (by decide) (fun _ => Nat.le_of_ble_eq_true rfl) (fun _ => rfl) (fun κ hc => ?_)
  show Wd κ 2 (QI κ k) 0 [(0, aK κ 65), (1, .int i1)] [] σ
  unfold x7_trace at h
  refine r_iload_n 1 hc dX7_trace_0 rfl ?_
  refine r_iconst (v := 0) hc dX7_trace_1 (by decide) ?_
  refine r_aload_n 0 hc dX7_trace_2 rfl ?_
  refine r_get (K := 7) (f := 20) hc dX7_trace_3 fX7_229 inX7 rfl rfl (by decide) (by decide) rfl rfl ?_
  refine r_iconst (v := 1) hc dX7_trace_6 (by decide) ?_
  refine r_isub hc dX7_trace_7 ?_
  refine r_csI [.int i1, .int 0, .int ((σ 65 20) - 1)] hc dX7_trace_8 cX7_55 (t7_in h) rfl rfl rfl (Nat.le_of_ble_eq_true rfl) (by decide) (by decide) (fun r1 σ2 h => ?_)
  refine r_if_eq 23 hc dX7_trace_11 (by decide) h (fun h => ?_) (fun h => ?_)
  · refine r_ldc hc dX7_trace_23 kX7_188 ?_
    exact u7_trace_25 hc h
  · refine r_aload_n 0 hc dX7_trace_14 rfl ?_
    refine r_get (K := 7) (f := 19) hc dX7_trace_15 fX7_41 inX7 rfl rfl (by decide) (by decide) rfl rfl ?_
    refine r_iload_n 1 hc dX7_trace_18 rfl ?_
    refine r_iald hc dX7_trace_19 rfl h (fun h => ?_)
    refine r_goto 25 hc dX7_trace_20 (by decide) ?_
    exact u7_trace_25 hc h
set_option maxRecDepth 100000 in
set_option maxHeartbeats 4000000 in
theorem t7_undo {l : Launch}  {σ : St} {k : Int32 → St → Prop}  (h : x7_undo  σ k) : CI l yX7_undo cX7_undo 1 2 (some .int) (fun ad => [.ref (ad 65)]) σ k := by
  refine CI.of (lv := fun ad => [(0, .ref (ad 65))]) (by decide) (fun _ => Nat.le_of_ble_eq_true rfl) (fun _ => rfl) (fun κ hc => ?_)
  show Wd κ 1 (QI κ k) 0 [(0, aK κ 65)] [] σ
  unfold x7_undo at h
  refine r_aload_n 0 hc dX7_undo_0 rfl ?_
  refine r_get (K := 7) (f := 18) hc dX7_undo_1 fX7_130 inX7 rfl rfl (by decide) (by decide) rfl rfl ?_
  refine r_if_ne 10 hc dX7_undo_4 (by decide) h (fun h => ?_) (fun h => ?_)
  · refine r_ldc hc dX7_undo_7 kX7_162 ?_
    exact r_iret hc dX7_undo_9 h
  · refine r_aload_n 0 hc dX7_undo_10 rfl ?_
    refine r_dup hc dX7_undo_11 rfl ?_
    refine r_get (K := 7) (f := 18) hc dX7_undo_12 fX7_130 inX7 rfl rfl (by decide) (by decide) rfl rfl ?_
    refine r_iconst (v := 1) hc dX7_undo_15 (by decide) ?_
    refine r_isub hc dX7_undo_16 ?_
    refine r_put (K := 7) (f := 18) hc dX7_undo_17 fX7_130 inX7 tyX7_ok nmX7 rfl rfl rfl rfl (by decide) (by decide) rfl rfl ?_
    refine r_nmS h (fun σ1 h => ?_)
    refine r_aload_n 0 hc dX7_undo_20 rfl ?_
    refine r_get (K := 7) (f := 17) hc dX7_undo_21 fX7_38 inX7 rfl rfl (by decide) (by decide) rfl rfl ?_
    refine r_bipush (v := 53) hc dX7_undo_24 (by decide) ?_
    refine r_aload_n 0 hc dX7_undo_26 rfl ?_
    refine r_get (K := 7) (f := 18) hc dX7_undo_27 fX7_130 inX7 rfl rfl (by decide) (by decide) rfl rfl ?_
    refine r_imul hc dX7_undo_30 ?_
    refine r_aload_n 0 hc dX7_undo_31 rfl ?_
    refine r_get (K := 7) (f := 12) hc dX7_undo_32 fX7_22 inX7 rfl rfl (by decide) (by decide) rfl rfl ?_
    refine r_iconst (v := 0) hc dX7_undo_35 (by decide) ?_
    refine r_csV [aK κ 75, .int (53 * (σ1 65 18)), aK κ 70, .int 0] hc dX7_undo_36 cX7_126 (t7_lay rfl rfl h) rfl rfl rfl (Nat.le_of_ble_eq_true rfl) (by decide) (by decide) (fun σ3 h => ?_)
    refine r_aload_n 0 hc dX7_undo_39 rfl ?_
    refine r_get (K := 7) (f := 18) hc dX7_undo_40 fX7_130 inX7 rfl rfl (by decide) (by decide) rfl rfl ?_
    exact r_iret hc dX7_undo_43 h
set_option maxRecDepth 100000 in
set_option maxHeartbeats 4000000 in
theorem u7_used_35 {κ : KT} {k : Int32 → St → Prop} {i1 : Int32}  {s0 : Int32} {σ : St}  (hc : Cx κ cX7_used 2 RX7 2 (some .int))    (h : x7_used_35 i1 s0 σ k) : Wd κ 2 (QI κ k) 35 [(0, aK κ 65), (1, .int i1)] [.int s0] σ := by
  unfold x7_used_35 at h
  exact r_iret hc dX7_used_35 h
set_option maxRecDepth 100000 in
set_option maxHeartbeats 4000000 in
theorem t7_used {l : Launch} {i1 : Int32} {σ : St} {k : Int32 → St → Prop}  (h : x7_used i1 σ k) : CI l yX7_used cX7_used 2 2 (some .int) (fun ad => [.ref (ad 65), .int i1]) σ k := by
  refine CI.of (lv := fun ad => [(0, .ref (ad 65)), (1, .int i1)]) (by decide) (fun _ => Nat.le_of_ble_eq_true rfl) (fun _ => rfl) (fun κ hc => ?_)
  show Wd κ 2 (QI κ k) 0 [(0, aK κ 65), (1, .int i1)] [] σ
  unfold x7_used at h
  refine r_aload_n 0 hc dX7_used_0 rfl ?_
  refine r_cvI [] hc dX7_used_1 cX7_176 (t7_isStreet h) rfl (by decide) rfl rfl rfl rfl (Nat.le_of_ble_eq_true rfl) (by decide) (by decide) (fun r1 σ2 h => ?_)
  refine r_if_ne 10 hc dX7_used_4 (by decide) h (fun h => ?_) (fun h => ?_)
  · refine r_ldc hc dX7_used_7 kX7_162 ?_
    exact r_iret hc dX7_used_9 h
  · refine r_iload_n 1 hc dX7_used_10 rfl ?_
    refine r_if_ne 21 hc dX7_used_11 (by decide) h (fun h => ?_) (fun h => ?_)
    · refine r_aload_n 0 hc dX7_used_14 rfl ?_
      refine r_cvI [] hc dX7_used_15 cX7_166 (t7_secondsUsed h) rfl (by decide) rfl rfl rfl rfl (Nat.le_of_ble_eq_true rfl) (by decide) (by decide) (fun r3 σ4 h => ?_)
      refine r_goto 35 hc dX7_used_18 (by decide) ?_
      exact u7_used_35 hc h
    · refine r_iload_n 1 hc dX7_used_21 rfl ?_
      refine r_iconst (v := 1) hc dX7_used_22 (by decide) ?_
      refine r_icmp_ne 33 hc dX7_used_23 (by decide) h (fun h => ?_) (fun h => ?_)
      · refine r_aload_n 0 hc dX7_used_26 rfl ?_
        refine r_cvI [] hc dX7_used_27 cX7_173 (t7_soundsUsed h) rfl (by decide) rfl rfl rfl rfl (Nat.le_of_ble_eq_true rfl) (by decide) (by decide) (fun r5 σ6 h => ?_)
        refine r_goto 35 hc dX7_used_30 (by decide) ?_
        exact u7_used_35 hc h
      · refine r_ldc hc dX7_used_33 kX7_63 ?_
        exact u7_used_35 hc h
set_option maxRecDepth 100000 in
set_option maxHeartbeats 4000000 in
theorem u7_whichDoor_90 {κ : KT} {k : Int32 → St → Prop} {i1 : Int32} {i2 : Int32} {R24 : Int32 → St → Prop} {R40 : Int32 → Int32 → Int32 → St → Prop} {i3 : Int32} {i5 : Int32} {s0 : Int32} {σ : St}  (hc : Cx κ cX7_whichDoor 6 RX7 3 (some .int))  (hR24 : ∀ (i3 : Int32) (σ : St), R24 i3 σ → Wd κ 6 (QI κ k) 24 [(0, aK κ 65), (1, .int i1), (2, .int i2), (3, .int i3)] [] σ) (hR40 : ∀ (i3 : Int32) (i4 : Int32) (i5 : Int32) (σ : St), R40 i3 i4 i5 σ → Wd κ 6 (QI κ k) 40 [(0, aK κ 65), (1, .int i1), (2, .int i2), (3, .int i3), (4, .int i4), (5, .int i5)] [] σ)  (h : x7_whichDoor_90 i1 i2 R24 R40 i3 i5 s0 σ k) : Wd κ 6 (QI κ k) 90 [(0, aK κ 65), (1, .int i1), (2, .int i2), (3, .int i3), (5, .int i5)] [.int s0] σ := by
  unfold x7_whichDoor_90 at h
  refine r_istore (lv' := [(4, .int s0), (0, aK κ 65), (1, .int i1), (2, .int i2), (3, .int i3), (5, .int i5)]) hc dX7_whichDoor_90 (by decide) rfl ?_
  refine r_iinc (v := 1) (lv' := [(5, .int (i5 + 1)), (4, .int s0), (0, aK κ 65), (1, .int i1), (2, .int i2), (3, .int i3)]) 5 hc dX7_whichDoor_92 rfl (by decide) (by decide) rfl ?_
  refine r_goto 40 hc dX7_whichDoor_95 (by decide) ?_
  refine r_sub [2, 3, 4, 5, 1, 0] rfl ?_
  exact hR40 _ _ _ _ h
set_option maxRecDepth 100000 in
set_option maxHeartbeats 4000000 in
theorem u7_whichDoor_85 {κ : KT} {k : Int32 → St → Prop} {i1 : Int32} {i2 : Int32} {R24 : Int32 → St → Prop} {R40 : Int32 → Int32 → Int32 → St → Prop} {i3 : Int32} {i5 : Int32} {σ : St}  (hc : Cx κ cX7_whichDoor 6 RX7 3 (some .int))  (hR24 : ∀ (i3 : Int32) (σ : St), R24 i3 σ → Wd κ 6 (QI κ k) 24 [(0, aK κ 65), (1, .int i1), (2, .int i2), (3, .int i3)] [] σ) (hR40 : ∀ (i3 : Int32) (i4 : Int32) (i5 : Int32) (σ : St), R40 i3 i4 i5 σ → Wd κ 6 (QI κ k) 40 [(0, aK κ 65), (1, .int i1), (2, .int i2), (3, .int i3), (4, .int i4), (5, .int i5)] [] σ)  (h : x7_whichDoor_85 i1 i2 R24 R40 i3 i5 σ k) : Wd κ 6 (QI κ k) 85 [(0, aK κ 65), (1, .int i1), (2, .int i2), (3, .int i3), (5, .int i5)] [] σ := by
  unfold x7_whichDoor_85 at h
  refine r_iconst (v := 1) hc dX7_whichDoor_85 (by decide) ?_
  refine r_goto 90 hc dX7_whichDoor_86 (by decide) ?_
  exact u7_whichDoor_90 hc hR24 hR40 h
set_option maxRecDepth 100000 in
set_option maxHeartbeats 4000000 in
theorem u7_whichDoor_77 {κ : KT} {k : Int32 → St → Prop} {i1 : Int32} {i2 : Int32} {R24 : Int32 → St → Prop} {R40 : Int32 → Int32 → Int32 → St → Prop} {i3 : Int32} {i5 : Int32} {s4 : Int32} {s3 : Int32} {s2 : Int32} {s1 : Int32} {σ : St}  (hc : Cx κ cX7_whichDoor 6 RX7 3 (some .int))  (hR24 : ∀ (i3 : Int32) (σ : St), R24 i3 σ → Wd κ 6 (QI κ k) 24 [(0, aK κ 65), (1, .int i1), (2, .int i2), (3, .int i3)] [] σ) (hR40 : ∀ (i3 : Int32) (i4 : Int32) (i5 : Int32) (σ : St), R40 i3 i4 i5 σ → Wd κ 6 (QI κ k) 40 [(0, aK κ 65), (1, .int i1), (2, .int i2), (3, .int i3), (4, .int i4), (5, .int i5)] [] σ)  (h : x7_whichDoor_77 i1 i2 R24 R40 i3 i5 s4 s3 s2 s1 σ k) : Wd κ 6 (QI κ k) 77 [(0, aK κ 65), (1, .int i1), (2, .int i2), (3, .int i3), (5, .int i5)] [.int s4, .int s3, .int s2, .int s1, aK κ 65] σ := by
  unfold x7_whichDoor_77 at h
  refine r_iload_n 1 hc dX7_whichDoor_77 rfl ?_
  refine r_iload_n 2 hc dX7_whichDoor_78 rfl ?_
  refine r_cvI [.int s1, .int s2, .int s3, .int s4, .int i1, .int i2] hc dX7_whichDoor_79 cX7_189 (t7_fits h) rfl (by decide) rfl rfl rfl rfl (Nat.le_of_ble_eq_true rfl) (by decide) (by decide) (fun r5 σ6 h => ?_)
  refine r_if_eq 89 hc dX7_whichDoor_82 (by decide) h (fun h => ?_) (fun h => ?_)
  · refine r_iconst (v := 0) hc dX7_whichDoor_89 (by decide) ?_
    exact u7_whichDoor_90 hc hR24 hR40 h
  · exact u7_whichDoor_85 hc hR24 hR40 h
set_option maxRecDepth 100000 in
set_option maxHeartbeats 4000000 in
theorem u7_whichDoor_40 {κ : KT} {k : Int32 → St → Prop} {i1 : Int32} {i2 : Int32} {R24 : Int32 → St → Prop}  (hc : Cx κ cX7_whichDoor 6 RX7 3 (some .int))  (hR24 : ∀ (i3 : Int32) (σ : St), R24 i3 σ → Wd κ 6 (QI κ k) 24 [(0, aK κ 65), (1, .int i1), (2, .int i2), (3, .int i3)] [] σ) : ∀ (n : Nat) (i3 : Int32) (i4 : Int32) (i5 : Int32) (σ : St), x7_whichDoor_40 i1 i2 R24 k n i3 i4 i5 σ → Wd κ 6 (QI κ k) 40 [(0, aK κ 65), (1, .int i1), (2, .int i2), (3, .int i3), (4, .int i4), (5, .int i5)] [] σ := by
  intro n
  induction n with
  | zero => intro i3 i4 i5 σ h; exact h.elim
  | succ n ih =>
    intro i3 i4 i5 σ h
    unfold x7_whichDoor_40 at h
    refine r_iload 5 hc dX7_whichDoor_40 rfl ?_
    refine r_bipush (v := 24) hc dX7_whichDoor_42 (by decide) ?_
    refine r_icmp_ge 98 hc dX7_whichDoor_44 (by decide) h (fun h => ?_) (fun h => ?_)
    · refine r_iload 4 hc dX7_whichDoor_98 rfl ?_
      refine r_if_ne 105 hc dX7_whichDoor_100 (by decide) h (fun h => ?_) (fun h => ?_)
      · refine r_iload_n 3 hc dX7_whichDoor_103 rfl ?_
        exact r_iret hc dX7_whichDoor_104 h
      · refine r_iinc (v := 1) (lv' := [(3, .int (i3 + 1)), (0, aK κ 65), (1, .int i1), (2, .int i2), (4, .int i4), (5, .int i5)]) 3 hc dX7_whichDoor_105 rfl (by decide) (by decide) rfl ?_
        refine r_goto 24 hc dX7_whichDoor_108 (by decide) ?_
        refine r_sub [1, 2, 3, 0] rfl ?_
        exact hR24 _ _ h
    · refine r_iload 4 hc dX7_whichDoor_47 rfl ?_
      refine r_if_ne 85 hc dX7_whichDoor_49 (by decide) h (fun h => ?_) (fun h => ?_)
      · refine r_aload_n 0 hc dX7_whichDoor_52 rfl ?_
        refine r_iload_n 3 hc dX7_whichDoor_53 rfl ?_
        refine r_iload 5 hc dX7_whichDoor_54 rfl ?_
        refine r_iconst (v := 4) hc dX7_whichDoor_56 (by decide) ?_
        refine r_idiv hc dX7_whichDoor_57 h (fun h => ?_)
        refine r_iload 5 hc dX7_whichDoor_58 rfl ?_
        refine r_iconst (v := 2) hc dX7_whichDoor_60 (by decide) ?_
        refine r_idiv hc dX7_whichDoor_61 h (fun h => ?_)
        refine r_iconst (v := 2) hc dX7_whichDoor_62 (by decide) ?_
        refine r_irem hc dX7_whichDoor_63 h (fun h => ?_)
        refine r_iload 5 hc dX7_whichDoor_64 rfl ?_
        refine r_iconst (v := 2) hc dX7_whichDoor_66 (by decide) ?_
        refine r_irem hc dX7_whichDoor_67 h (fun h => ?_)
        refine r_iconst (v := 1) hc dX7_whichDoor_68 (by decide) ?_
        refine r_icmp_ne 76 hc dX7_whichDoor_69 (by decide) h (fun h => ?_) (fun h => ?_)
        · refine r_iconst (v := 1) hc dX7_whichDoor_72 (by decide) ?_
          refine r_goto 77 hc dX7_whichDoor_73 (by decide) ?_
          refine r_sub [0, 1, 2, 3, 5] rfl ?_
          exact u7_whichDoor_77 hc hR24 ih h
        · refine r_iconst (v := 0) hc dX7_whichDoor_76 (by decide) ?_
          refine r_sub [0, 1, 2, 3, 5] rfl ?_
          exact u7_whichDoor_77 hc hR24 ih h
      · refine r_sub [0, 1, 2, 3, 5] rfl ?_
        exact u7_whichDoor_85 hc hR24 ih h
set_option maxRecDepth 100000 in
set_option maxHeartbeats 4000000 in
theorem u7_whichDoor_24 {κ : KT} {k : Int32 → St → Prop} {i1 : Int32} {i2 : Int32}   (hc : Cx κ cX7_whichDoor 6 RX7 3 (some .int))   : ∀ (n : Nat) (i3 : Int32) (σ : St), x7_whichDoor_24 i1 i2 k n i3 σ → Wd κ 6 (QI κ k) 24 [(0, aK κ 65), (1, .int i1), (2, .int i2), (3, .int i3)] [] σ := by
  intro n
  induction n with
  | zero => intro i3 σ h; exact h.elim
  | succ n ih =>
    intro i3 σ h
    unfold x7_whichDoor_24 at h
    refine r_iload_n 3 hc dX7_whichDoor_24 rfl ?_
    refine r_aload_n 0 hc dX7_whichDoor_25 rfl ?_
    refine r_get (K := 7) (f := 12) hc dX7_whichDoor_26 fX7_22 inX7 rfl rfl (by decide) (by decide) rfl rfl ?_
    refine r_iconst (v := 2) hc dX7_whichDoor_29 (by decide) ?_
    refine r_iald hc dX7_whichDoor_30 rfl h (fun h => ?_)
    refine r_icmp_ge 111 hc dX7_whichDoor_31 (by decide) h (fun h => ?_) (fun h => ?_)
    · refine r_ldc hc dX7_whichDoor_111 kX7_188 ?_
      exact r_iret hc dX7_whichDoor_113 h
    · refine r_iconst (v := 0) hc dX7_whichDoor_34 (by decide) ?_
      refine r_istore (lv' := [(4, .int 0), (0, aK κ 65), (1, .int i1), (2, .int i2), (3, .int i3)]) hc dX7_whichDoor_35 (by decide) rfl ?_
      refine r_iconst (v := 0) hc dX7_whichDoor_37 (by decide) ?_
      refine r_istore (lv' := [(5, .int 0), (4, .int 0), (0, aK κ 65), (1, .int i1), (2, .int i2), (3, .int i3)]) hc dX7_whichDoor_38 (by decide) rfl ?_
      refine r_sub [2, 3, 4, 5, 1, 0] rfl ?_
      obtain ⟨n0, h⟩ := h
      exact u7_whichDoor_40 hc ih n0 _ _ _ _ h
set_option maxRecDepth 100000 in
set_option maxHeartbeats 4000000 in
theorem t7_whichDoor {l : Launch} {i1 : Int32} {i2 : Int32} {σ : St} {k : Int32 → St → Prop}  (h : x7_whichDoor i1 i2 σ k) : CI l yX7_whichDoor cX7_whichDoor 6 3 (some .int) (fun ad => [.ref (ad 65), .int i1, .int i2]) σ k := by
  refine CI.of (lv := fun ad => [(0, .ref (ad 65)), (1, .int i1), (2, .int i2)]) (by decide) (fun _ => Nat.le_of_ble_eq_true rfl) (fun _ => rfl) (fun κ hc => ?_)
  show Wd κ 6 (QI κ k) 0 [(0, aK κ 65), (1, .int i1), (2, .int i2)] [] σ
  unfold x7_whichDoor at h
  refine r_aload_n 0 hc dX7_whichDoor_0 rfl ?_
  refine r_cvI [] hc dX7_whichDoor_1 cX7_176 (t7_isStreet h) rfl (by decide) rfl rfl rfl rfl (Nat.le_of_ble_eq_true rfl) (by decide) (by decide) (fun r1 σ2 h => ?_)
  refine r_if_ne 10 hc dX7_whichDoor_4 (by decide) h (fun h => ?_) (fun h => ?_)
  · refine r_ldc hc dX7_whichDoor_7 kX7_162 ?_
    exact r_iret hc dX7_whichDoor_9 h
  · refine r_aload_n 0 hc dX7_whichDoor_10 rfl ?_
    refine r_iload_n 1 hc dX7_whichDoor_11 rfl ?_
    refine r_iload_n 2 hc dX7_whichDoor_12 rfl ?_
    refine r_cvI [.int i1, .int i2] hc dX7_whichDoor_13 cX7_201 (t7_areSets h) rfl (by decide) rfl rfl rfl rfl (Nat.le_of_ble_eq_true rfl) (by decide) (by decide) (fun r3 σ4 h => ?_)
    refine r_if_ne 22 hc dX7_whichDoor_16 (by decide) h (fun h => ?_) (fun h => ?_)
    · refine r_ldc hc dX7_whichDoor_19 kX7_63 ?_
      exact r_iret hc dX7_whichDoor_21 h
    · refine r_iconst (v := 0) hc dX7_whichDoor_22 (by decide) ?_
      refine r_istore_n (lv' := [(3, .int 0), (0, aK κ 65), (1, .int i1), (2, .int i2)]) hc dX7_whichDoor_23 (by decide) rfl ?_
      refine r_sub [1, 2, 3, 0] rfl ?_
      obtain ⟨n0, h⟩ := h
      exact u7_whichDoor_24 hc n0 _ _ h
set_option maxRecDepth 100000 in
set_option maxHeartbeats 4000000 in
theorem u7_who_26 {κ : KT} {k : Int32 → St → Prop} {i1 : Int32} {i2 : Int32} {i3 : Int32} {i4 : Int32}   {σ : St}  (hc : Cx κ cX7_who 10 RX7 6 (some .int))    (h : x7_who_26 i1 i2 i3 i4 σ k) : Wd κ 10 (QI κ k) 26 [(0, aK κ 65), (1, .int i1), (2, .int i2), (3, .int i3), (4, .int i4)] [] σ := by
  unfold x7_who_26 at h
  refine r_ldc hc dX7_who_26 kX7_63 ?_
  exact r_iret hc dX7_who_28 h
set_option maxRecDepth 100000 in
set_option maxHeartbeats 4000000 in
theorem u7_who_180 {κ : KT} {k : Int32 → St → Prop} {i1 : Int32} {i2 : Int32} {i3 : Int32} {i4 : Int32} {R71 : Int32 → Int32 → St → Prop} {i6 : Int32} {s1 : Int32} {s0 : Int32} {σ : St}  (hc : Cx κ cX7_who 10 RX7 6 (some .int))  (hR71 : ∀ (i5 : Int32) (i6 : Int32) (σ : St), R71 i5 i6 σ → Wd κ 10 (QI κ k) 71 [(0, aK κ 65), (1, .int i1), (2, .int i2), (3, .int i3), (4, .int i4), (5, .int i5), (6, .int i6)] [] σ)  (h : x7_who_180 i1 i2 i3 i4 R71 i6 s1 s0 σ k) : Wd κ 10 (QI κ k) 180 [(0, aK κ 65), (1, .int i1), (2, .int i2), (3, .int i3), (4, .int i4), (6, .int i6)] [.int s1, .int s0] σ := by
  unfold x7_who_180 at h
  refine r_ior hc dX7_who_180 ?_
  refine r_nmI h (fun v16 h => ?_)
  refine r_istore (lv' := [(5, .int v16), (0, aK κ 65), (1, .int i1), (2, .int i2), (3, .int i3), (4, .int i4), (6, .int i6)]) hc dX7_who_181 (by decide) rfl ?_
  refine r_iinc (v := 1) (lv' := [(6, .int (i6 + 1)), (5, .int v16), (0, aK κ 65), (1, .int i1), (2, .int i2), (3, .int i3), (4, .int i4)]) 6 hc dX7_who_183 rfl (by decide) (by decide) rfl ?_
  refine r_goto 71 hc dX7_who_186 (by decide) ?_
  refine r_sub [2, 3, 4, 5, 6, 1, 0] rfl ?_
  exact hR71 _ _ _ h
set_option maxRecDepth 100000 in
set_option maxHeartbeats 4000000 in
theorem u7_who_157 {κ : KT} {k : Int32 → St → Prop} {i1 : Int32} {i2 : Int32} {i3 : Int32} {i4 : Int32} {R71 : Int32 → Int32 → St → Prop} {R108 : Int32 → Int32 → Int32 → Int32 → St → Prop} {i5 : Int32} {i6 : Int32} {i8 : Int32} {s0 : Int32} {σ : St}  (hc : Cx κ cX7_who 10 RX7 6 (some .int))  (hR71 : ∀ (i5 : Int32) (i6 : Int32) (σ : St), R71 i5 i6 σ → Wd κ 10 (QI κ k) 71 [(0, aK κ 65), (1, .int i1), (2, .int i2), (3, .int i3), (4, .int i4), (5, .int i5), (6, .int i6)] [] σ) (hR108 : ∀ (i5 : Int32) (i6 : Int32) (i7 : Int32) (i8 : Int32) (σ : St), R108 i5 i6 i7 i8 σ → Wd κ 10 (QI κ k) 108 [(0, aK κ 65), (1, .int i1), (2, .int i2), (3, .int i3), (4, .int i4), (5, .int i5), (6, .int i6), (7, .int i7), (8, .int i8)] [] σ)  (h : x7_who_157 i1 i2 i3 i4 R71 R108 i5 i6 i8 s0 σ k) : Wd κ 10 (QI κ k) 157 [(0, aK κ 65), (1, .int i1), (2, .int i2), (3, .int i3), (4, .int i4), (5, .int i5), (6, .int i6), (8, .int i8)] [.int s0] σ := by
  unfold x7_who_157 at h
  refine r_istore (lv' := [(7, .int s0), (0, aK κ 65), (1, .int i1), (2, .int i2), (3, .int i3), (4, .int i4), (5, .int i5), (6, .int i6), (8, .int i8)]) hc dX7_who_157 (by decide) rfl ?_
  refine r_iinc (v := 1) (lv' := [(8, .int (i8 + 1)), (7, .int s0), (0, aK κ 65), (1, .int i1), (2, .int i2), (3, .int i3), (4, .int i4), (5, .int i5), (6, .int i6)]) 8 hc dX7_who_159 rfl (by decide) (by decide) rfl ?_
  refine r_goto 108 hc dX7_who_162 (by decide) ?_
  refine r_sub [2, 3, 4, 5, 6, 7, 8, 1, 0] rfl ?_
  exact hR108 _ _ _ _ _ h
set_option maxRecDepth 100000 in
set_option maxHeartbeats 4000000 in
theorem u7_who_156 {κ : KT} {k : Int32 → St → Prop} {i1 : Int32} {i2 : Int32} {i3 : Int32} {i4 : Int32} {R71 : Int32 → Int32 → St → Prop} {R108 : Int32 → Int32 → Int32 → Int32 → St → Prop} {i5 : Int32} {i6 : Int32} {i8 : Int32} {σ : St}  (hc : Cx κ cX7_who 10 RX7 6 (some .int))  (hR71 : ∀ (i5 : Int32) (i6 : Int32) (σ : St), R71 i5 i6 σ → Wd κ 10 (QI κ k) 71 [(0, aK κ 65), (1, .int i1), (2, .int i2), (3, .int i3), (4, .int i4), (5, .int i5), (6, .int i6)] [] σ) (hR108 : ∀ (i5 : Int32) (i6 : Int32) (i7 : Int32) (i8 : Int32) (σ : St), R108 i5 i6 i7 i8 σ → Wd κ 10 (QI κ k) 108 [(0, aK κ 65), (1, .int i1), (2, .int i2), (3, .int i3), (4, .int i4), (5, .int i5), (6, .int i6), (7, .int i7), (8, .int i8)] [] σ)  (h : x7_who_156 i1 i2 i3 i4 R71 R108 i5 i6 i8 σ k) : Wd κ 10 (QI κ k) 156 [(0, aK κ 65), (1, .int i1), (2, .int i2), (3, .int i3), (4, .int i4), (5, .int i5), (6, .int i6), (8, .int i8)] [] σ := by
  unfold x7_who_156 at h
  refine r_iconst (v := 0) hc dX7_who_156 (by decide) ?_
  exact u7_who_157 hc hR71 hR108 h
set_option maxRecDepth 100000 in
set_option maxHeartbeats 4000000 in
theorem u7_who_108 {κ : KT} {k : Int32 → St → Prop} {i1 : Int32} {i2 : Int32} {i3 : Int32} {i4 : Int32} {R71 : Int32 → Int32 → St → Prop}  (hc : Cx κ cX7_who 10 RX7 6 (some .int))  (hR71 : ∀ (i5 : Int32) (i6 : Int32) (σ : St), R71 i5 i6 σ → Wd κ 10 (QI κ k) 71 [(0, aK κ 65), (1, .int i1), (2, .int i2), (3, .int i3), (4, .int i4), (5, .int i5), (6, .int i6)] [] σ) : ∀ (n : Nat) (i5 : Int32) (i6 : Int32) (i7 : Int32) (i8 : Int32) (σ : St), x7_who_108 i1 i2 i3 i4 R71 k n i5 i6 i7 i8 σ → Wd κ 10 (QI κ k) 108 [(0, aK κ 65), (1, .int i1), (2, .int i2), (3, .int i3), (4, .int i4), (5, .int i5), (6, .int i6), (7, .int i7), (8, .int i8)] [] σ := by
  intro n
  induction n with
  | zero => intro i5 i6 i7 i8 σ h; exact h.elim
  | succ n ih =>
    intro i5 i6 i7 i8 σ h
    unfold x7_who_108 at h
    refine r_iload 8 hc dX7_who_108 rfl ?_
    refine r_iload 4 hc dX7_who_110 rfl ?_
    refine r_icmp_ge 165 hc dX7_who_112 (by decide) h (fun h => ?_) (fun h => ?_)
    · refine r_iload 5 hc dX7_who_165 rfl ?_
      refine r_iload 7 hc dX7_who_167 rfl ?_
      refine r_if_eq 179 hc dX7_who_169 (by decide) h (fun h => ?_) (fun h => ?_)
      · refine r_iconst (v := 0) hc dX7_who_179 (by decide) ?_
        refine r_sub [0, 1, 2, 3, 4, 6] rfl ?_
        exact u7_who_180 hc hR71 h
      · refine r_iconst (v := 1) hc dX7_who_172 (by decide) ?_
        refine r_iload 6 hc dX7_who_173 rfl ?_
        refine r_ishl hc dX7_who_175 ?_
        refine r_goto 180 hc dX7_who_176 (by decide) ?_
        refine r_sub [0, 1, 2, 3, 4, 6] rfl ?_
        exact u7_who_180 hc hR71 h
    · refine r_aload_n 0 hc dX7_who_115 rfl ?_
      refine r_get (K := 7) (f := 14) hc dX7_who_116 fX7_28 inX7 rfl rfl (by decide) (by decide) rfl rfl ?_
      refine r_csI [aK κ 72] hc dX7_who_119 cX7_179 (t7_pass rfl h) rfl rfl rfl (Nat.le_of_ble_eq_true rfl) (by decide) (by decide) (fun r17 σ18 h => ?_)
      refine r_iload_n 1 hc dX7_who_122 rfl ?_
      refine r_ishr hc dX7_who_123 ?_
      refine r_iconst (v := 1) hc dX7_who_124 (by decide) ?_
      refine r_iand hc dX7_who_125 ?_
      refine r_nmI h (fun v19 h => ?_)
      refine r_istore (lv' := [(9, .int v19), (0, aK κ 65), (1, .int i1), (2, .int i2), (3, .int i3), (4, .int i4), (5, .int i5), (6, .int i6), (7, .int i7), (8, .int i8)]) hc dX7_who_126 (by decide) rfl ?_
      refine r_iload 8 hc dX7_who_128 rfl ?_
      refine r_if_eq 156 hc dX7_who_130 (by decide) h (fun h => ?_) (fun h => ?_)
      · refine r_sub [1, 2, 3, 4, 5, 6, 7, 9] rfl ?_
        exact u7_who_156 hc hR71 ih h
      · refine r_aload_n 1 hc dX7_who_133 rfl ?_
        refine r_get (K := 7) (f := 2) hc dX7_who_134 fX7_16 inX7 rfl rfl (by decide) (by decide) rfl rfl ?_
        refine r_bipush (v := 40) hc dX7_who_137 (by decide) ?_
        refine r_iload_n 3 hc dX7_who_139 rfl ?_
        refine r_imul hc dX7_who_140 ?_
        refine r_iload_n 4 hc dX7_who_141 rfl ?_
        refine r_iadd hc dX7_who_142 ?_
        refine r_iload 9 hc dX7_who_143 rfl ?_
        refine r_iadd hc dX7_who_145 ?_
        refine r_iald hc dX7_who_146 rfl h (fun h => ?_)
        refine r_iload 0 hc dX7_who_147 rfl ?_
        refine r_icmp_ne 156 hc dX7_who_149 (by decide) h (fun h => ?_) (fun h => ?_)
        · refine r_iconst (v := 1) hc dX7_who_152 (by decide) ?_
          refine r_goto 157 hc dX7_who_153 (by decide) ?_
          refine r_sub [1, 2, 3, 4, 5, 6, 7, 9] rfl ?_
          exact u7_who_157 hc hR71 ih h
        · refine r_sub [1, 2, 3, 4, 5, 6, 7, 9] rfl ?_
          exact u7_who_156 hc hR71 ih h
set_option maxRecDepth 100000 in
set_option maxHeartbeats 4000000 in
theorem u7_who_71 {κ : KT} {k : Int32 → St → Prop} {i1 : Int32} {i2 : Int32} {i3 : Int32} {i4 : Int32}   (hc : Cx κ cX7_who 10 RX7 6 (some .int))   : ∀ (n : Nat) (i5 : Int32) (i6 : Int32) (σ : St), x7_who_71 i1 i2 i3 i4 k n i5 i6 σ → Wd κ 10 (QI κ k) 71 [(0, aK κ 65), (1, .int i1), (2, .int i2), (3, .int i3), (4, .int i4), (5, .int i5), (6, .int i6)] [] σ := by
  intro n
  induction n with
  | zero => intro i5 i6 σ h; exact h.elim
  | succ n ih =>
    intro i5 i6 σ h
    unfold x7_who_71 at h
    refine r_iload 6 hc dX7_who_71 rfl ?_
    refine r_bipush (v := 6) hc dX7_who_73 (by decide) ?_
    refine r_icmp_ge 189 hc dX7_who_75 (by decide) h (fun h => ?_) (fun h => ?_)
    · refine r_aload_n 0 hc dX7_who_189 rfl ?_
      refine r_iload 5 hc dX7_who_190 rfl ?_
      refine r_cvI [.int i5] hc dX7_who_192 cX7_68 (t7_done h) rfl (by decide) rfl rfl rfl rfl (Nat.le_of_ble_eq_true rfl) (by decide) (by decide) (fun r11 σ12 h => ?_)
      exact r_iret hc dX7_who_195 h
    · refine r_aload_n 0 hc dX7_who_78 rfl ?_
      refine r_get (K := 7) (f := 12) hc dX7_who_79 fX7_22 inX7 rfl rfl (by decide) (by decide) rfl rfl ?_
      refine r_iconst (v := 0) hc dX7_who_82 (by decide) ?_
      refine r_aload_n 0 hc dX7_who_83 rfl ?_
      refine r_get (K := 7) (f := 14) hc dX7_who_84 fX7_28 inX7 rfl rfl (by decide) (by decide) rfl rfl ?_
      refine r_iconst (v := 0) hc dX7_who_87 (by decide) ?_
      refine r_csV [aK κ 70, .int 0, aK κ 72, .int 0] hc dX7_who_88 cX7_126 (t7_lay rfl rfl h) rfl rfl rfl (Nat.le_of_ble_eq_true rfl) (by decide) (by decide) (fun σ14 h => ?_)
      refine r_aload_n 0 hc dX7_who_91 rfl ?_
      refine r_get (K := 7) (f := 14) hc dX7_who_92 fX7_28 inX7 rfl rfl (by decide) (by decide) rfl rfl ?_
      refine r_bipush (v := 29) hc dX7_who_95 (by decide) ?_
      refine r_iload_n 1 hc dX7_who_97 rfl ?_
      refine r_iadd hc dX7_who_98 ?_
      refine r_iload 6 hc dX7_who_99 rfl ?_
      refine r_iast hc dX7_who_101 rfl h (fun h => ?_)
      refine r_nmS h (fun σ15 h => ?_)
      refine r_iconst (v := 1) hc dX7_who_102 (by decide) ?_
      refine r_istore (lv' := [(7, .int 1), (0, aK κ 65), (1, .int i1), (2, .int i2), (3, .int i3), (4, .int i4), (5, .int i5), (6, .int i6)]) hc dX7_who_103 (by decide) rfl ?_
      refine r_iconst (v := 0) hc dX7_who_105 (by decide) ?_
      refine r_istore (lv' := [(8, .int 0), (7, .int 1), (0, aK κ 65), (1, .int i1), (2, .int i2), (3, .int i3), (4, .int i4), (5, .int i5), (6, .int i6)]) hc dX7_who_106 (by decide) rfl ?_
      refine r_sub [2, 3, 4, 5, 6, 7, 8, 1, 0] rfl ?_
      obtain ⟨n0, h⟩ := h
      exact u7_who_108 hc ih n0 _ _ _ _ _ h
set_option maxRecDepth 100000 in
set_option maxHeartbeats 4000000 in
theorem t7_who {l : Launch} {i1 : Int32} {i2 : Int32} {i3 : Int32} {i4 : Int32} {σ : St} {k : Int32 → St → Prop}  (h : x7_who i1 i2 i3 i4 σ k) : CI l yX7_who cX7_who 10 6 (some .int) (fun ad => [.ref (ad 65), .int i1, .int i2, .int i3, .int i4]) σ k := by
  refine CI.of (lv := fun ad => [(0, .ref (ad 65)), (1, .int i1), (2, .int i2), (3, .int i3), (4, .int i4)]) (by decide) (fun _ => Nat.le_of_ble_eq_true rfl) (fun _ => rfl) (fun κ hc => ?_)
  show Wd κ 10 (QI κ k) 0 [(0, aK κ 65), (1, .int i1), (2, .int i2), (3, .int i3), (4, .int i4)] [] σ
  unfold x7_who at h
  refine r_aload_n 0 hc dX7_who_0 rfl ?_
  refine r_iload_n 1 hc dX7_who_1 rfl ?_
  refine r_cvI [.int i1] hc dX7_who_2 cX7_185 (t7_isOne h) rfl (by decide) rfl rfl rfl rfl (Nat.le_of_ble_eq_true rfl) (by decide) (by decide) (fun r1 σ2 h => ?_)
  refine r_if_eq 26 hc dX7_who_5 (by decide) h (fun h => ?_) (fun h => ?_)
  · exact u7_who_26 hc h
  · refine r_iload_n 2 hc dX7_who_8 rfl ?_
    refine r_csI [.int i2] hc dX7_who_9 cX7_59 (t7_isRow h) rfl rfl rfl (Nat.le_of_ble_eq_true rfl) (by decide) (by decide) (fun r3 σ4 h => ?_)
    refine r_if_eq 26 hc dX7_who_12 (by decide) h (fun h => ?_) (fun h => ?_)
    · exact u7_who_26 hc h
    · refine r_iload 4 hc dX7_who_15 rfl ?_
      refine r_iconst (v := 1) hc dX7_who_17 (by decide) ?_
      refine r_bipush (v := 12) hc dX7_who_18 (by decide) ?_
      refine r_csI [.int i4, .int 1, .int 12] hc dX7_who_20 cX7_55 (t7_in h) rfl rfl rfl (Nat.le_of_ble_eq_true rfl) (by decide) (by decide) (fun r5 σ6 h => ?_)
      refine r_if_ne 29 hc dX7_who_23 (by decide) h (fun h => ?_) (fun h => ?_)
      · exact u7_who_26 hc h
      · refine r_aload_n 0 hc dX7_who_29 rfl ?_
        refine r_get (K := 7) (f := 0) hc dX7_who_30 fX7_7 inX7 rfl rfl (by decide) (by decide) rfl rfl ?_
        refine r_iload_n 2 hc dX7_who_33 rfl ?_
        refine r_iald hc dX7_who_34 rfl h (fun h => ?_)
        refine r_if_ge 44 hc dX7_who_35 (by decide) h (fun h => ?_) (fun h => ?_)
        · refine r_iload_n 3 hc dX7_who_44 rfl ?_
          refine r_iload 4 hc dX7_who_45 rfl ?_
          refine r_aload_n 0 hc dX7_who_47 rfl ?_
          refine r_get (K := 7) (f := 1) hc dX7_who_48 fX7_13 inX7 rfl rfl (by decide) (by decide) rfl rfl ?_
          refine r_iload_n 2 hc dX7_who_51 rfl ?_
          refine r_iald hc dX7_who_52 rfl h (fun h => ?_)
          refine r_csI [.int i3, .int i4, .int (σ6 67 i2.toNatClampNeg)] hc dX7_who_53 cX7_71 (t7_isPart h) rfl rfl rfl (Nat.le_of_ble_eq_true rfl) (by decide) (by decide) (fun r7 σ8 h => ?_)
          refine r_if_ne 65 hc dX7_who_56 (by decide) h (fun h => ?_) (fun h => ?_)
          · refine r_aload_n 0 hc dX7_who_59 rfl ?_
            refine r_iconst (v := 2) hc dX7_who_60 (by decide) ?_
            refine r_cvI [.int 2] hc dX7_who_61 cX7_64 (t7_finds h) rfl (by decide) rfl rfl rfl rfl (Nat.le_of_ble_eq_true rfl) (by decide) (by decide) (fun r9 σ10 h => ?_)
            exact r_iret hc dX7_who_64 h
          · refine r_iconst (v := 0) hc dX7_who_65 (by decide) ?_
            refine r_istore (lv' := [(5, .int 0), (0, aK κ 65), (1, .int i1), (2, .int i2), (3, .int i3), (4, .int i4)]) hc dX7_who_66 (by decide) rfl ?_
            refine r_iconst (v := 1) hc dX7_who_68 (by decide) ?_
            refine r_istore (lv' := [(6, .int 1), (5, .int 0), (0, aK κ 65), (1, .int i1), (2, .int i2), (3, .int i3), (4, .int i4)]) hc dX7_who_69 (by decide) rfl ?_
            refine r_sub [2, 3, 4, 5, 6, 1, 0] rfl ?_
            obtain ⟨n0, h⟩ := h
            exact u7_who_71 hc n0 _ _ _ h
        · refine r_aload_n 0 hc dX7_who_38 rfl ?_
          refine r_iconst (v := 1) hc dX7_who_39 (by decide) ?_
          refine r_cvI [.int 1] hc dX7_who_40 cX7_64 (t7_finds h) rfl (by decide) rfl rfl rfl rfl (Nat.le_of_ble_eq_true rfl) (by decide) (by decide) (fun r20 σ21 h => ?_)
          exact r_iret hc dX7_who_43 h
