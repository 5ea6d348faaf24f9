set_option maxRecDepth 100000 in
set_option maxHeartbeats 4000000 in
theorem u6_commonDivisor_34 {κ : KT} {k : Int32 → St → Prop} {i0 : Int32} {i1 : Int32}  {i2 : Int32} {σ : St}  (hc : Cx κ cX6_commonDivisor 6 RX6 1 (some .int))    (h : x6_commonDivisor_34 i0 i1 i2 σ k) : Wd κ 6 (QI κ k) 34 [(0, .int i0), (1, .int i1), (2, .int i2)] [] σ := by
  unfold x6_commonDivisor_34 at h
  refine r_iload_n 2 hc dX6_commonDivisor_34 rfl ?_
  exact r_iret hc dX6_commonDivisor_35 h
set_option maxRecDepth 100000 in
set_option maxHeartbeats 4000000 in
theorem u6_commonDivisor_7 {κ : KT} {k : Int32 → St → Prop} {i0 : Int32} {i1 : Int32}   (hc : Cx κ cX6_commonDivisor 6 RX6 1 (some .int))   : ∀ (n : Nat) (i2 : Int32) (i3 : Int32) (i4 : Int32) (σ : St), x6_commonDivisor_7 i0 i1 k n i2 i3 i4 σ → Wd κ 6 (QI κ k) 7 [(0, .int i0), (1, .int i1), (2, .int i2), (3, .int i3), (4, .int i4)] [] σ := by
  intro n
  induction n with
  | zero => intro i2 i3 i4 σ h; exact h.elim
  | succ n ih =>
    intro i2 i3 i4 σ h
    unfold x6_commonDivisor_7 at h
    refine r_iload 4 hc dX6_commonDivisor_7 rfl ?_
    refine r_bipush (v := 64) hc dX6_commonDivisor_9 (by decide) ?_
    refine r_icmp_ge 34 hc dX6_commonDivisor_11 (by decide) h (fun h => ?_) (fun h => ?_)
    · refine r_sub [0, 1, 2] rfl ?_
      exact u6_commonDivisor_34 hc h
    · refine r_iload_n 3 hc dX6_commonDivisor_14 rfl ?_
      refine r_if_eq 34 hc dX6_commonDivisor_15 (by decide) h (fun h => ?_) (fun h => ?_)
      · refine r_sub [0, 1, 2] rfl ?_
        exact u6_commonDivisor_34 hc h
      · refine r_iload_n 2 hc dX6_commonDivisor_18 rfl ?_
        refine r_iload_n 3 hc dX6_commonDivisor_19 rfl ?_
        refine r_irem hc dX6_commonDivisor_20 h (fun h => ?_)
        refine r_nmI h (fun v1 h => ?_)
        refine r_istore (lv' := [(5, .int v1), (0, .int i0), (1, .int i1), (2, .int i2), (3, .int i3), (4, .int i4)]) hc dX6_commonDivisor_21 (by decide) rfl ?_
        refine r_iload_n 4 hc dX6_commonDivisor_23 rfl ?_
        refine r_istore_n (lv' := [(2, .int i3), (5, .int v1), (0, .int i0), (1, .int i1), (3, .int i3), (4, .int i4)]) hc dX6_commonDivisor_24 (by decide) rfl ?_
        refine r_iload 1 hc dX6_commonDivisor_25 rfl ?_
        refine r_istore_n (lv' := [(3, .int v1), (2, .int i3), (5, .int v1), (0, .int i0), (1, .int i1), (4, .int i4)]) hc dX6_commonDivisor_27 (by decide) rfl ?_
        refine r_iinc (v := 1) (lv' := [(4, .int (i4 + 1)), (3, .int v1), (2, .int i3), (5, .int v1), (0, .int i0), (1, .int i1)]) 5 hc dX6_commonDivisor_28 rfl (by decide) (by decide) rfl ?_
        refine r_goto 7 hc dX6_commonDivisor_31 (by decide) ?_
        refine r_sub [4, 5, 2, 1, 0] rfl ?_
        exact ih _ _ _ _ h
set_option maxRecDepth 100000 in
set_option maxHeartbeats 4000000 in
theorem t6_commonDivisor {l : Launch} {i0 : Int32} {i1 : Int32} {σ : St} {k : Int32 → St → Prop}  (h : x6_commonDivisor i0 i1 σ k) : CI l yX6_commonDivisor cX6_commonDivisor 6 1 (some .int) (fun ad => [.int i0, .int i1]) σ k := by
  refine CI.of (lv := fun ad => [(0, .int i0), (1, .int i1)]) (by decide) (fun _ => Nat.le_of_ble_eq_true rfl) (fun _ => rfl) (fun κ hc => ?_)
  show Wd κ 6 (QI κ k) 0 [(0, .int i0), (1, .int i1)] [] σ
  unfold x6_commonDivisor at h
  refine r_iload_n 0 hc dX6_commonDivisor_0 rfl ?_
  refine r_istore_n (lv' := [(2, .int i0), (0, .int i0), (1, .int i1)]) hc dX6_commonDivisor_1 (by decide) rfl ?_
  refine r_iload_n 2 hc dX6_commonDivisor_2 rfl ?_
  refine r_istore_n (lv' := [(3, .int i1), (2, .int i0), (0, .int i0), (1, .int i1)]) hc dX6_commonDivisor_3 (by decide) rfl ?_
  refine r_iconst (v := 0) hc dX6_commonDivisor_4 (by decide) ?_
  refine r_istore (lv' := [(4, .int 0), (3, .int i1), (2, .int i0), (0, .int i0), (1, .int i1)]) hc dX6_commonDivisor_5 (by decide) rfl ?_
  refine r_sub [3, 4, 2, 1, 0] rfl ?_
  obtain ⟨n0, h⟩ := h
  exact u6_commonDivisor_7 hc n0 _ _ _ _ h
set_option maxRecDepth 100000 in
set_option maxHeartbeats 4000000 in
theorem u6_isRow_15 {κ : KT} {k : Int32 → St → Prop} {i0 : Int32}  {s0 : Int32} {σ : St}  (hc : Cx κ cX6_isRow 1 RX6 1 (some .boolean))    (h : x6_isRow_15 i0 s0 σ k) : Wd κ 1 (QI κ k) 15 [(0, .int i0)] [.int s0] σ := by
  unfold x6_isRow_15 at h
  exact r_zret hc dX6_isRow_15 h
set_option maxRecDepth 100000 in
set_option maxHeartbeats 4000000 in
theorem u6_isRow_14 {κ : KT} {k : Int32 → St → Prop} {i0 : Int32}   {σ : St}  (hc : Cx κ cX6_isRow 1 RX6 1 (some .boolean))    (h : x6_isRow_14 i0 σ k) : Wd κ 1 (QI κ k) 14 [(0, .int i0)] [] σ := by
  unfold x6_isRow_14 at h
  refine r_iconst (v := 0) hc dX6_isRow_14 (by decide) ?_
  exact u6_isRow_15 hc h
set_option maxRecDepth 100000 in
set_option maxHeartbeats 4000000 in
theorem t6_isRow {l : Launch} {i0 : Int32} {σ : St} {k : Int32 → St → Prop}  (h : x6_isRow i0 σ k) : CI l yX6_isRow cX6_isRow 1 1 (some .boolean) (fun ad => [.int i0]) σ k := by
  refine CI.of (lv := fun ad => [(0, .int i0)]) (by decide) (fun _ => Nat.le_of_ble_eq_true rfl) (fun _ => rfl) (fun κ hc => ?_)
  show Wd κ 1 (QI κ k) 0 [(0, .int i0)] [] σ
  unfold x6_isRow at h
  refine r_iload_n 0 hc dX6_isRow_0 rfl ?_
  refine r_if_lt 14 hc dX6_isRow_1 (by decide) h (fun h => ?_) (fun h => ?_)
  · exact u6_isRow_14 hc h
  · refine r_iload_n 0 hc dX6_isRow_4 rfl ?_
    refine r_bipush (v := 8) hc dX6_isRow_5 (by decide) ?_
    refine r_icmp_ge 14 hc dX6_isRow_7 (by decide) h (fun h => ?_) (fun h => ?_)
    · exact u6_isRow_14 hc h
    · refine r_iconst (v := 1) hc dX6_isRow_10 (by decide) ?_
      refine r_goto 15 hc dX6_isRow_11 (by decide) ?_
      exact u6_isRow_15 hc h
set_option maxRecDepth 100000 in
set_option maxHeartbeats 4000000 in
theorem u6_copy_14 {κ : KT} {k : Int32 → St → Prop} {i1 : Int32} {i2 : Int32} {i3 : Int32} {i4 : Int32} {i5 : Int32}   {σ : St}  (hc : Cx κ cX6_copy 8 RX6 2 (some .int))    (h : x6_copy_14 i1 i2 i3 i4 i5 σ k) : Wd κ 8 (QI κ k) 14 [(0, aK κ 0), (1, .int i1), (2, .int i2), (3, .int i3), (4, .int i4), (5, .int i5)] [] σ := by
  unfold x6_copy_14 at h
  refine r_ldc hc dX6_copy_14 kX6_69 ?_
  exact r_iret hc dX6_copy_16 h
set_option maxRecDepth 100000 in
set_option maxHeartbeats 4000000 in
theorem u6_copy_97 {κ : KT} {k : Int32 → St → Prop} {i1 : Int32} {i2 : Int32} {i3 : Int32} {i4 : Int32} {i5 : Int32}   {σ : St}  (hc : Cx κ cX6_copy 8 RX6 2 (some .int))    (h : x6_copy_97 i1 i2 i3 i4 i5 σ k) : Wd κ 8 (QI κ k) 97 [(0, aK κ 0), (1, .int i1), (2, .int i2), (3, .int i3), (4, .int i4), (5, .int i5)] [] σ := by
  unfold x6_copy_97 at h
  refine r_aload_n 0 hc dX6_copy_97 rfl ?_
  refine r_iconst (v := 2) hc dX6_copy_98 (by decide) ?_
  refine r_cvI [.int 2] hc dX6_copy_99 cX6_70 (t6_found h) rfl (by decide) rfl rfl rfl rfl (Nat.le_of_ble_eq_true rfl) (by decide) (by decide) (fun r13 σ14 h => ?_)
  exact r_iret hc dX6_copy_102 h
set_option maxRecDepth 100000 in
set_option maxHeartbeats 4000000 in
theorem u6_copy_49 {κ : KT} {k : Int32 → St → Prop} {i1 : Int32} {i2 : Int32} {i3 : Int32} {i4 : Int32} {i5 : Int32}   {σ : St}  (hc : Cx κ cX6_copy 8 RX6 2 (some .int))    (h : x6_copy_49 i1 i2 i3 i4 i5 σ k) : Wd κ 8 (QI κ k) 49 [(0, aK κ 0), (1, .int i1), (2, .int i2), (3, .int i3), (4, .int i4), (5, .int i5)] [] σ := by
  unfold x6_copy_49 at h
  refine r_aload_n 0 hc dX6_copy_49 rfl ?_
  refine r_iconst (v := 1) hc dX6_copy_50 (by decide) ?_
  refine r_cvI [.int 1] hc dX6_copy_51 cX6_70 (t6_found h) rfl (by decide) rfl rfl rfl rfl (Nat.le_of_ble_eq_true rfl) (by decide) (by decide) (fun r22 σ23 h => ?_)
  exact r_iret hc dX6_copy_54 h
set_option maxRecDepth 100000 in
set_option maxHeartbeats 4000000 in
theorem t6_copy {l : Launch} {i1 : Int32} {i2 : Int32} {i3 : Int32} {i4 : Int32} {i5 : Int32} {σ : St} {k : Int32 → St → Prop}  (h : x6_copy i1 i2 i3 i4 i5 σ k) : CI l yX6_copy cX6_copy 8 2 (some .int) (fun ad => [.ref (ad 0), .int i1, .int i2, .int i3, .int i4, .int i5]) σ k := by
  refine CI.of (lv := fun ad => [(0, .ref (ad 0)), (1, .int i1), (2, .int i2), (3, .int i3), (4, .int i4), (5, .int i5)]) (by decide) (fun _ => Nat.le_of_ble_eq_true rfl) (fun _ => rfl) (fun κ hc => ?_)
  show Wd κ 8 (QI κ k) 0 [(0, aK κ 0), (1, .int i1), (2, .int i2), (3, .int i3), (4, .int i4), (5, .int i5)] [] σ
  unfold x6_copy at h
  refine r_iload_n 1 hc dX6_copy_0 rfl ?_
  refine r_csI [.int i1] hc dX6_copy_1 cX6_65 (t6_isRow h) rfl rfl rfl (Nat.le_of_ble_eq_true rfl) (by decide) (by decide) (fun r1 σ2 h => ?_)
  refine r_if_eq 14 hc dX6_copy_4 (by decide) h (fun h => ?_) (fun h => ?_)
  · exact u6_copy_14 hc h
  · refine r_iload_n 3 hc dX6_copy_7 rfl ?_
    refine r_csI [.int i3] hc dX6_copy_8 cX6_65 (t6_isRow h) rfl rfl rfl (Nat.le_of_ble_eq_true rfl) (by decide) (by decide) (fun r3 σ4 h => ?_)
    refine r_if_ne 17 hc dX6_copy_11 (by decide) h (fun h => ?_) (fun h => ?_)
    · exact u6_copy_14 hc h
    · refine r_aload_n 0 hc dX6_copy_17 rfl ?_
      refine r_get (K := 6) (f := 0) hc dX6_copy_18 fX6_11 inX6 rfl rfl (by decide) (by decide) rfl rfl ?_
      refine r_iload_n 1 hc dX6_copy_21 rfl ?_
      have hk5 := k_row h.1
      refine r_rows hc dX6_copy_22 h (fun h => ?_)
      refine r_astore (lv' := [(6, aK κ (2 + 2 * i1.toNatClampNeg)), (0, aK κ 0), (1, .int i1), (2, .int i2), (3, .int i3), (4, .int i4), (5, .int i5)]) hc dX6_copy_23 (by decide) rfl ?_
      refine r_aload_n 1 hc dX6_copy_25 rfl ?_
      refine r_get (K := 6) (f := 0) hc dX6_copy_26 fX6_11 inX6 rfl rfl (by decide) (by decide) rfl rfl ?_
      refine r_iload_n 4 hc dX6_copy_29 rfl ?_
      have hk6 := k_row h.1
      refine r_rows hc dX6_copy_30 h (fun h => ?_)
      refine r_astore (lv' := [(7, aK κ (2 + 2 * i3.toNatClampNeg)), (6, aK κ (2 + 2 * i1.toNatClampNeg)), (0, aK κ 0), (1, .int i1), (2, .int i2), (3, .int i3), (4, .int i4), (5, .int i5)]) hc dX6_copy_31 (by decide) rfl ?_
      refine r_aload 1 hc dX6_copy_33 rfl ?_
      refine r_cvI [] hc dX6_copy_35 cX6_92 (t4_isMissing hk5 h) rfl (by decide) hk5 rfl rfl rfl (Nat.le_of_ble_eq_true rfl) (by decide) (by decide) (fun r7 σ8 h => ?_)
      refine r_if_ne 49 hc dX6_copy_38 (by decide) h (fun h => ?_) (fun h => ?_)
      · refine r_aload 0 hc dX6_copy_41 rfl ?_
        refine r_cvI [] hc dX6_copy_43 cX6_92 (t4_isMissing hk6 h) rfl (by decide) hk6 rfl rfl rfl (Nat.le_of_ble_eq_true rfl) (by decide) (by decide) (fun r9 σ10 h => ?_)
        refine r_if_eq 55 hc dX6_copy_46 (by decide) h (fun h => ?_) (fun h => ?_)
        · refine r_aload 1 hc dX6_copy_55 rfl ?_
          refine r_get (K := 4) (f := 1) hc dX6_copy_57 fX6_96 inX4 rfl rfl (by decide) (by decide) hk5 rfl ?_
          refine r_aload 0 hc dX6_copy_60 rfl ?_
          refine r_get (K := 4) (f := 1) hc dX6_copy_62 fX6_96 inX4 rfl rfl (by decide) (by decide) hk6 rfl ?_
          refine r_icmp_eq 74 hc dX6_copy_65 (by decide) h (fun h => ?_) (fun h => ?_)
          · refine r_aload 1 hc dX6_copy_74 rfl ?_
            refine r_iload_n 4 hc dX6_copy_76 rfl ?_
            refine r_iload 7 hc dX6_copy_77 rfl ?_
            refine r_cvI [.int i2, .int i5] hc dX6_copy_79 cX6_99 (t4_spans hk5 h) rfl (by decide) hk5 rfl rfl rfl (Nat.le_of_ble_eq_true rfl) (by decide) (by decide) (fun r11 σ12 h => ?_)
            refine r_if_eq 97 hc dX6_copy_82 (by decide) h (fun h => ?_) (fun h => ?_)
            · refine r_sub [2, 3, 4, 5, 6, 7] rfl ?_
              exact u6_copy_97 hc h
            · refine r_aload 0 hc dX6_copy_85 rfl ?_
              refine r_iload 6 hc dX6_copy_87 rfl ?_
              refine r_iload 7 hc dX6_copy_89 rfl ?_
              refine r_cvI [.int i4, .int i5] hc dX6_copy_91 cX6_99 (t4_spans hk6 h) rfl (by decide) hk6 rfl rfl rfl (Nat.le_of_ble_eq_true rfl) (by decide) (by decide) (fun r15 σ16 h => ?_)
              refine r_if_ne 103 hc dX6_copy_94 (by decide) h (fun h => ?_) (fun h => ?_)
              · refine r_sub [2, 3, 4, 5, 6, 7] rfl ?_
                exact u6_copy_97 hc h
              · refine r_aload 1 hc dX6_copy_103 rfl ?_
                refine r_get (K := 4) (f := 0) hc dX6_copy_105 fX6_85 inX4 rfl rfl (by decide) (by decide) hk5 rfl ?_
                refine r_iload_n 4 hc dX6_copy_108 rfl ?_
                refine r_aload 0 hc dX6_copy_109 rfl ?_
                refine r_get (K := 4) (f := 0) hc dX6_copy_111 fX6_85 inX4 rfl rfl (by decide) (by decide) hk6 rfl ?_
                refine r_iload 6 hc dX6_copy_114 rfl ?_
                refine r_iload 7 hc dX6_copy_116 rfl ?_
                refine r_cpy hc dX6_copy_118 mX6_103 wNat_cpy wStat_cpy wIni_Sys (k4_1 hk5) (k4_1 hk6) (by decide) (Nat.le_of_ble_eq_true rfl) h (fun h => ?_)
                refine r_nmS h (fun σ17 h => ?_)
                refine r_aload_n 2 hc dX6_copy_121 rfl ?_
                refine r_iload 7 hc dX6_copy_122 rfl ?_
                refine r_cvI [.int i5] hc dX6_copy_124 cX6_78 (t6_foundNone h) rfl (by decide) rfl rfl rfl rfl (Nat.le_of_ble_eq_true rfl) (by decide) (by decide) (fun r18 σ19 h => ?_)
                exact r_iret hc dX6_copy_127 h
          · refine r_aload_n 2 hc dX6_copy_68 rfl ?_
            refine r_iconst (v := 5) hc dX6_copy_69 (by decide) ?_
            refine r_cvI [.int 5] hc dX6_copy_70 cX6_70 (t6_found h) rfl (by decide) rfl rfl rfl rfl (Nat.le_of_ble_eq_true rfl) (by decide) (by decide) (fun r20 σ21 h => ?_)
            exact r_iret hc dX6_copy_73 h
        · refine r_sub [2, 3, 4, 5, 6, 7] rfl ?_
          exact u6_copy_49 hc h
      · refine r_sub [2, 3, 4, 5, 6, 7] rfl ?_
        exact u6_copy_49 hc h
set_option maxRecDepth 100000 in
set_option maxHeartbeats 4000000 in
theorem u6_rowsThere_25 {κ : KT} {k : Int32 → St → Prop}  {R4 : Int32 → Int32 → St → Prop} {i1 : Int32} {i2 : Int32} {σ : St}  (hc : Cx κ cX6_rowsThere 3 RX6 2 (some .int))  (hR4 : ∀ (i1 : Int32) (i2 : Int32) (σ : St), R4 i1 i2 σ → Wd κ 3 (QI κ k) 4 [(0, aK κ 0), (1, .int i1), (2, .int i2)] [] σ)  (h : x6_rowsThere_25 R4 i1 i2 σ k) : Wd κ 3 (QI κ k) 25 [(0, aK κ 0), (1, .int i1), (2, .int i2)] [] σ := by
  unfold x6_rowsThere_25 at h
  refine r_iinc (v := 1) (lv' := [(2, .int (i2 + 1)), (0, aK κ 0), (1, .int i1)]) 2 hc dX6_rowsThere_25 rfl (by decide) (by decide) rfl ?_
  refine r_goto 4 hc dX6_rowsThere_28 (by decide) ?_
  refine r_sub [1, 2, 0] rfl ?_
  exact hR4 _ _ _ h
set_option maxRecDepth 100000 in
set_option maxHeartbeats 4000000 in
theorem u6_rowsThere_4 {κ : KT} {k : Int32 → St → Prop}    (hc : Cx κ cX6_rowsThere 3 RX6 2 (some .int))   : ∀ (n : Nat) (i1 : Int32) (i2 : Int32) (σ : St), x6_rowsThere_4 k n i1 i2 σ → Wd κ 3 (QI κ k) 4 [(0, aK κ 0), (1, .int i1), (2, .int i2)] [] σ := by
  intro n
  induction n with
  | zero => intro i1 i2 σ h; exact h.elim
  | succ n ih =>
    intro i1 i2 σ h
    unfold x6_rowsThere_4 at h
    refine r_iload_n 2 hc dX6_rowsThere_4 rfl ?_
    refine r_bipush (v := 8) hc dX6_rowsThere_5 (by decide) ?_
    refine r_icmp_ge 31 hc dX6_rowsThere_7 (by decide) h (fun h => ?_) (fun h => ?_)
    · refine r_iload_n 1 hc dX6_rowsThere_31 rfl ?_
      exact r_iret hc dX6_rowsThere_32 h
    · refine r_aload_n 0 hc dX6_rowsThere_10 rfl ?_
      refine r_get (K := 6) (f := 0) hc dX6_rowsThere_11 fX6_11 inX6 rfl rfl (by decide) (by decide) rfl rfl ?_
      refine r_iload_n 2 hc dX6_rowsThere_14 rfl ?_
      have hk1 := k_row h.1
      refine r_rows hc dX6_rowsThere_15 h (fun h => ?_)
      refine r_cvI [] hc dX6_rowsThere_16 cX6_92 (t4_isMissing hk1 h) rfl (by decide) hk1 rfl rfl rfl (Nat.le_of_ble_eq_true rfl) (by decide) (by decide) (fun r2 σ3 h => ?_)
      refine r_if_ne 25 hc dX6_rowsThere_19 (by decide) h (fun h => ?_) (fun h => ?_)
      · refine r_iinc (v := 1) (lv' := [(1, .int (i1 + 1)), (0, aK κ 0), (2, .int i2)]) 1 hc dX6_rowsThere_22 rfl (by decide) (by decide) rfl ?_
        refine r_sub [1, 0, 2] rfl ?_
        exact u6_rowsThere_25 hc ih h
      · exact u6_rowsThere_25 hc ih h
set_option maxRecDepth 100000 in
set_option maxHeartbeats 4000000 in
theorem t6_rowsThere {l : Launch}  {σ : St} {k : Int32 → St → Prop}  (h : x6_rowsThere  σ k) : CI l yX6_rowsThere cX6_rowsThere 3 2 (some .int) (fun ad => [.ref (ad 0)]) σ k := by
  refine CI.of (lv := fun ad => [(0, .ref (ad 0))]) (by decide) (fun _ => Nat.le_of_ble_eq_true rfl) (fun _ => rfl) (fun κ hc => ?_)
  show Wd κ 3 (QI κ k) 0 [(0, aK κ 0)] [] σ
  unfold x6_rowsThere at h
  refine r_iconst (v := 0) hc dX6_rowsThere_0 (by decide) ?_
  refine r_istore_n (lv' := [(1, .int 0), (0, aK κ 0)]) hc dX6_rowsThere_1 (by decide) rfl ?_
  refine r_iconst (v := 0) hc dX6_rowsThere_2 (by decide) ?_
  refine r_istore_n (lv' := [(2, .int 0), (1, .int 0), (0, aK κ 0)]) hc dX6_rowsThere_3 (by decide) rfl ?_
  refine r_sub [2, 1, 0] rfl ?_
  obtain ⟨n0, h⟩ := h
  exact u6_rowsThere_4 hc n0 _ _ _ h
set_option maxRecDepth 100000 in
set_option maxHeartbeats 4000000 in
theorem t6_count {l : Launch} {i1 : Int32} {σ : St} {k : Int32 → St → Prop}  (h : x6_count i1 σ k) : CI l yX6_count cX6_count 2 3 (some .int) (fun ad => [.ref (ad 0), .int i1]) σ k := by
  refine CI.of (lv := fun ad => [(0, .ref (ad 0)), (1, .int i1)]) (by decide) (fun _ => Nat.le_of_ble_eq_true rfl) (fun _ => rfl) (fun κ hc => ?_)
  show Wd κ 2 (QI κ k) 0 [(0, aK κ 0), (1, .int i1)] [] σ
  unfold x6_count at h
  refine r_iload_n 1 hc dX6_count_0 rfl ?_
  by_cases hq1_0 : i1 = 0
  · rw [if_pos hq1_0] at h
    refine r_tswIn 0 52 hc dX6_count_1 hq1_0 (by decide) (by decide) rfl (by decide) ?_
    refine r_aload_n 0 hc dX6_count_52 rfl ?_
    refine r_cvI [] hc dX6_count_53 cX6_314 (t6_rowsThere h) rfl (by decide) rfl rfl rfl rfl (Nat.le_of_ble_eq_true rfl) (by decide) (by decide) (fun r1 σ2 h => ?_)
    exact r_iret hc dX6_count_56 h
  · rw [if_neg hq1_0] at h
    by_cases hq1_1 : i1 = 1
    · rw [if_pos hq1_1] at h
      refine r_tswIn 1 57 hc dX6_count_1 hq1_1 (by decide) (by decide) rfl (by decide) ?_
      refine r_aload_n 0 hc dX6_count_57 rfl ?_
      refine r_get (K := 6) (f := 2) hc dX6_count_58 fX6_22 inX6 rfl rfl (by decide) (by decide) rfl rfl ?_
      refine r_get (K := 5) (f := 8) hc dX6_count_61 fX6_317 inX5 rfl rfl (by decide) (by decide) rfl rfl ?_
      exact r_iret hc dX6_count_64 h
    · rw [if_neg hq1_1] at h
      by_cases hq1_2 : i1 = 2
      · rw [if_pos hq1_2] at h
        refine r_tswIn 2 65 hc dX6_count_1 hq1_2 (by decide) (by decide) rfl (by decide) ?_
        refine r_aload_n 0 hc dX6_count_65 rfl ?_
        refine r_get (K := 6) (f := 2) hc dX6_count_66 fX6_22 inX6 rfl rfl (by decide) (by decide) rfl rfl ?_
        refine r_get (K := 5) (f := 9) hc dX6_count_69 fX6_137 inX5 rfl rfl (by decide) (by decide) rfl rfl ?_
        exact r_iret hc dX6_count_72 h
      · rw [if_neg hq1_2] at h
        by_cases hq1_3 : i1 = 3
        · rw [if_pos hq1_3] at h
          refine r_tswIn 3 73 hc dX6_count_1 hq1_3 (by decide) (by decide) rfl (by decide) ?_
          refine r_aload_n 0 hc dX6_count_73 rfl ?_
          refine r_get (K := 6) (f := 2) hc dX6_count_74 fX6_22 inX6 rfl rfl (by decide) (by decide) rfl rfl ?_
          refine r_get (K := 5) (f := 10) hc dX6_count_77 fX6_157 inX5 rfl rfl (by decide) (by decide) rfl rfl ?_
          exact r_iret hc dX6_count_80 h
        · rw [if_neg hq1_3] at h
          by_cases hq1_4 : i1 = 4
          · rw [if_pos hq1_4] at h
            refine r_tswIn 4 81 hc dX6_count_1 hq1_4 (by decide) (by decide) rfl (by decide) ?_
            refine r_aload_n 0 hc dX6_count_81 rfl ?_
            refine r_get (K := 6) (f := 2) hc dX6_count_82 fX6_22 inX6 rfl rfl (by decide) (by decide) rfl rfl ?_
            refine r_get (K := 5) (f := 11) hc dX6_count_85 fX6_176 inX5 rfl rfl (by decide) (by decide) rfl rfl ?_
            exact r_iret hc dX6_count_88 h
          · rw [if_neg hq1_4] at h
            by_cases hq1_5 : i1 = 5
            · rw [if_pos hq1_5] at h
              refine r_tswIn 5 89 hc dX6_count_1 hq1_5 (by decide) (by decide) rfl (by decide) ?_
              refine r_aload_n 0 hc dX6_count_89 rfl ?_
              refine r_get (K := 6) (f := 2) hc dX6_count_90 fX6_22 inX6 rfl rfl (by decide) (by decide) rfl rfl ?_
              refine r_get (K := 5) (f := 12) hc dX6_count_93 fX6_182 inX5 rfl rfl (by decide) (by decide) rfl rfl ?_
              exact r_iret hc dX6_count_96 h
            · rw [if_neg hq1_5] at h
              by_cases hq1_6 : i1 = 6
              · rw [if_pos hq1_6] at h
                refine r_tswIn 6 97 hc dX6_count_1 hq1_6 (by decide) (by decide) rfl (by decide) ?_
                refine r_aload_n 0 hc dX6_count_97 rfl ?_
                refine r_get (K := 6) (f := 2) hc dX6_count_98 fX6_22 inX6 rfl rfl (by decide) (by decide) rfl rfl ?_
                refine r_cvI [] hc dX6_count_101 cX6_320 (t5_metsAdded rfl h) rfl (by decide) rfl rfl rfl rfl (Nat.le_of_ble_eq_true rfl) (by decide) (by decide) (fun r3 σ4 h => ?_)
                exact r_iret hc dX6_count_104 h
              · rw [if_neg hq1_6] at h
                by_cases hq1_7 : i1 = 7
                · rw [if_pos hq1_7] at h
                  refine r_tswIn 7 105 hc dX6_count_1 hq1_7 (by decide) (by decide) rfl (by decide) ?_
                  refine r_aload_n 0 hc dX6_count_105 rfl ?_
                  refine r_get (K := 6) (f := 5) hc dX6_count_106 fX6_39 inX6 rfl rfl (by decide) (by decide) rfl rfl ?_
                  refine r_get (K := 0) (f := 4) hc dX6_count_109 fX6_140 inX0 rfl rfl (by decide) (by decide) rfl rfl ?_
                  exact r_iret hc dX6_count_112 h
                · rw [if_neg hq1_7] at h
                  by_cases hq1_8 : i1 = 8
                  · rw [if_pos hq1_8] at h
                    refine r_tswIn 8 113 hc dX6_count_1 hq1_8 (by decide) (by decide) rfl (by decide) ?_
                    refine r_aload_n 0 hc dX6_count_113 rfl ?_
                    refine r_get (K := 6) (f := 4) hc dX6_count_114 fX6_32 inX6 rfl rfl (by decide) (by decide) rfl rfl ?_
                    refine r_get (K := 3) (f := 1) hc dX6_count_117 fX6_115 inX3 rfl rfl (by decide) (by decide) rfl rfl ?_
                    exact r_iret hc dX6_count_120 h
                  · rw [if_neg hq1_8] at h
                    refine r_tswOut 121 hc dX6_count_1 (by have a0 := lv_neT hq1_0 (a := 0) (by decide); have a1 := lv_neT hq1_1 (a := 1) (by decide); have a2 := lv_neT hq1_2 (a := 2) (by decide); have a3 := lv_neT hq1_3 (a := 3) (by decide); have a4 := lv_neT hq1_4 (a := 4) (by decide); have a5 := lv_neT hq1_5 (a := 5) (by decide); have a6 := lv_neT hq1_6 (a := 6) (by decide); have a7 := lv_neT hq1_7 (a := 7) (by decide); have a8 := lv_neT hq1_8 (a := 8) (by decide); omega) (by decide) ?_
                    refine r_ldc hc dX6_count_121 kX6_69 ?_
                    exact r_iret hc dX6_count_123 h
set_option maxRecDepth 100000 in
set_option maxHeartbeats 4000000 in
theorem u6_days_24 {κ : KT} {k : Int32 → St → Prop} {i1 : Int32}   {σ : St}  (hc : Cx κ cX6_days 4 RX6 7 (some .int))    (h : x6_days_24 i1 σ k) : Wd κ 4 (QI κ k) 24 [(0, aK κ 0), (1, .int i1)] [] σ := by
  unfold x6_days_24 at h
  refine r_ldc hc dX6_days_24 kX6_69 ?_
  exact r_iret hc dX6_days_26 h
set_option maxRecDepth 100000 in
set_option maxHeartbeats 4000000 in
theorem u6_days_49 {κ : KT} {k : Int32 → St → Prop} {i1 : Int32}   (hc : Cx κ cX6_days 4 RX6 7 (some .int))   : ∀ (n : Nat) (i2 : Int32) (i3 : Int32) (σ : St), x6_days_49 i1 k n i2 i3 σ → Wd κ 4 (QI κ k) 49 [(0, aK κ 0), (1, .int i1), (2, .int i2), (3, .int i3)] [] σ := by
  intro n
  induction n with
  | zero => intro i2 i3 σ h; exact h.elim
  | succ n ih =>
    intro i2 i3 σ h
    unfold x6_days_49 at h
    refine r_iload_n 3 hc dX6_days_49 rfl ?_
    refine r_iload_n 1 hc dX6_days_50 rfl ?_
    refine r_icmp_ge 78 hc dX6_days_51 (by decide) h (fun h => ?_) (fun h => ?_)
    · refine r_iload_n 2 hc dX6_days_78 rfl ?_
      exact r_iret hc dX6_days_79 h
    · refine r_aload_n 0 hc dX6_days_54 rfl ?_
      refine r_get (K := 6) (f := 2) hc dX6_days_55 fX6_22 inX6 rfl rfl (by decide) (by decide) rfl rfl ?_
      refine r_cvI [] hc dX6_days_58 cX6_185 (t5_passDay rfl h) rfl (by decide) rfl rfl rfl rfl (Nat.le_of_ble_eq_true rfl) (by decide) (by decide) (fun r3 σ4 h => ?_)
      refine r_istore_n (lv' := [(2, .int r3), (0, aK κ 0), (1, .int i1), (3, .int i3)]) hc dX6_days_61 (by decide) rfl ?_
      refine r_aload_n 1 hc dX6_days_62 rfl ?_
      refine r_get (K := 6) (f := 5) hc dX6_days_63 fX6_39 inX6 rfl rfl (by decide) (by decide) rfl rfl ?_
      refine r_iconst (v := 3) hc dX6_days_66 (by decide) ?_
      refine r_iconst (v := 0) hc dX6_days_67 (by decide) ?_
      refine r_iload_n 0 hc dX6_days_68 rfl ?_
      refine r_cvV [.int 3, .int 0, .int r3] hc dX6_days_69 cX6_160 (t0_keep h) rfl (by decide) rfl rfl rfl rfl (Nat.le_of_ble_eq_true rfl) (by decide) (by decide) (fun σ6 h => ?_)
      refine r_iinc (v := 1) (lv' := [(3, .int (i3 + 1)), (2, .int r3), (0, aK κ 0), (1, .int i1)]) 3 hc dX6_days_72 rfl (by decide) (by decide) rfl ?_
      refine r_goto 49 hc dX6_days_75 (by decide) ?_
      refine r_sub [2, 3, 1, 0] rfl ?_
      exact ih _ _ _ h
set_option maxRecDepth 100000 in
set_option maxHeartbeats 4000000 in
theorem t6_days {l : Launch} {i1 : Int32} {σ : St} {k : Int32 → St → Prop}  (h : x6_days i1 σ k) : CI l yX6_days cX6_days 4 7 (some .int) (fun ad => [.ref (ad 0), .int i1]) σ k := by
  refine CI.of (lv := fun ad => [(0, .ref (ad 0)), (1, .int i1)]) (by decide) (fun _ => Nat.le_of_ble_eq_true rfl) (fun _ => rfl) (fun κ hc => ?_)
  show Wd κ 4 (QI κ k) 0 [(0, aK κ 0), (1, .int i1)] [] σ
  unfold x6_days at h
  refine r_aload_n 0 hc dX6_days_0 rfl ?_
  refine r_get (K := 6) (f := 2) hc dX6_days_1 fX6_22 inX6 rfl rfl (by decide) (by decide) rfl rfl ?_
  refine r_cvI [] hc dX6_days_4 cX6_179 (t5_isTold rfl h) rfl (by decide) rfl rfl rfl rfl (Nat.le_of_ble_eq_true rfl) (by decide) (by decide) (fun r1 σ2 h => ?_)
  refine r_if_ne 13 hc dX6_days_7 (by decide) h (fun h => ?_) (fun h => ?_)
  · refine r_ldc hc dX6_days_10 kX6_143 ?_
    exact r_iret hc dX6_days_12 h
  · refine r_iload_n 1 hc dX6_days_13 rfl ?_
    refine r_iconst (v := 1) hc dX6_days_14 (by decide) ?_
    refine r_icmp_lt 24 hc dX6_days_15 (by decide) h (fun h => ?_) (fun h => ?_)
    · exact u6_days_24 hc h
    · refine r_iload_n 1 hc dX6_days_18 rfl ?_
      refine r_bipush (v := 24) hc dX6_days_19 (by decide) ?_
      refine r_icmp_le 27 hc dX6_days_21 (by decide) h (fun h => ?_) (fun h => ?_)
      · refine r_aload_n 0 hc dX6_days_27 rfl ?_
        refine r_get (K := 6) (f := 2) hc dX6_days_28 fX6_22 inX6 rfl rfl (by decide) (by decide) rfl rfl ?_
        refine r_get (K := 5) (f := 12) hc dX6_days_31 fX6_182 inX5 rfl rfl (by decide) (by decide) rfl rfl ?_
        refine r_iload_n 1 hc dX6_days_34 rfl ?_
        refine r_iadd hc dX6_days_35 ?_
        refine r_sipush (v := 999) hc dX6_days_36 (by decide) ?_
        refine r_icmp_le 45 hc dX6_days_39 (by decide) h (fun h => ?_) (fun h => ?_)
        · refine r_iconst (v := 0) hc dX6_days_45 (by decide) ?_
          refine r_istore_n (lv' := [(2, .int 0), (0, aK κ 0), (1, .int i1)]) hc dX6_days_46 (by decide) rfl ?_
          refine r_iconst (v := 0) hc dX6_days_47 (by decide) ?_
          refine r_istore_n (lv' := [(3, .int 0), (2, .int 0), (0, aK κ 0), (1, .int i1)]) hc dX6_days_48 (by decide) rfl ?_
          refine r_sub [2, 3, 1, 0] rfl ?_
          obtain ⟨n0, h⟩ := h
          exact u6_days_49 hc n0 _ _ _ h
        · refine r_ldc hc dX6_days_42 kX6_118 ?_
          exact r_iret hc dX6_days_44 h
      · exact u6_days_24 hc h
set_option maxRecDepth 100000 in
set_option maxHeartbeats 4000000 in
theorem t6_door {l : Launch} {i1 : Int32} {i2 : Int32} {σ : St} {k : Int32 → St → Prop}  (h : x6_door i1 i2 σ k) : CI l yX6_door cX6_door 3 4 (some .int) (fun ad => [.ref (ad 0), .int i1, .int i2]) σ k := by
  refine CI.of (lv := fun ad => [(0, .ref (ad 0)), (1, .int i1), (2, .int i2)]) (by decide) (fun _ => Nat.le_of_ble_eq_true rfl) (fun _ => rfl) (fun κ hc => ?_)
  show Wd κ 3 (QI κ k) 0 [(0, aK κ 0), (1, .int i1), (2, .int i2)] [] σ
  unfold x6_door at h
  refine r_aload_n 0 hc dX6_door_0 rfl ?_
  refine r_get (K := 6) (f := 2) hc dX6_door_1 fX6_22 inX6 rfl rfl (by decide) (by decide) rfl rfl ?_
  refine r_iload_n 1 hc dX6_door_4 rfl ?_
  refine r_cvI [.int i1] hc dX6_door_5 cX6_147 (t5_hasDoor rfl h) rfl (by decide) rfl rfl rfl rfl (Nat.le_of_ble_eq_true rfl) (by decide) (by decide) (fun r1 σ2 h => ?_)
  refine r_if_ne 14 hc dX6_door_8 (by decide) h (fun h => ?_) (fun h => ?_)
  · refine r_ldc hc dX6_door_11 kX6_69 ?_
    exact r_iret hc dX6_door_13 h
  · refine r_iload_n 2 hc dX6_door_14 rfl ?_
    by_cases hq15_0 : i2 = 0
    · rw [if_pos hq15_0] at h
      refine r_tswIn 0 56 hc dX6_door_15 hq15_0 (by decide) (by decide) rfl (by decide) ?_
      refine r_aload_n 0 hc dX6_door_56 rfl ?_
      refine r_get (K := 6) (f := 2) hc dX6_door_57 fX6_22 inX6 rfl rfl (by decide) (by decide) rfl rfl ?_
      refine r_get (K := 5) (f := 0) hc dX6_door_60 fX6_188 inX5 rfl rfl (by decide) (by decide) rfl rfl ?_
      refine r_iload_n 1 hc dX6_door_63 rfl ?_
      refine r_iald hc dX6_door_64 (k5_1 rfl) h (fun h => ?_)
      exact r_iret hc dX6_door_65 h
    · rw [if_neg hq15_0] at h
      by_cases hq15_1 : i2 = 1
      · rw [if_pos hq15_1] at h
        refine r_tswIn 1 66 hc dX6_door_15 hq15_1 (by decide) (by decide) rfl (by decide) ?_
        refine r_aload_n 0 hc dX6_door_66 rfl ?_
        refine r_get (K := 6) (f := 2) hc dX6_door_67 fX6_22 inX6 rfl rfl (by decide) (by decide) rfl rfl ?_
        refine r_get (K := 5) (f := 1) hc dX6_door_70 fX6_150 inX5 rfl rfl (by decide) (by decide) rfl rfl ?_
        refine r_iload_n 1 hc dX6_door_73 rfl ?_
        refine r_iald hc dX6_door_74 (k5_2 rfl) h (fun h => ?_)
        exact r_iret hc dX6_door_75 h
      · rw [if_neg hq15_1] at h
        by_cases hq15_2 : i2 = 2
        · rw [if_pos hq15_2] at h
          refine r_tswIn 2 76 hc dX6_door_15 hq15_2 (by decide) (by decide) rfl (by decide) ?_
          refine r_aload_n 0 hc dX6_door_76 rfl ?_
          refine r_get (K := 6) (f := 2) hc dX6_door_77 fX6_22 inX6 rfl rfl (by decide) (by decide) rfl rfl ?_
          refine r_get (K := 5) (f := 2) hc dX6_door_80 fX6_167 inX5 rfl rfl (by decide) (by decide) rfl rfl ?_
          refine r_iload_n 1 hc dX6_door_83 rfl ?_
          refine r_iald hc dX6_door_84 (k5_3 rfl) h (fun h => ?_)
          exact r_iret hc dX6_door_85 h
        · rw [if_neg hq15_2] at h
          by_cases hq15_3 : i2 = 3
          · rw [if_pos hq15_3] at h
            refine r_tswIn 3 86 hc dX6_door_15 hq15_3 (by decide) (by decide) rfl (by decide) ?_
            refine r_aload_n 0 hc dX6_door_86 rfl ?_
            refine r_get (K := 6) (f := 2) hc dX6_door_87 fX6_22 inX6 rfl rfl (by decide) (by decide) rfl rfl ?_
            refine r_get (K := 5) (f := 3) hc dX6_door_90 fX6_170 inX5 rfl rfl (by decide) (by decide) rfl rfl ?_
            refine r_iload_n 1 hc dX6_door_93 rfl ?_
            refine r_iald hc dX6_door_94 (k5_4 rfl) h (fun h => ?_)
            exact r_iret hc dX6_door_95 h
          · rw [if_neg hq15_3] at h
            by_cases hq15_4 : i2 = 4
            · rw [if_pos hq15_4] at h
              refine r_tswIn 4 96 hc dX6_door_15 hq15_4 (by decide) (by decide) rfl (by decide) ?_
              refine r_aload_n 0 hc dX6_door_96 rfl ?_
              refine r_get (K := 6) (f := 2) hc dX6_door_97 fX6_22 inX6 rfl rfl (by decide) (by decide) rfl rfl ?_
              refine r_iload_n 1 hc dX6_door_100 rfl ?_
              refine r_cvI [.int i1] hc dX6_door_101 cX6_191 (t5_heardAt rfl h) rfl (by decide) rfl rfl rfl rfl (Nat.le_of_ble_eq_true rfl) (by decide) (by decide) (fun r3 σ4 h => ?_)
              exact r_iret hc dX6_door_104 h
            · rw [if_neg hq15_4] at h
              by_cases hq15_5 : i2 = 5
              · rw [if_pos hq15_5] at h
                refine r_tswIn 5 105 hc dX6_door_15 hq15_5 (by decide) (by decide) rfl (by decide) ?_
                refine r_aload_n 0 hc dX6_door_105 rfl ?_
                refine r_get (K := 6) (f := 2) hc dX6_door_106 fX6_22 inX6 rfl rfl (by decide) (by decide) rfl rfl ?_
                refine r_iload_n 1 hc dX6_door_109 rfl ?_
                refine r_cvI [.int i1] hc dX6_door_110 cX6_194 (t5_opensBehind rfl h) rfl (by decide) rfl rfl rfl rfl (Nat.le_of_ble_eq_true rfl) (by decide) (by decide) (fun r5 σ6 h => ?_)
                exact r_iret hc dX6_door_113 h
              · rw [if_neg hq15_5] at h
                by_cases hq15_6 : i2 = 6
                · rw [if_pos hq15_6] at h
                  refine r_tswIn 6 114 hc dX6_door_15 hq15_6 (by decide) (by decide) rfl (by decide) ?_
                  refine r_aload_n 0 hc dX6_door_114 rfl ?_
                  refine r_get (K := 6) (f := 2) hc dX6_door_115 fX6_22 inX6 rfl rfl (by decide) (by decide) rfl rfl ?_
                  refine r_iload_n 1 hc dX6_door_118 rfl ?_
                  refine r_cvI [.int i1] hc dX6_door_119 cX6_197 (t5_callersAt rfl h) rfl (by decide) rfl rfl rfl rfl (Nat.le_of_ble_eq_true rfl) (by decide) (by decide) (fun r7 σ8 h => ?_)
                  exact r_iret hc dX6_door_122 h
                · rw [if_neg hq15_6] at h
                  refine r_tswOut 123 hc dX6_door_15 (by have a0 := lv_neT hq15_0 (a := 0) (by decide); have a1 := lv_neT hq15_1 (a := 1) (by decide); have a2 := lv_neT hq15_2 (a := 2) (by decide); have a3 := lv_neT hq15_3 (a := 3) (by decide); have a4 := lv_neT hq15_4 (a := 4) (by decide); have a5 := lv_neT hq15_5 (a := 5) (by decide); have a6 := lv_neT hq15_6 (a := 6) (by decide); omega) (by decide) ?_
                  refine r_ldc hc dX6_door_123 kX6_69 ?_
                  exact r_iret hc dX6_door_125 h
set_option maxRecDepth 100000 in
set_option maxHeartbeats 4000000 in
theorem u6_drawn_42 {κ : KT} {k : Int32 → St → Prop} {i1 : Int32} {i2 : Int32} {i3 : Int32}   {σ : St}  (hc : Cx κ cX6_drawn 8 RX6 7 (some .int))    (h : x6_drawn_42 i1 i2 i3 σ k) : Wd κ 8 (QI κ k) 42 [(0, aK κ 0), (1, .int i1), (2, .int i2), (3, .int i3)] [] σ := by
  unfold x6_drawn_42 at h
  refine r_ldc hc dX6_drawn_42 kX6_69 ?_
  exact r_iret hc dX6_drawn_44 h
set_option maxRecDepth 100000 in
set_option maxHeartbeats 4000000 in
theorem u6_drawn_130 {κ : KT} {k : Int32 → St → Prop} {i1 : Int32} {i2 : Int32} {i3 : Int32}  {s0 : Int32} {σ : St}  (hc : Cx κ cX6_drawn 8 RX6 7 (some .int))    (h : x6_drawn_130 i1 i2 i3 s0 σ k) : Wd κ 8 (QI κ k) 130 [(0, aK κ 0), (1, .int i1), (2, .int i2), (3, .int i3)] [.int s0] σ := by
  unfold x6_drawn_130 at h
  exact r_iret hc dX6_drawn_130 h
set_option maxRecDepth 100000 in
set_option maxHeartbeats 4000000 in
theorem u6_drawn_66 {κ : KT} {k : Int32 → St → Prop} {i1 : Int32} {i2 : Int32} {i3 : Int32}   (hc : Cx κ cX6_drawn 8 RX6 7 (some .int))   : ∀ (n : Nat) (i4 : Int32) (l5 : Int64) (i7 : Int32) (σ : St), x6_drawn_66 i1 i2 i3 k n i4 l5 i7 σ → Wd κ 8 (QI κ k) 66 [(0, aK κ 0), (1, .int i1), (2, .int i2), (3, .int i3), (4, .int i4), (5, .long l5), (7, .int i7)] [] σ := by
  intro n
  induction n with
  | zero => intro i4 l5 i7 σ h; exact h.elim
  | succ n ih =>
    intro i4 l5 i7 σ h
    unfold x6_drawn_66 at h
    refine r_iload 6 hc dX6_drawn_66 rfl ?_
    refine r_iload_n 1 hc dX6_drawn_68 rfl ?_
    refine r_icmp_ge 114 hc dX6_drawn_69 (by decide) h (fun h => ?_) (fun h => ?_)
    · refine r_iload_n 3 hc dX6_drawn_114 rfl ?_
      refine r_if_ne 123 hc dX6_drawn_115 (by decide) h (fun h => ?_) (fun h => ?_)
      · refine r_iload 4 hc dX6_drawn_118 rfl ?_
        refine r_goto 130 hc dX6_drawn_120 (by decide) ?_
        refine r_sub [0, 1, 2, 3] rfl ?_
        exact u6_drawn_130 hc h
      · refine r_aload_n 0 hc dX6_drawn_123 rfl ?_
        refine r_get (K := 6) (f := 3) hc dX6_drawn_124 fX6_26 inX6 rfl rfl (by decide) (by decide) rfl rfl ?_
        refine r_cvI [] hc dX6_drawn_127 cX6_298 (t5_placesAdded rfl h) rfl (by decide) rfl rfl rfl rfl (Nat.le_of_ble_eq_true rfl) (by decide) (by decide) (fun r8 σ9 h => ?_)
        refine r_sub [0, 1, 2, 3] rfl ?_
        exact u6_drawn_130 hc h
    · refine r_lload 5 hc dX6_drawn_72 rfl ?_
      refine r_ldc2 hc dX6_drawn_74 kX6_290 ?_
      refine r_lmul hc dX6_drawn_77 ?_
      refine r_ldc2 hc dX6_drawn_78 kX6_292 ?_
      refine r_lrem hc dX6_drawn_81 h (fun h => ?_)
      refine r_nmL h (fun v10 h => ?_)
      refine r_lstore (lv' := [(5, .long v10), (0, aK κ 0), (1, .int i1), (2, .int i2), (3, .int i3), (4, .int i4), (7, .int i7)]) hc dX6_drawn_82 (by decide) rfl ?_
      refine r_aload_n 1 hc dX6_drawn_84 rfl ?_
      refine r_get (K := 6) (f := 3) hc dX6_drawn_85 fX6_26 inX6 rfl rfl (by decide) (by decide) rfl rfl ?_
      refine r_lload 0 hc dX6_drawn_88 rfl ?_
      refine r_cvV [.long v10] hc dX6_drawn_90 cX6_294 (t5_layByDraw rfl h) rfl (by decide) rfl rfl rfl rfl (Nat.le_of_ble_eq_true rfl) (by decide) (by decide) (fun σ12 h => ?_)
      refine r_iload 5 hc dX6_drawn_93 rfl ?_
      refine r_aload_n 1 hc dX6_drawn_95 rfl ?_
      refine r_get (K := 6) (f := 3) hc dX6_drawn_96 fX6_26 inX6 rfl rfl (by decide) (by decide) rfl rfl ?_
      refine r_cvI [] hc dX6_drawn_99 cX6_185 (t5_passDay rfl h) rfl (by decide) rfl rfl rfl rfl (Nat.le_of_ble_eq_true rfl) (by decide) (by decide) (fun r13 σ14 h => ?_)
      refine r_csI [.int r13] hc dX6_drawn_102 cX6_284 (tJ6_bitCount_0f7a4 h) rfl rfl rfl (Nat.le_of_ble_eq_true rfl) (by decide) (by decide) (fun r15 σ16 h => ?_)
      refine r_iadd hc dX6_drawn_105 ?_
      refine r_nmI h (fun v17 h => ?_)
      refine r_istore (lv' := [(4, .int v17), (5, .long v10), (0, aK κ 0), (1, .int i1), (2, .int i2), (3, .int i3), (7, .int i7)]) hc dX6_drawn_106 (by decide) rfl ?_
      refine r_iinc (v := 1) (lv' := [(7, .int (i7 + 1)), (4, .int v17), (5, .long v10), (0, aK κ 0), (1, .int i1), (2, .int i2), (3, .int i3)]) 6 hc dX6_drawn_108 rfl (by decide) (by decide) rfl ?_
      refine r_goto 66 hc dX6_drawn_111 (by decide) ?_
      refine r_sub [3, 4, 5, 6, 1, 2, 0] rfl ?_
      exact ih _ _ _ _ h
set_option maxRecDepth 100000 in
set_option maxHeartbeats 4000000 in
theorem t6_drawn {l : Launch} {i1 : Int32} {i2 : Int32} {i3 : Int32} {σ : St} {k : Int32 → St → Prop}  (h : x6_drawn i1 i2 i3 σ k) : CI l yX6_drawn cX6_drawn 8 7 (some .int) (fun ad => [.ref (ad 0), .int i1, .int i2, .int i3]) σ k := by
  refine CI.of (lv := fun ad => [(0, .ref (ad 0)), (1, .int i1), (2, .int i2), (3, .int i3)]) (by decide) (fun _ => Nat.le_of_ble_eq_true rfl) (fun _ => rfl) (fun κ hc => ?_)
  show Wd κ 8 (QI κ k) 0 [(0, aK κ 0), (1, .int i1), (2, .int i2), (3, .int i3)] [] σ
  unfold x6_drawn at h
  refine r_aload_n 0 hc dX6_drawn_0 rfl ?_
  refine r_get (K := 6) (f := 2) hc dX6_drawn_1 fX6_22 inX6 rfl rfl (by decide) (by decide) rfl rfl ?_
  refine r_cvI [] hc dX6_drawn_4 cX6_179 (t5_isTold rfl h) rfl (by decide) rfl rfl rfl rfl (Nat.le_of_ble_eq_true rfl) (by decide) (by decide) (fun r1 σ2 h => ?_)
  refine r_if_ne 13 hc dX6_drawn_7 (by decide) h (fun h => ?_) (fun h => ?_)
  · refine r_ldc hc dX6_drawn_10 kX6_143 ?_
    exact r_iret hc dX6_drawn_12 h
  · refine r_iload_n 1 hc dX6_drawn_13 rfl ?_
    refine r_if_lt 42 hc dX6_drawn_14 (by decide) h (fun h => ?_) (fun h => ?_)
    · exact u6_drawn_42 hc h
    · refine r_iload_n 1 hc dX6_drawn_17 rfl ?_
      refine r_bipush (v := 60) hc dX6_drawn_18 (by decide) ?_
      refine r_icmp_gt 42 hc dX6_drawn_20 (by decide) h (fun h => ?_) (fun h => ?_)
      · exact u6_drawn_42 hc h
      · refine r_iload_n 2 hc dX6_drawn_23 rfl ?_
        refine r_iconst (v := 1) hc dX6_drawn_24 (by decide) ?_
        refine r_icmp_lt 42 hc dX6_drawn_25 (by decide) h (fun h => ?_) (fun h => ?_)
        · exact u6_drawn_42 hc h
        · refine r_iload_n 2 hc dX6_drawn_28 rfl ?_
          refine r_ldcw hc dX6_drawn_29 kX6_289 ?_
          refine r_icmp_gt 42 hc dX6_drawn_32 (by decide) h (fun h => ?_) (fun h => ?_)
          · exact u6_drawn_42 hc h
          · refine r_iload_n 3 hc dX6_drawn_35 rfl ?_
            refine r_csI [.int i3] hc dX6_drawn_36 cX6_164 (t6_isBit h) rfl rfl rfl (Nat.le_of_ble_eq_true rfl) (by decide) (by decide) (fun r3 σ4 h => ?_)
            refine r_if_ne 45 hc dX6_drawn_39 (by decide) h (fun h => ?_) (fun h => ?_)
            · exact u6_drawn_42 hc h
            · refine r_aload_n 0 hc dX6_drawn_45 rfl ?_
              refine r_get (K := 6) (f := 3) hc dX6_drawn_46 fX6_26 inX6 rfl rfl (by decide) (by decide) rfl rfl ?_
              refine r_aload_n 0 hc dX6_drawn_49 rfl ?_
              refine r_get (K := 6) (f := 2) hc dX6_drawn_50 fX6_22 inX6 rfl rfl (by decide) (by decide) rfl rfl ?_
              refine r_cvV [aK κ 19] hc dX6_drawn_53 cX6_130 (t5_takeOver rfl rfl h) rfl (by decide) rfl rfl rfl rfl (Nat.le_of_ble_eq_true rfl) (by decide) (by decide) (fun σ6 h => ?_)
              refine r_iconst (v := 0) hc dX6_drawn_56 (by decide) ?_
              refine r_istore (lv' := [(4, .int 0), (0, aK κ 0), (1, .int i1), (2, .int i2), (3, .int i3)]) hc dX6_drawn_57 (by decide) rfl ?_
              refine r_iload_n 3 hc dX6_drawn_59 rfl ?_
              refine r_i2l hc dX6_drawn_60 ?_
              refine r_nmL h (fun v7 h => ?_)
              refine r_lstore (lv' := [(5, .long v7), (4, .int 0), (0, aK κ 0), (1, .int i1), (2, .int i2), (3, .int i3)]) hc dX6_drawn_61 (by decide) rfl ?_
              refine r_iconst (v := 0) hc dX6_drawn_63 (by decide) ?_
              refine r_istore (lv' := [(7, .int 0), (5, .long v7), (4, .int 0), (0, aK κ 0), (1, .int i1), (2, .int i2), (3, .int i3)]) hc dX6_drawn_64 (by decide) rfl ?_
              refine r_sub [3, 4, 5, 6, 2, 1, 0] rfl ?_
              obtain ⟨n0, h⟩ := h
              exact u6_drawn_66 hc n0 _ _ _ _ h
set_option maxRecDepth 100000 in
set_option maxHeartbeats 4000000 in
theorem t6_drop {l : Launch} {i1 : Int32} {σ : St} {k : Int32 → St → Prop}  (h : x6_drop i1 σ k) : CI l yX6_drop cX6_drop 4 2 (some .int) (fun ad => [.ref (ad 0), .int i1]) σ k := by
  refine CI.of (lv := fun ad => [(0, .ref (ad 0)), (1, .int i1)]) (by decide) (fun _ => Nat.le_of_ble_eq_true rfl) (fun _ => rfl) (fun κ hc => ?_)
  show Wd κ 4 (QI κ k) 0 [(0, aK κ 0), (1, .int i1)] [] σ
  unfold x6_drop at h
  refine r_iload_n 1 hc dX6_drop_0 rfl ?_
  refine r_csI [.int i1] hc dX6_drop_1 cX6_65 (t6_isRow h) rfl rfl rfl (Nat.le_of_ble_eq_true rfl) (by decide) (by decide) (fun r1 σ2 h => ?_)
  refine r_if_ne 10 hc dX6_drop_4 (by decide) h (fun h => ?_) (fun h => ?_)
  · refine r_ldc hc dX6_drop_7 kX6_69 ?_
    exact r_iret hc dX6_drop_9 h
  · refine r_aload_n 0 hc dX6_drop_10 rfl ?_
    refine r_get (K := 6) (f := 0) hc dX6_drop_11 fX6_11 inX6 rfl rfl (by decide) (by decide) rfl rfl ?_
    refine r_iload_n 1 hc dX6_drop_14 rfl ?_
    have hk3 := k_row h.1
    refine r_rows hc dX6_drop_15 h (fun h => ?_)
    refine r_astore_n (lv' := [(2, aK κ (2 + 2 * i1.toNatClampNeg)), (0, aK κ 0), (1, .int i1)]) hc dX6_drop_16 (by decide) rfl ?_
    refine r_aload_n 0 hc dX6_drop_17 rfl ?_
    refine r_cvI [] hc dX6_drop_18 cX6_92 (t4_isMissing hk3 h) rfl (by decide) hk3 rfl rfl rfl (Nat.le_of_ble_eq_true rfl) (by decide) (by decide) (fun r4 σ5 h => ?_)
    refine r_if_eq 30 hc dX6_drop_21 (by decide) h (fun h => ?_) (fun h => ?_)
    · refine r_aload_n 0 hc dX6_drop_30 rfl ?_
      refine r_get (K := 4) (f := 2) hc dX6_drop_31 fX6_109 inX4 rfl rfl (by decide) (by decide) hk3 rfl ?_
      refine r_nmI h (fun v6 h => ?_)
      refine r_istore_n (lv' := [(3, .int v6), (2, aK κ (2 + 2 * i1.toNatClampNeg)), (0, aK κ 0), (1, .int i1)]) hc dX6_drop_34 (by decide) rfl ?_
      refine r_aload_n 1 hc dX6_drop_35 rfl ?_
      refine r_iconst (v := (-1)) hc dX6_drop_36 (by decide) ?_
      refine r_iconst (v := 0) hc dX6_drop_37 (by decide) ?_
      refine r_cvV [.int ((-1)), .int 0] hc dX6_drop_38 cX6_74 (t4_begin hk3 h) rfl (by decide) hk3 rfl rfl rfl (Nat.le_of_ble_eq_true rfl) (by decide) (by decide) (fun σ8 h => ?_)
      refine r_aload_n 2 hc dX6_drop_41 rfl ?_
      refine r_iload_n 0 hc dX6_drop_42 rfl ?_
      refine r_cvI [.int v6] hc dX6_drop_43 cX6_78 (t6_foundNone h) rfl (by decide) rfl rfl rfl rfl (Nat.le_of_ble_eq_true rfl) (by decide) (by decide) (fun r9 σ10 h => ?_)
      exact r_iret hc dX6_drop_46 h
    · refine r_aload_n 1 hc dX6_drop_24 rfl ?_
      refine r_iconst (v := 1) hc dX6_drop_25 (by decide) ?_
      refine r_cvI [.int 1] hc dX6_drop_26 cX6_70 (t6_found h) rfl (by decide) rfl rfl rfl rfl (Nat.le_of_ble_eq_true rfl) (by decide) (by decide) (fun r11 σ12 h => ?_)
      exact r_iret hc dX6_drop_29 h
set_option maxRecDepth 100000 in
set_option maxHeartbeats 4000000 in
theorem t6_fault {l : Launch}  {σ : St} {k : Int32 → St → Prop}  (h : x6_fault  σ k) : CI l yX6_fault cX6_fault 1 1 (some .int) (fun ad => [.ref (ad 0)]) σ k := by
  refine CI.of (lv := fun ad => [(0, .ref (ad 0))]) (by decide) (fun _ => Nat.le_of_ble_eq_true rfl) (fun _ => rfl) (fun κ hc => ?_)
  show Wd κ 1 (QI κ k) 0 [(0, aK κ 0)] [] σ
  unfold x6_fault at h
  refine r_aload_n 0 hc dX6_fault_0 rfl ?_
  refine r_get (K := 6) (f := 8) hc dX6_fault_1 fX6_57 inX6 rfl rfl (by decide) (by decide) rfl rfl ?_
  exact r_iret hc dX6_fault_4 h
set_option maxRecDepth 100000 in
set_option maxHeartbeats 4000000 in
theorem u6_feed_11 {κ : KT} {k : Int32 → St → Prop} {i1 : Int32}   {σ : St}  (hc : Cx κ cX6_feed 2 RX6 2 (some .int))    (h : x6_feed_11 i1 σ k) : Wd κ 2 (QI κ k) 11 [(0, aK κ 0), (1, .int i1)] [] σ := by
  unfold x6_feed_11 at h
  refine r_ldc hc dX6_feed_11 kX6_69 ?_
  exact r_iret hc dX6_feed_13 h
set_option maxRecDepth 100000 in
set_option maxHeartbeats 4000000 in
theorem u6_feed_37 {κ : KT} {k : Int32 → St → Prop} {i1 : Int32}  {s0 : Int32} {σ : St}  (hc : Cx κ cX6_feed 2 RX6 2 (some .int))    (h : x6_feed_37 i1 s0 σ k) : Wd κ 2 (QI κ k) 37 [(0, aK κ 0), (1, .int i1)] [.int s0] σ := by
  unfold x6_feed_37 at h
  exact r_iret hc dX6_feed_37 h
set_option maxRecDepth 100000 in
set_option maxHeartbeats 4000000 in
theorem t6_feed {l : Launch} {i1 : Int32} {σ : St} {k : Int32 → St → Prop}  (h : x6_feed i1 σ k) : CI l yX6_feed cX6_feed 2 2 (some .int) (fun ad => [.ref (ad 0), .int i1]) σ k := by
  refine CI.of (lv := fun ad => [(0, .ref (ad 0)), (1, .int i1)]) (by decide) (fun _ => Nat.le_of_ble_eq_true rfl) (fun _ => rfl) (fun κ hc => ?_)
  show Wd κ 2 (QI κ k) 0 [(0, aK κ 0), (1, .int i1)] [] σ
  unfold x6_feed at h
  refine r_iload_n 1 hc dX6_feed_0 rfl ?_
  refine r_if_lt 11 hc dX6_feed_1 (by decide) h (fun h => ?_) (fun h => ?_)
  · exact u6_feed_11 hc h
  · refine r_iload_n 1 hc dX6_feed_4 rfl ?_
    refine r_sipush (v := 255) hc dX6_feed_5 (by decide) ?_
    refine r_icmp_le 14 hc dX6_feed_8 (by decide) h (fun h => ?_) (fun h => ?_)
    · refine r_aload_n 0 hc dX6_feed_14 rfl ?_
      refine r_get (K := 6) (f := 4) hc dX6_feed_15 fX6_32 inX6 rfl rfl (by decide) (by decide) rfl rfl ?_
      refine r_iload_n 1 hc dX6_feed_18 rfl ?_
      refine r_cvI [.int i1] hc dX6_feed_19 cX6_112 (t3_take h) rfl (by decide) rfl rfl rfl rfl (Nat.le_of_ble_eq_true rfl) (by decide) (by decide) (fun r1 σ2 h => ?_)
      refine r_if_eq 35 hc dX6_feed_22 (by decide) h (fun h => ?_) (fun h => ?_)
      · refine r_ldc hc dX6_feed_35 kX6_118 ?_
        exact u6_feed_37 hc h
      · refine r_aload_n 0 hc dX6_feed_25 rfl ?_
        refine r_get (K := 6) (f := 4) hc dX6_feed_26 fX6_32 inX6 rfl rfl (by decide) (by decide) rfl rfl ?_
        refine r_get (K := 3) (f := 1) hc dX6_feed_29 fX6_115 inX3 rfl rfl (by decide) (by decide) rfl rfl ?_
        refine r_goto 37 hc dX6_feed_32 (by decide) ?_
        exact u6_feed_37 hc h
    · exact u6_feed_11 hc h
set_option maxRecDepth 100000 in
set_option maxHeartbeats 4000000 in
theorem u6_findingAt_23 {κ : KT} {k : Int32 → St → Prop} {o0 : Nat} {i1 : Int32} {i2 : Int32}  {s0 : Int32} {σ : St}  (hc : Cx κ cX6_findingAt 3 RX6 2 (some .int)) (ho0 : kd o0 = 4)   (h : x6_findingAt_23 o0 i1 i2 s0 σ k) : Wd κ 3 (QI κ k) 23 [(0, aK κ o0), (1, .int i1), (2, .int i2)] [.int s0] σ := by
  unfold x6_findingAt_23 at h
  exact r_iret hc dX6_findingAt_23 h
set_option maxRecDepth 100000 in
set_option maxHeartbeats 4000000 in
theorem t6_findingAt {l : Launch} {o0 : Nat} {i1 : Int32} {i2 : Int32} {σ : St} {k : Int32 → St → Prop} (ho0 : kd o0 = 4) (h : x6_findingAt o0 i1 i2 σ k) : CI l yX6_findingAt cX6_findingAt 3 2 (some .int) (fun ad => [.ref (ad o0), .int i1, .int i2]) σ k := by
  refine CI.of (lv := fun ad => [(0, .ref (ad o0)), (1, .int i1), (2, .int i2)]) (by decide) (fun _ => Nat.le_of_ble_eq_true rfl) (fun _ => rfl) (fun κ hc => ?_)
  show Wd κ 3 (QI κ k) 0 [(0, aK κ o0), (1, .int i1), (2, .int i2)] [] σ
  unfold x6_findingAt at h
  refine r_aload_n 0 hc dX6_findingAt_0 rfl ?_
  refine r_cvI [] hc dX6_findingAt_1 cX6_92 (t4_isMissing ho0 h) rfl (by decide) ho0 rfl rfl rfl (Nat.le_of_ble_eq_true rfl) (by decide) (by decide) (fun r1 σ2 h => ?_)
  refine r_if_eq 9 hc dX6_findingAt_4 (by decide) h (fun h => ?_) (fun h => ?_)
  · refine r_aload_n 0 hc dX6_findingAt_9 rfl ?_
    refine r_iload_n 1 hc dX6_findingAt_10 rfl ?_
    refine r_iload_n 2 hc dX6_findingAt_11 rfl ?_
    refine r_cvI [.int i1, .int i2] hc dX6_findingAt_12 cX6_99 (t4_spans ho0 h) rfl (by decide) ho0 rfl rfl rfl (Nat.le_of_ble_eq_true rfl) (by decide) (by decide) (fun r3 σ4 h => ?_)
    refine r_if_eq 22 hc dX6_findingAt_15 (by decide) h (fun h => ?_) (fun h => ?_)
    · refine r_iconst (v := 2) hc dX6_findingAt_22 (by decide) ?_
      exact u6_findingAt_23 hc (ho0) h
    · refine r_iconst (v := 0) hc dX6_findingAt_18 (by decide) ?_
      refine r_goto 23 hc dX6_findingAt_19 (by decide) ?_
      exact u6_findingAt_23 hc (ho0) h
  · refine r_iconst (v := 1) hc dX6_findingAt_7 (by decide) ?_
    exact r_iret hc dX6_findingAt_8 h
set_option maxRecDepth 100000 in
set_option maxHeartbeats 4000000 in
theorem t6_image {l : Launch} {i1 : Int32} {σ : St} {k : Int32 → St → Prop}  (h : x6_image i1 σ k) : CI l yX6_image cX6_image 2 2 (some .int) (fun ad => [.ref (ad 0), .int i1]) σ k := by
  refine CI.of (lv := fun ad => [(0, .ref (ad 0)), (1, .int i1)]) (by decide) (fun _ => Nat.le_of_ble_eq_true rfl) (fun _ => rfl) (fun κ hc => ?_)
  show Wd κ 2 (QI κ k) 0 [(0, aK κ 0), (1, .int i1)] [] σ
  unfold x6_image at h
  refine r_iload_n 1 hc dX6_image_0 rfl ?_
  refine r_csI [.int i1] hc dX6_image_1 cX6_164 (t6_isBit h) rfl rfl rfl (Nat.le_of_ble_eq_true rfl) (by decide) (by decide) (fun r1 σ2 h => ?_)
  refine r_if_ne 10 hc dX6_image_4 (by decide) h (fun h => ?_) (fun h => ?_)
  · refine r_ldc hc dX6_image_7 kX6_69 ?_
    exact r_iret hc dX6_image_9 h
  · refine r_aload_n 0 hc dX6_image_10 rfl ?_
    refine r_get (K := 6) (f := 2) hc dX6_image_11 fX6_22 inX6 rfl rfl (by decide) (by decide) rfl rfl ?_
    refine r_cvI [] hc dX6_image_14 cX6_179 (t5_isTold rfl h) rfl (by decide) rfl rfl rfl rfl (Nat.le_of_ble_eq_true rfl) (by decide) (by decide) (fun r3 σ4 h => ?_)
    refine r_if_ne 23 hc dX6_image_17 (by decide) h (fun h => ?_) (fun h => ?_)
    · refine r_ldc hc dX6_image_20 kX6_143 ?_
      exact r_iret hc dX6_image_22 h
    · refine r_aload_n 0 hc dX6_image_23 rfl ?_
      refine r_get (K := 6) (f := 1) hc dX6_image_24 fX6_17 inX6 rfl rfl (by decide) (by decide) rfl rfl ?_
      refine r_iload_n 1 hc dX6_image_27 rfl ?_
      have hk5 := k_img h.1
      refine r_imgs hc dX6_image_28 h (fun h => ?_)
      refine r_aload_n 0 hc dX6_image_29 rfl ?_
      refine r_get (K := 6) (f := 2) hc dX6_image_30 fX6_22 inX6 rfl rfl (by decide) (by decide) rfl rfl ?_
      refine r_cvV [aK κ 19] hc dX6_image_33 cX6_130 (t5_takeOver hk5 rfl h) rfl (by decide) hk5 rfl rfl rfl (Nat.le_of_ble_eq_true rfl) (by decide) (by decide) (fun σ7 h => ?_)
      refine r_iconst (v := 1) hc dX6_image_36 (by decide) ?_
      exact r_iret hc dX6_image_37 h
set_option maxRecDepth 100000 in
set_option maxHeartbeats 4000000 in
theorem u6_kind_25 {κ : KT} {k : Int32 → St → Prop} {i1 : Int32}  {s0 : Int32} {σ : St}  (hc : Cx κ cX6_kind 2 RX6 2 (some .int))    (h : x6_kind_25 i1 s0 σ k) : Wd κ 2 (QI κ k) 25 [(0, aK κ 0), (1, .int i1)] [.int s0] σ := by
  unfold x6_kind_25 at h
  exact r_iret hc dX6_kind_25 h
set_option maxRecDepth 100000 in
set_option maxHeartbeats 4000000 in
theorem t6_kind {l : Launch} {i1 : Int32} {σ : St} {k : Int32 → St → Prop}  (h : x6_kind i1 σ k) : CI l yX6_kind cX6_kind 2 2 (some .int) (fun ad => [.ref (ad 0), .int i1]) σ k := by
  refine CI.of (lv := fun ad => [(0, .ref (ad 0)), (1, .int i1)]) (by decide) (fun _ => Nat.le_of_ble_eq_true rfl) (fun _ => rfl) (fun κ hc => ?_)
  show Wd κ 2 (QI κ k) 0 [(0, aK κ 0), (1, .int i1)] [] σ
  unfold x6_kind at h
  refine r_aload_n 0 hc dX6_kind_0 rfl ?_
  refine r_get (K := 6) (f := 2) hc dX6_kind_1 fX6_22 inX6 rfl rfl (by decide) (by decide) rfl rfl ?_
  refine r_iload_n 1 hc dX6_kind_4 rfl ?_
  refine r_cvI [.int i1] hc dX6_kind_5 cX6_200 (t5_hasCaller rfl h) rfl (by decide) rfl rfl rfl rfl (Nat.le_of_ble_eq_true rfl) (by decide) (by decide) (fun r1 σ2 h => ?_)
  refine r_if_eq 23 hc dX6_kind_8 (by decide) h (fun h => ?_) (fun h => ?_)
  · refine r_ldc hc dX6_kind_23 kX6_69 ?_
    exact u6_kind_25 hc h
  · refine r_aload_n 0 hc dX6_kind_11 rfl ?_
    refine r_get (K := 6) (f := 2) hc dX6_kind_12 fX6_22 inX6 rfl rfl (by decide) (by decide) rfl rfl ?_
    refine r_get (K := 5) (f := 4) hc dX6_kind_15 fX6_224 inX5 rfl rfl (by decide) (by decide) rfl rfl ?_
    refine r_iload_n 1 hc dX6_kind_18 rfl ?_
    refine r_iald hc dX6_kind_19 (k5_5 rfl) h (fun h => ?_)
    refine r_goto 25 hc dX6_kind_20 (by decide) ?_
    exact u6_kind_25 hc h
set_option maxRecDepth 100000 in
set_option maxHeartbeats 4000000 in
theorem u6_least_38 {κ : KT} {k : Int32 → St → Prop} {i1 : Int32} {i2 : Int32} {i3 : Int32}   {σ : St}  (hc : Cx κ cX6_least 4 RX6 5 (some .int))    (h : x6_least_38 i1 i2 i3 σ k) : Wd κ 4 (QI κ k) 38 [(0, aK κ 0), (1, .int i1), (2, .int i2), (3, .int i3)] [] σ := by
  unfold x6_least_38 at h
  refine r_ldc hc dX6_least_38 kX6_69 ?_
  exact r_iret hc dX6_least_40 h
set_option maxRecDepth 100000 in
set_option maxHeartbeats 4000000 in
theorem u6_least_97 {κ : KT} {k : Int32 → St → Prop} {i1 : Int32} {i2 : Int32} {i3 : Int32}  {s0 : Int32} {σ : St}  (hc : Cx κ cX6_least 4 RX6 5 (some .int))    (h : x6_least_97 i1 i2 i3 s0 σ k) : Wd κ 4 (QI κ k) 97 [(0, aK κ 0), (1, .int i1), (2, .int i2), (3, .int i3)] [.int s0] σ := by
  unfold x6_least_97 at h
  exact r_iret hc dX6_least_97 h
set_option maxRecDepth 100000 in
set_option maxHeartbeats 4000000 in
theorem u6_least_41 {κ : KT} {k : Int32 → St → Prop} {i1 : Int32} {i2 : Int32} {i3 : Int32}   {σ : St}  (hc : Cx κ cX6_least 4 RX6 5 (some .int))    (h : x6_least_41 i1 i2 i3 σ k) : Wd κ 4 (QI κ k) 41 [(0, aK κ 0), (1, .int i1), (2, .int i2), (3, .int i3)] [] σ := by
  unfold x6_least_41 at h
  refine r_aload_n 0 hc dX6_least_41 rfl ?_
  refine r_get (K := 6) (f := 6) hc dX6_least_42 fX6_46 inX6 rfl rfl (by decide) (by decide) rfl rfl ?_
  refine r_aload_n 0 hc dX6_least_45 rfl ?_
  refine r_get (K := 6) (f := 2) hc dX6_least_46 fX6_22 inX6 rfl rfl (by decide) (by decide) rfl rfl ?_
  refine r_iload_n 1 hc dX6_least_49 rfl ?_
  refine r_iload_n 2 hc dX6_least_50 rfl ?_
  refine r_cvV [aK κ 19, .int i1, .int i2] hc dX6_least_51 cX6_243 (t2_weigh rfl h) rfl (by decide) rfl rfl rfl rfl (Nat.le_of_ble_eq_true rfl) (by decide) (by decide) (fun σ6 h => ?_)
  refine r_aload_n 0 hc dX6_least_54 rfl ?_
  refine r_get (K := 6) (f := 6) hc dX6_least_55 fX6_46 inX6 rfl rfl (by decide) (by decide) rfl rfl ?_
  refine r_cvI [] hc dX6_least_58 cX6_247 (t2_choose h) rfl (by decide) rfl rfl rfl rfl (Nat.le_of_ble_eq_true rfl) (by decide) (by decide) (fun r7 σ8 h => ?_)
  refine r_if_ne 67 hc dX6_least_61 (by decide) h (fun h => ?_) (fun h => ?_)
  · refine r_ldc hc dX6_least_64 kX6_231 ?_
    exact r_iret hc dX6_least_66 h
  · refine r_iload_n 3 hc dX6_least_67 rfl ?_
    refine r_iconst (v := (-1)) hc dX6_least_68 (by decide) ?_
    refine r_icmp_ne 82 hc dX6_least_69 (by decide) h (fun h => ?_) (fun h => ?_)
    · refine r_aload_n 0 hc dX6_least_72 rfl ?_
      refine r_get (K := 6) (f := 6) hc dX6_least_73 fX6_46 inX6 rfl rfl (by decide) (by decide) rfl rfl ?_
      refine r_get (K := 2) (f := 3) hc dX6_least_76 fX6_250 inX2 rfl rfl (by decide) (by decide) rfl rfl ?_
      refine r_goto 97 hc dX6_least_79 (by decide) ?_
      exact u6_least_97 hc h
    · refine r_aload_n 0 hc dX6_least_82 rfl ?_
      refine r_get (K := 6) (f := 6) hc dX6_least_83 fX6_46 inX6 rfl rfl (by decide) (by decide) rfl rfl ?_
      refine r_iload_n 3 hc dX6_least_86 rfl ?_
      refine r_aload_n 0 hc dX6_least_87 rfl ?_
      refine r_get (K := 6) (f := 6) hc dX6_least_88 fX6_46 inX6 rfl rfl (by decide) (by decide) rfl rfl ?_
      refine r_get (K := 2) (f := 2) hc dX6_least_91 fX6_253 inX2 rfl rfl (by decide) (by decide) rfl rfl ?_
      refine r_cvI [.int i3, .int (σ8 61 2)] hc dX6_least_94 cX6_256 (t2_codeAt h) rfl (by decide) rfl rfl rfl rfl (Nat.le_of_ble_eq_true rfl) (by decide) (by decide) (fun r9 σ10 h => ?_)
      exact u6_least_97 hc h
set_option maxRecDepth 100000 in
set_option maxHeartbeats 4000000 in
theorem t6_least {l : Launch} {i1 : Int32} {i2 : Int32} {i3 : Int32} {σ : St} {k : Int32 → St → Prop}  (h : x6_least i1 i2 i3 σ k) : CI l yX6_least cX6_least 4 5 (some .int) (fun ad => [.ref (ad 0), .int i1, .int i2, .int i3]) σ k := by
  refine CI.of (lv := fun ad => [(0, .ref (ad 0)), (1, .int i1), (2, .int i2), (3, .int i3)]) (by decide) (fun _ => Nat.le_of_ble_eq_true rfl) (fun _ => rfl) (fun κ hc => ?_)
  show Wd κ 4 (QI κ k) 0 [(0, aK κ 0), (1, .int i1), (2, .int i2), (3, .int i3)] [] σ
  unfold x6_least at h
  refine r_aload_n 0 hc dX6_least_0 rfl ?_
  refine r_get (K := 6) (f := 2) hc dX6_least_1 fX6_22 inX6 rfl rfl (by decide) (by decide) rfl rfl ?_
  refine r_cvI [] hc dX6_least_4 cX6_179 (t5_isTold rfl h) rfl (by decide) rfl rfl rfl rfl (Nat.le_of_ble_eq_true rfl) (by decide) (by decide) (fun r1 σ2 h => ?_)
  refine r_if_ne 13 hc dX6_least_7 (by decide) h (fun h => ?_) (fun h => ?_)
  · refine r_ldc hc dX6_least_10 kX6_143 ?_
    exact r_iret hc dX6_least_12 h
  · refine r_aload_n 0 hc dX6_least_13 rfl ?_
    refine r_iload_n 1 hc dX6_least_14 rfl ?_
    refine r_iload_n 2 hc dX6_least_15 rfl ?_
    refine r_cvI [.int i1, .int i2] hc dX6_least_16 cX6_240 (t6_areApartSets h) rfl (by decide) rfl rfl rfl rfl (Nat.le_of_ble_eq_true rfl) (by decide) (by decide) (fun r3 σ4 h => ?_)
    refine r_if_eq 38 hc dX6_least_19 (by decide) h (fun h => ?_) (fun h => ?_)
    · exact u6_least_38 hc h
    · refine r_iload_n 3 hc dX6_least_22 rfl ?_
      refine r_iconst (v := (-1)) hc dX6_least_23 (by decide) ?_
      refine r_icmp_eq 41 hc dX6_least_24 (by decide) h (fun h => ?_) (fun h => ?_)
      · exact u6_least_41 hc h
      · refine r_aload_n 0 hc dX6_least_27 rfl ?_
        refine r_get (K := 6) (f := 2) hc dX6_least_28 fX6_22 inX6 rfl rfl (by decide) (by decide) rfl rfl ?_
        refine r_iload_n 3 hc dX6_least_31 rfl ?_
        refine r_cvI [.int i3] hc dX6_least_32 cX6_147 (t5_hasDoor rfl h) rfl (by decide) rfl rfl rfl rfl (Nat.le_of_ble_eq_true rfl) (by decide) (by decide) (fun r11 σ12 h => ?_)
        refine r_if_ne 41 hc dX6_least_35 (by decide) h (fun h => ?_) (fun h => ?_)
        · exact u6_least_38 hc h
        · exact u6_least_41 hc h
set_option maxRecDepth 100000 in
set_option maxHeartbeats 4000000 in
theorem u6_meetingCases_112 {κ : KT} {k : Int32 → St → Prop} {i1 : Int32} {i2 : Int32} {R18 : Int32 → Int32 → Int32 → St → Prop} {i3 : Int32} {i4 : Int32} {i5 : Int32} {σ : St}  (hc : Cx κ cX6_meetingCases 8 RX6 6 (some .int))  (hR18 : ∀ (i3 : Int32) (i4 : Int32) (i5 : Int32) (σ : St), R18 i3 i4 i5 σ → Wd κ 8 (QI κ k) 18 [(0, aK κ 0), (1, .int i1), (2, .int i2), (3, .int i3), (4, .int i4), (5, .int i5)] [] σ)  (h : x6_meetingCases_112 i1 i2 R18 i3 i4 i5 σ k) : Wd κ 8 (QI κ k) 112 [(0, aK κ 0), (1, .int i1), (2, .int i2), (3, .int i3), (4, .int i4), (5, .int i5)] [] σ := by
  unfold x6_meetingCases_112 at h
  refine r_iinc (v := 1) (lv' := [(5, .int (i5 + 1)), (0, aK κ 0), (1, .int i1), (2, .int i2), (3, .int i3), (4, .int i4)]) 5 hc dX6_meetingCases_112 rfl (by decide) (by decide) rfl ?_
  refine r_goto 18 hc dX6_meetingCases_115 (by decide) ?_
  refine r_sub [1, 2, 3, 4, 5, 0] rfl ?_
  exact hR18 _ _ _ _ h
set_option maxRecDepth 100000 in
set_option maxHeartbeats 4000000 in
theorem u6_meetingCases_88 {κ : KT} {k : Int32 → St → Prop} {i1 : Int32} {i2 : Int32} {R18 : Int32 → Int32 → Int32 → St → Prop} {R42 : Int32 → Int32 → Int32 → Int32 → Int32 → St → Prop} {i3 : Int32} {i4 : Int32} {i5 : Int32} {i6 : Int32} {i7 : Int32} {σ : St}  (hc : Cx κ cX6_meetingCases 8 RX6 6 (some .int))  (hR18 : ∀ (i3 : Int32) (i4 : Int32) (i5 : Int32) (σ : St), R18 i3 i4 i5 σ → Wd κ 8 (QI κ k) 18 [(0, aK κ 0), (1, .int i1), (2, .int i2), (3, .int i3), (4, .int i4), (5, .int i5)] [] σ) (hR42 : ∀ (i3 : Int32) (i4 : Int32) (i5 : Int32) (i6 : Int32) (i7 : Int32) (σ : St), R42 i3 i4 i5 i6 i7 σ → Wd κ 8 (QI κ k) 42 [(0, aK κ 0), (1, .int i1), (2, .int i2), (3, .int i3), (4, .int i4), (5, .int i5), (6, .int i6), (7, .int i7)] [] σ)  (h : x6_meetingCases_88 i1 i2 R18 R42 i3 i4 i5 i6 i7 σ k) : Wd κ 8 (QI κ k) 88 [(0, aK κ 0), (1, .int i1), (2, .int i2), (3, .int i3), (4, .int i4), (5, .int i5), (6, .int i6), (7, .int i7)] [] σ := by
  unfold x6_meetingCases_88 at h
  refine r_iinc (v := 1) (lv' := [(7, .int (i7 + 1)), (0, aK κ 0), (1, .int i1), (2, .int i2), (3, .int i3), (4, .int i4), (5, .int i5), (6, .int i6)]) 7 hc dX6_meetingCases_88 rfl (by decide) (by decide) rfl ?_
  refine r_goto 42 hc dX6_meetingCases_91 (by decide) ?_
  refine r_sub [1, 2, 3, 4, 5, 6, 7, 0] rfl ?_
  exact hR42 _ _ _ _ _ _ h
set_option maxRecDepth 100000 in
set_option maxHeartbeats 4000000 in
theorem u6_meetingCases_42 {κ : KT} {k : Int32 → St → Prop} {i1 : Int32} {i2 : Int32} {R18 : Int32 → Int32 → Int32 → St → Prop}  (hc : Cx κ cX6_meetingCases 8 RX6 6 (some .int))  (hR18 : ∀ (i3 : Int32) (i4 : Int32) (i5 : Int32) (σ : St), R18 i3 i4 i5 σ → Wd κ 8 (QI κ k) 18 [(0, aK κ 0), (1, .int i1), (2, .int i2), (3, .int i3), (4, .int i4), (5, .int i5)] [] σ) : ∀ (n : Nat) (i3 : Int32) (i4 : Int32) (i5 : Int32) (i6 : Int32) (i7 : Int32) (σ : St), x6_meetingCases_42 i1 i2 R18 k n i3 i4 i5 i6 i7 σ → Wd κ 8 (QI κ k) 42 [(0, aK κ 0), (1, .int i1), (2, .int i2), (3, .int i3), (4, .int i4), (5, .int i5), (6, .int i6), (7, .int i7)] [] σ := by
  intro n
  induction n with
  | zero => intro i3 i4 i5 i6 i7 σ h; exact h.elim
  | succ n ih =>
    intro i3 i4 i5 i6 i7 σ h
    unfold x6_meetingCases_42 at h
    refine r_iload 7 hc dX6_meetingCases_42 rfl ?_
    refine r_iconst (v := 3) hc dX6_meetingCases_44 (by decide) ?_
    refine r_icmp_ge 94 hc dX6_meetingCases_45 (by decide) h (fun h => ?_) (fun h => ?_)
    · refine r_aload_n 0 hc dX6_meetingCases_94 rfl ?_
      refine r_get (K := 6) (f := 3) hc dX6_meetingCases_95 fX6_26 inX6 rfl rfl (by decide) (by decide) rfl rfl ?_
      refine r_iload_n 1 hc dX6_meetingCases_98 rfl ?_
      refine r_cvI [.int i1] hc dX6_meetingCases_99 cX6_212 (t5_isMeeting rfl h) rfl (by decide) rfl rfl rfl rfl (Nat.le_of_ble_eq_true rfl) (by decide) (by decide) (fun r4 σ5 h => ?_)
      refine r_if_eq 112 hc dX6_meetingCases_102 (by decide) h (fun h => ?_) (fun h => ?_)
      · refine r_sub [0, 1, 2, 3, 4, 5] rfl ?_
        exact u6_meetingCases_112 hc hR18 h
      · refine r_iload 4 hc dX6_meetingCases_105 rfl ?_
        refine r_iload 6 hc dX6_meetingCases_107 rfl ?_
        refine r_iadd hc dX6_meetingCases_109 ?_
        refine r_nmI h (fun v6 h => ?_)
        refine r_istore (lv' := [(4, .int v6), (0, aK κ 0), (1, .int i1), (2, .int i2), (3, .int i3), (5, .int i5), (6, .int i6), (7, .int i7)]) hc dX6_meetingCases_110 (by decide) rfl ?_
        refine r_sub [1, 2, 3, 4, 0, 5] rfl ?_
        exact u6_meetingCases_112 hc hR18 h
    · refine r_iload 5 hc dX6_meetingCases_48 rfl ?_
      refine r_iload 7 hc dX6_meetingCases_50 rfl ?_
      refine r_ishr hc dX6_meetingCases_52 ?_
      refine r_iconst (v := 1) hc dX6_meetingCases_53 (by decide) ?_
      refine r_iand hc dX6_meetingCases_54 ?_
      refine r_iconst (v := 1) hc dX6_meetingCases_55 (by decide) ?_
      refine r_icmp_ne 79 hc dX6_meetingCases_56 (by decide) h (fun h => ?_) (fun h => ?_)
      · refine r_iload 6 hc dX6_meetingCases_59 rfl ?_
        refine r_iload_n 2 hc dX6_meetingCases_61 rfl ?_
        refine r_imul hc dX6_meetingCases_62 ?_
        refine r_nmI h (fun v7 h => ?_)
        refine r_istore (lv' := [(6, .int v7), (0, aK κ 0), (1, .int i1), (2, .int i2), (3, .int i3), (4, .int i4), (5, .int i5), (7, .int i7)]) hc dX6_meetingCases_63 (by decide) rfl ?_
        refine r_aload_n 1 hc dX6_meetingCases_65 rfl ?_
        refine r_get (K := 6) (f := 3) hc dX6_meetingCases_66 fX6_26 inX6 rfl rfl (by decide) (by decide) rfl rfl ?_
        refine r_iload_n 4 hc dX6_meetingCases_69 rfl ?_
        refine r_iload 7 hc dX6_meetingCases_70 rfl ?_
        refine r_iadd hc dX6_meetingCases_72 ?_
        refine r_cvV [.int (i3 + i7)] hc dX6_meetingCases_73 cX6_327 (t5_clearDoor rfl h) rfl (by decide) rfl rfl rfl rfl (Nat.le_of_ble_eq_true rfl) (by decide) (by decide) (fun σ9 h => ?_)
        refine r_goto 88 hc dX6_meetingCases_76 (by decide) ?_
        refine r_sub [1, 2, 3, 4, 5, 6, 0, 7] rfl ?_
        exact u6_meetingCases_88 hc hR18 ih h
      · refine r_iload 6 hc dX6_meetingCases_79 rfl ?_
        refine r_bipush (v := 10) hc dX6_meetingCases_81 (by decide) ?_
        refine r_iload_n 2 hc dX6_meetingCases_83 rfl ?_
        refine r_isub hc dX6_meetingCases_84 ?_
        refine r_imul hc dX6_meetingCases_85 ?_
        refine r_nmI h (fun v10 h => ?_)
        refine r_istore (lv' := [(6, .int v10), (0, aK κ 0), (1, .int i1), (2, .int i2), (3, .int i3), (4, .int i4), (5, .int i5), (7, .int i7)]) hc dX6_meetingCases_86 (by decide) rfl ?_
        refine r_sub [1, 2, 3, 4, 5, 6, 0, 7] rfl ?_
        exact u6_meetingCases_88 hc hR18 ih h
set_option maxRecDepth 100000 in
set_option maxHeartbeats 4000000 in
theorem u6_meetingCases_18 {κ : KT} {k : Int32 → St → Prop} {i1 : Int32} {i2 : Int32}   (hc : Cx κ cX6_meetingCases 8 RX6 6 (some .int))   : ∀ (n : Nat) (i3 : Int32) (i4 : Int32) (i5 : Int32) (σ : St), x6_meetingCases_18 i1 i2 k n i3 i4 i5 σ → Wd κ 8 (QI κ k) 18 [(0, aK κ 0), (1, .int i1), (2, .int i2), (3, .int i3), (4, .int i4), (5, .int i5)] [] σ := by
  intro n
  induction n with
  | zero => intro i3 i4 i5 σ h; exact h.elim
  | succ n ih =>
    intro i3 i4 i5 σ h
    unfold x6_meetingCases_18 at h
    refine r_iload 5 hc dX6_meetingCases_18 rfl ?_
    refine r_bipush (v := 8) hc dX6_meetingCases_20 (by decide) ?_
    refine r_icmp_ge 118 hc dX6_meetingCases_22 (by decide) h (fun h => ?_) (fun h => ?_)
    · refine r_iload 4 hc dX6_meetingCases_118 rfl ?_
      exact r_iret hc dX6_meetingCases_120 h
    · refine r_aload_n 0 hc dX6_meetingCases_25 rfl ?_
      refine r_get (K := 6) (f := 3) hc dX6_meetingCases_26 fX6_26 inX6 rfl rfl (by decide) (by decide) rfl rfl ?_
      refine r_aload_n 0 hc dX6_meetingCases_29 rfl ?_
      refine r_get (K := 6) (f := 2) hc dX6_meetingCases_30 fX6_22 inX6 rfl rfl (by decide) (by decide) rfl rfl ?_
      refine r_cvV [aK κ 19] hc dX6_meetingCases_33 cX6_130 (t5_takeOver rfl rfl h) rfl (by decide) rfl rfl rfl rfl (Nat.le_of_ble_eq_true rfl) (by decide) (by decide) (fun σ3 h => ?_)
      refine r_iconst (v := 1) hc dX6_meetingCases_36 (by decide) ?_
      refine r_istore (lv' := [(6, .int 1), (0, aK κ 0), (1, .int i1), (2, .int i2), (3, .int i3), (4, .int i4), (5, .int i5)]) hc dX6_meetingCases_37 (by decide) rfl ?_
      refine r_iconst (v := 0) hc dX6_meetingCases_39 (by decide) ?_
      refine r_istore (lv' := [(7, .int 0), (6, .int 1), (0, aK κ 0), (1, .int i1), (2, .int i2), (3, .int i3), (4, .int i4), (5, .int i5)]) hc dX6_meetingCases_40 (by decide) rfl ?_
      refine r_sub [2, 3, 4, 5, 6, 7, 1, 0] rfl ?_
      obtain ⟨n0, h⟩ := h
      exact u6_meetingCases_42 hc ih n0 _ _ _ _ _ _ h
set_option maxRecDepth 100000 in
set_option maxHeartbeats 4000000 in
theorem t6_meetingCases {l : Launch} {i1 : Int32} {i2 : Int32} {σ : St} {k : Int32 → St → Prop}  (h : x6_meetingCases i1 i2 σ k) : CI l yX6_meetingCases cX6_meetingCases 8 6 (some .int) (fun ad => [.ref (ad 0), .int i1, .int i2]) σ k := by
  refine CI.of (lv := fun ad => [(0, .ref (ad 0)), (1, .int i1), (2, .int i2)]) (by decide) (fun _ => Nat.le_of_ble_eq_true rfl) (fun _ => rfl) (fun κ hc => ?_)
  show Wd κ 8 (QI κ k) 0 [(0, aK κ 0), (1, .int i1), (2, .int i2)] [] σ
  unfold x6_meetingCases at h
  refine r_aload_n 0 hc dX6_meetingCases_0 rfl ?_
  refine r_get (K := 6) (f := 2) hc dX6_meetingCases_1 fX6_22 inX6 rfl rfl (by decide) (by decide) rfl rfl ?_
  refine r_get (K := 5) (f := 5) hc dX6_meetingCases_4 fX6_203 inX5 rfl rfl (by decide) (by decide) rfl rfl ?_
  refine r_iload_n 1 hc dX6_meetingCases_7 rfl ?_
  refine r_iald hc dX6_meetingCases_8 (k5_6 rfl) h (fun h => ?_)
  refine r_iconst (v := 1) hc dX6_meetingCases_9 (by decide) ?_
  refine r_isub hc dX6_meetingCases_10 ?_
  refine r_nmI h (fun v1 h => ?_)
  refine r_istore_n (lv' := [(3, .int v1), (0, aK κ 0), (1, .int i1), (2, .int i2)]) hc dX6_meetingCases_11 (by decide) rfl ?_
  refine r_iconst (v := 0) hc dX6_meetingCases_12 (by decide) ?_
  refine r_istore (lv' := [(4, .int 0), (3, .int v1), (0, aK κ 0), (1, .int i1), (2, .int i2)]) hc dX6_meetingCases_13 (by decide) rfl ?_
  refine r_iconst (v := 0) hc dX6_meetingCases_15 (by decide) ?_
  refine r_istore (lv' := [(5, .int 0), (4, .int 0), (3, .int v1), (0, aK κ 0), (1, .int i1), (2, .int i2)]) hc dX6_meetingCases_16 (by decide) rfl ?_
  refine r_sub [3, 4, 5, 2, 1, 0] rfl ?_
  obtain ⟨n0, h⟩ := h
  exact u6_meetingCases_18 hc n0 _ _ _ _ h
set_option maxRecDepth 100000 in
set_option maxHeartbeats 4000000 in
theorem u6_meets_22 {κ : KT} {k : Int32 → St → Prop}   {s0 : Int32} {σ : St}  (hc : Cx κ cX6_meets 1 RX6 6 (some .int))    (h : x6_meets_22 s0 σ k) : Wd κ 1 (QI κ k) 22 [(0, aK κ 0)] [.int s0] σ := by
  unfold x6_meets_22 at h
  exact r_iret hc dX6_meets_22 h
set_option maxRecDepth 100000 in
set_option maxHeartbeats 4000000 in
theorem t6_meets {l : Launch}  {σ : St} {k : Int32 → St → Prop}  (h : x6_meets  σ k) : CI l yX6_meets cX6_meets 1 6 (some .int) (fun ad => [.ref (ad 0)]) σ k := by
  refine CI.of (lv := fun ad => [(0, .ref (ad 0))]) (by decide) (fun _ => Nat.le_of_ble_eq_true rfl) (fun _ => rfl) (fun κ hc => ?_)
  show Wd κ 1 (QI κ k) 0 [(0, aK κ 0)] [] σ
  unfold x6_meets at h
  refine r_aload_n 0 hc dX6_meets_0 rfl ?_
  refine r_get (K := 6) (f := 2) hc dX6_meets_1 fX6_22 inX6 rfl rfl (by decide) (by decide) rfl rfl ?_
  refine r_cvI [] hc dX6_meets_4 cX6_179 (t5_isTold rfl h) rfl (by decide) rfl rfl rfl rfl (Nat.le_of_ble_eq_true rfl) (by decide) (by decide) (fun r1 σ2 h => ?_)
  refine r_if_eq 20 hc dX6_meets_7 (by decide) h (fun h => ?_) (fun h => ?_)
  · refine r_ldc hc dX6_meets_20 kX6_143 ?_
    exact u6_meets_22 hc h
  · refine r_aload_n 0 hc dX6_meets_10 rfl ?_
    refine r_get (K := 6) (f := 2) hc dX6_meets_11 fX6_22 inX6 rfl rfl (by decide) (by decide) rfl rfl ?_
    refine r_cvI [] hc dX6_meets_14 cX6_218 (t5_meetingNow rfl h) rfl (by decide) rfl rfl rfl rfl (Nat.le_of_ble_eq_true rfl) (by decide) (by decide) (fun r3 σ4 h => ?_)
    refine r_goto 22 hc dX6_meets_17 (by decide) ?_
    exact u6_meets_22 hc h
set_option maxRecDepth 100000 in
set_option maxHeartbeats 4000000 in
theorem u6_nothing_22 {κ : KT} {k : Int32 → St → Prop}   {s0 : Int32} {σ : St}  (hc : Cx κ cX6_nothing 1 RX6 7 (some .int))    (h : x6_nothing_22 s0 σ k) : Wd κ 1 (QI κ k) 22 [(0, aK κ 0)] [.int s0] σ := by
  unfold x6_nothing_22 at h
  exact r_iret hc dX6_nothing_22 h
set_option maxRecDepth 100000 in
set_option maxHeartbeats 4000000 in
theorem t6_nothing {l : Launch}  {σ : St} {k : Int32 → St → Prop}  (h : x6_nothing  σ k) : CI l yX6_nothing cX6_nothing 1 7 (some .int) (fun ad => [.ref (ad 0)]) σ k := by
  refine CI.of (lv := fun ad => [(0, .ref (ad 0))]) (by decide) (fun _ => Nat.le_of_ble_eq_true rfl) (fun _ => rfl) (fun κ hc => ?_)
  show Wd κ 1 (QI κ k) 0 [(0, aK κ 0)] [] σ
  unfold x6_nothing at h
  refine r_aload_n 0 hc dX6_nothing_0 rfl ?_
  refine r_get (K := 6) (f := 2) hc dX6_nothing_1 fX6_22 inX6 rfl rfl (by decide) (by decide) rfl rfl ?_
  refine r_cvI [] hc dX6_nothing_4 cX6_179 (t5_isTold rfl h) rfl (by decide) rfl rfl rfl rfl (Nat.le_of_ble_eq_true rfl) (by decide) (by decide) (fun r1 σ2 h => ?_)
  refine r_if_eq 20 hc dX6_nothing_7 (by decide) h (fun h => ?_) (fun h => ?_)
  · refine r_ldc hc dX6_nothing_20 kX6_143 ?_
    exact u6_nothing_22 hc h
  · refine r_aload_n 0 hc dX6_nothing_10 rfl ?_
    refine r_get (K := 6) (f := 2) hc dX6_nothing_11 fX6_22 inX6 rfl rfl (by decide) (by decide) rfl rfl ?_
    refine r_cvI [] hc dX6_nothing_14 cX6_221 (t5_firstOnNothing rfl h) rfl (by decide) rfl rfl rfl rfl (Nat.le_of_ble_eq_true rfl) (by decide) (by decide) (fun r3 σ4 h => ?_)
    refine r_goto 22 hc dX6_nothing_17 (by decide) ?_
    exact u6_nothing_22 hc h
set_option maxRecDepth 100000 in
set_option maxHeartbeats 4000000 in
theorem u6_steadyWays_73 {κ : KT} {k : Int32 → St → Prop} {o0 : Nat} {i1 : Int32} {R4 : Int32 → Int32 → St → Prop} {i2 : Int32} {i3 : Int32} {σ : St}  (hc : Cx κ cX6_steadyWays 6 RX6 1 (some .int)) (ho0 : kd o0 = 8) (hR4 : ∀ (i2 : Int32) (i3 : Int32) (σ : St), R4 i2 i3 σ → Wd κ 6 (QI κ k) 4 [(0, aK κ o0), (1, .int i1), (2, .int i2), (3, .int i3)] [] σ)  (h : x6_steadyWays_73 o0 i1 R4 i2 i3 σ k) : Wd κ 6 (QI κ k) 73 [(0, aK κ o0), (1, .int i1), (2, .int i2), (3, .int i3)] [] σ := by
  unfold x6_steadyWays_73 at h
  refine r_iinc (v := 1) (lv' := [(3, .int (i3 + 1)), (0, aK κ o0), (1, .int i1), (2, .int i2)]) 3 hc dX6_steadyWays_73 rfl (by decide) (by decide) rfl ?_
  refine r_goto 4 hc dX6_steadyWays_76 (by decide) ?_
  refine r_sub [1, 2, 3, 0] rfl ?_
  exact hR4 _ _ _ h
set_option maxRecDepth 100000 in
set_option maxHeartbeats 4000000 in
theorem u6_steadyWays_55 {κ : KT} {k : Int32 → St → Prop} {o0 : Nat} {i1 : Int32} {R4 : Int32 → Int32 → St → Prop} {i2 : Int32} {i3 : Int32} {i4 : Int32} {s0 : Int32} {σ : St}  (hc : Cx κ cX6_steadyWays 6 RX6 1 (some .int)) (ho0 : kd o0 = 8) (hR4 : ∀ (i2 : Int32) (i3 : Int32) (σ : St), R4 i2 i3 σ → Wd κ 6 (QI κ k) 4 [(0, aK κ o0), (1, .int i1), (2, .int i2), (3, .int i3)] [] σ)  (h : x6_steadyWays_55 o0 i1 R4 i2 i3 i4 s0 σ k) : Wd κ 6 (QI κ k) 55 [(0, aK κ o0), (1, .int i1), (2, .int i2), (3, .int i3), (4, .int i4)] [.int s0] σ := by
  unfold x6_steadyWays_55 at h
  refine r_istore (lv' := [(5, .int s0), (0, aK κ o0), (1, .int i1), (2, .int i2), (3, .int i3), (4, .int i4)]) hc dX6_steadyWays_55 (by decide) rfl ?_
  refine r_iload 5 hc dX6_steadyWays_57 rfl ?_
  refine r_if_eq 73 hc dX6_steadyWays_59 (by decide) h (fun h => ?_) (fun h => ?_)
  · refine r_sub [1, 2, 3, 4] rfl ?_
    exact u6_steadyWays_73 hc (ho0) hR4 h
  · refine r_iload 0 hc dX6_steadyWays_62 rfl ?_
    refine r_if_eq 73 hc dX6_steadyWays_64 (by decide) h (fun h => ?_) (fun h => ?_)
    · refine r_sub [1, 2, 3, 4] rfl ?_
      exact u6_steadyWays_73 hc (ho0) hR4 h
    · refine r_iload_n 3 hc dX6_steadyWays_67 rfl ?_
      refine r_iconst (v := 1) hc dX6_steadyWays_68 (by decide) ?_
      refine r_iload_n 4 hc dX6_steadyWays_69 rfl ?_
      refine r_ishl hc dX6_steadyWays_70 ?_
      refine r_ior hc dX6_steadyWays_71 ?_
      refine r_nmI h (fun v1 h => ?_)
      refine r_istore_n (lv' := [(2, .int v1), (5, .int s0), (0, aK κ o0), (1, .int i1), (3, .int i3), (4, .int i4)]) hc dX6_steadyWays_72 (by decide) rfl ?_
      refine r_sub [2, 3, 0, 4] rfl ?_
      exact u6_steadyWays_73 hc (ho0) hR4 h
set_option maxRecDepth 100000 in
set_option maxHeartbeats 4000000 in
theorem u6_steadyWays_29 {κ : KT} {k : Int32 → St → Prop} {o0 : Nat} {i1 : Int32} {R4 : Int32 → Int32 → St → Prop} {i2 : Int32} {i3 : Int32} {s0 : Int32} {σ : St}  (hc : Cx κ cX6_steadyWays 6 RX6 1 (some .int)) (ho0 : kd o0 = 8) (hR4 : ∀ (i2 : Int32) (i3 : Int32) (σ : St), R4 i2 i3 σ → Wd κ 6 (QI κ k) 4 [(0, aK κ o0), (1, .int i1), (2, .int i2), (3, .int i3)] [] σ)  (h : x6_steadyWays_29 o0 i1 R4 i2 i3 s0 σ k) : Wd κ 6 (QI κ k) 29 [(0, aK κ o0), (1, .int i1), (2, .int i2), (3, .int i3)] [.int s0] σ := by
  unfold x6_steadyWays_29 at h
  refine r_istore (lv' := [(4, .int s0), (0, aK κ o0), (1, .int i1), (2, .int i2), (3, .int i3)]) hc dX6_steadyWays_29 (by decide) rfl ?_
  refine r_aload_n 1 hc dX6_steadyWays_31 rfl ?_
  refine r_iload_n 2 hc dX6_steadyWays_32 rfl ?_
  refine r_iconst (v := 4) hc dX6_steadyWays_33 (by decide) ?_
  refine r_iadd hc dX6_steadyWays_34 ?_
  refine r_iload_n 4 hc dX6_steadyWays_35 rfl ?_
  refine r_iadd hc dX6_steadyWays_36 ?_
  refine r_iald hc dX6_steadyWays_37 ho0 h (fun h => ?_)
  refine r_aload_n 1 hc dX6_steadyWays_38 rfl ?_
  refine r_iload_n 2 hc dX6_steadyWays_39 rfl ?_
  refine r_iconst (v := 4) hc dX6_steadyWays_40 (by decide) ?_
  refine r_iadd hc dX6_steadyWays_41 ?_
  refine r_iload_n 4 hc dX6_steadyWays_42 rfl ?_
  refine r_iconst (v := 1) hc dX6_steadyWays_43 (by decide) ?_
  refine r_ixor hc dX6_steadyWays_44 ?_
  refine r_iadd hc dX6_steadyWays_45 ?_
  refine r_iald hc dX6_steadyWays_46 ho0 h (fun h => ?_)
  refine r_icmp_lt 54 hc dX6_steadyWays_47 (by decide) h (fun h => ?_) (fun h => ?_)
  · refine r_iconst (v := 0) hc dX6_steadyWays_54 (by decide) ?_
    refine r_sub [1, 2, 3, 4, 0] rfl ?_
    exact u6_steadyWays_55 hc (ho0) hR4 h
  · refine r_iconst (v := 1) hc dX6_steadyWays_50 (by decide) ?_
    refine r_goto 55 hc dX6_steadyWays_51 (by decide) ?_
    refine r_sub [1, 2, 3, 4, 0] rfl ?_
    exact u6_steadyWays_55 hc (ho0) hR4 h
set_option maxRecDepth 100000 in
set_option maxHeartbeats 4000000 in
theorem u6_steadyWays_4 {κ : KT} {k : Int32 → St → Prop} {o0 : Nat} {i1 : Int32}   (hc : Cx κ cX6_steadyWays 6 RX6 1 (some .int)) (ho0 : kd o0 = 8)  : ∀ (n : Nat) (i2 : Int32) (i3 : Int32) (σ : St), x6_steadyWays_4 o0 i1 k n i2 i3 σ → Wd κ 6 (QI κ k) 4 [(0, aK κ o0), (1, .int i1), (2, .int i2), (3, .int i3)] [] σ := by
  intro n
  induction n with
  | zero => intro i2 i3 σ h; exact h.elim
  | succ n ih =>
    intro i2 i3 σ h
    unfold x6_steadyWays_4 at h
    refine r_iload_n 3 hc dX6_steadyWays_4 rfl ?_
    refine r_iconst (v := 4) hc dX6_steadyWays_5 (by decide) ?_
    refine r_icmp_ge 79 hc dX6_steadyWays_6 (by decide) h (fun h => ?_) (fun h => ?_)
    · refine r_iload_n 2 hc dX6_steadyWays_79 rfl ?_
      exact r_iret hc dX6_steadyWays_80 h
    · refine r_aload_n 0 hc dX6_steadyWays_9 rfl ?_
      refine r_iload_n 1 hc dX6_steadyWays_10 rfl ?_
      refine r_iload_n 3 hc dX6_steadyWays_11 rfl ?_
      refine r_iadd hc dX6_steadyWays_12 ?_
      refine r_iald hc dX6_steadyWays_13 ho0 h (fun h => ?_)
      refine r_aload_n 0 hc dX6_steadyWays_14 rfl ?_
      refine r_iload_n 1 hc dX6_steadyWays_15 rfl ?_
      refine r_iload_n 3 hc dX6_steadyWays_16 rfl ?_
      refine r_iconst (v := 2) hc dX6_steadyWays_17 (by decide) ?_
      refine r_ixor hc dX6_steadyWays_18 ?_
      refine r_iadd hc dX6_steadyWays_19 ?_
      refine r_iald hc dX6_steadyWays_20 ho0 h (fun h => ?_)
      refine r_icmp_lt 28 hc dX6_steadyWays_21 (by decide) h (fun h => ?_) (fun h => ?_)
      · refine r_iconst (v := 0) hc dX6_steadyWays_28 (by decide) ?_
        exact u6_steadyWays_29 hc (ho0) ih h
      · refine r_iconst (v := 1) hc dX6_steadyWays_24 (by decide) ?_
        refine r_goto 29 hc dX6_steadyWays_25 (by decide) ?_
        exact u6_steadyWays_29 hc (ho0) ih h
set_option maxRecDepth 100000 in
set_option maxHeartbeats 4000000 in
theorem t6_steadyWays {l : Launch} {o0 : Nat} {i1 : Int32} {σ : St} {k : Int32 → St → Prop} (ho0 : kd o0 = 8) (h : x6_steadyWays o0 i1 σ k) : CI l yX6_steadyWays cX6_steadyWays 6 1 (some .int) (fun ad => [.ref (ad o0), .int i1]) σ k := by
  refine CI.of (lv := fun ad => [(0, .ref (ad o0)), (1, .int i1)]) (by decide) (fun _ => Nat.le_of_ble_eq_true rfl) (fun _ => rfl) (fun κ hc => ?_)
  show Wd κ 6 (QI κ k) 0 [(0, aK κ o0), (1, .int i1)] [] σ
  unfold x6_steadyWays at h
  refine r_iconst (v := 0) hc dX6_steadyWays_0 (by decide) ?_
  refine r_istore_n (lv' := [(2, .int 0), (0, aK κ o0), (1, .int i1)]) hc dX6_steadyWays_1 (by decide) rfl ?_
  refine r_iconst (v := 0) hc dX6_steadyWays_2 (by decide) ?_
  refine r_istore_n (lv' := [(3, .int 0), (2, .int 0), (0, aK κ o0), (1, .int i1)]) hc dX6_steadyWays_3 (by decide) rfl ?_
  refine r_sub [2, 3, 1, 0] rfl ?_
  obtain ⟨n0, h⟩ := h
  exact u6_steadyWays_4 hc (ho0) n0 _ _ _ h
set_option maxRecDepth 100000 in
set_option maxHeartbeats 4000000 in
theorem u6_rather_14 {κ : KT} {k : Int32 → St → Prop} {i1 : Int32} {i2 : Int32} {i3 : Int32}   {σ : St}  (hc : Cx κ cX6_rather 7 RX6 3 (some .int))    (h : x6_rather_14 i1 i2 i3 σ k) : Wd κ 7 (QI κ k) 14 [(0, aK κ 0), (1, .int i1), (2, .int i2), (3, .int i3)] [] σ := by
  unfold x6_rather_14 at h
  refine r_ldc hc dX6_rather_14 kX6_69 ?_
  exact r_iret hc dX6_rather_16 h
set_option maxRecDepth 100000 in
set_option maxHeartbeats 4000000 in
theorem u6_rather_120 {κ : KT} {k : Int32 → St → Prop} {i1 : Int32} {i2 : Int32} {i3 : Int32}  {s1 : Int32} {σ : St}  (hc : Cx κ cX6_rather 7 RX6 3 (some .int))    (h : x6_rather_120 i1 i2 i3 s1 σ k) : Wd κ 7 (QI κ k) 120 [(0, aK κ 0), (1, .int i1), (2, .int i2), (3, .int i3)] [.int s1, aK κ 0] σ := by
  unfold x6_rather_120 at h
  refine r_cvI [.int s1] hc dX6_rather_120 cX6_78 (t6_foundNone h) rfl (by decide) rfl rfl rfl rfl (Nat.le_of_ble_eq_true rfl) (by decide) (by decide) (fun r12 σ13 h => ?_)
  exact r_iret hc dX6_rather_123 h
set_option maxRecDepth 100000 in
set_option maxHeartbeats 4000000 in
theorem u6_rather_85 {κ : KT} {k : Int32 → St → Prop} {i1 : Int32} {i2 : Int32} {i3 : Int32}   {σ : St}  (hc : Cx κ cX6_rather 7 RX6 3 (some .int))    (h : x6_rather_85 i1 i2 i3 σ k) : Wd κ 7 (QI κ k) 85 [(0, aK κ 0), (1, .int i1), (2, .int i2), (3, .int i3)] [] σ := by
  unfold x6_rather_85 at h
  refine r_ldc hc dX6_rather_85 kX6_69 ?_
  exact r_iret hc dX6_rather_87 h
set_option maxRecDepth 100000 in
set_option maxHeartbeats 4000000 in
theorem u6_rather_50 {κ : KT} {k : Int32 → St → Prop} {i1 : Int32} {i2 : Int32} {i3 : Int32}   (hc : Cx κ cX6_rather 7 RX6 3 (some .int))   : ∀ (n : Nat) (o4 : Nat) (i6 : Int32) (σ : St), kd o4 = 4 → x6_rather_50 i1 i2 i3 k n o4 i6 σ → Wd κ 7 (QI κ k) 50 [(0, aK κ 0), (1, .int i1), (2, .int i2), (3, .int i3), (4, aK κ o4), (6, .int i6)] [] σ := by
  intro n
  induction n with
  | zero => intro o4 i6 σ ho4 h; exact h.elim
  | succ n ih =>
    intro o4 i6 σ ho4 h
    unfold x6_rather_50 at h
    refine r_iload 5 hc dX6_rather_50 rfl ?_
    refine r_iload_n 2 hc dX6_rather_52 rfl ?_
    refine r_bipush (v := 8) hc dX6_rather_53 (by decide) ?_
    refine r_iadd hc dX6_rather_55 ?_
    refine r_icmp_ge 94 hc dX6_rather_56 (by decide) h (fun h => ?_) (fun h => ?_)
    · refine r_aload 4 hc dX6_rather_94 rfl ?_
      refine r_get (K := 4) (f := 0) hc dX6_rather_96 fX6_85 inX4 rfl rfl (by decide) (by decide) ho4 rfl ?_
      refine r_iload_n 2 hc dX6_rather_99 rfl ?_
      refine r_csI [aK κ (o4 + 1), .int i2] hc dX6_rather_100 cX6_280 (t6_steadyWays (k4_1 ho4) h) rfl rfl rfl (Nat.le_of_ble_eq_true rfl) (by decide) (by decide) (fun r8 σ9 h => ?_)
      refine r_istore (lv' := [(6, .int r8), (0, aK κ 0), (1, .int i1), (2, .int i2), (3, .int i3), (4, aK κ o4)]) hc dX6_rather_103 (by decide) rfl ?_
      refine r_aload_n 1 hc dX6_rather_105 rfl ?_
      refine r_iload_n 4 hc dX6_rather_106 rfl ?_
      refine r_if_ne 118 hc dX6_rather_107 (by decide) h (fun h => ?_) (fun h => ?_)
      · refine r_iload 0 hc dX6_rather_110 rfl ?_
        refine r_csI [.int r8] hc dX6_rather_112 cX6_284 (tJ6_bitCount_0f7a4 h) rfl rfl rfl (Nat.le_of_ble_eq_true rfl) (by decide) (by decide) (fun r10 σ11 h => ?_)
        refine r_goto 120 hc dX6_rather_115 (by decide) ?_
        refine r_sub [1, 2, 3, 4] rfl ?_
        exact u6_rather_120 hc h
      · refine r_iload 0 hc dX6_rather_118 rfl ?_
        refine r_sub [1, 2, 3, 4] rfl ?_
        exact u6_rather_120 hc h
    · refine r_aload 4 hc dX6_rather_59 rfl ?_
      refine r_get (K := 4) (f := 0) hc dX6_rather_61 fX6_85 inX4 rfl rfl (by decide) (by decide) ho4 rfl ?_
      refine r_iload 5 hc dX6_rather_64 rfl ?_
      refine r_iald hc dX6_rather_66 (k4_1 ho4) h (fun h => ?_)
      refine r_bipush (v := (-20)) hc dX6_rather_67 (by decide) ?_
      refine r_icmp_lt 85 hc dX6_rather_69 (by decide) h (fun h => ?_) (fun h => ?_)
      · refine r_sub [0, 1, 2, 3] rfl ?_
        exact u6_rather_85 hc h
      · refine r_aload 4 hc dX6_rather_72 rfl ?_
        refine r_get (K := 4) (f := 0) hc dX6_rather_74 fX6_85 inX4 rfl rfl (by decide) (by decide) ho4 rfl ?_
        refine r_iload 5 hc dX6_rather_77 rfl ?_
        refine r_iald hc dX6_rather_79 (k4_1 ho4) h (fun h => ?_)
        refine r_bipush (v := 20) hc dX6_rather_80 (by decide) ?_
        refine r_icmp_le 88 hc dX6_rather_82 (by decide) h (fun h => ?_) (fun h => ?_)
        · refine r_iinc (v := 1) (lv' := [(6, .int (i6 + 1)), (0, aK κ 0), (1, .int i1), (2, .int i2), (3, .int i3), (4, aK κ o4)]) 5 hc dX6_rather_88 rfl (by decide) (by decide) rfl ?_
          refine r_goto 50 hc dX6_rather_91 (by decide) ?_
          refine r_sub [1, 2, 3, 4, 5, 0] rfl ?_
          exact ih _ _ _ (ho4) h
        · refine r_sub [0, 1, 2, 3] rfl ?_
          exact u6_rather_85 hc h
set_option maxRecDepth 100000 in
set_option maxHeartbeats 4000000 in
theorem t6_rather {l : Launch} {i1 : Int32} {i2 : Int32} {i3 : Int32} {σ : St} {k : Int32 → St → Prop}  (h : x6_rather i1 i2 i3 σ k) : CI l yX6_rather cX6_rather 7 3 (some .int) (fun ad => [.ref (ad 0), .int i1, .int i2, .int i3]) σ k := by
  refine CI.of (lv := fun ad => [(0, .ref (ad 0)), (1, .int i1), (2, .int i2), (3, .int i3)]) (by decide) (fun _ => Nat.le_of_ble_eq_true rfl) (fun _ => rfl) (fun κ hc => ?_)
  show Wd κ 7 (QI κ k) 0 [(0, aK κ 0), (1, .int i1), (2, .int i2), (3, .int i3)] [] σ
  unfold x6_rather at h
  refine r_iload_n 1 hc dX6_rather_0 rfl ?_
  refine r_csI [.int i1] hc dX6_rather_1 cX6_65 (t6_isRow h) rfl rfl rfl (Nat.le_of_ble_eq_true rfl) (by decide) (by decide) (fun r1 σ2 h => ?_)
  refine r_if_eq 14 hc dX6_rather_4 (by decide) h (fun h => ?_) (fun h => ?_)
  · exact u6_rather_14 hc h
  · refine r_iload_n 3 hc dX6_rather_7 rfl ?_
    refine r_csI [.int i3] hc dX6_rather_8 cX6_164 (t6_isBit h) rfl rfl rfl (Nat.le_of_ble_eq_true rfl) (by decide) (by decide) (fun r3 σ4 h => ?_)
    refine r_if_ne 17 hc dX6_rather_11 (by decide) h (fun h => ?_) (fun h => ?_)
    · exact u6_rather_14 hc h
    · refine r_aload_n 0 hc dX6_rather_17 rfl ?_
      refine r_get (K := 6) (f := 0) hc dX6_rather_18 fX6_11 inX6 rfl rfl (by decide) (by decide) rfl rfl ?_
      refine r_iload_n 1 hc dX6_rather_21 rfl ?_
      have hk5 := k_row h.1
      refine r_rows hc dX6_rather_22 h (fun h => ?_)
      refine r_astore (lv' := [(4, aK κ (2 + 2 * i1.toNatClampNeg)), (0, aK κ 0), (1, .int i1), (2, .int i2), (3, .int i3)]) hc dX6_rather_23 (by decide) rfl ?_
      refine r_aload 0 hc dX6_rather_25 rfl ?_
      refine r_iload_n 3 hc dX6_rather_27 rfl ?_
      refine r_bipush (v := 8) hc dX6_rather_28 (by decide) ?_
      refine r_csI [aK κ (2 + 2 * i1.toNatClampNeg), .int i2, .int 8] hc dX6_rather_30 cX6_81 (t6_findingAt hk5 h) rfl rfl rfl (Nat.le_of_ble_eq_true rfl) (by decide) (by decide) (fun r6 σ7 h => ?_)
      refine r_istore (lv' := [(5, .int r6), (4, aK κ (2 + 2 * i1.toNatClampNeg)), (0, aK κ 0), (1, .int i1), (2, .int i2), (3, .int i3)]) hc dX6_rather_33 (by decide) rfl ?_
      refine r_iload 0 hc dX6_rather_35 rfl ?_
      refine r_if_eq 47 hc dX6_rather_37 (by decide) h (fun h => ?_) (fun h => ?_)
      · refine r_iload_n 4 hc dX6_rather_47 rfl ?_
        refine r_istore (lv' := [(6, .int i2), (5, .int r6), (4, aK κ (2 + 2 * i1.toNatClampNeg)), (0, aK κ 0), (1, .int i1), (2, .int i2), (3, .int i3)]) hc dX6_rather_48 (by decide) rfl ?_
        refine r_sub [3, 4, 5, 6, 2, 0] rfl ?_
        obtain ⟨n0, h⟩ := h
        exact u6_rather_50 hc n0 _ _ _ (hk5) h
      · refine r_aload_n 2 hc dX6_rather_40 rfl ?_
        refine r_iload 0 hc dX6_rather_41 rfl ?_
        refine r_cvI [.int r6] hc dX6_rather_43 cX6_70 (t6_found h) rfl (by decide) rfl rfl rfl rfl (Nat.le_of_ble_eq_true rfl) (by decide) (by decide) (fun r14 σ15 h => ?_)
        exact r_iret hc dX6_rather_46 h
set_option maxRecDepth 100000 in
set_option maxHeartbeats 4000000 in
theorem u6_reaches_18 {κ : KT} {k : Int32 → St → Prop} {i1 : Int32} {i2 : Int32}   {σ : St}  (hc : Cx κ cX6_reaches 4 RX6 6 (some .int))    (h : x6_reaches_18 i1 i2 σ k) : Wd κ 4 (QI κ k) 18 [(0, aK κ 0), (1, .int i1), (2, .int i2)] [] σ := by
  unfold x6_reaches_18 at h
  refine r_ldc hc dX6_reaches_18 kX6_69 ?_
  exact r_iret hc dX6_reaches_20 h
set_option maxRecDepth 100000 in
set_option maxHeartbeats 4000000 in
theorem t6_reaches {l : Launch} {i1 : Int32} {i2 : Int32} {σ : St} {k : Int32 → St → Prop}  (h : x6_reaches i1 i2 σ k) : CI l yX6_reaches cX6_reaches 4 6 (some .int) (fun ad => [.ref (ad 0), .int i1, .int i2]) σ k := by
  refine CI.of (lv := fun ad => [(0, .ref (ad 0)), (1, .int i1), (2, .int i2)]) (by decide) (fun _ => Nat.le_of_ble_eq_true rfl) (fun _ => rfl) (fun κ hc => ?_)
  show Wd κ 4 (QI κ k) 0 [(0, aK κ 0), (1, .int i1), (2, .int i2)] [] σ
  unfold x6_reaches at h
  refine r_aload_n 0 hc dX6_reaches_0 rfl ?_
  refine r_get (K := 6) (f := 2) hc dX6_reaches_1 fX6_22 inX6 rfl rfl (by decide) (by decide) rfl rfl ?_
  refine r_iload_n 1 hc dX6_reaches_4 rfl ?_
  refine r_cvI [.int i1] hc dX6_reaches_5 cX6_147 (t5_hasDoor rfl h) rfl (by decide) rfl rfl rfl rfl (Nat.le_of_ble_eq_true rfl) (by decide) (by decide) (fun r1 σ2 h => ?_)
  refine r_if_eq 18 hc dX6_reaches_8 (by decide) h (fun h => ?_) (fun h => ?_)
  · exact u6_reaches_18 hc h
  · refine r_iload_n 2 hc dX6_reaches_11 rfl ?_
    refine r_csI [.int i2] hc dX6_reaches_12 cX6_164 (t6_isBit h) rfl rfl rfl (Nat.le_of_ble_eq_true rfl) (by decide) (by decide) (fun r3 σ4 h => ?_)
    refine r_if_ne 21 hc dX6_reaches_15 (by decide) h (fun h => ?_) (fun h => ?_)
    · exact u6_reaches_18 hc h
    · refine r_iload_n 2 hc dX6_reaches_21 rfl ?_
      refine r_if_ne 42 hc dX6_reaches_22 (by decide) h (fun h => ?_) (fun h => ?_)
      · refine r_bipush (v := 7) hc dX6_reaches_25 (by decide) ?_
        refine r_iload_n 1 hc dX6_reaches_27 rfl ?_
        refine r_ishl hc dX6_reaches_28 ?_
        refine r_iconst (v := 1) hc dX6_reaches_29 (by decide) ?_
        refine r_ishr hc dX6_reaches_30 ?_
        refine r_nmI h (fun v5 h => ?_)
        refine r_istore_n (lv' := [(3, .int v5), (0, aK κ 0), (1, .int i1), (2, .int i2)]) hc dX6_reaches_31 (by decide) rfl ?_
        refine r_iload_n 0 hc dX6_reaches_32 rfl ?_
        refine r_aload_n 1 hc dX6_reaches_33 rfl ?_
        refine r_get (K := 6) (f := 2) hc dX6_reaches_34 fX6_22 inX6 rfl rfl (by decide) (by decide) rfl rfl ?_
        refine r_cvI [] hc dX6_reaches_37 cX6_277 (t5_allDoors rfl h) rfl (by decide) rfl rfl rfl rfl (Nat.le_of_ble_eq_true rfl) (by decide) (by decide) (fun r6 σ7 h => ?_)
        refine r_iand hc dX6_reaches_40 ?_
        exact r_iret hc dX6_reaches_41 h
      · refine r_aload_n 0 hc dX6_reaches_42 rfl ?_
        refine r_get (K := 6) (f := 3) hc dX6_reaches_43 fX6_26 inX6 rfl rfl (by decide) (by decide) rfl rfl ?_
        refine r_aload_n 0 hc dX6_reaches_46 rfl ?_
        refine r_get (K := 6) (f := 2) hc dX6_reaches_47 fX6_22 inX6 rfl rfl (by decide) (by decide) rfl rfl ?_
        refine r_cvV [aK κ 19] hc dX6_reaches_50 cX6_130 (t5_takeOver rfl rfl h) rfl (by decide) rfl rfl rfl rfl (Nat.le_of_ble_eq_true rfl) (by decide) (by decide) (fun σ9 h => ?_)
        refine r_aload_n 0 hc dX6_reaches_53 rfl ?_
        refine r_get (K := 6) (f := 3) hc dX6_reaches_54 fX6_26 inX6 rfl rfl (by decide) (by decide) rfl rfl ?_
        refine r_get (K := 5) (f := 2) hc dX6_reaches_57 fX6_167 inX5 rfl rfl (by decide) (by decide) rfl rfl ?_
        refine r_iload_n 1 hc dX6_reaches_60 rfl ?_
        refine r_iconst (v := 0) hc dX6_reaches_61 (by decide) ?_
        refine r_iast hc dX6_reaches_62 (k5_3 rfl) h (fun h => ?_)
        refine r_nmS h (fun σ10 h => ?_)
        refine r_aload_n 0 hc dX6_reaches_63 rfl ?_
        refine r_get (K := 6) (f := 3) hc dX6_reaches_64 fX6_26 inX6 rfl rfl (by decide) (by decide) rfl rfl ?_
        refine r_get (K := 5) (f := 3) hc dX6_reaches_67 fX6_170 inX5 rfl rfl (by decide) (by decide) rfl rfl ?_
        refine r_iload_n 1 hc dX6_reaches_70 rfl ?_
        refine r_iconst (v := 0) hc dX6_reaches_71 (by decide) ?_
        refine r_iast hc dX6_reaches_72 (k5_4 rfl) h (fun h => ?_)
        refine r_nmS h (fun σ11 h => ?_)
        refine r_aload_n 0 hc dX6_reaches_73 rfl ?_
        refine r_get (K := 6) (f := 2) hc dX6_reaches_74 fX6_22 inX6 rfl rfl (by decide) (by decide) rfl rfl ?_
        refine r_cvI [] hc dX6_reaches_77 cX6_218 (t5_meetingNow rfl h) rfl (by decide) rfl rfl rfl rfl (Nat.le_of_ble_eq_true rfl) (by decide) (by decide) (fun r12 σ13 h => ?_)
        refine r_aload_n 0 hc dX6_reaches_80 rfl ?_
        refine r_get (K := 6) (f := 3) hc dX6_reaches_81 fX6_26 inX6 rfl rfl (by decide) (by decide) rfl rfl ?_
        refine r_cvI [] hc dX6_reaches_84 cX6_218 (t5_meetingNow rfl h) rfl (by decide) rfl rfl rfl rfl (Nat.le_of_ble_eq_true rfl) (by decide) (by decide) (fun r14 σ15 h => ?_)
        refine r_ixor hc dX6_reaches_87 ?_
        exact r_iret hc dX6_reaches_88 h
set_option maxRecDepth 100000 in
set_option maxHeartbeats 4000000 in
theorem t6_restore {l : Launch} {i1 : Int32} {σ : St} {k : Int32 → St → Prop}  (h : x6_restore i1 σ k) : CI l yX6_restore cX6_restore 2 2 (some .int) (fun ad => [.ref (ad 0), .int i1]) σ k := by
  refine CI.of (lv := fun ad => [(0, .ref (ad 0)), (1, .int i1)]) (by decide) (fun _ => Nat.le_of_ble_eq_true rfl) (fun _ => rfl) (fun κ hc => ?_)
  show Wd κ 2 (QI κ k) 0 [(0, aK κ 0), (1, .int i1)] [] σ
  unfold x6_restore at h
  refine r_iload_n 1 hc dX6_restore_0 rfl ?_
  refine r_csI [.int i1] hc dX6_restore_1 cX6_164 (t6_isBit h) rfl rfl rfl (Nat.le_of_ble_eq_true rfl) (by decide) (by decide) (fun r1 σ2 h => ?_)
  refine r_if_ne 10 hc dX6_restore_4 (by decide) h (fun h => ?_) (fun h => ?_)
  · refine r_ldc hc dX6_restore_7 kX6_69 ?_
    exact r_iret hc dX6_restore_9 h
  · refine r_aload_n 0 hc dX6_restore_10 rfl ?_
    refine r_get (K := 6) (f := 1) hc dX6_restore_11 fX6_17 inX6 rfl rfl (by decide) (by decide) rfl rfl ?_
    refine r_iload_n 1 hc dX6_restore_14 rfl ?_
    have hk3 := k_img h.1
    refine r_imgs hc dX6_restore_15 h (fun h => ?_)
    refine r_cvI [] hc dX6_restore_16 cX6_179 (t5_isTold hk3 h) rfl (by decide) hk3 rfl rfl rfl (Nat.le_of_ble_eq_true rfl) (by decide) (by decide) (fun r4 σ5 h => ?_)
    refine r_if_ne 25 hc dX6_restore_19 (by decide) h (fun h => ?_) (fun h => ?_)
    · refine r_ldc hc dX6_restore_22 kX6_143 ?_
      exact r_iret hc dX6_restore_24 h
    · refine r_aload_n 0 hc dX6_restore_25 rfl ?_
      refine r_get (K := 6) (f := 2) hc dX6_restore_26 fX6_22 inX6 rfl rfl (by decide) (by decide) rfl rfl ?_
      refine r_aload_n 0 hc dX6_restore_29 rfl ?_
      refine r_get (K := 6) (f := 1) hc dX6_restore_30 fX6_17 inX6 rfl rfl (by decide) (by decide) rfl rfl ?_
      refine r_iload_n 1 hc dX6_restore_33 rfl ?_
      have hk6 := k_img h.1
      refine r_imgs hc dX6_restore_34 h (fun h => ?_)
      refine r_cvV [aK κ (37 + 9 * i1.toNatClampNeg)] hc dX6_restore_35 cX6_130 (t5_takeOver rfl hk6 h) rfl (by decide) rfl rfl rfl rfl (Nat.le_of_ble_eq_true rfl) (by decide) (by decide) (fun σ8 h => ?_)
      refine r_aload_n 0 hc dX6_restore_38 rfl ?_
      refine r_get (K := 6) (f := 5) hc dX6_restore_39 fX6_39 inX6 rfl rfl (by decide) (by decide) rfl rfl ?_
      refine r_cvV [] hc dX6_restore_42 cX6_134 (t0_forgetAll h) rfl (by decide) rfl rfl rfl rfl (Nat.le_of_ble_eq_true rfl) (by decide) (by decide) (fun σ10 h => ?_)
      refine r_iconst (v := 1) hc dX6_restore_45 (by decide) ?_
      exact r_iret hc dX6_restore_46 h
set_option maxRecDepth 100000 in
set_option maxHeartbeats 4000000 in
theorem u6_row_22 {κ : KT} {k : Int32 → St → Prop} {i1 : Int32} {i2 : Int32} {i3 : Int32}   {σ : St}  (hc : Cx κ cX6_row 4 RX6 2 (some .int))    (h : x6_row_22 i1 i2 i3 σ k) : Wd κ 4 (QI κ k) 22 [(0, aK κ 0), (1, .int i1), (2, .int i2), (3, .int i3)] [] σ := by
  unfold x6_row_22 at h
  refine r_ldc hc dX6_row_22 kX6_69 ?_
  exact r_iret hc dX6_row_24 h
set_option maxRecDepth 100000 in
set_option maxHeartbeats 4000000 in
theorem t6_row {l : Launch} {i1 : Int32} {i2 : Int32} {i3 : Int32} {σ : St} {k : Int32 → St → Prop}  (h : x6_row i1 i2 i3 σ k) : CI l yX6_row cX6_row 4 2 (some .int) (fun ad => [.ref (ad 0), .int i1, .int i2, .int i3]) σ k := by
  refine CI.of (lv := fun ad => [(0, .ref (ad 0)), (1, .int i1), (2, .int i2), (3, .int i3)]) (by decide) (fun _ => Nat.le_of_ble_eq_true rfl) (fun _ => rfl) (fun κ hc => ?_)
  show Wd κ 4 (QI κ k) 0 [(0, aK κ 0), (1, .int i1), (2, .int i2), (3, .int i3)] [] σ
  unfold x6_row at h
  refine r_iload_n 1 hc dX6_row_0 rfl ?_
  refine r_csI [.int i1] hc dX6_row_1 cX6_65 (t6_isRow h) rfl rfl rfl (Nat.le_of_ble_eq_true rfl) (by decide) (by decide) (fun r1 σ2 h => ?_)
  refine r_if_eq 22 hc dX6_row_4 (by decide) h (fun h => ?_) (fun h => ?_)
  · exact u6_row_22 hc h
  · refine r_iload_n 2 hc dX6_row_7 rfl ?_
    refine r_if_lt 22 hc dX6_row_8 (by decide) h (fun h => ?_) (fun h => ?_)
    · exact u6_row_22 hc h
    · refine r_iload_n 2 hc dX6_row_11 rfl ?_
      refine r_iconst (v := 2) hc dX6_row_12 (by decide) ?_
      refine r_icmp_gt 22 hc dX6_row_13 (by decide) h (fun h => ?_) (fun h => ?_)
      · exact u6_row_22 hc h
      · refine r_iload_n 3 hc dX6_row_16 rfl ?_
        refine r_bipush (v := 40) hc dX6_row_17 (by decide) ?_
        refine r_icmp_le 25 hc dX6_row_19 (by decide) h (fun h => ?_) (fun h => ?_)
        · refine r_iload_n 3 hc dX6_row_25 rfl ?_
          refine r_if_ge 35 hc dX6_row_26 (by decide) h (fun h => ?_) (fun h => ?_)
          · refine r_aload_n 0 hc dX6_row_35 rfl ?_
            refine r_get (K := 6) (f := 0) hc dX6_row_36 fX6_11 inX6 rfl rfl (by decide) (by decide) rfl rfl ?_
            refine r_iload_n 1 hc dX6_row_39 rfl ?_
            have hk3 := k_row h.1
            refine r_rows hc dX6_row_40 h (fun h => ?_)
            refine r_iload_n 2 hc dX6_row_41 rfl ?_
            refine r_iload_n 3 hc dX6_row_42 rfl ?_
            refine r_cvV [.int i2, .int i3] hc dX6_row_43 cX6_74 (t4_begin hk3 h) rfl (by decide) hk3 rfl rfl rfl (Nat.le_of_ble_eq_true rfl) (by decide) (by decide) (fun σ5 h => ?_)
            refine r_aload_n 0 hc dX6_row_46 rfl ?_
            refine r_iload_n 3 hc dX6_row_47 rfl ?_
            refine r_cvI [.int i3] hc dX6_row_48 cX6_78 (t6_foundNone h) rfl (by decide) rfl rfl rfl rfl (Nat.le_of_ble_eq_true rfl) (by decide) (by decide) (fun r6 σ7 h => ?_)
            exact r_iret hc dX6_row_51 h
          · refine r_aload_n 0 hc dX6_row_29 rfl ?_
            refine r_iconst (v := 4) hc dX6_row_30 (by decide) ?_
            refine r_cvI [.int 4] hc dX6_row_31 cX6_70 (t6_found h) rfl (by decide) rfl rfl rfl rfl (Nat.le_of_ble_eq_true rfl) (by decide) (by decide) (fun r8 σ9 h => ?_)
            exact r_iret hc dX6_row_34 h
        · exact u6_row_22 hc h
set_option maxRecDepth 100000 in
set_option maxHeartbeats 4000000 in
theorem t6_set {l : Launch} {i1 : Int32} {i2 : Int32} {i3 : Int32} {σ : St} {k : Int32 → St → Prop}  (h : x6_set i1 i2 i3 σ k) : CI l yX6_set cX6_set 6 3 (some .int) (fun ad => [.ref (ad 0), .int i1, .int i2, .int i3]) σ k := by
  refine CI.of (lv := fun ad => [(0, .ref (ad 0)), (1, .int i1), (2, .int i2), (3, .int i3)]) (by decide) (fun _ => Nat.le_of_ble_eq_true rfl) (fun _ => rfl) (fun κ hc => ?_)
  show Wd κ 6 (QI κ k) 0 [(0, aK κ 0), (1, .int i1), (2, .int i2), (3, .int i3)] [] σ
  unfold x6_set at h
  refine r_iload_n 1 hc dX6_set_0 rfl ?_
  refine r_csI [.int i1] hc dX6_set_1 cX6_65 (t6_isRow h) rfl rfl rfl (Nat.le_of_ble_eq_true rfl) (by decide) (by decide) (fun r1 σ2 h => ?_)
  refine r_if_ne 10 hc dX6_set_4 (by decide) h (fun h => ?_) (fun h => ?_)
  · refine r_ldc hc dX6_set_7 kX6_69 ?_
    exact r_iret hc dX6_set_9 h
  · refine r_aload_n 0 hc dX6_set_10 rfl ?_
    refine r_get (K := 6) (f := 0) hc dX6_set_11 fX6_11 inX6 rfl rfl (by decide) (by decide) rfl rfl ?_
    refine r_iload_n 1 hc dX6_set_14 rfl ?_
    have hk3 := k_row h.1
    refine r_rows hc dX6_set_15 h (fun h => ?_)
    refine r_astore (lv' := [(4, aK κ (2 + 2 * i1.toNatClampNeg)), (0, aK κ 0), (1, .int i1), (2, .int i2), (3, .int i3)]) hc dX6_set_16 (by decide) rfl ?_
    refine r_aload 0 hc dX6_set_18 rfl ?_
    refine r_iload_n 3 hc dX6_set_20 rfl ?_
    refine r_iconst (v := 1) hc dX6_set_21 (by decide) ?_
    refine r_csI [aK κ (2 + 2 * i1.toNatClampNeg), .int i2, .int 1] hc dX6_set_22 cX6_81 (t6_findingAt hk3 h) rfl rfl rfl (Nat.le_of_ble_eq_true rfl) (by decide) (by decide) (fun r4 σ5 h => ?_)
    refine r_istore (lv' := [(5, .int r4), (4, aK κ (2 + 2 * i1.toNatClampNeg)), (0, aK κ 0), (1, .int i1), (2, .int i2), (3, .int i3)]) hc dX6_set_25 (by decide) rfl ?_
    refine r_iload 0 hc dX6_set_27 rfl ?_
    refine r_if_eq 39 hc dX6_set_29 (by decide) h (fun h => ?_) (fun h => ?_)
    · refine r_aload 1 hc dX6_set_39 rfl ?_
      refine r_get (K := 4) (f := 0) hc dX6_set_41 fX6_85 inX4 rfl rfl (by decide) (by decide) hk3 rfl ?_
      refine r_iload_n 4 hc dX6_set_44 rfl ?_
      refine r_aload 1 hc dX6_set_45 rfl ?_
      refine r_iload_n 5 hc dX6_set_47 rfl ?_
      refine r_cvI [.int i3] hc dX6_set_48 cX6_89 (t4_narrowed hk3 h) rfl (by decide) hk3 rfl rfl rfl (Nat.le_of_ble_eq_true rfl) (by decide) (by decide) (fun r6 σ7 h => ?_)
      refine r_iast hc dX6_set_51 (k4_1 hk3) h (fun h => ?_)
      refine r_nmS h (fun σ8 h => ?_)
      refine r_aload_n 2 hc dX6_set_52 rfl ?_
      refine r_aload 1 hc dX6_set_53 rfl ?_
      refine r_get (K := 4) (f := 0) hc dX6_set_55 fX6_85 inX4 rfl rfl (by decide) (by decide) hk3 rfl ?_
      refine r_iload_n 4 hc dX6_set_58 rfl ?_
      refine r_iald hc dX6_set_59 (k4_1 hk3) h (fun h => ?_)
      refine r_cvI [.int (σ8 ((2 + 2 * i1.toNatClampNeg) + 1) i2.toNatClampNeg)] hc dX6_set_60 cX6_78 (t6_foundNone h) rfl (by decide) rfl rfl rfl rfl (Nat.le_of_ble_eq_true rfl) (by decide) (by decide) (fun r9 σ10 h => ?_)
      exact r_iret hc dX6_set_63 h
    · refine r_aload_n 2 hc dX6_set_32 rfl ?_
      refine r_iload 0 hc dX6_set_33 rfl ?_
      refine r_cvI [.int r4] hc dX6_set_35 cX6_70 (t6_found h) rfl (by decide) rfl rfl rfl rfl (Nat.le_of_ble_eq_true rfl) (by decide) (by decide) (fun r11 σ12 h => ?_)
      exact r_iret hc dX6_set_38 h
set_option maxRecDepth 100000 in
set_option maxHeartbeats 4000000 in
theorem u6_sleeps_28 {κ : KT} {k : Int64 → St → Prop} {i1 : Int32} {i2 : Int32} {i3 : Int32}   {σ : St}  (hc : Cx κ cX6_sleeps 6 RX6 7 (some .long))    (h : x6_sleeps_28 i1 i2 i3 σ k) : Wd κ 6 (QL κ k) 28 [(0, aK κ 0), (1, .int i1), (2, .int i2), (3, .int i3)] [] σ := by
  unfold x6_sleeps_28 at h
  refine r_ldc2 hc dX6_sleeps_28 kX6_266 ?_
  exact r_lret hc dX6_sleeps_31 h
set_option maxRecDepth 100000 in
set_option maxHeartbeats 4000000 in
theorem u6_sleeps_66 {κ : KT} {k : Int64 → St → Prop} {i1 : Int32} {i2 : Int32} {i3 : Int32}  {i5 : Int32} {s0 : Int32} {σ : St}  (hc : Cx κ cX6_sleeps 6 RX6 7 (some .long))    (h : x6_sleeps_66 i1 i2 i3 i5 s0 σ k) : Wd κ 6 (QL κ k) 66 [(0, aK κ 0), (1, .int i1), (2, .int i2), (3, .int i3), (5, .int i5)] [.int s0] σ := by
  unfold x6_sleeps_66 at h
  refine r_iload 4 hc dX6_sleeps_66 rfl ?_
  refine r_idiv hc dX6_sleeps_68 h (fun h => ?_)
  refine r_i2l hc dX6_sleeps_69 ?_
  exact r_lret hc dX6_sleeps_70 h
set_option maxRecDepth 100000 in
set_option maxHeartbeats 4000000 in
theorem t6_sleeps {l : Launch} {i1 : Int32} {i2 : Int32} {i3 : Int32} {σ : St} {k : Int64 → St → Prop}  (h : x6_sleeps i1 i2 i3 σ k) : CL l yX6_sleeps cX6_sleeps 6 7 (some .long) (fun ad => [.ref (ad 0), .int i1, .int i2, .int i3]) σ k := by
  refine CL.of (lv := fun ad => [(0, .ref (ad 0)), (1, .int i1), (2, .int i2), (3, .int i3)]) (by decide) (fun _ => Nat.le_of_ble_eq_true rfl) (fun _ => rfl) (fun κ hc => ?_)
  show Wd κ 6 (QL κ k) 0 [(0, aK κ 0), (1, .int i1), (2, .int i2), (3, .int i3)] [] σ
  unfold x6_sleeps at h
  refine r_aload_n 0 hc dX6_sleeps_0 rfl ?_
  refine r_get (K := 6) (f := 2) hc dX6_sleeps_1 fX6_22 inX6 rfl rfl (by decide) (by decide) rfl rfl ?_
  refine r_iload_n 1 hc dX6_sleeps_4 rfl ?_
  refine r_cvI [.int i1] hc dX6_sleeps_5 cX6_200 (t5_hasCaller rfl h) rfl (by decide) rfl rfl rfl rfl (Nat.le_of_ble_eq_true rfl) (by decide) (by decide) (fun r1 σ2 h => ?_)
  refine r_if_eq 28 hc dX6_sleeps_8 (by decide) h (fun h => ?_) (fun h => ?_)
  · exact u6_sleeps_28 hc h
  · refine r_iload_n 2 hc dX6_sleeps_11 rfl ?_
    refine r_if_lt 28 hc dX6_sleeps_12 (by decide) h (fun h => ?_) (fun h => ?_)
    · exact u6_sleeps_28 hc h
    · refine r_iload_n 2 hc dX6_sleeps_15 rfl ?_
      refine r_bipush (v := 10) hc dX6_sleeps_16 (by decide) ?_
      refine r_icmp_gt 28 hc dX6_sleeps_18 (by decide) h (fun h => ?_) (fun h => ?_)
      · exact u6_sleeps_28 hc h
      · refine r_iload_n 3 hc dX6_sleeps_21 rfl ?_
        refine r_csI [.int i3] hc dX6_sleeps_22 cX6_164 (t6_isBit h) rfl rfl rfl (Nat.le_of_ble_eq_true rfl) (by decide) (by decide) (fun r3 σ4 h => ?_)
        refine r_if_ne 32 hc dX6_sleeps_25 (by decide) h (fun h => ?_) (fun h => ?_)
        · exact u6_sleeps_28 hc h
        · refine r_aload_n 0 hc dX6_sleeps_32 rfl ?_
          refine r_iload_n 1 hc dX6_sleeps_33 rfl ?_
          refine r_iload_n 2 hc dX6_sleeps_34 rfl ?_
          refine r_cvI [.int i1, .int i2] hc dX6_sleeps_35 cX6_268 (t6_meetingCases h) rfl (by decide) rfl rfl rfl rfl (Nat.le_of_ble_eq_true rfl) (by decide) (by decide) (fun r5 σ6 h => ?_)
          refine r_istore (lv' := [(4, .int r5), (0, aK κ 0), (1, .int i1), (2, .int i2), (3, .int i3)]) hc dX6_sleeps_38 (by decide) rfl ?_
          refine r_iconst (v := 1) hc dX6_sleeps_40 (by decide) ?_
          refine r_sipush (v := 1000) hc dX6_sleeps_41 (by decide) ?_
          refine r_iload 0 hc dX6_sleeps_44 rfl ?_
          refine r_csI [.int 1000, .int r5] hc dX6_sleeps_46 cX6_271 (t6_commonDivisor h) rfl rfl rfl (Nat.le_of_ble_eq_true rfl) (by decide) (by decide) (fun r7 σ8 h => ?_)
          refine r_max hc dX6_sleeps_49 mX6_274 wStat_max wIni_Math wCode_max (by decide) (Nat.le_of_ble_eq_true rfl) ?_
          refine r_nmI h (fun v9 h => ?_)
          refine r_istore (lv' := [(5, .int v9), (4, .int r5), (0, aK κ 0), (1, .int i1), (2, .int i2), (3, .int i3)]) hc dX6_sleeps_52 (by decide) rfl ?_
          refine r_iload_n 5 hc dX6_sleeps_54 rfl ?_
          refine r_if_ne 63 hc dX6_sleeps_55 (by decide) h (fun h => ?_) (fun h => ?_)
          · refine r_iload 1 hc dX6_sleeps_58 rfl ?_
            refine r_goto 66 hc dX6_sleeps_60 (by decide) ?_
            refine r_sub [2, 3, 4, 5, 0] rfl ?_
            exact u6_sleeps_66 hc h
          · refine r_sipush (v := 1000) hc dX6_sleeps_63 (by decide) ?_
            refine r_sub [2, 3, 4, 5, 0] rfl ?_
            exact u6_sleeps_66 hc h
set_option maxRecDepth 100000 in
set_option maxHeartbeats 4000000 in
theorem u6_soon_33 {κ : KT} {k : Int32 → St → Prop} {i1 : Int32}  {s0 : Int32} {σ : St}  (hc : Cx κ cX6_soon 2 RX6 6 (some .int))    (h : x6_soon_33 i1 s0 σ k) : Wd κ 2 (QI κ k) 33 [(0, aK κ 0), (1, .int i1)] [.int s0] σ := by
  unfold x6_soon_33 at h
  exact r_iret hc dX6_soon_33 h
set_option maxRecDepth 100000 in
set_option maxHeartbeats 4000000 in
theorem t6_soon {l : Launch} {i1 : Int32} {σ : St} {k : Int32 → St → Prop}  (h : x6_soon i1 σ k) : CI l yX6_soon cX6_soon 2 6 (some .int) (fun ad => [.ref (ad 0), .int i1]) σ k := by
  refine CI.of (lv := fun ad => [(0, .ref (ad 0)), (1, .int i1)]) (by decide) (fun _ => Nat.le_of_ble_eq_true rfl) (fun _ => rfl) (fun κ hc => ?_)
  show Wd κ 2 (QI κ k) 0 [(0, aK κ 0), (1, .int i1)] [] σ
  unfold x6_soon at h
  refine r_aload_n 0 hc dX6_soon_0 rfl ?_
  refine r_get (K := 6) (f := 2) hc dX6_soon_1 fX6_22 inX6 rfl rfl (by decide) (by decide) rfl rfl ?_
  refine r_iload_n 1 hc dX6_soon_4 rfl ?_
  refine r_cvI [.int i1] hc dX6_soon_5 cX6_200 (t5_hasCaller rfl h) rfl (by decide) rfl rfl rfl rfl (Nat.le_of_ble_eq_true rfl) (by decide) (by decide) (fun r1 σ2 h => ?_)
  refine r_if_eq 31 hc dX6_soon_8 (by decide) h (fun h => ?_) (fun h => ?_)
  · refine r_ldc hc dX6_soon_31 kX6_69 ?_
    exact u6_soon_33 hc h
  · refine r_aload_n 0 hc dX6_soon_11 rfl ?_
    refine r_get (K := 6) (f := 2) hc dX6_soon_12 fX6_22 inX6 rfl rfl (by decide) (by decide) rfl rfl ?_
    refine r_iload_n 1 hc dX6_soon_15 rfl ?_
    refine r_aload_n 0 hc dX6_soon_16 rfl ?_
    refine r_get (K := 6) (f := 2) hc dX6_soon_17 fX6_22 inX6 rfl rfl (by decide) (by decide) rfl rfl ?_
    refine r_get (K := 5) (f := 4) hc dX6_soon_20 fX6_224 inX5 rfl rfl (by decide) (by decide) rfl rfl ?_
    refine r_iload_n 1 hc dX6_soon_23 rfl ?_
    refine r_iald hc dX6_soon_24 (k5_5 rfl) h (fun h => ?_)
    refine r_cvI [.int i1, .int (σ2 (19 + 5) i1.toNatClampNeg)] hc dX6_soon_25 cX6_227 (t5_firstMeeting rfl h) rfl (by decide) rfl rfl rfl rfl (Nat.le_of_ble_eq_true rfl) (by decide) (by decide) (fun r3 σ4 h => ?_)
    refine r_goto 33 hc dX6_soon_28 (by decide) ?_
    exact u6_soon_33 hc h
set_option maxRecDepth 100000 in
set_option maxHeartbeats 4000000 in
theorem u6_sound_25 {κ : KT} {k : Int32 → St → Prop} {i1 : Int32} {i2 : Int32} {i3 : Int32}   {σ : St}  (hc : Cx κ cX6_sound 5 RX6 3 (some .int))    (h : x6_sound_25 i1 i2 i3 σ k) : Wd κ 5 (QI κ k) 25 [(0, aK κ 0), (1, .int i1), (2, .int i2), (3, .int i3)] [] σ := by
  unfold x6_sound_25 at h
  refine r_ldc hc dX6_sound_25 kX6_69 ?_
  exact r_iret hc dX6_sound_27 h
set_option maxRecDepth 100000 in
set_option maxHeartbeats 4000000 in
theorem u6_sound_87 {κ : KT} {k : Int32 → St → Prop} {i1 : Int32} {i2 : Int32} {i3 : Int32}  {o4 : Nat} {σ : St}  (hc : Cx κ cX6_sound 5 RX6 3 (some .int))   (ho4 : kd o4 = 8) (h : x6_sound_87 i1 i2 i3 o4 σ k) : Wd κ 5 (QI κ k) 87 [(0, aK κ 0), (1, .int i1), (2, .int i2), (3, .int i3), (4, aK κ o4)] [] σ := by
  unfold x6_sound_87 at h
  refine r_aload 4 hc dX6_sound_87 rfl ?_
  refine r_iload_n 1 hc dX6_sound_89 rfl ?_
  refine r_iload_n 3 hc dX6_sound_90 rfl ?_
  refine r_iast hc dX6_sound_91 ho4 h (fun h => ?_)
  refine r_nmS h (fun σ9 h => ?_)
  refine r_aload_n 0 hc dX6_sound_92 rfl ?_
  refine r_get (K := 6) (f := 5) hc dX6_sound_93 fX6_39 inX6 rfl rfl (by decide) (by decide) rfl rfl ?_
  refine r_iload_n 2 hc dX6_sound_96 rfl ?_
  refine r_iload_n 1 hc dX6_sound_97 rfl ?_
  refine r_iconst (v := 1) hc dX6_sound_98 (by decide) ?_
  refine r_iload_n 3 hc dX6_sound_99 rfl ?_
  refine r_isub hc dX6_sound_100 ?_
  refine r_cvV [.int i2, .int i1, .int (1 - i3)] hc dX6_sound_101 cX6_160 (t0_keep h) rfl (by decide) rfl rfl rfl rfl (Nat.le_of_ble_eq_true rfl) (by decide) (by decide) (fun σ11 h => ?_)
  refine r_aload_n 0 hc dX6_sound_104 rfl ?_
  refine r_get (K := 6) (f := 2) hc dX6_sound_105 fX6_22 inX6 rfl rfl (by decide) (by decide) rfl rfl ?_
  refine r_cvI [] hc dX6_sound_108 cX6_173 (t5_usedSounds rfl h) rfl (by decide) rfl rfl rfl rfl (Nat.le_of_ble_eq_true rfl) (by decide) (by decide) (fun r12 σ13 h => ?_)
  exact r_iret hc dX6_sound_111 h
set_option maxRecDepth 100000 in
set_option maxHeartbeats 4000000 in
theorem u6_sound_49 {κ : KT} {k : Int32 → St → Prop} {i1 : Int32} {i2 : Int32} {i3 : Int32}  {so0 : Nat} {σ : St}  (hc : Cx κ cX6_sound 5 RX6 3 (some .int))   (hso0 : kd so0 = 8) (h : x6_sound_49 i1 i2 i3 so0 σ k) : Wd κ 5 (QI κ k) 49 [(0, aK κ 0), (1, .int i1), (2, .int i2), (3, .int i3)] [aK κ so0] σ := by
  unfold x6_sound_49 at h
  refine r_astore (lv' := [(4, aK κ so0), (0, aK κ 0), (1, .int i1), (2, .int i2), (3, .int i3)]) hc dX6_sound_49 (by decide) rfl ?_
  refine r_aload 0 hc dX6_sound_51 rfl ?_
  refine r_iload_n 2 hc dX6_sound_53 rfl ?_
  refine r_iald hc dX6_sound_54 hso0 h (fun h => ?_)
  refine r_iload_n 4 hc dX6_sound_55 rfl ?_
  refine r_icmp_ne 62 hc dX6_sound_56 (by decide) h (fun h => ?_) (fun h => ?_)
  · refine r_ldc hc dX6_sound_59 kX6_143 ?_
    exact r_iret hc dX6_sound_61 h
  · refine r_iload_n 4 hc dX6_sound_62 rfl ?_
    refine r_iconst (v := 1) hc dX6_sound_63 (by decide) ?_
    refine r_icmp_ne 87 hc dX6_sound_64 (by decide) h (fun h => ?_) (fun h => ?_)
    · refine r_aload_n 1 hc dX6_sound_67 rfl ?_
      refine r_get (K := 6) (f := 2) hc dX6_sound_68 fX6_22 inX6 rfl rfl (by decide) (by decide) rfl rfl ?_
      refine r_cvI [] hc dX6_sound_71 cX6_173 (t5_usedSounds rfl h) rfl (by decide) rfl rfl rfl rfl (Nat.le_of_ble_eq_true rfl) (by decide) (by decide) (fun r7 σ8 h => ?_)
      refine r_aload_n 1 hc dX6_sound_74 rfl ?_
      refine r_get (K := 6) (f := 2) hc dX6_sound_75 fX6_22 inX6 rfl rfl (by decide) (by decide) rfl rfl ?_
      refine r_get (K := 5) (f := 11) hc dX6_sound_78 fX6_176 inX5 rfl rfl (by decide) (by decide) rfl rfl ?_
      refine r_icmp_lt 87 hc dX6_sound_81 (by decide) h (fun h => ?_) (fun h => ?_)
      · refine r_sub [1, 2, 3, 4, 0] rfl ?_
        exact u6_sound_87 hc (hso0) h
      · refine r_ldc hc dX6_sound_84 kX6_118 ?_
        exact r_iret hc dX6_sound_86 h
    · refine r_sub [1, 2, 3, 4, 0] rfl ?_
      exact u6_sound_87 hc (hso0) h
set_option maxRecDepth 100000 in
set_option maxHeartbeats 4000000 in
theorem t6_sound {l : Launch} {i1 : Int32} {i2 : Int32} {i3 : Int32} {σ : St} {k : Int32 → St → Prop}  (h : x6_sound i1 i2 i3 σ k) : CI l yX6_sound cX6_sound 5 3 (some .int) (fun ad => [.ref (ad 0), .int i1, .int i2, .int i3]) σ k := by
  refine CI.of (lv := fun ad => [(0, .ref (ad 0)), (1, .int i1), (2, .int i2), (3, .int i3)]) (by decide) (fun _ => Nat.le_of_ble_eq_true rfl) (fun _ => rfl) (fun κ hc => ?_)
  show Wd κ 5 (QI κ k) 0 [(0, aK κ 0), (1, .int i1), (2, .int i2), (3, .int i3)] [] σ
  unfold x6_sound at h
  refine r_aload_n 0 hc dX6_sound_0 rfl ?_
  refine r_get (K := 6) (f := 2) hc dX6_sound_1 fX6_22 inX6 rfl rfl (by decide) (by decide) rfl rfl ?_
  refine r_iload_n 1 hc dX6_sound_4 rfl ?_
  refine r_cvI [.int i1] hc dX6_sound_5 cX6_147 (t5_hasDoor rfl h) rfl (by decide) rfl rfl rfl rfl (Nat.le_of_ble_eq_true rfl) (by decide) (by decide) (fun r1 σ2 h => ?_)
  refine r_if_eq 25 hc dX6_sound_8 (by decide) h (fun h => ?_) (fun h => ?_)
  · exact u6_sound_25 hc h
  · refine r_iload_n 2 hc dX6_sound_11 rfl ?_
    refine r_csI [.int i2] hc dX6_sound_12 cX6_164 (t6_isBit h) rfl rfl rfl (Nat.le_of_ble_eq_true rfl) (by decide) (by decide) (fun r3 σ4 h => ?_)
    refine r_if_eq 25 hc dX6_sound_15 (by decide) h (fun h => ?_) (fun h => ?_)
    · exact u6_sound_25 hc h
    · refine r_iload_n 3 hc dX6_sound_18 rfl ?_
      refine r_csI [.int i3] hc dX6_sound_19 cX6_164 (t6_isBit h) rfl rfl rfl (Nat.le_of_ble_eq_true rfl) (by decide) (by decide) (fun r5 σ6 h => ?_)
      refine r_if_ne 28 hc dX6_sound_22 (by decide) h (fun h => ?_) (fun h => ?_)
      · exact u6_sound_25 hc h
      · refine r_iload_n 2 hc dX6_sound_28 rfl ?_
        refine r_if_ne 42 hc dX6_sound_29 (by decide) h (fun h => ?_) (fun h => ?_)
        · refine r_aload_n 0 hc dX6_sound_32 rfl ?_
          refine r_get (K := 6) (f := 2) hc dX6_sound_33 fX6_22 inX6 rfl rfl (by decide) (by decide) rfl rfl ?_
          refine r_get (K := 5) (f := 2) hc dX6_sound_36 fX6_167 inX5 rfl rfl (by decide) (by decide) rfl rfl ?_
          refine r_goto 49 hc dX6_sound_39 (by decide) ?_
          exact u6_sound_49 hc (k5_3 rfl) h
        · refine r_aload_n 0 hc dX6_sound_42 rfl ?_
          refine r_get (K := 6) (f := 2) hc dX6_sound_43 fX6_22 inX6 rfl rfl (by decide) (by decide) rfl rfl ?_
          refine r_get (K := 5) (f := 3) hc dX6_sound_46 fX6_170 inX5 rfl rfl (by decide) (by decide) rfl rfl ?_
          exact u6_sound_49 hc (k5_4 rfl) h
set_option maxRecDepth 100000 in
set_option maxHeartbeats 4000000 in
theorem t6_status {l : Launch}  {σ : St} {k : Int32 → St → Prop}  (h : x6_status  σ k) : CI l yX6_status cX6_status 1 1 (some .int) (fun ad => [.ref (ad 0)]) σ k := by
  refine CI.of (lv := fun ad => [(0, .ref (ad 0))]) (by decide) (fun _ => Nat.le_of_ble_eq_true rfl) (fun _ => rfl) (fun κ hc => ?_)
  show Wd κ 1 (QI κ k) 0 [(0, aK κ 0)] [] σ
  unfold x6_status at h
  refine r_aload_n 0 hc dX6_status_0 rfl ?_
  refine r_get (K := 6) (f := 9) hc dX6_status_1 fX6_61 inX6 rfl rfl (by decide) (by decide) rfl rfl ?_
  exact r_iret hc dX6_status_4 h
set_option maxRecDepth 100000 in
set_option maxHeartbeats 4000000 in
theorem t6_street {l : Launch}  {σ : St} {k : Int32 → St → Prop}  (h : x6_street  σ k) : CI l yX6_street cX6_street 2 6 (some .int) (fun ad => [.ref (ad 0)]) σ k := by
  refine CI.of (lv := fun ad => [(0, .ref (ad 0))]) (by decide) (fun _ => Nat.le_of_ble_eq_true rfl) (fun _ => rfl) (fun κ hc => ?_)
  show Wd κ 2 (QI κ k) 0 [(0, aK κ 0)] [] σ
  unfold x6_street at h
  refine r_aload_n 0 hc dX6_street_0 rfl ?_
  refine r_get (K := 6) (f := 4) hc dX6_street_1 fX6_32 inX6 rfl rfl (by decide) (by decide) rfl rfl ?_
  refine r_aload_n 0 hc dX6_street_4 rfl ?_
  refine r_get (K := 6) (f := 3) hc dX6_street_5 fX6_26 inX6 rfl rfl (by decide) (by decide) rfl rfl ?_
  refine r_cvI [aK κ 28] hc dX6_street_8 cX6_119 (t3_readInto rfl h) rfl (by decide) rfl rfl rfl rfl (Nat.le_of_ble_eq_true rfl) (by decide) (by decide) (fun r1 σ2 h => ?_)
  refine r_istore_n (lv' := [(1, .int r1), (0, aK κ 0)]) hc dX6_street_11 (by decide) rfl ?_
  refine r_aload_n 1 hc dX6_street_12 rfl ?_
  refine r_get (K := 6) (f := 4) hc dX6_street_13 fX6_32 inX6 rfl rfl (by decide) (by decide) rfl rfl ?_
  refine r_iconst (v := 0) hc dX6_street_16 (by decide) ?_
  refine r_put (K := 3) (f := 1) hc dX6_street_17 fX6_115 inX3 tyX3_ok nmX3 rfl rfl rfl rfl (by decide) (by decide) rfl rfl ?_
  refine r_nmS h (fun σ3 h => ?_)
  refine r_iload_n 0 hc dX6_street_20 rfl ?_
  refine r_if_ne 46 hc dX6_street_21 (by decide) h (fun h => ?_) (fun h => ?_)
  · refine r_aload_n 1 hc dX6_street_24 rfl ?_
    refine r_aload_n 1 hc dX6_street_25 rfl ?_
    refine r_get (K := 6) (f := 4) hc dX6_street_26 fX6_32 inX6 rfl rfl (by decide) (by decide) rfl rfl ?_
    refine r_get (K := 3) (f := 4) hc dX6_street_29 fX6_123 inX3 rfl rfl (by decide) (by decide) rfl rfl ?_
    refine r_put (K := 6) (f := 8) hc dX6_street_32 fX6_57 inX6 tyX6_ok nmX6 rfl rfl rfl rfl (by decide) (by decide) rfl rfl ?_
    refine r_nmS h (fun σ4 h => ?_)
    refine r_ldc hc dX6_street_35 kX6_126 ?_
    refine r_aload_n 1 hc dX6_street_37 rfl ?_
    refine r_get (K := 6) (f := 4) hc dX6_street_38 fX6_32 inX6 rfl rfl (by decide) (by decide) rfl rfl ?_
    refine r_get (K := 3) (f := 3) hc dX6_street_41 fX6_127 inX3 rfl rfl (by decide) (by decide) rfl rfl ?_
    refine r_isub hc dX6_street_44 ?_
    exact r_iret hc dX6_street_45 h
  · refine r_aload_n 1 hc dX6_street_46 rfl ?_
    refine r_get (K := 6) (f := 2) hc dX6_street_47 fX6_22 inX6 rfl rfl (by decide) (by decide) rfl rfl ?_
    refine r_aload_n 1 hc dX6_street_50 rfl ?_
    refine r_get (K := 6) (f := 3) hc dX6_street_51 fX6_26 inX6 rfl rfl (by decide) (by decide) rfl rfl ?_
    refine r_cvV [aK κ 28] hc dX6_street_54 cX6_130 (t5_takeOver rfl rfl h) rfl (by decide) rfl rfl rfl rfl (Nat.le_of_ble_eq_true rfl) (by decide) (by decide) (fun σ6 h => ?_)
    refine r_aload_n 1 hc dX6_street_57 rfl ?_
    refine r_get (K := 6) (f := 5) hc dX6_street_58 fX6_39 inX6 rfl rfl (by decide) (by decide) rfl rfl ?_
    refine r_cvV [] hc dX6_street_61 cX6_134 (t0_forgetAll h) rfl (by decide) rfl rfl rfl rfl (Nat.le_of_ble_eq_true rfl) (by decide) (by decide) (fun σ8 h => ?_)
    refine r_aload_n 1 hc dX6_street_64 rfl ?_
    refine r_get (K := 6) (f := 2) hc dX6_street_65 fX6_22 inX6 rfl rfl (by decide) (by decide) rfl rfl ?_
    refine r_get (K := 5) (f := 9) hc dX6_street_68 fX6_137 inX5 rfl rfl (by decide) (by decide) rfl rfl ?_
    exact r_iret hc dX6_street_71 h
set_option maxRecDepth 100000 in
set_option maxHeartbeats 4000000 in
theorem u6_stretch_20 {κ : KT} {k : Int32 → St → Prop} {i1 : Int32} {i2 : Int32}   {σ : St}  (hc : Cx κ cX6_stretch 4 RX6 3 (some .int))    (h : x6_stretch_20 i1 i2 σ k) : Wd κ 4 (QI κ k) 20 [(0, aK κ 0), (1, .int i1), (2, .int i2)] [] σ := by
  unfold x6_stretch_20 at h
  refine r_ldc hc dX6_stretch_20 kX6_69 ?_
  exact r_iret hc dX6_stretch_22 h
set_option maxRecDepth 100000 in
set_option maxHeartbeats 4000000 in
theorem t6_stretch {l : Launch} {i1 : Int32} {i2 : Int32} {σ : St} {k : Int32 → St → Prop}  (h : x6_stretch i1 i2 σ k) : CI l yX6_stretch cX6_stretch 4 3 (some .int) (fun ad => [.ref (ad 0), .int i1, .int i2]) σ k := by
  refine CI.of (lv := fun ad => [(0, .ref (ad 0)), (1, .int i1), (2, .int i2)]) (by decide) (fun _ => Nat.le_of_ble_eq_true rfl) (fun _ => rfl) (fun κ hc => ?_)
  show Wd κ 4 (QI κ k) 0 [(0, aK κ 0), (1, .int i1), (2, .int i2)] [] σ
  unfold x6_stretch at h
  refine r_aload_n 0 hc dX6_stretch_0 rfl ?_
  refine r_get (K := 6) (f := 2) hc dX6_stretch_1 fX6_22 inX6 rfl rfl (by decide) (by decide) rfl rfl ?_
  refine r_iload_n 1 hc dX6_stretch_4 rfl ?_
  refine r_cvI [.int i1] hc dX6_stretch_5 cX6_147 (t5_hasDoor rfl h) rfl (by decide) rfl rfl rfl rfl (Nat.le_of_ble_eq_true rfl) (by decide) (by decide) (fun r1 σ2 h => ?_)
  refine r_if_eq 20 hc dX6_stretch_8 (by decide) h (fun h => ?_) (fun h => ?_)
  · exact u6_stretch_20 hc h
  · refine r_iload_n 2 hc dX6_stretch_11 rfl ?_
    refine r_if_lt 20 hc dX6_stretch_12 (by decide) h (fun h => ?_) (fun h => ?_)
    · exact u6_stretch_20 hc h
    · refine r_iload_n 2 hc dX6_stretch_15 rfl ?_
      refine r_iconst (v := 5) hc dX6_stretch_16 (by decide) ?_
      refine r_icmp_le 23 hc dX6_stretch_17 (by decide) h (fun h => ?_) (fun h => ?_)
      · refine r_aload_n 0 hc dX6_stretch_23 rfl ?_
        refine r_get (K := 6) (f := 2) hc dX6_stretch_24 fX6_22 inX6 rfl rfl (by decide) (by decide) rfl rfl ?_
        refine r_get (K := 5) (f := 1) hc dX6_stretch_27 fX6_150 inX5 rfl rfl (by decide) (by decide) rfl rfl ?_
        refine r_iload_n 1 hc dX6_stretch_30 rfl ?_
        refine r_iald hc dX6_stretch_31 (k5_2 rfl) h (fun h => ?_)
        refine r_nmI h (fun v3 h => ?_)
        refine r_istore_n (lv' := [(3, .int v3), (0, aK κ 0), (1, .int i1), (2, .int i2)]) hc dX6_stretch_32 (by decide) rfl ?_
        refine r_aload_n 1 hc dX6_stretch_33 rfl ?_
        refine r_get (K := 6) (f := 2) hc dX6_stretch_34 fX6_22 inX6 rfl rfl (by decide) (by decide) rfl rfl ?_
        refine r_cvI [] hc dX6_stretch_37 cX6_153 (t5_usedSeconds rfl h) rfl (by decide) rfl rfl rfl rfl (Nat.le_of_ble_eq_true rfl) (by decide) (by decide) (fun r4 σ5 h => ?_)
        refine r_iload_n 0 hc dX6_stretch_40 rfl ?_
        refine r_isub hc dX6_stretch_41 ?_
        refine r_iload_n 3 hc dX6_stretch_42 rfl ?_
        refine r_iadd hc dX6_stretch_43 ?_
        refine r_aload_n 1 hc dX6_stretch_44 rfl ?_
        refine r_get (K := 6) (f := 2) hc dX6_stretch_45 fX6_22 inX6 rfl rfl (by decide) (by decide) rfl rfl ?_
        refine r_get (K := 5) (f := 10) hc dX6_stretch_48 fX6_157 inX5 rfl rfl (by decide) (by decide) rfl rfl ?_
        refine r_icmp_le 57 hc dX6_stretch_51 (by decide) h (fun h => ?_) (fun h => ?_)
        · refine r_aload_n 1 hc dX6_stretch_57 rfl ?_
          refine r_get (K := 6) (f := 2) hc dX6_stretch_58 fX6_22 inX6 rfl rfl (by decide) (by decide) rfl rfl ?_
          refine r_get (K := 5) (f := 1) hc dX6_stretch_61 fX6_150 inX5 rfl rfl (by decide) (by decide) rfl rfl ?_
          refine r_iload_n 2 hc dX6_stretch_64 rfl ?_
          refine r_iload_n 3 hc dX6_stretch_65 rfl ?_
          refine r_iast hc dX6_stretch_66 (k5_2 rfl) h (fun h => ?_)
          refine r_nmS h (fun σ6 h => ?_)
          refine r_aload_n 1 hc dX6_stretch_67 rfl ?_
          refine r_get (K := 6) (f := 5) hc dX6_stretch_68 fX6_39 inX6 rfl rfl (by decide) (by decide) rfl rfl ?_
          refine r_iconst (v := 2) hc dX6_stretch_71 (by decide) ?_
          refine r_iload_n 2 hc dX6_stretch_72 rfl ?_
          refine r_iload_n 0 hc dX6_stretch_73 rfl ?_
          refine r_cvV [.int 2, .int i1, .int v3] hc dX6_stretch_74 cX6_160 (t0_keep h) rfl (by decide) rfl rfl rfl rfl (Nat.le_of_ble_eq_true rfl) (by decide) (by decide) (fun σ8 h => ?_)
          refine r_iload_n 0 hc dX6_stretch_77 rfl ?_
          exact r_iret hc dX6_stretch_78 h
        · refine r_ldc hc dX6_stretch_54 kX6_118 ?_
          exact r_iret hc dX6_stretch_56 h
      · exact u6_stretch_20 hc h
