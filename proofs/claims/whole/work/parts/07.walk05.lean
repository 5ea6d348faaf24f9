set_option maxRecDepth 100000 in
set_option maxHeartbeats 4000000 in
theorem u7_fits_127 {κ : KT} {k : Int32 → St → Prop} {i1 : Int32} {i2 : Int32} {i3 : Int32} {i4 : Int32} {i5 : Int32} {i6 : Int32} {R23 : Int32 → Int32 → Int32 → St → Prop} {i8 : Int32} {i9 : Int32} {s0 : Int32} {σ : St}  (hc : Cx κ cX7_fits 11 RX7 2 (some .boolean))  (hR23 : ∀ (i7 : Int32) (i8 : Int32) (i9 : Int32) (σ : St), R23 i7 i8 i9 σ → Wd κ 11 (QI κ k) 23 [(0, aK κ 65), (1, .int i1), (2, .int i2), (3, .int i3), (4, .int i4), (5, .int i5), (6, .int i6), (7, .int i7), (8, .int i8), (9, .int i9)] [] σ)  (h : x7_fits_127 i1 i2 i3 i4 i5 i6 R23 i8 i9 s0 σ k) : Wd κ 11 (QI κ k) 127 [(0, aK κ 65), (1, .int i1), (2, .int i2), (3, .int i3), (4, .int i4), (5, .int i5), (6, .int i6), (8, .int i8), (9, .int i9)] [.int s0] σ := by
  unfold x7_fits_127 at h
  refine r_istore (lv' := [(7, .int s0), (0, aK κ 65), (1, .int i1), (2, .int i2), (3, .int i3), (4, .int i4), (5, .int i5), (6, .int i6), (8, .int i8), (9, .int i9)]) hc dX7_fits_127 (by decide) rfl ?_
  refine r_iinc (v := 1) (lv' := [(9, .int (i9 + 1)), (7, .int s0), (0, aK κ 65), (1, .int i1), (2, .int i2), (3, .int i3), (4, .int i4), (5, .int i5), (6, .int i6), (8, .int i8)]) 9 hc dX7_fits_129 rfl (by decide) (by decide) rfl ?_
  refine r_goto 23 hc dX7_fits_132 (by decide) ?_
  refine r_sub [2, 3, 4, 5, 6, 7, 8, 1, 9, 0] rfl ?_
  exact hR23 _ _ _ _ h
set_option maxRecDepth 100000 in
set_option maxHeartbeats 4000000 in
theorem u7_fits_126 {κ : KT} {k : Int32 → St → Prop} {i1 : Int32} {i2 : Int32} {i3 : Int32} {i4 : Int32} {i5 : Int32} {i6 : Int32} {R23 : Int32 → Int32 → Int32 → St → Prop} {i8 : Int32} {i9 : Int32} {σ : St}  (hc : Cx κ cX7_fits 11 RX7 2 (some .boolean))  (hR23 : ∀ (i7 : Int32) (i8 : Int32) (i9 : Int32) (σ : St), R23 i7 i8 i9 σ → Wd κ 11 (QI κ k) 23 [(0, aK κ 65), (1, .int i1), (2, .int i2), (3, .int i3), (4, .int i4), (5, .int i5), (6, .int i6), (7, .int i7), (8, .int i8), (9, .int i9)] [] σ)  (h : x7_fits_126 i1 i2 i3 i4 i5 i6 R23 i8 i9 σ k) : Wd κ 11 (QI κ k) 126 [(0, aK κ 65), (1, .int i1), (2, .int i2), (3, .int i3), (4, .int i4), (5, .int i5), (6, .int i6), (8, .int i8), (9, .int i9)] [] σ := by
  unfold x7_fits_126 at h
  refine r_iconst (v := 0) hc dX7_fits_126 (by decide) ?_
  exact u7_fits_127 hc hR23 h
set_option maxRecDepth 100000 in
set_option maxHeartbeats 4000000 in
theorem u7_fits_122 {κ : KT} {k : Int32 → St → Prop} {i1 : Int32} {i2 : Int32} {i3 : Int32} {i4 : Int32} {i5 : Int32} {i6 : Int32} {R23 : Int32 → Int32 → Int32 → St → Prop} {i8 : Int32} {i9 : Int32} {σ : St}  (hc : Cx κ cX7_fits 11 RX7 2 (some .boolean))  (hR23 : ∀ (i7 : Int32) (i8 : Int32) (i9 : Int32) (σ : St), R23 i7 i8 i9 σ → Wd κ 11 (QI κ k) 23 [(0, aK κ 65), (1, .int i1), (2, .int i2), (3, .int i3), (4, .int i4), (5, .int i5), (6, .int i6), (7, .int i7), (8, .int i8), (9, .int i9)] [] σ)  (h : x7_fits_122 i1 i2 i3 i4 i5 i6 R23 i8 i9 σ k) : Wd κ 11 (QI κ k) 122 [(0, aK κ 65), (1, .int i1), (2, .int i2), (3, .int i3), (4, .int i4), (5, .int i5), (6, .int i6), (8, .int i8), (9, .int i9)] [] σ := by
  unfold x7_fits_122 at h
  refine r_iconst (v := 1) hc dX7_fits_122 (by decide) ?_
  refine r_goto 127 hc dX7_fits_123 (by decide) ?_
  exact u7_fits_127 hc hR23 h
set_option maxRecDepth 100000 in
set_option maxHeartbeats 4000000 in
theorem u7_fits_107 {κ : KT} {k : Int32 → St → Prop} {i1 : Int32} {i2 : Int32} {i3 : Int32} {i4 : Int32} {i5 : Int32} {i6 : Int32} {R23 : Int32 → Int32 → Int32 → St → Prop} {i8 : Int32} {i9 : Int32} {i10 : Int32} {σ : St}  (hc : Cx κ cX7_fits 11 RX7 2 (some .boolean))  (hR23 : ∀ (i7 : Int32) (i8 : Int32) (i9 : Int32) (σ : St), R23 i7 i8 i9 σ → Wd κ 11 (QI κ k) 23 [(0, aK κ 65), (1, .int i1), (2, .int i2), (3, .int i3), (4, .int i4), (5, .int i5), (6, .int i6), (7, .int i7), (8, .int i8), (9, .int i9)] [] σ)  (h : x7_fits_107 i1 i2 i3 i4 i5 i6 R23 i8 i9 i10 σ k) : Wd κ 11 (QI κ k) 107 [(0, aK κ 65), (1, .int i1), (2, .int i2), (3, .int i3), (4, .int i4), (5, .int i5), (6, .int i6), (8, .int i8), (9, .int i9), (10, .int i10)] [] σ := by
  unfold x7_fits_107 at h
  refine r_iload 6 hc dX7_fits_107 rfl ?_
  refine r_iload 8 hc dX7_fits_109 rfl ?_
  refine r_csI [.int i6, .int i9] hc dX7_fits_111 cX7_159 (t7_has h) rfl rfl rfl (Nat.le_of_ble_eq_true rfl) (by decide) (by decide) (fun r7 σ8 h => ?_)
  refine r_if_eq 122 hc dX7_fits_114 (by decide) h (fun h => ?_) (fun h => ?_)
  · refine r_sub [0, 1, 2, 3, 4, 5, 6, 7, 8] rfl ?_
    exact u7_fits_122 hc hR23 h
  · refine r_iload 9 hc dX7_fits_117 rfl ?_
    refine r_if_ne 126 hc dX7_fits_119 (by decide) h (fun h => ?_) (fun h => ?_)
    · refine r_sub [0, 1, 2, 3, 4, 5, 6, 7, 8] rfl ?_
      exact u7_fits_122 hc hR23 h
    · refine r_sub [0, 1, 2, 3, 4, 5, 6, 7, 8] rfl ?_
      exact u7_fits_126 hc hR23 h
set_option maxRecDepth 100000 in
set_option maxHeartbeats 4000000 in
theorem u7_fits_71 {κ : KT} {k : Int32 → St → Prop} {i1 : Int32} {i2 : Int32} {i3 : Int32} {i4 : Int32} {i5 : Int32} {i6 : Int32} {R23 : Int32 → Int32 → Int32 → St → Prop} {i7 : Int32} {i8 : Int32} {i9 : Int32} {s0 : Int32} {σ : St}  (hc : Cx κ cX7_fits 11 RX7 2 (some .boolean))  (hR23 : ∀ (i7 : Int32) (i8 : Int32) (i9 : Int32) (σ : St), R23 i7 i8 i9 σ → Wd κ 11 (QI κ k) 23 [(0, aK κ 65), (1, .int i1), (2, .int i2), (3, .int i3), (4, .int i4), (5, .int i5), (6, .int i6), (7, .int i7), (8, .int i8), (9, .int i9)] [] σ)  (h : x7_fits_71 i1 i2 i3 i4 i5 i6 R23 i7 i8 i9 s0 σ k) : Wd κ 11 (QI κ k) 71 [(0, aK κ 65), (1, .int i1), (2, .int i2), (3, .int i3), (4, .int i4), (5, .int i5), (6, .int i6), (7, .int i7), (8, .int i8), (9, .int i9)] [.int s0] σ := by
  unfold x7_fits_71 at h
  refine r_istore (lv' := [(10, .int s0), (0, aK κ 65), (1, .int i1), (2, .int i2), (3, .int i3), (4, .int i4), (5, .int i5), (6, .int i6), (7, .int i7), (8, .int i8), (9, .int i9)]) hc dX7_fits_71 (by decide) rfl ?_
  refine r_iload 8 hc dX7_fits_73 rfl ?_
  refine r_if_eq 126 hc dX7_fits_75 (by decide) h (fun h => ?_) (fun h => ?_)
  · refine r_sub [1, 2, 3, 4, 5, 6, 7, 9, 10] rfl ?_
    exact u7_fits_126 hc hR23 h
  · refine r_aload_n 1 hc dX7_fits_78 rfl ?_
    refine r_get (K := 7) (f := 12) hc dX7_fits_79 fX7_22 inX7 rfl rfl (by decide) (by decide) rfl rfl ?_
    refine r_bipush (v := 41) hc dX7_fits_82 (by decide) ?_
    refine r_iload 10 hc dX7_fits_84 rfl ?_
    refine r_iadd hc dX7_fits_86 ?_
    refine r_iald hc dX7_fits_87 rfl h (fun h => ?_)
    refine r_iload_n 2 hc dX7_fits_88 rfl ?_
    refine r_icmp_ne 122 hc dX7_fits_89 (by decide) h (fun h => ?_) (fun h => ?_)
    · refine r_iload 6 hc dX7_fits_92 rfl ?_
      refine r_iload 10 hc dX7_fits_94 rfl ?_
      refine r_csI [.int i5, .int i9] hc dX7_fits_96 cX7_159 (t7_has h) rfl rfl rfl (Nat.le_of_ble_eq_true rfl) (by decide) (by decide) (fun r5 σ6 h => ?_)
      refine r_if_eq 107 hc dX7_fits_99 (by decide) h (fun h => ?_) (fun h => ?_)
      · refine r_sub [1, 2, 3, 4, 5, 6, 7, 9, 10, 0] rfl ?_
        exact u7_fits_107 hc hR23 h
      · refine r_iload 0 hc dX7_fits_102 rfl ?_
        refine r_if_eq 126 hc dX7_fits_104 (by decide) h (fun h => ?_) (fun h => ?_)
        · refine r_sub [1, 2, 3, 4, 5, 6, 7, 9, 10] rfl ?_
          exact u7_fits_126 hc hR23 h
        · refine r_sub [1, 2, 3, 4, 5, 6, 7, 9, 10, 0] rfl ?_
          exact u7_fits_107 hc hR23 h
    · refine r_sub [1, 2, 3, 4, 5, 6, 7, 9, 10] rfl ?_
      exact u7_fits_122 hc hR23 h
set_option maxRecDepth 100000 in
set_option maxHeartbeats 4000000 in
theorem u7_fits_23 {κ : KT} {k : Int32 → St → Prop} {i1 : Int32} {i2 : Int32} {i3 : Int32} {i4 : Int32} {i5 : Int32} {i6 : Int32}   (hc : Cx κ cX7_fits 11 RX7 2 (some .boolean))   : ∀ (n : Nat) (i7 : Int32) (i8 : Int32) (i9 : Int32) (σ : St), x7_fits_23 i1 i2 i3 i4 i5 i6 k n i7 i8 i9 σ → Wd κ 11 (QI κ k) 23 [(0, aK κ 65), (1, .int i1), (2, .int i2), (3, .int i3), (4, .int i4), (5, .int i5), (6, .int i6), (7, .int i7), (8, .int i8), (9, .int i9)] [] σ := by
  intro n
  induction n with
  | zero => intro i7 i8 i9 σ h; exact h.elim
  | succ n ih =>
    intro i7 i8 i9 σ h
    unfold x7_fits_23 at h
    refine r_iload 9 hc dX7_fits_23 rfl ?_
    refine r_aload_n 0 hc dX7_fits_25 rfl ?_
    refine r_get (K := 7) (f := 12) hc dX7_fits_26 fX7_22 inX7 rfl rfl (by decide) (by decide) rfl rfl ?_
    refine r_iconst (v := 3) hc dX7_fits_29 (by decide) ?_
    refine r_iald hc dX7_fits_30 rfl h (fun h => ?_)
    refine r_icmp_ge 135 hc dX7_fits_31 (by decide) h (fun h => ?_) (fun h => ?_)
    · refine r_iload 7 hc dX7_fits_135 rfl ?_
      exact r_zret hc dX7_fits_137 h
    · refine r_iload 8 hc dX7_fits_34 rfl ?_
      refine r_aload_n 0 hc dX7_fits_36 rfl ?_
      refine r_get (K := 7) (f := 12) hc dX7_fits_37 fX7_22 inX7 rfl rfl (by decide) (by decide) rfl rfl ?_
      refine r_bipush (v := 29) hc dX7_fits_40 (by decide) ?_
      refine r_iload 9 hc dX7_fits_42 rfl ?_
      refine r_iadd hc dX7_fits_44 ?_
      refine r_iald hc dX7_fits_45 rfl h (fun h => ?_)
      refine r_aload_n 0 hc dX7_fits_46 rfl ?_
      refine r_get (K := 7) (f := 12) hc dX7_fits_47 fX7_22 inX7 rfl rfl (by decide) (by decide) rfl rfl ?_
      refine r_bipush (v := 35) hc dX7_fits_50 (by decide) ?_
      refine r_iload 9 hc dX7_fits_52 rfl ?_
      refine r_iadd hc dX7_fits_54 ?_
      refine r_iald hc dX7_fits_55 rfl h (fun h => ?_)
      refine r_iload_n 2 hc dX7_fits_56 rfl ?_
      refine r_iload_n 3 hc dX7_fits_57 rfl ?_
      refine r_iload 4 hc dX7_fits_58 rfl ?_
      refine r_csI [.int (σ 70 (29 + i9).toNatClampNeg), .int (σ 70 (35 + i9).toNatClampNeg), .int i2, .int i3, .int i4] hc dX7_fits_60 cX7_141 (t7_staysAt h) rfl rfl rfl (Nat.le_of_ble_eq_true rfl) (by decide) (by decide) (fun r3 σ4 h => ?_)
      refine r_icmp_gt 70 hc dX7_fits_63 (by decide) h (fun h => ?_) (fun h => ?_)
      · refine r_iconst (v := 0) hc dX7_fits_70 (by decide) ?_
        exact u7_fits_71 hc ih h
      · refine r_iconst (v := 1) hc dX7_fits_66 (by decide) ?_
        refine r_goto 71 hc dX7_fits_67 (by decide) ?_
        exact u7_fits_71 hc ih h
set_option maxRecDepth 100000 in
set_option maxHeartbeats 4000000 in
theorem t7_fits {l : Launch} {i1 : Int32} {i2 : Int32} {i3 : Int32} {i4 : Int32} {i5 : Int32} {i6 : Int32} {σ : St} {k : Int32 → St → Prop}  (h : x7_fits i1 i2 i3 i4 i5 i6 σ k) : CI l yX7_fits cX7_fits 11 2 (some .boolean) (fun ad => [.ref (ad 65), .int i1, .int i2, .int i3, .int i4, .int i5, .int i6]) σ k := by
  refine CI.of (lv := fun ad => [(0, .ref (ad 65)), (1, .int i1), (2, .int i2), (3, .int i3), (4, .int i4), (5, .int i5), (6, .int i6)]) (by decide) (fun _ => Nat.le_of_ble_eq_true rfl) (fun _ => rfl) (fun κ hc => ?_)
  show Wd κ 11 (QI κ k) 0 [(0, aK κ 65), (1, .int i1), (2, .int i2), (3, .int i3), (4, .int i4), (5, .int i5), (6, .int i6)] [] σ
  unfold x7_fits at h
  refine r_iconst (v := 1) hc dX7_fits_0 (by decide) ?_
  refine r_istore (lv' := [(7, .int 1), (0, aK κ 65), (1, .int i1), (2, .int i2), (3, .int i3), (4, .int i4), (5, .int i5), (6, .int i6)]) hc dX7_fits_1 (by decide) rfl ?_
  refine r_aload_n 1 hc dX7_fits_3 rfl ?_
  refine r_get (K := 7) (f := 12) hc dX7_fits_4 fX7_22 inX7 rfl rfl (by decide) (by decide) rfl rfl ?_
  refine r_iconst (v := 5) hc dX7_fits_7 (by decide) ?_
  refine r_iload_n 2 hc dX7_fits_8 rfl ?_
  refine r_iadd hc dX7_fits_9 ?_
  refine r_iald hc dX7_fits_10 rfl h (fun h => ?_)
  refine r_iload_n 3 hc dX7_fits_11 rfl ?_
  refine r_iload_n 4 hc dX7_fits_12 rfl ?_
  refine r_iload 5 hc dX7_fits_13 rfl ?_
  refine r_csI [.int (σ 70 (5 + i1).toNatClampNeg), .int i2, .int i3, .int i4] hc dX7_fits_15 cX7_137 (t7_opensAt h) rfl rfl rfl (Nat.le_of_ble_eq_true rfl) (by decide) (by decide) (fun r1 σ2 h => ?_)
  refine r_istore (lv' := [(8, .int r1), (7, .int 1), (0, aK κ 65), (1, .int i1), (2, .int i2), (3, .int i3), (4, .int i4), (5, .int i5), (6, .int i6)]) hc dX7_fits_18 (by decide) rfl ?_
  refine r_iconst (v := 0) hc dX7_fits_20 (by decide) ?_
  refine r_istore (lv' := [(9, .int 0), (8, .int r1), (7, .int 1), (0, aK κ 65), (1, .int i1), (2, .int i2), (3, .int i3), (4, .int i4), (5, .int i5), (6, .int i6)]) hc dX7_fits_21 (by decide) rfl ?_
  refine r_sub [3, 4, 5, 6, 7, 8, 9, 2, 1, 0] rfl ?_
  obtain ⟨n0, h⟩ := h
  exact u7_fits_23 hc n0 _ _ _ _ h
set_option maxRecDepth 100000 in
set_option maxHeartbeats 4000000 in
theorem u7_costBy_135 {κ : KT} {k : Int32 → St → Prop} {i1 : Int32} {i2 : Int32} {i3 : Int32} {i4 : Int32} {i5 : Int32} {i6 : Int32} {R27 : Int32 → Int32 → Int32 → St → Prop} {i8 : Int32} {i9 : Int32} {s0 : Int32} {σ : St}  (hc : Cx κ cX7_costBy 12 RX7 3 (some .int))  (hR27 : ∀ (i7 : Int32) (i8 : Int32) (i9 : Int32) (σ : St), R27 i7 i8 i9 σ → Wd κ 12 (QI κ k) 27 [(0, aK κ 65), (1, .int i1), (2, .int i2), (3, .int i3), (4, .int i4), (5, .int i5), (6, .int i6), (7, .int i7), (8, .int i8), (9, .int i9)] [] σ)  (h : x7_costBy_135 i1 i2 i3 i4 i5 i6 R27 i8 i9 s0 σ k) : Wd κ 12 (QI κ k) 135 [(0, aK κ 65), (1, .int i1), (2, .int i2), (3, .int i3), (4, .int i4), (5, .int i5), (6, .int i6), (8, .int i8), (9, .int i9)] [.int s0] σ := by
  unfold x7_costBy_135 at h
  refine r_istore (lv' := [(7, .int s0), (0, aK κ 65), (1, .int i1), (2, .int i2), (3, .int i3), (4, .int i4), (5, .int i5), (6, .int i6), (8, .int i8), (9, .int i9)]) hc dX7_costBy_135 (by decide) rfl ?_
  refine r_iinc (v := 1) (lv' := [(9, .int (i9 + 1)), (7, .int s0), (0, aK κ 65), (1, .int i1), (2, .int i2), (3, .int i3), (4, .int i4), (5, .int i5), (6, .int i6), (8, .int i8)]) 9 hc dX7_costBy_137 rfl (by decide) (by decide) rfl ?_
  refine r_goto 27 hc dX7_costBy_140 (by decide) ?_
  refine r_sub [2, 3, 4, 5, 6, 7, 8, 1, 9, 0] rfl ?_
  exact hR27 _ _ _ _ h
set_option maxRecDepth 100000 in
set_option maxHeartbeats 4000000 in
theorem u7_costBy_119 {κ : KT} {k : Int32 → St → Prop} {i1 : Int32} {i2 : Int32} {i3 : Int32} {i4 : Int32} {i5 : Int32} {i6 : Int32} {R27 : Int32 → Int32 → Int32 → St → Prop} {i7 : Int32} {i8 : Int32} {i9 : Int32} {s0 : Int32} {σ : St}  (hc : Cx κ cX7_costBy 12 RX7 3 (some .int))  (hR27 : ∀ (i7 : Int32) (i8 : Int32) (i9 : Int32) (σ : St), R27 i7 i8 i9 σ → Wd κ 12 (QI κ k) 27 [(0, aK κ 65), (1, .int i1), (2, .int i2), (3, .int i3), (4, .int i4), (5, .int i5), (6, .int i6), (7, .int i7), (8, .int i8), (9, .int i9)] [] σ)  (h : x7_costBy_119 i1 i2 i3 i4 i5 i6 R27 i7 i8 i9 s0 σ k) : Wd κ 12 (QI κ k) 119 [(0, aK κ 65), (1, .int i1), (2, .int i2), (3, .int i3), (4, .int i4), (5, .int i5), (6, .int i6), (7, .int i7), (8, .int i8), (9, .int i9)] [.int s0] σ := by
  unfold x7_costBy_119 at h
  refine r_istore (lv' := [(11, .int s0), (0, aK κ 65), (1, .int i1), (2, .int i2), (3, .int i3), (4, .int i4), (5, .int i5), (6, .int i6), (7, .int i7), (8, .int i8), (9, .int i9)]) hc dX7_costBy_119 (by decide) rfl ?_
  refine r_iload 0 hc dX7_costBy_121 rfl ?_
  refine r_iload 8 hc dX7_costBy_123 rfl ?_
  refine r_icmp_ge 133 hc dX7_costBy_125 (by decide) h (fun h => ?_) (fun h => ?_)
  · refine r_iload 8 hc dX7_costBy_133 rfl ?_
    refine r_sub [1, 2, 3, 4, 5, 6, 7, 9, 10] rfl ?_
    exact u7_costBy_135 hc hR27 h
  · refine r_iload 0 hc dX7_costBy_128 rfl ?_
    refine r_goto 135 hc dX7_costBy_130 (by decide) ?_
    refine r_sub [1, 2, 3, 4, 5, 6, 7, 9, 10] rfl ?_
    exact u7_costBy_135 hc hR27 h
set_option maxRecDepth 100000 in
set_option maxHeartbeats 4000000 in
theorem u7_costBy_112 {κ : KT} {k : Int32 → St → Prop} {i1 : Int32} {i2 : Int32} {i3 : Int32} {i4 : Int32} {i5 : Int32} {i6 : Int32} {R27 : Int32 → Int32 → Int32 → St → Prop} {i7 : Int32} {i8 : Int32} {i9 : Int32} {s1 : Int32} {s0 : Int32} {σ : St}  (hc : Cx κ cX7_costBy 12 RX7 3 (some .int))  (hR27 : ∀ (i7 : Int32) (i8 : Int32) (i9 : Int32) (σ : St), R27 i7 i8 i9 σ → Wd κ 12 (QI κ k) 27 [(0, aK κ 65), (1, .int i1), (2, .int i2), (3, .int i3), (4, .int i4), (5, .int i5), (6, .int i6), (7, .int i7), (8, .int i8), (9, .int i9)] [] σ)  (h : x7_costBy_112 i1 i2 i3 i4 i5 i6 R27 i7 i8 i9 s1 s0 σ k) : Wd κ 12 (QI κ k) 112 [(0, aK κ 65), (1, .int i1), (2, .int i2), (3, .int i3), (4, .int i4), (5, .int i5), (6, .int i6), (7, .int i7), (8, .int i8), (9, .int i9)] [.int s1, .int s0] σ := by
  unfold x7_costBy_112 at h
  refine r_iadd hc dX7_costBy_112 ?_
  refine r_goto 119 hc dX7_costBy_113 (by decide) ?_
  exact u7_costBy_119 hc hR27 h
set_option maxRecDepth 100000 in
set_option maxHeartbeats 4000000 in
theorem u7_costBy_57 {κ : KT} {k : Int32 → St → Prop} {i1 : Int32} {i2 : Int32} {i3 : Int32} {i4 : Int32} {i5 : Int32} {i6 : Int32} {R27 : Int32 → Int32 → Int32 → St → Prop} {i7 : Int32} {i8 : Int32} {i9 : Int32} {s0 : Int32} {σ : St}  (hc : Cx κ cX7_costBy 12 RX7 3 (some .int))  (hR27 : ∀ (i7 : Int32) (i8 : Int32) (i9 : Int32) (σ : St), R27 i7 i8 i9 σ → Wd κ 12 (QI κ k) 27 [(0, aK κ 65), (1, .int i1), (2, .int i2), (3, .int i3), (4, .int i4), (5, .int i5), (6, .int i6), (7, .int i7), (8, .int i8), (9, .int i9)] [] σ)  (h : x7_costBy_57 i1 i2 i3 i4 i5 i6 R27 i7 i8 i9 s0 σ k) : Wd κ 12 (QI κ k) 57 [(0, aK κ 65), (1, .int i1), (2, .int i2), (3, .int i3), (4, .int i4), (5, .int i5), (6, .int i6), (7, .int i7), (8, .int i8), (9, .int i9)] [.int s0] σ := by
  unfold x7_costBy_57 at h
  refine r_istore (lv' := [(10, .int s0), (0, aK κ 65), (1, .int i1), (2, .int i2), (3, .int i3), (4, .int i4), (5, .int i5), (6, .int i6), (7, .int i7), (8, .int i8), (9, .int i9)]) hc dX7_costBy_57 (by decide) rfl ?_
  refine r_aload_n 1 hc dX7_costBy_59 rfl ?_
  refine r_iload_n 2 hc dX7_costBy_60 rfl ?_
  refine r_iload_n 4 hc dX7_costBy_61 rfl ?_
  refine r_iload 5 hc dX7_costBy_62 rfl ?_
  refine r_iload 0 hc dX7_costBy_64 rfl ?_
  refine r_iload 6 hc dX7_costBy_66 rfl ?_
  refine r_iload 7 hc dX7_costBy_68 rfl ?_
  refine r_cvI [.int i1, .int i3, .int i4, .int s0, .int i5, .int i6] hc dX7_costBy_70 cX7_189 (t7_fits h) rfl (by decide) rfl rfl rfl rfl (Nat.le_of_ble_eq_true rfl) (by decide) (by decide) (fun r1 σ2 h => ?_)
  refine r_if_eq 116 hc dX7_costBy_73 (by decide) h (fun h => ?_) (fun h => ?_)
  · refine r_sipush (v := 9999) hc dX7_costBy_116 (by decide) ?_
    refine r_sub [1, 2, 3, 4, 5, 6, 7, 8, 9, 10] rfl ?_
    exact u7_costBy_119 hc hR27 h
  · refine r_iload_n 4 hc dX7_costBy_76 rfl ?_
    refine r_iload 5 hc dX7_costBy_77 rfl ?_
    refine r_iadd hc dX7_costBy_79 ?_
    refine r_iload_n 3 hc dX7_costBy_80 rfl ?_
    refine r_iconst (v := 2) hc dX7_costBy_81 (by decide) ?_
    refine r_irem hc dX7_costBy_82 h (fun h => ?_)
    refine r_iadd hc dX7_costBy_83 ?_
    refine r_iload 9 hc dX7_costBy_84 rfl ?_
    refine r_if_eq 93 hc dX7_costBy_86 (by decide) h (fun h => ?_) (fun h => ?_)
    · refine r_aload_n 1 hc dX7_costBy_93 rfl ?_
      refine r_get (K := 7) (f := 22) hc dX7_costBy_94 fX7_47 inX7 rfl rfl (by decide) (by decide) rfl rfl ?_
      refine r_iconst (v := 4) hc dX7_costBy_97 (by decide) ?_
      refine r_iload_n 2 hc dX7_costBy_98 rfl ?_
      refine r_imul hc dX7_costBy_99 ?_
      refine r_iconst (v := 4) hc dX7_costBy_100 (by decide) ?_
      refine r_iadd hc dX7_costBy_101 ?_
      refine r_iload_n 3 hc dX7_costBy_102 rfl ?_
      refine r_iconst (v := 2) hc dX7_costBy_103 (by decide) ?_
      refine r_irem hc dX7_costBy_104 h (fun h => ?_)
      refine r_iconst (v := 2) hc dX7_costBy_105 (by decide) ?_
      refine r_imul hc dX7_costBy_106 ?_
      refine r_iadd hc dX7_costBy_107 ?_
      refine r_iload 10 hc dX7_costBy_108 rfl ?_
      refine r_iadd hc dX7_costBy_110 ?_
      refine r_iald hc dX7_costBy_111 rfl h (fun h => ?_)
      refine r_sub [1, 2, 3, 4, 5, 6, 7, 8, 9, 10] rfl ?_
      exact u7_costBy_112 hc hR27 h
    · refine r_iconst (v := 0) hc dX7_costBy_89 (by decide) ?_
      refine r_goto 112 hc dX7_costBy_90 (by decide) ?_
      refine r_sub [1, 2, 3, 4, 5, 6, 7, 8, 9, 10] rfl ?_
      exact u7_costBy_112 hc hR27 h
set_option maxRecDepth 100000 in
set_option maxHeartbeats 4000000 in
theorem u7_costBy_52 {κ : KT} {k : Int32 → St → Prop} {i1 : Int32} {i2 : Int32} {i3 : Int32} {i4 : Int32} {i5 : Int32} {i6 : Int32} {R27 : Int32 → Int32 → Int32 → St → Prop} {i7 : Int32} {i8 : Int32} {i9 : Int32} {σ : St}  (hc : Cx κ cX7_costBy 12 RX7 3 (some .int))  (hR27 : ∀ (i7 : Int32) (i8 : Int32) (i9 : Int32) (σ : St), R27 i7 i8 i9 σ → Wd κ 12 (QI κ k) 27 [(0, aK κ 65), (1, .int i1), (2, .int i2), (3, .int i3), (4, .int i4), (5, .int i5), (6, .int i6), (7, .int i7), (8, .int i8), (9, .int i9)] [] σ)  (h : x7_costBy_52 i1 i2 i3 i4 i5 i6 R27 i7 i8 i9 σ k) : Wd κ 12 (QI κ k) 52 [(0, aK κ 65), (1, .int i1), (2, .int i2), (3, .int i3), (4, .int i4), (5, .int i5), (6, .int i6), (7, .int i7), (8, .int i8), (9, .int i9)] [] σ := by
  unfold x7_costBy_52 at h
  refine r_iconst (v := 1) hc dX7_costBy_52 (by decide) ?_
  refine r_goto 57 hc dX7_costBy_53 (by decide) ?_
  exact u7_costBy_57 hc hR27 h
set_option maxRecDepth 100000 in
set_option maxHeartbeats 4000000 in
theorem u7_costBy_39 {κ : KT} {k : Int32 → St → Prop} {i1 : Int32} {i2 : Int32} {i3 : Int32} {i4 : Int32} {i5 : Int32} {i6 : Int32} {R27 : Int32 → Int32 → Int32 → St → Prop} {i7 : Int32} {i8 : Int32} {i9 : Int32} {s1 : Int32} {s0 : Int32} {σ : St}  (hc : Cx κ cX7_costBy 12 RX7 3 (some .int))  (hR27 : ∀ (i7 : Int32) (i8 : Int32) (i9 : Int32) (σ : St), R27 i7 i8 i9 σ → Wd κ 12 (QI κ k) 27 [(0, aK κ 65), (1, .int i1), (2, .int i2), (3, .int i3), (4, .int i4), (5, .int i5), (6, .int i6), (7, .int i7), (8, .int i8), (9, .int i9)] [] σ)  (h : x7_costBy_39 i1 i2 i3 i4 i5 i6 R27 i7 i8 i9 s1 s0 σ k) : Wd κ 12 (QI κ k) 39 [(0, aK κ 65), (1, .int i1), (2, .int i2), (3, .int i3), (4, .int i4), (5, .int i5), (6, .int i6), (7, .int i7), (8, .int i8), (9, .int i9)] [.int s1, .int s0] σ := by
  unfold x7_costBy_39 at h
  refine r_icmp_ge 143 hc dX7_costBy_39 (by decide) h (fun h => ?_) (fun h => ?_)
  · refine r_iload 7 hc dX7_costBy_143 rfl ?_
    exact r_iret hc dX7_costBy_145 h
  · refine r_iload_n 2 hc dX7_costBy_42 rfl ?_
    refine r_if_gt 52 hc dX7_costBy_43 (by decide) h (fun h => ?_) (fun h => ?_)
    · exact u7_costBy_52 hc hR27 h
    · refine r_iload 9 hc dX7_costBy_46 rfl ?_
      refine r_iconst (v := 1) hc dX7_costBy_48 (by decide) ?_
      refine r_icmp_ne 56 hc dX7_costBy_49 (by decide) h (fun h => ?_) (fun h => ?_)
      · exact u7_costBy_52 hc hR27 h
      · refine r_iconst (v := 0) hc dX7_costBy_56 (by decide) ?_
        exact u7_costBy_57 hc hR27 h
set_option maxRecDepth 100000 in
set_option maxHeartbeats 4000000 in
theorem u7_costBy_27 {κ : KT} {k : Int32 → St → Prop} {i1 : Int32} {i2 : Int32} {i3 : Int32} {i4 : Int32} {i5 : Int32} {i6 : Int32}   (hc : Cx κ cX7_costBy 12 RX7 3 (some .int))   : ∀ (n : Nat) (i7 : Int32) (i8 : Int32) (i9 : Int32) (σ : St), x7_costBy_27 i1 i2 i3 i4 i5 i6 k n i7 i8 i9 σ → Wd κ 12 (QI κ k) 27 [(0, aK κ 65), (1, .int i1), (2, .int i2), (3, .int i3), (4, .int i4), (5, .int i5), (6, .int i6), (7, .int i7), (8, .int i8), (9, .int i9)] [] σ := by
  intro n
  induction n with
  | zero => intro i7 i8 i9 σ h; exact h.elim
  | succ n ih =>
    intro i7 i8 i9 σ h
    unfold x7_costBy_27 at h
    refine r_iload 9 hc dX7_costBy_27 rfl ?_
    refine r_iload 8 hc dX7_costBy_29 rfl ?_
    refine r_if_eq 38 hc dX7_costBy_31 (by decide) h (fun h => ?_) (fun h => ?_)
    · refine r_iconst (v := 2) hc dX7_costBy_38 (by decide) ?_
      exact u7_costBy_39 hc ih h
    · refine r_iconst (v := 1) hc dX7_costBy_34 (by decide) ?_
      refine r_goto 39 hc dX7_costBy_35 (by decide) ?_
      exact u7_costBy_39 hc ih h
set_option maxRecDepth 100000 in
set_option maxHeartbeats 4000000 in
theorem u7_costBy_22 {κ : KT} {k : Int32 → St → Prop} {i1 : Int32} {i2 : Int32} {i3 : Int32} {i4 : Int32} {i5 : Int32} {i6 : Int32}  {i7 : Int32} {s0 : Int32} {σ : St}  (hc : Cx κ cX7_costBy 12 RX7 3 (some .int))    (h : x7_costBy_22 i1 i2 i3 i4 i5 i6 i7 s0 σ k) : Wd κ 12 (QI κ k) 22 [(0, aK κ 65), (1, .int i1), (2, .int i2), (3, .int i3), (4, .int i4), (5, .int i5), (6, .int i6), (7, .int i7)] [.int s0] σ := by
  unfold x7_costBy_22 at h
  refine r_istore (lv' := [(8, .int s0), (0, aK κ 65), (1, .int i1), (2, .int i2), (3, .int i3), (4, .int i4), (5, .int i5), (6, .int i6), (7, .int i7)]) hc dX7_costBy_22 (by decide) rfl ?_
  refine r_iconst (v := 0) hc dX7_costBy_24 (by decide) ?_
  refine r_istore (lv' := [(9, .int 0), (8, .int s0), (0, aK κ 65), (1, .int i1), (2, .int i2), (3, .int i3), (4, .int i4), (5, .int i5), (6, .int i6), (7, .int i7)]) hc dX7_costBy_25 (by decide) rfl ?_
  refine r_sub [2, 3, 4, 5, 6, 7, 8, 9, 1, 0] rfl ?_
  obtain ⟨n0, h⟩ := h
  exact u7_costBy_27 hc n0 _ _ _ _ h
set_option maxRecDepth 100000 in
set_option maxHeartbeats 4000000 in
theorem t7_costBy {l : Launch} {i1 : Int32} {i2 : Int32} {i3 : Int32} {i4 : Int32} {i5 : Int32} {i6 : Int32} {σ : St} {k : Int32 → St → Prop}  (h : x7_costBy i1 i2 i3 i4 i5 i6 σ k) : CI l yX7_costBy cX7_costBy 12 3 (some .int) (fun ad => [.ref (ad 65), .int i1, .int i2, .int i3, .int i4, .int i5, .int i6]) σ k := by
  refine CI.of (lv := fun ad => [(0, .ref (ad 65)), (1, .int i1), (2, .int i2), (3, .int i3), (4, .int i4), (5, .int i5), (6, .int i6)]) (by decide) (fun _ => Nat.le_of_ble_eq_true rfl) (fun _ => rfl) (fun κ hc => ?_)
  show Wd κ 12 (QI κ k) 0 [(0, aK κ 65), (1, .int i1), (2, .int i2), (3, .int i3), (4, .int i4), (5, .int i5), (6, .int i6)] [] σ
  unfold x7_costBy at h
  refine r_sipush (v := 9999) hc dX7_costBy_0 (by decide) ?_
  refine r_istore (lv' := [(7, .int 9999), (0, aK κ 65), (1, .int i1), (2, .int i2), (3, .int i3), (4, .int i4), (5, .int i5), (6, .int i6)]) hc dX7_costBy_3 (by decide) rfl ?_
  refine r_iload_n 2 hc dX7_costBy_5 rfl ?_
  refine r_iconst (v := 1) hc dX7_costBy_6 (by decide) ?_
  refine r_iadd hc dX7_costBy_7 ?_
  refine r_aload_n 1 hc dX7_costBy_8 rfl ?_
  refine r_get (K := 7) (f := 12) hc dX7_costBy_9 fX7_22 inX7 rfl rfl (by decide) (by decide) rfl rfl ?_
  refine r_iconst (v := 2) hc dX7_costBy_12 (by decide) ?_
  refine r_iald hc dX7_costBy_13 rfl h (fun h => ?_)
  refine r_icmp_ne 21 hc dX7_costBy_14 (by decide) h (fun h => ?_) (fun h => ?_)
  · refine r_iconst (v := 1) hc dX7_costBy_17 (by decide) ?_
    refine r_goto 22 hc dX7_costBy_18 (by decide) ?_
    refine r_sub [1, 2, 3, 4, 5, 6, 7, 0] rfl ?_
    exact u7_costBy_22 hc h
  · refine r_iconst (v := 0) hc dX7_costBy_21 (by decide) ?_
    refine r_sub [1, 2, 3, 4, 5, 6, 7, 0] rfl ?_
    exact u7_costBy_22 hc h
set_option maxRecDepth 100000 in
set_option maxHeartbeats 4000000 in
theorem u7_count_38 {κ : KT} {k : Int32 → St → Prop} {i1 : Int32}   (hc : Cx κ cX7_count 5 RX7 1 (some .int))   : ∀ (n : Nat) (i2 : Int32) (i3 : Int32) (i4 : Int32) (σ : St), x7_count_38 i1 k n i2 i3 i4 σ → Wd κ 5 (QI κ k) 38 [(0, aK κ 65), (1, .int i1), (2, .int i2), (3, .int i3), (4, .int i4)] [] σ := by
  intro n
  induction n with
  | zero => intro i2 i3 i4 σ h; exact h.elim
  | succ n ih =>
    intro i2 i3 i4 σ h
    unfold x7_count_38 at h
    refine r_iload 4 hc dX7_count_38 rfl ?_
    refine r_bipush (v := 6) hc dX7_count_40 (by decide) ?_
    refine r_icmp_ge 64 hc dX7_count_42 (by decide) h (fun h => ?_) (fun h => ?_)
    · refine r_iload_n 1 hc dX7_count_64 rfl ?_
      by_cases hq65_0 : i1 = 0
      · rw [if_pos hq65_0] at h
        refine r_tswIn 0 116 hc dX7_count_65 hq65_0 (by decide) (by decide) rfl (by decide) ?_
        refine r_iload_n 2 hc dX7_count_116 rfl ?_
        exact r_iret hc dX7_count_117 h
      · rw [if_neg hq65_0] at h
        by_cases hq65_1 : i1 = 1
        · rw [if_pos hq65_1] at h
          refine r_tswIn 1 118 hc dX7_count_65 hq65_1 (by decide) (by decide) rfl (by decide) ?_
          refine r_aload_n 0 hc dX7_count_118 rfl ?_
          refine r_get (K := 7) (f := 12) hc dX7_count_119 fX7_22 inX7 rfl rfl (by decide) (by decide) rfl rfl ?_
          refine r_iconst (v := 2) hc dX7_count_122 (by decide) ?_
          refine r_iald hc dX7_count_123 rfl h (fun h => ?_)
          exact r_iret hc dX7_count_124 h
        · rw [if_neg hq65_1] at h
          by_cases hq65_2 : i1 = 2
          · rw [if_pos hq65_2] at h
            refine r_tswIn 2 125 hc dX7_count_65 hq65_2 (by decide) (by decide) rfl (by decide) ?_
            refine r_aload_n 0 hc dX7_count_125 rfl ?_
            refine r_get (K := 7) (f := 12) hc dX7_count_126 fX7_22 inX7 rfl rfl (by decide) (by decide) rfl rfl ?_
            refine r_iconst (v := 3) hc dX7_count_129 (by decide) ?_
            refine r_iald hc dX7_count_130 rfl h (fun h => ?_)
            exact r_iret hc dX7_count_131 h
          · rw [if_neg hq65_2] at h
            by_cases hq65_3 : i1 = 3
            · rw [if_pos hq65_3] at h
              refine r_tswIn 3 132 hc dX7_count_65 hq65_3 (by decide) (by decide) rfl (by decide) ?_
              refine r_aload_n 0 hc dX7_count_132 rfl ?_
              refine r_get (K := 7) (f := 12) hc dX7_count_133 fX7_22 inX7 rfl rfl (by decide) (by decide) rfl rfl ?_
              refine r_iconst (v := 0) hc dX7_count_136 (by decide) ?_
              refine r_iald hc dX7_count_137 rfl h (fun h => ?_)
              exact r_iret hc dX7_count_138 h
            · rw [if_neg hq65_3] at h
              by_cases hq65_4 : i1 = 4
              · rw [if_pos hq65_4] at h
                refine r_tswIn 4 139 hc dX7_count_65 hq65_4 (by decide) (by decide) rfl (by decide) ?_
                refine r_aload_n 0 hc dX7_count_139 rfl ?_
                refine r_get (K := 7) (f := 12) hc dX7_count_140 fX7_22 inX7 rfl rfl (by decide) (by decide) rfl rfl ?_
                refine r_iconst (v := 1) hc dX7_count_143 (by decide) ?_
                refine r_iald hc dX7_count_144 rfl h (fun h => ?_)
                exact r_iret hc dX7_count_145 h
              · rw [if_neg hq65_4] at h
                by_cases hq65_5 : i1 = 5
                · rw [if_pos hq65_5] at h
                  refine r_tswIn 5 146 hc dX7_count_65 hq65_5 (by decide) (by decide) rfl (by decide) ?_
                  refine r_aload_n 0 hc dX7_count_146 rfl ?_
                  refine r_get (K := 7) (f := 12) hc dX7_count_147 fX7_22 inX7 rfl rfl (by decide) (by decide) rfl rfl ?_
                  refine r_iconst (v := 4) hc dX7_count_150 (by decide) ?_
                  refine r_iald hc dX7_count_151 rfl h (fun h => ?_)
                  exact r_iret hc dX7_count_152 h
                · rw [if_neg hq65_5] at h
                  by_cases hq65_6 : i1 = 6
                  · rw [if_pos hq65_6] at h
                    refine r_tswIn 6 153 hc dX7_count_65 hq65_6 (by decide) (by decide) rfl (by decide) ?_
                    refine r_iload_n 3 hc dX7_count_153 rfl ?_
                    exact r_iret hc dX7_count_154 h
                  · rw [if_neg hq65_6] at h
                    by_cases hq65_7 : i1 = 7
                    · rw [if_pos hq65_7] at h
                      refine r_tswIn 7 155 hc dX7_count_65 hq65_7 (by decide) (by decide) rfl (by decide) ?_
                      refine r_aload_n 0 hc dX7_count_155 rfl ?_
                      refine r_get (K := 7) (f := 18) hc dX7_count_156 fX7_130 inX7 rfl rfl (by decide) (by decide) rfl rfl ?_
                      exact r_iret hc dX7_count_159 h
                    · rw [if_neg hq65_7] at h
                      by_cases hq65_8 : i1 = 8
                      · rw [if_pos hq65_8] at h
                        refine r_tswIn 8 160 hc dX7_count_65 hq65_8 (by decide) (by decide) rfl (by decide) ?_
                        refine r_aload_n 0 hc dX7_count_160 rfl ?_
                        refine r_get (K := 7) (f := 4) hc dX7_count_161 fX7_74 inX7 rfl rfl (by decide) (by decide) rfl rfl ?_
                        exact r_iret hc dX7_count_164 h
                      · rw [if_neg hq65_8] at h
                        refine r_tswOut 165 hc dX7_count_65 (by have a0 := lv_neT hq65_0 (a := 0) (by decide); have a1 := lv_neT hq65_1 (a := 1) (by decide); have a2 := lv_neT hq65_2 (a := 2) (by decide); have a3 := lv_neT hq65_3 (a := 3) (by decide); have a4 := lv_neT hq65_4 (a := 4) (by decide); have a5 := lv_neT hq65_5 (a := 5) (by decide); have a6 := lv_neT hq65_6 (a := 6) (by decide); have a7 := lv_neT hq65_7 (a := 7) (by decide); have a8 := lv_neT hq65_8 (a := 8) (by decide); omega) (by decide) ?_
                        refine r_ldc hc dX7_count_165 kX7_63 ?_
                        exact r_iret hc dX7_count_167 h
    · refine r_iload_n 3 hc dX7_count_45 rfl ?_
      refine r_aload_n 0 hc dX7_count_46 rfl ?_
      refine r_get (K := 7) (f := 12) hc dX7_count_47 fX7_22 inX7 rfl rfl (by decide) (by decide) rfl rfl ?_
      refine r_bipush (v := 47) hc dX7_count_50 (by decide) ?_
      refine r_iload 4 hc dX7_count_52 rfl ?_
      refine r_iadd hc dX7_count_54 ?_
      refine r_iald hc dX7_count_55 rfl h (fun h => ?_)
      refine r_iadd hc dX7_count_56 ?_
      refine r_nmI h (fun v1 h => ?_)
      refine r_istore_n (lv' := [(3, .int v1), (0, aK κ 65), (1, .int i1), (2, .int i2), (4, .int i4)]) hc dX7_count_57 (by decide) rfl ?_
      refine r_iinc (v := 1) (lv' := [(4, .int (i4 + 1)), (3, .int v1), (0, aK κ 65), (1, .int i1), (2, .int i2)]) 4 hc dX7_count_58 rfl (by decide) (by decide) rfl ?_
      refine r_goto 38 hc dX7_count_61 (by decide) ?_
      refine r_sub [2, 3, 4, 1, 0] rfl ?_
      exact ih _ _ _ _ h
set_option maxRecDepth 100000 in
set_option maxHeartbeats 4000000 in
theorem u7_count_25 {κ : KT} {k : Int32 → St → Prop} {i1 : Int32} {R4 : Int32 → Int32 → St → Prop} {i3 : Int32} {s1 : Int32} {s0 : Int32} {σ : St}  (hc : Cx κ cX7_count 5 RX7 1 (some .int))  (hR4 : ∀ (i2 : Int32) (i3 : Int32) (σ : St), R4 i2 i3 σ → Wd κ 5 (QI κ k) 4 [(0, aK κ 65), (1, .int i1), (2, .int i2), (3, .int i3)] [] σ)  (h : x7_count_25 i1 R4 i3 s1 s0 σ k) : Wd κ 5 (QI κ k) 25 [(0, aK κ 65), (1, .int i1), (3, .int i3)] [.int s1, .int s0] σ := by
  unfold x7_count_25 at h
  refine r_iadd hc dX7_count_25 ?_
  refine r_nmI h (fun v2 h => ?_)
  refine r_istore_n (lv' := [(2, .int v2), (0, aK κ 65), (1, .int i1), (3, .int i3)]) hc dX7_count_26 (by decide) rfl ?_
  refine r_iinc (v := 1) (lv' := [(3, .int (i3 + 1)), (2, .int v2), (0, aK κ 65), (1, .int i1)]) 3 hc dX7_count_27 rfl (by decide) (by decide) rfl ?_
  refine r_goto 4 hc dX7_count_30 (by decide) ?_
  refine r_sub [2, 3, 1, 0] rfl ?_
  exact hR4 _ _ _ h
set_option maxRecDepth 100000 in
set_option maxHeartbeats 4000000 in
theorem u7_count_4 {κ : KT} {k : Int32 → St → Prop} {i1 : Int32}   (hc : Cx κ cX7_count 5 RX7 1 (some .int))   : ∀ (n : Nat) (i2 : Int32) (i3 : Int32) (σ : St), x7_count_4 i1 k n i2 i3 σ → Wd κ 5 (QI κ k) 4 [(0, aK κ 65), (1, .int i1), (2, .int i2), (3, .int i3)] [] σ := by
  intro n
  induction n with
  | zero => intro i2 i3 σ h; exact h.elim
  | succ n ih =>
    intro i2 i3 σ h
    unfold x7_count_4 at h
    refine r_iload_n 3 hc dX7_count_4 rfl ?_
    refine r_bipush (v := 8) hc dX7_count_5 (by decide) ?_
    refine r_icmp_ge 33 hc dX7_count_7 (by decide) h (fun h => ?_) (fun h => ?_)
    · refine r_iconst (v := 0) hc dX7_count_33 (by decide) ?_
      refine r_istore_n (lv' := [(3, .int 0), (0, aK κ 65), (1, .int i1), (2, .int i2)]) hc dX7_count_34 (by decide) rfl ?_
      refine r_iconst (v := 0) hc dX7_count_35 (by decide) ?_
      refine r_istore (lv' := [(4, .int 0), (3, .int 0), (0, aK κ 65), (1, .int i1), (2, .int i2)]) hc dX7_count_36 (by decide) rfl ?_
      refine r_sub [2, 3, 4, 1, 0] rfl ?_
      obtain ⟨n0, h⟩ := h
      exact u7_count_38 hc n0 _ _ _ _ h
    · refine r_iload_n 2 hc dX7_count_10 rfl ?_
      refine r_aload_n 0 hc dX7_count_11 rfl ?_
      refine r_get (K := 7) (f := 0) hc dX7_count_12 fX7_7 inX7 rfl rfl (by decide) (by decide) rfl rfl ?_
      refine r_iload_n 3 hc dX7_count_15 rfl ?_
      refine r_iald hc dX7_count_16 rfl h (fun h => ?_)
      refine r_if_ge 24 hc dX7_count_17 (by decide) h (fun h => ?_) (fun h => ?_)
      · refine r_iconst (v := 1) hc dX7_count_24 (by decide) ?_
        refine r_sub [0, 1, 3] rfl ?_
        exact u7_count_25 hc ih h
      · refine r_iconst (v := 0) hc dX7_count_20 (by decide) ?_
        refine r_goto 25 hc dX7_count_21 (by decide) ?_
        refine r_sub [0, 1, 3] rfl ?_
        exact u7_count_25 hc ih h
set_option maxRecDepth 100000 in
set_option maxHeartbeats 4000000 in
theorem t7_count {l : Launch} {i1 : Int32} {σ : St} {k : Int32 → St → Prop}  (h : x7_count i1 σ k) : CI l yX7_count cX7_count 5 1 (some .int) (fun ad => [.ref (ad 65), .int i1]) σ k := by
  refine CI.of (lv := fun ad => [(0, .ref (ad 65)), (1, .int i1)]) (by decide) (fun _ => Nat.le_of_ble_eq_true rfl) (fun _ => rfl) (fun κ hc => ?_)
  show Wd κ 5 (QI κ k) 0 [(0, aK κ 65), (1, .int i1)] [] σ
  unfold x7_count at h
  refine r_iconst (v := 0) hc dX7_count_0 (by decide) ?_
  refine r_istore_n (lv' := [(2, .int 0), (0, aK κ 65), (1, .int i1)]) hc dX7_count_1 (by decide) rfl ?_
  refine r_iconst (v := 0) hc dX7_count_2 (by decide) ?_
  refine r_istore_n (lv' := [(3, .int 0), (2, .int 0), (0, aK κ 65), (1, .int i1)]) hc dX7_count_3 (by decide) rfl ?_
  refine r_sub [2, 3, 1, 0] rfl ?_
  obtain ⟨n0, h⟩ := h
  exact u7_count_4 hc n0 _ _ _ h
set_option maxRecDepth 100000 in
set_option maxHeartbeats 4000000 in
theorem u7_isStreet_14 {κ : KT} {k : Int32 → St → Prop}   {s0 : Int32} {σ : St}  (hc : Cx κ cX7_isStreet 1 RX7 1 (some .boolean))    (h : x7_isStreet_14 s0 σ k) : Wd κ 1 (QI κ k) 14 [(0, aK κ 65)] [.int s0] σ := by
  unfold x7_isStreet_14 at h
  exact r_zret hc dX7_isStreet_14 h
set_option maxRecDepth 100000 in
set_option maxHeartbeats 4000000 in
theorem t7_isStreet {l : Launch}  {σ : St} {k : Int32 → St → Prop}  (h : x7_isStreet  σ k) : CI l yX7_isStreet cX7_isStreet 1 1 (some .boolean) (fun ad => [.ref (ad 65)]) σ k := by
  refine CI.of (lv := fun ad => [(0, .ref (ad 65))]) (by decide) (fun _ => Nat.le_of_ble_eq_true rfl) (fun _ => rfl) (fun κ hc => ?_)
  show Wd κ 1 (QI κ k) 0 [(0, aK κ 65)] [] σ
  unfold x7_isStreet at h
  refine r_aload_n 0 hc dX7_isStreet_0 rfl ?_
  refine r_get (K := 7) (f := 12) hc dX7_isStreet_1 fX7_22 inX7 rfl rfl (by decide) (by decide) rfl rfl ?_
  refine r_iconst (v := 2) hc dX7_isStreet_4 (by decide) ?_
  refine r_iald hc dX7_isStreet_5 rfl h (fun h => ?_)
  refine r_if_le 13 hc dX7_isStreet_6 (by decide) h (fun h => ?_) (fun h => ?_)
  · refine r_iconst (v := 0) hc dX7_isStreet_13 (by decide) ?_
    exact u7_isStreet_14 hc h
  · refine r_iconst (v := 1) hc dX7_isStreet_9 (by decide) ?_
    refine r_goto 14 hc dX7_isStreet_10 (by decide) ?_
    exact u7_isStreet_14 hc h
set_option maxRecDepth 100000 in
set_option maxHeartbeats 4000000 in
theorem u7_days_44 {κ : KT} {k : Int32 → St → Prop} {i1 : Int32}   (hc : Cx κ cX7_days 4 RX7 6 (some .int))   : ∀ (n : Nat) (i2 : Int32) (i3 : Int32) (σ : St), x7_days_44 i1 k n i2 i3 σ → Wd κ 4 (QI κ k) 44 [(0, aK κ 65), (1, .int i1), (2, .int i2), (3, .int i3)] [] σ := by
  intro n
  induction n with
  | zero => intro i2 i3 σ h; exact h.elim
  | succ n ih =>
    intro i2 i3 σ h
    unfold x7_days_44 at h
    refine r_iload_n 3 hc dX7_days_44 rfl ?_
    refine r_iload_n 1 hc dX7_days_45 rfl ?_
    refine r_icmp_ge 67 hc dX7_days_46 (by decide) h (fun h => ?_) (fun h => ?_)
    · refine r_iload_n 2 hc dX7_days_67 rfl ?_
      exact r_iret hc dX7_days_68 h
    · refine r_aload_n 0 hc dX7_days_49 rfl ?_
      refine r_cvV [] hc dX7_days_50 cX7_170 (t7_act h) rfl (by decide) rfl rfl rfl rfl (Nat.le_of_ble_eq_true rfl) (by decide) (by decide) (fun σ6 h => ?_)
      refine r_aload_n 0 hc dX7_days_53 rfl ?_
      refine r_get (K := 7) (f := 12) hc dX7_days_54 fX7_22 inX7 rfl rfl (by decide) (by decide) rfl rfl ?_
      refine r_csI [aK κ 70] hc dX7_days_57 cX7_179 (t7_pass rfl h) rfl rfl rfl (Nat.le_of_ble_eq_true rfl) (by decide) (by decide) (fun r7 σ8 h => ?_)
      refine r_istore_n (lv' := [(2, .int r7), (0, aK κ 65), (1, .int i1), (3, .int i3)]) hc dX7_days_60 (by decide) rfl ?_
      refine r_iinc (v := 1) (lv' := [(3, .int (i3 + 1)), (2, .int r7), (0, aK κ 65), (1, .int i1)]) 3 hc dX7_days_61 rfl (by decide) (by decide) rfl ?_
      refine r_goto 44 hc dX7_days_64 (by decide) ?_
      refine r_sub [2, 3, 1, 0] rfl ?_
      exact ih _ _ _ h
set_option maxRecDepth 100000 in
set_option maxHeartbeats 4000000 in
theorem t7_days {l : Launch} {i1 : Int32} {σ : St} {k : Int32 → St → Prop}  (h : x7_days i1 σ k) : CI l yX7_days cX7_days 4 6 (some .int) (fun ad => [.ref (ad 65), .int i1]) σ k := by
  refine CI.of (lv := fun ad => [(0, .ref (ad 65)), (1, .int i1)]) (by decide) (fun _ => Nat.le_of_ble_eq_true rfl) (fun _ => rfl) (fun κ hc => ?_)
  show Wd κ 4 (QI κ k) 0 [(0, aK κ 65), (1, .int i1)] [] σ
  unfold x7_days at h
  refine r_aload_n 0 hc dX7_days_0 rfl ?_
  refine r_cvI [] hc dX7_days_1 cX7_176 (t7_isStreet h) rfl (by decide) rfl rfl rfl rfl (Nat.le_of_ble_eq_true rfl) (by decide) (by decide) (fun r1 σ2 h => ?_)
  refine r_if_ne 10 hc dX7_days_4 (by decide) h (fun h => ?_) (fun h => ?_)
  · refine r_ldc hc dX7_days_7 kX7_162 ?_
    exact r_iret hc dX7_days_9 h
  · refine r_iload_n 1 hc dX7_days_10 rfl ?_
    refine r_iconst (v := 1) hc dX7_days_11 (by decide) ?_
    refine r_bipush (v := 24) hc dX7_days_12 (by decide) ?_
    refine r_csI [.int i1, .int 1, .int 24] hc dX7_days_14 cX7_55 (t7_in h) rfl rfl rfl (Nat.le_of_ble_eq_true rfl) (by decide) (by decide) (fun r3 σ4 h => ?_)
    refine r_if_ne 23 hc dX7_days_17 (by decide) h (fun h => ?_) (fun h => ?_)
    · refine r_ldc hc dX7_days_20 kX7_63 ?_
      exact r_iret hc dX7_days_22 h
    · refine r_aload_n 0 hc dX7_days_23 rfl ?_
      refine r_get (K := 7) (f := 12) hc dX7_days_24 fX7_22 inX7 rfl rfl (by decide) (by decide) rfl rfl ?_
      refine r_iconst (v := 4) hc dX7_days_27 (by decide) ?_
      refine r_iald hc dX7_days_28 rfl h (fun h => ?_)
      refine r_iload_n 1 hc dX7_days_29 rfl ?_
      refine r_iadd hc dX7_days_30 ?_
      refine r_sipush (v := 999) hc dX7_days_31 (by decide) ?_
      refine r_icmp_le 40 hc dX7_days_34 (by decide) h (fun h => ?_) (fun h => ?_)
      · refine r_iconst (v := 0) hc dX7_days_40 (by decide) ?_
        refine r_istore_n (lv' := [(2, .int 0), (0, aK κ 65), (1, .int i1)]) hc dX7_days_41 (by decide) rfl ?_
        refine r_iconst (v := 0) hc dX7_days_42 (by decide) ?_
        refine r_istore_n (lv' := [(3, .int 0), (2, .int 0), (0, aK κ 65), (1, .int i1)]) hc dX7_days_43 (by decide) rfl ?_
        refine r_sub [2, 3, 1, 0] rfl ?_
        obtain ⟨n0, h⟩ := h
        exact u7_days_44 hc n0 _ _ _ h
      · refine r_ldc hc dX7_days_37 kX7_77 ?_
        exact r_iret hc dX7_days_39 h
set_option maxRecDepth 100000 in
set_option maxHeartbeats 4000000 in
theorem t7_isDoorAt {l : Launch} {i1 : Int32} {σ : St} {k : Int32 → St → Prop}  (h : x7_isDoorAt i1 σ k) : CI l yX7_isDoorAt cX7_isDoorAt 2 2 (some .boolean) (fun ad => [.ref (ad 65), .int i1]) σ k := by
  refine CI.of (lv := fun ad => [(0, .ref (ad 65)), (1, .int i1)]) (by decide) (fun _ => Nat.le_of_ble_eq_true rfl) (fun _ => rfl) (fun κ hc => ?_)
  show Wd κ 2 (QI κ k) 0 [(0, aK κ 65), (1, .int i1)] [] σ
  unfold x7_isDoorAt at h
  refine r_iload_n 1 hc dX7_isDoorAt_0 rfl ?_
  refine r_iconst (v := 0) hc dX7_isDoorAt_1 (by decide) ?_
  refine r_aload_n 0 hc dX7_isDoorAt_2 rfl ?_
  refine r_get (K := 7) (f := 12) hc dX7_isDoorAt_3 fX7_22 inX7 rfl rfl (by decide) (by decide) rfl rfl ?_
  refine r_iconst (v := 2) hc dX7_isDoorAt_6 (by decide) ?_
  refine r_iald hc dX7_isDoorAt_7 rfl h (fun h => ?_)
  refine r_iconst (v := 1) hc dX7_isDoorAt_8 (by decide) ?_
  refine r_isub hc dX7_isDoorAt_9 ?_
  refine r_csI [.int i1, .int 0, .int ((σ 70 (2 : Int32).toNatClampNeg) - 1)] hc dX7_isDoorAt_10 cX7_55 (t7_in h) rfl rfl rfl (Nat.le_of_ble_eq_true rfl) (by decide) (by decide) (fun r1 σ2 h => ?_)
  exact r_zret hc dX7_isDoorAt_13 h
set_option maxRecDepth 100000 in
set_option maxHeartbeats 4000000 in
theorem u7_door_111 {κ : KT} {k : Int32 → St → Prop} {i1 : Int32} {i2 : Int32}  {s0 : Int32} {σ : St}  (hc : Cx κ cX7_door 3 RX7 3 (some .int))    (h : x7_door_111 i1 i2 s0 σ k) : Wd κ 3 (QI κ k) 111 [(0, aK κ 65), (1, .int i1), (2, .int i2)] [.int s0] σ := by
  unfold x7_door_111 at h
  exact r_iret hc dX7_door_111 h
set_option maxRecDepth 100000 in
set_option maxHeartbeats 4000000 in
theorem t7_door {l : Launch} {i1 : Int32} {i2 : Int32} {σ : St} {k : Int32 → St → Prop}  (h : x7_door i1 i2 σ k) : CI l yX7_door cX7_door 3 3 (some .int) (fun ad => [.ref (ad 65), .int i1, .int i2]) σ k := by
  refine CI.of (lv := fun ad => [(0, .ref (ad 65)), (1, .int i1), (2, .int i2)]) (by decide) (fun _ => Nat.le_of_ble_eq_true rfl) (fun _ => rfl) (fun κ hc => ?_)
  show Wd κ 3 (QI κ k) 0 [(0, aK κ 65), (1, .int i1), (2, .int i2)] [] σ
  unfold x7_door at h
  refine r_aload_n 0 hc dX7_door_0 rfl ?_
  refine r_iload_n 1 hc dX7_door_1 rfl ?_
  refine r_cvI [.int i1] hc dX7_door_2 cX7_163 (t7_isDoorAt h) rfl (by decide) rfl rfl rfl rfl (Nat.le_of_ble_eq_true rfl) (by decide) (by decide) (fun r1 σ2 h => ?_)
  refine r_if_ne 11 hc dX7_door_5 (by decide) h (fun h => ?_) (fun h => ?_)
  · refine r_ldc hc dX7_door_8 kX7_63 ?_
    exact r_iret hc dX7_door_10 h
  · refine r_iload_n 2 hc dX7_door_11 rfl ?_
    by_cases hq12_0 : i2 = 0
    · rw [if_pos hq12_0] at h
      refine r_tswIn 0 56 hc dX7_door_12 hq12_0 (by decide) (by decide) rfl (by decide) ?_
      refine r_aload_n 0 hc dX7_door_56 rfl ?_
      refine r_get (K := 7) (f := 12) hc dX7_door_57 fX7_22 inX7 rfl rfl (by decide) (by decide) rfl rfl ?_
      refine r_iconst (v := 5) hc dX7_door_60 (by decide) ?_
      refine r_iload_n 1 hc dX7_door_61 rfl ?_
      refine r_iadd hc dX7_door_62 ?_
      refine r_iald hc dX7_door_63 rfl h (fun h => ?_)
      exact r_iret hc dX7_door_64 h
    · rw [if_neg hq12_0] at h
      by_cases hq12_1 : i2 = 1
      · rw [if_pos hq12_1] at h
        refine r_tswIn 1 65 hc dX7_door_12 hq12_1 (by decide) (by decide) rfl (by decide) ?_
        refine r_aload_n 0 hc dX7_door_65 rfl ?_
        refine r_get (K := 7) (f := 12) hc dX7_door_66 fX7_22 inX7 rfl rfl (by decide) (by decide) rfl rfl ?_
        refine r_bipush (v := 11) hc dX7_door_69 (by decide) ?_
        refine r_iload_n 1 hc dX7_door_71 rfl ?_
        refine r_iadd hc dX7_door_72 ?_
        refine r_iald hc dX7_door_73 rfl h (fun h => ?_)
        exact r_iret hc dX7_door_74 h
      · rw [if_neg hq12_1] at h
        by_cases hq12_2 : i2 = 2
        · rw [if_pos hq12_2] at h
          refine r_tswIn 2 75 hc dX7_door_12 hq12_2 (by decide) (by decide) rfl (by decide) ?_
          refine r_aload_n 0 hc dX7_door_75 rfl ?_
          refine r_get (K := 7) (f := 12) hc dX7_door_76 fX7_22 inX7 rfl rfl (by decide) (by decide) rfl rfl ?_
          refine r_bipush (v := 17) hc dX7_door_79 (by decide) ?_
          refine r_iload_n 1 hc dX7_door_81 rfl ?_
          refine r_iadd hc dX7_door_82 ?_
          refine r_iald hc dX7_door_83 rfl h (fun h => ?_)
          exact r_iret hc dX7_door_84 h
        · rw [if_neg hq12_2] at h
          by_cases hq12_3 : i2 = 3
          · rw [if_pos hq12_3] at h
            refine r_tswIn 3 85 hc dX7_door_12 hq12_3 (by decide) (by decide) rfl (by decide) ?_
            refine r_aload_n 0 hc dX7_door_85 rfl ?_
            refine r_get (K := 7) (f := 12) hc dX7_door_86 fX7_22 inX7 rfl rfl (by decide) (by decide) rfl rfl ?_
            refine r_bipush (v := 23) hc dX7_door_89 (by decide) ?_
            refine r_iload_n 1 hc dX7_door_91 rfl ?_
            refine r_iadd hc dX7_door_92 ?_
            refine r_iald hc dX7_door_93 rfl h (fun h => ?_)
            exact r_iret hc dX7_door_94 h
          · rw [if_neg hq12_3] at h
            by_cases hq12_4 : i2 = 4
            · rw [if_pos hq12_4] at h
              refine r_tswIn 4 95 hc dX7_door_12 hq12_4 (by decide) (by decide) rfl (by decide) ?_
              refine r_aload_n 0 hc dX7_door_95 rfl ?_
              refine r_get (K := 7) (f := 12) hc dX7_door_96 fX7_22 inX7 rfl rfl (by decide) (by decide) rfl rfl ?_
              refine r_iload_n 1 hc dX7_door_99 rfl ?_
              refine r_csI [aK κ 70, .int i1] hc dX7_door_100 cX7_133 (t7_isHeard rfl h) rfl rfl rfl (Nat.le_of_ble_eq_true rfl) (by decide) (by decide) (fun r3 σ4 h => ?_)
              refine r_if_eq 110 hc dX7_door_103 (by decide) h (fun h => ?_) (fun h => ?_)
              · refine r_iconst (v := 0) hc dX7_door_110 (by decide) ?_
                exact u7_door_111 hc h
              · refine r_iconst (v := 1) hc dX7_door_106 (by decide) ?_
                refine r_goto 111 hc dX7_door_107 (by decide) ?_
                exact u7_door_111 hc h
            · rw [if_neg hq12_4] at h
              by_cases hq12_5 : i2 = 5
              · rw [if_pos hq12_5] at h
                refine r_tswIn 5 112 hc dX7_door_12 hq12_5 (by decide) (by decide) rfl (by decide) ?_
                refine r_aload_n 0 hc dX7_door_112 rfl ?_
                refine r_get (K := 7) (f := 12) hc dX7_door_113 fX7_22 inX7 rfl rfl (by decide) (by decide) rfl rfl ?_
                refine r_iload_n 1 hc dX7_door_116 rfl ?_
                refine r_csI [aK κ 70, .int i1] hc dX7_door_117 cX7_145 (t7_opensOf rfl h) rfl rfl rfl (Nat.le_of_ble_eq_true rfl) (by decide) (by decide) (fun r5 σ6 h => ?_)
                exact r_iret hc dX7_door_120 h
              · rw [if_neg hq12_5] at h
                by_cases hq12_6 : i2 = 6
                · rw [if_pos hq12_6] at h
                  refine r_tswIn 6 121 hc dX7_door_12 hq12_6 (by decide) (by decide) rfl (by decide) ?_
                  refine r_aload_n 0 hc dX7_door_121 rfl ?_
                  refine r_iload_n 1 hc dX7_door_122 rfl ?_
                  refine r_cvI [.int i1] hc dX7_door_123 cX7_182 (t7_callersAt h) rfl (by decide) rfl rfl rfl rfl (Nat.le_of_ble_eq_true rfl) (by decide) (by decide) (fun r7 σ8 h => ?_)
                  exact r_iret hc dX7_door_126 h
                · rw [if_neg hq12_6] at h
                  refine r_tswOut 127 hc dX7_door_12 (by have a0 := lv_neT hq12_0 (a := 0) (by decide); have a1 := lv_neT hq12_1 (a := 1) (by decide); have a2 := lv_neT hq12_2 (a := 2) (by decide); have a3 := lv_neT hq12_3 (a := 3) (by decide); have a4 := lv_neT hq12_4 (a := 4) (by decide); have a5 := lv_neT hq12_5 (a := 5) (by decide); have a6 := lv_neT hq12_6 (a := 6) (by decide); omega) (by decide) ?_
                  refine r_ldc hc dX7_door_127 kX7_63 ?_
                  exact r_iret hc dX7_door_129 h
set_option maxRecDepth 100000 in
set_option maxHeartbeats 4000000 in
theorem u7_drawn_39 {κ : KT} {k : Int32 → St → Prop} {i1 : Int32} {i2 : Int32} {i3 : Int32}   {σ : St}  (hc : Cx κ cX7_drawn 11 RX7 6 (some .int))    (h : x7_drawn_39 i1 i2 i3 σ k) : Wd κ 11 (QI κ k) 39 [(0, aK κ 65), (1, .int i1), (2, .int i2), (3, .int i3)] [] σ := by
  unfold x7_drawn_39 at h
  refine r_ldc hc dX7_drawn_39 kX7_63 ?_
  exact r_iret hc dX7_drawn_41 h
set_option maxRecDepth 100000 in
set_option maxHeartbeats 4000000 in
theorem u7_drawn_261 {κ : KT} {k : Int32 → St → Prop} {i1 : Int32} {i2 : Int32} {i3 : Int32}  {s0 : Int32} {σ : St}  (hc : Cx κ cX7_drawn 11 RX7 6 (some .int))    (h : x7_drawn_261 i1 i2 i3 s0 σ k) : Wd κ 11 (QI κ k) 261 [(0, aK κ 65), (1, .int i1), (2, .int i2), (3, .int i3)] [.int s0] σ := by
  unfold x7_drawn_261 at h
  exact r_iret hc dX7_drawn_261 h
set_option maxRecDepth 100000 in
set_option maxHeartbeats 4000000 in
theorem u7_drawn_218 {κ : KT} {k : Int32 → St → Prop} {i1 : Int32} {i2 : Int32} {i3 : Int32}   (hc : Cx κ cX7_drawn 11 RX7 6 (some .int))   : ∀ (n : Nat) (i6 : Int32) (i7 : Int32) (i8 : Int32) (σ : St), x7_drawn_218 i1 i2 i3 k n i6 i7 i8 σ → Wd κ 11 (QI κ k) 218 [(0, aK κ 65), (1, .int i1), (2, .int i2), (3, .int i3), (6, .int i6), (7, .int i7), (8, .int i8)] [] σ := by
  intro n
  induction n with
  | zero => intro i6 i7 i8 σ h; exact h.elim
  | succ n ih =>
    intro i6 i7 i8 σ h
    unfold x7_drawn_218 at h
    refine r_iload 6 hc dX7_drawn_218 rfl ?_
    refine r_aload_n 0 hc dX7_drawn_220 rfl ?_
    refine r_get (K := 7) (f := 12) hc dX7_drawn_221 fX7_22 inX7 rfl rfl (by decide) (by decide) rfl rfl ?_
    refine r_iconst (v := 3) hc dX7_drawn_224 (by decide) ?_
    refine r_iald hc dX7_drawn_225 rfl h (fun h => ?_)
    refine r_icmp_ge 250 hc dX7_drawn_226 (by decide) h (fun h => ?_) (fun h => ?_)
    · refine r_iload_n 3 hc dX7_drawn_250 rfl ?_
      refine r_if_ne 259 hc dX7_drawn_251 (by decide) h (fun h => ?_) (fun h => ?_)
      · refine r_iload 4 hc dX7_drawn_254 rfl ?_
        refine r_goto 261 hc dX7_drawn_256 (by decide) ?_
        refine r_sub [0, 1, 2, 3] rfl ?_
        exact u7_drawn_261 hc h
      · refine r_iload 5 hc dX7_drawn_259 rfl ?_
        refine r_sub [0, 1, 2, 3] rfl ?_
        exact u7_drawn_261 hc h
    · refine r_iload 5 hc dX7_drawn_229 rfl ?_
      refine r_aload_n 0 hc dX7_drawn_231 rfl ?_
      refine r_get (K := 7) (f := 14) hc dX7_drawn_232 fX7_28 inX7 rfl rfl (by decide) (by decide) rfl rfl ?_
      refine r_bipush (v := 41) hc dX7_drawn_235 (by decide) ?_
      refine r_iload 6 hc dX7_drawn_237 rfl ?_
      refine r_iadd hc dX7_drawn_239 ?_
      refine r_iald hc dX7_drawn_240 rfl h (fun h => ?_)
      refine r_iadd hc dX7_drawn_241 ?_
      refine r_nmI h (fun v12 h => ?_)
      refine r_istore (lv' := [(7, .int v12), (0, aK κ 65), (1, .int i1), (2, .int i2), (3, .int i3), (6, .int i6), (8, .int i8)]) hc dX7_drawn_242 (by decide) rfl ?_
      refine r_iinc (v := 1) (lv' := [(8, .int (i8 + 1)), (7, .int v12), (0, aK κ 65), (1, .int i1), (2, .int i2), (3, .int i3), (6, .int i6)]) 6 hc dX7_drawn_244 rfl (by decide) (by decide) rfl ?_
      refine r_goto 218 hc dX7_drawn_247 (by decide) ?_
      refine r_sub [2, 3, 4, 5, 6, 1, 0] rfl ?_
      exact ih _ _ _ _ h
set_option maxRecDepth 100000 in
set_option maxHeartbeats 4000000 in
theorem u7_drawn_177 {κ : KT} {k : Int32 → St → Prop} {i1 : Int32} {i2 : Int32} {i3 : Int32} {R65 : Int64 → Int32 → Int32 → St → Prop}  (hc : Cx κ cX7_drawn 11 RX7 6 (some .int))  (hR65 : ∀ (l4 : Int64) (i6 : Int32) (i7 : Int32) (σ : St), R65 l4 i6 i7 σ → Wd κ 11 (QI κ k) 65 [(0, aK κ 65), (1, .int i1), (2, .int i2), (3, .int i3), (4, .long l4), (6, .int i6), (7, .int i7)] [] σ) : ∀ (n : Nat) (l4 : Int64) (i6 : Int32) (i7 : Int32) (i9 : Int32) (i10 : Int32) (σ : St), x7_drawn_177 i1 i2 i3 R65 k n l4 i6 i7 i9 i10 σ → Wd κ 11 (QI κ k) 177 [(0, aK κ 65), (1, .int i1), (2, .int i2), (3, .int i3), (4, .long l4), (6, .int i6), (7, .int i7), (9, .int i9), (10, .int i10)] [] σ := by
  intro n
  induction n with
  | zero => intro l4 i6 i7 i9 i10 σ h; exact h.elim
  | succ n ih =>
    intro l4 i6 i7 i9 i10 σ h
    unfold x7_drawn_177 at h
    refine r_iload 8 hc dX7_drawn_177 rfl ?_
    refine r_aload_n 0 hc dX7_drawn_179 rfl ?_
    refine r_get (K := 7) (f := 12) hc dX7_drawn_180 fX7_22 inX7 rfl rfl (by decide) (by decide) rfl rfl ?_
    refine r_iconst (v := 3) hc dX7_drawn_183 (by decide) ?_
    refine r_iald hc dX7_drawn_184 rfl h (fun h => ?_)
    refine r_icmp_ge 206 hc dX7_drawn_185 (by decide) h (fun h => ?_) (fun h => ?_)
    · refine r_iinc (v := 1) (lv' := [(7, .int (i7 + 1)), (0, aK κ 65), (1, .int i1), (2, .int i2), (3, .int i3), (4, .long l4), (6, .int i6), (9, .int i9), (10, .int i10)]) 6 hc dX7_drawn_206 rfl (by decide) (by decide) rfl ?_
      refine r_goto 65 hc dX7_drawn_209 (by decide) ?_
      refine r_sub [1, 2, 3, 4, 5, 6, 0] rfl ?_
      exact hR65 _ _ _ _ h
    · refine r_iload 5 hc dX7_drawn_188 rfl ?_
      refine r_iload 7 hc dX7_drawn_190 rfl ?_
      refine r_iload 8 hc dX7_drawn_192 rfl ?_
      refine r_ishr hc dX7_drawn_194 ?_
      refine r_iconst (v := 1) hc dX7_drawn_195 (by decide) ?_
      refine r_iand hc dX7_drawn_196 ?_
      refine r_iadd hc dX7_drawn_197 ?_
      refine r_nmI h (fun v20 h => ?_)
      refine r_istore (lv' := [(6, .int v20), (0, aK κ 65), (1, .int i1), (2, .int i2), (3, .int i3), (4, .long l4), (7, .int i7), (9, .int i9), (10, .int i10)]) hc dX7_drawn_198 (by decide) rfl ?_
      refine r_iinc (v := 1) (lv' := [(10, .int (i10 + 1)), (6, .int v20), (0, aK κ 65), (1, .int i1), (2, .int i2), (3, .int i3), (4, .long l4), (7, .int i7), (9, .int i9)]) 8 hc dX7_drawn_200 rfl (by decide) (by decide) rfl ?_
      refine r_goto 177 hc dX7_drawn_203 (by decide) ?_
      refine r_sub [2, 3, 4, 5, 6, 1, 7, 8, 0] rfl ?_
      exact ih _ _ _ _ _ _ h
set_option maxRecDepth 100000 in
set_option maxHeartbeats 4000000 in
theorem u7_drawn_164 {κ : KT} {k : Int32 → St → Prop} {i1 : Int32} {i2 : Int32} {i3 : Int32} {R65 : Int64 → Int32 → Int32 → St → Prop} {l4 : Int64} {i6 : Int32} {i7 : Int32} {s2 : Int32} {s1 : Int32} {so0 : Nat} {σ : St}  (hc : Cx κ cX7_drawn 11 RX7 6 (some .int))  (hR65 : ∀ (l4 : Int64) (i6 : Int32) (i7 : Int32) (σ : St), R65 l4 i6 i7 σ → Wd κ 11 (QI κ k) 65 [(0, aK κ 65), (1, .int i1), (2, .int i2), (3, .int i3), (4, .long l4), (6, .int i6), (7, .int i7)] [] σ) (hso0 : kd so0 = 8) (h : x7_drawn_164 i1 i2 i3 R65 l4 i6 i7 s2 s1 so0 σ k) : Wd κ 11 (QI κ k) 164 [(0, aK κ 65), (1, .int i1), (2, .int i2), (3, .int i3), (4, .long l4), (6, .int i6), (7, .int i7)] [.int s2, .int s1, aK κ so0] σ := by
  unfold x7_drawn_164 at h
  refine r_iast hc dX7_drawn_164 hso0 h (fun h => ?_)
  refine r_nmS h (fun σ17 h => ?_)
  refine r_aload_n 0 hc dX7_drawn_165 rfl ?_
  refine r_get (K := 7) (f := 14) hc dX7_drawn_166 fX7_28 inX7 rfl rfl (by decide) (by decide) rfl rfl ?_
  refine r_csI [aK κ 72] hc dX7_drawn_169 cX7_179 (t7_pass rfl h) rfl rfl rfl (Nat.le_of_ble_eq_true rfl) (by decide) (by decide) (fun r18 σ19 h => ?_)
  refine r_istore (lv' := [(9, .int r18), (0, aK κ 65), (1, .int i1), (2, .int i2), (3, .int i3), (4, .long l4), (6, .int i6), (7, .int i7)]) hc dX7_drawn_172 (by decide) rfl ?_
  refine r_iconst (v := 0) hc dX7_drawn_174 (by decide) ?_
  refine r_istore (lv' := [(10, .int 0), (9, .int r18), (0, aK κ 65), (1, .int i1), (2, .int i2), (3, .int i3), (4, .long l4), (6, .int i6), (7, .int i7)]) hc dX7_drawn_175 (by decide) rfl ?_
  refine r_sub [2, 3, 4, 5, 6, 7, 8, 1, 0] rfl ?_
  obtain ⟨n0, h⟩ := h
  exact u7_drawn_177 hc hR65 n0 _ _ _ _ _ _ h
set_option maxRecDepth 100000 in
set_option maxHeartbeats 4000000 in
theorem u7_drawn_138 {κ : KT} {k : Int32 → St → Prop} {i1 : Int32} {i2 : Int32} {i3 : Int32} {R65 : Int64 → Int32 → Int32 → St → Prop} {l4 : Int64} {i6 : Int32} {i7 : Int32} {i8 : Int32} {s2 : Int32} {s1 : Int32} {so0 : Nat} {σ : St}  (hc : Cx κ cX7_drawn 11 RX7 6 (some .int))  (hR65 : ∀ (l4 : Int64) (i6 : Int32) (i7 : Int32) (σ : St), R65 l4 i6 i7 σ → Wd κ 11 (QI κ k) 65 [(0, aK κ 65), (1, .int i1), (2, .int i2), (3, .int i3), (4, .long l4), (6, .int i6), (7, .int i7)] [] σ) (hso0 : kd so0 = 8) (h : x7_drawn_138 i1 i2 i3 R65 l4 i6 i7 i8 s2 s1 so0 σ k) : Wd κ 11 (QI κ k) 138 [(0, aK κ 65), (1, .int i1), (2, .int i2), (3, .int i3), (4, .long l4), (6, .int i6), (7, .int i7), (8, .int i8)] [.int s2, .int s1, aK κ so0] σ := by
  unfold x7_drawn_138 at h
  refine r_iast hc dX7_drawn_138 hso0 h (fun h => ?_)
  refine r_nmS h (fun σ16 h => ?_)
  refine r_aload_n 0 hc dX7_drawn_139 rfl ?_
  refine r_get (K := 7) (f := 14) hc dX7_drawn_140 fX7_28 inX7 rfl rfl (by decide) (by decide) rfl rfl ?_
  refine r_bipush (v := 23) hc dX7_drawn_143 (by decide) ?_
  refine r_iload 7 hc dX7_drawn_145 rfl ?_
  refine r_iadd hc dX7_drawn_147 ?_
  refine r_lload 4 hc dX7_drawn_148 rfl ?_
  refine r_ldc2 hc dX7_drawn_150 kX7_221 ?_
  refine r_lrem hc dX7_drawn_153 h (fun h => ?_)
  refine r_lconst (v := 0) hc dX7_drawn_154 (by decide) ?_
  refine r_lcmp hc dX7_drawn_155 ?_
  refine r_if_ne 163 hc dX7_drawn_156 (by decide) h (fun h => ?_) (fun h => ?_)
  · refine r_iconst (v := 1) hc dX7_drawn_159 (by decide) ?_
    refine r_goto 164 hc dX7_drawn_160 (by decide) ?_
    refine r_sub [0, 1, 2, 3, 4, 5, 6] rfl ?_
    exact u7_drawn_164 hc hR65 (rfl) h
  · refine r_iconst (v := 0) hc dX7_drawn_163 (by decide) ?_
    refine r_sub [0, 1, 2, 3, 4, 5, 6] rfl ?_
    exact u7_drawn_164 hc hR65 (rfl) h
set_option maxRecDepth 100000 in
set_option maxHeartbeats 4000000 in
theorem u7_drawn_65 {κ : KT} {k : Int32 → St → Prop} {i1 : Int32} {i2 : Int32} {i3 : Int32}   (hc : Cx κ cX7_drawn 11 RX7 6 (some .int))   : ∀ (n : Nat) (l4 : Int64) (i6 : Int32) (i7 : Int32) (σ : St), x7_drawn_65 i1 i2 i3 k n l4 i6 i7 σ → Wd κ 11 (QI κ k) 65 [(0, aK κ 65), (1, .int i1), (2, .int i2), (3, .int i3), (4, .long l4), (6, .int i6), (7, .int i7)] [] σ := by
  intro n
  induction n with
  | zero => intro l4 i6 i7 σ h; exact h.elim
  | succ n ih =>
    intro l4 i6 i7 σ h
    unfold x7_drawn_65 at h
    refine r_iload 6 hc dX7_drawn_65 rfl ?_
    refine r_iload_n 1 hc dX7_drawn_67 rfl ?_
    refine r_icmp_ge 212 hc dX7_drawn_68 (by decide) h (fun h => ?_) (fun h => ?_)
    · refine r_iconst (v := 0) hc dX7_drawn_212 (by decide) ?_
      refine r_istore (lv' := [(7, .int 0), (0, aK κ 65), (1, .int i1), (2, .int i2), (3, .int i3), (4, .long l4), (6, .int i6)]) hc dX7_drawn_213 (by decide) rfl ?_
      refine r_iconst (v := 0) hc dX7_drawn_215 (by decide) ?_
      refine r_istore (lv' := [(8, .int 0), (7, .int 0), (0, aK κ 65), (1, .int i1), (2, .int i2), (3, .int i3), (4, .long l4), (6, .int i6)]) hc dX7_drawn_216 (by decide) rfl ?_
      refine r_sub [2, 3, 4, 5, 7, 1, 0] rfl ?_
      obtain ⟨n0, h⟩ := h
      exact u7_drawn_218 hc n0 _ _ _ _ h
    · refine r_lload 4 hc dX7_drawn_71 rfl ?_
      refine r_ldc2 hc dX7_drawn_73 kX7_213 ?_
      refine r_lmul hc dX7_drawn_76 ?_
      refine r_ldc2 hc dX7_drawn_77 kX7_215 ?_
      refine r_lrem hc dX7_drawn_80 h (fun h => ?_)
      refine r_nmL h (fun v13 h => ?_)
      refine r_lstore (lv' := [(4, .long v13), (0, aK κ 65), (1, .int i1), (2, .int i2), (3, .int i3), (6, .int i6), (7, .int i7)]) hc dX7_drawn_81 (by decide) rfl ?_
      refine r_lload 0 hc dX7_drawn_83 rfl ?_
      refine r_aload_n 1 hc dX7_drawn_85 rfl ?_
      refine r_get (K := 7) (f := 12) hc dX7_drawn_86 fX7_22 inX7 rfl rfl (by decide) (by decide) rfl rfl ?_
      refine r_iconst (v := 2) hc dX7_drawn_89 (by decide) ?_
      refine r_iald hc dX7_drawn_90 rfl h (fun h => ?_)
      refine r_i2l hc dX7_drawn_91 ?_
      refine r_lrem hc dX7_drawn_92 h (fun h => ?_)
      refine r_l2i hc dX7_drawn_93 ?_
      refine r_nmI h (fun v14 h => ?_)
      refine r_istore (lv' := [(8, .int v14), (4, .long v13), (0, aK κ 65), (1, .int i1), (2, .int i2), (3, .int i3), (6, .int i6), (7, .int i7)]) hc dX7_drawn_94 (by decide) rfl ?_
      refine r_aload_n 2 hc dX7_drawn_96 rfl ?_
      refine r_get (K := 7) (f := 14) hc dX7_drawn_97 fX7_28 inX7 rfl rfl (by decide) (by decide) rfl rfl ?_
      refine r_bipush (v := 11) hc dX7_drawn_100 (by decide) ?_
      refine r_iload 0 hc dX7_drawn_102 rfl ?_
      refine r_iadd hc dX7_drawn_104 ?_
      refine r_lload 1 hc dX7_drawn_105 rfl ?_
      refine r_ldc2 hc dX7_drawn_107 kX7_217 ?_
      refine r_lrem hc dX7_drawn_110 h (fun h => ?_)
      refine r_l2i hc dX7_drawn_111 ?_
      refine r_iast hc dX7_drawn_112 rfl h (fun h => ?_)
      refine r_nmS h (fun σ15 h => ?_)
      refine r_aload_n 2 hc dX7_drawn_113 rfl ?_
      refine r_get (K := 7) (f := 14) hc dX7_drawn_114 fX7_28 inX7 rfl rfl (by decide) (by decide) rfl rfl ?_
      refine r_bipush (v := 17) hc dX7_drawn_117 (by decide) ?_
      refine r_iload 0 hc dX7_drawn_119 rfl ?_
      refine r_iadd hc dX7_drawn_121 ?_
      refine r_lload 1 hc dX7_drawn_122 rfl ?_
      refine r_ldc2 hc dX7_drawn_124 kX7_219 ?_
      refine r_lrem hc dX7_drawn_127 h (fun h => ?_)
      refine r_lconst (v := 0) hc dX7_drawn_128 (by decide) ?_
      refine r_lcmp hc dX7_drawn_129 ?_
      refine r_if_ne 137 hc dX7_drawn_130 (by decide) h (fun h => ?_) (fun h => ?_)
      · refine r_iconst (v := 1) hc dX7_drawn_133 (by decide) ?_
        refine r_goto 138 hc dX7_drawn_134 (by decide) ?_
        refine r_sub [2, 3, 4, 5, 1, 6, 7, 0] rfl ?_
        exact u7_drawn_138 hc ih (rfl) h
      · refine r_iconst (v := 0) hc dX7_drawn_137 (by decide) ?_
        refine r_sub [2, 3, 4, 5, 1, 6, 7, 0] rfl ?_
        exact u7_drawn_138 hc ih (rfl) h
set_option maxRecDepth 100000 in
set_option maxHeartbeats 4000000 in
theorem t7_drawn {l : Launch} {i1 : Int32} {i2 : Int32} {i3 : Int32} {σ : St} {k : Int32 → St → Prop}  (h : x7_drawn i1 i2 i3 σ k) : CI l yX7_drawn cX7_drawn 11 6 (some .int) (fun ad => [.ref (ad 65), .int i1, .int i2, .int i3]) σ k := by
  refine CI.of (lv := fun ad => [(0, .ref (ad 65)), (1, .int i1), (2, .int i2), (3, .int i3)]) (by decide) (fun _ => Nat.le_of_ble_eq_true rfl) (fun _ => rfl) (fun κ hc => ?_)
  show Wd κ 11 (QI κ k) 0 [(0, aK κ 65), (1, .int i1), (2, .int i2), (3, .int i3)] [] σ
  unfold x7_drawn at h
  refine r_aload_n 0 hc dX7_drawn_0 rfl ?_
  refine r_cvI [] hc dX7_drawn_1 cX7_176 (t7_isStreet h) rfl (by decide) rfl rfl rfl rfl (Nat.le_of_ble_eq_true rfl) (by decide) (by decide) (fun r1 σ2 h => ?_)
  refine r_if_ne 10 hc dX7_drawn_4 (by decide) h (fun h => ?_) (fun h => ?_)
  · refine r_ldc hc dX7_drawn_7 kX7_162 ?_
    exact r_iret hc dX7_drawn_9 h
  · refine r_iload_n 1 hc dX7_drawn_10 rfl ?_
    refine r_iconst (v := 0) hc dX7_drawn_11 (by decide) ?_
    refine r_bipush (v := 60) hc dX7_drawn_12 (by decide) ?_
    refine r_csI [.int i1, .int 0, .int 60] hc dX7_drawn_14 cX7_55 (t7_in h) rfl rfl rfl (Nat.le_of_ble_eq_true rfl) (by decide) (by decide) (fun r3 σ4 h => ?_)
    refine r_if_eq 39 hc dX7_drawn_17 (by decide) h (fun h => ?_) (fun h => ?_)
    · exact u7_drawn_39 hc h
    · refine r_iload_n 2 hc dX7_drawn_20 rfl ?_
      refine r_iconst (v := 1) hc dX7_drawn_21 (by decide) ?_
      refine r_ldc hc dX7_drawn_22 kX7_212 ?_
      refine r_csI [.int i2, .int 1, .int 999999] hc dX7_drawn_24 cX7_55 (t7_in h) rfl rfl rfl (Nat.le_of_ble_eq_true rfl) (by decide) (by decide) (fun r5 σ6 h => ?_)
      refine r_if_eq 39 hc dX7_drawn_27 (by decide) h (fun h => ?_) (fun h => ?_)
      · exact u7_drawn_39 hc h
      · refine r_iload_n 3 hc dX7_drawn_30 rfl ?_
        refine r_iconst (v := 0) hc dX7_drawn_31 (by decide) ?_
        refine r_iconst (v := 1) hc dX7_drawn_32 (by decide) ?_
        refine r_csI [.int i3, .int 0, .int 1] hc dX7_drawn_33 cX7_55 (t7_in h) rfl rfl rfl (Nat.le_of_ble_eq_true rfl) (by decide) (by decide) (fun r7 σ8 h => ?_)
        refine r_if_ne 42 hc dX7_drawn_36 (by decide) h (fun h => ?_) (fun h => ?_)
        · exact u7_drawn_39 hc h
        · refine r_aload_n 0 hc dX7_drawn_42 rfl ?_
          refine r_get (K := 7) (f := 12) hc dX7_drawn_43 fX7_22 inX7 rfl rfl (by decide) (by decide) rfl rfl ?_
          refine r_iconst (v := 0) hc dX7_drawn_46 (by decide) ?_
          refine r_aload_n 0 hc dX7_drawn_47 rfl ?_
          refine r_get (K := 7) (f := 14) hc dX7_drawn_48 fX7_28 inX7 rfl rfl (by decide) (by decide) rfl rfl ?_
          refine r_iconst (v := 0) hc dX7_drawn_51 (by decide) ?_
          refine r_csV [aK κ 70, .int 0, aK κ 72, .int 0] hc dX7_drawn_52 cX7_126 (t7_lay rfl rfl h) rfl rfl rfl (Nat.le_of_ble_eq_true rfl) (by decide) (by decide) (fun σ10 h => ?_)
          refine r_iload_n 2 hc dX7_drawn_55 rfl ?_
          refine r_i2l hc dX7_drawn_56 ?_
          refine r_nmL h (fun v11 h => ?_)
          refine r_lstore (lv' := [(4, .long v11), (0, aK κ 65), (1, .int i1), (2, .int i2), (3, .int i3)]) hc dX7_drawn_57 (by decide) rfl ?_
          refine r_iconst (v := 0) hc dX7_drawn_59 (by decide) ?_
          refine r_istore (lv' := [(6, .int 0), (4, .long v11), (0, aK κ 65), (1, .int i1), (2, .int i2), (3, .int i3)]) hc dX7_drawn_60 (by decide) rfl ?_
          refine r_iconst (v := 0) hc dX7_drawn_62 (by decide) ?_
          refine r_istore (lv' := [(7, .int 0), (6, .int 0), (4, .long v11), (0, aK κ 65), (1, .int i1), (2, .int i2), (3, .int i3)]) hc dX7_drawn_63 (by decide) rfl ?_
          refine r_sub [3, 4, 5, 6, 2, 1, 0] rfl ?_
          obtain ⟨n0, h⟩ := h
          exact u7_drawn_65 hc n0 _ _ _ _ h
set_option maxRecDepth 100000 in
set_option maxHeartbeats 4000000 in
theorem t7_drop {l : Launch} {i1 : Int32} {σ : St} {k : Int32 → St → Prop}  (h : x7_drop i1 σ k) : CI l yX7_drop cX7_drop 2 3 (some .int) (fun ad => [.ref (ad 65), .int i1]) σ k := by
  refine CI.of (lv := fun ad => [(0, .ref (ad 65)), (1, .int i1)]) (by decide) (fun _ => Nat.le_of_ble_eq_true rfl) (fun _ => rfl) (fun κ hc => ?_)
  show Wd κ 2 (QI κ k) 0 [(0, aK κ 65), (1, .int i1)] [] σ
  unfold x7_drop at h
  refine r_iload_n 1 hc dX7_drop_0 rfl ?_
  refine r_csI [.int i1] hc dX7_drop_1 cX7_59 (t7_isRow h) rfl rfl rfl (Nat.le_of_ble_eq_true rfl) (by decide) (by decide) (fun r1 σ2 h => ?_)
  refine r_if_ne 10 hc dX7_drop_4 (by decide) h (fun h => ?_) (fun h => ?_)
  · refine r_ldc hc dX7_drop_7 kX7_63 ?_
    exact r_iret hc dX7_drop_9 h
  · refine r_aload_n 0 hc dX7_drop_10 rfl ?_
    refine r_get (K := 7) (f := 0) hc dX7_drop_11 fX7_7 inX7 rfl rfl (by decide) (by decide) rfl rfl ?_
    refine r_iload_n 1 hc dX7_drop_14 rfl ?_
    refine r_iald hc dX7_drop_15 rfl h (fun h => ?_)
    refine r_if_ge 25 hc dX7_drop_16 (by decide) h (fun h => ?_) (fun h => ?_)
    · refine r_aload_n 0 hc dX7_drop_25 rfl ?_
      refine r_get (K := 7) (f := 0) hc dX7_drop_26 fX7_7 inX7 rfl rfl (by decide) (by decide) rfl rfl ?_
      refine r_iload_n 1 hc dX7_drop_29 rfl ?_
      refine r_iconst (v := (-1)) hc dX7_drop_30 (by decide) ?_
      refine r_iast hc dX7_drop_31 rfl h (fun h => ?_)
      refine r_nmS h (fun σ3 h => ?_)
      refine r_aload_n 0 hc dX7_drop_32 rfl ?_
      refine r_aload_n 0 hc dX7_drop_33 rfl ?_
      refine r_get (K := 7) (f := 1) hc dX7_drop_34 fX7_13 inX7 rfl rfl (by decide) (by decide) rfl rfl ?_
      refine r_iload_n 1 hc dX7_drop_37 rfl ?_
      refine r_iald hc dX7_drop_38 rfl h (fun h => ?_)
      refine r_cvI [.int (σ3 67 i1.toNatClampNeg)] hc dX7_drop_39 cX7_68 (t7_done h) rfl (by decide) rfl rfl rfl rfl (Nat.le_of_ble_eq_true rfl) (by decide) (by decide) (fun r4 σ5 h => ?_)
      exact r_iret hc dX7_drop_42 h
    · refine r_aload_n 0 hc dX7_drop_19 rfl ?_
      refine r_iconst (v := 1) hc dX7_drop_20 (by decide) ?_
      refine r_cvI [.int 1] hc dX7_drop_21 cX7_64 (t7_finds h) rfl (by decide) rfl rfl rfl rfl (Nat.le_of_ble_eq_true rfl) (by decide) (by decide) (fun r6 σ7 h => ?_)
      exact r_iret hc dX7_drop_24 h
set_option maxRecDepth 100000 in
set_option maxHeartbeats 4000000 in
theorem t7_fails {l : Launch} {i1 : Int32} {σ : St} {k : Int32 → St → Prop}  (h : x7_fails i1 σ k) : CI l yX7_fails cX7_fails 2 1 (some .boolean) (fun ad => [.ref (ad 65), .int i1]) σ k := by
  refine CI.of (lv := fun ad => [(0, .ref (ad 65)), (1, .int i1)]) (by decide) (fun _ => Nat.le_of_ble_eq_true rfl) (fun _ => rfl) (fun κ hc => ?_)
  show Wd κ 2 (QI κ k) 0 [(0, aK κ 65), (1, .int i1)] [] σ
  unfold x7_fails at h
  refine r_aload_n 0 hc dX7_fails_0 rfl ?_
  refine r_iload_n 1 hc dX7_fails_1 rfl ?_
  refine r_put (K := 7) (f := 11) hc dX7_fails_2 fX7_90 inX7 tyX7_ok nmX7 rfl rfl rfl rfl (by decide) (by decide) rfl rfl ?_
  refine r_nmS h (fun σ1 h => ?_)
  refine r_iconst (v := 0) hc dX7_fails_5 (by decide) ?_
  exact r_zret hc dX7_fails_6 h
set_option maxRecDepth 100000 in
set_option maxHeartbeats 4000000 in
theorem t7_fault {l : Launch}  {σ : St} {k : Int32 → St → Prop}  (h : x7_fault  σ k) : CI l yX7_fault cX7_fault 1 1 (some .int) (fun ad => [.ref (ad 65)]) σ k := by
  refine CI.of (lv := fun ad => [(0, .ref (ad 65))]) (by decide) (fun _ => Nat.le_of_ble_eq_true rfl) (fun _ => rfl) (fun κ hc => ?_)
  show Wd κ 1 (QI κ k) 0 [(0, aK κ 65)] [] σ
  unfold x7_fault at h
  refine r_aload_n 0 hc dX7_fault_0 rfl ?_
  refine r_get (K := 7) (f := 10) hc dX7_fault_1 fX7_122 inX7 rfl rfl (by decide) (by decide) rfl rfl ?_
  exact r_iret hc dX7_fault_4 h
set_option maxRecDepth 100000 in
set_option maxHeartbeats 4000000 in
theorem t7_feed {l : Launch} {i1 : Int32} {σ : St} {k : Int32 → St → Prop}  (h : x7_feed i1 σ k) : CI l yX7_feed cX7_feed 2 2 (some .int) (fun ad => [.ref (ad 65), .int i1]) σ k := by
  refine CI.of (lv := fun ad => [(0, .ref (ad 65)), (1, .int i1)]) (by decide) (fun _ => Nat.le_of_ble_eq_true rfl) (fun _ => rfl) (fun κ hc => ?_)
  show Wd κ 2 (QI κ k) 0 [(0, aK κ 65), (1, .int i1)] [] σ
  unfold x7_feed at h
  refine r_iload_n 1 hc dX7_feed_0 rfl ?_
  refine r_iconst (v := 0) hc dX7_feed_1 (by decide) ?_
  refine r_sipush (v := 255) hc dX7_feed_2 (by decide) ?_
  refine r_csI [.int i1, .int 0, .int 255] hc dX7_feed_5 cX7_55 (t7_in h) rfl rfl rfl (Nat.le_of_ble_eq_true rfl) (by decide) (by decide) (fun r1 σ2 h => ?_)
  refine r_if_ne 14 hc dX7_feed_8 (by decide) h (fun h => ?_) (fun h => ?_)
  · refine r_ldc hc dX7_feed_11 kX7_63 ?_
    exact r_iret hc dX7_feed_13 h
  · refine r_aload_n 0 hc dX7_feed_14 rfl ?_
    refine r_get (K := 7) (f := 4) hc dX7_feed_15 fX7_74 inX7 rfl rfl (by decide) (by decide) rfl rfl ?_
    refine r_bipush (v := 100) hc dX7_feed_18 (by decide) ?_
    refine r_icmp_ne 26 hc dX7_feed_20 (by decide) h (fun h => ?_) (fun h => ?_)
    · refine r_ldc hc dX7_feed_23 kX7_77 ?_
      exact r_iret hc dX7_feed_25 h
    · refine r_aload_n 0 hc dX7_feed_26 rfl ?_
      refine r_get (K := 7) (f := 5) hc dX7_feed_27 fX7_19 inX7 rfl rfl (by decide) (by decide) rfl rfl ?_
      refine r_aload_n 0 hc dX7_feed_30 rfl ?_
      refine r_get (K := 7) (f := 4) hc dX7_feed_31 fX7_74 inX7 rfl rfl (by decide) (by decide) rfl rfl ?_
      refine r_iload_n 1 hc dX7_feed_34 rfl ?_
      refine r_iast hc dX7_feed_35 rfl h (fun h => ?_)
      refine r_nmS h (fun σ3 h => ?_)
      refine r_aload_n 0 hc dX7_feed_36 rfl ?_
      refine r_dup hc dX7_feed_37 rfl ?_
      refine r_get (K := 7) (f := 4) hc dX7_feed_38 fX7_74 inX7 rfl rfl (by decide) (by decide) rfl rfl ?_
      refine r_iconst (v := 1) hc dX7_feed_41 (by decide) ?_
      refine r_iadd hc dX7_feed_42 ?_
      refine r_put (K := 7) (f := 4) hc dX7_feed_43 fX7_74 inX7 tyX7_ok nmX7 rfl rfl rfl rfl (by decide) (by decide) rfl rfl ?_
      refine r_nmS h (fun σ4 h => ?_)
      refine r_aload_n 0 hc dX7_feed_46 rfl ?_
      refine r_get (K := 7) (f := 4) hc dX7_feed_47 fX7_74 inX7 rfl rfl (by decide) (by decide) rfl rfl ?_
      exact r_iret hc dX7_feed_50 h
set_option maxRecDepth 100000 in
set_option maxHeartbeats 4000000 in
theorem t7_image {l : Launch} {i1 : Int32} {σ : St} {k : Int32 → St → Prop}  (h : x7_image i1 σ k) : CI l yX7_image cX7_image 2 2 (some .int) (fun ad => [.ref (ad 65), .int i1]) σ k := by
  refine CI.of (lv := fun ad => [(0, .ref (ad 65)), (1, .int i1)]) (by decide) (fun _ => Nat.le_of_ble_eq_true rfl) (fun _ => rfl) (fun κ hc => ?_)
  show Wd κ 2 (QI κ k) 0 [(0, aK κ 65), (1, .int i1)] [] σ
  unfold x7_image at h
  refine r_iload_n 1 hc dX7_image_0 rfl ?_
  refine r_iconst (v := 0) hc dX7_image_1 (by decide) ?_
  refine r_iconst (v := 1) hc dX7_image_2 (by decide) ?_
  refine r_csI [.int i1, .int 0, .int 1] hc dX7_image_3 cX7_55 (t7_in h) rfl rfl rfl (Nat.le_of_ble_eq_true rfl) (by decide) (by decide) (fun r1 σ2 h => ?_)
  refine r_if_ne 12 hc dX7_image_6 (by decide) h (fun h => ?_) (fun h => ?_)
  · refine r_ldc hc dX7_image_9 kX7_63 ?_
    exact r_iret hc dX7_image_11 h
  · refine r_aload_n 0 hc dX7_image_12 rfl ?_
    refine r_cvI [] hc dX7_image_13 cX7_176 (t7_isStreet h) rfl (by decide) rfl rfl rfl rfl (Nat.le_of_ble_eq_true rfl) (by decide) (by decide) (fun r3 σ4 h => ?_)
    refine r_if_ne 22 hc dX7_image_16 (by decide) h (fun h => ?_) (fun h => ?_)
    · refine r_ldc hc dX7_image_19 kX7_162 ?_
      exact r_iret hc dX7_image_21 h
    · refine r_aload_n 0 hc dX7_image_22 rfl ?_
      refine r_get (K := 7) (f := 12) hc dX7_image_23 fX7_22 inX7 rfl rfl (by decide) (by decide) rfl rfl ?_
      refine r_iconst (v := 0) hc dX7_image_26 (by decide) ?_
      refine r_aload_n 0 hc dX7_image_27 rfl ?_
      refine r_get (K := 7) (f := 15) hc dX7_image_28 fX7_31 inX7 rfl rfl (by decide) (by decide) rfl rfl ?_
      refine r_bipush (v := 53) hc dX7_image_31 (by decide) ?_
      refine r_iload_n 1 hc dX7_image_33 rfl ?_
      refine r_imul hc dX7_image_34 ?_
      refine r_csV [aK κ 70, .int 0, aK κ 73, .int (53 * i1)] hc dX7_image_35 cX7_126 (t7_lay rfl rfl h) rfl rfl rfl (Nat.le_of_ble_eq_true rfl) (by decide) (by decide) (fun σ6 h => ?_)
      refine r_aload_n 0 hc dX7_image_38 rfl ?_
      refine r_get (K := 7) (f := 16) hc dX7_image_39 fX7_34 inX7 rfl rfl (by decide) (by decide) rfl rfl ?_
      refine r_iload_n 1 hc dX7_image_42 rfl ?_
      refine r_iconst (v := 1) hc dX7_image_43 (by decide) ?_
      refine r_zast1 hc dX7_image_44 rfl h (fun h => ?_)
      refine r_nmS h (fun σ7 h => ?_)
      refine r_iconst (v := 1) hc dX7_image_45 (by decide) ?_
      exact r_iret hc dX7_image_46 h
set_option maxRecDepth 100000 in
set_option maxHeartbeats 4000000 in
theorem u7_sortOf_51 {κ : KT} {k : Int32 → St → Prop} {i0 : Int32}  {s0 : Int32} {σ : St}  (hc : Cx κ cX7_sortOf 1 RX7 1 (some .int))    (h : x7_sortOf_51 i0 s0 σ k) : Wd κ 1 (QI κ k) 51 [(0, .int i0)] [.int s0] σ := by
  unfold x7_sortOf_51 at h
  exact r_iret hc dX7_sortOf_51 h
set_option maxRecDepth 100000 in
set_option maxHeartbeats 4000000 in
theorem t7_sortOf {l : Launch} {i0 : Int32} {σ : St} {k : Int32 → St → Prop}  (h : x7_sortOf i0 σ k) : CI l yX7_sortOf cX7_sortOf 1 1 (some .int) (fun ad => [.int i0]) σ k := by
  refine CI.of (lv := fun ad => [(0, .int i0)]) (by decide) (fun _ => Nat.le_of_ble_eq_true rfl) (fun _ => rfl) (fun κ hc => ?_)
  show Wd κ 1 (QI κ k) 0 [(0, .int i0)] [] σ
  unfold x7_sortOf at h
  refine r_iload_n 0 hc dX7_sortOf_0 rfl ?_
  refine r_bipush (v := 117) hc dX7_sortOf_1 (by decide) ?_
  refine r_icmp_ne 10 hc dX7_sortOf_3 (by decide) h (fun h => ?_) (fun h => ?_)
  · refine r_iconst (v := 1) hc dX7_sortOf_6 (by decide) ?_
    refine r_goto 51 hc dX7_sortOf_7 (by decide) ?_
    exact u7_sortOf_51 hc h
  · refine r_iload_n 0 hc dX7_sortOf_10 rfl ?_
    refine r_bipush (v := 108) hc dX7_sortOf_11 (by decide) ?_
    refine r_icmp_ne 20 hc dX7_sortOf_13 (by decide) h (fun h => ?_) (fun h => ?_)
    · refine r_iconst (v := 2) hc dX7_sortOf_16 (by decide) ?_
      refine r_goto 51 hc dX7_sortOf_17 (by decide) ?_
      exact u7_sortOf_51 hc h
    · refine r_iload_n 0 hc dX7_sortOf_20 rfl ?_
      refine r_bipush (v := 98) hc dX7_sortOf_21 (by decide) ?_
      refine r_icmp_ne 30 hc dX7_sortOf_23 (by decide) h (fun h => ?_) (fun h => ?_)
      · refine r_iconst (v := 3) hc dX7_sortOf_26 (by decide) ?_
        refine r_goto 51 hc dX7_sortOf_27 (by decide) ?_
        exact u7_sortOf_51 hc h
      · refine r_iload_n 0 hc dX7_sortOf_30 rfl ?_
        refine r_bipush (v := 112) hc dX7_sortOf_31 (by decide) ?_
        refine r_icmp_ne 40 hc dX7_sortOf_33 (by decide) h (fun h => ?_) (fun h => ?_)
        · refine r_iconst (v := 4) hc dX7_sortOf_36 (by decide) ?_
          refine r_goto 51 hc dX7_sortOf_37 (by decide) ?_
          exact u7_sortOf_51 hc h
        · refine r_iload_n 0 hc dX7_sortOf_40 rfl ?_
          refine r_bipush (v := 107) hc dX7_sortOf_41 (by decide) ?_
          refine r_icmp_ne 50 hc dX7_sortOf_43 (by decide) h (fun h => ?_) (fun h => ?_)
          · refine r_iconst (v := 5) hc dX7_sortOf_46 (by decide) ?_
            refine r_goto 51 hc dX7_sortOf_47 (by decide) ?_
            exact u7_sortOf_51 hc h
          · refine r_iconst (v := 0) hc dX7_sortOf_50 (by decide) ?_
            exact u7_sortOf_51 hc h
set_option maxRecDepth 100000 in
set_option maxHeartbeats 4000000 in
theorem u7_nextToken_218 {κ : KT} {k : St → Prop}    {σ : St}  (hc : Cx κ cX7_nextToken 2 RX7 2 none)    (h : x7_nextToken_218 σ k) : Wd κ 2 (QV κ k) 218 [(0, aK κ 65)] [] σ := by
  unfold x7_nextToken_218 at h
  exact r_vret hc dX7_nextToken_218 h
set_option maxRecDepth 100000 in
set_option maxHeartbeats 4000000 in
theorem u7_nextToken_205 {κ : KT} {k : St → Prop}   {s1 : Int32} {σ : St}  (hc : Cx κ cX7_nextToken 2 RX7 2 none)    (h : x7_nextToken_205 s1 σ k) : Wd κ 2 (QV κ k) 205 [(0, aK κ 65)] [.int s1, aK κ 65] σ := by
  unfold x7_nextToken_205 at h
  refine r_put (K := 7) (f := 8) hc dX7_nextToken_205 fX7_87 inX7 tyX7_ok nmX7 rfl rfl rfl rfl (by decide) (by decide) rfl rfl ?_
  refine r_nmS h (fun σ9 h => ?_)
  refine r_aload_n 0 hc dX7_nextToken_208 rfl ?_
  refine r_dup hc dX7_nextToken_209 rfl ?_
  refine r_get (K := 7) (f := 6) hc dX7_nextToken_210 fX7_78 inX7 rfl rfl (by decide) (by decide) rfl rfl ?_
  refine r_iconst (v := 1) hc dX7_nextToken_213 (by decide) ?_
  refine r_iadd hc dX7_nextToken_214 ?_
  refine r_put (K := 7) (f := 6) hc dX7_nextToken_215 fX7_78 inX7 tyX7_ok nmX7 rfl rfl rfl rfl (by decide) (by decide) rfl rfl ?_
  refine r_nmS h (fun σ10 h => ?_)
  exact u7_nextToken_218 hc h
set_option maxRecDepth 100000 in
set_option maxHeartbeats 4000000 in
theorem u7_nextToken_199 {κ : KT} {k : St → Prop}   {i1 : Int32} {σ : St}  (hc : Cx κ cX7_nextToken 2 RX7 2 none)    (h : x7_nextToken_199 i1 σ k) : Wd κ 2 (QV κ k) 199 [(0, aK κ 65), (1, .int i1)] [aK κ 65] σ := by
  unfold x7_nextToken_199 at h
  refine r_iload_n 1 hc dX7_nextToken_199 rfl ?_
  refine r_goto 205 hc dX7_nextToken_200 (by decide) ?_
  refine r_sub [0] rfl ?_
  exact u7_nextToken_205 hc h
set_option maxRecDepth 100000 in
set_option maxHeartbeats 4000000 in
theorem u7_nextToken_159 {κ : KT} {k : St → Prop}   {s1 : Int32} {σ : St}  (hc : Cx κ cX7_nextToken 2 RX7 2 none)    (h : x7_nextToken_159 s1 σ k) : Wd κ 2 (QV κ k) 159 [(0, aK κ 65)] [.int s1, aK κ 65] σ := by
  unfold x7_nextToken_159 at h
  refine r_put (K := 7) (f := 8) hc dX7_nextToken_159 fX7_87 inX7 tyX7_ok nmX7 rfl rfl rfl rfl (by decide) (by decide) rfl rfl ?_
  refine r_nmS h (fun σ11 h => ?_)
  refine r_goto 218 hc dX7_nextToken_162 (by decide) ?_
  exact u7_nextToken_218 hc h
set_option maxRecDepth 100000 in
set_option maxHeartbeats 4000000 in
theorem u7_nextToken_139 {κ : KT} {k : St → Prop}    {σ : St}  (hc : Cx κ cX7_nextToken 2 RX7 2 none)    (h : x7_nextToken_139 σ k) : Wd κ 2 (QV κ k) 139 [(0, aK κ 65)] [] σ := by
  unfold x7_nextToken_139 at h
  refine r_aload_n 0 hc dX7_nextToken_139 rfl ?_
  refine r_aload_n 0 hc dX7_nextToken_140 rfl ?_
  refine r_get (K := 7) (f := 6) hc dX7_nextToken_141 fX7_78 inX7 rfl rfl (by decide) (by decide) rfl rfl ?_
  refine r_aload_n 0 hc dX7_nextToken_144 rfl ?_
  refine r_get (K := 7) (f := 7) hc dX7_nextToken_145 fX7_81 inX7 rfl rfl (by decide) (by decide) rfl rfl ?_
  refine r_isub hc dX7_nextToken_148 ?_
  refine r_iconst (v := 2) hc dX7_nextToken_149 (by decide) ?_
  refine r_icmp_le 158 hc dX7_nextToken_150 (by decide) h (fun h => ?_) (fun h => ?_)
  · refine r_iconst (v := (-1)) hc dX7_nextToken_158 (by decide) ?_
    exact u7_nextToken_159 hc h
  · refine r_bipush (v := (-3)) hc dX7_nextToken_153 (by decide) ?_
    refine r_goto 159 hc dX7_nextToken_155 (by decide) ?_
    exact u7_nextToken_159 hc h
set_option maxRecDepth 100000 in
set_option maxHeartbeats 4000000 in
theorem u7_nextToken_123 {κ : KT} {k : St → Prop}  {R52 : St → Prop} {s1 : Int32} {σ : St}  (hc : Cx κ cX7_nextToken 2 RX7 2 none)  (hR52 : ∀  (σ : St), R52  σ → Wd κ 2 (QV κ k) 52 [(0, aK κ 65)] [] σ)  (h : x7_nextToken_123 R52 s1 σ k) : Wd κ 2 (QV κ k) 123 [(0, aK κ 65)] [.int s1, aK κ 65] σ := by
  unfold x7_nextToken_123 at h
  refine r_put (K := 7) (f := 9) hc dX7_nextToken_123 fX7_84 inX7 tyX7_ok nmX7 rfl rfl rfl rfl (by decide) (by decide) rfl rfl ?_
  refine r_nmS h (fun σ14 h => ?_)
  refine r_aload_n 0 hc dX7_nextToken_126 rfl ?_
  refine r_dup hc dX7_nextToken_127 rfl ?_
  refine r_get (K := 7) (f := 6) hc dX7_nextToken_128 fX7_78 inX7 rfl rfl (by decide) (by decide) rfl rfl ?_
  refine r_iconst (v := 1) hc dX7_nextToken_131 (by decide) ?_
  refine r_iadd hc dX7_nextToken_132 ?_
  refine r_put (K := 7) (f := 6) hc dX7_nextToken_133 fX7_78 inX7 tyX7_ok nmX7 rfl rfl rfl rfl (by decide) (by decide) rfl rfl ?_
  refine r_nmS h (fun σ15 h => ?_)
  refine r_goto 52 hc dX7_nextToken_136 (by decide) ?_
  exact hR52 _ h
set_option maxRecDepth 100000 in
set_option maxHeartbeats 4000000 in
theorem u7_nextToken_52 {κ : KT} {k : St → Prop}    (hc : Cx κ cX7_nextToken 2 RX7 2 none)   : ∀ (n : Nat)  (σ : St), x7_nextToken_52 k n  σ → Wd κ 2 (QV κ k) 52 [(0, aK κ 65)] [] σ := by
  intro n
  induction n with
  | zero => intro σ h; exact h.elim
  | succ n ih =>
    intro σ h
    unfold x7_nextToken_52 at h
    refine r_aload_n 0 hc dX7_nextToken_52 rfl ?_
    refine r_get (K := 7) (f := 6) hc dX7_nextToken_53 fX7_78 inX7 rfl rfl (by decide) (by decide) rfl rfl ?_
    refine r_aload_n 0 hc dX7_nextToken_56 rfl ?_
    refine r_get (K := 7) (f := 4) hc dX7_nextToken_57 fX7_74 inX7 rfl rfl (by decide) (by decide) rfl rfl ?_
    refine r_icmp_ge 139 hc dX7_nextToken_60 (by decide) h (fun h => ?_) (fun h => ?_)
    · exact u7_nextToken_139 hc h
    · refine r_aload_n 0 hc dX7_nextToken_63 rfl ?_
      refine r_get (K := 7) (f := 5) hc dX7_nextToken_64 fX7_19 inX7 rfl rfl (by decide) (by decide) rfl rfl ?_
      refine r_aload_n 0 hc dX7_nextToken_67 rfl ?_
      refine r_get (K := 7) (f := 6) hc dX7_nextToken_68 fX7_78 inX7 rfl rfl (by decide) (by decide) rfl rfl ?_
      refine r_iald hc dX7_nextToken_71 rfl h (fun h => ?_)
      refine r_bipush (v := 48) hc dX7_nextToken_72 (by decide) ?_
      refine r_bipush (v := 57) hc dX7_nextToken_74 (by decide) ?_
      refine r_csI [.int (σ 69 (σ 65 6).toNatClampNeg), .int 48, .int 57] hc dX7_nextToken_76 cX7_55 (t7_in h) rfl rfl rfl (Nat.le_of_ble_eq_true rfl) (by decide) (by decide) (fun r12 σ13 h => ?_)
      refine r_if_eq 139 hc dX7_nextToken_79 (by decide) h (fun h => ?_) (fun h => ?_)
      · exact u7_nextToken_139 hc h
      · refine r_aload_n 0 hc dX7_nextToken_82 rfl ?_
        refine r_aload_n 0 hc dX7_nextToken_83 rfl ?_
        refine r_get (K := 7) (f := 6) hc dX7_nextToken_84 fX7_78 inX7 rfl rfl (by decide) (by decide) rfl rfl ?_
        refine r_aload_n 0 hc dX7_nextToken_87 rfl ?_
        refine r_get (K := 7) (f := 7) hc dX7_nextToken_88 fX7_81 inX7 rfl rfl (by decide) (by decide) rfl rfl ?_
        refine r_isub hc dX7_nextToken_91 ?_
        refine r_iconst (v := 2) hc dX7_nextToken_92 (by decide) ?_
        refine r_icmp_ge 119 hc dX7_nextToken_93 (by decide) h (fun h => ?_) (fun h => ?_)
        · refine r_aload_n 0 hc dX7_nextToken_119 rfl ?_
          refine r_get (K := 7) (f := 9) hc dX7_nextToken_120 fX7_84 inX7 rfl rfl (by decide) (by decide) rfl rfl ?_
          exact u7_nextToken_123 hc ih h
        · refine r_bipush (v := 10) hc dX7_nextToken_96 (by decide) ?_
          refine r_aload_n 0 hc dX7_nextToken_98 rfl ?_
          refine r_get (K := 7) (f := 9) hc dX7_nextToken_99 fX7_84 inX7 rfl rfl (by decide) (by decide) rfl rfl ?_
          refine r_imul hc dX7_nextToken_102 ?_
          refine r_aload_n 0 hc dX7_nextToken_103 rfl ?_
          refine r_get (K := 7) (f := 5) hc dX7_nextToken_104 fX7_19 inX7 rfl rfl (by decide) (by decide) rfl rfl ?_
          refine r_aload_n 0 hc dX7_nextToken_107 rfl ?_
          refine r_get (K := 7) (f := 6) hc dX7_nextToken_108 fX7_78 inX7 rfl rfl (by decide) (by decide) rfl rfl ?_
          refine r_iald hc dX7_nextToken_111 rfl h (fun h => ?_)
          refine r_iadd hc dX7_nextToken_112 ?_
          refine r_bipush (v := 48) hc dX7_nextToken_113 (by decide) ?_
          refine r_isub hc dX7_nextToken_115 ?_
          refine r_goto 123 hc dX7_nextToken_116 (by decide) ?_
          exact u7_nextToken_123 hc ih h
set_option maxRecDepth 100000 in
set_option maxHeartbeats 4000000 in
theorem t7_nextToken {l : Launch}  {σ : St} {k : St → Prop}  (h : x7_nextToken  σ k) : CV l yX7_nextToken cX7_nextToken 2 2 none (fun ad => [.ref (ad 65)]) σ k := by
  refine CV.of (lv := fun ad => [(0, .ref (ad 65))]) (by decide) (fun _ => Nat.le_of_ble_eq_true rfl) (fun _ => rfl) (fun κ hc => ?_)
  show Wd κ 2 (QV κ k) 0 [(0, aK κ 65)] [] σ
  unfold x7_nextToken at h
  refine r_aload_n 0 hc dX7_nextToken_0 rfl ?_
  refine r_aload_n 0 hc dX7_nextToken_1 rfl ?_
  refine r_get (K := 7) (f := 6) hc dX7_nextToken_2 fX7_78 inX7 rfl rfl (by decide) (by decide) rfl rfl ?_
  refine r_put (K := 7) (f := 7) hc dX7_nextToken_5 fX7_81 inX7 tyX7_ok nmX7 rfl rfl rfl rfl (by decide) (by decide) rfl rfl ?_
  refine r_nmS h (fun σ1 h => ?_)
  refine r_aload_n 0 hc dX7_nextToken_8 rfl ?_
  refine r_iconst (v := 0) hc dX7_nextToken_9 (by decide) ?_
  refine r_put (K := 7) (f := 9) hc dX7_nextToken_10 fX7_84 inX7 tyX7_ok nmX7 rfl rfl rfl rfl (by decide) (by decide) rfl rfl ?_
  refine r_nmS h (fun σ2 h => ?_)
  refine r_aload_n 0 hc dX7_nextToken_13 rfl ?_
  refine r_get (K := 7) (f := 6) hc dX7_nextToken_14 fX7_78 inX7 rfl rfl (by decide) (by decide) rfl rfl ?_
  refine r_aload_n 0 hc dX7_nextToken_17 rfl ?_
  refine r_get (K := 7) (f := 4) hc dX7_nextToken_18 fX7_74 inX7 rfl rfl (by decide) (by decide) rfl rfl ?_
  refine r_icmp_ne 33 hc dX7_nextToken_21 (by decide) h (fun h => ?_) (fun h => ?_)
  · refine r_aload_n 0 hc dX7_nextToken_24 rfl ?_
    refine r_bipush (v := (-2)) hc dX7_nextToken_25 (by decide) ?_
    refine r_put (K := 7) (f := 8) hc dX7_nextToken_27 fX7_87 inX7 tyX7_ok nmX7 rfl rfl rfl rfl (by decide) (by decide) rfl rfl ?_
    refine r_nmS h (fun σ3 h => ?_)
    refine r_goto 218 hc dX7_nextToken_30 (by decide) ?_
    exact u7_nextToken_218 hc h
  · refine r_aload_n 0 hc dX7_nextToken_33 rfl ?_
    refine r_get (K := 7) (f := 5) hc dX7_nextToken_34 fX7_19 inX7 rfl rfl (by decide) (by decide) rfl rfl ?_
    refine r_aload_n 0 hc dX7_nextToken_37 rfl ?_
    refine r_get (K := 7) (f := 6) hc dX7_nextToken_38 fX7_78 inX7 rfl rfl (by decide) (by decide) rfl rfl ?_
    refine r_iald hc dX7_nextToken_41 rfl h (fun h => ?_)
    refine r_bipush (v := 48) hc dX7_nextToken_42 (by decide) ?_
    refine r_bipush (v := 57) hc dX7_nextToken_44 (by decide) ?_
    refine r_csI [.int (σ2 69 (σ2 65 6).toNatClampNeg), .int 48, .int 57] hc dX7_nextToken_46 cX7_55 (t7_in h) rfl rfl rfl (Nat.le_of_ble_eq_true rfl) (by decide) (by decide) (fun r4 σ5 h => ?_)
    refine r_if_eq 165 hc dX7_nextToken_49 (by decide) h (fun h => ?_) (fun h => ?_)
    · refine r_aload_n 0 hc dX7_nextToken_165 rfl ?_
      refine r_get (K := 7) (f := 5) hc dX7_nextToken_166 fX7_19 inX7 rfl rfl (by decide) (by decide) rfl rfl ?_
      refine r_aload_n 0 hc dX7_nextToken_169 rfl ?_
      refine r_get (K := 7) (f := 6) hc dX7_nextToken_170 fX7_78 inX7 rfl rfl (by decide) (by decide) rfl rfl ?_
      refine r_iald hc dX7_nextToken_173 rfl h (fun h => ?_)
      refine r_nmI h (fun v6 h => ?_)
      refine r_istore_n (lv' := [(1, .int v6), (0, aK κ 65)]) hc dX7_nextToken_174 (by decide) rfl ?_
      refine r_aload_n 1 hc dX7_nextToken_175 rfl ?_
      refine r_iload_n 0 hc dX7_nextToken_176 rfl ?_
      refine r_bipush (v := 97) hc dX7_nextToken_177 (by decide) ?_
      refine r_bipush (v := 122) hc dX7_nextToken_179 (by decide) ?_
      refine r_csI [.int v6, .int 97, .int 122] hc dX7_nextToken_181 cX7_55 (t7_in h) rfl rfl rfl (Nat.le_of_ble_eq_true rfl) (by decide) (by decide) (fun r7 σ8 h => ?_)
      refine r_if_ne 199 hc dX7_nextToken_184 (by decide) h (fun h => ?_) (fun h => ?_)
      · refine r_iload_n 0 hc dX7_nextToken_187 rfl ?_
        refine r_bipush (v := 44) hc dX7_nextToken_188 (by decide) ?_
        refine r_icmp_eq 199 hc dX7_nextToken_190 (by decide) h (fun h => ?_) (fun h => ?_)
        · refine r_sub [1, 0] rfl ?_
          exact u7_nextToken_199 hc h
        · refine r_iload_n 0 hc dX7_nextToken_193 rfl ?_
          refine r_bipush (v := 59) hc dX7_nextToken_194 (by decide) ?_
          refine r_icmp_ne 203 hc dX7_nextToken_196 (by decide) h (fun h => ?_) (fun h => ?_)
          · refine r_sub [1, 0] rfl ?_
            exact u7_nextToken_199 hc h
          · refine r_bipush (v := (-3)) hc dX7_nextToken_203 (by decide) ?_
            refine r_sub [1] rfl ?_
            exact u7_nextToken_205 hc h
      · refine r_sub [1, 0] rfl ?_
        exact u7_nextToken_199 hc h
    · obtain ⟨n0, h⟩ := h
      exact u7_nextToken_52 hc n0 _ h
set_option maxRecDepth 100000 in
set_option maxHeartbeats 4000000 in
theorem u7_isNumber_43 {κ : KT} {k : Int32 → St → Prop} {i1 : Int32} {i2 : Int32}  {s0 : Int32} {σ : St}  (hc : Cx κ cX7_isNumber 3 RX7 3 (some .boolean))    (h : x7_isNumber_43 i1 i2 s0 σ k) : Wd κ 3 (QI κ k) 43 [(0, aK κ 65), (1, .int i1), (2, .int i2)] [.int s0] σ := by
  unfold x7_isNumber_43 at h
  exact r_zret hc dX7_isNumber_43 h
set_option maxRecDepth 100000 in
set_option maxHeartbeats 4000000 in
theorem u7_isNumber_38 {κ : KT} {k : Int32 → St → Prop} {i1 : Int32} {i2 : Int32}   {σ : St}  (hc : Cx κ cX7_isNumber 3 RX7 3 (some .boolean))    (h : x7_isNumber_38 i1 i2 σ k) : Wd κ 3 (QI κ k) 38 [(0, aK κ 65), (1, .int i1), (2, .int i2)] [] σ := by
  unfold x7_isNumber_38 at h
  refine r_iconst (v := 1) hc dX7_isNumber_38 (by decide) ?_
  refine r_goto 43 hc dX7_isNumber_39 (by decide) ?_
  exact u7_isNumber_43 hc h
set_option maxRecDepth 100000 in
set_option maxHeartbeats 4000000 in
theorem t7_isNumber {l : Launch} {i1 : Int32} {i2 : Int32} {σ : St} {k : Int32 → St → Prop}  (h : x7_isNumber i1 i2 σ k) : CI l yX7_isNumber cX7_isNumber 3 3 (some .boolean) (fun ad => [.ref (ad 65), .int i1, .int i2]) σ k := by
  refine CI.of (lv := fun ad => [(0, .ref (ad 65)), (1, .int i1), (2, .int i2)]) (by decide) (fun _ => Nat.le_of_ble_eq_true rfl) (fun _ => rfl) (fun κ hc => ?_)
  show Wd κ 3 (QI κ k) 0 [(0, aK κ 65), (1, .int i1), (2, .int i2)] [] σ
  unfold x7_isNumber at h
  refine r_aload_n 0 hc dX7_isNumber_0 rfl ?_
  refine r_cvV [] hc dX7_isNumber_1 cX7_93 (t7_nextToken h) rfl (by decide) rfl rfl rfl rfl (Nat.le_of_ble_eq_true rfl) (by decide) (by decide) (fun σ2 h => ?_)
  refine r_aload_n 0 hc dX7_isNumber_4 rfl ?_
  refine r_get (K := 7) (f := 8) hc dX7_isNumber_5 fX7_87 inX7 rfl rfl (by decide) (by decide) rfl rfl ?_
  refine r_iconst (v := (-1)) hc dX7_isNumber_8 (by decide) ?_
  refine r_icmp_eq 18 hc dX7_isNumber_9 (by decide) h (fun h => ?_) (fun h => ?_)
  · refine r_aload_n 0 hc dX7_isNumber_18 rfl ?_
    refine r_get (K := 7) (f := 9) hc dX7_isNumber_19 fX7_84 inX7 rfl rfl (by decide) (by decide) rfl rfl ?_
    refine r_iload_n 1 hc dX7_isNumber_22 rfl ?_
    refine r_iload_n 2 hc dX7_isNumber_23 rfl ?_
    refine r_csI [.int (σ2 65 9), .int i1, .int i2] hc dX7_isNumber_24 cX7_55 (t7_in h) rfl rfl rfl (Nat.le_of_ble_eq_true rfl) (by decide) (by decide) (fun r3 σ4 h => ?_)
    refine r_if_ne 38 hc dX7_isNumber_27 (by decide) h (fun h => ?_) (fun h => ?_)
    · refine r_aload_n 0 hc dX7_isNumber_30 rfl ?_
      refine r_iconst (v := 2) hc dX7_isNumber_31 (by decide) ?_
      refine r_cvI [.int 2] hc dX7_isNumber_32 cX7_96 (t7_fails h) rfl (by decide) rfl rfl rfl rfl (Nat.le_of_ble_eq_true rfl) (by decide) (by decide) (fun r5 σ6 h => ?_)
      refine r_if_eq 42 hc dX7_isNumber_35 (by decide) h (fun h => ?_) (fun h => ?_)
      · refine r_iconst (v := 0) hc dX7_isNumber_42 (by decide) ?_
        exact u7_isNumber_43 hc h
      · exact u7_isNumber_38 hc h
    · exact u7_isNumber_38 hc h
  · refine r_aload_n 0 hc dX7_isNumber_12 rfl ?_
    refine r_iconst (v := 1) hc dX7_isNumber_13 (by decide) ?_
    refine r_cvI [.int 1] hc dX7_isNumber_14 cX7_96 (t7_fails h) rfl (by decide) rfl rfl rfl rfl (Nat.le_of_ble_eq_true rfl) (by decide) (by decide) (fun r7 σ8 h => ?_)
    exact r_zret hc dX7_isNumber_17 h
set_option maxRecDepth 100000 in
set_option maxHeartbeats 4000000 in
theorem u7_isSign_25 {κ : KT} {k : Int32 → St → Prop} {i1 : Int32}  {s0 : Int32} {σ : St}  (hc : Cx κ cX7_isSign 2 RX7 3 (some .boolean))    (h : x7_isSign_25 i1 s0 σ k) : Wd κ 2 (QI κ k) 25 [(0, aK κ 65), (1, .int i1)] [.int s0] σ := by
  unfold x7_isSign_25 at h
  exact r_zret hc dX7_isSign_25 h
set_option maxRecDepth 100000 in
set_option maxHeartbeats 4000000 in
theorem u7_isSign_20 {κ : KT} {k : Int32 → St → Prop} {i1 : Int32}   {σ : St}  (hc : Cx κ cX7_isSign 2 RX7 3 (some .boolean))    (h : x7_isSign_20 i1 σ k) : Wd κ 2 (QI κ k) 20 [(0, aK κ 65), (1, .int i1)] [] σ := by
  unfold x7_isSign_20 at h
  refine r_iconst (v := 1) hc dX7_isSign_20 (by decide) ?_
  refine r_goto 25 hc dX7_isSign_21 (by decide) ?_
  exact u7_isSign_25 hc h
set_option maxRecDepth 100000 in
set_option maxHeartbeats 4000000 in
theorem t7_isSign {l : Launch} {i1 : Int32} {σ : St} {k : Int32 → St → Prop}  (h : x7_isSign i1 σ k) : CI l yX7_isSign cX7_isSign 2 3 (some .boolean) (fun ad => [.ref (ad 65), .int i1]) σ k := by
  refine CI.of (lv := fun ad => [(0, .ref (ad 65)), (1, .int i1)]) (by decide) (fun _ => Nat.le_of_ble_eq_true rfl) (fun _ => rfl) (fun κ hc => ?_)
  show Wd κ 2 (QI κ k) 0 [(0, aK κ 65), (1, .int i1)] [] σ
  unfold x7_isSign at h
  refine r_aload_n 0 hc dX7_isSign_0 rfl ?_
  refine r_cvV [] hc dX7_isSign_1 cX7_93 (t7_nextToken h) rfl (by decide) rfl rfl rfl rfl (Nat.le_of_ble_eq_true rfl) (by decide) (by decide) (fun σ2 h => ?_)
  refine r_aload_n 0 hc dX7_isSign_4 rfl ?_
  refine r_get (K := 7) (f := 8) hc dX7_isSign_5 fX7_87 inX7 rfl rfl (by decide) (by decide) rfl rfl ?_
  refine r_iload_n 1 hc dX7_isSign_8 rfl ?_
  refine r_icmp_eq 20 hc dX7_isSign_9 (by decide) h (fun h => ?_) (fun h => ?_)
  · exact u7_isSign_20 hc h
  · refine r_aload_n 0 hc dX7_isSign_12 rfl ?_
    refine r_iconst (v := 1) hc dX7_isSign_13 (by decide) ?_
    refine r_cvI [.int 1] hc dX7_isSign_14 cX7_96 (t7_fails h) rfl (by decide) rfl rfl rfl rfl (Nat.le_of_ble_eq_true rfl) (by decide) (by decide) (fun r3 σ4 h => ?_)
    refine r_if_eq 24 hc dX7_isSign_17 (by decide) h (fun h => ?_) (fun h => ?_)
    · refine r_iconst (v := 0) hc dX7_isSign_24 (by decide) ?_
      exact u7_isSign_25 hc h
    · exact u7_isSign_20 hc h
set_option maxRecDepth 100000 in
set_option maxHeartbeats 4000000 in
theorem u7_isCaller_90 {κ : KT} {k : Int32 → St → Prop}    {σ : St}  (hc : Cx κ cX7_isCaller 2 RX7 4 (some .boolean))    (h : x7_isCaller_90 σ k) : Wd κ 2 (QI κ k) 90 [(0, aK κ 65)] [] σ := by
  unfold x7_isCaller_90 at h
  refine r_iconst (v := 0) hc dX7_isCaller_90 (by decide) ?_
  exact r_zret hc dX7_isCaller_91 h
set_option maxRecDepth 100000 in
set_option maxHeartbeats 4000000 in
theorem t7_isCaller {l : Launch}  {σ : St} {k : Int32 → St → Prop}  (h : x7_isCaller  σ k) : CI l yX7_isCaller cX7_isCaller 2 4 (some .boolean) (fun ad => [.ref (ad 65)]) σ k := by
  refine CI.of (lv := fun ad => [(0, .ref (ad 65))]) (by decide) (fun _ => Nat.le_of_ble_eq_true rfl) (fun _ => rfl) (fun κ hc => ?_)
  show Wd κ 2 (QI κ k) 0 [(0, aK κ 65)] [] σ
  unfold x7_isCaller at h
  refine r_aload_n 0 hc dX7_isCaller_0 rfl ?_
  refine r_get (K := 7) (f := 13) hc dX7_isCaller_1 fX7_25 inX7 rfl rfl (by decide) (by decide) rfl rfl ?_
  refine r_iconst (v := 3) hc dX7_isCaller_4 (by decide) ?_
  refine r_iald hc dX7_isCaller_5 rfl h (fun h => ?_)
  refine r_bipush (v := 6) hc dX7_isCaller_6 (by decide) ?_
  refine r_icmp_ne 17 hc dX7_isCaller_8 (by decide) h (fun h => ?_) (fun h => ?_)
  · refine r_aload_n 0 hc dX7_isCaller_11 rfl ?_
    refine r_iconst (v := 3) hc dX7_isCaller_12 (by decide) ?_
    refine r_cvI [.int 3] hc dX7_isCaller_13 cX7_96 (t7_fails h) rfl (by decide) rfl rfl rfl rfl (Nat.le_of_ble_eq_true rfl) (by decide) (by decide) (fun r1 σ2 h => ?_)
    exact r_zret hc dX7_isCaller_16 h
  · refine r_aload_n 0 hc dX7_isCaller_17 rfl ?_
    refine r_get (K := 7) (f := 13) hc dX7_isCaller_18 fX7_25 inX7 rfl rfl (by decide) (by decide) rfl rfl ?_
    refine r_iconst (v := 3) hc dX7_isCaller_21 (by decide) ?_
    refine r_iald hc dX7_isCaller_22 rfl h (fun h => ?_)
    refine r_nmI h (fun v3 h => ?_)
    refine r_istore_n (lv' := [(1, .int v3), (0, aK κ 65)]) hc dX7_isCaller_23 (by decide) rfl ?_
    refine r_aload_n 1 hc dX7_isCaller_24 rfl ?_
    refine r_get (K := 7) (f := 13) hc dX7_isCaller_25 fX7_25 inX7 rfl rfl (by decide) (by decide) rfl rfl ?_
    refine r_bipush (v := 29) hc dX7_isCaller_28 (by decide) ?_
    refine r_iload_n 0 hc dX7_isCaller_30 rfl ?_
    refine r_iadd hc dX7_isCaller_31 ?_
    refine r_aload_n 1 hc dX7_isCaller_32 rfl ?_
    refine r_get (K := 7) (f := 8) hc dX7_isCaller_33 fX7_87 inX7 rfl rfl (by decide) (by decide) rfl rfl ?_
    refine r_csI [.int (σ 65 8)] hc dX7_isCaller_36 cX7_106 (t7_sortOf h) rfl rfl rfl (Nat.le_of_ble_eq_true rfl) (by decide) (by decide) (fun r4 σ5 h => ?_)
    refine r_iast hc dX7_isCaller_39 rfl h (fun h => ?_)
    refine r_nmS h (fun σ6 h => ?_)
    refine r_aload_n 1 hc dX7_isCaller_40 rfl ?_
    refine r_iconst (v := 0) hc dX7_isCaller_41 (by decide) ?_
    refine r_aload_n 1 hc dX7_isCaller_42 rfl ?_
    refine r_get (K := 7) (f := 13) hc dX7_isCaller_43 fX7_25 inX7 rfl rfl (by decide) (by decide) rfl rfl ?_
    refine r_iconst (v := 2) hc dX7_isCaller_46 (by decide) ?_
    refine r_iald hc dX7_isCaller_47 rfl h (fun h => ?_)
    refine r_iconst (v := 1) hc dX7_isCaller_48 (by decide) ?_
    refine r_isub hc dX7_isCaller_49 ?_
    refine r_cvI [.int 0, .int ((σ6 71 (2 : Int32).toNatClampNeg) - 1)] hc dX7_isCaller_50 cX7_102 (t7_isNumber h) rfl (by decide) rfl rfl rfl rfl (Nat.le_of_ble_eq_true rfl) (by decide) (by decide) (fun r7 σ8 h => ?_)
    refine r_if_ne 58 hc dX7_isCaller_53 (by decide) h (fun h => ?_) (fun h => ?_)
    · refine r_iconst (v := 0) hc dX7_isCaller_56 (by decide) ?_
      exact r_zret hc dX7_isCaller_57 h
    · refine r_aload_n 1 hc dX7_isCaller_58 rfl ?_
      refine r_get (K := 7) (f := 13) hc dX7_isCaller_59 fX7_25 inX7 rfl rfl (by decide) (by decide) rfl rfl ?_
      refine r_bipush (v := 41) hc dX7_isCaller_62 (by decide) ?_
      refine r_iload_n 0 hc dX7_isCaller_64 rfl ?_
      refine r_iadd hc dX7_isCaller_65 ?_
      refine r_aload_n 1 hc dX7_isCaller_66 rfl ?_
      refine r_get (K := 7) (f := 9) hc dX7_isCaller_67 fX7_84 inX7 rfl rfl (by decide) (by decide) rfl rfl ?_
      refine r_iast hc dX7_isCaller_70 rfl h (fun h => ?_)
      refine r_nmS h (fun σ9 h => ?_)
      refine r_aload_n 1 hc dX7_isCaller_71 rfl ?_
      refine r_bipush (v := 44) hc dX7_isCaller_72 (by decide) ?_
      refine r_cvI [.int 44] hc dX7_isCaller_74 cX7_99 (t7_isSign h) rfl (by decide) rfl rfl rfl rfl (Nat.le_of_ble_eq_true rfl) (by decide) (by decide) (fun r10 σ11 h => ?_)
      refine r_if_eq 90 hc dX7_isCaller_77 (by decide) h (fun h => ?_) (fun h => ?_)
      · refine r_sub [1] rfl ?_
        exact u7_isCaller_90 hc h
      · refine r_aload_n 1 hc dX7_isCaller_80 rfl ?_
        refine r_iconst (v := 0) hc dX7_isCaller_81 (by decide) ?_
        refine r_bipush (v := 20) hc dX7_isCaller_82 (by decide) ?_
        refine r_cvI [.int 0, .int 20] hc dX7_isCaller_84 cX7_102 (t7_isNumber h) rfl (by decide) rfl rfl rfl rfl (Nat.le_of_ble_eq_true rfl) (by decide) (by decide) (fun r12 σ13 h => ?_)
        refine r_if_ne 92 hc dX7_isCaller_87 (by decide) h (fun h => ?_) (fun h => ?_)
        · refine r_sub [1] rfl ?_
          exact u7_isCaller_90 hc h
        · refine r_aload_n 1 hc dX7_isCaller_92 rfl ?_
          refine r_get (K := 7) (f := 13) hc dX7_isCaller_93 fX7_25 inX7 rfl rfl (by decide) (by decide) rfl rfl ?_
          refine r_bipush (v := 35) hc dX7_isCaller_96 (by decide) ?_
          refine r_iload_n 0 hc dX7_isCaller_98 rfl ?_
          refine r_iadd hc dX7_isCaller_99 ?_
          refine r_aload_n 1 hc dX7_isCaller_100 rfl ?_
          refine r_get (K := 7) (f := 9) hc dX7_isCaller_101 fX7_84 inX7 rfl rfl (by decide) (by decide) rfl rfl ?_
          refine r_iast hc dX7_isCaller_104 rfl h (fun h => ?_)
          refine r_nmS h (fun σ14 h => ?_)
          refine r_aload_n 1 hc dX7_isCaller_105 rfl ?_
          refine r_get (K := 7) (f := 13) hc dX7_isCaller_106 fX7_25 inX7 rfl rfl (by decide) (by decide) rfl rfl ?_
          refine r_iconst (v := 3) hc dX7_isCaller_109 (by decide) ?_
          refine r_dup2 hc dX7_isCaller_110 rfl rfl ?_
          refine r_iald hc dX7_isCaller_111 rfl h (fun h => ?_)
          refine r_iconst (v := 1) hc dX7_isCaller_112 (by decide) ?_
          refine r_iadd hc dX7_isCaller_113 ?_
          refine r_iast hc dX7_isCaller_114 rfl h (fun h => ?_)
          refine r_nmS h (fun σ15 h => ?_)
          refine r_aload_n 1 hc dX7_isCaller_115 rfl ?_
          refine r_bipush (v := 59) hc dX7_isCaller_116 (by decide) ?_
          refine r_cvI [.int 59] hc dX7_isCaller_118 cX7_99 (t7_isSign h) rfl (by decide) rfl rfl rfl rfl (Nat.le_of_ble_eq_true rfl) (by decide) (by decide) (fun r16 σ17 h => ?_)
          exact r_zret hc dX7_isCaller_121 h
set_option maxRecDepth 100000 in
set_option maxHeartbeats 4000000 in
theorem t7_isDoor {l : Launch}  {σ : St} {k : Int32 → St → Prop}  (h : x7_isDoor  σ k) : CI l yX7_isDoor cX7_isDoor 1 4 (some .boolean) (fun ad => [.ref (ad 65)]) σ k := by
  refine CI.of (lv := fun ad => [(0, .ref (ad 65))]) (by decide) (fun _ => Nat.le_of_ble_eq_true rfl) (fun _ => rfl) (fun κ hc => ?_)
  show Wd κ 1 (QI κ k) 0 [(0, aK κ 65)] [] σ
  unfold x7_isDoor at h
  refine r_aload_n 0 hc dX7_isDoor_0 rfl ?_
  refine r_get (K := 7) (f := 13) hc dX7_isDoor_1 fX7_25 inX7 rfl rfl (by decide) (by decide) rfl rfl ?_
  refine r_iconst (v := 2) hc dX7_isDoor_4 (by decide) ?_
  refine r_iald hc dX7_isDoor_5 rfl h (fun h => ?_)
  refine r_bipush (v := 6) hc dX7_isDoor_6 (by decide) ?_
  refine r_icmp_ne 17 hc dX7_isDoor_8 (by decide) h (fun h => ?_) (fun h => ?_)
  · refine r_aload_n 0 hc dX7_isDoor_11 rfl ?_
    refine r_iconst (v := 3) hc dX7_isDoor_12 (by decide) ?_
    refine r_cvI [.int 3] hc dX7_isDoor_13 cX7_96 (t7_fails h) rfl (by decide) rfl rfl rfl rfl (Nat.le_of_ble_eq_true rfl) (by decide) (by decide) (fun r1 σ2 h => ?_)
    exact r_zret hc dX7_isDoor_16 h
  · refine r_aload_n 0 hc dX7_isDoor_17 rfl ?_
    refine r_iconst (v := 1) hc dX7_isDoor_18 (by decide) ?_
    refine r_bipush (v := 20) hc dX7_isDoor_19 (by decide) ?_
    refine r_cvI [.int 1, .int 20] hc dX7_isDoor_21 cX7_102 (t7_isNumber h) rfl (by decide) rfl rfl rfl rfl (Nat.le_of_ble_eq_true rfl) (by decide) (by decide) (fun r3 σ4 h => ?_)
    refine r_if_ne 29 hc dX7_isDoor_24 (by decide) h (fun h => ?_) (fun h => ?_)
    · refine r_iconst (v := 0) hc dX7_isDoor_27 (by decide) ?_
      exact r_zret hc dX7_isDoor_28 h
    · refine r_aload_n 0 hc dX7_isDoor_29 rfl ?_
      refine r_get (K := 7) (f := 13) hc dX7_isDoor_30 fX7_25 inX7 rfl rfl (by decide) (by decide) rfl rfl ?_
      refine r_iconst (v := 5) hc dX7_isDoor_33 (by decide) ?_
      refine r_aload_n 0 hc dX7_isDoor_34 rfl ?_
      refine r_get (K := 7) (f := 13) hc dX7_isDoor_35 fX7_25 inX7 rfl rfl (by decide) (by decide) rfl rfl ?_
      refine r_iconst (v := 2) hc dX7_isDoor_38 (by decide) ?_
      refine r_iald hc dX7_isDoor_39 rfl h (fun h => ?_)
      refine r_iadd hc dX7_isDoor_40 ?_
      refine r_aload_n 0 hc dX7_isDoor_41 rfl ?_
      refine r_get (K := 7) (f := 9) hc dX7_isDoor_42 fX7_84 inX7 rfl rfl (by decide) (by decide) rfl rfl ?_
      refine r_iast hc dX7_isDoor_45 rfl h (fun h => ?_)
      refine r_nmS h (fun σ5 h => ?_)
      refine r_aload_n 0 hc dX7_isDoor_46 rfl ?_
      refine r_get (K := 7) (f := 13) hc dX7_isDoor_47 fX7_25 inX7 rfl rfl (by decide) (by decide) rfl rfl ?_
      refine r_iconst (v := 2) hc dX7_isDoor_50 (by decide) ?_
      refine r_dup2 hc dX7_isDoor_51 rfl rfl ?_
      refine r_iald hc dX7_isDoor_52 rfl h (fun h => ?_)
      refine r_iconst (v := 1) hc dX7_isDoor_53 (by decide) ?_
      refine r_iadd hc dX7_isDoor_54 ?_
      refine r_iast hc dX7_isDoor_55 rfl h (fun h => ?_)
      refine r_nmS h (fun σ6 h => ?_)
      refine r_aload_n 0 hc dX7_isDoor_56 rfl ?_
      refine r_bipush (v := 59) hc dX7_isDoor_57 (by decide) ?_
      refine r_cvI [.int 59] hc dX7_isDoor_59 cX7_99 (t7_isSign h) rfl (by decide) rfl rfl rfl rfl (Nat.le_of_ble_eq_true rfl) (by decide) (by decide) (fun r7 σ8 h => ?_)
      exact r_zret hc dX7_isDoor_62 h
set_option maxRecDepth 100000 in
set_option maxHeartbeats 4000000 in
theorem u7_isLaw_19 {κ : KT} {k : Int32 → St → Prop}    {σ : St}  (hc : Cx κ cX7_isLaw 1 RX7 4 (some .boolean))    (h : x7_isLaw_19 σ k) : Wd κ 1 (QI κ k) 19 [(0, aK κ 65)] [] σ := by
  unfold x7_isLaw_19 at h
  refine r_iconst (v := 0) hc dX7_isLaw_19 (by decide) ?_
  exact r_zret hc dX7_isLaw_20 h
set_option maxRecDepth 100000 in
set_option maxHeartbeats 4000000 in
theorem u7_isLaw_50 {κ : KT} {k : Int32 → St → Prop}    {σ : St}  (hc : Cx κ cX7_isLaw 1 RX7 4 (some .boolean))    (h : x7_isLaw_50 σ k) : Wd κ 1 (QI κ k) 50 [(0, aK κ 65)] [] σ := by
  unfold x7_isLaw_50 at h
  refine r_iconst (v := 0) hc dX7_isLaw_50 (by decide) ?_
  exact r_zret hc dX7_isLaw_51 h
set_option maxRecDepth 100000 in
set_option maxHeartbeats 4000000 in
theorem t7_isLaw {l : Launch}  {σ : St} {k : Int32 → St → Prop}  (h : x7_isLaw  σ k) : CI l yX7_isLaw cX7_isLaw 1 4 (some .boolean) (fun ad => [.ref (ad 65)]) σ k := by
  refine CI.of (lv := fun ad => [(0, .ref (ad 65))]) (by decide) (fun _ => Nat.le_of_ble_eq_true rfl) (fun _ => rfl) (fun κ hc => ?_)
  show Wd κ 1 (QI κ k) 0 [(0, aK κ 65)] [] σ
  unfold x7_isLaw at h
  refine r_aload_n 0 hc dX7_isLaw_0 rfl ?_
  refine r_bipush (v := 103) hc dX7_isLaw_1 (by decide) ?_
  refine r_cvI [.int 103] hc dX7_isLaw_3 cX7_99 (t7_isSign h) rfl (by decide) rfl rfl rfl rfl (Nat.le_of_ble_eq_true rfl) (by decide) (by decide) (fun r1 σ2 h => ?_)
  refine r_if_eq 19 hc dX7_isLaw_6 (by decide) h (fun h => ?_) (fun h => ?_)
  · exact u7_isLaw_19 hc h
  · refine r_aload_n 0 hc dX7_isLaw_9 rfl ?_
    refine r_iconst (v := 0) hc dX7_isLaw_10 (by decide) ?_
    refine r_bipush (v := 60) hc dX7_isLaw_11 (by decide) ?_
    refine r_cvI [.int 0, .int 60] hc dX7_isLaw_13 cX7_102 (t7_isNumber h) rfl (by decide) rfl rfl rfl rfl (Nat.le_of_ble_eq_true rfl) (by decide) (by decide) (fun r3 σ4 h => ?_)
    refine r_if_ne 21 hc dX7_isLaw_16 (by decide) h (fun h => ?_) (fun h => ?_)
    · exact u7_isLaw_19 hc h
    · refine r_aload_n 0 hc dX7_isLaw_21 rfl ?_
      refine r_get (K := 7) (f := 13) hc dX7_isLaw_22 fX7_25 inX7 rfl rfl (by decide) (by decide) rfl rfl ?_
      refine r_iconst (v := 0) hc dX7_isLaw_25 (by decide) ?_
      refine r_aload_n 0 hc dX7_isLaw_26 rfl ?_
      refine r_get (K := 7) (f := 9) hc dX7_isLaw_27 fX7_84 inX7 rfl rfl (by decide) (by decide) rfl rfl ?_
      refine r_iast hc dX7_isLaw_30 rfl h (fun h => ?_)
      refine r_nmS h (fun σ5 h => ?_)
      refine r_aload_n 0 hc dX7_isLaw_31 rfl ?_
      refine r_bipush (v := 44) hc dX7_isLaw_32 (by decide) ?_
      refine r_cvI [.int 44] hc dX7_isLaw_34 cX7_99 (t7_isSign h) rfl (by decide) rfl rfl rfl rfl (Nat.le_of_ble_eq_true rfl) (by decide) (by decide) (fun r6 σ7 h => ?_)
      refine r_if_eq 50 hc dX7_isLaw_37 (by decide) h (fun h => ?_) (fun h => ?_)
      · exact u7_isLaw_50 hc h
      · refine r_aload_n 0 hc dX7_isLaw_40 rfl ?_
        refine r_iconst (v := 0) hc dX7_isLaw_41 (by decide) ?_
        refine r_bipush (v := 12) hc dX7_isLaw_42 (by decide) ?_
        refine r_cvI [.int 0, .int 12] hc dX7_isLaw_44 cX7_102 (t7_isNumber h) rfl (by decide) rfl rfl rfl rfl (Nat.le_of_ble_eq_true rfl) (by decide) (by decide) (fun r8 σ9 h => ?_)
        refine r_if_ne 52 hc dX7_isLaw_47 (by decide) h (fun h => ?_) (fun h => ?_)
        · exact u7_isLaw_50 hc h
        · refine r_aload_n 0 hc dX7_isLaw_52 rfl ?_
          refine r_get (K := 7) (f := 13) hc dX7_isLaw_53 fX7_25 inX7 rfl rfl (by decide) (by decide) rfl rfl ?_
          refine r_iconst (v := 1) hc dX7_isLaw_56 (by decide) ?_
          refine r_aload_n 0 hc dX7_isLaw_57 rfl ?_
          refine r_get (K := 7) (f := 9) hc dX7_isLaw_58 fX7_84 inX7 rfl rfl (by decide) (by decide) rfl rfl ?_
          refine r_iast hc dX7_isLaw_61 rfl h (fun h => ?_)
          refine r_nmS h (fun σ10 h => ?_)
          refine r_aload_n 0 hc dX7_isLaw_62 rfl ?_
          refine r_bipush (v := 59) hc dX7_isLaw_63 (by decide) ?_
          refine r_cvI [.int 59] hc dX7_isLaw_65 cX7_99 (t7_isSign h) rfl (by decide) rfl rfl rfl rfl (Nat.le_of_ble_eq_true rfl) (by decide) (by decide) (fun r11 σ12 h => ?_)
          exact r_zret hc dX7_isLaw_68 h
set_option maxRecDepth 100000 in
set_option maxHeartbeats 4000000 in
theorem u7_isRead_141 {κ : KT} {k : Int32 → St → Prop}    {σ : St}  (hc : Cx κ cX7_isRead 3 RX7 5 (some .boolean))    (h : x7_isRead_141 σ k) : Wd κ 3 (QI κ k) 141 [(0, aK κ 65)] [] σ := by
  unfold x7_isRead_141 at h
  refine r_iconst (v := 0) hc dX7_isRead_141 (by decide) ?_
  exact r_zret hc dX7_isRead_142 h
set_option maxRecDepth 100000 in
set_option maxHeartbeats 4000000 in
theorem u7_isRead_143 {κ : KT} {k : Int32 → St → Prop}  {R39 : St → Prop}  {σ : St}  (hc : Cx κ cX7_isRead 3 RX7 5 (some .boolean))  (hR39 : ∀  (σ : St), R39  σ → Wd κ 3 (QI κ k) 39 [(0, aK κ 65)] [] σ)  (h : x7_isRead_143 R39 σ k) : Wd κ 3 (QI κ k) 143 [(0, aK κ 65)] [] σ := by
  unfold x7_isRead_143 at h
  refine r_aload_n 0 hc dX7_isRead_143 rfl ?_
  refine r_cvV [] hc dX7_isRead_144 cX7_93 (t7_nextToken h) rfl (by decide) rfl rfl rfl rfl (Nat.le_of_ble_eq_true rfl) (by decide) (by decide) (fun σ11 h => ?_)
  refine r_goto 39 hc dX7_isRead_147 (by decide) ?_
  exact hR39 _ h
set_option maxRecDepth 100000 in
set_option maxHeartbeats 4000000 in
theorem u7_isRead_120 {κ : KT} {k : Int32 → St → Prop}  {R39 : St → Prop} {i1 : Int32} {σ : St}  (hc : Cx κ cX7_isRead 3 RX7 5 (some .boolean))  (hR39 : ∀  (σ : St), R39  σ → Wd κ 3 (QI κ k) 39 [(0, aK κ 65)] [] σ)  (h : x7_isRead_120 R39 i1 σ k) : Wd κ 3 (QI κ k) 120 [(0, aK κ 65), (1, .int i1)] [] σ := by
  unfold x7_isRead_120 at h
  refine r_iload_n 1 hc dX7_isRead_120 rfl ?_
  refine r_if_eq 134 hc dX7_isRead_121 (by decide) h (fun h => ?_) (fun h => ?_)
  · refine r_aload_n 0 hc dX7_isRead_134 rfl ?_
    refine r_cvI [] hc dX7_isRead_135 cX7_116 (t7_isDoor h) rfl (by decide) rfl rfl rfl rfl (Nat.le_of_ble_eq_true rfl) (by decide) (by decide) (fun r8 σ9 h => ?_)
    refine r_if_ne 143 hc dX7_isRead_138 (by decide) h (fun h => ?_) (fun h => ?_)
    · refine r_sub [0] rfl ?_
      exact u7_isRead_141 hc h
    · refine r_sub [0] rfl ?_
      exact u7_isRead_143 hc hR39 h
  · refine r_aload_n 0 hc dX7_isRead_124 rfl ?_
    refine r_cvI [] hc dX7_isRead_125 cX7_113 (t7_isCaller h) rfl (by decide) rfl rfl rfl rfl (Nat.le_of_ble_eq_true rfl) (by decide) (by decide) (fun r12 σ13 h => ?_)
    refine r_if_ne 143 hc dX7_isRead_128 (by decide) h (fun h => ?_) (fun h => ?_)
    · refine r_goto 141 hc dX7_isRead_131 (by decide) ?_
      refine r_sub [0] rfl ?_
      exact u7_isRead_141 hc h
    · refine r_sub [0] rfl ?_
      exact u7_isRead_143 hc hR39 h
set_option maxRecDepth 100000 in
set_option maxHeartbeats 4000000 in
theorem u7_isRead_105 {κ : KT} {k : Int32 → St → Prop}  {R39 : St → Prop} {i1 : Int32} {s0 : Int32} {σ : St}  (hc : Cx κ cX7_isRead 3 RX7 5 (some .boolean))  (hR39 : ∀  (σ : St), R39  σ → Wd κ 3 (QI κ k) 39 [(0, aK κ 65)] [] σ)  (h : x7_isRead_105 R39 i1 s0 σ k) : Wd κ 3 (QI κ k) 105 [(0, aK κ 65), (1, .int i1)] [.int s0] σ := by
  unfold x7_isRead_105 at h
  refine r_istore_n (lv' := [(2, .int s0), (0, aK κ 65), (1, .int i1)]) hc dX7_isRead_105 (by decide) rfl ?_
  refine r_iload_n 2 hc dX7_isRead_106 rfl ?_
  refine r_if_ne 120 hc dX7_isRead_107 (by decide) h (fun h => ?_) (fun h => ?_)
  · refine r_iload_n 0 hc dX7_isRead_110 rfl ?_
    refine r_if_ne 120 hc dX7_isRead_111 (by decide) h (fun h => ?_) (fun h => ?_)
    · refine r_aload_n 1 hc dX7_isRead_114 rfl ?_
      refine r_iconst (v := 1) hc dX7_isRead_115 (by decide) ?_
      refine r_cvI [.int 1] hc dX7_isRead_116 cX7_96 (t7_fails h) rfl (by decide) rfl rfl rfl rfl (Nat.le_of_ble_eq_true rfl) (by decide) (by decide) (fun r6 σ7 h => ?_)
      exact r_zret hc dX7_isRead_119 h
    · refine r_sub [1, 2] rfl ?_
      exact u7_isRead_120 hc hR39 h
  · refine r_sub [1, 2] rfl ?_
    exact u7_isRead_120 hc hR39 h
set_option maxRecDepth 100000 in
set_option maxHeartbeats 4000000 in
theorem u7_isRead_104 {κ : KT} {k : Int32 → St → Prop}  {R39 : St → Prop} {i1 : Int32} {σ : St}  (hc : Cx κ cX7_isRead 3 RX7 5 (some .boolean))  (hR39 : ∀  (σ : St), R39  σ → Wd κ 3 (QI κ k) 39 [(0, aK κ 65)] [] σ)  (h : x7_isRead_104 R39 i1 σ k) : Wd κ 3 (QI κ k) 104 [(0, aK κ 65), (1, .int i1)] [] σ := by
  unfold x7_isRead_104 at h
  refine r_iconst (v := 0) hc dX7_isRead_104 (by decide) ?_
  exact u7_isRead_105 hc hR39 h
set_option maxRecDepth 100000 in
set_option maxHeartbeats 4000000 in
theorem u7_isRead_81 {κ : KT} {k : Int32 → St → Prop}  {R39 : St → Prop} {s0 : Int32} {σ : St}  (hc : Cx κ cX7_isRead 3 RX7 5 (some .boolean))  (hR39 : ∀  (σ : St), R39  σ → Wd κ 3 (QI κ k) 39 [(0, aK κ 65)] [] σ)  (h : x7_isRead_81 R39 s0 σ k) : Wd κ 3 (QI κ k) 81 [(0, aK κ 65)] [.int s0] σ := by
  unfold x7_isRead_81 at h
  refine r_istore_n (lv' := [(1, .int s0), (0, aK κ 65)]) hc dX7_isRead_81 (by decide) rfl ?_
  refine r_aload_n 1 hc dX7_isRead_82 rfl ?_
  refine r_get (K := 7) (f := 8) hc dX7_isRead_83 fX7_87 inX7 rfl rfl (by decide) (by decide) rfl rfl ?_
  refine r_bipush (v := 100) hc dX7_isRead_86 (by decide) ?_
  refine r_icmp_ne 104 hc dX7_isRead_88 (by decide) h (fun h => ?_) (fun h => ?_)
  · refine r_aload_n 1 hc dX7_isRead_91 rfl ?_
    refine r_get (K := 7) (f := 13) hc dX7_isRead_92 fX7_25 inX7 rfl rfl (by decide) (by decide) rfl rfl ?_
    refine r_iconst (v := 3) hc dX7_isRead_95 (by decide) ?_
    refine r_iald hc dX7_isRead_96 rfl h (fun h => ?_)
    refine r_if_ne 104 hc dX7_isRead_97 (by decide) h (fun h => ?_) (fun h => ?_)
    · refine r_iconst (v := 1) hc dX7_isRead_100 (by decide) ?_
      refine r_goto 105 hc dX7_isRead_101 (by decide) ?_
      refine r_sub [1, 0] rfl ?_
      exact u7_isRead_105 hc hR39 h
    · refine r_sub [1, 0] rfl ?_
      exact u7_isRead_104 hc hR39 h
  · refine r_sub [1, 0] rfl ?_
    exact u7_isRead_104 hc hR39 h
set_option maxRecDepth 100000 in
set_option maxHeartbeats 4000000 in
theorem u7_isRead_80 {κ : KT} {k : Int32 → St → Prop}  {R39 : St → Prop}  {σ : St}  (hc : Cx κ cX7_isRead 3 RX7 5 (some .boolean))  (hR39 : ∀  (σ : St), R39  σ → Wd κ 3 (QI κ k) 39 [(0, aK κ 65)] [] σ)  (h : x7_isRead_80 R39 σ k) : Wd κ 3 (QI κ k) 80 [(0, aK κ 65)] [] σ := by
  unfold x7_isRead_80 at h
  refine r_iconst (v := 0) hc dX7_isRead_80 (by decide) ?_
  exact u7_isRead_81 hc hR39 h
set_option maxRecDepth 100000 in
set_option maxHeartbeats 4000000 in
theorem u7_isRead_57 {κ : KT} {k : Int32 → St → Prop}  {R39 : St → Prop}  {σ : St}  (hc : Cx κ cX7_isRead 3 RX7 5 (some .boolean))  (hR39 : ∀  (σ : St), R39  σ → Wd κ 3 (QI κ k) 39 [(0, aK κ 65)] [] σ)  (h : x7_isRead_57 R39 σ k) : Wd κ 3 (QI κ k) 57 [(0, aK κ 65)] [] σ := by
  unfold x7_isRead_57 at h
  refine r_aload_n 0 hc dX7_isRead_57 rfl ?_
  refine r_get (K := 7) (f := 13) hc dX7_isRead_58 fX7_25 inX7 rfl rfl (by decide) (by decide) rfl rfl ?_
  refine r_iconst (v := 2) hc dX7_isRead_61 (by decide) ?_
  refine r_iald hc dX7_isRead_62 rfl h (fun h => ?_)
  refine r_if_le 80 hc dX7_isRead_63 (by decide) h (fun h => ?_) (fun h => ?_)
  · exact u7_isRead_80 hc hR39 h
  · refine r_aload_n 0 hc dX7_isRead_66 rfl ?_
    refine r_get (K := 7) (f := 8) hc dX7_isRead_67 fX7_87 inX7 rfl rfl (by decide) (by decide) rfl rfl ?_
    refine r_csI [.int (σ 65 8)] hc dX7_isRead_70 cX7_106 (t7_sortOf h) rfl rfl rfl (Nat.le_of_ble_eq_true rfl) (by decide) (by decide) (fun r14 σ15 h => ?_)
    refine r_if_le 80 hc dX7_isRead_73 (by decide) h (fun h => ?_) (fun h => ?_)
    · exact u7_isRead_80 hc hR39 h
    · refine r_iconst (v := 1) hc dX7_isRead_76 (by decide) ?_
      refine r_goto 81 hc dX7_isRead_77 (by decide) ?_
      exact u7_isRead_81 hc hR39 h
set_option maxRecDepth 100000 in
set_option maxHeartbeats 4000000 in
theorem u7_isRead_39 {κ : KT} {k : Int32 → St → Prop}    (hc : Cx κ cX7_isRead 3 RX7 5 (some .boolean))   : ∀ (n : Nat)  (σ : St), x7_isRead_39 k n  σ → Wd κ 3 (QI κ k) 39 [(0, aK κ 65)] [] σ := by
  intro n
  induction n with
  | zero => intro σ h; exact h.elim
  | succ n ih =>
    intro σ h
    unfold x7_isRead_39 at h
    refine r_aload_n 0 hc dX7_isRead_39 rfl ?_
    refine r_get (K := 7) (f := 8) hc dX7_isRead_40 fX7_87 inX7 rfl rfl (by decide) (by decide) rfl rfl ?_
    refine r_bipush (v := (-2)) hc dX7_isRead_43 (by decide) ?_
    refine r_icmp_ne 57 hc dX7_isRead_45 (by decide) h (fun h => ?_) (fun h => ?_)
    · refine r_aload_n 0 hc dX7_isRead_48 rfl ?_
      refine r_get (K := 7) (f := 13) hc dX7_isRead_49 fX7_25 inX7 rfl rfl (by decide) (by decide) rfl rfl ?_
      refine r_iconst (v := 2) hc dX7_isRead_52 (by decide) ?_
      refine r_iald hc dX7_isRead_53 rfl h (fun h => ?_)
      refine r_if_ne 150 hc dX7_isRead_54 (by decide) h (fun h => ?_) (fun h => ?_)
      · exact u7_isRead_57 hc ih h
      · refine r_iconst (v := 1) hc dX7_isRead_150 (by decide) ?_
        exact r_zret hc dX7_isRead_151 h
    · exact u7_isRead_57 hc ih h
set_option maxRecDepth 100000 in
set_option maxHeartbeats 4000000 in
theorem u7_isRead_7 {κ : KT} {k : Int32 → St → Prop}    (hc : Cx κ cX7_isRead 3 RX7 5 (some .boolean))   : ∀ (n : Nat) (i1 : Int32) (σ : St), x7_isRead_7 k n i1 σ → Wd κ 3 (QI κ k) 7 [(0, aK κ 65), (1, .int i1)] [] σ := by
  intro n
  induction n with
  | zero => intro i1 σ h; exact h.elim
  | succ n ih =>
    intro i1 σ h
    unfold x7_isRead_7 at h
    refine r_iload_n 1 hc dX7_isRead_7 rfl ?_
    refine r_bipush (v := 53) hc dX7_isRead_8 (by decide) ?_
    refine r_icmp_ge 26 hc dX7_isRead_10 (by decide) h (fun h => ?_) (fun h => ?_)
    · refine r_aload_n 0 hc dX7_isRead_26 rfl ?_
      refine r_cvI [] hc dX7_isRead_27 cX7_109 (t7_isLaw h) rfl (by decide) rfl rfl rfl rfl (Nat.le_of_ble_eq_true rfl) (by decide) (by decide) (fun r2 σ3 h => ?_)
      refine r_if_ne 35 hc dX7_isRead_30 (by decide) h (fun h => ?_) (fun h => ?_)
      · refine r_iconst (v := 0) hc dX7_isRead_33 (by decide) ?_
        exact r_zret hc dX7_isRead_34 h
      · refine r_aload_n 0 hc dX7_isRead_35 rfl ?_
        refine r_cvV [] hc dX7_isRead_36 cX7_93 (t7_nextToken h) rfl (by decide) rfl rfl rfl rfl (Nat.le_of_ble_eq_true rfl) (by decide) (by decide) (fun σ5 h => ?_)
        refine r_sub [0] rfl ?_
        obtain ⟨n0, h⟩ := h
        exact u7_isRead_39 hc n0 _ h
    · refine r_aload_n 0 hc dX7_isRead_13 rfl ?_
      refine r_get (K := 7) (f := 13) hc dX7_isRead_14 fX7_25 inX7 rfl rfl (by decide) (by decide) rfl rfl ?_
      refine r_iload_n 1 hc dX7_isRead_17 rfl ?_
      refine r_iconst (v := 0) hc dX7_isRead_18 (by decide) ?_
      refine r_iast hc dX7_isRead_19 rfl h (fun h => ?_)
      refine r_nmS h (fun σ16 h => ?_)
      refine r_iinc (v := 1) (lv' := [(1, .int (i1 + 1)), (0, aK κ 65)]) 1 hc dX7_isRead_20 rfl (by decide) (by decide) rfl ?_
      refine r_goto 7 hc dX7_isRead_23 (by decide) ?_
      refine r_sub [1, 0] rfl ?_
      exact ih _ _ h
set_option maxRecDepth 100000 in
set_option maxHeartbeats 4000000 in
theorem t7_isRead {l : Launch}  {σ : St} {k : Int32 → St → Prop}  (h : x7_isRead  σ k) : CI l yX7_isRead cX7_isRead 3 5 (some .boolean) (fun ad => [.ref (ad 65)]) σ k := by
  refine CI.of (lv := fun ad => [(0, .ref (ad 65))]) (by decide) (fun _ => Nat.le_of_ble_eq_true rfl) (fun _ => rfl) (fun κ hc => ?_)
  show Wd κ 3 (QI κ k) 0 [(0, aK κ 65)] [] σ
  unfold x7_isRead at h
  refine r_aload_n 0 hc dX7_isRead_0 rfl ?_
  refine r_iconst (v := 0) hc dX7_isRead_1 (by decide) ?_
  refine r_put (K := 7) (f := 6) hc dX7_isRead_2 fX7_78 inX7 tyX7_ok nmX7 rfl rfl rfl rfl (by decide) (by decide) rfl rfl ?_
  refine r_nmS h (fun σ1 h => ?_)
  refine r_iconst (v := 0) hc dX7_isRead_5 (by decide) ?_
  refine r_istore_n (lv' := [(1, .int 0), (0, aK κ 65)]) hc dX7_isRead_6 (by decide) rfl ?_
  refine r_sub [1, 0] rfl ?_
  obtain ⟨n0, h⟩ := h
  exact u7_isRead_7 hc n0 _ _ h
