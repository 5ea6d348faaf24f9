set_option maxRecDepth 100000 in
set_option maxHeartbeats 4000000 in
theorem u7_kind_18 {κ : KT} {k : Int32 → St → Prop} {i1 : Int32}  {s0 : Int32} {σ : St}  (hc : Cx κ cX7_kind 2 RX7 3 (some .int))    (h : x7_kind_18 i1 s0 σ k) : Wd κ 2 (QI κ k) 18 [(0, aK κ 65), (1, .int i1)] [.int s0] σ := by
  unfold x7_kind_18 at h
  exact r_iret hc dX7_kind_18 h
set_option maxRecDepth 100000 in
set_option maxHeartbeats 4000000 in
theorem t7_kind {l : Launch} {i1 : Int32} {σ : St} {k : Int32 → St → Prop}  (h : x7_kind i1 σ k) : CI l yX7_kind cX7_kind 2 3 (some .int) (fun ad => [.ref (ad 65), .int i1]) σ k := by
  refine CI.of (lv := fun ad => [(0, .ref (ad 65)), (1, .int i1)]) (by decide) (fun _ => Nat.le_of_ble_eq_true rfl) (fun _ => rfl) (fun κ hc => ?_)
  show Wd κ 2 (QI κ k) 0 [(0, aK κ 65), (1, .int i1)] [] σ
  unfold x7_kind at h
  refine r_aload_n 0 hc dX7_kind_0 rfl ?_
  refine r_iload_n 1 hc dX7_kind_1 rfl ?_
  refine r_cvI [.int i1] hc dX7_kind_2 cX7_185 (t7_isOne h) rfl (by decide) rfl rfl rfl rfl (Nat.le_of_ble_eq_true rfl) (by decide) (by decide) (fun r1 σ2 h => ?_)
  refine r_if_eq 16 hc dX7_kind_5 (by decide) h (fun h => ?_) (fun h => ?_)
  · refine r_ldc hc dX7_kind_16 kX7_63 ?_
    exact u7_kind_18 hc h
  · refine r_aload_n 0 hc dX7_kind_8 rfl ?_
    refine r_iload_n 1 hc dX7_kind_9 rfl ?_
    refine r_cvI [.int i1] hc dX7_kind_10 cX7_223 (t7_kindOf h) rfl (by decide) rfl rfl rfl rfl (Nat.le_of_ble_eq_true rfl) (by decide) (by decide) (fun r3 σ4 h => ?_)
    refine r_goto 18 hc dX7_kind_13 (by decide) ?_
    exact u7_kind_18 hc h
set_option maxRecDepth 100000 in
set_option maxHeartbeats 4000000 in
theorem u7_layCosts_70 {κ : KT} {k : St → Prop} {i1 : Int32} {i2 : Int32} {R9 : Int32 → St → Prop} {R16 : Int32 → Int32 → St → Prop} {R30 : Int32 → Int32 → Int32 → Int32 → St → Prop} {i3 : Int32} {i4 : Int32} {i6 : Int32} {s0 : Int32} {σ : St}  (hc : Cx κ cX7_layCosts 8 RX7 4 none)  (hR9 : ∀ (i3 : Int32) (σ : St), R9 i3 σ → Wd κ 8 (QV κ k) 9 [(0, aK κ 65), (1, .int i1), (2, .int i2), (3, .int i3)] [] σ) (hR16 : ∀ (i3 : Int32) (i4 : Int32) (σ : St), R16 i3 i4 σ → Wd κ 8 (QV κ k) 16 [(0, aK κ 65), (1, .int i1), (2, .int i2), (3, .int i3), (4, .int i4)] [] σ) (hR30 : ∀ (i3 : Int32) (i4 : Int32) (i5 : Int32) (i6 : Int32) (σ : St), R30 i3 i4 i5 i6 σ → Wd κ 8 (QV κ k) 30 [(0, aK κ 65), (1, .int i1), (2, .int i2), (3, .int i3), (4, .int i4), (5, .int i5), (6, .int i6)] [] σ)  (h : x7_layCosts_70 i1 i2 R9 R16 R30 i3 i4 i6 s0 σ k) : Wd κ 8 (QV κ k) 70 [(0, aK κ 65), (1, .int i1), (2, .int i2), (3, .int i3), (4, .int i4), (6, .int i6)] [.int s0] σ := by
  unfold x7_layCosts_70 at h
  refine r_istore (lv' := [(5, .int s0), (0, aK κ 65), (1, .int i1), (2, .int i2), (3, .int i3), (4, .int i4), (6, .int i6)]) hc dX7_layCosts_70 (by decide) rfl ?_
  refine r_iinc (v := 1) (lv' := [(6, .int (i6 + 1)), (5, .int s0), (0, aK κ 65), (1, .int i1), (2, .int i2), (3, .int i3), (4, .int i4)]) 6 hc dX7_layCosts_72 rfl (by decide) (by decide) rfl ?_
  refine r_goto 30 hc dX7_layCosts_75 (by decide) ?_
  refine r_sub [2, 3, 4, 5, 6, 1, 0] rfl ?_
  exact hR30 _ _ _ _ _ h
set_option maxRecDepth 100000 in
set_option maxHeartbeats 4000000 in
theorem u7_layCosts_30 {κ : KT} {k : St → Prop} {i1 : Int32} {i2 : Int32} {R9 : Int32 → St → Prop} {R16 : Int32 → Int32 → St → Prop}  (hc : Cx κ cX7_layCosts 8 RX7 4 none)  (hR9 : ∀ (i3 : Int32) (σ : St), R9 i3 σ → Wd κ 8 (QV κ k) 9 [(0, aK κ 65), (1, .int i1), (2, .int i2), (3, .int i3)] [] σ) (hR16 : ∀ (i3 : Int32) (i4 : Int32) (σ : St), R16 i3 i4 σ → Wd κ 8 (QV κ k) 16 [(0, aK κ 65), (1, .int i1), (2, .int i2), (3, .int i3), (4, .int i4)] [] σ) : ∀ (n : Nat) (i3 : Int32) (i4 : Int32) (i5 : Int32) (i6 : Int32) (σ : St), x7_layCosts_30 i1 i2 R9 R16 k n i3 i4 i5 i6 σ → Wd κ 8 (QV κ k) 30 [(0, aK κ 65), (1, .int i1), (2, .int i2), (3, .int i3), (4, .int i4), (5, .int i5), (6, .int i6)] [] σ := by
  intro n
  induction n with
  | zero => intro i3 i4 i5 i6 σ h; exact h.elim
  | succ n ih =>
    intro i3 i4 i5 i6 σ h
    unfold x7_layCosts_30 at h
    refine r_iload 6 hc dX7_layCosts_30 rfl ?_
    refine r_bipush (v := 12) hc dX7_layCosts_32 (by decide) ?_
    refine r_icmp_ge 78 hc dX7_layCosts_34 (by decide) h (fun h => ?_) (fun h => ?_)
    · refine r_aload_n 0 hc dX7_layCosts_78 rfl ?_
      refine r_get (K := 7) (f := 22) hc dX7_layCosts_79 fX7_47 inX7 rfl rfl (by decide) (by decide) rfl rfl ?_
      refine r_iconst (v := 4) hc dX7_layCosts_82 (by decide) ?_
      refine r_iload_n 3 hc dX7_layCosts_83 rfl ?_
      refine r_imul hc dX7_layCosts_84 ?_
      refine r_iload 4 hc dX7_layCosts_85 rfl ?_
      refine r_iadd hc dX7_layCosts_87 ?_
      refine r_iload 5 hc dX7_layCosts_88 rfl ?_
      refine r_iast hc dX7_layCosts_90 rfl h (fun h => ?_)
      refine r_nmS h (fun σ2 h => ?_)
      refine r_iinc (v := 1) (lv' := [(4, .int (i4 + 1)), (0, aK κ 65), (1, .int i1), (2, .int i2), (3, .int i3), (5, .int i5), (6, .int i6)]) 4 hc dX7_layCosts_91 rfl (by decide) (by decide) rfl ?_
      refine r_goto 16 hc dX7_layCosts_94 (by decide) ?_
      refine r_sub [1, 2, 3, 4, 0] rfl ?_
      exact hR16 _ _ _ h
    · refine r_aload_n 0 hc dX7_layCosts_37 rfl ?_
      refine r_iload_n 3 hc dX7_layCosts_38 rfl ?_
      refine r_iload 4 hc dX7_layCosts_39 rfl ?_
      refine r_iload 6 hc dX7_layCosts_41 rfl ?_
      refine r_iconst (v := 2) hc dX7_layCosts_43 (by decide) ?_
      refine r_idiv hc dX7_layCosts_44 h (fun h => ?_)
      refine r_iload 6 hc dX7_layCosts_45 rfl ?_
      refine r_iconst (v := 2) hc dX7_layCosts_47 (by decide) ?_
      refine r_irem hc dX7_layCosts_48 h (fun h => ?_)
      refine r_iload_n 1 hc dX7_layCosts_49 rfl ?_
      refine r_iload_n 2 hc dX7_layCosts_50 rfl ?_
      refine r_cvI [.int i3, .int i4, .int (i6 / 2), .int (i6 % 2), .int i1, .int i2] hc dX7_layCosts_51 cX7_193 (t7_costBy h) rfl (by decide) rfl rfl rfl rfl (Nat.le_of_ble_eq_true rfl) (by decide) (by decide) (fun r3 σ4 h => ?_)
      refine r_istore (lv' := [(7, .int r3), (0, aK κ 65), (1, .int i1), (2, .int i2), (3, .int i3), (4, .int i4), (5, .int i5), (6, .int i6)]) hc dX7_layCosts_54 (by decide) rfl ?_
      refine r_iload 0 hc dX7_layCosts_56 rfl ?_
      refine r_iload 6 hc dX7_layCosts_58 rfl ?_
      refine r_icmp_ge 68 hc dX7_layCosts_60 (by decide) h (fun h => ?_) (fun h => ?_)
      · refine r_iload 6 hc dX7_layCosts_68 rfl ?_
        refine r_sub [1, 2, 3, 4, 5, 7] rfl ?_
        exact u7_layCosts_70 hc hR9 hR16 ih h
      · refine r_iload 0 hc dX7_layCosts_63 rfl ?_
        refine r_goto 70 hc dX7_layCosts_65 (by decide) ?_
        refine r_sub [1, 2, 3, 4, 5, 7] rfl ?_
        exact u7_layCosts_70 hc hR9 hR16 ih h
set_option maxRecDepth 100000 in
set_option maxHeartbeats 4000000 in
theorem u7_layCosts_16 {κ : KT} {k : St → Prop} {i1 : Int32} {i2 : Int32} {R9 : Int32 → St → Prop}  (hc : Cx κ cX7_layCosts 8 RX7 4 none)  (hR9 : ∀ (i3 : Int32) (σ : St), R9 i3 σ → Wd κ 8 (QV κ k) 9 [(0, aK κ 65), (1, .int i1), (2, .int i2), (3, .int i3)] [] σ) : ∀ (n : Nat) (i3 : Int32) (i4 : Int32) (σ : St), x7_layCosts_16 i1 i2 R9 k n i3 i4 σ → Wd κ 8 (QV κ k) 16 [(0, aK κ 65), (1, .int i1), (2, .int i2), (3, .int i3), (4, .int i4)] [] σ := by
  intro n
  induction n with
  | zero => intro i3 i4 σ h; exact h.elim
  | succ n ih =>
    intro i3 i4 σ h
    unfold x7_layCosts_16 at h
    refine r_iload 4 hc dX7_layCosts_16 rfl ?_
    refine r_iconst (v := 4) hc dX7_layCosts_18 (by decide) ?_
    refine r_icmp_ge 97 hc dX7_layCosts_19 (by decide) h (fun h => ?_) (fun h => ?_)
    · refine r_iinc (v := (-1)) (lv' := [(3, .int (i3 + (-1))), (0, aK κ 65), (1, .int i1), (2, .int i2), (4, .int i4)]) 3 hc dX7_layCosts_97 rfl (by decide) (by decide) rfl ?_
      refine r_goto 9 hc dX7_layCosts_100 (by decide) ?_
      refine r_sub [1, 2, 3, 0] rfl ?_
      exact hR9 _ _ h
    · refine r_sipush (v := 9999) hc dX7_layCosts_22 (by decide) ?_
      refine r_istore (lv' := [(5, .int 9999), (0, aK κ 65), (1, .int i1), (2, .int i2), (3, .int i3), (4, .int i4)]) hc dX7_layCosts_25 (by decide) rfl ?_
      refine r_iconst (v := 0) hc dX7_layCosts_27 (by decide) ?_
      refine r_istore (lv' := [(6, .int 0), (5, .int 9999), (0, aK κ 65), (1, .int i1), (2, .int i2), (3, .int i3), (4, .int i4)]) hc dX7_layCosts_28 (by decide) rfl ?_
      refine r_sub [2, 3, 4, 5, 6, 1, 0] rfl ?_
      obtain ⟨n0, h⟩ := h
      exact u7_layCosts_30 hc hR9 ih n0 _ _ _ _ _ h
set_option maxRecDepth 100000 in
set_option maxHeartbeats 4000000 in
theorem u7_layCosts_9 {κ : KT} {k : St → Prop} {i1 : Int32} {i2 : Int32}   (hc : Cx κ cX7_layCosts 8 RX7 4 none)   : ∀ (n : Nat) (i3 : Int32) (σ : St), x7_layCosts_9 i1 i2 k n i3 σ → Wd κ 8 (QV κ k) 9 [(0, aK κ 65), (1, .int i1), (2, .int i2), (3, .int i3)] [] σ := by
  intro n
  induction n with
  | zero => intro i3 σ h; exact h.elim
  | succ n ih =>
    intro i3 σ h
    unfold x7_layCosts_9 at h
    refine r_iload_n 3 hc dX7_layCosts_9 rfl ?_
    refine r_if_lt 103 hc dX7_layCosts_10 (by decide) h (fun h => ?_) (fun h => ?_)
    · exact r_vret hc dX7_layCosts_103 h
    · refine r_iconst (v := 0) hc dX7_layCosts_13 (by decide) ?_
      refine r_istore (lv' := [(4, .int 0), (0, aK κ 65), (1, .int i1), (2, .int i2), (3, .int i3)]) hc dX7_layCosts_14 (by decide) rfl ?_
      refine r_sub [1, 2, 3, 4, 0] rfl ?_
      obtain ⟨n0, h⟩ := h
      exact u7_layCosts_16 hc ih n0 _ _ _ h
set_option maxRecDepth 100000 in
set_option maxHeartbeats 4000000 in
theorem t7_layCosts {l : Launch} {i1 : Int32} {i2 : Int32} {σ : St} {k : St → Prop}  (h : x7_layCosts i1 i2 σ k) : CV l yX7_layCosts cX7_layCosts 8 4 none (fun ad => [.ref (ad 65), .int i1, .int i2]) σ k := by
  refine CV.of (lv := fun ad => [(0, .ref (ad 65)), (1, .int i1), (2, .int i2)]) (by decide) (fun _ => Nat.le_of_ble_eq_true rfl) (fun _ => rfl) (fun κ hc => ?_)
  show Wd κ 8 (QV κ k) 0 [(0, aK κ 65), (1, .int i1), (2, .int i2)] [] σ
  unfold x7_layCosts at h
  refine r_aload_n 0 hc dX7_layCosts_0 rfl ?_
  refine r_get (K := 7) (f := 12) hc dX7_layCosts_1 fX7_22 inX7 rfl rfl (by decide) (by decide) rfl rfl ?_
  refine r_iconst (v := 2) hc dX7_layCosts_4 (by decide) ?_
  refine r_iald hc dX7_layCosts_5 rfl h (fun h => ?_)
  refine r_iconst (v := 1) hc dX7_layCosts_6 (by decide) ?_
  refine r_isub hc dX7_layCosts_7 ?_
  refine r_nmI h (fun v1 h => ?_)
  refine r_istore_n (lv' := [(3, .int v1), (0, aK κ 65), (1, .int i1), (2, .int i2)]) hc dX7_layCosts_8 (by decide) rfl ?_
  refine r_sub [1, 2, 3, 0] rfl ?_
  obtain ⟨n0, h⟩ := h
  exact u7_layCosts_9 hc n0 _ _ h
set_option maxRecDepth 100000 in
set_option maxHeartbeats 4000000 in
theorem u7_layLeast_207 {κ : KT} {k : Int32 → St → Prop} {i1 : Int32} {i2 : Int32} {R66 : Int32 → Int32 → Int32 → Int32 → Int32 → Int32 → Int32 → St → Prop} {i3 : Int32} {i4 : Int32} {i5 : Int32} {i9 : Int32} {σ : St}  (hc : Cx κ cX7_layLeast 15 RX7 5 (some .int))  (hR66 : ∀ (i3 : Int32) (i4 : Int32) (i5 : Int32) (i6 : Int32) (i7 : Int32) (i8 : Int32) (i9 : Int32) (σ : St), R66 i3 i4 i5 i6 i7 i8 i9 σ → Wd κ 15 (QI κ k) 66 [(0, aK κ 65), (1, .int i1), (2, .int i2), (3, .int i3), (4, .int i4), (5, .int i5), (6, .int i6), (7, .int i7), (8, .int i8), (9, .int i9)] [] σ)  (h : x7_layLeast_207 i1 i2 R66 i3 i4 i5 i9 σ k) : Wd κ 15 (QI κ k) 207 [(0, aK κ 65), (1, .int i1), (2, .int i2), (3, .int i3), (4, .int i4), (5, .int i5), (9, .int i9)] [] σ := by
  unfold x7_layLeast_207 at h
  refine r_iload 5 hc dX7_layLeast_207 rfl ?_
  refine r_istore (lv' := [(8, .int i5), (0, aK κ 65), (1, .int i1), (2, .int i2), (3, .int i3), (4, .int i4), (5, .int i5), (9, .int i9)]) hc dX7_layLeast_209 (by decide) rfl ?_
  refine r_aload_n 1 hc dX7_layLeast_211 rfl ?_
  refine r_get (K := 7) (f := 21) hc dX7_layLeast_212 fX7_44 inX7 rfl rfl (by decide) (by decide) rfl rfl ?_
  refine r_iload 7 hc dX7_layLeast_215 rfl ?_
  refine r_iald hc dX7_layLeast_217 rfl h (fun h => ?_)
  refine r_iconst (v := 2) hc dX7_layLeast_218 (by decide) ?_
  refine r_irem hc dX7_layLeast_219 h (fun h => ?_)
  refine r_nmI h (fun v3 h => ?_)
  refine r_istore (lv' := [(5, .int v3), (8, .int i5), (0, aK κ 65), (1, .int i1), (2, .int i2), (3, .int i3), (4, .int i4), (9, .int i9)]) hc dX7_layLeast_220 (by decide) rfl ?_
  refine r_aload_n 2 hc dX7_layLeast_222 rfl ?_
  refine r_get (K := 7) (f := 21) hc dX7_layLeast_223 fX7_44 inX7 rfl rfl (by decide) (by decide) rfl rfl ?_
  refine r_iload 7 hc dX7_layLeast_226 rfl ?_
  refine r_iald hc dX7_layLeast_228 rfl h (fun h => ?_)
  refine r_iconst (v := 4) hc dX7_layLeast_229 (by decide) ?_
  refine r_idiv hc dX7_layLeast_230 h (fun h => ?_)
  refine r_nmI h (fun v4 h => ?_)
  refine r_istore (lv' := [(6, .int v4), (5, .int v3), (8, .int i5), (0, aK κ 65), (1, .int i1), (2, .int i2), (3, .int i3), (4, .int i4), (9, .int i9)]) hc dX7_layLeast_231 (by decide) rfl ?_
  refine r_aload_n 3 hc dX7_layLeast_233 rfl ?_
  refine r_get (K := 7) (f := 21) hc dX7_layLeast_234 fX7_44 inX7 rfl rfl (by decide) (by decide) rfl rfl ?_
  refine r_iload 8 hc dX7_layLeast_237 rfl ?_
  refine r_iald hc dX7_layLeast_239 rfl h (fun h => ?_)
  refine r_iconst (v := 2) hc dX7_layLeast_240 (by decide) ?_
  refine r_idiv hc dX7_layLeast_241 h (fun h => ?_)
  refine r_iconst (v := 2) hc dX7_layLeast_242 (by decide) ?_
  refine r_irem hc dX7_layLeast_243 h (fun h => ?_)
  refine r_nmI h (fun v5 h => ?_)
  refine r_istore (lv' := [(7, .int v5), (6, .int v4), (5, .int v3), (8, .int i5), (0, aK κ 65), (1, .int i1), (2, .int i2), (3, .int i3), (4, .int i4), (9, .int i9)]) hc dX7_layLeast_244 (by decide) rfl ?_
  refine r_iload 8 hc dX7_layLeast_246 rfl ?_
  refine r_iload 1 hc dX7_layLeast_248 rfl ?_
  refine r_iload 0 hc dX7_layLeast_250 rfl ?_
  refine r_iadd hc dX7_layLeast_252 ?_
  refine r_iload 2 hc dX7_layLeast_253 rfl ?_
  refine r_iadd hc dX7_layLeast_255 ?_
  refine r_isub hc dX7_layLeast_256 ?_
  refine r_nmI h (fun v6 h => ?_)
  refine r_istore (lv' := [(4, .int v6), (7, .int v5), (6, .int v4), (5, .int v3), (8, .int i5), (0, aK κ 65), (1, .int i1), (2, .int i2), (3, .int i3), (9, .int i9)]) hc dX7_layLeast_257 (by decide) rfl ?_
  refine r_iinc (v := 1) (lv' := [(9, .int (i9 + 1)), (4, .int v6), (7, .int v5), (6, .int v4), (5, .int v3), (8, .int i5), (0, aK κ 65), (1, .int i1), (2, .int i2), (3, .int i3)]) 9 hc dX7_layLeast_259 rfl (by decide) (by decide) rfl ?_
  refine r_goto 66 hc dX7_layLeast_262 (by decide) ?_
  refine r_sub [6, 7, 8, 9, 1, 4, 3, 2, 5, 0] rfl ?_
  exact hR66 _ _ _ _ _ _ _ _ h
set_option maxRecDepth 100000 in
set_option maxHeartbeats 4000000 in
theorem u7_layLeast_201 {κ : KT} {k : Int32 → St → Prop} {i1 : Int32} {i2 : Int32} {R66 : Int32 → Int32 → Int32 → Int32 → Int32 → Int32 → Int32 → St → Prop} {R83 : Int32 → Int32 → Int32 → Int32 → Int32 → Int32 → Int32 → Int32 → Int32 → St → Prop} {i3 : Int32} {i4 : Int32} {i5 : Int32} {i6 : Int32} {i7 : Int32} {i8 : Int32} {i9 : Int32} {i10 : Int32} {i11 : Int32} {σ : St}  (hc : Cx κ cX7_layLeast 15 RX7 5 (some .int))  (hR66 : ∀ (i3 : Int32) (i4 : Int32) (i5 : Int32) (i6 : Int32) (i7 : Int32) (i8 : Int32) (i9 : Int32) (σ : St), R66 i3 i4 i5 i6 i7 i8 i9 σ → Wd κ 15 (QI κ k) 66 [(0, aK κ 65), (1, .int i1), (2, .int i2), (3, .int i3), (4, .int i4), (5, .int i5), (6, .int i6), (7, .int i7), (8, .int i8), (9, .int i9)] [] σ) (hR83 : ∀ (i3 : Int32) (i4 : Int32) (i5 : Int32) (i6 : Int32) (i7 : Int32) (i8 : Int32) (i9 : Int32) (i10 : Int32) (i11 : Int32) (σ : St), R83 i3 i4 i5 i6 i7 i8 i9 i10 i11 σ → Wd κ 15 (QI κ k) 83 [(0, aK κ 65), (1, .int i1), (2, .int i2), (3, .int i3), (4, .int i4), (5, .int i5), (6, .int i6), (7, .int i7), (8, .int i8), (9, .int i9), (10, .int i10), (11, .int i11)] [] σ)  (h : x7_layLeast_201 i1 i2 R66 R83 i3 i4 i5 i6 i7 i8 i9 i10 i11 σ k) : Wd κ 15 (QI κ k) 201 [(0, aK κ 65), (1, .int i1), (2, .int i2), (3, .int i3), (4, .int i4), (5, .int i5), (6, .int i6), (7, .int i7), (8, .int i8), (9, .int i9), (10, .int i10), (11, .int i11)] [] σ := by
  unfold x7_layLeast_201 at h
  refine r_iinc (v := 1) (lv' := [(11, .int (i11 + 1)), (0, aK κ 65), (1, .int i1), (2, .int i2), (3, .int i3), (4, .int i4), (5, .int i5), (6, .int i6), (7, .int i7), (8, .int i8), (9, .int i9), (10, .int i10)]) 11 hc dX7_layLeast_201 rfl (by decide) (by decide) rfl ?_
  refine r_goto 83 hc dX7_layLeast_204 (by decide) ?_
  refine r_sub [1, 2, 3, 4, 5, 6, 7, 8, 9, 10, 11, 0] rfl ?_
  exact hR83 _ _ _ _ _ _ _ _ _ _ h
set_option maxRecDepth 100000 in
set_option maxHeartbeats 4000000 in
theorem u7_layLeast_157 {κ : KT} {k : Int32 → St → Prop} {i1 : Int32} {i2 : Int32} {R66 : Int32 → Int32 → Int32 → Int32 → Int32 → Int32 → Int32 → St → Prop} {R83 : Int32 → Int32 → Int32 → Int32 → Int32 → Int32 → Int32 → Int32 → Int32 → St → Prop} {i3 : Int32} {i4 : Int32} {i5 : Int32} {i6 : Int32} {i7 : Int32} {i8 : Int32} {i9 : Int32} {i10 : Int32} {i11 : Int32} {i13 : Int32} {s0 : Int32} {σ : St}  (hc : Cx κ cX7_layLeast 15 RX7 5 (some .int))  (hR66 : ∀ (i3 : Int32) (i4 : Int32) (i5 : Int32) (i6 : Int32) (i7 : Int32) (i8 : Int32) (i9 : Int32) (σ : St), R66 i3 i4 i5 i6 i7 i8 i9 σ → Wd κ 15 (QI κ k) 66 [(0, aK κ 65), (1, .int i1), (2, .int i2), (3, .int i3), (4, .int i4), (5, .int i5), (6, .int i6), (7, .int i7), (8, .int i8), (9, .int i9)] [] σ) (hR83 : ∀ (i3 : Int32) (i4 : Int32) (i5 : Int32) (i6 : Int32) (i7 : Int32) (i8 : Int32) (i9 : Int32) (i10 : Int32) (i11 : Int32) (σ : St), R83 i3 i4 i5 i6 i7 i8 i9 i10 i11 σ → Wd κ 15 (QI κ k) 83 [(0, aK κ 65), (1, .int i1), (2, .int i2), (3, .int i3), (4, .int i4), (5, .int i5), (6, .int i6), (7, .int i7), (8, .int i8), (9, .int i9), (10, .int i10), (11, .int i11)] [] σ)  (h : x7_layLeast_157 i1 i2 R66 R83 i3 i4 i5 i6 i7 i8 i9 i10 i11 i13 s0 σ k) : Wd κ 15 (QI κ k) 157 [(0, aK κ 65), (1, .int i1), (2, .int i2), (3, .int i3), (4, .int i4), (5, .int i5), (6, .int i6), (7, .int i7), (8, .int i8), (9, .int i9), (10, .int i10), (11, .int i11), (13, .int i13)] [.int s0] σ := by
  unfold x7_layLeast_157 at h
  refine r_istore (lv' := [(14, .int s0), (0, aK κ 65), (1, .int i1), (2, .int i2), (3, .int i3), (4, .int i4), (5, .int i5), (6, .int i6), (7, .int i7), (8, .int i8), (9, .int i9), (10, .int i10), (11, .int i11), (13, .int i13)]) hc dX7_layLeast_157 (by decide) rfl ?_
  refine r_iload 0 hc dX7_layLeast_159 rfl ?_
  refine r_if_eq 201 hc dX7_layLeast_161 (by decide) h (fun h => ?_) (fun h => ?_)
  · refine r_sub [1, 2, 3, 4, 5, 6, 7, 8, 9, 10, 11, 12] rfl ?_
    exact u7_layLeast_201 hc hR66 hR83 h
  · refine r_aload_n 1 hc dX7_layLeast_164 rfl ?_
    refine r_iload 10 hc dX7_layLeast_165 rfl ?_
    refine r_iload 13 hc dX7_layLeast_167 rfl ?_
    refine r_iload 12 hc dX7_layLeast_169 rfl ?_
    refine r_iconst (v := 4) hc dX7_layLeast_171 (by decide) ?_
    refine r_idiv hc dX7_layLeast_172 h (fun h => ?_)
    refine r_iload 12 hc dX7_layLeast_173 rfl ?_
    refine r_iconst (v := 2) hc dX7_layLeast_175 (by decide) ?_
    refine r_idiv hc dX7_layLeast_176 h (fun h => ?_)
    refine r_iconst (v := 2) hc dX7_layLeast_177 (by decide) ?_
    refine r_irem hc dX7_layLeast_178 h (fun h => ?_)
    refine r_iload_n 2 hc dX7_layLeast_179 rfl ?_
    refine r_iload_n 3 hc dX7_layLeast_180 rfl ?_
    refine r_cvI [.int i9, .int i13, .int (i11 / 4), .int ((i11 / 2) % 2), .int i1, .int i2] hc dX7_layLeast_181 cX7_193 (t7_costBy h) rfl (by decide) rfl rfl rfl rfl (Nat.le_of_ble_eq_true rfl) (by decide) (by decide) (fun r9 σ10 h => ?_)
    refine r_iload 5 hc dX7_layLeast_184 rfl ?_
    refine r_icmp_ne 201 hc dX7_layLeast_186 (by decide) h (fun h => ?_) (fun h => ?_)
    · refine r_iconst (v := 1) hc dX7_layLeast_189 (by decide) ?_
      refine r_istore (lv' := [(10, .int 1), (14, .int s0), (0, aK κ 65), (1, .int i1), (2, .int i2), (3, .int i3), (4, .int i4), (5, .int i5), (6, .int i6), (7, .int i7), (8, .int i8), (9, .int i9), (11, .int i11), (13, .int i13)]) hc dX7_layLeast_190 (by decide) rfl ?_
      refine r_aload_n 2 hc dX7_layLeast_192 rfl ?_
      refine r_get (K := 7) (f := 21) hc dX7_layLeast_193 fX7_44 inX7 rfl rfl (by decide) (by decide) rfl rfl ?_
      refine r_iload 11 hc dX7_layLeast_196 rfl ?_
      refine r_iload 12 hc dX7_layLeast_198 rfl ?_
      refine r_iast hc dX7_layLeast_200 rfl h (fun h => ?_)
      refine r_nmS h (fun σ11 h => ?_)
      refine r_sub [2, 3, 4, 5, 6, 7, 8, 9, 10, 11, 0, 12] rfl ?_
      exact u7_layLeast_201 hc hR66 hR83 h
    · refine r_sub [1, 2, 3, 4, 5, 6, 7, 8, 9, 10, 11, 12] rfl ?_
      exact u7_layLeast_201 hc hR66 hR83 h
set_option maxRecDepth 100000 in
set_option maxHeartbeats 4000000 in
theorem u7_layLeast_152 {κ : KT} {k : Int32 → St → Prop} {i1 : Int32} {i2 : Int32} {R66 : Int32 → Int32 → Int32 → Int32 → Int32 → Int32 → Int32 → St → Prop} {R83 : Int32 → Int32 → Int32 → Int32 → Int32 → Int32 → Int32 → Int32 → Int32 → St → Prop} {i3 : Int32} {i4 : Int32} {i5 : Int32} {i6 : Int32} {i7 : Int32} {i8 : Int32} {i9 : Int32} {i10 : Int32} {i11 : Int32} {i13 : Int32} {σ : St}  (hc : Cx κ cX7_layLeast 15 RX7 5 (some .int))  (hR66 : ∀ (i3 : Int32) (i4 : Int32) (i5 : Int32) (i6 : Int32) (i7 : Int32) (i8 : Int32) (i9 : Int32) (σ : St), R66 i3 i4 i5 i6 i7 i8 i9 σ → Wd κ 15 (QI κ k) 66 [(0, aK κ 65), (1, .int i1), (2, .int i2), (3, .int i3), (4, .int i4), (5, .int i5), (6, .int i6), (7, .int i7), (8, .int i8), (9, .int i9)] [] σ) (hR83 : ∀ (i3 : Int32) (i4 : Int32) (i5 : Int32) (i6 : Int32) (i7 : Int32) (i8 : Int32) (i9 : Int32) (i10 : Int32) (i11 : Int32) (σ : St), R83 i3 i4 i5 i6 i7 i8 i9 i10 i11 σ → Wd κ 15 (QI κ k) 83 [(0, aK κ 65), (1, .int i1), (2, .int i2), (3, .int i3), (4, .int i4), (5, .int i5), (6, .int i6), (7, .int i7), (8, .int i8), (9, .int i9), (10, .int i10), (11, .int i11)] [] σ)  (h : x7_layLeast_152 i1 i2 R66 R83 i3 i4 i5 i6 i7 i8 i9 i10 i11 i13 σ k) : Wd κ 15 (QI κ k) 152 [(0, aK κ 65), (1, .int i1), (2, .int i2), (3, .int i3), (4, .int i4), (5, .int i5), (6, .int i6), (7, .int i7), (8, .int i8), (9, .int i9), (10, .int i10), (11, .int i11), (13, .int i13)] [] σ := by
  unfold x7_layLeast_152 at h
  refine r_iconst (v := 1) hc dX7_layLeast_152 (by decide) ?_
  refine r_goto 157 hc dX7_layLeast_153 (by decide) ?_
  exact u7_layLeast_157 hc hR66 hR83 h
set_option maxRecDepth 100000 in
set_option maxHeartbeats 4000000 in
theorem u7_layLeast_144 {κ : KT} {k : Int32 → St → Prop} {i1 : Int32} {i2 : Int32} {R66 : Int32 → Int32 → Int32 → Int32 → Int32 → Int32 → Int32 → St → Prop} {R83 : Int32 → Int32 → Int32 → Int32 → Int32 → Int32 → Int32 → Int32 → Int32 → St → Prop} {i3 : Int32} {i4 : Int32} {i5 : Int32} {i6 : Int32} {i7 : Int32} {i8 : Int32} {i9 : Int32} {i10 : Int32} {i11 : Int32} {i13 : Int32} {s4 : Int32} {s3 : Int32} {s2 : Int32} {s1 : Int32} {σ : St}  (hc : Cx κ cX7_layLeast 15 RX7 5 (some .int))  (hR66 : ∀ (i3 : Int32) (i4 : Int32) (i5 : Int32) (i6 : Int32) (i7 : Int32) (i8 : Int32) (i9 : Int32) (σ : St), R66 i3 i4 i5 i6 i7 i8 i9 σ → Wd κ 15 (QI κ k) 66 [(0, aK κ 65), (1, .int i1), (2, .int i2), (3, .int i3), (4, .int i4), (5, .int i5), (6, .int i6), (7, .int i7), (8, .int i8), (9, .int i9)] [] σ) (hR83 : ∀ (i3 : Int32) (i4 : Int32) (i5 : Int32) (i6 : Int32) (i7 : Int32) (i8 : Int32) (i9 : Int32) (i10 : Int32) (i11 : Int32) (σ : St), R83 i3 i4 i5 i6 i7 i8 i9 i10 i11 σ → Wd κ 15 (QI κ k) 83 [(0, aK κ 65), (1, .int i1), (2, .int i2), (3, .int i3), (4, .int i4), (5, .int i5), (6, .int i6), (7, .int i7), (8, .int i8), (9, .int i9), (10, .int i10), (11, .int i11)] [] σ)  (h : x7_layLeast_144 i1 i2 R66 R83 i3 i4 i5 i6 i7 i8 i9 i10 i11 i13 s4 s3 s2 s1 σ k) : Wd κ 15 (QI κ k) 144 [(0, aK κ 65), (1, .int i1), (2, .int i2), (3, .int i3), (4, .int i4), (5, .int i5), (6, .int i6), (7, .int i7), (8, .int i8), (9, .int i9), (10, .int i10), (11, .int i11), (13, .int i13)] [.int s4, .int s3, .int s2, .int s1, aK κ 65] σ := by
  unfold x7_layLeast_144 at h
  refine r_iload_n 1 hc dX7_layLeast_144 rfl ?_
  refine r_iload_n 2 hc dX7_layLeast_145 rfl ?_
  refine r_cvI [.int s1, .int s2, .int s3, .int s4, .int i1, .int i2] hc dX7_layLeast_146 cX7_189 (t7_fits h) rfl (by decide) rfl rfl rfl rfl (Nat.le_of_ble_eq_true rfl) (by decide) (by decide) (fun r12 σ13 h => ?_)
  refine r_if_eq 156 hc dX7_layLeast_149 (by decide) h (fun h => ?_) (fun h => ?_)
  · refine r_iconst (v := 0) hc dX7_layLeast_156 (by decide) ?_
    exact u7_layLeast_157 hc hR66 hR83 h
  · exact u7_layLeast_152 hc hR66 hR83 h
set_option maxRecDepth 100000 in
set_option maxHeartbeats 4000000 in
theorem u7_layLeast_139 {κ : KT} {k : Int32 → St → Prop} {i1 : Int32} {i2 : Int32} {R66 : Int32 → Int32 → Int32 → Int32 → Int32 → Int32 → Int32 → St → Prop} {R83 : Int32 → Int32 → Int32 → Int32 → Int32 → Int32 → Int32 → Int32 → Int32 → St → Prop} {i3 : Int32} {i4 : Int32} {i5 : Int32} {i6 : Int32} {i7 : Int32} {i8 : Int32} {i9 : Int32} {i10 : Int32} {i11 : Int32} {i13 : Int32} {s3 : Int32} {s2 : Int32} {s1 : Int32} {σ : St}  (hc : Cx κ cX7_layLeast 15 RX7 5 (some .int))  (hR66 : ∀ (i3 : Int32) (i4 : Int32) (i5 : Int32) (i6 : Int32) (i7 : Int32) (i8 : Int32) (i9 : Int32) (σ : St), R66 i3 i4 i5 i6 i7 i8 i9 σ → Wd κ 15 (QI κ k) 66 [(0, aK κ 65), (1, .int i1), (2, .int i2), (3, .int i3), (4, .int i4), (5, .int i5), (6, .int i6), (7, .int i7), (8, .int i8), (9, .int i9)] [] σ) (hR83 : ∀ (i3 : Int32) (i4 : Int32) (i5 : Int32) (i6 : Int32) (i7 : Int32) (i8 : Int32) (i9 : Int32) (i10 : Int32) (i11 : Int32) (σ : St), R83 i3 i4 i5 i6 i7 i8 i9 i10 i11 σ → Wd κ 15 (QI κ k) 83 [(0, aK κ 65), (1, .int i1), (2, .int i2), (3, .int i3), (4, .int i4), (5, .int i5), (6, .int i6), (7, .int i7), (8, .int i8), (9, .int i9), (10, .int i10), (11, .int i11)] [] σ)  (h : x7_layLeast_139 i1 i2 R66 R83 i3 i4 i5 i6 i7 i8 i9 i10 i11 i13 s3 s2 s1 σ k) : Wd κ 15 (QI κ k) 139 [(0, aK κ 65), (1, .int i1), (2, .int i2), (3, .int i3), (4, .int i4), (5, .int i5), (6, .int i6), (7, .int i7), (8, .int i8), (9, .int i9), (10, .int i10), (11, .int i11), (13, .int i13)] [.int s3, .int s2, .int s1, aK κ 65] σ := by
  unfold x7_layLeast_139 at h
  refine r_iconst (v := 1) hc dX7_layLeast_139 (by decide) ?_
  refine r_goto 144 hc dX7_layLeast_140 (by decide) ?_
  exact u7_layLeast_144 hc hR66 hR83 h
set_option maxRecDepth 100000 in
set_option maxHeartbeats 4000000 in
theorem u7_layLeast_83 {κ : KT} {k : Int32 → St → Prop} {i1 : Int32} {i2 : Int32} {R66 : Int32 → Int32 → Int32 → Int32 → Int32 → Int32 → Int32 → St → Prop}  (hc : Cx κ cX7_layLeast 15 RX7 5 (some .int))  (hR66 : ∀ (i3 : Int32) (i4 : Int32) (i5 : Int32) (i6 : Int32) (i7 : Int32) (i8 : Int32) (i9 : Int32) (σ : St), R66 i3 i4 i5 i6 i7 i8 i9 σ → Wd κ 15 (QI κ k) 66 [(0, aK κ 65), (1, .int i1), (2, .int i2), (3, .int i3), (4, .int i4), (5, .int i5), (6, .int i6), (7, .int i7), (8, .int i8), (9, .int i9)] [] σ) : ∀ (n : Nat) (i3 : Int32) (i4 : Int32) (i5 : Int32) (i6 : Int32) (i7 : Int32) (i8 : Int32) (i9 : Int32) (i10 : Int32) (i11 : Int32) (σ : St), x7_layLeast_83 i1 i2 R66 k n i3 i4 i5 i6 i7 i8 i9 i10 i11 σ → Wd κ 15 (QI κ k) 83 [(0, aK κ 65), (1, .int i1), (2, .int i2), (3, .int i3), (4, .int i4), (5, .int i5), (6, .int i6), (7, .int i7), (8, .int i8), (9, .int i9), (10, .int i10), (11, .int i11)] [] σ := by
  intro n
  induction n with
  | zero => intro i3 i4 i5 i6 i7 i8 i9 i10 i11 σ h; exact h.elim
  | succ n ih =>
    intro i3 i4 i5 i6 i7 i8 i9 i10 i11 σ h
    unfold x7_layLeast_83 at h
    refine r_iload 11 hc dX7_layLeast_83 rfl ?_
    refine r_bipush (v := 24) hc dX7_layLeast_85 (by decide) ?_
    refine r_icmp_ge 207 hc dX7_layLeast_87 (by decide) h (fun h => ?_) (fun h => ?_)
    · refine r_sub [0, 1, 2, 3, 4, 5, 9] rfl ?_
      exact u7_layLeast_207 hc hR66 h
    · refine r_iload 10 hc dX7_layLeast_90 rfl ?_
      refine r_if_ne 207 hc dX7_layLeast_92 (by decide) h (fun h => ?_) (fun h => ?_)
      · refine r_iload 11 hc dX7_layLeast_95 rfl ?_
        refine r_iconst (v := 2) hc dX7_layLeast_97 (by decide) ?_
        refine r_irem hc dX7_layLeast_98 h (fun h => ?_)
        refine r_nmI h (fun v7 h => ?_)
        refine r_istore (lv' := [(12, .int v7), (0, aK κ 65), (1, .int i1), (2, .int i2), (3, .int i3), (4, .int i4), (5, .int i5), (6, .int i6), (7, .int i7), (8, .int i8), (9, .int i9), (10, .int i10), (11, .int i11)]) hc dX7_layLeast_99 (by decide) rfl ?_
        refine r_iconst (v := 2) hc dX7_layLeast_101 (by decide) ?_
        refine r_iload 6 hc dX7_layLeast_102 rfl ?_
        refine r_imul hc dX7_layLeast_104 ?_
        refine r_iload 0 hc dX7_layLeast_105 rfl ?_
        refine r_iadd hc dX7_layLeast_107 ?_
        refine r_nmI h (fun v8 h => ?_)
        refine r_istore (lv' := [(13, .int v8), (12, .int v7), (0, aK κ 65), (1, .int i1), (2, .int i2), (3, .int i3), (4, .int i4), (5, .int i5), (6, .int i6), (7, .int i7), (8, .int i8), (9, .int i9), (10, .int i10), (11, .int i11)]) hc dX7_layLeast_108 (by decide) rfl ?_
        refine r_iload 8 hc dX7_layLeast_110 rfl ?_
        refine r_if_lt 152 hc dX7_layLeast_112 (by decide) h (fun h => ?_) (fun h => ?_)
        · refine r_sub [2, 3, 4, 5, 6, 7, 8, 9, 10, 11, 12, 13, 0] rfl ?_
          exact u7_layLeast_152 hc hR66 ih h
        · refine r_aload_n 2 hc dX7_layLeast_115 rfl ?_
          refine r_iload 11 hc dX7_layLeast_116 rfl ?_
          refine r_iconst (v := 1) hc dX7_layLeast_118 (by decide) ?_
          refine r_isub hc dX7_layLeast_119 ?_
          refine r_iload 8 hc dX7_layLeast_120 rfl ?_
          refine r_iload 9 hc dX7_layLeast_122 rfl ?_
          refine r_iload 10 hc dX7_layLeast_124 rfl ?_
          refine r_if_gt 139 hc dX7_layLeast_126 (by decide) h (fun h => ?_) (fun h => ?_)
          · refine r_sub [2, 3, 4, 5, 6, 7, 8, 9, 10, 11, 12, 13, 0] rfl ?_
            exact u7_layLeast_139 hc hR66 ih h
          · refine r_iload 7 hc dX7_layLeast_129 rfl ?_
            refine r_if_gt 139 hc dX7_layLeast_131 (by decide) h (fun h => ?_) (fun h => ?_)
            · refine r_sub [2, 3, 4, 5, 6, 7, 8, 9, 10, 11, 12, 13, 0] rfl ?_
              exact u7_layLeast_139 hc hR66 ih h
            · refine r_iload 1 hc dX7_layLeast_134 rfl ?_
              refine r_if_le 143 hc dX7_layLeast_136 (by decide) h (fun h => ?_) (fun h => ?_)
              · refine r_iconst (v := 0) hc dX7_layLeast_143 (by decide) ?_
                refine r_sub [2, 3, 4, 5, 6, 7, 8, 9, 10, 11, 12, 13, 0] rfl ?_
                exact u7_layLeast_144 hc hR66 ih h
              · refine r_sub [2, 3, 4, 5, 6, 7, 8, 9, 10, 11, 12, 13, 0] rfl ?_
                exact u7_layLeast_139 hc hR66 ih h
      · refine r_sub [0, 1, 2, 3, 4, 5, 9] rfl ?_
        exact u7_layLeast_207 hc hR66 h
set_option maxRecDepth 100000 in
set_option maxHeartbeats 4000000 in
theorem u7_layLeast_66 {κ : KT} {k : Int32 → St → Prop} {i1 : Int32} {i2 : Int32}   (hc : Cx κ cX7_layLeast 15 RX7 5 (some .int))   : ∀ (n : Nat) (i3 : Int32) (i4 : Int32) (i5 : Int32) (i6 : Int32) (i7 : Int32) (i8 : Int32) (i9 : Int32) (σ : St), x7_layLeast_66 i1 i2 k n i3 i4 i5 i6 i7 i8 i9 σ → Wd κ 15 (QI κ k) 66 [(0, aK κ 65), (1, .int i1), (2, .int i2), (3, .int i3), (4, .int i4), (5, .int i5), (6, .int i6), (7, .int i7), (8, .int i8), (9, .int i9)] [] σ := by
  intro n
  induction n with
  | zero => intro i3 i4 i5 i6 i7 i8 i9 σ h; exact h.elim
  | succ n ih =>
    intro i3 i4 i5 i6 i7 i8 i9 σ h
    unfold x7_layLeast_66 at h
    refine r_iload 9 hc dX7_layLeast_66 rfl ?_
    refine r_aload_n 0 hc dX7_layLeast_68 rfl ?_
    refine r_get (K := 7) (f := 12) hc dX7_layLeast_69 fX7_22 inX7 rfl rfl (by decide) (by decide) rfl rfl ?_
    refine r_iconst (v := 2) hc dX7_layLeast_72 (by decide) ?_
    refine r_iald hc dX7_layLeast_73 rfl h (fun h => ?_)
    refine r_icmp_ge 265 hc dX7_layLeast_74 (by decide) h (fun h => ?_) (fun h => ?_)
    · refine r_iload_n 3 hc dX7_layLeast_265 rfl ?_
      exact r_iret hc dX7_layLeast_266 h
    · refine r_iconst (v := 0) hc dX7_layLeast_77 (by decide) ?_
      refine r_istore (lv' := [(10, .int 0), (0, aK κ 65), (1, .int i1), (2, .int i2), (3, .int i3), (4, .int i4), (5, .int i5), (6, .int i6), (7, .int i7), (8, .int i8), (9, .int i9)]) hc dX7_layLeast_78 (by decide) rfl ?_
      refine r_iconst (v := 0) hc dX7_layLeast_80 (by decide) ?_
      refine r_istore (lv' := [(11, .int 0), (10, .int 0), (0, aK κ 65), (1, .int i1), (2, .int i2), (3, .int i3), (4, .int i4), (5, .int i5), (6, .int i6), (7, .int i7), (8, .int i8), (9, .int i9)]) hc dX7_layLeast_81 (by decide) rfl ?_
      refine r_sub [2, 3, 4, 5, 6, 7, 8, 9, 10, 11, 1, 0] rfl ?_
      obtain ⟨n0, h⟩ := h
      exact u7_layLeast_83 hc ih n0 _ _ _ _ _ _ _ _ _ _ h
set_option maxRecDepth 100000 in
set_option maxHeartbeats 4000000 in
theorem u7_layLeast_36 {κ : KT} {k : Int32 → St → Prop} {i1 : Int32} {i2 : Int32}  {s0 : Int32} {σ : St}  (hc : Cx κ cX7_layLeast 15 RX7 5 (some .int))    (h : x7_layLeast_36 i1 i2 s0 σ k) : Wd κ 15 (QI κ k) 36 [(0, aK κ 65), (1, .int i1), (2, .int i2)] [.int s0] σ := by
  unfold x7_layLeast_36 at h
  refine r_istore_n (lv' := [(3, .int s0), (0, aK κ 65), (1, .int i1), (2, .int i2)]) hc dX7_layLeast_36 (by decide) rfl ?_
  refine r_iload_n 0 hc dX7_layLeast_37 rfl ?_
  refine r_sipush (v := 9999) hc dX7_layLeast_38 (by decide) ?_
  refine r_icmp_lt 48 hc dX7_layLeast_41 (by decide) h (fun h => ?_) (fun h => ?_)
  · refine r_iload_n 0 hc dX7_layLeast_48 rfl ?_
    refine r_istore (lv' := [(4, .int s0), (3, .int s0), (0, aK κ 65), (1, .int i1), (2, .int i2)]) hc dX7_layLeast_49 (by decide) rfl ?_
    refine r_iconst (v := 0) hc dX7_layLeast_51 (by decide) ?_
    refine r_istore (lv' := [(5, .int 0), (4, .int s0), (3, .int s0), (0, aK κ 65), (1, .int i1), (2, .int i2)]) hc dX7_layLeast_52 (by decide) rfl ?_
    refine r_iconst (v := (-1)) hc dX7_layLeast_54 (by decide) ?_
    refine r_istore (lv' := [(6, .int ((-1))), (5, .int 0), (4, .int s0), (3, .int s0), (0, aK κ 65), (1, .int i1), (2, .int i2)]) hc dX7_layLeast_55 (by decide) rfl ?_
    refine r_iconst (v := 0) hc dX7_layLeast_57 (by decide) ?_
    refine r_istore (lv' := [(7, .int 0), (6, .int ((-1))), (5, .int 0), (4, .int s0), (3, .int s0), (0, aK κ 65), (1, .int i1), (2, .int i2)]) hc dX7_layLeast_58 (by decide) rfl ?_
    refine r_iconst (v := 0) hc dX7_layLeast_60 (by decide) ?_
    refine r_istore (lv' := [(8, .int 0), (7, .int 0), (6, .int ((-1))), (5, .int 0), (4, .int s0), (3, .int s0), (0, aK κ 65), (1, .int i1), (2, .int i2)]) hc dX7_layLeast_61 (by decide) rfl ?_
    refine r_iconst (v := 0) hc dX7_layLeast_63 (by decide) ?_
    refine r_istore (lv' := [(9, .int 0), (8, .int 0), (7, .int 0), (6, .int ((-1))), (5, .int 0), (4, .int s0), (3, .int s0), (0, aK κ 65), (1, .int i1), (2, .int i2)]) hc dX7_layLeast_64 (by decide) rfl ?_
    refine r_sub [7, 8, 9, 6, 5, 4, 3, 2, 1, 0] rfl ?_
    obtain ⟨n0, h⟩ := h
    exact u7_layLeast_66 hc n0 _ _ _ _ _ _ _ _ h
  · refine r_sipush (v := 9999) hc dX7_layLeast_44 (by decide) ?_
    exact r_iret hc dX7_layLeast_47 h
set_option maxRecDepth 100000 in
set_option maxHeartbeats 4000000 in
theorem t7_layLeast {l : Launch} {i1 : Int32} {i2 : Int32} {σ : St} {k : Int32 → St → Prop}  (h : x7_layLeast i1 i2 σ k) : CI l yX7_layLeast cX7_layLeast 15 5 (some .int) (fun ad => [.ref (ad 65), .int i1, .int i2]) σ k := by
  refine CI.of (lv := fun ad => [(0, .ref (ad 65)), (1, .int i1), (2, .int i2)]) (by decide) (fun _ => Nat.le_of_ble_eq_true rfl) (fun _ => rfl) (fun κ hc => ?_)
  show Wd κ 15 (QI κ k) 0 [(0, aK κ 65), (1, .int i1), (2, .int i2)] [] σ
  unfold x7_layLeast at h
  refine r_aload_n 0 hc dX7_layLeast_0 rfl ?_
  refine r_iload_n 1 hc dX7_layLeast_1 rfl ?_
  refine r_iload_n 2 hc dX7_layLeast_2 rfl ?_
  refine r_cvV [.int i1, .int i2] hc dX7_layLeast_3 cX7_197 (t7_layCosts h) rfl (by decide) rfl rfl rfl rfl (Nat.le_of_ble_eq_true rfl) (by decide) (by decide) (fun σ2 h => ?_)
  refine r_aload_n 0 hc dX7_layLeast_6 rfl ?_
  refine r_get (K := 7) (f := 22) hc dX7_layLeast_7 fX7_47 inX7 rfl rfl (by decide) (by decide) rfl rfl ?_
  refine r_iconst (v := 0) hc dX7_layLeast_10 (by decide) ?_
  refine r_iald hc dX7_layLeast_11 rfl h (fun h => ?_)
  refine r_aload_n 0 hc dX7_layLeast_12 rfl ?_
  refine r_get (K := 7) (f := 22) hc dX7_layLeast_13 fX7_47 inX7 rfl rfl (by decide) (by decide) rfl rfl ?_
  refine r_iconst (v := 1) hc dX7_layLeast_16 (by decide) ?_
  refine r_iald hc dX7_layLeast_17 rfl h (fun h => ?_)
  refine r_icmp_ge 30 hc dX7_layLeast_18 (by decide) h (fun h => ?_) (fun h => ?_)
  · refine r_aload_n 0 hc dX7_layLeast_30 rfl ?_
    refine r_get (K := 7) (f := 22) hc dX7_layLeast_31 fX7_47 inX7 rfl rfl (by decide) (by decide) rfl rfl ?_
    refine r_iconst (v := 1) hc dX7_layLeast_34 (by decide) ?_
    refine r_iald hc dX7_layLeast_35 rfl h (fun h => ?_)
    exact u7_layLeast_36 hc h
  · refine r_aload_n 0 hc dX7_layLeast_21 rfl ?_
    refine r_get (K := 7) (f := 22) hc dX7_layLeast_22 fX7_47 inX7 rfl rfl (by decide) (by decide) rfl rfl ?_
    refine r_iconst (v := 0) hc dX7_layLeast_25 (by decide) ?_
    refine r_iald hc dX7_layLeast_26 rfl h (fun h => ?_)
    refine r_goto 36 hc dX7_layLeast_27 (by decide) ?_
    exact u7_layLeast_36 hc h
set_option maxRecDepth 100000 in
set_option maxHeartbeats 4000000 in
theorem u7_least_32 {κ : KT} {k : Int32 → St → Prop} {i1 : Int32} {i2 : Int32} {i3 : Int32}   {σ : St}  (hc : Cx κ cX7_least 5 RX7 6 (some .int))    (h : x7_least_32 i1 i2 i3 σ k) : Wd κ 5 (QI κ k) 32 [(0, aK κ 65), (1, .int i1), (2, .int i2), (3, .int i3)] [] σ := by
  unfold x7_least_32 at h
  refine r_ldc hc dX7_least_32 kX7_63 ?_
  exact r_iret hc dX7_least_34 h
set_option maxRecDepth 100000 in
set_option maxHeartbeats 4000000 in
theorem u7_least_71 {κ : KT} {k : Int32 → St → Prop} {i1 : Int32} {i2 : Int32} {i3 : Int32}  {s0 : Int32} {σ : St}  (hc : Cx κ cX7_least 5 RX7 6 (some .int))    (h : x7_least_71 i1 i2 i3 s0 σ k) : Wd κ 5 (QI κ k) 71 [(0, aK κ 65), (1, .int i1), (2, .int i2), (3, .int i3)] [.int s0] σ := by
  unfold x7_least_71 at h
  exact r_iret hc dX7_least_71 h
set_option maxRecDepth 100000 in
set_option maxHeartbeats 4000000 in
theorem u7_least_35 {κ : KT} {k : Int32 → St → Prop} {i1 : Int32} {i2 : Int32} {i3 : Int32}   {σ : St}  (hc : Cx κ cX7_least 5 RX7 6 (some .int))    (h : x7_least_35 i1 i2 i3 σ k) : Wd κ 5 (QI κ k) 35 [(0, aK κ 65), (1, .int i1), (2, .int i2), (3, .int i3)] [] σ := by
  unfold x7_least_35 at h
  refine r_aload_n 0 hc dX7_least_35 rfl ?_
  refine r_iload_n 1 hc dX7_least_36 rfl ?_
  refine r_iload_n 2 hc dX7_least_37 rfl ?_
  refine r_cvI [.int i1, .int i2] hc dX7_least_38 cX7_204 (t7_layLeast h) rfl (by decide) rfl rfl rfl rfl (Nat.le_of_ble_eq_true rfl) (by decide) (by decide) (fun r5 σ6 h => ?_)
  refine r_istore (lv' := [(4, .int r5), (0, aK κ 65), (1, .int i1), (2, .int i2), (3, .int i3)]) hc dX7_least_41 (by decide) rfl ?_
  refine r_iload 0 hc dX7_least_43 rfl ?_
  refine r_sipush (v := 9999) hc dX7_least_45 (by decide) ?_
  refine r_icmp_lt 56 hc dX7_least_48 (by decide) h (fun h => ?_) (fun h => ?_)
  · refine r_iload_n 4 hc dX7_least_56 rfl ?_
    refine r_if_ge 65 hc dX7_least_57 (by decide) h (fun h => ?_) (fun h => ?_)
    · refine r_aload_n 1 hc dX7_least_65 rfl ?_
      refine r_get (K := 7) (f := 21) hc dX7_least_66 fX7_44 inX7 rfl rfl (by decide) (by decide) rfl rfl ?_
      refine r_iload_n 4 hc dX7_least_69 rfl ?_
      refine r_iald hc dX7_least_70 rfl h (fun h => ?_)
      refine r_sub [1, 2, 3, 4] rfl ?_
      exact u7_least_71 hc h
    · refine r_iload 0 hc dX7_least_60 rfl ?_
      refine r_goto 71 hc dX7_least_62 (by decide) ?_
      refine r_sub [1, 2, 3, 4] rfl ?_
      exact u7_least_71 hc h
  · refine r_ldc hc dX7_least_51 kX7_188 ?_
    refine r_goto 71 hc dX7_least_53 (by decide) ?_
    refine r_sub [1, 2, 3, 4] rfl ?_
    exact u7_least_71 hc h
set_option maxRecDepth 100000 in
set_option maxHeartbeats 4000000 in
theorem t7_least {l : Launch} {i1 : Int32} {i2 : Int32} {i3 : Int32} {σ : St} {k : Int32 → St → Prop}  (h : x7_least i1 i2 i3 σ k) : CI l yX7_least cX7_least 5 6 (some .int) (fun ad => [.ref (ad 65), .int i1, .int i2, .int i3]) σ k := by
  refine CI.of (lv := fun ad => [(0, .ref (ad 65)), (1, .int i1), (2, .int i2), (3, .int i3)]) (by decide) (fun _ => Nat.le_of_ble_eq_true rfl) (fun _ => rfl) (fun κ hc => ?_)
  show Wd κ 5 (QI κ k) 0 [(0, aK κ 65), (1, .int i1), (2, .int i2), (3, .int i3)] [] σ
  unfold x7_least at h
  refine r_aload_n 0 hc dX7_least_0 rfl ?_
  refine r_cvI [] hc dX7_least_1 cX7_176 (t7_isStreet h) rfl (by decide) rfl rfl rfl rfl (Nat.le_of_ble_eq_true rfl) (by decide) (by decide) (fun r1 σ2 h => ?_)
  refine r_if_ne 10 hc dX7_least_4 (by decide) h (fun h => ?_) (fun h => ?_)
  · refine r_ldc hc dX7_least_7 kX7_162 ?_
    exact r_iret hc dX7_least_9 h
  · refine r_aload_n 0 hc dX7_least_10 rfl ?_
    refine r_iload_n 1 hc dX7_least_11 rfl ?_
    refine r_iload_n 2 hc dX7_least_12 rfl ?_
    refine r_cvI [.int i1, .int i2] hc dX7_least_13 cX7_201 (t7_areSets h) rfl (by decide) rfl rfl rfl rfl (Nat.le_of_ble_eq_true rfl) (by decide) (by decide) (fun r3 σ4 h => ?_)
    refine r_if_eq 32 hc dX7_least_16 (by decide) h (fun h => ?_) (fun h => ?_)
    · exact u7_least_32 hc h
    · refine r_iload_n 3 hc dX7_least_19 rfl ?_
      refine r_iconst (v := (-1)) hc dX7_least_20 (by decide) ?_
      refine r_icmp_eq 35 hc dX7_least_21 (by decide) h (fun h => ?_) (fun h => ?_)
      · exact u7_least_35 hc h
      · refine r_aload_n 0 hc dX7_least_24 rfl ?_
        refine r_iload_n 3 hc dX7_least_25 rfl ?_
        refine r_cvI [.int i3] hc dX7_least_26 cX7_163 (t7_isDoorAt h) rfl (by decide) rfl rfl rfl rfl (Nat.le_of_ble_eq_true rfl) (by decide) (by decide) (fun r7 σ8 h => ?_)
        refine r_if_ne 35 hc dX7_least_29 (by decide) h (fun h => ?_) (fun h => ?_)
        · exact u7_least_32 hc h
        · exact u7_least_35 hc h
set_option maxRecDepth 100000 in
set_option maxHeartbeats 4000000 in
theorem u7_meets_19 {κ : KT} {k : Int32 → St → Prop}   {s0 : Int32} {σ : St}  (hc : Cx κ cX7_meets 1 RX7 5 (some .int))    (h : x7_meets_19 s0 σ k) : Wd κ 1 (QI κ k) 19 [(0, aK κ 65)] [.int s0] σ := by
  unfold x7_meets_19 at h
  exact r_iret hc dX7_meets_19 h
set_option maxRecDepth 100000 in
set_option maxHeartbeats 4000000 in
theorem t7_meets {l : Launch}  {σ : St} {k : Int32 → St → Prop}  (h : x7_meets  σ k) : CI l yX7_meets cX7_meets 1 5 (some .int) (fun ad => [.ref (ad 65)]) σ k := by
  refine CI.of (lv := fun ad => [(0, .ref (ad 65))]) (by decide) (fun _ => Nat.le_of_ble_eq_true rfl) (fun _ => rfl) (fun κ hc => ?_)
  show Wd κ 1 (QI κ k) 0 [(0, aK κ 65)] [] σ
  unfold x7_meets at h
  refine r_aload_n 0 hc dX7_meets_0 rfl ?_
  refine r_cvI [] hc dX7_meets_1 cX7_176 (t7_isStreet h) rfl (by decide) rfl rfl rfl rfl (Nat.le_of_ble_eq_true rfl) (by decide) (by decide) (fun r1 σ2 h => ?_)
  refine r_if_eq 17 hc dX7_meets_4 (by decide) h (fun h => ?_) (fun h => ?_)
  · refine r_ldc hc dX7_meets_17 kX7_162 ?_
    exact u7_meets_19 hc h
  · refine r_aload_n 0 hc dX7_meets_7 rfl ?_
    refine r_get (K := 7) (f := 12) hc dX7_meets_8 fX7_22 inX7 rfl rfl (by decide) (by decide) rfl rfl ?_
    refine r_csI [aK κ 70] hc dX7_meets_11 cX7_155 (t7_meetersOf rfl h) rfl rfl rfl (Nat.le_of_ble_eq_true rfl) (by decide) (by decide) (fun r3 σ4 h => ?_)
    refine r_goto 19 hc dX7_meets_14 (by decide) ?_
    exact u7_meets_19 hc h
set_option maxRecDepth 100000 in
set_option maxHeartbeats 4000000 in
theorem u7_nothing_48 {κ : KT} {k : Int32 → St → Prop}  {R20 : Int32 → Int32 → St → Prop} {i1 : Int32} {i2 : Int32} {σ : St}  (hc : Cx κ cX7_nothing 4 RX7 5 (some .int))  (hR20 : ∀ (i1 : Int32) (i2 : Int32) (σ : St), R20 i1 i2 σ → Wd κ 4 (QI κ k) 20 [(0, aK κ 65), (1, .int i1), (2, .int i2)] [] σ)  (h : x7_nothing_48 R20 i1 i2 σ k) : Wd κ 4 (QI κ k) 48 [(0, aK κ 65), (1, .int i1), (2, .int i2)] [] σ := by
  unfold x7_nothing_48 at h
  refine r_iinc (v := 1) (lv' := [(2, .int (i2 + 1)), (0, aK κ 65), (1, .int i1)]) 2 hc dX7_nothing_48 rfl (by decide) (by decide) rfl ?_
  refine r_goto 20 hc dX7_nothing_51 (by decide) ?_
  refine r_sub [1, 2, 0] rfl ?_
  exact hR20 _ _ _ h
set_option maxRecDepth 100000 in
set_option maxHeartbeats 4000000 in
theorem u7_nothing_20 {κ : KT} {k : Int32 → St → Prop}    (hc : Cx κ cX7_nothing 4 RX7 5 (some .int))   : ∀ (n : Nat) (i1 : Int32) (i2 : Int32) (σ : St), x7_nothing_20 k n i1 i2 σ → Wd κ 4 (QI κ k) 20 [(0, aK κ 65), (1, .int i1), (2, .int i2)] [] σ := by
  intro n
  induction n with
  | zero => intro i1 i2 σ h; exact h.elim
  | succ n ih =>
    intro i1 i2 σ h
    unfold x7_nothing_20 at h
    refine r_iload_n 2 hc dX7_nothing_20 rfl ?_
    refine r_aload_n 0 hc dX7_nothing_21 rfl ?_
    refine r_get (K := 7) (f := 12) hc dX7_nothing_22 fX7_22 inX7 rfl rfl (by decide) (by decide) rfl rfl ?_
    refine r_iconst (v := 2) hc dX7_nothing_25 (by decide) ?_
    refine r_iald hc dX7_nothing_26 rfl h (fun h => ?_)
    refine r_icmp_ge 54 hc dX7_nothing_27 (by decide) h (fun h => ?_) (fun h => ?_)
    · refine r_ldc hc dX7_nothing_54 kX7_188 ?_
      exact r_iret hc dX7_nothing_56 h
    · refine r_aload_n 0 hc dX7_nothing_30 rfl ?_
      refine r_iload_n 2 hc dX7_nothing_31 rfl ?_
      refine r_cvI [.int i2] hc dX7_nothing_32 cX7_182 (t7_callersAt h) rfl (by decide) rfl rfl rfl rfl (Nat.le_of_ble_eq_true rfl) (by decide) (by decide) (fun r5 σ6 h => ?_)
      refine r_istore_n (lv' := [(3, .int r5), (0, aK κ 65), (1, .int i1), (2, .int i2)]) hc dX7_nothing_35 (by decide) rfl ?_
      refine r_iload_n 0 hc dX7_nothing_36 rfl ?_
      refine r_if_eq 48 hc dX7_nothing_37 (by decide) h (fun h => ?_) (fun h => ?_)
      · refine r_sub [1, 2, 3] rfl ?_
        exact u7_nothing_48 hc ih h
      · refine r_iload_n 0 hc dX7_nothing_40 rfl ?_
        refine r_iload_n 2 hc dX7_nothing_41 rfl ?_
        refine r_iand hc dX7_nothing_42 ?_
        refine r_if_ne 48 hc dX7_nothing_43 (by decide) h (fun h => ?_) (fun h => ?_)
        · refine r_iload_n 3 hc dX7_nothing_46 rfl ?_
          exact r_iret hc dX7_nothing_47 h
        · refine r_sub [1, 2, 3] rfl ?_
          exact u7_nothing_48 hc ih h
set_option maxRecDepth 100000 in
set_option maxHeartbeats 4000000 in
theorem t7_nothing {l : Launch}  {σ : St} {k : Int32 → St → Prop}  (h : x7_nothing  σ k) : CI l yX7_nothing cX7_nothing 4 5 (some .int) (fun ad => [.ref (ad 65)]) σ k := by
  refine CI.of (lv := fun ad => [(0, .ref (ad 65))]) (by decide) (fun _ => Nat.le_of_ble_eq_true rfl) (fun _ => rfl) (fun κ hc => ?_)
  show Wd κ 4 (QI κ k) 0 [(0, aK κ 65)] [] σ
  unfold x7_nothing at h
  refine r_aload_n 0 hc dX7_nothing_0 rfl ?_
  refine r_cvI [] hc dX7_nothing_1 cX7_176 (t7_isStreet h) rfl (by decide) rfl rfl rfl rfl (Nat.le_of_ble_eq_true rfl) (by decide) (by decide) (fun r1 σ2 h => ?_)
  refine r_if_ne 10 hc dX7_nothing_4 (by decide) h (fun h => ?_) (fun h => ?_)
  · refine r_ldc hc dX7_nothing_7 kX7_162 ?_
    exact r_iret hc dX7_nothing_9 h
  · refine r_aload_n 0 hc dX7_nothing_10 rfl ?_
    refine r_get (K := 7) (f := 12) hc dX7_nothing_11 fX7_22 inX7 rfl rfl (by decide) (by decide) rfl rfl ?_
    refine r_csI [aK κ 70] hc dX7_nothing_14 cX7_155 (t7_meetersOf rfl h) rfl rfl rfl (Nat.le_of_ble_eq_true rfl) (by decide) (by decide) (fun r3 σ4 h => ?_)
    refine r_istore_n (lv' := [(1, .int r3), (0, aK κ 65)]) hc dX7_nothing_17 (by decide) rfl ?_
    refine r_iconst (v := 0) hc dX7_nothing_18 (by decide) ?_
    refine r_istore_n (lv' := [(2, .int 0), (1, .int r3), (0, aK κ 65)]) hc dX7_nothing_19 (by decide) rfl ?_
    refine r_sub [2, 1, 0] rfl ?_
    obtain ⟨n0, h⟩ := h
    exact u7_nothing_20 hc n0 _ _ _ h
set_option maxRecDepth 100000 in
set_option maxHeartbeats 4000000 in
theorem u7_rather_16 {κ : KT} {k : Int32 → St → Prop} {i1 : Int32} {i2 : Int32} {i3 : Int32}   {σ : St}  (hc : Cx κ cX7_rather 11 RX7 3 (some .int))    (h : x7_rather_16 i1 i2 i3 σ k) : Wd κ 11 (QI κ k) 16 [(0, aK κ 65), (1, .int i1), (2, .int i2), (3, .int i3)] [] σ := by
  unfold x7_rather_16 at h
  refine r_ldc hc dX7_rather_16 kX7_63 ?_
  exact r_iret hc dX7_rather_18 h
set_option maxRecDepth 100000 in
set_option maxHeartbeats 4000000 in
theorem u7_rather_264 {κ : KT} {k : Int32 → St → Prop} {i1 : Int32} {i2 : Int32} {i3 : Int32}  {s1 : Int32} {σ : St}  (hc : Cx κ cX7_rather 11 RX7 3 (some .int))    (h : x7_rather_264 i1 i2 i3 s1 σ k) : Wd κ 11 (QI κ k) 264 [(0, aK κ 65), (1, .int i1), (2, .int i2), (3, .int i3)] [.int s1, aK κ 65] σ := by
  unfold x7_rather_264 at h
  refine r_cvI [.int s1] hc dX7_rather_264 cX7_68 (t7_done h) rfl (by decide) rfl rfl rfl rfl (Nat.le_of_ble_eq_true rfl) (by decide) (by decide) (fun r10 σ11 h => ?_)
  exact r_iret hc dX7_rather_267 h
set_option maxRecDepth 100000 in
set_option maxHeartbeats 4000000 in
theorem u7_rather_243 {κ : KT} {k : Int32 → St → Prop} {i1 : Int32} {i2 : Int32} {i3 : Int32} {R111 : Int32 → Int32 → Int32 → Int32 → St → Prop} {i4 : Int32} {i5 : Int32} {i7 : Int32} {s1 : Int32} {s0 : Int32} {σ : St}  (hc : Cx κ cX7_rather 11 RX7 3 (some .int))  (hR111 : ∀ (i4 : Int32) (i5 : Int32) (i6 : Int32) (i7 : Int32) (σ : St), R111 i4 i5 i6 i7 σ → Wd κ 11 (QI κ k) 111 [(0, aK κ 65), (1, .int i1), (2, .int i2), (3, .int i3), (4, .int i4), (5, .int i5), (6, .int i6), (7, .int i7)] [] σ)  (h : x7_rather_243 i1 i2 i3 R111 i4 i5 i7 s1 s0 σ k) : Wd κ 11 (QI κ k) 243 [(0, aK κ 65), (1, .int i1), (2, .int i2), (3, .int i3), (4, .int i4), (5, .int i5), (7, .int i7)] [.int s1, .int s0] σ := by
  unfold x7_rather_243 at h
  refine r_iadd hc dX7_rather_243 ?_
  refine r_nmI h (fun v13 h => ?_)
  refine r_istore (lv' := [(6, .int v13), (0, aK κ 65), (1, .int i1), (2, .int i2), (3, .int i3), (4, .int i4), (5, .int i5), (7, .int i7)]) hc dX7_rather_244 (by decide) rfl ?_
  refine r_iinc (v := 1) (lv' := [(7, .int (i7 + 1)), (6, .int v13), (0, aK κ 65), (1, .int i1), (2, .int i2), (3, .int i3), (4, .int i4), (5, .int i5)]) 7 hc dX7_rather_246 rfl (by decide) (by decide) rfl ?_
  refine r_goto 111 hc dX7_rather_249 (by decide) ?_
  refine r_sub [2, 3, 4, 5, 6, 7, 1, 0] rfl ?_
  exact hR111 _ _ _ _ _ h
set_option maxRecDepth 100000 in
set_option maxHeartbeats 4000000 in
theorem u7_rather_228 {κ : KT} {k : Int32 → St → Prop} {i1 : Int32} {i2 : Int32} {i3 : Int32} {R111 : Int32 → Int32 → Int32 → Int32 → St → Prop} {i4 : Int32} {i6 : Int32} {i7 : Int32} {i10 : Int32} {s1 : Int32} {s0 : Int32} {σ : St}  (hc : Cx κ cX7_rather 11 RX7 3 (some .int))  (hR111 : ∀ (i4 : Int32) (i5 : Int32) (i6 : Int32) (i7 : Int32) (σ : St), R111 i4 i5 i6 i7 σ → Wd κ 11 (QI κ k) 111 [(0, aK κ 65), (1, .int i1), (2, .int i2), (3, .int i3), (4, .int i4), (5, .int i5), (6, .int i6), (7, .int i7)] [] σ)  (h : x7_rather_228 i1 i2 i3 R111 i4 i6 i7 i10 s1 s0 σ k) : Wd κ 11 (QI κ k) 228 [(0, aK κ 65), (1, .int i1), (2, .int i2), (3, .int i3), (4, .int i4), (6, .int i6), (7, .int i7), (10, .int i10)] [.int s1, .int s0] σ := by
  unfold x7_rather_228 at h
  refine r_ior hc dX7_rather_228 ?_
  refine r_nmI h (fun v12 h => ?_)
  refine r_istore (lv' := [(5, .int v12), (0, aK κ 65), (1, .int i1), (2, .int i2), (3, .int i3), (4, .int i4), (6, .int i6), (7, .int i7), (10, .int i10)]) hc dX7_rather_229 (by decide) rfl ?_
  refine r_iload 6 hc dX7_rather_231 rfl ?_
  refine r_iload 8 hc dX7_rather_233 rfl ?_
  refine r_if_eq 242 hc dX7_rather_235 (by decide) h (fun h => ?_) (fun h => ?_)
  · refine r_iconst (v := 0) hc dX7_rather_242 (by decide) ?_
    refine r_sub [1, 2, 3, 4, 5, 0, 7] rfl ?_
    exact u7_rather_243 hc hR111 h
  · refine r_iconst (v := 1) hc dX7_rather_238 (by decide) ?_
    refine r_goto 243 hc dX7_rather_239 (by decide) ?_
    refine r_sub [1, 2, 3, 4, 5, 0, 7] rfl ?_
    exact u7_rather_243 hc hR111 h
set_option maxRecDepth 100000 in
set_option maxHeartbeats 4000000 in
theorem u7_rather_211 {κ : KT} {k : Int32 → St → Prop} {i1 : Int32} {i2 : Int32} {i3 : Int32} {R111 : Int32 → Int32 → Int32 → Int32 → St → Prop} {i4 : Int32} {i5 : Int32} {i6 : Int32} {i7 : Int32} {s0 : Int32} {σ : St}  (hc : Cx κ cX7_rather 11 RX7 3 (some .int))  (hR111 : ∀ (i4 : Int32) (i5 : Int32) (i6 : Int32) (i7 : Int32) (σ : St), R111 i4 i5 i6 i7 σ → Wd κ 11 (QI κ k) 111 [(0, aK κ 65), (1, .int i1), (2, .int i2), (3, .int i3), (4, .int i4), (5, .int i5), (6, .int i6), (7, .int i7)] [] σ)  (h : x7_rather_211 i1 i2 i3 R111 i4 i5 i6 i7 s0 σ k) : Wd κ 11 (QI κ k) 211 [(0, aK κ 65), (1, .int i1), (2, .int i2), (3, .int i3), (4, .int i4), (5, .int i5), (6, .int i6), (7, .int i7)] [.int s0] σ := by
  unfold x7_rather_211 at h
  refine r_istore (lv' := [(10, .int s0), (0, aK κ 65), (1, .int i1), (2, .int i2), (3, .int i3), (4, .int i4), (5, .int i5), (6, .int i6), (7, .int i7)]) hc dX7_rather_211 (by decide) rfl ?_
  refine r_iload 6 hc dX7_rather_213 rfl ?_
  refine r_iload 0 hc dX7_rather_215 rfl ?_
  refine r_if_eq 227 hc dX7_rather_217 (by decide) h (fun h => ?_) (fun h => ?_)
  · refine r_iconst (v := 0) hc dX7_rather_227 (by decide) ?_
    refine r_sub [1, 2, 3, 4, 5, 7, 8, 0] rfl ?_
    exact u7_rather_228 hc hR111 h
  · refine r_iconst (v := 1) hc dX7_rather_220 (by decide) ?_
    refine r_iload 8 hc dX7_rather_221 rfl ?_
    refine r_ishl hc dX7_rather_223 ?_
    refine r_goto 228 hc dX7_rather_224 (by decide) ?_
    refine r_sub [1, 2, 3, 4, 5, 7, 8, 0] rfl ?_
    exact u7_rather_228 hc hR111 h
set_option maxRecDepth 100000 in
set_option maxHeartbeats 4000000 in
theorem u7_rather_210 {κ : KT} {k : Int32 → St → Prop} {i1 : Int32} {i2 : Int32} {i3 : Int32} {R111 : Int32 → Int32 → Int32 → Int32 → St → Prop} {i4 : Int32} {i5 : Int32} {i6 : Int32} {i7 : Int32} {σ : St}  (hc : Cx κ cX7_rather 11 RX7 3 (some .int))  (hR111 : ∀ (i4 : Int32) (i5 : Int32) (i6 : Int32) (i7 : Int32) (σ : St), R111 i4 i5 i6 i7 σ → Wd κ 11 (QI κ k) 111 [(0, aK κ 65), (1, .int i1), (2, .int i2), (3, .int i3), (4, .int i4), (5, .int i5), (6, .int i6), (7, .int i7)] [] σ)  (h : x7_rather_210 i1 i2 i3 R111 i4 i5 i6 i7 σ k) : Wd κ 11 (QI κ k) 210 [(0, aK κ 65), (1, .int i1), (2, .int i2), (3, .int i3), (4, .int i4), (5, .int i5), (6, .int i6), (7, .int i7)] [] σ := by
  unfold x7_rather_210 at h
  refine r_iconst (v := 0) hc dX7_rather_210 (by decide) ?_
  exact u7_rather_211 hc hR111 h
set_option maxRecDepth 100000 in
set_option maxHeartbeats 4000000 in
theorem u7_rather_154 {κ : KT} {k : Int32 → St → Prop} {i1 : Int32} {i2 : Int32} {i3 : Int32} {R111 : Int32 → Int32 → Int32 → Int32 → St → Prop} {i4 : Int32} {i5 : Int32} {i6 : Int32} {i7 : Int32} {i8 : Int32} {s0 : Int32} {σ : St}  (hc : Cx κ cX7_rather 11 RX7 3 (some .int))  (hR111 : ∀ (i4 : Int32) (i5 : Int32) (i6 : Int32) (i7 : Int32) (σ : St), R111 i4 i5 i6 i7 σ → Wd κ 11 (QI κ k) 111 [(0, aK κ 65), (1, .int i1), (2, .int i2), (3, .int i3), (4, .int i4), (5, .int i5), (6, .int i6), (7, .int i7)] [] σ)  (h : x7_rather_154 i1 i2 i3 R111 i4 i5 i6 i7 i8 s0 σ k) : Wd κ 11 (QI κ k) 154 [(0, aK κ 65), (1, .int i1), (2, .int i2), (3, .int i3), (4, .int i4), (5, .int i5), (6, .int i6), (7, .int i7), (8, .int i8)] [.int s0] σ := by
  unfold x7_rather_154 at h
  refine r_istore (lv' := [(9, .int s0), (0, aK κ 65), (1, .int i1), (2, .int i2), (3, .int i3), (4, .int i4), (5, .int i5), (6, .int i6), (7, .int i7), (8, .int i8)]) hc dX7_rather_154 (by decide) rfl ?_
  refine r_aload_n 1 hc dX7_rather_156 rfl ?_
  refine r_get (K := 7) (f := 2) hc dX7_rather_157 fX7_16 inX7 rfl rfl (by decide) (by decide) rfl rfl ?_
  refine r_iload 5 hc dX7_rather_160 rfl ?_
  refine r_iload 8 hc dX7_rather_162 rfl ?_
  refine r_iadd hc dX7_rather_164 ?_
  refine r_iald hc dX7_rather_165 rfl h (fun h => ?_)
  refine r_aload_n 1 hc dX7_rather_166 rfl ?_
  refine r_get (K := 7) (f := 2) hc dX7_rather_167 fX7_16 inX7 rfl rfl (by decide) (by decide) rfl rfl ?_
  refine r_iload 5 hc dX7_rather_170 rfl ?_
  refine r_iload 9 hc dX7_rather_172 rfl ?_
  refine r_iadd hc dX7_rather_174 ?_
  refine r_iald hc dX7_rather_175 rfl h (fun h => ?_)
  refine r_icmp_lt 210 hc dX7_rather_176 (by decide) h (fun h => ?_) (fun h => ?_)
  · refine r_sub [1, 2, 3, 4, 5, 6, 7, 8] rfl ?_
    exact u7_rather_210 hc hR111 h
  · refine r_aload_n 1 hc dX7_rather_179 rfl ?_
    refine r_get (K := 7) (f := 2) hc dX7_rather_180 fX7_16 inX7 rfl rfl (by decide) (by decide) rfl rfl ?_
    refine r_iload 5 hc dX7_rather_183 rfl ?_
    refine r_iconst (v := 4) hc dX7_rather_185 (by decide) ?_
    refine r_iadd hc dX7_rather_186 ?_
    refine r_iload 8 hc dX7_rather_187 rfl ?_
    refine r_iadd hc dX7_rather_189 ?_
    refine r_iald hc dX7_rather_190 rfl h (fun h => ?_)
    refine r_aload_n 1 hc dX7_rather_191 rfl ?_
    refine r_get (K := 7) (f := 2) hc dX7_rather_192 fX7_16 inX7 rfl rfl (by decide) (by decide) rfl rfl ?_
    refine r_iload 5 hc dX7_rather_195 rfl ?_
    refine r_iconst (v := 4) hc dX7_rather_197 (by decide) ?_
    refine r_iadd hc dX7_rather_198 ?_
    refine r_iload 0 hc dX7_rather_199 rfl ?_
    refine r_iadd hc dX7_rather_201 ?_
    refine r_iald hc dX7_rather_202 rfl h (fun h => ?_)
    refine r_icmp_lt 210 hc dX7_rather_203 (by decide) h (fun h => ?_) (fun h => ?_)
    · refine r_sub [1, 2, 3, 4, 5, 6, 7, 8] rfl ?_
      exact u7_rather_210 hc hR111 h
    · refine r_iconst (v := 1) hc dX7_rather_206 (by decide) ?_
      refine r_goto 211 hc dX7_rather_207 (by decide) ?_
      refine r_sub [1, 2, 3, 4, 5, 6, 7, 8] rfl ?_
      exact u7_rather_211 hc hR111 h
set_option maxRecDepth 100000 in
set_option maxHeartbeats 4000000 in
theorem u7_rather_134 {κ : KT} {k : Int32 → St → Prop} {i1 : Int32} {i2 : Int32} {i3 : Int32} {R111 : Int32 → Int32 → Int32 → Int32 → St → Prop} {i4 : Int32} {i5 : Int32} {i6 : Int32} {i7 : Int32} {s0 : Int32} {σ : St}  (hc : Cx κ cX7_rather 11 RX7 3 (some .int))  (hR111 : ∀ (i4 : Int32) (i5 : Int32) (i6 : Int32) (i7 : Int32) (σ : St), R111 i4 i5 i6 i7 σ → Wd κ 11 (QI κ k) 111 [(0, aK κ 65), (1, .int i1), (2, .int i2), (3, .int i3), (4, .int i4), (5, .int i5), (6, .int i6), (7, .int i7)] [] σ)  (h : x7_rather_134 i1 i2 i3 R111 i4 i5 i6 i7 s0 σ k) : Wd κ 11 (QI κ k) 134 [(0, aK κ 65), (1, .int i1), (2, .int i2), (3, .int i3), (4, .int i4), (5, .int i5), (6, .int i6), (7, .int i7)] [.int s0] σ := by
  unfold x7_rather_134 at h
  refine r_istore (lv' := [(8, .int s0), (0, aK κ 65), (1, .int i1), (2, .int i2), (3, .int i3), (4, .int i4), (5, .int i5), (6, .int i6), (7, .int i7)]) hc dX7_rather_134 (by decide) rfl ?_
  refine r_iload 8 hc dX7_rather_136 rfl ?_
  refine r_iconst (v := 2) hc dX7_rather_138 (by decide) ?_
  refine r_irem hc dX7_rather_139 h (fun h => ?_)
  refine r_if_ne 150 hc dX7_rather_140 (by decide) h (fun h => ?_) (fun h => ?_)
  · refine r_iload 8 hc dX7_rather_143 rfl ?_
    refine r_iconst (v := 1) hc dX7_rather_145 (by decide) ?_
    refine r_iadd hc dX7_rather_146 ?_
    refine r_goto 154 hc dX7_rather_147 (by decide) ?_
    refine r_sub [1, 2, 3, 4, 5, 6, 7, 8, 0] rfl ?_
    exact u7_rather_154 hc hR111 h
  · refine r_iload 8 hc dX7_rather_150 rfl ?_
    refine r_iconst (v := 1) hc dX7_rather_152 (by decide) ?_
    refine r_isub hc dX7_rather_153 ?_
    refine r_sub [1, 2, 3, 4, 5, 6, 7, 8, 0] rfl ?_
    exact u7_rather_154 hc hR111 h
set_option maxRecDepth 100000 in
set_option maxHeartbeats 4000000 in
theorem u7_rather_111 {κ : KT} {k : Int32 → St → Prop} {i1 : Int32} {i2 : Int32} {i3 : Int32}   (hc : Cx κ cX7_rather 11 RX7 3 (some .int))   : ∀ (n : Nat) (i4 : Int32) (i5 : Int32) (i6 : Int32) (i7 : Int32) (σ : St), x7_rather_111 i1 i2 i3 k n i4 i5 i6 i7 σ → Wd κ 11 (QI κ k) 111 [(0, aK κ 65), (1, .int i1), (2, .int i2), (3, .int i3), (4, .int i4), (5, .int i5), (6, .int i6), (7, .int i7)] [] σ := by
  intro n
  induction n with
  | zero => intro i4 i5 i6 i7 σ h; exact h.elim
  | succ n ih =>
    intro i4 i5 i6 i7 σ h
    unfold x7_rather_111 at h
    refine r_iload 7 hc dX7_rather_111 rfl ?_
    refine r_iconst (v := 4) hc dX7_rather_113 (by decide) ?_
    refine r_icmp_ge 252 hc dX7_rather_114 (by decide) h (fun h => ?_) (fun h => ?_)
    · refine r_aload_n 0 hc dX7_rather_252 rfl ?_
      refine r_iload_n 3 hc dX7_rather_253 rfl ?_
      refine r_if_ne 262 hc dX7_rather_254 (by decide) h (fun h => ?_) (fun h => ?_)
      · refine r_iload 6 hc dX7_rather_257 rfl ?_
        refine r_goto 264 hc dX7_rather_259 (by decide) ?_
        refine r_sub [0, 1, 2, 3] rfl ?_
        exact u7_rather_264 hc h
      · refine r_iload 5 hc dX7_rather_262 rfl ?_
        refine r_sub [0, 1, 2, 3] rfl ?_
        exact u7_rather_264 hc h
    · refine r_iload 7 hc dX7_rather_117 rfl ?_
      refine r_iconst (v := 2) hc dX7_rather_119 (by decide) ?_
      refine r_icmp_ge 130 hc dX7_rather_120 (by decide) h (fun h => ?_) (fun h => ?_)
      · refine r_iload 7 hc dX7_rather_130 rfl ?_
        refine r_iconst (v := 2) hc dX7_rather_132 (by decide) ?_
        refine r_isub hc dX7_rather_133 ?_
        exact u7_rather_134 hc ih h
      · refine r_iload 7 hc dX7_rather_123 rfl ?_
        refine r_iconst (v := 2) hc dX7_rather_125 (by decide) ?_
        refine r_iadd hc dX7_rather_126 ?_
        refine r_goto 134 hc dX7_rather_127 (by decide) ?_
        exact u7_rather_134 hc ih h
set_option maxRecDepth 100000 in
set_option maxHeartbeats 4000000 in
theorem u7_rather_66 {κ : KT} {k : Int32 → St → Prop} {i1 : Int32} {i2 : Int32} {i3 : Int32}   (hc : Cx κ cX7_rather 11 RX7 3 (some .int))   : ∀ (n : Nat) (i4 : Int32) (i5 : Int32) (σ : St), x7_rather_66 i1 i2 i3 k n i4 i5 σ → Wd κ 11 (QI κ k) 66 [(0, aK κ 65), (1, .int i1), (2, .int i2), (3, .int i3), (4, .int i4), (5, .int i5)] [] σ := by
  intro n
  induction n with
  | zero => intro i4 i5 σ h; exact h.elim
  | succ n ih =>
    intro i4 i5 σ h
    unfold x7_rather_66 at h
    refine r_iload 5 hc dX7_rather_66 rfl ?_
    refine r_bipush (v := 8) hc dX7_rather_68 (by decide) ?_
    refine r_icmp_ge 102 hc dX7_rather_70 (by decide) h (fun h => ?_) (fun h => ?_)
    · refine r_iconst (v := 0) hc dX7_rather_102 (by decide) ?_
      refine r_istore (lv' := [(5, .int 0), (0, aK κ 65), (1, .int i1), (2, .int i2), (3, .int i3), (4, .int i4)]) hc dX7_rather_103 (by decide) rfl ?_
      refine r_iconst (v := 0) hc dX7_rather_105 (by decide) ?_
      refine r_istore (lv' := [(6, .int 0), (5, .int 0), (0, aK κ 65), (1, .int i1), (2, .int i2), (3, .int i3), (4, .int i4)]) hc dX7_rather_106 (by decide) rfl ?_
      refine r_iconst (v := 0) hc dX7_rather_108 (by decide) ?_
      refine r_istore (lv' := [(7, .int 0), (6, .int 0), (5, .int 0), (0, aK κ 65), (1, .int i1), (2, .int i2), (3, .int i3), (4, .int i4)]) hc dX7_rather_109 (by decide) rfl ?_
      refine r_sub [3, 4, 5, 6, 7, 2, 1, 0] rfl ?_
      obtain ⟨n0, h⟩ := h
      exact u7_rather_111 hc n0 _ _ _ _ _ h
    · refine r_aload_n 0 hc dX7_rather_73 rfl ?_
      refine r_get (K := 7) (f := 2) hc dX7_rather_74 fX7_16 inX7 rfl rfl (by decide) (by decide) rfl rfl ?_
      refine r_iload 4 hc dX7_rather_77 rfl ?_
      refine r_iload 5 hc dX7_rather_79 rfl ?_
      refine r_iadd hc dX7_rather_81 ?_
      refine r_iald hc dX7_rather_82 rfl h (fun h => ?_)
      refine r_bipush (v := (-20)) hc dX7_rather_83 (by decide) ?_
      refine r_bipush (v := 20) hc dX7_rather_85 (by decide) ?_
      refine r_csI [.int (σ 68 (i4 + i5).toNatClampNeg), .int ((-20)), .int 20] hc dX7_rather_87 cX7_55 (t7_in h) rfl rfl rfl (Nat.le_of_ble_eq_true rfl) (by decide) (by decide) (fun r14 σ15 h => ?_)
      refine r_if_ne 96 hc dX7_rather_90 (by decide) h (fun h => ?_) (fun h => ?_)
      · refine r_ldc hc dX7_rather_93 kX7_63 ?_
        exact r_iret hc dX7_rather_95 h
      · refine r_iinc (v := 1) (lv' := [(5, .int (i5 + 1)), (0, aK κ 65), (1, .int i1), (2, .int i2), (3, .int i3), (4, .int i4)]) 5 hc dX7_rather_96 rfl (by decide) (by decide) rfl ?_
        refine r_goto 66 hc dX7_rather_99 (by decide) ?_
        refine r_sub [1, 2, 3, 4, 5, 0] rfl ?_
        exact ih _ _ _ h
set_option maxRecDepth 100000 in
set_option maxHeartbeats 4000000 in
theorem t7_rather {l : Launch} {i1 : Int32} {i2 : Int32} {i3 : Int32} {σ : St} {k : Int32 → St → Prop}  (h : x7_rather i1 i2 i3 σ k) : CI l yX7_rather cX7_rather 11 3 (some .int) (fun ad => [.ref (ad 65), .int i1, .int i2, .int i3]) σ k := by
  refine CI.of (lv := fun ad => [(0, .ref (ad 65)), (1, .int i1), (2, .int i2), (3, .int i3)]) (by decide) (fun _ => Nat.le_of_ble_eq_true rfl) (fun _ => rfl) (fun κ hc => ?_)
  show Wd κ 11 (QI κ k) 0 [(0, aK κ 65), (1, .int i1), (2, .int i2), (3, .int i3)] [] σ
  unfold x7_rather at h
  refine r_iload_n 1 hc dX7_rather_0 rfl ?_
  refine r_csI [.int i1] hc dX7_rather_1 cX7_59 (t7_isRow h) rfl rfl rfl (Nat.le_of_ble_eq_true rfl) (by decide) (by decide) (fun r1 σ2 h => ?_)
  refine r_if_eq 16 hc dX7_rather_4 (by decide) h (fun h => ?_) (fun h => ?_)
  · exact u7_rather_16 hc h
  · refine r_iload_n 3 hc dX7_rather_7 rfl ?_
    refine r_iconst (v := 0) hc dX7_rather_8 (by decide) ?_
    refine r_iconst (v := 1) hc dX7_rather_9 (by decide) ?_
    refine r_csI [.int i3, .int 0, .int 1] hc dX7_rather_10 cX7_55 (t7_in h) rfl rfl rfl (Nat.le_of_ble_eq_true rfl) (by decide) (by decide) (fun r3 σ4 h => ?_)
    refine r_if_ne 19 hc dX7_rather_13 (by decide) h (fun h => ?_) (fun h => ?_)
    · exact u7_rather_16 hc h
    · refine r_aload_n 0 hc dX7_rather_19 rfl ?_
      refine r_get (K := 7) (f := 0) hc dX7_rather_20 fX7_7 inX7 rfl rfl (by decide) (by decide) rfl rfl ?_
      refine r_iload_n 1 hc dX7_rather_23 rfl ?_
      refine r_iald hc dX7_rather_24 rfl h (fun h => ?_)
      refine r_if_ge 34 hc dX7_rather_25 (by decide) h (fun h => ?_) (fun h => ?_)
      · refine r_iload_n 2 hc dX7_rather_34 rfl ?_
        refine r_bipush (v := 8) hc dX7_rather_35 (by decide) ?_
        refine r_aload_n 0 hc dX7_rather_37 rfl ?_
        refine r_get (K := 7) (f := 1) hc dX7_rather_38 fX7_13 inX7 rfl rfl (by decide) (by decide) rfl rfl ?_
        refine r_iload_n 1 hc dX7_rather_41 rfl ?_
        refine r_iald hc dX7_rather_42 rfl h (fun h => ?_)
        refine r_csI [.int i2, .int 8, .int (σ4 67 i1.toNatClampNeg)] hc dX7_rather_43 cX7_71 (t7_isPart h) rfl rfl rfl (Nat.le_of_ble_eq_true rfl) (by decide) (by decide) (fun r5 σ6 h => ?_)
        refine r_if_ne 55 hc dX7_rather_46 (by decide) h (fun h => ?_) (fun h => ?_)
        · refine r_aload_n 0 hc dX7_rather_49 rfl ?_
          refine r_iconst (v := 2) hc dX7_rather_50 (by decide) ?_
          refine r_cvI [.int 2] hc dX7_rather_51 cX7_64 (t7_finds h) rfl (by decide) rfl rfl rfl rfl (Nat.le_of_ble_eq_true rfl) (by decide) (by decide) (fun r7 σ8 h => ?_)
          exact r_iret hc dX7_rather_54 h
        · refine r_bipush (v := 40) hc dX7_rather_55 (by decide) ?_
          refine r_iload_n 1 hc dX7_rather_57 rfl ?_
          refine r_imul hc dX7_rather_58 ?_
          refine r_iload_n 2 hc dX7_rather_59 rfl ?_
          refine r_iadd hc dX7_rather_60 ?_
          refine r_nmI h (fun v9 h => ?_)
          refine r_istore (lv' := [(4, .int v9), (0, aK κ 65), (1, .int i1), (2, .int i2), (3, .int i3)]) hc dX7_rather_61 (by decide) rfl ?_
          refine r_iconst (v := 0) hc dX7_rather_63 (by decide) ?_
          refine r_istore (lv' := [(5, .int 0), (4, .int v9), (0, aK κ 65), (1, .int i1), (2, .int i2), (3, .int i3)]) hc dX7_rather_64 (by decide) rfl ?_
          refine r_sub [2, 3, 4, 5, 1, 0] rfl ?_
          obtain ⟨n0, h⟩ := h
          exact u7_rather_66 hc n0 _ _ _ h
      · refine r_aload_n 0 hc dX7_rather_28 rfl ?_
        refine r_iconst (v := 1) hc dX7_rather_29 (by decide) ?_
        refine r_cvI [.int 1] hc dX7_rather_30 cX7_64 (t7_finds h) rfl (by decide) rfl rfl rfl rfl (Nat.le_of_ble_eq_true rfl) (by decide) (by decide) (fun r16 σ17 h => ?_)
        exact r_iret hc dX7_rather_33 h
set_option maxRecDepth 100000 in
set_option maxHeartbeats 4000000 in
theorem u7_reaches_17 {κ : KT} {k : Int32 → St → Prop} {i1 : Int32} {i2 : Int32}   {σ : St}  (hc : Cx κ cX7_reaches 5 RX7 5 (some .int))    (h : x7_reaches_17 i1 i2 σ k) : Wd κ 5 (QI κ k) 17 [(0, aK κ 65), (1, .int i1), (2, .int i2)] [] σ := by
  unfold x7_reaches_17 at h
  refine r_ldc hc dX7_reaches_17 kX7_63 ?_
  exact r_iret hc dX7_reaches_19 h
set_option maxRecDepth 100000 in
set_option maxHeartbeats 4000000 in
theorem u7_reaches_123 {κ : KT} {k : Int32 → St → Prop} {i1 : Int32} {i2 : Int32}  {s0 : Int32} {σ : St}  (hc : Cx κ cX7_reaches 5 RX7 5 (some .int))    (h : x7_reaches_123 i1 i2 s0 σ k) : Wd κ 5 (QI κ k) 123 [(0, aK κ 65), (1, .int i1), (2, .int i2)] [.int s0] σ := by
  unfold x7_reaches_123 at h
  exact r_iret hc dX7_reaches_123 h
set_option maxRecDepth 100000 in
set_option maxHeartbeats 4000000 in
theorem u7_reaches_92 {κ : KT} {k : Int32 → St → Prop} {i1 : Int32} {i2 : Int32} {R58 : Int32 → Int32 → St → Prop} {i4 : Int32} {s1 : Int32} {s0 : Int32} {σ : St}  (hc : Cx κ cX7_reaches 5 RX7 5 (some .int))  (hR58 : ∀ (i3 : Int32) (i4 : Int32) (σ : St), R58 i3 i4 σ → Wd κ 5 (QI κ k) 58 [(0, aK κ 65), (1, .int i1), (2, .int i2), (3, .int i3), (4, .int i4)] [] σ)  (h : x7_reaches_92 i1 i2 R58 i4 s1 s0 σ k) : Wd κ 5 (QI κ k) 92 [(0, aK κ 65), (1, .int i1), (2, .int i2), (4, .int i4)] [.int s1, .int s0] σ := by
  unfold x7_reaches_92 at h
  refine r_ior hc dX7_reaches_92 ?_
  refine r_nmI h (fun v15 h => ?_)
  refine r_istore_n (lv' := [(3, .int v15), (0, aK κ 65), (1, .int i1), (2, .int i2), (4, .int i4)]) hc dX7_reaches_93 (by decide) rfl ?_
  refine r_iinc (v := 1) (lv' := [(4, .int (i4 + 1)), (3, .int v15), (0, aK κ 65), (1, .int i1), (2, .int i2)]) 4 hc dX7_reaches_94 rfl (by decide) (by decide) rfl ?_
  refine r_goto 58 hc dX7_reaches_97 (by decide) ?_
  refine r_sub [2, 3, 4, 1, 0] rfl ?_
  exact hR58 _ _ _ h
set_option maxRecDepth 100000 in
set_option maxHeartbeats 4000000 in
theorem u7_reaches_58 {κ : KT} {k : Int32 → St → Prop} {i1 : Int32} {i2 : Int32}   (hc : Cx κ cX7_reaches 5 RX7 5 (some .int))   : ∀ (n : Nat) (i3 : Int32) (i4 : Int32) (σ : St), x7_reaches_58 i1 i2 k n i3 i4 σ → Wd κ 5 (QI κ k) 58 [(0, aK κ 65), (1, .int i1), (2, .int i2), (3, .int i3), (4, .int i4)] [] σ := by
  intro n
  induction n with
  | zero => intro i3 i4 σ h; exact h.elim
  | succ n ih =>
    intro i3 i4 σ h
    unfold x7_reaches_58 at h
    refine r_iload 4 hc dX7_reaches_58 rfl ?_
    refine r_aload_n 0 hc dX7_reaches_60 rfl ?_
    refine r_get (K := 7) (f := 12) hc dX7_reaches_61 fX7_22 inX7 rfl rfl (by decide) (by decide) rfl rfl ?_
    refine r_iconst (v := 2) hc dX7_reaches_64 (by decide) ?_
    refine r_iald hc dX7_reaches_65 rfl h (fun h => ?_)
    refine r_icmp_ge 100 hc dX7_reaches_66 (by decide) h (fun h => ?_) (fun h => ?_)
    · refine r_iload_n 2 hc dX7_reaches_100 rfl ?_
      refine r_if_ne 108 hc dX7_reaches_101 (by decide) h (fun h => ?_) (fun h => ?_)
      · refine r_iload_n 3 hc dX7_reaches_104 rfl ?_
        refine r_goto 123 hc dX7_reaches_105 (by decide) ?_
        refine r_sub [0, 1, 2] rfl ?_
        exact u7_reaches_123 hc h
      · refine r_aload_n 0 hc dX7_reaches_108 rfl ?_
        refine r_get (K := 7) (f := 12) hc dX7_reaches_109 fX7_22 inX7 rfl rfl (by decide) (by decide) rfl rfl ?_
        refine r_csI [aK κ 70] hc dX7_reaches_112 cX7_155 (t7_meetersOf rfl h) rfl rfl rfl (Nat.le_of_ble_eq_true rfl) (by decide) (by decide) (fun r9 σ10 h => ?_)
        refine r_aload_n 0 hc dX7_reaches_115 rfl ?_
        refine r_get (K := 7) (f := 14) hc dX7_reaches_116 fX7_28 inX7 rfl rfl (by decide) (by decide) rfl rfl ?_
        refine r_csI [aK κ 72] hc dX7_reaches_119 cX7_155 (t7_meetersOf rfl h) rfl rfl rfl (Nat.le_of_ble_eq_true rfl) (by decide) (by decide) (fun r11 σ12 h => ?_)
        refine r_ixor hc dX7_reaches_122 ?_
        refine r_sub [0, 1, 2] rfl ?_
        exact u7_reaches_123 hc h
    · refine r_iload_n 3 hc dX7_reaches_69 rfl ?_
      refine r_iload 4 hc dX7_reaches_70 rfl ?_
      refine r_iload_n 1 hc dX7_reaches_72 rfl ?_
      refine r_iconst (v := 1) hc dX7_reaches_73 (by decide) ?_
      refine r_isub hc dX7_reaches_74 ?_
      refine r_iload_n 1 hc dX7_reaches_75 rfl ?_
      refine r_iconst (v := 1) hc dX7_reaches_76 (by decide) ?_
      refine r_iadd hc dX7_reaches_77 ?_
      refine r_csI [.int i4, .int (i1 - 1), .int (i1 + 1)] hc dX7_reaches_78 cX7_55 (t7_in h) rfl rfl rfl (Nat.le_of_ble_eq_true rfl) (by decide) (by decide) (fun r13 σ14 h => ?_)
      refine r_if_eq 91 hc dX7_reaches_81 (by decide) h (fun h => ?_) (fun h => ?_)
      · refine r_iconst (v := 0) hc dX7_reaches_91 (by decide) ?_
        refine r_sub [0, 1, 2, 4] rfl ?_
        exact u7_reaches_92 hc ih h
      · refine r_iconst (v := 1) hc dX7_reaches_84 (by decide) ?_
        refine r_iload 4 hc dX7_reaches_85 rfl ?_
        refine r_ishl hc dX7_reaches_87 ?_
        refine r_goto 92 hc dX7_reaches_88 (by decide) ?_
        refine r_sub [0, 1, 2, 4] rfl ?_
        exact u7_reaches_92 hc ih h
set_option maxRecDepth 100000 in
set_option maxHeartbeats 4000000 in
theorem t7_reaches {l : Launch} {i1 : Int32} {i2 : Int32} {σ : St} {k : Int32 → St → Prop}  (h : x7_reaches i1 i2 σ k) : CI l yX7_reaches cX7_reaches 5 5 (some .int) (fun ad => [.ref (ad 65), .int i1, .int i2]) σ k := by
  refine CI.of (lv := fun ad => [(0, .ref (ad 65)), (1, .int i1), (2, .int i2)]) (by decide) (fun _ => Nat.le_of_ble_eq_true rfl) (fun _ => rfl) (fun κ hc => ?_)
  show Wd κ 5 (QI κ k) 0 [(0, aK κ 65), (1, .int i1), (2, .int i2)] [] σ
  unfold x7_reaches at h
  refine r_aload_n 0 hc dX7_reaches_0 rfl ?_
  refine r_iload_n 1 hc dX7_reaches_1 rfl ?_
  refine r_cvI [.int i1] hc dX7_reaches_2 cX7_163 (t7_isDoorAt h) rfl (by decide) rfl rfl rfl rfl (Nat.le_of_ble_eq_true rfl) (by decide) (by decide) (fun r1 σ2 h => ?_)
  refine r_if_eq 17 hc dX7_reaches_5 (by decide) h (fun h => ?_) (fun h => ?_)
  · exact u7_reaches_17 hc h
  · refine r_iload_n 2 hc dX7_reaches_8 rfl ?_
    refine r_iconst (v := 0) hc dX7_reaches_9 (by decide) ?_
    refine r_iconst (v := 1) hc dX7_reaches_10 (by decide) ?_
    refine r_csI [.int i2, .int 0, .int 1] hc dX7_reaches_11 cX7_55 (t7_in h) rfl rfl rfl (Nat.le_of_ble_eq_true rfl) (by decide) (by decide) (fun r3 σ4 h => ?_)
    refine r_if_ne 20 hc dX7_reaches_14 (by decide) h (fun h => ?_) (fun h => ?_)
    · exact u7_reaches_17 hc h
    · refine r_aload_n 0 hc dX7_reaches_20 rfl ?_
      refine r_get (K := 7) (f := 12) hc dX7_reaches_21 fX7_22 inX7 rfl rfl (by decide) (by decide) rfl rfl ?_
      refine r_iconst (v := 0) hc dX7_reaches_24 (by decide) ?_
      refine r_aload_n 0 hc dX7_reaches_25 rfl ?_
      refine r_get (K := 7) (f := 14) hc dX7_reaches_26 fX7_28 inX7 rfl rfl (by decide) (by decide) rfl rfl ?_
      refine r_iconst (v := 0) hc dX7_reaches_29 (by decide) ?_
      refine r_csV [aK κ 70, .int 0, aK κ 72, .int 0] hc dX7_reaches_30 cX7_126 (t7_lay rfl rfl h) rfl rfl rfl (Nat.le_of_ble_eq_true rfl) (by decide) (by decide) (fun σ6 h => ?_)
      refine r_aload_n 0 hc dX7_reaches_33 rfl ?_
      refine r_get (K := 7) (f := 14) hc dX7_reaches_34 fX7_28 inX7 rfl rfl (by decide) (by decide) rfl rfl ?_
      refine r_bipush (v := 17) hc dX7_reaches_37 (by decide) ?_
      refine r_iload_n 1 hc dX7_reaches_39 rfl ?_
      refine r_iadd hc dX7_reaches_40 ?_
      refine r_iconst (v := 0) hc dX7_reaches_41 (by decide) ?_
      refine r_iast hc dX7_reaches_42 rfl h (fun h => ?_)
      refine r_nmS h (fun σ7 h => ?_)
      refine r_aload_n 0 hc dX7_reaches_43 rfl ?_
      refine r_get (K := 7) (f := 14) hc dX7_reaches_44 fX7_28 inX7 rfl rfl (by decide) (by decide) rfl rfl ?_
      refine r_bipush (v := 23) hc dX7_reaches_47 (by decide) ?_
      refine r_iload_n 1 hc dX7_reaches_49 rfl ?_
      refine r_iadd hc dX7_reaches_50 ?_
      refine r_iconst (v := 0) hc dX7_reaches_51 (by decide) ?_
      refine r_iast hc dX7_reaches_52 rfl h (fun h => ?_)
      refine r_nmS h (fun σ8 h => ?_)
      refine r_iconst (v := 0) hc dX7_reaches_53 (by decide) ?_
      refine r_istore_n (lv' := [(3, .int 0), (0, aK κ 65), (1, .int i1), (2, .int i2)]) hc dX7_reaches_54 (by decide) rfl ?_
      refine r_iconst (v := 0) hc dX7_reaches_55 (by decide) ?_
      refine r_istore (lv' := [(4, .int 0), (3, .int 0), (0, aK κ 65), (1, .int i1), (2, .int i2)]) hc dX7_reaches_56 (by decide) rfl ?_
      refine r_sub [2, 3, 4, 1, 0] rfl ?_
      obtain ⟨n0, h⟩ := h
      exact u7_reaches_58 hc n0 _ _ _ h
set_option maxRecDepth 100000 in
set_option maxHeartbeats 4000000 in
theorem t7_restore {l : Launch} {i1 : Int32} {σ : St} {k : Int32 → St → Prop}  (h : x7_restore i1 σ k) : CI l yX7_restore cX7_restore 2 2 (some .int) (fun ad => [.ref (ad 65), .int i1]) σ k := by
  refine CI.of (lv := fun ad => [(0, .ref (ad 65)), (1, .int i1)]) (by decide) (fun _ => Nat.le_of_ble_eq_true rfl) (fun _ => rfl) (fun κ hc => ?_)
  show Wd κ 2 (QI κ k) 0 [(0, aK κ 65), (1, .int i1)] [] σ
  unfold x7_restore at h
  refine r_iload_n 1 hc dX7_restore_0 rfl ?_
  refine r_iconst (v := 0) hc dX7_restore_1 (by decide) ?_
  refine r_iconst (v := 1) hc dX7_restore_2 (by decide) ?_
  refine r_csI [.int i1, .int 0, .int 1] hc dX7_restore_3 cX7_55 (t7_in h) rfl rfl rfl (Nat.le_of_ble_eq_true rfl) (by decide) (by decide) (fun r1 σ2 h => ?_)
  refine r_if_ne 12 hc dX7_restore_6 (by decide) h (fun h => ?_) (fun h => ?_)
  · refine r_ldc hc dX7_restore_9 kX7_63 ?_
    exact r_iret hc dX7_restore_11 h
  · refine r_aload_n 0 hc dX7_restore_12 rfl ?_
    refine r_get (K := 7) (f := 16) hc dX7_restore_13 fX7_34 inX7 rfl rfl (by decide) (by decide) rfl rfl ?_
    refine r_iload_n 1 hc dX7_restore_16 rfl ?_
    refine r_zald hc dX7_restore_17 rfl h (fun h => ?_)
    refine r_if_ne 24 hc dX7_restore_18 (by decide) h (fun h => ?_) (fun h => ?_)
    · refine r_ldc hc dX7_restore_21 kX7_162 ?_
      exact r_iret hc dX7_restore_23 h
    · refine r_aload_n 0 hc dX7_restore_24 rfl ?_
      refine r_get (K := 7) (f := 15) hc dX7_restore_25 fX7_31 inX7 rfl rfl (by decide) (by decide) rfl rfl ?_
      refine r_bipush (v := 53) hc dX7_restore_28 (by decide) ?_
      refine r_iload_n 1 hc dX7_restore_30 rfl ?_
      refine r_imul hc dX7_restore_31 ?_
      refine r_aload_n 0 hc dX7_restore_32 rfl ?_
      refine r_get (K := 7) (f := 12) hc dX7_restore_33 fX7_22 inX7 rfl rfl (by decide) (by decide) rfl rfl ?_
      refine r_iconst (v := 0) hc dX7_restore_36 (by decide) ?_
      refine r_csV [aK κ 73, .int (53 * i1), aK κ 70, .int 0] hc dX7_restore_37 cX7_126 (t7_lay rfl rfl h) rfl rfl rfl (Nat.le_of_ble_eq_true rfl) (by decide) (by decide) (fun σ4 h => ?_)
      refine r_aload_n 0 hc dX7_restore_40 rfl ?_
      refine r_iconst (v := 0) hc dX7_restore_41 (by decide) ?_
      refine r_put (K := 7) (f := 18) hc dX7_restore_42 fX7_130 inX7 tyX7_ok nmX7 rfl rfl rfl rfl (by decide) (by decide) rfl rfl ?_
      refine r_nmS h (fun σ5 h => ?_)
      refine r_iconst (v := 1) hc dX7_restore_45 (by decide) ?_
      exact r_iret hc dX7_restore_46 h
set_option maxRecDepth 100000 in
set_option maxHeartbeats 4000000 in
theorem u7_row_22 {κ : KT} {k : Int32 → St → Prop} {i1 : Int32} {i2 : Int32} {i3 : Int32}   {σ : St}  (hc : Cx κ cX7_row 5 RX7 3 (some .int))    (h : x7_row_22 i1 i2 i3 σ k) : Wd κ 5 (QI κ k) 22 [(0, aK κ 65), (1, .int i1), (2, .int i2), (3, .int i3)] [] σ := by
  unfold x7_row_22 at h
  refine r_ldc hc dX7_row_22 kX7_63 ?_
  exact r_iret hc dX7_row_24 h
set_option maxRecDepth 100000 in
set_option maxHeartbeats 4000000 in
theorem u7_row_52 {κ : KT} {k : Int32 → St → Prop} {i1 : Int32} {i2 : Int32} {i3 : Int32}   (hc : Cx κ cX7_row 5 RX7 3 (some .int))   : ∀ (n : Nat) (i4 : Int32) (σ : St), x7_row_52 i1 i2 i3 k n i4 σ → Wd κ 5 (QI κ k) 52 [(0, aK κ 65), (1, .int i1), (2, .int i2), (3, .int i3), (4, .int i4)] [] σ := by
  intro n
  induction n with
  | zero => intro i4 σ h; exact h.elim
  | succ n ih =>
    intro i4 σ h
    unfold x7_row_52 at h
    refine r_iload 4 hc dX7_row_52 rfl ?_
    refine r_bipush (v := 40) hc dX7_row_54 (by decide) ?_
    refine r_icmp_ge 78 hc dX7_row_56 (by decide) h (fun h => ?_) (fun h => ?_)
    · refine r_aload_n 0 hc dX7_row_78 rfl ?_
      refine r_iload_n 3 hc dX7_row_79 rfl ?_
      refine r_cvI [.int i3] hc dX7_row_80 cX7_68 (t7_done h) rfl (by decide) rfl rfl rfl rfl (Nat.le_of_ble_eq_true rfl) (by decide) (by decide) (fun r7 σ8 h => ?_)
      exact r_iret hc dX7_row_83 h
    · refine r_aload_n 0 hc dX7_row_59 rfl ?_
      refine r_get (K := 7) (f := 2) hc dX7_row_60 fX7_16 inX7 rfl rfl (by decide) (by decide) rfl rfl ?_
      refine r_bipush (v := 40) hc dX7_row_63 (by decide) ?_
      refine r_iload_n 1 hc dX7_row_65 rfl ?_
      refine r_imul hc dX7_row_66 ?_
      refine r_iload 4 hc dX7_row_67 rfl ?_
      refine r_iadd hc dX7_row_69 ?_
      refine r_iconst (v := 0) hc dX7_row_70 (by decide) ?_
      refine r_iast hc dX7_row_71 rfl h (fun h => ?_)
      refine r_nmS h (fun σ9 h => ?_)
      refine r_iinc (v := 1) (lv' := [(4, .int (i4 + 1)), (0, aK κ 65), (1, .int i1), (2, .int i2), (3, .int i3)]) 4 hc dX7_row_72 rfl (by decide) (by decide) rfl ?_
      refine r_goto 52 hc dX7_row_75 (by decide) ?_
      refine r_sub [1, 2, 3, 4, 0] rfl ?_
      exact ih _ _ h
set_option maxRecDepth 100000 in
set_option maxHeartbeats 4000000 in
theorem t7_row {l : Launch} {i1 : Int32} {i2 : Int32} {i3 : Int32} {σ : St} {k : Int32 → St → Prop}  (h : x7_row i1 i2 i3 σ k) : CI l yX7_row cX7_row 5 3 (some .int) (fun ad => [.ref (ad 65), .int i1, .int i2, .int i3]) σ k := by
  refine CI.of (lv := fun ad => [(0, .ref (ad 65)), (1, .int i1), (2, .int i2), (3, .int i3)]) (by decide) (fun _ => Nat.le_of_ble_eq_true rfl) (fun _ => rfl) (fun κ hc => ?_)
  show Wd κ 5 (QI κ k) 0 [(0, aK κ 65), (1, .int i1), (2, .int i2), (3, .int i3)] [] σ
  unfold x7_row at h
  refine r_iload_n 1 hc dX7_row_0 rfl ?_
  refine r_csI [.int i1] hc dX7_row_1 cX7_59 (t7_isRow h) rfl rfl rfl (Nat.le_of_ble_eq_true rfl) (by decide) (by decide) (fun r1 σ2 h => ?_)
  refine r_if_eq 22 hc dX7_row_4 (by decide) h (fun h => ?_) (fun h => ?_)
  · exact u7_row_22 hc h
  · refine r_iload_n 2 hc dX7_row_7 rfl ?_
    refine r_iconst (v := 0) hc dX7_row_8 (by decide) ?_
    refine r_iconst (v := 2) hc dX7_row_9 (by decide) ?_
    refine r_csI [.int i2, .int 0, .int 2] hc dX7_row_10 cX7_55 (t7_in h) rfl rfl rfl (Nat.le_of_ble_eq_true rfl) (by decide) (by decide) (fun r3 σ4 h => ?_)
    refine r_if_eq 22 hc dX7_row_13 (by decide) h (fun h => ?_) (fun h => ?_)
    · exact u7_row_22 hc h
    · refine r_iload_n 3 hc dX7_row_16 rfl ?_
      refine r_bipush (v := 40) hc dX7_row_17 (by decide) ?_
      refine r_icmp_le 25 hc dX7_row_19 (by decide) h (fun h => ?_) (fun h => ?_)
      · refine r_iload_n 3 hc dX7_row_25 rfl ?_
        refine r_if_ge 35 hc dX7_row_26 (by decide) h (fun h => ?_) (fun h => ?_)
        · refine r_aload_n 0 hc dX7_row_35 rfl ?_
          refine r_get (K := 7) (f := 0) hc dX7_row_36 fX7_7 inX7 rfl rfl (by decide) (by decide) rfl rfl ?_
          refine r_iload_n 1 hc dX7_row_39 rfl ?_
          refine r_iload_n 2 hc dX7_row_40 rfl ?_
          refine r_iast hc dX7_row_41 rfl h (fun h => ?_)
          refine r_nmS h (fun σ5 h => ?_)
          refine r_aload_n 0 hc dX7_row_42 rfl ?_
          refine r_get (K := 7) (f := 1) hc dX7_row_43 fX7_13 inX7 rfl rfl (by decide) (by decide) rfl rfl ?_
          refine r_iload_n 1 hc dX7_row_46 rfl ?_
          refine r_iload_n 3 hc dX7_row_47 rfl ?_
          refine r_iast hc dX7_row_48 rfl h (fun h => ?_)
          refine r_nmS h (fun σ6 h => ?_)
          refine r_iconst (v := 0) hc dX7_row_49 (by decide) ?_
          refine r_istore (lv' := [(4, .int 0), (0, aK κ 65), (1, .int i1), (2, .int i2), (3, .int i3)]) hc dX7_row_50 (by decide) rfl ?_
          refine r_sub [1, 2, 3, 4, 0] rfl ?_
          obtain ⟨n0, h⟩ := h
          exact u7_row_52 hc n0 _ _ h
        · refine r_aload_n 0 hc dX7_row_29 rfl ?_
          refine r_iconst (v := 4) hc dX7_row_30 (by decide) ?_
          refine r_cvI [.int 4] hc dX7_row_31 cX7_64 (t7_finds h) rfl (by decide) rfl rfl rfl rfl (Nat.le_of_ble_eq_true rfl) (by decide) (by decide) (fun r10 σ11 h => ?_)
          exact r_iret hc dX7_row_34 h
      · exact u7_row_22 hc h
set_option maxRecDepth 100000 in
set_option maxHeartbeats 4000000 in
theorem u7_secondsUsed_4 {κ : KT} {k : Int32 → St → Prop}    (hc : Cx κ cX7_secondsUsed 3 RX7 1 (some .int))   : ∀ (n : Nat) (i1 : Int32) (i2 : Int32) (σ : St), x7_secondsUsed_4 k n i1 i2 σ → Wd κ 3 (QI κ k) 4 [(0, aK κ 65), (1, .int i1), (2, .int i2)] [] σ := by
  intro n
  induction n with
  | zero => intro i1 i2 σ h; exact h.elim
  | succ n ih =>
    intro i1 i2 σ h
    unfold x7_secondsUsed_4 at h
    refine r_iload_n 2 hc dX7_secondsUsed_4 rfl ?_
    refine r_bipush (v := 6) hc dX7_secondsUsed_5 (by decide) ?_
    refine r_icmp_ge 28 hc dX7_secondsUsed_7 (by decide) h (fun h => ?_) (fun h => ?_)
    · refine r_iload_n 1 hc dX7_secondsUsed_28 rfl ?_
      exact r_iret hc dX7_secondsUsed_29 h
    · refine r_iload_n 1 hc dX7_secondsUsed_10 rfl ?_
      refine r_aload_n 0 hc dX7_secondsUsed_11 rfl ?_
      refine r_get (K := 7) (f := 12) hc dX7_secondsUsed_12 fX7_22 inX7 rfl rfl (by decide) (by decide) rfl rfl ?_
      refine r_bipush (v := 11) hc dX7_secondsUsed_15 (by decide) ?_
      refine r_iload_n 2 hc dX7_secondsUsed_17 rfl ?_
      refine r_iadd hc dX7_secondsUsed_18 ?_
      refine r_iald hc dX7_secondsUsed_19 rfl h (fun h => ?_)
      refine r_iadd hc dX7_secondsUsed_20 ?_
      refine r_nmI h (fun v1 h => ?_)
      refine r_istore_n (lv' := [(1, .int v1), (0, aK κ 65), (2, .int i2)]) hc dX7_secondsUsed_21 (by decide) rfl ?_
      refine r_iinc (v := 1) (lv' := [(2, .int (i2 + 1)), (1, .int v1), (0, aK κ 65)]) 2 hc dX7_secondsUsed_22 rfl (by decide) (by decide) rfl ?_
      refine r_goto 4 hc dX7_secondsUsed_25 (by decide) ?_
      refine r_sub [2, 1, 0] rfl ?_
      exact ih _ _ _ h
set_option maxRecDepth 100000 in
set_option maxHeartbeats 4000000 in
theorem t7_secondsUsed {l : Launch}  {σ : St} {k : Int32 → St → Prop}  (h : x7_secondsUsed  σ k) : CI l yX7_secondsUsed cX7_secondsUsed 3 1 (some .int) (fun ad => [.ref (ad 65)]) σ k := by
  refine CI.of (lv := fun ad => [(0, .ref (ad 65))]) (by decide) (fun _ => Nat.le_of_ble_eq_true rfl) (fun _ => rfl) (fun κ hc => ?_)
  show Wd κ 3 (QI κ k) 0 [(0, aK κ 65)] [] σ
  unfold x7_secondsUsed at h
  refine r_iconst (v := 0) hc dX7_secondsUsed_0 (by decide) ?_
  refine r_istore_n (lv' := [(1, .int 0), (0, aK κ 65)]) hc dX7_secondsUsed_1 (by decide) rfl ?_
  refine r_iconst (v := 0) hc dX7_secondsUsed_2 (by decide) ?_
  refine r_istore_n (lv' := [(2, .int 0), (1, .int 0), (0, aK κ 65)]) hc dX7_secondsUsed_3 (by decide) rfl ?_
  refine r_sub [2, 1, 0] rfl ?_
  obtain ⟨n0, h⟩ := h
  exact u7_secondsUsed_4 hc n0 _ _ _ h
set_option maxRecDepth 100000 in
set_option maxHeartbeats 4000000 in
theorem u7_set_87 {κ : KT} {k : Int32 → St → Prop} {i1 : Int32} {i2 : Int32} {i3 : Int32}  {s2 : Int32} {s1 : Int32} {so0 : Nat} {σ : St}  (hc : Cx κ cX7_set 4 RX7 3 (some .int))   (hso0 : kd so0 = 8) (h : x7_set_87 i1 i2 i3 s2 s1 so0 σ k) : Wd κ 4 (QI κ k) 87 [(0, aK κ 65), (1, .int i1), (2, .int i2), (3, .int i3)] [.int s2, .int s1, aK κ so0] σ := by
  unfold x7_set_87 at h
  refine r_iast hc dX7_set_87 hso0 h (fun h => ?_)
  refine r_nmS h (fun σ7 h => ?_)
  refine r_aload_n 0 hc dX7_set_88 rfl ?_
  refine r_aload_n 0 hc dX7_set_89 rfl ?_
  refine r_get (K := 7) (f := 2) hc dX7_set_90 fX7_16 inX7 rfl rfl (by decide) (by decide) rfl rfl ?_
  refine r_bipush (v := 40) hc dX7_set_93 (by decide) ?_
  refine r_iload_n 1 hc dX7_set_95 rfl ?_
  refine r_imul hc dX7_set_96 ?_
  refine r_iload_n 2 hc dX7_set_97 rfl ?_
  refine r_iadd hc dX7_set_98 ?_
  refine r_iald hc dX7_set_99 rfl h (fun h => ?_)
  refine r_cvI [.int (σ7 68 ((40 * i1) + i2).toNatClampNeg)] hc dX7_set_100 cX7_68 (t7_done h) rfl (by decide) rfl rfl rfl rfl (Nat.le_of_ble_eq_true rfl) (by decide) (by decide) (fun r8 σ9 h => ?_)
  exact r_iret hc dX7_set_103 h
set_option maxRecDepth 100000 in
set_option maxHeartbeats 4000000 in
theorem t7_set {l : Launch} {i1 : Int32} {i2 : Int32} {i3 : Int32} {σ : St} {k : Int32 → St → Prop}  (h : x7_set i1 i2 i3 σ k) : CI l yX7_set cX7_set 4 3 (some .int) (fun ad => [.ref (ad 65), .int i1, .int i2, .int i3]) σ k := by
  refine CI.of (lv := fun ad => [(0, .ref (ad 65)), (1, .int i1), (2, .int i2), (3, .int i3)]) (by decide) (fun _ => Nat.le_of_ble_eq_true rfl) (fun _ => rfl) (fun κ hc => ?_)
  show Wd κ 4 (QI κ k) 0 [(0, aK κ 65), (1, .int i1), (2, .int i2), (3, .int i3)] [] σ
  unfold x7_set at h
  refine r_iload_n 1 hc dX7_set_0 rfl ?_
  refine r_csI [.int i1] hc dX7_set_1 cX7_59 (t7_isRow h) rfl rfl rfl (Nat.le_of_ble_eq_true rfl) (by decide) (by decide) (fun r1 σ2 h => ?_)
  refine r_if_ne 10 hc dX7_set_4 (by decide) h (fun h => ?_) (fun h => ?_)
  · refine r_ldc hc dX7_set_7 kX7_63 ?_
    exact r_iret hc dX7_set_9 h
  · refine r_aload_n 0 hc dX7_set_10 rfl ?_
    refine r_get (K := 7) (f := 0) hc dX7_set_11 fX7_7 inX7 rfl rfl (by decide) (by decide) rfl rfl ?_
    refine r_iload_n 1 hc dX7_set_14 rfl ?_
    refine r_iald hc dX7_set_15 rfl h (fun h => ?_)
    refine r_if_ge 25 hc dX7_set_16 (by decide) h (fun h => ?_) (fun h => ?_)
    · refine r_iload_n 2 hc dX7_set_25 rfl ?_
      refine r_iconst (v := 0) hc dX7_set_26 (by decide) ?_
      refine r_aload_n 0 hc dX7_set_27 rfl ?_
      refine r_get (K := 7) (f := 1) hc dX7_set_28 fX7_13 inX7 rfl rfl (by decide) (by decide) rfl rfl ?_
      refine r_iload_n 1 hc dX7_set_31 rfl ?_
      refine r_iald hc dX7_set_32 rfl h (fun h => ?_)
      refine r_iconst (v := 1) hc dX7_set_33 (by decide) ?_
      refine r_isub hc dX7_set_34 ?_
      refine r_csI [.int i2, .int 0, .int ((σ2 67 i1.toNatClampNeg) - 1)] hc dX7_set_35 cX7_55 (t7_in h) rfl rfl rfl (Nat.le_of_ble_eq_true rfl) (by decide) (by decide) (fun r3 σ4 h => ?_)
      refine r_if_ne 47 hc dX7_set_38 (by decide) h (fun h => ?_) (fun h => ?_)
      · refine r_aload_n 0 hc dX7_set_41 rfl ?_
        refine r_iconst (v := 2) hc dX7_set_42 (by decide) ?_
        refine r_cvI [.int 2] hc dX7_set_43 cX7_64 (t7_finds h) rfl (by decide) rfl rfl rfl rfl (Nat.le_of_ble_eq_true rfl) (by decide) (by decide) (fun r5 σ6 h => ?_)
        exact r_iret hc dX7_set_46 h
      · refine r_aload_n 0 hc dX7_set_47 rfl ?_
        refine r_get (K := 7) (f := 2) hc dX7_set_48 fX7_16 inX7 rfl rfl (by decide) (by decide) rfl rfl ?_
        refine r_bipush (v := 40) hc dX7_set_51 (by decide) ?_
        refine r_iload_n 1 hc dX7_set_53 rfl ?_
        refine r_imul hc dX7_set_54 ?_
        refine r_iload_n 2 hc dX7_set_55 rfl ?_
        refine r_iadd hc dX7_set_56 ?_
        refine r_aload_n 0 hc dX7_set_57 rfl ?_
        refine r_get (K := 7) (f := 0) hc dX7_set_58 fX7_7 inX7 rfl rfl (by decide) (by decide) rfl rfl ?_
        refine r_iload_n 1 hc dX7_set_61 rfl ?_
        refine r_iald hc dX7_set_62 rfl h (fun h => ?_)
        refine r_if_ne 71 hc dX7_set_63 (by decide) h (fun h => ?_) (fun h => ?_)
        · refine r_iload_n 3 hc dX7_set_66 rfl ?_
          refine r_i2b hc dX7_set_67 ?_
          refine r_goto 87 hc dX7_set_68 (by decide) ?_
          exact u7_set_87 hc (rfl) h
        · refine r_aload_n 0 hc dX7_set_71 rfl ?_
          refine r_get (K := 7) (f := 0) hc dX7_set_72 fX7_7 inX7 rfl rfl (by decide) (by decide) rfl rfl ?_
          refine r_iload_n 1 hc dX7_set_75 rfl ?_
          refine r_iald hc dX7_set_76 rfl h (fun h => ?_)
          refine r_iconst (v := 1) hc dX7_set_77 (by decide) ?_
          refine r_icmp_ne 86 hc dX7_set_78 (by decide) h (fun h => ?_) (fun h => ?_)
          · refine r_iload_n 3 hc dX7_set_81 rfl ?_
            refine r_i2s hc dX7_set_82 ?_
            refine r_goto 87 hc dX7_set_83 (by decide) ?_
            exact u7_set_87 hc (rfl) h
          · refine r_iload_n 3 hc dX7_set_86 rfl ?_
            exact u7_set_87 hc (rfl) h
    · refine r_aload_n 0 hc dX7_set_19 rfl ?_
      refine r_iconst (v := 1) hc dX7_set_20 (by decide) ?_
      refine r_cvI [.int 1] hc dX7_set_21 cX7_64 (t7_finds h) rfl (by decide) rfl rfl rfl rfl (Nat.le_of_ble_eq_true rfl) (by decide) (by decide) (fun r10 σ11 h => ?_)
      exact r_iret hc dX7_set_24 h
set_option maxRecDepth 100000 in
set_option maxHeartbeats 4000000 in
theorem u7_sleeps_27 {κ : KT} {k : Int64 → St → Prop} {i1 : Int32} {i2 : Int32} {i3 : Int32}   {σ : St}  (hc : Cx κ cX7_sleeps 14 RX7 4 (some .long))    (h : x7_sleeps_27 i1 i2 i3 σ k) : Wd κ 14 (QL κ k) 27 [(0, aK κ 65), (1, .int i1), (2, .int i2), (3, .int i3)] [] σ := by
  unfold x7_sleeps_27 at h
  refine r_ldc2 hc dX7_sleeps_27 kX7_208 ?_
  exact r_lret hc dX7_sleeps_30 h
set_option maxRecDepth 100000 in
set_option maxHeartbeats 4000000 in
theorem u7_sleeps_305 {κ : KT} {k : Int64 → St → Prop} {i1 : Int32} {i2 : Int32} {i3 : Int32}  {l8 : Int64} {sl0 : Int64} {σ : St}  (hc : Cx κ cX7_sleeps 14 RX7 4 (some .long))    (h : x7_sleeps_305 i1 i2 i3 l8 sl0 σ k) : Wd κ 14 (QL κ k) 305 [(0, aK κ 65), (1, .int i1), (2, .int i2), (3, .int i3), (8, .long l8)] [.long sl0] σ := by
  unfold x7_sleeps_305 at h
  refine r_lload 4 hc dX7_sleeps_305 rfl ?_
  refine r_ldiv hc dX7_sleeps_307 h (fun h => ?_)
  exact r_lret hc dX7_sleeps_308 h
set_option maxRecDepth 100000 in
set_option maxHeartbeats 4000000 in
theorem u7_sleeps_269 {κ : KT} {k : Int64 → St → Prop} {i1 : Int32} {i2 : Int32} {i3 : Int32}   (hc : Cx κ cX7_sleeps 14 RX7 4 (some .long))   : ∀ (n : Nat) (l4 : Int64) (l6 : Int64) (l8 : Int64) (l10 : Int64) (σ : St), x7_sleeps_269 i1 i2 i3 k n l4 l6 l8 l10 σ → Wd κ 14 (QL κ k) 269 [(0, aK κ 65), (1, .int i1), (2, .int i2), (3, .int i3), (4, .long l4), (6, .long l6), (8, .long l8), (10, .long l10)] [] σ := by
  intro n
  induction n with
  | zero => intro l4 l6 l8 l10 σ h; exact h.elim
  | succ n ih =>
    intro l4 l6 l8 l10 σ h
    unfold x7_sleeps_269 at h
    refine r_lload 7 hc dX7_sleeps_269 rfl ?_
    refine r_lconst (v := 0) hc dX7_sleeps_271 (by decide) ?_
    refine r_lcmp hc dX7_sleeps_272 ?_
    refine r_if_le 294 hc dX7_sleeps_273 (by decide) h (fun h => ?_) (fun h => ?_)
    · refine r_iload_n 3 hc dX7_sleeps_294 rfl ?_
      refine r_if_ne 303 hc dX7_sleeps_295 (by decide) h (fun h => ?_) (fun h => ?_)
      · refine r_lload 4 hc dX7_sleeps_298 rfl ?_
        refine r_goto 305 hc dX7_sleeps_300 (by decide) ?_
        refine r_sub [0, 1, 2, 3, 6] rfl ?_
        exact u7_sleeps_305 hc h
      · refine r_lload 5 hc dX7_sleeps_303 rfl ?_
        refine r_sub [0, 1, 2, 3, 6] rfl ?_
        exact u7_sleeps_305 hc h
    · refine r_lload 6 hc dX7_sleeps_276 rfl ?_
      refine r_lload 7 hc dX7_sleeps_278 rfl ?_
      refine r_lrem hc dX7_sleeps_280 h (fun h => ?_)
      refine r_nmL h (fun v7 h => ?_)
      refine r_lstore (lv' := [(12, .long v7), (0, aK κ 65), (1, .int i1), (2, .int i2), (3, .int i3), (4, .long l4), (6, .long l6), (8, .long l8), (10, .long l10)]) hc dX7_sleeps_281 (by decide) rfl ?_
      refine r_lload 8 hc dX7_sleeps_283 rfl ?_
      refine r_lstore (lv' := [(8, .long l10), (12, .long v7), (0, aK κ 65), (1, .int i1), (2, .int i2), (3, .int i3), (4, .long l4), (6, .long l6), (10, .long l10)]) hc dX7_sleeps_285 (by decide) rfl ?_
      refine r_lload 1 hc dX7_sleeps_287 rfl ?_
      refine r_lstore (lv' := [(10, .long v7), (8, .long l10), (12, .long v7), (0, aK κ 65), (1, .int i1), (2, .int i2), (3, .int i3), (4, .long l4), (6, .long l6)]) hc dX7_sleeps_289 (by decide) rfl ?_
      refine r_goto 269 hc dX7_sleeps_291 (by decide) ?_
      refine r_sub [3, 4, 5, 6, 7, 8, 1, 0] rfl ?_
      exact ih _ _ _ _ _ h
set_option maxRecDepth 100000 in
set_option maxHeartbeats 4000000 in
theorem u7_sleeps_236 {κ : KT} {k : Int64 → St → Prop} {i1 : Int32} {i2 : Int32} {i3 : Int32}   (hc : Cx κ cX7_sleeps 14 RX7 4 (some .long))   : ∀ (n : Nat) (l4 : Int64) (l6 : Int64) (i8 : Int32) (σ : St), x7_sleeps_236 i1 i2 i3 k n l4 l6 i8 σ → Wd κ 14 (QL κ k) 236 [(0, aK κ 65), (1, .int i1), (2, .int i2), (3, .int i3), (4, .long l4), (6, .long l6), (8, .int i8)] [] σ := by
  intro n
  induction n with
  | zero => intro l4 l6 i8 σ h; exact h.elim
  | succ n ih =>
    intro l4 l6 i8 σ h
    unfold x7_sleeps_236 at h
    refine r_iload 6 hc dX7_sleeps_236 rfl ?_
    refine r_aload_n 0 hc dX7_sleeps_238 rfl ?_
    refine r_get (K := 7) (f := 12) hc dX7_sleeps_239 fX7_22 inX7 rfl rfl (by decide) (by decide) rfl rfl ?_
    refine r_iconst (v := 2) hc dX7_sleeps_242 (by decide) ?_
    refine r_iald hc dX7_sleeps_243 rfl h (fun h => ?_)
    refine r_icmp_ge 261 hc dX7_sleeps_244 (by decide) h (fun h => ?_) (fun h => ?_)
    · refine r_lload 4 hc dX7_sleeps_261 rfl ?_
      refine r_lstore (lv' := [(8, .long l4), (0, aK κ 65), (1, .int i1), (2, .int i2), (3, .int i3), (4, .long l4), (6, .long l6)]) hc dX7_sleeps_263 (by decide) rfl ?_
      refine r_lload 6 hc dX7_sleeps_265 rfl ?_
      refine r_lstore (lv' := [(10, .long l6), (8, .long l4), (0, aK κ 65), (1, .int i1), (2, .int i2), (3, .int i3), (4, .long l4), (6, .long l6)]) hc dX7_sleeps_267 (by decide) rfl ?_
      refine r_sub [2, 3, 4, 5, 6, 7, 1, 0] rfl ?_
      obtain ⟨n0, h⟩ := h
      exact u7_sleeps_269 hc n0 _ _ _ _ _ h
    · refine r_lload 5 hc dX7_sleeps_247 rfl ?_
      refine r_ldc2 hc dX7_sleeps_249 kX7_210 ?_
      refine r_lmul hc dX7_sleeps_252 ?_
      refine r_nmL h (fun v8 h => ?_)
      refine r_lstore (lv' := [(6, .long v8), (0, aK κ 65), (1, .int i1), (2, .int i2), (3, .int i3), (4, .long l4), (8, .int i8)]) hc dX7_sleeps_253 (by decide) rfl ?_
      refine r_iinc (v := 1) (lv' := [(8, .int (i8 + 1)), (6, .long v8), (0, aK κ 65), (1, .int i1), (2, .int i2), (3, .int i3), (4, .long l4)]) 6 hc dX7_sleeps_255 rfl (by decide) (by decide) rfl ?_
      refine r_goto 236 hc dX7_sleeps_258 (by decide) ?_
      refine r_sub [2, 3, 4, 5, 6, 1, 0] rfl ?_
      exact ih _ _ _ _ h
set_option maxRecDepth 100000 in
set_option maxHeartbeats 4000000 in
theorem u7_sleeps_221 {κ : KT} {k : Int64 → St → Prop} {i1 : Int32} {i2 : Int32} {i3 : Int32} {R37 : Int64 → Int32 → St → Prop} {i6 : Int32} {sl1 : Int64} {sl0 : Int64} {σ : St}  (hc : Cx κ cX7_sleeps 14 RX7 4 (some .long))  (hR37 : ∀ (l4 : Int64) (i6 : Int32) (σ : St), R37 l4 i6 σ → Wd κ 14 (QL κ k) 37 [(0, aK κ 65), (1, .int i1), (2, .int i2), (3, .int i3), (4, .long l4), (6, .int i6)] [] σ)  (h : x7_sleeps_221 i1 i2 i3 R37 i6 sl1 sl0 σ k) : Wd κ 14 (QL κ k) 221 [(0, aK κ 65), (1, .int i1), (2, .int i2), (3, .int i3), (6, .int i6)] [.long sl1, .long sl0] σ := by
  unfold x7_sleeps_221 at h
  refine r_ladd hc dX7_sleeps_221 ?_
  refine r_nmL h (fun v13 h => ?_)
  refine r_lstore (lv' := [(4, .long v13), (0, aK κ 65), (1, .int i1), (2, .int i2), (3, .int i3), (6, .int i6)]) hc dX7_sleeps_222 (by decide) rfl ?_
  refine r_iinc (v := 1) (lv' := [(6, .int (i6 + 1)), (4, .long v13), (0, aK κ 65), (1, .int i1), (2, .int i2), (3, .int i3)]) 5 hc dX7_sleeps_224 rfl (by decide) (by decide) rfl ?_
  refine r_goto 37 hc dX7_sleeps_227 (by decide) ?_
  refine r_sub [2, 3, 4, 5, 1, 0] rfl ?_
  exact hR37 _ _ _ h
set_option maxRecDepth 100000 in
set_option maxHeartbeats 4000000 in
theorem u7_sleeps_195 {κ : KT} {k : Int64 → St → Prop} {i1 : Int32} {i2 : Int32} {i3 : Int32} {R37 : Int64 → Int32 → St → Prop} {R69 : Int64 → Int32 → Int64 → Int32 → St → Prop} {l4 : Int64} {i6 : Int32} {l7 : Int64} {i9 : Int32} {s2 : Int32} {s1 : Int32} {so0 : Nat} {σ : St}  (hc : Cx κ cX7_sleeps 14 RX7 4 (some .long))  (hR37 : ∀ (l4 : Int64) (i6 : Int32) (σ : St), R37 l4 i6 σ → Wd κ 14 (QL κ k) 37 [(0, aK κ 65), (1, .int i1), (2, .int i2), (3, .int i3), (4, .long l4), (6, .int i6)] [] σ) (hR69 : ∀ (l4 : Int64) (i6 : Int32) (l7 : Int64) (i9 : Int32) (σ : St), R69 l4 i6 l7 i9 σ → Wd κ 14 (QL κ k) 69 [(0, aK κ 65), (1, .int i1), (2, .int i2), (3, .int i3), (4, .long l4), (6, .int i6), (7, .long l7), (9, .int i9)] [] σ) (hso0 : kd so0 = 8) (h : x7_sleeps_195 i1 i2 i3 R37 R69 l4 i6 l7 i9 s2 s1 so0 σ k) : Wd κ 14 (QL κ k) 195 [(0, aK κ 65), (1, .int i1), (2, .int i2), (3, .int i3), (4, .long l4), (6, .int i6), (7, .long l7), (9, .int i9)] [.int s2, .int s1, aK κ so0] σ := by
  unfold x7_sleeps_195 at h
  refine r_iast hc dX7_sleeps_195 hso0 h (fun h => ?_)
  refine r_nmS h (fun σ19 h => ?_)
  refine r_iinc (v := 1) (lv' := [(9, .int (i9 + 1)), (0, aK κ 65), (1, .int i1), (2, .int i2), (3, .int i3), (4, .long l4), (6, .int i6), (7, .long l7)]) 7 hc dX7_sleeps_196 rfl (by decide) (by decide) rfl ?_
  refine r_goto 69 hc dX7_sleeps_199 (by decide) ?_
  refine r_sub [1, 2, 3, 4, 5, 6, 7, 0] rfl ?_
  exact hR69 _ _ _ _ _ h
set_option maxRecDepth 100000 in
set_option maxHeartbeats 4000000 in
theorem u7_sleeps_166 {κ : KT} {k : Int64 → St → Prop} {i1 : Int32} {i2 : Int32} {i3 : Int32} {R37 : Int64 → Int32 → St → Prop} {R69 : Int64 → Int32 → Int64 → Int32 → St → Prop} {l4 : Int64} {i6 : Int32} {l7 : Int64} {i9 : Int32} {i10 : Int32} {s2 : Int32} {s1 : Int32} {so0 : Nat} {σ : St}  (hc : Cx κ cX7_sleeps 14 RX7 4 (some .long))  (hR37 : ∀ (l4 : Int64) (i6 : Int32) (σ : St), R37 l4 i6 σ → Wd κ 14 (QL κ k) 37 [(0, aK κ 65), (1, .int i1), (2, .int i2), (3, .int i3), (4, .long l4), (6, .int i6)] [] σ) (hR69 : ∀ (l4 : Int64) (i6 : Int32) (l7 : Int64) (i9 : Int32) (σ : St), R69 l4 i6 l7 i9 σ → Wd κ 14 (QL κ k) 69 [(0, aK κ 65), (1, .int i1), (2, .int i2), (3, .int i3), (4, .long l4), (6, .int i6), (7, .long l7), (9, .int i9)] [] σ) (hso0 : kd so0 = 8) (h : x7_sleeps_166 i1 i2 i3 R37 R69 l4 i6 l7 i9 i10 s2 s1 so0 σ k) : Wd κ 14 (QL κ k) 166 [(0, aK κ 65), (1, .int i1), (2, .int i2), (3, .int i3), (4, .long l4), (6, .int i6), (7, .long l7), (9, .int i9), (10, .int i10)] [.int s2, .int s1, aK κ so0] σ := by
  unfold x7_sleeps_166 at h
  refine r_iast hc dX7_sleeps_166 hso0 h (fun h => ?_)
  refine r_nmS h (fun σ18 h => ?_)
  refine r_aload_n 0 hc dX7_sleeps_167 rfl ?_
  refine r_get (K := 7) (f := 14) hc dX7_sleeps_168 fX7_28 inX7 rfl rfl (by decide) (by decide) rfl rfl ?_
  refine r_bipush (v := 23) hc dX7_sleeps_171 (by decide) ?_
  refine r_iload 7 hc dX7_sleeps_173 rfl ?_
  refine r_iadd hc dX7_sleeps_175 ?_
  refine r_iload 8 hc dX7_sleeps_176 rfl ?_
  refine r_if_eq 185 hc dX7_sleeps_178 (by decide) h (fun h => ?_) (fun h => ?_)
  · refine r_aload_n 0 hc dX7_sleeps_185 rfl ?_
    refine r_get (K := 7) (f := 12) hc dX7_sleeps_186 fX7_22 inX7 rfl rfl (by decide) (by decide) rfl rfl ?_
    refine r_bipush (v := 23) hc dX7_sleeps_189 (by decide) ?_
    refine r_iload 7 hc dX7_sleeps_191 rfl ?_
    refine r_iadd hc dX7_sleeps_193 ?_
    refine r_iald hc dX7_sleeps_194 rfl h (fun h => ?_)
    refine r_sub [0, 1, 2, 3, 4, 5, 6, 7] rfl ?_
    exact u7_sleeps_195 hc hR37 hR69 (rfl) h
  · refine r_iconst (v := 0) hc dX7_sleeps_181 (by decide) ?_
    refine r_goto 195 hc dX7_sleeps_182 (by decide) ?_
    refine r_sub [0, 1, 2, 3, 4, 5, 6, 7] rfl ?_
    exact u7_sleeps_195 hc hR37 hR69 (rfl) h
set_option maxRecDepth 100000 in
set_option maxHeartbeats 4000000 in
theorem u7_sleeps_137 {κ : KT} {k : Int64 → St → Prop} {i1 : Int32} {i2 : Int32} {i3 : Int32} {R37 : Int64 → Int32 → St → Prop} {R69 : Int64 → Int32 → Int64 → Int32 → St → Prop} {l4 : Int64} {i6 : Int32} {l7 : Int64} {i9 : Int32} {i10 : Int32} {s2 : Int32} {s1 : Int32} {so0 : Nat} {σ : St}  (hc : Cx κ cX7_sleeps 14 RX7 4 (some .long))  (hR37 : ∀ (l4 : Int64) (i6 : Int32) (σ : St), R37 l4 i6 σ → Wd κ 14 (QL κ k) 37 [(0, aK κ 65), (1, .int i1), (2, .int i2), (3, .int i3), (4, .long l4), (6, .int i6)] [] σ) (hR69 : ∀ (l4 : Int64) (i6 : Int32) (l7 : Int64) (i9 : Int32) (σ : St), R69 l4 i6 l7 i9 σ → Wd κ 14 (QL κ k) 69 [(0, aK κ 65), (1, .int i1), (2, .int i2), (3, .int i3), (4, .long l4), (6, .int i6), (7, .long l7), (9, .int i9)] [] σ) (hso0 : kd so0 = 8) (h : x7_sleeps_137 i1 i2 i3 R37 R69 l4 i6 l7 i9 i10 s2 s1 so0 σ k) : Wd κ 14 (QL κ k) 137 [(0, aK κ 65), (1, .int i1), (2, .int i2), (3, .int i3), (4, .long l4), (6, .int i6), (7, .long l7), (9, .int i9), (10, .int i10)] [.int s2, .int s1, aK κ so0] σ := by
  unfold x7_sleeps_137 at h
  refine r_iast hc dX7_sleeps_137 hso0 h (fun h => ?_)
  refine r_nmS h (fun σ17 h => ?_)
  refine r_aload_n 0 hc dX7_sleeps_138 rfl ?_
  refine r_get (K := 7) (f := 14) hc dX7_sleeps_139 fX7_28 inX7 rfl rfl (by decide) (by decide) rfl rfl ?_
  refine r_bipush (v := 17) hc dX7_sleeps_142 (by decide) ?_
  refine r_iload 7 hc dX7_sleeps_144 rfl ?_
  refine r_iadd hc dX7_sleeps_146 ?_
  refine r_iload 8 hc dX7_sleeps_147 rfl ?_
  refine r_if_eq 156 hc dX7_sleeps_149 (by decide) h (fun h => ?_) (fun h => ?_)
  · refine r_aload_n 0 hc dX7_sleeps_156 rfl ?_
    refine r_get (K := 7) (f := 12) hc dX7_sleeps_157 fX7_22 inX7 rfl rfl (by decide) (by decide) rfl rfl ?_
    refine r_bipush (v := 17) hc dX7_sleeps_160 (by decide) ?_
    refine r_iload 7 hc dX7_sleeps_162 rfl ?_
    refine r_iadd hc dX7_sleeps_164 ?_
    refine r_iald hc dX7_sleeps_165 rfl h (fun h => ?_)
    exact u7_sleeps_166 hc hR37 hR69 (rfl) h
  · refine r_iconst (v := 0) hc dX7_sleeps_152 (by decide) ?_
    refine r_goto 166 hc dX7_sleeps_153 (by decide) ?_
    exact u7_sleeps_166 hc hR37 hR69 (rfl) h
set_option maxRecDepth 100000 in
set_option maxHeartbeats 4000000 in
theorem u7_sleeps_106 {κ : KT} {k : Int64 → St → Prop} {i1 : Int32} {i2 : Int32} {i3 : Int32} {R37 : Int64 → Int32 → St → Prop} {R69 : Int64 → Int32 → Int64 → Int32 → St → Prop} {l4 : Int64} {i6 : Int32} {i9 : Int32} {i10 : Int32} {sl1 : Int64} {sl0 : Int64} {σ : St}  (hc : Cx κ cX7_sleeps 14 RX7 4 (some .long))  (hR37 : ∀ (l4 : Int64) (i6 : Int32) (σ : St), R37 l4 i6 σ → Wd κ 14 (QL κ k) 37 [(0, aK κ 65), (1, .int i1), (2, .int i2), (3, .int i3), (4, .long l4), (6, .int i6)] [] σ) (hR69 : ∀ (l4 : Int64) (i6 : Int32) (l7 : Int64) (i9 : Int32) (σ : St), R69 l4 i6 l7 i9 σ → Wd κ 14 (QL κ k) 69 [(0, aK κ 65), (1, .int i1), (2, .int i2), (3, .int i3), (4, .long l4), (6, .int i6), (7, .long l7), (9, .int i9)] [] σ)  (h : x7_sleeps_106 i1 i2 i3 R37 R69 l4 i6 i9 i10 sl1 sl0 σ k) : Wd κ 14 (QL κ k) 106 [(0, aK κ 65), (1, .int i1), (2, .int i2), (3, .int i3), (4, .long l4), (6, .int i6), (9, .int i9), (10, .int i10)] [.long sl1, .long sl0] σ := by
  unfold x7_sleeps_106 at h
  refine r_lmul hc dX7_sleeps_106 ?_
  refine r_nmL h (fun v16 h => ?_)
  refine r_lstore (lv' := [(7, .long v16), (0, aK κ 65), (1, .int i1), (2, .int i2), (3, .int i3), (4, .long l4), (6, .int i6), (9, .int i9), (10, .int i10)]) hc dX7_sleeps_107 (by decide) rfl ?_
  refine r_aload_n 1 hc dX7_sleeps_109 rfl ?_
  refine r_get (K := 7) (f := 14) hc dX7_sleeps_110 fX7_28 inX7 rfl rfl (by decide) (by decide) rfl rfl ?_
  refine r_bipush (v := 11) hc dX7_sleeps_113 (by decide) ?_
  refine r_iload 7 hc dX7_sleeps_115 rfl ?_
  refine r_iadd hc dX7_sleeps_117 ?_
  refine r_iload 8 hc dX7_sleeps_118 rfl ?_
  refine r_if_eq 127 hc dX7_sleeps_120 (by decide) h (fun h => ?_) (fun h => ?_)
  · refine r_aload_n 1 hc dX7_sleeps_127 rfl ?_
    refine r_get (K := 7) (f := 12) hc dX7_sleeps_128 fX7_22 inX7 rfl rfl (by decide) (by decide) rfl rfl ?_
    refine r_bipush (v := 11) hc dX7_sleeps_131 (by decide) ?_
    refine r_iload 7 hc dX7_sleeps_133 rfl ?_
    refine r_iadd hc dX7_sleeps_135 ?_
    refine r_iald hc dX7_sleeps_136 rfl h (fun h => ?_)
    refine r_sub [1, 2, 3, 4, 5, 6, 0, 7, 8] rfl ?_
    exact u7_sleeps_137 hc hR37 hR69 (rfl) h
  · refine r_iconst (v := 0) hc dX7_sleeps_123 (by decide) ?_
    refine r_goto 137 hc dX7_sleeps_124 (by decide) ?_
    refine r_sub [1, 2, 3, 4, 5, 6, 0, 7, 8] rfl ?_
    exact u7_sleeps_137 hc hR37 hR69 (rfl) h
set_option maxRecDepth 100000 in
set_option maxHeartbeats 4000000 in
theorem u7_sleeps_69 {κ : KT} {k : Int64 → St → Prop} {i1 : Int32} {i2 : Int32} {i3 : Int32} {R37 : Int64 → Int32 → St → Prop}  (hc : Cx κ cX7_sleeps 14 RX7 4 (some .long))  (hR37 : ∀ (l4 : Int64) (i6 : Int32) (σ : St), R37 l4 i6 σ → Wd κ 14 (QL κ k) 37 [(0, aK κ 65), (1, .int i1), (2, .int i2), (3, .int i3), (4, .long l4), (6, .int i6)] [] σ) : ∀ (n : Nat) (l4 : Int64) (i6 : Int32) (l7 : Int64) (i9 : Int32) (σ : St), x7_sleeps_69 i1 i2 i3 R37 k n l4 i6 l7 i9 σ → Wd κ 14 (QL κ k) 69 [(0, aK κ 65), (1, .int i1), (2, .int i2), (3, .int i3), (4, .long l4), (6, .int i6), (7, .long l7), (9, .int i9)] [] σ := by
  intro n
  induction n with
  | zero => intro l4 i6 l7 i9 σ h; exact h.elim
  | succ n ih =>
    intro l4 i6 l7 i9 σ h
    unfold x7_sleeps_69 at h
    refine r_iload 7 hc dX7_sleeps_69 rfl ?_
    refine r_aload_n 0 hc dX7_sleeps_71 rfl ?_
    refine r_get (K := 7) (f := 12) hc dX7_sleeps_72 fX7_22 inX7 rfl rfl (by decide) (by decide) rfl rfl ?_
    refine r_iconst (v := 2) hc dX7_sleeps_75 (by decide) ?_
    refine r_iald hc dX7_sleeps_76 rfl h (fun h => ?_)
    refine r_icmp_ge 202 hc dX7_sleeps_77 (by decide) h (fun h => ?_) (fun h => ?_)
    · refine r_lload 4 hc dX7_sleeps_202 rfl ?_
      refine r_aload_n 0 hc dX7_sleeps_204 rfl ?_
      refine r_get (K := 7) (f := 14) hc dX7_sleeps_205 fX7_28 inX7 rfl rfl (by decide) (by decide) rfl rfl ?_
      refine r_iload_n 1 hc dX7_sleeps_208 rfl ?_
      refine r_csI [aK κ 72, .int i1] hc dX7_sleeps_209 cX7_152 (t7_doesMeet rfl h) rfl rfl rfl (Nat.le_of_ble_eq_true rfl) (by decide) (by decide) (fun r11 σ12 h => ?_)
      refine r_if_eq 220 hc dX7_sleeps_212 (by decide) h (fun h => ?_) (fun h => ?_)
      · refine r_lconst (v := 0) hc dX7_sleeps_220 (by decide) ?_
        refine r_sub [0, 1, 2, 3, 5] rfl ?_
        exact u7_sleeps_221 hc hR37 h
      · refine r_lload 6 hc dX7_sleeps_215 rfl ?_
        refine r_goto 221 hc dX7_sleeps_217 (by decide) ?_
        refine r_sub [0, 1, 2, 3, 5] rfl ?_
        exact u7_sleeps_221 hc hR37 h
    · refine r_iload 5 hc dX7_sleeps_80 rfl ?_
      refine r_iload 7 hc dX7_sleeps_82 rfl ?_
      refine r_csI [.int i6, .int i9] hc dX7_sleeps_84 cX7_159 (t7_has h) rfl rfl rfl (Nat.le_of_ble_eq_true rfl) (by decide) (by decide) (fun r14 σ15 h => ?_)
      refine r_istore (lv' := [(10, .int r14), (0, aK κ 65), (1, .int i1), (2, .int i2), (3, .int i3), (4, .long l4), (6, .int i6), (7, .long l7), (9, .int i9)]) hc dX7_sleeps_87 (by decide) rfl ?_
      refine r_lload 7 hc dX7_sleeps_89 rfl ?_
      refine r_iload 0 hc dX7_sleeps_91 rfl ?_
      refine r_if_eq 101 hc dX7_sleeps_93 (by decide) h (fun h => ?_) (fun h => ?_)
      · refine r_bipush (v := 10) hc dX7_sleeps_101 (by decide) ?_
        refine r_iload_n 3 hc dX7_sleeps_103 rfl ?_
        refine r_isub hc dX7_sleeps_104 ?_
        refine r_i2l hc dX7_sleeps_105 ?_
        refine r_sub [1, 2, 3, 4, 5, 6, 8, 0] rfl ?_
        exact u7_sleeps_106 hc hR37 ih h
      · refine r_iload_n 3 hc dX7_sleeps_96 rfl ?_
        refine r_i2l hc dX7_sleeps_97 ?_
        refine r_goto 106 hc dX7_sleeps_98 (by decide) ?_
        refine r_sub [1, 2, 3, 4, 5, 6, 8, 0] rfl ?_
        exact u7_sleeps_106 hc hR37 ih h
set_option maxRecDepth 100000 in
set_option maxHeartbeats 4000000 in
theorem u7_sleeps_37 {κ : KT} {k : Int64 → St → Prop} {i1 : Int32} {i2 : Int32} {i3 : Int32}   (hc : Cx κ cX7_sleeps 14 RX7 4 (some .long))   : ∀ (n : Nat) (l4 : Int64) (i6 : Int32) (σ : St), x7_sleeps_37 i1 i2 i3 k n l4 i6 σ → Wd κ 14 (QL κ k) 37 [(0, aK κ 65), (1, .int i1), (2, .int i2), (3, .int i3), (4, .long l4), (6, .int i6)] [] σ := by
  intro n
  induction n with
  | zero => intro l4 i6 σ h; exact h.elim
  | succ n ih =>
    intro l4 i6 σ h
    unfold x7_sleeps_37 at h
    refine r_iload 5 hc dX7_sleeps_37 rfl ?_
    refine r_iconst (v := 1) hc dX7_sleeps_39 (by decide) ?_
    refine r_aload_n 0 hc dX7_sleeps_40 rfl ?_
    refine r_get (K := 7) (f := 12) hc dX7_sleeps_41 fX7_22 inX7 rfl rfl (by decide) (by decide) rfl rfl ?_
    refine r_iconst (v := 2) hc dX7_sleeps_44 (by decide) ?_
    refine r_iald hc dX7_sleeps_45 rfl h (fun h => ?_)
    refine r_ishl hc dX7_sleeps_46 ?_
    refine r_icmp_ge 230 hc dX7_sleeps_47 (by decide) h (fun h => ?_) (fun h => ?_)
    · refine r_lconst (v := 1) hc dX7_sleeps_230 (by decide) ?_
      refine r_lstore (lv' := [(6, .long 1), (0, aK κ 65), (1, .int i1), (2, .int i2), (3, .int i3), (4, .long l4)]) hc dX7_sleeps_231 (by decide) rfl ?_
      refine r_iconst (v := 0) hc dX7_sleeps_233 (by decide) ?_
      refine r_istore (lv' := [(8, .int 0), (6, .long 1), (0, aK κ 65), (1, .int i1), (2, .int i2), (3, .int i3), (4, .long l4)]) hc dX7_sleeps_234 (by decide) rfl ?_
      refine r_sub [2, 3, 4, 5, 6, 1, 0] rfl ?_
      obtain ⟨n0, h⟩ := h
      exact u7_sleeps_236 hc n0 _ _ _ _ h
    · refine r_aload_n 0 hc dX7_sleeps_50 rfl ?_
      refine r_get (K := 7) (f := 12) hc dX7_sleeps_51 fX7_22 inX7 rfl rfl (by decide) (by decide) rfl rfl ?_
      refine r_iconst (v := 0) hc dX7_sleeps_54 (by decide) ?_
      refine r_aload_n 0 hc dX7_sleeps_55 rfl ?_
      refine r_get (K := 7) (f := 14) hc dX7_sleeps_56 fX7_28 inX7 rfl rfl (by decide) (by decide) rfl rfl ?_
      refine r_iconst (v := 0) hc dX7_sleeps_59 (by decide) ?_
      refine r_csV [aK κ 70, .int 0, aK κ 72, .int 0] hc dX7_sleeps_60 cX7_126 (t7_lay rfl rfl h) rfl rfl rfl (Nat.le_of_ble_eq_true rfl) (by decide) (by decide) (fun σ10 h => ?_)
      refine r_lconst (v := 1) hc dX7_sleeps_63 (by decide) ?_
      refine r_lstore (lv' := [(7, .long 1), (0, aK κ 65), (1, .int i1), (2, .int i2), (3, .int i3), (4, .long l4), (6, .int i6)]) hc dX7_sleeps_64 (by decide) rfl ?_
      refine r_iconst (v := 0) hc dX7_sleeps_66 (by decide) ?_
      refine r_istore (lv' := [(9, .int 0), (7, .long 1), (0, aK κ 65), (1, .int i1), (2, .int i2), (3, .int i3), (4, .long l4), (6, .int i6)]) hc dX7_sleeps_67 (by decide) rfl ?_
      refine r_sub [2, 3, 4, 5, 6, 7, 1, 0] rfl ?_
      obtain ⟨n0, h⟩ := h
      exact u7_sleeps_69 hc ih n0 _ _ _ _ _ h
set_option maxRecDepth 100000 in
set_option maxHeartbeats 4000000 in
theorem t7_sleeps {l : Launch} {i1 : Int32} {i2 : Int32} {i3 : Int32} {σ : St} {k : Int64 → St → Prop}  (h : x7_sleeps i1 i2 i3 σ k) : CL l yX7_sleeps cX7_sleeps 14 4 (some .long) (fun ad => [.ref (ad 65), .int i1, .int i2, .int i3]) σ k := by
  refine CL.of (lv := fun ad => [(0, .ref (ad 65)), (1, .int i1), (2, .int i2), (3, .int i3)]) (by decide) (fun _ => Nat.le_of_ble_eq_true rfl) (fun _ => rfl) (fun κ hc => ?_)
  show Wd κ 14 (QL κ k) 0 [(0, aK κ 65), (1, .int i1), (2, .int i2), (3, .int i3)] [] σ
  unfold x7_sleeps at h
  refine r_aload_n 0 hc dX7_sleeps_0 rfl ?_
  refine r_iload_n 1 hc dX7_sleeps_1 rfl ?_
  refine r_cvI [.int i1] hc dX7_sleeps_2 cX7_185 (t7_isOne h) rfl (by decide) rfl rfl rfl rfl (Nat.le_of_ble_eq_true rfl) (by decide) (by decide) (fun r1 σ2 h => ?_)
  refine r_if_eq 27 hc dX7_sleeps_5 (by decide) h (fun h => ?_) (fun h => ?_)
  · exact u7_sleeps_27 hc h
  · refine r_iload_n 2 hc dX7_sleeps_8 rfl ?_
    refine r_iconst (v := 0) hc dX7_sleeps_9 (by decide) ?_
    refine r_bipush (v := 10) hc dX7_sleeps_10 (by decide) ?_
    refine r_csI [.int i2, .int 0, .int 10] hc dX7_sleeps_12 cX7_55 (t7_in h) rfl rfl rfl (Nat.le_of_ble_eq_true rfl) (by decide) (by decide) (fun r3 σ4 h => ?_)
    refine r_if_eq 27 hc dX7_sleeps_15 (by decide) h (fun h => ?_) (fun h => ?_)
    · exact u7_sleeps_27 hc h
    · refine r_iload_n 3 hc dX7_sleeps_18 rfl ?_
      refine r_iconst (v := 0) hc dX7_sleeps_19 (by decide) ?_
      refine r_iconst (v := 1) hc dX7_sleeps_20 (by decide) ?_
      refine r_csI [.int i3, .int 0, .int 1] hc dX7_sleeps_21 cX7_55 (t7_in h) rfl rfl rfl (Nat.le_of_ble_eq_true rfl) (by decide) (by decide) (fun r5 σ6 h => ?_)
      refine r_if_ne 31 hc dX7_sleeps_24 (by decide) h (fun h => ?_) (fun h => ?_)
      · exact u7_sleeps_27 hc h
      · refine r_lconst (v := 0) hc dX7_sleeps_31 (by decide) ?_
        refine r_lstore (lv' := [(4, .long 0), (0, aK κ 65), (1, .int i1), (2, .int i2), (3, .int i3)]) hc dX7_sleeps_32 (by decide) rfl ?_
        refine r_iconst (v := 0) hc dX7_sleeps_34 (by decide) ?_
        refine r_istore (lv' := [(6, .int 0), (4, .long 0), (0, aK κ 65), (1, .int i1), (2, .int i2), (3, .int i3)]) hc dX7_sleeps_35 (by decide) rfl ?_
        refine r_sub [2, 3, 4, 5, 1, 0] rfl ?_
        obtain ⟨n0, h⟩ := h
        exact u7_sleeps_37 hc n0 _ _ _ h
set_option maxRecDepth 100000 in
set_option maxHeartbeats 4000000 in
theorem u7_soon_26 {κ : KT} {k : Int32 → St → Prop} {i1 : Int32}   (hc : Cx κ cX7_soon 3 RX7 6 (some .int))   : ∀ (n : Nat) (i2 : Int32) (σ : St), x7_soon_26 i1 k n i2 σ → Wd κ 3 (QI κ k) 26 [(0, aK κ 65), (1, .int i1), (2, .int i2)] [] σ := by
  intro n
  induction n with
  | zero => intro i2 σ h; exact h.elim
  | succ n ih =>
    intro i2 σ h
    unfold x7_soon_26 at h
    refine r_iload_n 2 hc dX7_soon_26 rfl ?_
    refine r_bipush (v := 60) hc dX7_soon_27 (by decide) ?_
    refine r_icmp_gt 54 hc dX7_soon_29 (by decide) h (fun h => ?_) (fun h => ?_)
    · refine r_ldc hc dX7_soon_54 kX7_188 ?_
      exact r_iret hc dX7_soon_56 h
    · refine r_aload_n 0 hc dX7_soon_32 rfl ?_
      refine r_get (K := 7) (f := 14) hc dX7_soon_33 fX7_28 inX7 rfl rfl (by decide) (by decide) rfl rfl ?_
      refine r_csI [aK κ 72] hc dX7_soon_36 cX7_179 (t7_pass rfl h) rfl rfl rfl (Nat.le_of_ble_eq_true rfl) (by decide) (by decide) (fun r5 σ6 h => ?_)
      refine r_iload_n 1 hc dX7_soon_39 rfl ?_
      refine r_csI [.int r5, .int i1] hc dX7_soon_40 cX7_159 (t7_has h) rfl rfl rfl (Nat.le_of_ble_eq_true rfl) (by decide) (by decide) (fun r7 σ8 h => ?_)
      refine r_if_eq 48 hc dX7_soon_43 (by decide) h (fun h => ?_) (fun h => ?_)
      · refine r_iinc (v := 1) (lv' := [(2, .int (i2 + 1)), (0, aK κ 65), (1, .int i1)]) 2 hc dX7_soon_48 rfl (by decide) (by decide) rfl ?_
        refine r_goto 26 hc dX7_soon_51 (by decide) ?_
        refine r_sub [1, 2, 0] rfl ?_
        exact ih _ _ h
      · refine r_iload_n 2 hc dX7_soon_46 rfl ?_
        exact r_iret hc dX7_soon_47 h
set_option maxRecDepth 100000 in
set_option maxHeartbeats 4000000 in
theorem t7_soon {l : Launch} {i1 : Int32} {σ : St} {k : Int32 → St → Prop}  (h : x7_soon i1 σ k) : CI l yX7_soon cX7_soon 3 6 (some .int) (fun ad => [.ref (ad 65), .int i1]) σ k := by
  refine CI.of (lv := fun ad => [(0, .ref (ad 65)), (1, .int i1)]) (by decide) (fun _ => Nat.le_of_ble_eq_true rfl) (fun _ => rfl) (fun κ hc => ?_)
  show Wd κ 3 (QI κ k) 0 [(0, aK κ 65), (1, .int i1)] [] σ
  unfold x7_soon at h
  refine r_aload_n 0 hc dX7_soon_0 rfl ?_
  refine r_iload_n 1 hc dX7_soon_1 rfl ?_
  refine r_cvI [.int i1] hc dX7_soon_2 cX7_185 (t7_isOne h) rfl (by decide) rfl rfl rfl rfl (Nat.le_of_ble_eq_true rfl) (by decide) (by decide) (fun r1 σ2 h => ?_)
  refine r_if_ne 11 hc dX7_soon_5 (by decide) h (fun h => ?_) (fun h => ?_)
  · refine r_ldc hc dX7_soon_8 kX7_63 ?_
    exact r_iret hc dX7_soon_10 h
  · refine r_aload_n 0 hc dX7_soon_11 rfl ?_
    refine r_get (K := 7) (f := 12) hc dX7_soon_12 fX7_22 inX7 rfl rfl (by decide) (by decide) rfl rfl ?_
    refine r_iconst (v := 0) hc dX7_soon_15 (by decide) ?_
    refine r_aload_n 0 hc dX7_soon_16 rfl ?_
    refine r_get (K := 7) (f := 14) hc dX7_soon_17 fX7_28 inX7 rfl rfl (by decide) (by decide) rfl rfl ?_
    refine r_iconst (v := 0) hc dX7_soon_20 (by decide) ?_
    refine r_csV [aK κ 70, .int 0, aK κ 72, .int 0] hc dX7_soon_21 cX7_126 (t7_lay rfl rfl h) rfl rfl rfl (Nat.le_of_ble_eq_true rfl) (by decide) (by decide) (fun σ4 h => ?_)
    refine r_iconst (v := 0) hc dX7_soon_24 (by decide) ?_
    refine r_istore_n (lv' := [(2, .int 0), (0, aK κ 65), (1, .int i1)]) hc dX7_soon_25 (by decide) rfl ?_
    refine r_sub [1, 2, 0] rfl ?_
    obtain ⟨n0, h⟩ := h
    exact u7_soon_26 hc n0 _ _ h
set_option maxRecDepth 100000 in
set_option maxHeartbeats 4000000 in
theorem u7_soundsUsed_4 {κ : KT} {k : Int32 → St → Prop}    (hc : Cx κ cX7_soundsUsed 3 RX7 1 (some .int))   : ∀ (n : Nat) (i1 : Int32) (i2 : Int32) (σ : St), x7_soundsUsed_4 k n i1 i2 σ → Wd κ 3 (QI κ k) 4 [(0, aK κ 65), (1, .int i1), (2, .int i2)] [] σ := by
  intro n
  induction n with
  | zero => intro i1 i2 σ h; exact h.elim
  | succ n ih =>
    intro i1 i2 σ h
    unfold x7_soundsUsed_4 at h
    refine r_iload_n 2 hc dX7_soundsUsed_4 rfl ?_
    refine r_bipush (v := 6) hc dX7_soundsUsed_5 (by decide) ?_
    refine r_icmp_ge 38 hc dX7_soundsUsed_7 (by decide) h (fun h => ?_) (fun h => ?_)
    · refine r_iload_n 1 hc dX7_soundsUsed_38 rfl ?_
      exact r_iret hc dX7_soundsUsed_39 h
    · refine r_iload_n 1 hc dX7_soundsUsed_10 rfl ?_
      refine r_aload_n 0 hc dX7_soundsUsed_11 rfl ?_
      refine r_get (K := 7) (f := 12) hc dX7_soundsUsed_12 fX7_22 inX7 rfl rfl (by decide) (by decide) rfl rfl ?_
      refine r_bipush (v := 17) hc dX7_soundsUsed_15 (by decide) ?_
      refine r_iload_n 2 hc dX7_soundsUsed_17 rfl ?_
      refine r_iadd hc dX7_soundsUsed_18 ?_
      refine r_iald hc dX7_soundsUsed_19 rfl h (fun h => ?_)
      refine r_aload_n 0 hc dX7_soundsUsed_20 rfl ?_
      refine r_get (K := 7) (f := 12) hc dX7_soundsUsed_21 fX7_22 inX7 rfl rfl (by decide) (by decide) rfl rfl ?_
      refine r_bipush (v := 23) hc dX7_soundsUsed_24 (by decide) ?_
      refine r_iload_n 2 hc dX7_soundsUsed_26 rfl ?_
      refine r_iadd hc dX7_soundsUsed_27 ?_
      refine r_iald hc dX7_soundsUsed_28 rfl h (fun h => ?_)
      refine r_iadd hc dX7_soundsUsed_29 ?_
      refine r_iadd hc dX7_soundsUsed_30 ?_
      refine r_nmI h (fun v1 h => ?_)
      refine r_istore_n (lv' := [(1, .int v1), (0, aK κ 65), (2, .int i2)]) hc dX7_soundsUsed_31 (by decide) rfl ?_
      refine r_iinc (v := 1) (lv' := [(2, .int (i2 + 1)), (1, .int v1), (0, aK κ 65)]) 2 hc dX7_soundsUsed_32 rfl (by decide) (by decide) rfl ?_
      refine r_goto 4 hc dX7_soundsUsed_35 (by decide) ?_
      refine r_sub [2, 1, 0] rfl ?_
      exact ih _ _ _ h
set_option maxRecDepth 100000 in
set_option maxHeartbeats 4000000 in
theorem t7_soundsUsed {l : Launch}  {σ : St} {k : Int32 → St → Prop}  (h : x7_soundsUsed  σ k) : CI l yX7_soundsUsed cX7_soundsUsed 3 1 (some .int) (fun ad => [.ref (ad 65)]) σ k := by
  refine CI.of (lv := fun ad => [(0, .ref (ad 65))]) (by decide) (fun _ => Nat.le_of_ble_eq_true rfl) (fun _ => rfl) (fun κ hc => ?_)
  show Wd κ 3 (QI κ k) 0 [(0, aK κ 65)] [] σ
  unfold x7_soundsUsed at h
  refine r_iconst (v := 0) hc dX7_soundsUsed_0 (by decide) ?_
  refine r_istore_n (lv' := [(1, .int 0), (0, aK κ 65)]) hc dX7_soundsUsed_1 (by decide) rfl ?_
  refine r_iconst (v := 0) hc dX7_soundsUsed_2 (by decide) ?_
  refine r_istore_n (lv' := [(2, .int 0), (1, .int 0), (0, aK κ 65)]) hc dX7_soundsUsed_3 (by decide) rfl ?_
  refine r_sub [2, 1, 0] rfl ?_
  obtain ⟨n0, h⟩ := h
  exact u7_soundsUsed_4 hc n0 _ _ _ h
