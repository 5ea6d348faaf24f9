def adJ (u v : Nat → Nat) : Nat → Nat := fun i => if i < 65 then u i else v i
theorem wC_at (D : va_G) (ca : CQ) (u : Nat → Nat) {k : Nat} (h : k < 65) : (wC D ca u)[k]? = some (u k, cellK (u, D, ca, (0, 0)) (σ0 k) k (kd k)) := by
  unfold wC
  rw [List.getElem?_map, List.getElem?_range h]
  rfl
theorem wM_at (D : va_G) (ca : CQ) (u : Nat → Nat) {k : Nat} (h : k < 14) : (wM D ca u)[k]? = some (u (65 + k), cellK (u, D, ca, (0, 0)) (σ0 (65 + k)) (65 + k) (kd (65 + k))) := by
  unfold wM
  rw [List.getElem?_map, List.getElem?_range h]
  rfl
theorem wC_len (D : va_G) (ca : CQ) (u : Nat → Nat) : (wC D ca u).length = 65 := by unfold wC; simp
theorem wM_len (D : va_G) (ca : CQ) (u : Nat → Nat) : (wM D ca u).length = 14 := by unfold wM; simp
set_option maxRecDepth 20000 in
theorem cell_u (u v : Nat → Nat) (D : va_G) (ca : CQ) (t : Nat × Nat) : ∀ k, k < 65 → k ≠ 1 → k ≠ 18 → cellK (adJ u v, D, ca, t) (σ0 k) k (kd k) = cellK (u, D, ca, (0, 0)) (σ0 k) k (kd k) := by
  intro k hk h1 h18
  match k, hk, h1, h18 with
  | 0, _, _, _ => rfl
  | 1, _, h1, _ => exact absurd rfl h1
  | 2, _, _, _ => rfl
  | 3, _, _, _ => rfl
  | 4, _, _, _ => rfl
  | 5, _, _, _ => rfl
  | 6, _, _, _ => rfl
  | 7, _, _, _ => rfl
  | 8, _, _, _ => rfl
  | 9, _, _, _ => rfl
  | 10, _, _, _ => rfl
  | 11, _, _, _ => rfl
  | 12, _, _, _ => rfl
  | 13, _, _, _ => rfl
  | 14, _, _, _ => rfl
  | 15, _, _, _ => rfl
  | 16, _, _, _ => rfl
  | 17, _, _, _ => rfl
  | 18, _, _, h18 => exact absurd rfl h18
  | 19, _, _, _ => rfl
  | 20, _, _, _ => rfl
  | 21, _, _, _ => rfl
  | 22, _, _, _ => rfl
  | 23, _, _, _ => rfl
  | 24, _, _, _ => rfl
  | 25, _, _, _ => rfl
  | 26, _, _, _ => rfl
  | 27, _, _, _ => rfl
  | 28, _, _, _ => rfl
  | 29, _, _, _ => rfl
  | 30, _, _, _ => rfl
  | 31, _, _, _ => rfl
  | 32, _, _, _ => rfl
  | 33, _, _, _ => rfl
  | 34, _, _, _ => rfl
  | 35, _, _, _ => rfl
  | 36, _, _, _ => rfl
  | 37, _, _, _ => rfl
  | 38, _, _, _ => rfl
  | 39, _, _, _ => rfl
  | 40, _, _, _ => rfl
  | 41, _, _, _ => rfl
  | 42, _, _, _ => rfl
  | 43, _, _, _ => rfl
  | 44, _, _, _ => rfl
  | 45, _, _, _ => rfl
  | 46, _, _, _ => rfl
  | 47, _, _, _ => rfl
  | 48, _, _, _ => rfl
  | 49, _, _, _ => rfl
  | 50, _, _, _ => rfl
  | 51, _, _, _ => rfl
  | 52, _, _, _ => rfl
  | 53, _, _, _ => rfl
  | 54, _, _, _ => rfl
  | 55, _, _, _ => rfl
  | 56, _, _, _ => rfl
  | 57, _, _, _ => rfl
  | 58, _, _, _ => rfl
  | 59, _, _, _ => rfl
  | 60, _, _, _ => rfl
  | 61, _, _, _ => rfl
  | 62, _, _, _ => rfl
  | 63, _, _, _ => rfl
  | 64, _, _, _ => rfl
  | n + 65, hk, _, _ => exact absurd hk (by omega)
set_option maxRecDepth 20000 in
theorem cell_v (u v : Nat → Nat) (D : va_G) (ca : CQ) (t : Nat × Nat) : ∀ k, k < 14 → cellK (adJ u v, D, ca, t) (σ0 (65 + k)) (65 + k) (kd (65 + k)) = cellK (v, D, ca, (0, 0)) (σ0 (65 + k)) (65 + k) (kd (65 + k)) := by
  intro k hk
  match k, hk with
  | 0, _ => rfl
  | 1, _ => rfl
  | 2, _ => rfl
  | 3, _ => rfl
  | 4, _ => rfl
  | 5, _ => rfl
  | 6, _ => rfl
  | 7, _ => rfl
  | 8, _ => rfl
  | 9, _ => rfl
  | 10, _ => rfl
  | 11, _ => rfl
  | 12, _ => rfl
  | 13, _ => rfl
  | n + 14, hk => exact absurd hk (by omega)
theorem wd_of {u v : Nat → Nat} {D : va_G} {ca : CQ} (t : Nat × Nat) {H : Heap} (hP : va_P D vwCl (wC D ca u ++ wM D ca v) H) : va_P D vwCl (wd (adJ u v, D, ca, t) σ0) H := by
  intro k q hq
  have hk : k < 79 := by
    have := (List.getElem?_eq_some_iff.mp hq).1
    rw [wd_len] at this
    exact this
  rw [wd_at _ _ hk] at hq
  cases hq
  rcases Nat.lt_or_ge k 65 with h | h
  · have h2 : va_at D vwCl (u k, cellK (u, D, ca, (0, 0)) (σ0 k) k (kd k)) H := hP k _ (by rw [List.getElem?_append_left (by rw [wC_len]; exact h), wC_at D ca u h])
    have e : adJ u v k = u k := by unfold adJ; rw [if_pos h]
    by_cases h1 : k = 1
    · subst h1
      have h2 : va_at D vwCl (u 1, .inl (ca.2.2.1, 8, .inr (.inr (.inr (.inr (fun j => some (u (2 + 2 * j)))))))) H := h2
      show va_at D vwCl (adJ u v 1, .inl (ca.2.2.1, 8, .inr (.inr (.inr (.inr (fun j => some (adJ u v (2 + 2 * j)))))))) H
      rw [e]
      exact at_refs h2 (fun j hj => by unfold adJ; rw [if_pos (by omega)])
    · by_cases h18 : k = 18
      · subst h18
        have h2 : va_at D vwCl (u 18, .inl (ca.2.2.2, 2, .inr (.inr (.inr (.inr (fun j => some (u (37 + 9 * j)))))))) H := h2
        show va_at D vwCl (adJ u v 18, .inl (ca.2.2.2, 2, .inr (.inr (.inr (.inr (fun j => some (adJ u v (37 + 9 * j)))))))) H
        rw [e]
        exact at_refs h2 (fun j hj => by unfold adJ; rw [if_pos (by omega)])
      · show va_at D vwCl (adJ u v k, _) H
        rw [e, cell_u u v D ca t k h h1 h18]
        exact h2
  · obtain ⟨j, rfl⟩ : ∃ j, k = 65 + j := ⟨k - 65, by omega⟩
    have hj : j < 14 := by omega
    have h2 : va_at D vwCl (v (65 + j), cellK (v, D, ca, (0, 0)) (σ0 (65 + j)) (65 + j) (kd (65 + j))) H := hP (65 + j) _ (by rw [List.getElem?_append_right (by rw [wC_len]; omega), wC_len, Nat.add_sub_cancel_left, wM_at D ca v hj])
    have e : adJ u v (65 + j) = v (65 + j) := by unfold adJ; rw [if_neg (by omega)]
    show va_at D vwCl (adJ u v (65 + j), _) H
    rw [e, cell_v u v D ca t j hj]
    exact h2
theorem wJ_at (u v : Nat → Nat) (D : va_G) (ca : CQ) {k : Nat} (hk : k < 79) : ∃ e, (wC D ca u ++ wM D ca v)[k]? = some (adJ u v k, e) := by
  rcases Nat.lt_or_ge k 65 with h | h
  · refine ⟨cellK (u, D, ca, (0, 0)) (σ0 k) k (kd k), ?_⟩
    rw [List.getElem?_append_left (by rw [wC_len]; exact h), wC_at D ca u h]
    unfold adJ
    rw [if_pos h]
  · obtain ⟨j, rfl⟩ : ∃ j, k = 65 + j := ⟨k - 65, by omega⟩
    refine ⟨cellK (v, D, ca, (0, 0)) (σ0 (65 + j)) (65 + j) (kd (65 + j)), ?_⟩
    rw [List.getElem?_append_right (by rw [wC_len]; omega), wC_len, Nat.add_sub_cancel_left, wM_at D ca v (by omega)]
    unfold adJ
    rw [if_neg (by omega)]
theorem inj_of {u v : Nat → Nat} {D : va_G} {ca : CQ} (t : Nat × Nat) {A : Nat → Prop} (hD : va_D A (wC D ca u ++ wM D ca v)) : inj (adJ u v, D, ca, t) ∧ ∀ i, i < 79 → A (adJ u v i) := by
  refine ⟨fun i j hi hj he => ?_, fun i hi => ?_⟩
  · obtain ⟨e1, h1⟩ := wJ_at u v D ca hi
    obtain ⟨e2, h2⟩ := wJ_at u v D ca hj
    exact hD.1 i j _ _ h1 h2 he
  · obtain ⟨e1, h1⟩ := wJ_at u v D ca hi
    exact hD.2 i _ h1
theorem arrK {s : State} {args : Array Value} {ty : FieldType} (h : (Cond.arrayClass ty).before args s = true) (hb : ∀ c, va_RA s c ty ↔ s.vm.findClass ("[" ++ ty.toString) = some c) : ∃ c, ArrOfT s c ty ∧ va_RA s c ty := by
  obtain ⟨c, k, comp, h1, h2, h3⟩ := Cond.arrayClass_spec h
  exact ⟨c, fun n z => ⟨fun k h => (by cases h), k, h2, comp, h3⟩, (hb c).mpr h1⟩
theorem arrO {s : State} {args : Array Value} {C : String} (h : (Cond.arrayOver (.object C)).before args s = true) : ∃ c, ArrOfT s c (.object C) ∧ va_RA s c (.object C) := by
  obtain ⟨comp, c, k, h1, -, h2, h3, h4⟩ := Cond.arrayOver_spec h
  exact ⟨c, fun n z => ⟨fun k h => (by cases h), k, h2, comp, h3⟩, k, comp, h2, h3, h1, h4⟩
theorem tb_n {w : Cond} (i : Nat) (h : tables_1[i]? = some w) : w ∈ lw_tbl := List.mem_append_right _ (List.mem_of_getElem? h)
set_option maxRecDepth 100000 in
set_option maxHeartbeats 16000000 in
theorem start_of {Rel : St → Prop} (hSp : SpAll Rel) (hRel : Rel σ0) {p : Program} {e : Env} {s : State} {m : MethodId} {below : List Frame} {meth : Method} {c : Code} (l : Launch) {b L : Nat} {xs : Nat → Int32} (hL : L ≤ 3072) (C0 : lw_At p s m meth c b L xs) : W p l e room_1 s m #[Value.ref b] below meth c s.heap [] 0 0 (lw_Z below #[Value.ref b] s) (entryFrame m ([Value.ref b] : List Value).toArray 4) := by
  obtain ⟨hx, hb, hr, hml, hown, hts0, hX, hbl, hlocks, hgv⟩ := id C0
  have hts : ∀ w ∈ TB, w.before #[Value.ref b] s = true := fun w hw => hts0 w (TB_in hw)
  have hA : ∀ q : Nat, s.heap.size ≤ q → (fun q : Nat => s.heap.size ≤ q) q := fun _ h => h
  obtain ⟨c0, iS0, hKn0⟩ := u_known (C := RX0) (T := TX0) (N := 5) (n := 5) hts inX0 (hts0 (.instantiable RX0 5) (tb_n 122 (by decide +kernel)))
  obtain ⟨c1, iS1, hKn1⟩ := u_known (C := RX1) (T := TX1) (N := 2) (n := 2) hts inX1 (hts0 (.instantiable RX1 2) (tb_n 166 (by decide +kernel)))
  obtain ⟨c2, iS2, hKn2⟩ := u_known (C := RX2) (T := TX2) (N := 4) (n := 4) hts inX2 (hts0 (.instantiable RX2 4) (tb_n 145 (by decide +kernel)))
  obtain ⟨c3, iS3, hKn3⟩ := u_known (C := RX3) (T := TX3) (N := 5) (n := 5) hts inX3 (hts0 (.instantiable RX3 5) (tb_n 97 (by decide +kernel)))
  obtain ⟨c4, iS4, hKn4⟩ := u_known (C := RX4) (T := TX4) (N := 3) (n := 3) hts inX4 (hts0 (.instantiable RX4 3) (tb_n 180 (by decide +kernel)))
  obtain ⟨c5, iS5, hKn5⟩ := u_known (C := RX5) (T := TX5) (N := 13) (n := 13) hts inX5 (hts0 (.instantiable RX5 13) (tb_n 24 (by decide +kernel)))
  obtain ⟨c6, iS6, hKn6⟩ := u_known (C := RX6) (T := TX6) (N := 10) (n := 10) hts inX6 (hts0 (.instantiable RX6 10) (tb_n 13 (by decide +kernel)))
  obtain ⟨c7, iS7, hKn7⟩ := u_known (C := RX7) (T := TX7) (N := 23) (n := 23) hts inX7 (hts0 (.instantiable RX7 23) (tb_n 691 (by decide +kernel)))
  obtain ⟨dC, dI, hKc⟩ : ∃ (dC : Nat → ClassId) (dI : Nat → Nat → Nat), ∀ (k : Nat) (q : vw_C), vwCl[k]? = some q → u_Kn s q.1 q.2.1 q.2.2 (dC k) (dI k) := by
    refine ⟨fun k => if k = 0 then c0 else if k = 1 then c1 else if k = 2 then c2 else if k = 3 then c3 else if k = 4 then c4 else if k = 5 then c5 else if k = 6 then c6 else c7, fun k => if k = 0 then iS0 else if k = 1 then iS1 else if k = 2 then iS2 else if k = 3 then iS3 else if k = 4 then iS4 else if k = 5 then iS5 else if k = 6 then iS6 else iS7, ?_⟩
    intro k q hq
    match k, hq with
    | 0, hq => cases hq; exact hKn0
    | 1, hq => cases hq; exact hKn1
    | 2, hq => cases hq; exact hKn2
    | 3, hq => cases hq; exact hKn3
    | 4, hq => cases hq; exact hKn4
    | 5, hq => cases hq; exact hKn5
    | 6, hq => cases hq; exact hKn6
    | 7, hq => cases hq; exact hKn7
    | k + 8, hq => simp [vwCl] at hq
  obtain ⟨cI, aI1, aI2⟩ := arrK (ty := .int) (hts _ wArrI) (fun c => Iff.rfl)
  obtain ⟨cZ, aZ1, aZ2⟩ := arrK (ty := .boolean) (hts _ wArrZ) (fun c => Iff.rfl)
  obtain ⟨cR, aR1, aR2⟩ := arrO (hts0 (.arrayOver (.object RX4)) (tb_n 21 (by decide +kernel)))
  obtain ⟨cS, aS1, aS2⟩ := arrO (hts0 (.arrayOver (.object RX5)) (tb_n 23 (by decide +kernel)))
  have hK : va_K (dC, dI) vwCl (tyQ (cI, cZ, cR, cS)) s := by
    refine ⟨hKc, fun k q h => ?_⟩
    match k, h with
    | 0, h => cases h; exact ⟨aI1, aI2⟩
    | 1, h => cases h; exact ⟨aZ1, aZ2⟩
    | 2, h => cases h; exact ⟨aR1, aR2⟩
    | 3, h => cases h; exact ⟨aS1, aS2⟩
    | k + 4, h => simp at h
  generalize hD9 : ((dC, dI) : va_G) = D at hK
  generalize hca : ((cI, cZ, cR, cS) : CQ) = ca at hK
  have hNw : NwD s := ⟨va_AO.of (hts0 (.arrayOver (.object RX4)) (tb_n 21 (by decide +kernel))), va_AO.of (hts0 (.arrayOver (.object RX5)) (tb_n 23 (by decide +kernel))), va_Nw.of rfl (hts0 (.methodLinkNest RX6 21 yX5_init "DoorBell") (tb_n 25 (by decide +kernel))), va_Nw.of rfl (hts0 (.methodLinkNest RX6 31 yX3_init "DoorBell") (tb_n 98 (by decide +kernel))), va_Nw.of rfl (hts0 (.methodLinkNest RX6 38 yX0_init "DoorBell") (tb_n 123 (by decide +kernel))), va_Nw.of rfl (hts0 (.methodLinkNest RX6 45 yX2_init "DoorBell") (tb_n 146 (by decide +kernel))), va_Nw.of rfl (hts0 (.methodLinkNest RX6 52 yX1_init "DoorBell") (tb_n 167 (by decide +kernel))), va_Nw.of rfl (hts0 (.methodLinkNest RX6 64 yX4_init "DoorBell") (tb_n 181 (by decide +kernel)))⟩
  have hs := flat_of_before _ hgv
  obtain ⟨tS, htS, hTS⟩ := va_Tof (args := #[Value.ref b]) (s := s) (tm := (Term.static "DoorBell$Asker" "SIZE_BODIES" "[I")) (ty := .int) (N := 6) (f := fun j => .int (szB j)) (A := fun q : Nat => s.heap.size ≤ q) (by decide) (hs _ (by decide +kernel)) (va_eqt (hs (.eq (.length (Term.static "DoorBell$Asker" "SIZE_BODIES" "[I")) (.int 6)) (by decide +kernel))) (fun j hj => by
    rcases (show j = 0 ∨ j = 1 ∨ j = 2 ∨ j = 3 ∨ j = 4 ∨ j = 5 by omega) with rfl | rfl | rfl | rfl | rfl | rfl
    · exact va_eqt (hs (.eq (.elem (Term.static "DoorBell$Asker" "SIZE_BODIES" "[I") (.int 0)) (.int 10)) (by decide +kernel))
    · exact va_eqt (hs (.eq (.elem (Term.static "DoorBell$Asker" "SIZE_BODIES" "[I") (.int 1)) (.int 11)) (by decide +kernel))
    · exact va_eqt (hs (.eq (.elem (Term.static "DoorBell$Asker" "SIZE_BODIES" "[I") (.int 2)) (.int 12)) (by decide +kernel))
    · exact va_eqt (hs (.eq (.elem (Term.static "DoorBell$Asker" "SIZE_BODIES" "[I") (.int 3)) (.int 11)) (by decide +kernel))
    · exact va_eqt (hs (.eq (.elem (Term.static "DoorBell$Asker" "SIZE_BODIES" "[I") (.int 4)) (.int 13)) (by decide +kernel))
    · exact va_eqt (hs (.eq (.elem (Term.static "DoorBell$Asker" "SIZE_BODIES" "[I") (.int 5)) (.int 14)) (by decide +kernel))) (fun a h => Nat.not_le.mpr h)
  have hZS := va_Zof (A := fun q : Nat => s.heap.size ≤ q) (hts0 (.laysStatic "DoorBell$Asker" "SIZE_BODIES" "[I") (tb_n 659 (by decide +kernel))) (hts _ wIn1) htS (fun a h => Nat.not_le.mpr h)
  obtain ⟨tM, htM, hTM⟩ := va_Tof (args := #[Value.ref b]) (s := s) (tm := (Term.static "DoorBell$Asker" "MARK_BODIES" "[I")) (ty := .int) (N := 6) (f := fun j => .int (mkB j)) (A := fun q : Nat => s.heap.size ≤ q) (by decide) (hs _ (by decide +kernel)) (va_eqt (hs (.eq (.length (Term.static "DoorBell$Asker" "MARK_BODIES" "[I")) (.int 6)) (by decide +kernel))) (fun j hj => by
    rcases (show j = 0 ∨ j = 1 ∨ j = 2 ∨ j = 3 ∨ j = 4 ∨ j = 5 by omega) with rfl | rfl | rfl | rfl | rfl | rfl
    · exact va_eqt (hs (.eq (.elem (Term.static "DoorBell$Asker" "MARK_BODIES" "[I") (.int 0)) (.int 20)) (by decide +kernel))
    · exact va_eqt (hs (.eq (.elem (Term.static "DoorBell$Asker" "MARK_BODIES" "[I") (.int 1)) (.int 21)) (by decide +kernel))
    · exact va_eqt (hs (.eq (.elem (Term.static "DoorBell$Asker" "MARK_BODIES" "[I") (.int 2)) (.int 24)) (by decide +kernel))
    · exact va_eqt (hs (.eq (.elem (Term.static "DoorBell$Asker" "MARK_BODIES" "[I") (.int 3)) (.int 22)) (by decide +kernel))
    · exact va_eqt (hs (.eq (.elem (Term.static "DoorBell$Asker" "MARK_BODIES" "[I") (.int 4)) (.int 23)) (by decide +kernel))
    · exact va_eqt (hs (.eq (.elem (Term.static "DoorBell$Asker" "MARK_BODIES" "[I") (.int 5)) (.int 23)) (by decide +kernel))) (fun a h => Nat.not_le.mpr h)
  have hZM := va_Zof (A := fun q : Nat => s.heap.size ≤ q) (hts0 (.laysStatic "DoorBell$Asker" "MARK_BODIES" "[I") (tb_n 661 (by decide +kernel))) (hts _ wIn1) htM (fun a h => Nat.not_le.mpr h)
  have hS : va_S (fun q : Nat => s.heap.size ≤ q) s.heap s.heap [] := va_S.rf
  have hP : va_P D vwCl [] s.heap := fun k q h => by simp at h
  have hD : va_D (fun q : Nat => s.heap.size ≤ q) [] := ⟨fun i j p q h => by simp at h, fun k q h => by simp at h⟩
  have hl := lv_entry ([.ref b]) (n := 4) (Nat.le_of_ble_eq_true rfl)
  rw [lg_entry_eq]
  generalize (lg_sl ([.ref b]) ++ List.replicate (4 - (lg_sl ([.ref b])).length) Slot.unset).toArray = ls at hl ⊢
  have hl : lv_has ls 4 [(0, .ref b)] := hl
  refine va_new (ci := 6) (fs := [.null, .null, .null, .null, .null, .null, .null, .null, .int 0, .int 0]) (C := RX6) (T := TX6) (N := 10) hx hb hts inX6 tyX6 tyX6_ok hown (hts0 (.classLink R_law 7 RX6) (tb_n 12 (by decide +kernel))) (hts0 (.instantiable RX6 10) (tb_n 13 (by decide +kernel))) (hts _ (TB_t 1 (by decide +kernel))) hK hP hD hS hA rfl (fun j hj => by rcases (show j = 0 ∨ j = 1 ∨ j = 2 ∨ j = 3 ∨ j = 4 ∨ j = 5 ∨ j = 6 ∨ j = 7 ∨ j = 8 ∨ j = 9 by omega) with rfl | rfl | rfl | rfl | rfl | rfl | rfl | rfl | rfl | rfl <;> rfl) (show 0 + 1 ≤ 600000 by decide) (show 0 + 10 ≤ 7302250 by decide) dL_law_0 (fun h6 H hP hD hS => ?_)
  have hP : va_P D vwCl [(h6, .inr (6, [.null, .null, .null, .null, .null, .null, .null, .null, .int 0, .int 0]))] H := hP
  have hD : va_D (fun q : Nat => s.heap.size ≤ q) [(h6, .inr (6, [.null, .null, .null, .null, .null, .null, .null, .null, .int 0, .int 0]))] := hD
  refine lv_dup hx hb dL_law_3 rfl ?_
  have hFc := va_free (wc := [(h6, .inr (6, [.null, .null, .null, .null, .null, .null, .null, .null, .int 0, .int 0]))]) hD hS hA [0] rfl
  refine va_callv (va_runI (As := []) (rest := [.ref h6]) ⟨hx, hb, hml, hown, hts⟩ (nw6 l D ca h6 H.size) (cwI 0 hts (goodTB (TB_t 16 (by decide +kernel))) rfl rfl rfl (hts _ (TB_t 1 (by decide +kernel))) (hts _ (show Cond.methodLink R_law 9 yX6_init ∈ TB from TB_t 14 (by decide +kernel))) (hts _ (TB_t 15 (by decide +kernel))) rfl (by decide +kernel) ⟨Nat.le_of_ble_eq_true rfl, Nat.le_of_ble_eq_true rfl⟩) ⟨fun a U g mk q => by obtain ⟨q0, q1, qP, qK, qD, qN⟩ := q; exact ⟨q0, q1, qP, va_K.moved (u := U) (U := U.calling g mk a) (Vm.Alike.refl U.vm) qK, qD, qN.calling⟩, fun U hU hW => ⟨rfl, by rw [hU], by rw [hU]; exact hP, va_K.moved hW.alike hK, hD.weaken (fun _ _ _ _ => trivial), hNw.warm hW⟩⟩ rfl rfl hl.1 rfl (lv_room (Nat.le_of_ble_eq_true rfl)) dL_law_4 ⟨show 1 + 64 ≤ 600000 by decide, show 10 + 814 ≤ 7302250 by decide⟩) hS (fun q _ h => hFc q h) hFc (fun u t H1 locs ht hvm hu hB hz1 hk1 hS => ?_)
  obtain ⟨hP1, hD1⟩ := hB
  rw [ht] at hP1
  have hP : va_P D vwCl (wC D ca u) H1 := hP1
  have hD : va_D (fun q : Nat => s.heap.size ≤ q) (wC D ca u) := hD1.weaken (fun k q _ h => hFc q.1 h)
  generalize H1 = H at hP hS ⊢
  refine lv_astore_n (lv' := [(1, .ref h6), (0, .ref b)]) hx hb dL_law_7 rfl hl (by decide) rfl (fun ls hl => ?_)
  refine va_new (ci := 7) (fs := [.null, .null, .null, .int 0, .int 0, .null, .int 0, .int 0, .int 0, .int 0, .int 0, .int 0, .null, .null, .null, .null, .null, .null, .int 0, .null, .int 0, .null, .null]) (C := RX7) (T := TX7) (N := 23) hx hb hts inX7 tyX7 tyX7_ok hown (hts0 (.classLink R_law 10 RX7) (tb_n 690 (by decide +kernel))) (hts0 (.instantiable RX7 23) (tb_n 691 (by decide +kernel))) (hts _ (TB_t 8 (by decide +kernel))) hK hP hD hS hA rfl (fun j hj => by rcases (show j = 0 ∨ j = 1 ∨ j = 2 ∨ j = 3 ∨ j = 4 ∨ j = 5 ∨ j = 6 ∨ j = 7 ∨ j = 8 ∨ j = 9 ∨ j = 10 ∨ j = 11 ∨ j = 12 ∨ j = 13 ∨ j = 14 ∨ j = 15 ∨ j = 16 ∨ j = 17 ∨ j = 18 ∨ j = 19 ∨ j = 20 ∨ j = 21 ∨ j = 22 by omega) with rfl | rfl | rfl | rfl | rfl | rfl | rfl | rfl | rfl | rfl | rfl | rfl | rfl | rfl | rfl | rfl | rfl | rfl | rfl | rfl | rfl | rfl | rfl <;> rfl) (show 65 + 1 ≤ 600000 by decide) (show 824 + 23 ≤ 7302250 by decide) dL_law_8 (fun h7 H hP hD hS => ?_)
  refine lv_dup hx hb dL_law_11 rfl ?_
  have hPc := hP.sub (ws' := [(h7, .inr (7, [.null, .null, .null, .int 0, .int 0, .null, .int 0, .int 0, .int 0, .int 0, .int 0, .int 0, .null, .null, .null, .null, .null, .null, .int 0, .null, .int 0, .null, .null]))]) [65] rfl
  have hDc := hD.sub (ws' := [(h7, .inr (7, [.null, .null, .null, .int 0, .int 0, .null, .int 0, .int 0, .int 0, .int 0, .int 0, .int 0, .null, .null, .null, .null, .null, .null, .int 0, .null, .int 0, .null, .null]))]) [65] (by decide) rfl
  have hFc := va_free (wc := [(h7, .inr (7, [.null, .null, .null, .int 0, .int 0, .null, .int 0, .int 0, .int 0, .int 0, .int 0, .int 0, .null, .null, .null, .null, .null, .null, .int 0, .null, .int 0, .null, .null]))]) hD hS hA [65] rfl
  refine va_callv (va_runI (As := []) (rest := [.ref h7]) ⟨hx, hb, hml, hown, hts⟩ (nw7 l D ca h7 H.size) (cwI 0 hts (goodTB (TB_t 694 (by decide +kernel))) rfl rfl rfl (hts _ (TB_t 8 (by decide +kernel))) (hts _ (show Cond.methodLink R_law 12 yX7_init ∈ TB from TB_t 692 (by decide +kernel))) (hts _ (TB_t 693 (by decide +kernel))) rfl (by decide +kernel) ⟨Nat.le_of_ble_eq_true rfl, Nat.le_of_ble_eq_true rfl⟩) ⟨fun a U g mk q => by obtain ⟨q0, q1, qP, qK, qD⟩ := q; exact ⟨q0, q1, qP, va_K.moved (u := U) (U := U.calling g mk a) (Vm.Alike.refl U.vm) qK, qD⟩, fun U hU hW => ⟨rfl, by rw [hU], by rw [hU]; exact hPc, va_K.moved hW.alike hK, hDc.weaken (fun _ _ _ _ => trivial)⟩⟩ rfl rfl hl.1 rfl (lv_room (Nat.le_of_ble_eq_true rfl)) dL_law_12 ⟨show 66 + 13 ≤ 600000 by decide, show 847 + 2025 ≤ 7302250 by decide⟩) hS (fun q _ h => hFc q h) hFc (fun v t H1 locs ht hvm hv hB hz1 hk1 hS => ?_)
  obtain ⟨hP1, hD1⟩ := hB
  rw [ht] at hP1
  obtain ⟨hP, hD⟩ := va_join (wr := wC D ca u) (w1 := wM D ca v) hP hD [65] (List.range 65) rfl rfl (by decide) (by decide) hk1 hFc hP1 hD1
  generalize H1 = H at hP hS ⊢
  obtain ⟨hj, hge⟩ := inj_of (tS, tM) hD
  have hP := wd_of (tS, tM) hP
  have eu : adJ u v 0 = h6 := by show u 0 = h6; exact hu
  have ev : adJ u v 65 = h7 := by show v 65 = h7; exact hv
  rw [← eu] at hl
  rw [← ev]
  refine lv_astore_n (lv' := [(2, .ref (adJ u v 65)), (1, .ref (adJ u v 0)), (0, .ref b)]) hx hb dL_law_15 rfl hl (by decide) rfl (fun ls hl => ?_)
  refine lv_iconst (v := nI 0) hx hb dL_law_16 (by decide) ?_
  refine lv_istore_n (lv' := [(3, .int (nI 0)), (2, .ref (adJ u v 65)), (1, .ref (adJ u v 0)), (0, .ref b)]) hx hb dL_law_17 rfl hl (by decide) rfl (fun ls hl => ?_)
  refine W.widen (k := 1000) (n := 10000) (by decide) (by decide) ?_
  have hAA : ∀ q, AA (adJ u v, D, ca, (tS, tM)) q → s.heap.size ≤ q := fun q h => by obtain ⟨i, hi, rfl⟩ := h; exact hge i hi
  exact law_loop hSp (κ := ((p, l, e, s), (m, below, meth, c), (b, L, xs), (adJ u v, D, ca, (tS, tM)))) ⟨hx, hb, hr, hml, hown, hts, hX, hbl, hlocks, hK, hj, ⟨hZS.narrow hAA, hTS.narrow hAA, hZM.narrow hAA, hTM.narrow hAA⟩, hge, hL⟩ 512 0 σ0 (Nat.zero_le _) (by show L ≤ 0 + 6 * 512; omega) hRel H locs ls hP hS (lv_sub hl [3, 2, 1, 0] rfl)
