/-! LEAST, by the model: the costs -/
def Tbl (F : Fn) (M N e : Nat) (σ : St) : Prop := ∀ d, e ≤ d → d < F 2 → ∀ x, x < 4 → σ 78 (4 * d + x) = nI (CT (ftF F M N) (F 2) (F 2 - d) x)
section COST
variable {F : Fn} {M N : Nat}
theorem trm_le {C : Nat → Nat} {ft : Nat → Nat → Nat → Bool} {d dd t nx : Nat} (hC : ∀ x, C x ≤ 9999) (ht : t < 12) : trm ft C d dd t nx ≤ 20000 := by
  unfold trm
  split
  · have := hC (2 * (dd % 2) + nx); omega
  · omega
theorem cbn_le {C : Nat → Nat} {ft : Nat → Nat → Nat → Bool} {n d dd t : Nat} : cbn ft C n d dd t ≤ 9999 := by
  unfold cbn; split <;> omega
theorem cb_step {τ : St} {k : Int32 → St → Prop} {R : Int32 → Int32 → Int32 → St → Prop} (hM : StM 70 0 τ F) (hF : WF F) {d dd t nx m l lim : Nat} (hd : d < F 2) (hdd4 : dd < 4) (ht : t < 12) (m64 : M < 64) (n64 : N < 64) (hnx : nx < lim) (hlim : lim ≤ 2) (hm : m ≤ 9999) (hl : l = if F 2 - d - 1 = 0 then 1 else 0) (hT : Tbl F M N (d + 1) τ) (hk : R (nI (min m (trm (ftF F M N) (CT (ftF F M N) (F 2) (F 2 - d - 1)) d dd t nx))) (nI l) (nI (nx + 1)) τ) : x7_costBy_39 (nI d) (nI dd) (nI (t / 2)) (nI (t % 2)) (nI M) (nI N) R (nI m) (nI l) (nI nx) (nI lim) (nI nx) τ k := by
  have h62 := hF.2.2.2.1
  have r2 : nI dd % 2 = nI (dd % 2) := remI (d := 2) (by omega) (by decide) (by decide)
  have e119 : ∀ v, v ≤ 20000 → R (nI (min m v)) (nI l) (nI (nx + 1)) τ → x7_costBy_119 (nI d) (nI dd) (nI (t / 2)) (nI (t % 2)) (nI M) (nI N) R (nI m) (nI l) (nI nx) (nI v) τ k := by
    intro v hv h
    unfold x7_costBy_119 x7_costBy_135
    rw [show nI nx + 1 = nI (nx + 1) from nI_1 nx]
    by_cases z : m ≤ v
    · rw [show min m v = m by omega] at h
      rw [if_pos (nI_le z (by omega))]; exact h
    · rw [show min m v = v by omega] at h
      rw [if_neg (nI_ge (by omega) (by omega))]; exact h
  have e57 : x7_costBy_57 (nI d) (nI dd) (nI (t / 2)) (nI (t % 2)) (nI M) (nI N) R (nI m) (nI l) (nI nx) (nI (hdd dd nx)) τ k := by
    unfold x7_costBy_57
    have h01 : hdd dd nx ≤ 1 := by
      unfold hdd
      rcases h3_01 (dd / 2) (dd % 2) nx with q | q <;> omega
    refine s7_fits hM hF hd (by omega) (by omega) h01 m64 n64 ?_
    show if _ then _ else _
    have ef : fit F M N d (t / 2) (t % 2) (hdd dd nx) = ftF F M N d t (hdd dd nx) := rfl
    rw [ef]
    unfold trm at hk
    cases e : ftF F M N d t (hdd dd nx) with
    | false =>
      rw [e, if_neg (by decide)] at hk
      rw [if_pos (by decide)]
      exact e119 9999 (by decide) hk
    | true =>
      rw [e, if_pos rfl] at hk
      rw [if_neg (by decide)]
      refine ⟨by decide, ?_⟩
      unfold x7_costBy_112
      rw [r2, nI_add, nI_add]
      by_cases z : F 2 - d - 1 = 0
      · have hl1 : l = 1 := by rw [hl, if_pos z]
        rw [z] at hk
        have hk : R (nI (min m (t / 2 + t % 2 + dd % 2 + 0))) (nI l) (nI (nx + 1)) τ := hk
        rw [if_neg (by rw [hl1]; decide), show (0 : Int32) = nI 0 from rfl, nI_add]
        exact e119 _ (by omega) hk
      · have hl0 : l = 0 := by rw [hl, if_neg z]
        have ei : ((4 * nI d + 4) + (nI (dd % 2) * 2) + nI nx : Int32) = nI (4 * (d + 1) + (2 * (dd % 2) + nx)) := by
          rw [show (4 : Int32) = nI 4 from rfl, show (2 : Int32) = nI 2 from rfl, pk_mul, pk_mul, nI_add, nI_add, nI_add, show 4 * d + 4 + dd % 2 * 2 + nx = 4 * (d + 1) + (2 * (dd % 2) + nx) by omega]
        have hv := hT (d + 1) (Nat.le_refl _) (by omega) (2 * (dd % 2) + nx) (by omega)
        rw [show F 2 - (d + 1) = F 2 - d - 1 by omega] at hv
        have c9 := CT_9 (ft := ftF F M N) (D := F 2) (n := F 2 - d - 1) (dd := 2 * (dd % 2) + nx)
        rw [if_pos (by rw [hl0]; rfl), ei, nI_clamp (by omega), hv, nI_add]
        exact ⟨by decide, (vpI (by omega)).mpr (by show _ < 28; omega), e119 _ (by omega) hk⟩
  unfold x7_costBy_39 x7_costBy_52
  rw [if_neg (nI_ge hnx (by omega))]
  by_cases z : 0 < dd
  · have eh : hdd dd nx = 1 := by unfold hdd h3; rw [if_pos (by omega)]
    rw [eh] at e57
    rw [if_pos (show (0 : Int32) < nI dd by rw [show (0 : Int32) = nI 0 from rfl, nI_ltI (by decide) (by omega)]; exact z)]
    exact e57
  · rw [if_neg (show ¬ (0 : Int32) < nI dd by rw [show (0 : Int32) = nI 0 from rfl, nI_ltI (by decide) (by omega)]; exact z)]
    by_cases y : nx = 1
    · have eh : hdd dd nx = 1 := by unfold hdd h3; rw [if_pos (by omega)]
      rw [eh] at e57
      rw [if_pos (by rw [y]; rfl)]
      exact e57
    · have eh : hdd dd nx = 0 := by unfold hdd h3; rw [if_neg (by omega)]
      rw [eh] at e57
      rw [if_neg (by rw [show (1 : Int32) = nI 1 from rfl, nI_eq (by omega) (by decide)]; exact y)]
      exact e57
theorem s7_costBy {τ : St} {k : Int32 → St → Prop} (hM : StM 70 0 τ F) (hF : WF F) {d dd t : Nat} (hd : d < F 2) (hdd4 : dd < 4) (ht : t < 12) (m64 : M < 64) (n64 : N < 64) (hT : Tbl F M N (d + 1) τ) (hk : k (nI (cbn (ftF F M N) (CT (ftF F M N) (F 2) (F 2 - d - 1)) (F 2 - d - 1) d dd t)) τ) : x7_costBy (nI d) (nI dd) (nI (t / 2)) (nI (t % 2)) (nI M) (nI N) τ k := by
  have h62 := hF.2.2.2.1
  unfold x7_costBy x7_costBy_22
  rw [show (2 : Int32).toNatClampNeg = 2 from rfl, m70 hM (show 2 < 53 by decide), show nI d + 1 = nI (d + 1) from nI_1 d, show (9999 : Int32) = nI 9999 from rfl]
  refine ⟨vq (j := 2) (by decide), ?_⟩
  unfold cbn at hk
  by_cases z : F 2 - d - 1 = 0
  · rw [if_pos z] at hk
    rw [if_pos (by rw [show d + 1 = F 2 by omega])]
    refine ⟨2, ?_⟩
    unfold x7_costBy_27
    rw [if_neg (by decide)]
    refine cb_step (l := 1) (nx := 0) (lim := 1) (m := 9999) hM hF hd hdd4 ht m64 n64 (by decide) (by decide) (by decide) (by rw [if_pos z]) hT ?_
    unfold x7_costBy_27
    rw [if_neg (by decide)]
    unfold x7_costBy_39
    rw [if_pos (by decide)]
    exact hk
  · rw [if_neg z] at hk
    rw [if_neg (by rw [nI_eq (by omega) (by omega)]; omega)]
    refine ⟨3, ?_⟩
    unfold x7_costBy_27
    rw [if_pos rfl]
    refine cb_step (l := 0) (nx := 0) (lim := 2) (m := 9999) hM hF hd hdd4 ht m64 n64 (by decide) (by decide) (by decide) (by rw [if_neg z]) hT ?_
    unfold x7_costBy_27
    rw [if_pos (show nI 0 = 0 from rfl)]
    refine cb_step (l := 0) (nx := 1) (lim := 2) hM hF hd hdd4 ht m64 n64 (by decide) (by decide) (by omega) (by rw [if_neg z]) hT ?_
    unfold x7_costBy_27
    rw [if_pos (show nI 0 = 0 from rfl)]
    unfold x7_costBy_39
    rw [if_pos (by decide)]
    exact hk
theorem Tbl.k78 {σ σ' : St} {e : Nat} (h : Tbl F M N e σ) (q : σ' 78 = σ 78) : Tbl F M N e σ' := fun d h1 h2 x hx => by rw [q]; exact h d h1 h2 x hx
theorem s7_lc_30 {σ : St} {k : St → Prop} {R9 : Int32 → St → Prop} {R16 : Int32 → Int32 → St → Prop} (hM : StM 70 0 σ F) (hF : WF F) {d dd : Nat} (hd : d < F 2) (hdd4 : dd < 4) (m64 : M < 64) (n64 : N < 64) (hT : Tbl F M N (d + 1) σ) (hk : R16 (nI d) (nI (dd + 1)) (st_up σ 78 (4 * d + dd) (nI (CT (ftF F M N) (F 2) (F 2 - d) dd)))) : ∀ m t, t ≤ 12 → 12 < t + m → x7_layCosts_30 (nI M) (nI N) R9 R16 k m (nI d) (nI dd) (nI (mnL (fun t => cbn (ftF F M N) (CT (ftF F M N) (F 2) (F 2 - d - 1)) (F 2 - d - 1) d dd t) t)) (nI t) σ := by
  have h62 := hF.2.2.2.1
  intro m
  induction m with
  | zero => intro t h1 h2; omega
  | succ m ih =>
    intro t h1 h2
    unfold x7_layCosts_30 x7_layCosts_70
    by_cases z : 12 ≤ t
    · have : t = 12 := by omega
      subst this
      have ei : (4 * nI d + nI dd : Int32) = nI (4 * d + dd) := by rw [show (4 : Int32) = nI 4 from rfl, pk_mul, nI_add]
      rw [if_pos (by decide), ei, nI_clamp (by omega), show nI dd + 1 = nI (dd + 1) from nI_1 dd]
      refine ⟨(vpI (by omega)).mpr (by show _ < 28; omega), ?_⟩
      have ec : CT (ftF F M N) (F 2) (F 2 - d) dd = mnL (fun t => cbn (ftF F M N) (CT (ftF F M N) (F 2) (F 2 - d - 1)) (F 2 - d - 1) d dd t) 12 := by
        have : ∀ n, n + 1 = F 2 - d → CT (ftF F M N) (F 2) (n + 1) dd = mnL (fun t => cbn (ftF F M N) (CT (ftF F M N) (F 2) n) n d dd t) 12 := by
          intro n hn
          show mnL (fun t => cbn (ftF F M N) (CT (ftF F M N) (F 2) n) n (F 2 - (n + 1)) dd t) 12 = _
          rw [show F 2 - (n + 1) = d by omega]
        have := this (F 2 - d - 1) (by omega)
        rwa [show F 2 - d - 1 + 1 = F 2 - d by omega] at this
      rw [ec] at hk
      exact hk
    · rw [if_neg (show ¬ (12 : Int32) ≤ nI t from nI_ge (show t < 12 by omega) (by decide))]
      refine ⟨by decide, by decide, ?_⟩
      have r1 : nI t / 2 = nI (t / 2) := divI (d := 2) (by omega) (by decide) (by decide)
      have r2 : nI t % 2 = nI (t % 2) := remI (d := 2) (by omega) (by decide) (by decide)
      rw [r1, r2]
      refine s7_costBy hM hF hd hdd4 (by omega) m64 n64 hT ?_
      have ih' := ih (t + 1) (by omega) (by omega)
      have es : mnL (fun t => cbn (ftF F M N) (CT (ftF F M N) (F 2) (F 2 - d - 1)) (F 2 - d - 1) d dd t) (t + 1) = min (mnL (fun t => cbn (ftF F M N) (CT (ftF F M N) (F 2) (F 2 - d - 1)) (F 2 - d - 1) d dd t) t) (cbn (ftF F M N) (CT (ftF F M N) (F 2) (F 2 - d - 1)) (F 2 - d - 1) d dd t) := rfl
      rw [es] at ih'
      have b1 := mnL_9 (f := fun t => cbn (ftF F M N) (CT (ftF F M N) (F 2) (F 2 - d - 1)) (F 2 - d - 1) d dd t) t
      have b2 := cbn_le (ft := ftF F M N) (C := CT (ftF F M N) (F 2) (F 2 - d - 1)) (n := F 2 - d - 1) (d := d) (dd := dd) (t := t)
      show if _ then _ else _
      rw [show nI t + 1 = nI (t + 1) from nI_1 t]
      generalize mnL (fun t => cbn (ftF F M N) (CT (ftF F M N) (F 2) (F 2 - d - 1)) (F 2 - d - 1) d dd t) t = X at *
      generalize cbn (ftF F M N) (CT (ftF F M N) (F 2) (F 2 - d - 1)) (F 2 - d - 1) d dd t = Y at *
      by_cases y : X ≤ Y
      · rw [show min X Y = X by omega] at ih'
        rw [if_pos (nI_le y (by omega))]; exact ih'
      · rw [show min X Y = Y by omega] at ih'
        rw [if_neg (nI_ge (by omega) (by omega))]; exact ih'
theorem s7_lc_16 {σ : St} {k : St → Prop} {R9 : Int32 → St → Prop} (hF : WF F) {d : Nat} (hd : d < F 2) (m64 : M < 64) (n64 : N < 64) (hk : ∀ σ', Tbl F M N d σ' → (∀ i, i ≠ 78 → σ' i = σ i) → R9 (nI d - 1) σ') : ∀ m dd τ, dd ≤ 4 → 4 < dd + m → StM 70 0 τ F → Tbl F M N (d + 1) τ → (∀ x, x < dd → τ 78 (4 * d + x) = nI (CT (ftF F M N) (F 2) (F 2 - d) x)) → (∀ i, i ≠ 78 → τ i = σ i) → x7_layCosts_16 (nI M) (nI N) R9 k m (nI d) (nI dd) τ := by
  intro m
  induction m with
  | zero => intro dd τ h1 h2; omega
  | succ m ih =>
    intro dd τ h1 h2 hM hT hx hfr
    unfold x7_layCosts_16
    by_cases z : 4 ≤ dd
    · have : dd = 4 := by omega
      subst this
      rw [if_pos (by decide), show nI d + (-1) = nI d - 1 from (Int32.sub_eq_add_neg (nI d) 1).symm]
      refine hk τ (fun e h3 h4 x hx4 => ?_) hfr
      by_cases y : e = d
      · subst y; exact hx x hx4
      · exact hT e (by omega) h4 x hx4
    · rw [if_neg (show ¬ (4 : Int32) ≤ nI dd from nI_ge (show dd < 4 by omega) (by decide))]
      refine ⟨13, s7_lc_30 hM hF hd (by omega) m64 n64 hT ?_ 13 0 (by decide) (by decide)⟩
      refine ih (dd + 1) _ (by omega) (by omega) (hM.cell (st_up_ne _ _ _ (by decide))) (fun e h3 h4 x hx4 => ?_) (fun x hx' => ?_) (fun i hi => by rw [st_up_ne _ _ _ hi]; exact hfr i hi)
      · rw [up_n _ _ (Or.inr (by omega))]; exact hT e h3 h4 x hx4
      · by_cases y : x = dd
        · subst y; rw [up_s]
        · rw [up_n _ _ (Or.inr (by omega))]; exact hx x (by omega)
theorem s7_lc_9 {σ : St} {k : St → Prop} (hM : StM 70 0 σ F) (hF : WF F) (m64 : M < 64) (n64 : N < 64) (hk : ∀ σ', Tbl F M N 0 σ' → (∀ i, i ≠ 78 → σ' i = σ i) → k σ') : ∀ e τ, e ≤ F 2 → Tbl F M N e τ → (∀ i, i ≠ 78 → τ i = σ i) → x7_layCosts_9 (nI M) (nI N) k (e + 1) (nI e - 1) τ := by
  have h62 := hF.2.2.2.1
  intro e
  induction e with
  | zero =>
    intro τ h1 hT hfr
    unfold x7_layCosts_9
    rw [if_pos (by decide)]
    exact hk τ hT hfr
  | succ d ih =>
    intro τ h1 hT hfr
    unfold x7_layCosts_9
    rw [show nI (d + 1) - 1 = nI d by rw [show (1 : Int32) = nI 1 from rfl, pk_sub (by omega)]; rfl, if_neg (nI_pos (by omega))]
    refine ⟨5, s7_lc_16 (σ := σ) hF (by omega) m64 n64 (fun σ' t f => ?_) 5 0 τ (by decide) (by decide) (hM.cell (hfr 70 (by decide))) hT (fun x hx => absurd hx (Nat.not_lt_zero _)) hfr⟩
    exact ih σ' (by omega) t f
theorem s7_layCosts {σ : St} {k : St → Prop} (hM : StM 70 0 σ F) (hF : WF F) (m64 : M < 64) (n64 : N < 64) (hk : ∀ σ', Tbl F M N 0 σ' → (∀ i, i ≠ 78 → σ' i = σ i) → k σ') : x7_layCosts (nI M) (nI N) σ k := by
  unfold x7_layCosts lt
  rw [show (2 : Int32).toNatClampNeg = 2 from rfl, m70 hM (show 2 < 53 by decide)]
  exact ⟨vq (j := 2) (by decide), F 2 + 1, s7_lc_9 hM hF m64 n64 hk (F 2) σ (Nat.le_refl _) (fun d h1 h2 => by omega) (fun _ _ => rfl)⟩
end COST
