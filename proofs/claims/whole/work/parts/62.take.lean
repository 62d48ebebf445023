/-! ===== pure: a new valley taken over, both sides (own work) ===== -/
theorem v73 (t0 : St) : ∃ t, f_X8_valley_73 0 t0 = f_X8_valley_122 0 t ∧ (∀ k, k ≠ 1 → k ≠ 2 → k ≠ 3 → t.1 k = t0.1 k) ∧ ∀ j, j < 5 → t.1 1 j = t0.1 14 j ∧ t.1 2 j = t0.1 15 j ∧ t.1 3 j = t0.1 16 j := by
  unfold f_X8_valley_73
  refine lp_x (fun d q => ∃ i t, i + d = 5 ∧ q = (nI i, t) ∧ (∀ k, k ≠ 1 → k ≠ 2 → k ≠ 3 → t.1 k = t0.1 k) ∧ ∀ j, j < i → t.1 1 j = t0.1 14 j ∧ t.1 2 j = t0.1 15 j ∧ t.1 3 j = t0.1 16 j) (fun (t : St) => f_X8_valley_122 0 t) (fun (t : St) => (∀ k, k ≠ 1 → k ≠ 2 → k ≠ 3 → t.1 k = t0.1 k) ∧ ∀ j, j < 5 → t.1 1 j = t0.1 14 j ∧ t.1 2 j = t0.1 15 j ∧ t.1 3 j = t0.1 16 j) ?_ 100000 5 _ (by omega) ⟨0, t0, by omega, rfl, fun _ _ _ _ => rfl, fun j hj => by omega⟩
  rintro d rec _ ⟨i, t, hi, rfl, p1, p3⟩ ih
  show ∃ z, b_X8_valley_73 rec (nI i) t = _ ∧ _
  unfold b_X8_valley_73
  rw [show (5 : Int32) = nI 5 from rfl]
  cases d with
  | zero =>
    have : i = 5 := by omega
    subst this
    rw [if_pos (nI_le (by omega) (by omega))]
    exact ⟨t, rfl, p1, p3⟩
  | succ d =>
    rw [if_neg (nI_ge (by omega) (by omega))]
    simp only [rd_n (show i < 5 by omega) (show 5 < 2 ^ 31 by omega), ck_n (show i < 5 by omega) (show 5 < 2 ^ 31 by omega), nm_d, nI_clamp (show i < 2 ^ 31 by omega), nI_1]
    rw [sR_ne _ _ (show 15 ≠ 1 by omega), sR_ne _ _ (show 16 ≠ 2 by omega), sR_ne _ _ (show 16 ≠ 1 by omega), p1 14 (by omega) (by omega) (by omega), p1 15 (by omega) (by omega) (by omega), p1 16 (by omega) (by omega) (by omega)]
    refine ih d _ (by omega) ⟨i + 1, _, by omega, rfl, fun k k1 k2 k3 => by rw [sR_ne _ _ k3, sR_ne _ _ k2, sR_ne _ _ k1]; exact p1 k k1 k2 k3, fun j hj => ?_⟩
    rw [sR_ne _ _ (show 1 ≠ 3 by omega), sR_ne _ _ (show 1 ≠ 2 by omega), sR_at, sR_ne _ _ (show 2 ≠ 3 by omega), sR_at, sR_ne _ _ (show 2 ≠ 1 by omega), sR_at, sR_ne _ _ (show 3 ≠ 2 by omega), sR_ne _ _ (show 3 ≠ 1 by omega)]
    by_cases z : j = i
    · subst z; rw [pk_us, pk_us, pk_us]; exact ⟨rfl, rfl, rfl⟩
    · rw [pk_un z, pk_un z, pk_un z]; exact p3 j (by omega)
theorem bg48 (t0 : St) : ∃ t, f_X8_begin_48 0 t0 = some (sI (sI t 0 17 0) 0 18 0) ∧ (∀ k, k ≠ 9 → k ≠ 10 → t.1 k = t0.1 k) ∧ ∀ j, j < 5 → t.1 9 j = 0 ∧ t.1 10 j = 0 := by
  unfold f_X8_begin_48
  refine lp_x (fun d q => ∃ i t, i + d = 5 ∧ q = (nI i, t) ∧ (∀ k, k ≠ 9 → k ≠ 10 → t.1 k = t0.1 k) ∧ ∀ j, j < i → t.1 9 j = 0 ∧ t.1 10 j = 0) (fun (t : St) => some (sI (sI t 0 17 0) 0 18 0)) (fun (t : St) => (∀ k, k ≠ 9 → k ≠ 10 → t.1 k = t0.1 k) ∧ ∀ j, j < 5 → t.1 9 j = 0 ∧ t.1 10 j = 0) ?_ 100000 5 _ (by omega) ⟨0, t0, by omega, rfl, fun _ _ _ => rfl, fun j hj => by omega⟩
  rintro d rec _ ⟨i, t, hi, rfl, p1, p3⟩ ih
  show ∃ z, b_X8_begin_48 rec (nI i) t = _ ∧ _
  unfold b_X8_begin_48
  rw [show (5 : Int32) = nI 5 from rfl]
  cases d with
  | zero =>
    have : i = 5 := by omega
    subst this
    rw [if_pos (nI_le (by omega) (by omega))]
    exact ⟨t, rfl, p1, p3⟩
  | succ d =>
    rw [if_neg (nI_ge (by omega) (by omega))]
    simp only [ck_n (show i < 5 by omega) (show 5 < 2 ^ 31 by omega), nm_d, nI_clamp (show i < 2 ^ 31 by omega), nI_1]
    refine ih d _ (by omega) ⟨i + 1, _, by omega, rfl, fun k k1 k2 => by rw [sR_ne _ _ k2, sR_ne _ _ k1]; exact p1 k k1 k2, fun j hj => ?_⟩
    rw [sR_ne _ _ (show 9 ≠ 10 by omega), sR_at, sR_at, sR_ne _ _ (show 10 ≠ 9 by omega)]
    by_cases z : j = i
    · subst z; rw [pk_us, pk_us]; exact ⟨rfl, rfl⟩
    · rw [pk_un z, pk_un z]; exact p3 j (by omega)
theorem bg2 (t0 : St) : ∃ t, f_X8_begin_2 0 t0 = f_X8_begin_48 0 (sI (sI (sI (sI (sI t 0 10 (-1)) 0 11 (-1)) 0 12 (-1)) 0 13 0) 0 14 0) ∧ (∀ k, k ≠ 8 → t.1 k = t0.1 k) ∧ ∀ j, j < 8 → t.1 8 j = 0 := by
  unfold f_X8_begin_2
  refine lp_x (fun d q => ∃ i t, i + d = 8 ∧ q = (nI i, t) ∧ (∀ k, k ≠ 8 → t.1 k = t0.1 k) ∧ ∀ j, j < i → t.1 8 j = 0) (fun (t : St) => f_X8_begin_48 0 (sI (sI (sI (sI (sI t 0 10 (-1)) 0 11 (-1)) 0 12 (-1)) 0 13 0) 0 14 0)) (fun (t : St) => (∀ k, k ≠ 8 → t.1 k = t0.1 k) ∧ ∀ j, j < 8 → t.1 8 j = 0) ?_ 100000 8 _ (by omega) ⟨0, t0, by omega, rfl, fun _ _ => rfl, fun j hj => by omega⟩
  rintro d rec _ ⟨i, t, hi, rfl, p1, p3⟩ ih
  show ∃ z, b_X8_begin_2 rec (nI i) t = _ ∧ _
  unfold b_X8_begin_2
  rw [show (8 : Int32) = nI 8 from rfl]
  cases d with
  | zero =>
    have : i = 8 := by omega
    subst this
    rw [if_pos (nI_le (by omega) (by omega))]
    exact ⟨t, rfl, p1, p3⟩
  | succ d =>
    rw [if_neg (nI_ge (by omega) (by omega)), ck_n (by omega) (by omega), nm_d, nI_clamp (by omega), nI_1]
    refine ih d _ (by omega) ⟨i + 1, _, by omega, rfl, fun k k1 => by rw [sR_ne _ _ k1]; exact p1 k k1, fun j hj => ?_⟩
    rw [sR_at]
    by_cases z : j = i
    · subst z; rw [pk_us]
    · rw [pk_un z]; exact p3 j (by omega)
theorem bgM (t0 : St) : ∃ t, f_X8_begin t0 = some t ∧ (∀ k, k ≠ 0 → k ≠ 8 → k ≠ 9 → k ≠ 10 → t.1 k = t0.1 k) ∧ (∀ j, j < 8 → t.1 8 j = 0) ∧ (∀ j, j < 5 → t.1 9 j = 0 ∧ t.1 10 j = 0) ∧ t.1 0 10 = -1 ∧ t.1 0 11 = -1 ∧ t.1 0 12 = -1 ∧ t.1 0 13 = 0 ∧ t.1 0 14 = 0 ∧ t.1 0 17 = 0 ∧ t.1 0 18 = 0 ∧ ∀ j, j < 10 ∨ 18 < j → t.1 0 j = t0.1 0 j := by
  obtain ⟨t1, a1, a2, a3⟩ := bg2 t0
  obtain ⟨t2, b1, b2, b3⟩ := bg48 (sI (sI (sI (sI (sI t1 0 10 (-1)) 0 11 (-1)) 0 12 (-1)) 0 13 0) 0 14 0)
  unfold f_X8_begin
  rw [a1, b1]
  have c0 : t2.1 0 = upd (upd (upd (upd (upd (t0.1 0) 10 (-1)) 11 (-1)) 12 (-1)) 13 0) 14 0 := by
    rw [b2 0 (by omega) (by omega), sR_at, sR_at, sR_at, sR_at, sR_at, a2 0 (by omega)]
  have d0 : (sI (sI t2 0 17 0) 0 18 0).1 0 = upd (upd (upd (upd (upd (upd (upd (t0.1 0) 10 (-1)) 11 (-1)) 12 (-1)) 13 0) 14 0) 17 0) 18 0 := by
    rw [sR_at, sR_at, c0]
  have ck : ∀ k, k ≠ 0 → k ≠ 9 → k ≠ 10 → (sI (sI t2 0 17 0) 0 18 0).1 k = t1.1 k := fun k k0 k1 k2 => by
    rw [sR_ne _ _ k0, sR_ne _ _ k0, b2 k k1 k2, sR_ne _ _ k0, sR_ne _ _ k0, sR_ne _ _ k0, sR_ne _ _ k0, sR_ne _ _ k0]
  refine ⟨_, rfl, fun k k0 k8 k9 k10 => by rw [ck k k0 k9 k10]; exact a2 k k8, fun j hj => by rw [ck 8 (by omega) (by omega) (by omega)]; exact a3 j hj, fun j hj => ?_, by rw [d0]; rfl, by rw [d0]; rfl, by rw [d0]; rfl, by rw [d0]; rfl, by rw [d0]; rfl, by rw [d0]; rfl, by rw [d0]; rfl, fun j hj => ?_⟩
  · rw [sR_ne _ _ (show 9 ≠ 0 by omega), sR_ne _ _ (show 9 ≠ 0 by omega), sR_ne _ _ (show 10 ≠ 0 by omega), sR_ne _ _ (show 10 ≠ 0 by omega)]
    exact b3 j hj
  · rw [d0, pk_un (by omega), pk_un (by omega), pk_un (by omega), pk_un (by omega), pk_un (by omega), pk_un (by omega), pk_un (by omega)]
theorem v122 (t0 : St) : ∃ t, f_X8_valley_122 0 t0 = some (t.1 0 4, t) ∧ (∀ k, k = 0 ∨ (8 ≤ k ∧ k ≤ 10) ∨ (4 ≤ k ∧ k ≤ 7) ∨ k = 28 ∨ t.1 k = t0.1 k) ∧ (∀ j, j < 8 → t.1 4 j = t0.1 17 j ∧ t.1 5 j = t0.1 18 j ∧ t.1 6 j = t0.1 19 j ∧ t.1 7 j = t0.1 20 j) ∧ t.1 28 0 = 0 ∧ t.1 28 1 = 0 ∧ t.1 0 44 = 0 ∧ (∀ j, j < 8 → t.1 8 j = 0) ∧ (∀ j, j < 5 → t.1 9 j = 0 ∧ t.1 10 j = 0) ∧ t.1 0 10 = -1 ∧ t.1 0 11 = -1 ∧ t.1 0 12 = -1 ∧ t.1 0 13 = 0 ∧ t.1 0 14 = 0 ∧ t.1 0 17 = 0 ∧ t.1 0 18 = 0 ∧ ∀ j, j < 10 ∨ 18 < j → j ≠ 44 → t.1 0 j = t0.1 0 j := by
  unfold f_X8_valley_122
  refine lp_x (fun d q => ∃ i t, i + d = 8 ∧ q = (nI i, t) ∧ (∀ k, (k < 4 ∨ 7 < k) → t.1 k = t0.1 k) ∧ ∀ j, j < i → t.1 4 j = t0.1 17 j ∧ t.1 5 j = t0.1 18 j ∧ t.1 6 j = t0.1 19 j ∧ t.1 7 j = t0.1 20 j) (fun (t : St) => some (t.1 0 4, t)) (fun (t : St) => (∀ k, k = 0 ∨ (8 ≤ k ∧ k ≤ 10) ∨ (4 ≤ k ∧ k ≤ 7) ∨ k = 28 ∨ t.1 k = t0.1 k) ∧ (∀ j, j < 8 → t.1 4 j = t0.1 17 j ∧ t.1 5 j = t0.1 18 j ∧ t.1 6 j = t0.1 19 j ∧ t.1 7 j = t0.1 20 j) ∧ t.1 28 0 = 0 ∧ t.1 28 1 = 0 ∧ t.1 0 44 = 0 ∧ (∀ j, j < 8 → t.1 8 j = 0) ∧ (∀ j, j < 5 → t.1 9 j = 0 ∧ t.1 10 j = 0) ∧ t.1 0 10 = -1 ∧ t.1 0 11 = -1 ∧ t.1 0 12 = -1 ∧ t.1 0 13 = 0 ∧ t.1 0 14 = 0 ∧ t.1 0 17 = 0 ∧ t.1 0 18 = 0 ∧ ∀ j, j < 10 ∨ 18 < j → j ≠ 44 → t.1 0 j = t0.1 0 j) ?_ 100000 8 _ (by omega) ⟨0, t0, by omega, rfl, fun _ _ => rfl, fun j hj => by omega⟩
  rintro d rec _ ⟨i, t, hi, rfl, p1, p3⟩ ih
  show ∃ z, b_X8_valley_122 rec (nI i) t = _ ∧ _
  unfold b_X8_valley_122
  rw [show (8 : Int32) = nI 8 from rfl]
  cases d with
  | zero =>
    have : i = 8 := by omega
    subst this
    rw [if_pos (nI_le (by omega) (by omega)), show inb 0 2 = true by decide, show inb 1 2 = true by decide, nm_d, ck_t, nm_d, ck_t, nm_d, show vp_nar .boolean 0 = 0 by decide +kernel, show (0 : Int32).toNatClampNeg = 0 by decide +kernel, show (1 : Int32).toNatClampNeg = 1 by decide +kernel]
    obtain ⟨t1, c1, c2, c3, c4, c5, c6, c7, c8, c9, c10, c11, c12⟩ := bgM (sI (sI (sI t 0 44 0) 28 0 0) 28 1 0)
    rw [c1, bv_s]
    have gk : ∀ k, k ≠ 0 → k ≠ 28 → k < 8 ∨ 10 < k → t1.1 k = t.1 k := fun k k0 k28 k8 => by rw [c2 k k0 (by omega) (by omega) (by omega), sR_ne _ _ k28, sR_ne _ _ k28, sR_ne _ _ k0]
    have g28 : t1.1 28 = upd (upd (t.1 28) 0 0) 1 0 := by rw [c2 28 (by omega) (by omega) (by omega) (by omega), sR_at, sR_at, sR_ne _ _ (by omega)]
    have g0 : ∀ j, j < 10 ∨ 18 < j → t1.1 0 j = upd (t.1 0) 44 0 j := fun j hj => by rw [c12 j hj, sR_ne _ _ (by omega), sR_ne _ _ (by omega), sR_at]
    refine ⟨t1, rfl, fun k => ?_, fun j hj => ?_, by rw [g28]; rfl, by rw [g28]; rfl, by rw [g0 44 (by omega), pk_us], c3, c4, c5, c6, c7, c8, c9, c10, c11, fun j hj h44 => by rw [g0 j hj, pk_un h44, p1 0 (by omega)]⟩
    · by_cases h : k = 0 ∨ (8 ≤ k ∧ k ≤ 10) ∨ (4 ≤ k ∧ k ≤ 7) ∨ k = 28
      · omega
      · have : t1.1 k = t0.1 k := by rw [gk k (by omega) (by omega) (by omega), p1 k (by omega)]
        exact Or.inr (Or.inr (Or.inr (Or.inr this)))
    · rw [gk 4 (by omega) (by omega) (by omega), gk 5 (by omega) (by omega) (by omega), gk 6 (by omega) (by omega) (by omega), gk 7 (by omega) (by omega) (by omega)]
      exact p3 j hj
  | succ d =>
    rw [if_neg (nI_ge (by omega) (by omega))]
    simp only [rd_n (show i < 8 by omega) (show 8 < 2 ^ 31 by omega), ck_n (show i < 8 by omega) (show 8 < 2 ^ 31 by omega), nm_d, nI_clamp (show i < 2 ^ 31 by omega), nI_1]
    have hr : ∀ (k : Nat), 8 ≤ k → ∀ (x y z : Int32), (sI t 4 i x).1 k = t0.1 k ∧ (sI (sI t 4 i x) 5 i y).1 k = t0.1 k ∧ (sI (sI (sI t 4 i x) 5 i y) 6 i z).1 k = t0.1 k := fun k hk x y z => by
      rw [sR_ne _ _ (show k ≠ 6 by omega), sR_ne _ _ (show k ≠ 5 by omega), sR_ne _ _ (show k ≠ 4 by omega), p1 k (by omega)]; exact ⟨rfl, rfl, rfl⟩
    rw [p1 17 (by omega), (hr 18 (by omega) _ 0 0).1, (hr 19 (by omega) _ _ 0).2.1, (hr 20 (by omega) _ _ _).2.2]
    refine ih d _ (by omega) ⟨i + 1, _, by omega, rfl, fun k k1 => by rw [sR_ne _ _ (by omega), sR_ne _ _ (by omega), sR_ne _ _ (by omega), sR_ne _ _ (by omega)]; exact p1 k k1, fun j hj => ?_⟩
    rw [sR_ne _ _ (show 4 ≠ 7 by omega), sR_ne _ _ (show 4 ≠ 6 by omega), sR_ne _ _ (show 4 ≠ 5 by omega), sR_at, sR_ne _ _ (show 5 ≠ 7 by omega), sR_ne _ _ (show 5 ≠ 6 by omega), sR_at, sR_ne _ _ (show 5 ≠ 4 by omega), sR_ne _ _ (show 6 ≠ 7 by omega), sR_at, sR_ne _ _ (show 6 ≠ 5 by omega), sR_ne _ _ (show 6 ≠ 4 by omega), sR_at, sR_ne _ _ (show 7 ≠ 6 by omega), sR_ne _ _ (show 7 ≠ 5 by omega), sR_ne _ _ (show 7 ≠ 4 by omega)]
    by_cases z : j = i
    · subst z; rw [pk_us, pk_us, pk_us, pk_us]; exact ⟨rfl, rfl, rfl, rfl⟩
    · rw [pk_un z, pk_un z, pk_un z, pk_un z]; exact p3 j (by omega)
