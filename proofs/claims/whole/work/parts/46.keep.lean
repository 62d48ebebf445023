/-! ===== pure: rulers kept (own work) ===== -/
def KR (σ τ : St) : Prop := ∃ k, k ≤ 200 ∧ σ.1 19 6 = nI k ∧ τ.1 0 18 = nI k ∧ ∀ i, i < k → σ.1 27 i = τ.1 11 i ∧ σ.1 28 i = τ.1 12 i
theorem keepC {σ : St} {w k : Nat} (hw : w < 8) (hk : k < 200) (e : σ.1 19 6 = nI k) : f_X0_keepRuler (nI w) σ = some (sI (sI (sI σ 27 k (nI w)) 28 k (σ.1 29 w)) 19 6 (nI (k + 1))) := by
  unfold f_X0_keepRuler
  have h200 : ¬ (200 : Int32) ≤ nI k := nI_ge (b := 200) hk (by omega)
  have a1 : (sI σ 27 k (nI w)).1 19 6 = nI k := by rw [sR_ne _ _ (by omega)]; exact e
  have a2 : (sI σ 27 k (nI w)).1 29 w = σ.1 29 w := by rw [sR_ne _ _ (by omega)]
  have a3 : (sI (sI σ 27 k (nI w)) 28 k (σ.1 29 w)).1 19 6 = nI k := by rw [sR_ne _ _ (by omega), sR_ne _ _ (by omega)]; exact e
  rw [e, if_neg h200, ck_n hk (by omega), nm_d, nI_clamp (by omega), rd_n hw (by omega), a1, a2, ck_n hk (by omega), nm_d, nI_clamp (by omega), nm_d, a3, nI_1]
theorem keepM {τ : St} {w k : Nat} (hw : w < 8) (hk : k < 200) (e : τ.1 0 18 = nI k) : f_X8_dawnNow_134 (nI w) τ = f_X8_dawnNow_180 (nI w) (sI (sI (sI τ 11 k (nI w)) 12 k (τ.1 21 w)) 0 18 (nI (k + 1))) := by
  unfold f_X8_dawnNow_134
  generalize f_X8_dawnNow_180 (nI w) = G
  have h200 : ¬ (200 : Int32) ≤ nI k := nI_ge (b := 200) hk (by omega)
  have a1 : (sI τ 11 k (nI w)).1 0 18 = nI k := by rw [sR_ne _ _ (by omega)]; exact e
  have a2 : (sI τ 11 k (nI w)).1 21 w = τ.1 21 w := by rw [sR_ne _ _ (by omega)]
  have a3 : (sI (sI τ 11 k (nI w)) 12 k (τ.1 21 w)).1 0 18 = nI k := by rw [sR_ne _ _ (by omega), sR_ne _ _ (by omega)]; exact e
  rw [e, if_neg h200, ck_n hk (by omega), nm_d, nI_clamp (by omega), rd_n hw (by omega), a1, a2, ck_n hk (by omega), nm_d, nI_clamp (by omega), nm_d, a3, nI_1]
theorem keep2 {σ τ : St} {w : Nat} (hw : w < 8) (K : KR σ τ) (e : σ.1 29 w = τ.1 21 w) : ∃ σ' τ', f_X0_keepRuler (nI w) σ = some σ' ∧ f_X8_dawnNow_134 (nI w) τ = f_X8_dawnNow_180 (nI w) τ' ∧ KR σ' τ' ∧ (∀ k, k ≠ 19 → k ≠ 27 → k ≠ 28 → σ'.1 k = σ.1 k) ∧ (∀ j, j ≠ 6 → σ'.1 19 j = σ.1 19 j) ∧ (∀ k, k ≠ 0 → k ≠ 11 → k ≠ 12 → τ'.1 k = τ.1 k) ∧ (∀ j, j ≠ 18 → τ'.1 0 j = τ.1 0 j) := by
  obtain ⟨k, k0, k1, k2, k3⟩ := K
  by_cases h : k = 200
  · have h200 : (200 : Int32) ≤ nI k := nI_le (a := 200) (by omega) (by omega)
    refine ⟨σ, τ, ?_, ?_, ⟨k, k0, k1, k2, k3⟩, fun _ _ _ _ => rfl, fun _ _ => rfl, fun _ _ _ _ => rfl, fun _ _ => rfl⟩
    · unfold f_X0_keepRuler; rw [k1, if_pos h200]
    · unfold f_X8_dawnNow_134
      generalize f_X8_dawnNow_180 (nI w) = G
      rw [k2, if_pos h200]
  · refine ⟨_, _, keepC hw (show k < 200 by omega) k1, keepM hw (show k < 200 by omega) k2, ⟨k + 1, by omega, by rw [sR_at, pk_us], by rw [sR_at, pk_us], fun i hi => ?_⟩, fun j j1 j2 j3 => ?_, fun j hj => ?_, fun j j1 j2 j3 => ?_, fun j hj => ?_⟩
    · rw [sR_ne _ _ (show 27 ≠ 19 by omega), sR_ne _ _ (show 27 ≠ 28 by omega), sR_at, sR_ne _ _ (show 28 ≠ 19 by omega), sR_at, sR_ne _ _ (show 28 ≠ 27 by omega), sR_ne _ _ (show 11 ≠ 0 by omega), sR_ne _ _ (show 11 ≠ 12 by omega), sR_at, sR_ne _ _ (show 12 ≠ 0 by omega), sR_at, sR_ne _ _ (show 12 ≠ 11 by omega), e]
      by_cases q : i = k
      · subst q; rw [pk_us, pk_us, pk_us, pk_us]; exact ⟨rfl, rfl⟩
      · rw [pk_un q, pk_un q, pk_un q, pk_un q]; exact k3 i (by omega)
    · rw [sR_ne _ _ j1, sR_ne _ _ j3, sR_ne _ _ j2]
    · rw [sR_at, pk_un hj, sR_ne _ _ (by omega), sR_ne _ _ (by omega)]
    · rw [sR_ne _ _ j1, sR_ne _ _ j3, sR_ne _ _ j2]
    · rw [sR_at, pk_un hj, sR_ne _ _ (by omega), sR_ne _ _ (by omega)]
