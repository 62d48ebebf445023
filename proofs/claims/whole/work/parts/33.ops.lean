/-! ===== pure: sleeper, shift, noise, hush (own work) ===== -/
theorem ok_sleeper {σc σm : St} (I : Inv σc σm) (x1 x2 : Int32) : ∃ (r : Int32) (σc1 σm1 : St), f_X7_sleeper x1 x2 σc = some (r, σc1) ∧ f_X8_sleeper x1 x2 σm = some (r, σm1) ∧ Inv σc1 σm1 := by
  obtain ⟨H, S, v, hI⟩ := id I
  obtain ⟨B, C, M, R, ld, T, F, W, J⟩ := id hI
  have hS := B.2.1
  unfold f_X7_sleeper f_X8_sleeper
  rcases ix3 x1 (n := S) (by omega) with h | ⟨s, hs, rfl⟩
  · rw [hasS_no C.2.1 h, isS_no (by omega) M.2.1 h]
    exact ⟨_, σc, σm, rfl, rfl, I⟩
  rw [hasS_yes (by omega) C.2.1 hs, isS_yes (by omega) M.2.1 hs]
  have c := C.2.2.2 s hs
  have m := M.2.2.2 s hs
  have b := B.2.2.2 s hs
  obtain ⟨sh, f1, f2, f3, f4, f5, f6⟩ := fl_eq B C M hI.nr hs
  have e5 : f_X8_firstOf (nI s) σm = some (σc.1 22 s, σm) := by rw [firstM B hs, ← f3]
  have e6 : f_X8_lastOf (nI s) σm = some (σc.1 23 s, σm) := by rw [lastM B hs, ← f4]
  have e1 : f_X1_firstMinute 20 (nI s) σc = some (hrd (σc.1 24 s) (σc.1 22 s), σc) := by
    unfold f_X1_firstMinute; rw [rd_n (by omega) (by omega), heardC (by omega), bd_s]
  have e2 : f_X1_lastMinute 20 (nI s) σc = some (hrd (σc.1 24 s) (σc.1 23 s), σc) := by
    unfold f_X1_lastMinute; rw [rd_n (by omega) (by omega), heardC (by omega), bd_s]
  have e3 : f_X8_heard (nI s) (σc.1 22 s) σm = some (hrd (σc.1 24 s) (σc.1 22 s), σm) := heardM B C M hI.nr hs (by rw [f5]; omega)
  have e4 : f_X8_heard (nI s) (σc.1 23 s) σm = some (hrd (σc.1 24 s) (σc.1 23 s), σm) := heardM B C M hI.nr hs (by rw [f6]; omega)
  have r1 : σc.1 21 s = σm.1 8 s := (R.1 s hs).1
  simp only [bd_s, if_neg i10, rd_n (show s < 8 by omega) (show 8 < 2 ^ 31 by omega), e1, e2, e5, e6, e3, e4, c.1, c.2.1, c.2.2.1, c.2.2.2, m.1, m.2.1, m.2.2.1, m.2.2.2, r1]
  by_cases h0 : x2 = 0
  · simp only [if_pos h0]; exact ⟨_, σc, σm, rfl, rfl, I⟩
  simp only [if_neg h0]
  by_cases h1 : x2 = 1
  · simp only [if_pos h1]; exact ⟨_, σc, σm, rfl, rfl, I⟩
  simp only [if_neg h1]
  by_cases h2 : x2 = 2
  · simp only [if_pos h2]; exact ⟨_, σc, σm, rfl, rfl, I⟩
  simp only [if_neg h2]
  by_cases h3 : x2 = 3
  · simp only [if_pos h3]; exact ⟨_, σc, σm, rfl, rfl, I⟩
  simp only [if_neg h3]
  by_cases h4 : x2 = 4
  · simp only [if_pos h4]; exact ⟨_, σc, σm, rfl, rfl, I⟩
  simp only [if_neg h4]
  by_cases h5 : x2 = 5
  · simp only [if_pos h5]; exact ⟨_, σc, σm, rfl, rfl, I⟩
  simp only [if_neg h5]
  by_cases h6 : x2 = 6
  · simp only [if_pos h6]; exact ⟨_, σc, σm, rfl, rfl, I⟩
  simp only [if_neg h6]
  exact ⟨_, σc, σm, rfl, rfl, I⟩
theorem ok_shift {σc σm : St} (I : Inv σc σm) (x1 x2 : Int32) : ∃ (r : Int32) (σc1 σm1 : St), f_X7_shift x1 x2 σc = some (r, σc1) ∧ f_X8_shift x1 x2 σm = some (r, σm1) ∧ Inv σc1 σm1 := by
  obtain ⟨H, S, v, hI⟩ := id I
  obtain ⟨B, C, M, R, ld, T, F, W, J⟩ := id hI
  have hS := B.2.1
  have hH := B.1
  unfold f_X7_shift f_X8_shift
  rcases ix3 x1 (n := S) (by omega) with h | ⟨s, hs, rfl⟩
  · rw [hasS_no C.2.1 h, isS_no (by omega) M.2.1 h]
    exact ⟨_, σc, σm, rfl, rfl, I⟩
  rw [hasS_yes (by omega) C.2.1 hs, isS_yes (by omega) M.2.1 hs]
  have c := C.2.2.2 s hs
  have m := M.2.2.2 s hs
  have b := B.2.2.2 s hs
  have b2 := B.2.2.1 _ b.1
  have c2 := C.2.2.1 _ b.1
  have m2 := M.2.2.1 _ b.1
  have k8 : (8 : Nat) < 2 ^ 31 := by omega
  have s8 : s < 8 := by omega
  have h5 : v 3 s < 5 := by omega
  have k5 : (5 : Nat) < 2 ^ 31 := by omega
  have r1 : σc.1 21 s = σm.1 8 s := (R.1 s hs).1
  simp only [bd_s, if_neg i10, rd_n s8 k8, c.1, m.1, rd_n h5 k5, c2.2.2, m2.2.2]
  by_cases h1 : x2 < 0
  · rw [in_0 (a := 0) (b := nI (v 2 (v 3 s))) (by decide) rfl σm (fun q => Int32.not_le.mpr h1 q.1)]
    simp only [if_pos h1, bd_s]
    exact ⟨_, σc, σm, rfl, rfl, I⟩
  by_cases h2 : x2 ≤ nI (v 2 (v 3 s))
  · rw [in_1 (a := 0) (b := nI (v 2 (v 3 s))) (by decide) rfl σm ⟨Int32.not_lt.mp h1, h2⟩]
    simp only [if_neg h1, if_pos h2, bd_s, if_neg i10, ck_n s8 k8, nm_d, nI_clamp (show s < 2 ^ 31 by omega), shO (show 20 ≤ 20 by omega) s8, bv_s, r1]
    obtain ⟨k, hk, rfl⟩ := nI_of2 (n := v 2 (v 3 s)) (M := nI (v 2 (v 3 s))) (nI_toInt (by omega)) h1 h2
    have g : ∀ j, j ≠ 21 → j ≠ 22 → j ≠ 23 → j ≠ 24 → (lay (sI σc (20 + 1) s (nI k)) 20 s).1 j = σc.1 j := fun j a1 a2 a3 a4 => by rw [lay_ne (by omega) (by omega) (by omega), sR_ne _ _ (by omega)]
    have g21 : (lay (sI σc (20 + 1) s (nI k)) 20 s).1 21 = upd (σc.1 21) s (nI k) := by rw [lay_ne (by omega) (by omega) (by omega)]; exact sR_at _ _ _
    obtain ⟨q1, q2, q3, q4, q5, q6, q7, q8⟩ := R
    refine ⟨_, _, _, rfl, rfl, H, S, v, B, C.cg (fun k _ _ => g k (by omega) (by omega) (by omega) (by omega)), M.cg rfl rfl (fun k _ _ => sR_ne _ _ (by omega)), ⟨fun t ht => ?_, q2, q3, q4, q5, q6, q7, q8⟩, laid_shift (by omega) ld _, T, F, W, J.cg rfl (fun k _ _ _ => g k (by omega) (by omega) (by omega) (by omega)) rfl rfl⟩
    show (lay (sI σc (20 + 1) s (nI k)) 20 s).1 21 t = upd (σm.1 8) s (nI k) t ∧ rg (upd (σm.1 8) s (nI k) t) 0 60
    rw [g21]
    by_cases e : t = s
    · subst e; simp only [pk_us]; exact ⟨trivial, k, by omega, by omega, rfl⟩
    · simp only [pk_un e]; exact q1 t ht
  · rw [in_0 (a := 0) (b := nI (v 2 (v 3 s))) (by decide) rfl σm (fun q => h2 q.2)]
    simp only [if_neg h1, if_neg h2, bd_s]
    exact ⟨_, σc, σm, rfl, rfl, I⟩
/-- the noise becomes another one, on both sides -/
theorem inv_noise {H S : Nat} {v : Nat → Nat → Nat} {σc σm : St} (I : InvV H S v σc σm) {f a n : Int32} (ok : nOK H f a n) : ∃ σ', f_X1_makeNoise 20 f a n σc = some σ' ∧ InvV H S v σ' (sI (sI (sI σm 0 12 f) 0 10 a) 0 11 n) := by
  obtain ⟨B, C, M, R, ld, T, F, W, J⟩ := I
  obtain ⟨σ', e, L⟩ := mkN (a := 20) (by omega) B.2.1 C.2.1 f a n
  obtain ⟨q1, q2, q3, q4, q5, q6, q7, q8⟩ := R
  have g0 : ∀ j, j ≠ 22 → j ≠ 23 → j ≠ 24 → σ'.1 j = (sI (sI (sI σc 20 2 f) 20 3 a) 20 4 n).1 j := fun j a2 a3 a4 => L.1 j (by omega) (by omega) (by omega)
  have g : ∀ j, j ≠ 20 → j ≠ 22 → j ≠ 23 → j ≠ 24 → σ'.1 j = σc.1 j := fun j a1 a2 a3 a4 => by rw [g0 j a2 a3 a4, sR_ne _ _ a1, sR_ne _ _ a1, sR_ne _ _ a1]
  have g20 : σ'.1 20 = upd (upd (upd (σc.1 20) 2 f) 3 a) 4 n := g0 20 (by omega) (by omega) (by omega)
  refine ⟨σ', e, B, C.cg (fun k _ _ => g k (by omega) (by omega) (by omega) (by omega)), M.cg rfl rfl (fun k _ _ => by rw [sR_ne _ _ (by omega), sR_ne _ _ (by omega), sR_ne _ _ (by omega)]), ⟨fun t ht => ?_, fun h hh => ?_, ⟨?_, ?_, ?_, ok⟩, ⟨?_, q4.2⟩, ?_, ?_, ?_, ?_⟩, L.laid (by omega), T.cg ?_ (g 2 (by omega) (by omega) (by omega) (by omega)) rfl rfl, ?_, W.cg ?_ (g 53 (by omega) (by omega) (by omega) (by omega)) (g 54 (by omega) (by omega) (by omega) (by omega)) rfl rfl rfl, J.cg ?_ (fun k _ _ _ => g k (by omega) (by omega) (by omega) (by omega)) rfl rfl⟩
  · show σ'.1 21 t = σm.1 8 t ∧ rg (σm.1 8 t) 0 60
    rw [g 21 (by omega) (by omega) (by omega) (by omega)]; exact q1 t ht
  · show σ'.1 25 h = σm.1 9 h ∧ (∃ k, k < v 0 h ∧ σm.1 9 h = nI k) ∧ σ'.1 26 h = σm.1 10 h
    rw [g 25 (by omega) (by omega) (by omega) (by omega), g 26 (by omega) (by omega) (by omega) (by omega)]; exact q2 h hh
  · show σ'.1 20 3 = a
    rw [g20]; rfl
  · show σ'.1 20 4 = n
    rw [g20]; rfl
  · show σ'.1 20 2 = f
    rw [g20]; rfl
  · show σ'.1 20 5 = σm.1 0 13
    rw [g20]; exact q4.1
  · show σ'.1 19 2 = σm.1 0 14
    rw [g 19 (by omega) (by omega) (by omega) (by omega)]; exact q5
  · show σ'.1 19 5 = σm.1 0 17
    rw [g 19 (by omega) (by omega) (by omega) (by omega)]; exact q6
  · show ∃ k, k ≤ 200 ∧ σ'.1 19 6 = nI k ∧ σm.1 0 18 = nI k ∧ ∀ i, i < k → σ'.1 27 i = σm.1 11 i ∧ σ'.1 28 i = σm.1 12 i
    rw [g 19 (by omega) (by omega) (by omega) (by omega), g 27 (by omega) (by omega) (by omega) (by omega), g 28 (by omega) (by omega) (by omega) (by omega)]; exact q7
  · show σ'.1 19 9 = σm.1 0 21 ∧ ∃ k, k < 2 ^ 31 ∧ σm.1 0 21 = nI k
    rw [g 19 (by omega) (by omega) (by omega) (by omega)]; exact q8
  · rw [g 1 (by omega) (by omega) (by omega) (by omega)]
  · show σ'.1 1 5 = σm.1 0 24
    rw [g 1 (by omega) (by omega) (by omega) (by omega)]; exact F
  · rw [g 52 (by omega) (by omega) (by omega) (by omega)]
  · rw [g 0 (by omega) (by omega) (by omega) (by omega)]
theorem noisyC {H S : Nat} {v : Nat → Nat → Nat} {σc σm : St} (I : InvV H S v σc σm) : (f_X1_isNoisy 20 σc = some (0, σc) ∧ ¬ 0 ≤ σm.1 0 10) ∨ (f_X1_isNoisy 20 σc = some (1, σc) ∧ 0 ≤ σm.1 0 10) := by
  obtain ⟨B, C, M, R, ld, T, F, W, J⟩ := I
  obtain ⟨n1, n2, n3, n4⟩ := R.2.2.1
  have n3' : σc.1 20 2 = σm.1 0 12 := n3
  unfold f_X1_isNoisy
  rw [n3']
  rcases nOK_at B.1 n4 with ⟨h1, h2⟩ | ⟨h1, h2⟩
  · exact Or.inl ⟨by rw [if_pos h1], Int32.not_le.mpr h2⟩
  · exact Or.inr ⟨by rw [if_neg h1], Int32.not_lt.mp h2⟩
theorem setN (x1 x2 x3 : Int32) (σ : St) : f_X8_setNoise x1 x2 x3 σ = some (sI (sI (sI σ 0 12 x1) 0 10 x2) 0 11 x3) := rfl
theorem ok_hush {σc σm : St} (I : Inv σc σm) : ∃ (r : Int32) (σc1 σm1 : St), f_X7_hush σc = some (r, σc1) ∧ f_X8_hush σm = some (r, σm1) ∧ Inv σc1 σm1 := by
  obtain ⟨H, S, v, hI⟩ := id I
  obtain ⟨σ', e, hI'⟩ := inv_noise hI (f := -1) (a := -1) (n := -1) (Or.inl ⟨rfl, rfl, rfl⟩)
  unfold f_X7_hush f_X8_hush f_X7_hush_18 f_X8_hush_12
  rcases noisyC hI with ⟨h1, h2⟩ | ⟨h1, h2⟩
  · rw [h1, if_neg h2, bd_s, if_pos rfl, e, setN]
    exact ⟨_, _, _, rfl, rfl, H, S, v, hI'⟩
  · rw [h1, if_pos h2, bd_s, if_neg i10, e, setN]
    exact ⟨_, _, _, rfl, rfl, H, S, v, hI'⟩
theorem ok_noise {σc σm : St} (I : Inv σc σm) (x1 x2 x3 : Int32) : ∃ (r : Int32) (σc1 σm1 : St), f_X7_noise x1 x2 x3 σc = some (r, σc1) ∧ f_X8_noise x1 x2 x3 σm = some (r, σm1) ∧ Inv σc1 σm1 := by
  obtain ⟨H, S, v, hI⟩ := id I
  obtain ⟨B, C, M, R, ld, T, F, W, J⟩ := id hI
  have hH := B.1
  unfold f_X7_noise f_X8_noise f_X7_noise_56 f_X8_noise_50
  rcases ix3 x1 (n := H) (by omega) with h | ⟨h, hh, rfl⟩
  · rw [hasH_no C.1 h, isH_no (by omega) M.1 h]
    exact ⟨_, σc, σm, rfl, rfl, I⟩
  rw [hasH_yes (by omega) C.1 hh, isH_yes (by omega) M.1 hh]
  simp only [bd_s, if_neg i10]
  by_cases h1 : x2 < 0
  · rw [in_0 (a := 0) (b := 700) (by decide) (by decide) σm (fun q => Int32.not_le.mpr h1 q.1)]
    simp only [if_pos h1, bd_s, if_true]
    exact ⟨_, σc, σm, rfl, rfl, I⟩
  by_cases h2 : 700 < x2
  · rw [in_0 (a := 0) (b := 700) (by decide) (by decide) σm (fun q => Int32.not_le.mpr h2 q.2)]
    simp only [if_neg h1, if_pos h2, bd_s, if_true]
    exact ⟨_, σc, σm, rfl, rfl, I⟩
  rw [in_1 (a := 0) (b := 700) (by decide) (by decide) σm ⟨Int32.not_lt.mp h1, Int32.not_lt.mp h2⟩]
  simp only [if_neg h1, if_neg h2, bd_s, if_neg i10]
  by_cases h3 : x3 < 0
  · rw [in_0 (a := 0) (b := 9) (by decide) (by decide) σm (fun q => Int32.not_le.mpr h3 q.1)]
    simp only [if_pos h3, bd_s, if_true]
    exact ⟨_, σc, σm, rfl, rfl, I⟩
  by_cases h4 : x3 ≤ 9
  · rw [in_1 (a := 0) (b := 9) (by decide) (by decide) σm ⟨Int32.not_lt.mp h3, h4⟩]
    simp only [if_neg h3, if_pos h4, bd_s, if_neg i10]
    obtain ⟨m', hm', rfl⟩ := nI_of2 (n := 700) (M := 700) rfl h1 (Int32.not_lt.mp h2)
    obtain ⟨l', hl', rfl⟩ := nI_of2 (n := 9) (M := 9) rfl h3 h4
    obtain ⟨σ', e, hI'⟩ := inv_noise hI (f := nI h) (a := nI m') (n := nI l') (Or.inr ⟨h, m', l', hh, hm', hl', rfl, rfl, rfl⟩)
    rcases noisyC hI with ⟨g1, g2⟩ | ⟨g1, g2⟩
    · rw [g1, if_neg g2, bd_s, if_pos rfl, e, setN]
      exact ⟨_, _, _, rfl, rfl, H, S, v, hI'⟩
    · rw [g1, if_pos g2, bd_s, if_neg i10, e, setN]
      exact ⟨_, _, _, rfl, rfl, H, S, v, hI'⟩
  · rw [in_0 (a := 0) (b := 9) (by decide) (by decide) σm (fun q => h4 q.2)]
    simp only [if_neg h3, if_neg h4, bd_s, if_true]
    exact ⟨_, σc, σm, rfl, rfl, I⟩
