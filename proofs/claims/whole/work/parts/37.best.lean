/-! ===== pure: a night copied, a house shifted, the best shift (own work) ===== -/
theorem cpy8 {f g : Nat → Int32} {n j : Nat} (h : j < n) : va_cpy f g 0 0 n j = f j := sb_cpy0 h
/-- night b copied into night a (of the class): what comes of it -/
theorem ncp {S a b : Nat} {σ : St} (ha : 20 ≤ a) (hb : b + 4 < a ∨ (a + 4 < b)) (hS : S ≤ 8) (hs : σ.1 3 4 = nI S) (hb3 : 11 ≤ b) : ∃ σ', f_X1_copyFrom a b σ = some σ' ∧ (∀ k, k < a ∨ a + 4 < k → σ'.1 k = σ.1 k) ∧ σ'.2 = σ.2 ∧ (∀ s, s < 8 → σ'.1 (a + 1) s = σ.1 (b + 1) s) ∧ σ'.1 a 2 = σ.1 b 2 ∧ σ'.1 a 3 = σ.1 b 3 ∧ σ'.1 a 4 = σ.1 b 4 ∧ σ'.1 a 5 = σ.1 b 5 ∧ laid S a σ' := by
  unfold f_X1_copyFrom
  rw [show decide ((¬ (0 : Int32) < 0) ∧ (¬ (0 : Int32) < 0) ∧ (¬ (8 : Int32) < 0) ∧ (0 : Int32).toNatClampNeg + (8 : Int32).toNatClampNeg ≤ 8 ∧ (0 : Int32).toNatClampNeg + (8 : Int32).toNatClampNeg ≤ 8) = true by decide, ck_t, nm_d, nm_d]
  generalize hσ1 : sR σ (a + 1) (va_cpy (σ.1 (b + 1)) (σ.1 (a + 1)) (0 : Int32).toNatClampNeg (0 : Int32).toNatClampNeg (8 : Int32).toNatClampNeg) = σ1
  have e1 : ∀ k, k ≠ a + 1 → σ1.1 k = σ.1 k := fun k hk => by rw [← hσ1, sR_ne _ _ hk]
  have e1a : ∀ s, s < 8 → σ1.1 (a + 1) s = σ.1 (b + 1) s := fun s hs => by rw [← hσ1, sR_at]; exact cpy8 hs
  have e12 : σ1.2 = σ.2 := by rw [← hσ1, sR_2]
  generalize hσ2 : sI σ1 a 5 (σ1.1 b 5) = σ2
  have e2 : ∀ k, k ≠ a → σ2.1 k = σ1.1 k := fun k hk => by rw [← hσ2, sR_ne _ _ hk]
  have e2a : σ2.1 a = upd (σ.1 a) 5 (σ.1 b 5) := by rw [← hσ2, sR_at, e1 a (by omega), e1 b (by omega)]
  have e22 : σ2.2 = σ.2 := by rw [← hσ2, sR_2, e12]
  have eb : σ2.1 b = σ.1 b := by rw [e2 b (by omega), e1 b (by omega)]
  obtain ⟨σ3, h3, L⟩ := mkN (a := a) ha hS (σ := σ2) (by rw [e2 3 (by omega), e1 3 (by omega)]; exact hs) (σ2.1 b 2) (σ2.1 b 3) (σ2.1 b 4)
  rw [h3, bv_s]
  have g : ∀ k, k ≠ a → k ≠ a + 2 → k ≠ a + 3 → k ≠ a + 4 → σ3.1 k = σ2.1 k := fun k k1 k2 k3 k4 => by rw [L.1 k k2 k3 k4, sR_ne _ _ k1, sR_ne _ _ k1, sR_ne _ _ k1]
  have ga : σ3.1 a = upd (upd (upd (σ2.1 a) 2 (σ2.1 b 2)) 3 (σ2.1 b 3)) 4 (σ2.1 b 4) := by
    rw [L.1 a (by omega) (by omega) (by omega), sR_at, sR_at, sR_at]
  refine ⟨σ3, rfl, fun k hk => ?_, ?_, fun s hs => ?_, ?_, ?_, ?_, ?_, L.laid ha⟩
  · rw [g k (by omega) (by omega) (by omega) (by omega), e2 k (by omega), e1 k (by omega)]
  · rw [L.2.1]; exact e22
  · rw [g (a + 1) (by omega) (by omega) (by omega) (by omega), e2 (a + 1) (by omega)]; exact e1a s hs
  · rw [ga, eb]; rfl
  · rw [ga, eb]; rfl
  · rw [ga, eb]; rfl
  · rw [ga, e2a]; rfl
/-- all of a house shifted alike, by the class -/
theorem shC {H S a h : Nat} {v : Nat → Nat → Nat} {σ : St} (ha : 20 ≤ a) (B : VB H S v) (C : VC H S v σ) (hh : h < H) (ld : laid S a σ) (k : Int32) : ∃ (r : Int32) (σ' : St), f_X1_shiftHouse a (nI h) k σ = some (r, σ') ∧ (∀ j, j ≤ a ∨ a + 4 < j → σ'.1 j = σ.1 j) ∧ σ'.2 = σ.2 ∧ laid S a σ' ∧ (∀ s, S ≤ s → σ'.1 (a + 1) s = σ.1 (a + 1) s) ∧ (∀ s, s < S → σ'.1 (a + 1) s = if v 3 s = h then k else σ.1 (a + 1) s) ∧ ((r = 0 ∧ ∀ s, s < S → v 3 s = h → σ.1 (a + 1) s = k) ∨ (r = 1 ∧ ∃ s, s < S ∧ v 3 s = h ∧ ¬ σ.1 (a + 1) s = k)) := by
  have h8 := B.2.1
  have hH := B.1
  unfold f_X1_shiftHouse f_X1_shiftHouse_5
  have key := lp_e (B := fun (rec5 : Int32 × Int32 × Int32 × Int32 × St → Option (Int32 × St)) (q : Int32 × Int32 × Int32 × Int32 × St) => b_X1_shiftHouse_5 a rec5 (q.1) (q.2.1) (q.2.2.1) (q.2.2.2.1) (q.2.2.2.2))
    (fun d q => ∃ (i : Nat) (x3 : Int32) (σi : St), i + d = S ∧ q = (nI h, k, x3, nI i, σi) ∧ (∀ j, j ≤ a ∨ a + 4 < j → σi.1 j = σ.1 j) ∧ σi.2 = σ.2 ∧ laid S a σi ∧ (∀ s, S ≤ s → σi.1 (a + 1) s = σ.1 (a + 1) s) ∧ (∀ s, s < S → σi.1 (a + 1) s = if s < i ∧ v 3 s = h then k else σ.1 (a + 1) s) ∧ ((x3 = 0 ∧ ∀ s, s < i → v 3 s = h → σ.1 (a + 1) s = k) ∨ (x3 = 1 ∧ ∃ s, s < S ∧ v 3 s = h ∧ ¬ σ.1 (a + 1) s = k)))
    (fun _ o => (∀ j, j ≤ a ∨ a + 4 < j → o.2.1 j = σ.1 j) ∧ o.2.2 = σ.2 ∧ laid S a o.2 ∧ (∀ s, S ≤ s → o.2.1 (a + 1) s = σ.1 (a + 1) s) ∧ (∀ s, s < S → o.2.1 (a + 1) s = if v 3 s = h then k else σ.1 (a + 1) s) ∧ ((o.1 = 0 ∧ ∀ s, s < S → v 3 s = h → σ.1 (a + 1) s = k) ∨ (o.1 = 1 ∧ ∃ s, s < S ∧ v 3 s = h ∧ ¬ σ.1 (a + 1) s = k))) ?_ 100000 S (nI h, k, 0, 0, σ) (by omega) ⟨0, 0, σ, by omega, rfl, fun _ _ => rfl, rfl, ld, fun _ _ => rfl, fun s _ => by rw [if_neg (by omega)], Or.inl ⟨rfl, fun s hs => by omega⟩⟩
  · obtain ⟨⟨r, σ'⟩, k1, k2⟩ := key
    exact ⟨r, σ', k1, k2⟩
  rintro d rec _ ⟨i, x3, σi, hi, rfl, p1, p2, p3, p4, p5, p6⟩ ih
  show ∃ o, b_X1_shiftHouse_5 a rec (nI h) k x3 (nI i) σi = some o ∧ _
  unfold b_X1_shiftHouse_5 f_X1_shiftHouse_51
  rw [p1 3 (by omega), C.2.1, p1 7 (by omega)]
  cases d with
  | zero =>
    have : i = S := by omega
    subst this
    have hz : bz x3 = true := by rcases p6 with ⟨rfl, -⟩ | ⟨rfl, -⟩ <;> rfl
    rw [if_pos (nI_le (by omega) (by omega)), hz, ck_t]
    refine ⟨_, rfl, p1, p2, p3, p4, fun s hs => ?_, ?_⟩
    · rw [p5 s hs]
      by_cases e : v 3 s = h
      · rw [if_pos ⟨hs, e⟩, if_pos e]
      · rw [if_neg (fun q => e q.2), if_neg e]
    · exact p6
  | succ d =>
    have hi2 : i < S := by omega
    have hv := B.2.2.2 i hi2
    rw [if_neg (nI_ge (by omega) (by omega)), rd_n (by omega) (by omega), (C.2.2.2 i hi2).1]
    have p5i : σi.1 (a + 1) i = σ.1 (a + 1) i := by rw [p5 i hi2, if_neg (by omega)]
    by_cases e : v 3 i = h
    · rw [if_pos (by rw [e]), rd_n (by omega) (by omega), p5i]
      by_cases e2 : σ.1 (a + 1) i = k
      · rw [if_pos e2, nI_1]
        refine ih d _ (by omega) ⟨i + 1, x3, σi, by omega, rfl, p1, p2, p3, p4, fun s hs => ?_, ?_⟩
        · rw [p5 s hs]
          by_cases q : s = i
          · subst q; rw [if_neg (by omega), if_pos ⟨by omega, e⟩, e2]
          · by_cases q2 : s < i ∧ v 3 s = h
            · rw [if_pos q2, if_pos ⟨by omega, q2.2⟩]
            · rw [if_neg q2, if_neg (fun z => q2 ⟨by omega, z.2⟩)]
        · rcases p6 with ⟨z1, z2⟩ | z
          · refine Or.inl ⟨z1, fun s hs hw => ?_⟩
            by_cases q : s = i
            · subst q; exact e2
            · exact z2 s (by omega) hw
          · exact Or.inr z
      · rw [if_neg e2, shO ha (by omega), bv_s, nI_1]
        have g : ∀ j, j ≠ a + 1 → j ≠ a + 2 → j ≠ a + 3 → j ≠ a + 4 → (lay (sI σi (a + 1) i k) a i).1 j = σi.1 j := fun j a1 a2 a3 a4 => by rw [lay_ne a2 a3 a4, sR_ne _ _ a1]
        have g1 : (lay (sI σi (a + 1) i k) a i).1 (a + 1) = upd (σi.1 (a + 1)) i k := by rw [lay_ne (by omega) (by omega) (by omega), sR_at]
        refine ih d _ (by omega) ⟨i + 1, 1, _, by omega, rfl, fun j hj => by rw [g j (by omega) (by omega) (by omega) (by omega)]; exact p1 j hj, by rw [lay_2, sR_2]; exact p2, laid_shift ha p3 k, fun s hs => ?_, fun s hs => ?_, Or.inr ⟨rfl, i, hi2, e, e2⟩⟩
        · rw [g1, pk_un (by omega)]; exact p4 s hs
        · rw [g1]
          by_cases q : s = i
          · subst q; rw [pk_us, if_pos ⟨by omega, e⟩]
          · rw [pk_un q, p5 s hs]
            by_cases q2 : s < i ∧ v 3 s = h
            · rw [if_pos q2, if_pos ⟨by omega, q2.2⟩]
            · rw [if_neg q2, if_neg (fun z => q2 ⟨by omega, z.2⟩)]
    · rw [if_neg (fun q => e ((nI_eq (by omega) (by omega)).mp q)), nI_1]
      refine ih d _ (by omega) ⟨i + 1, x3, σi, by omega, rfl, p1, p2, p3, p4, fun s hs => ?_, ?_⟩
      · rw [p5 s hs]
        by_cases q2 : s < i ∧ v 3 s = h
        · rw [if_pos q2, if_pos ⟨by omega, q2.2⟩]
        · rw [if_neg q2, if_neg (fun z => q2 ⟨by
            by_cases q : s = i
            · subst q; exact absurd z.2 e
            · omega, z.2⟩)]
      · rcases p6 with ⟨z1, z2⟩ | z
        · refine Or.inl ⟨z1, fun s hs hw => ?_⟩
          by_cases q : s = i
          · subst q; exact absurd hw e
          · exact z2 s (by omega) hw
        · exact Or.inr z
/-- the same by the reference -/
theorem shM {H S h : Nat} {v : Nat → Nat → Nat} {σ : St} (B : VB H S v) (M : VM H S v σ) (hh : h < H) (k : Int32) : ∃ σ', f_X8_shiftHouse (nI h) k σ = some σ' ∧ (∀ j, j ≠ 8 → σ'.1 j = σ.1 j) ∧ σ'.2 = σ.2 ∧ (∀ s, S ≤ s → σ'.1 8 s = σ.1 8 s) ∧ ∀ s, s < S → σ'.1 8 s = if v 3 s = h then k else σ.1 8 s := by
  have h8 := B.2.1
  have hH := B.1
  unfold f_X8_shiftHouse f_X8_shiftHouse_2
  refine lp_e (fun d q => ∃ (i : Nat) (σi : St), i + d = S ∧ q = (nI h, k, nI i, σi) ∧ (∀ j, j ≠ 8 → σi.1 j = σ.1 j) ∧ σi.2 = σ.2 ∧ (∀ s, S ≤ s → σi.1 8 s = σ.1 8 s) ∧ (∀ s, s < S → σi.1 8 s = if s < i ∧ v 3 s = h then k else σ.1 8 s))
    (fun _ (o : St) => (∀ j, j ≠ 8 → o.1 j = σ.1 j) ∧ o.2 = σ.2 ∧ (∀ s, S ≤ s → o.1 8 s = σ.1 8 s) ∧ (∀ s, s < S → o.1 8 s = if v 3 s = h then k else σ.1 8 s)) ?_ 100000 S _ (by omega) ⟨0, σ, by omega, rfl, fun _ _ => rfl, rfl, fun _ _ => rfl, fun s _ => by rw [if_neg (by omega)]⟩
  rintro d rec _ ⟨i, σi, hi, rfl, p1, p2, p4, p5⟩ ih
  show ∃ o, b_X8_shiftHouse_2 rec (nI h) k (nI i) σi = some o ∧ _
  unfold b_X8_shiftHouse_2 f_X8_shiftHouse_35
  rw [p1 0 (by omega), M.2.1, p1 4 (by omega)]
  cases d with
  | zero =>
    have : i = S := by omega
    subst this
    rw [if_pos (nI_le (by omega) (by omega))]
    refine ⟨_, rfl, p1, p2, p4, fun s hs => ?_⟩
    rw [p5 s hs]
    by_cases e : v 3 s = h
    · rw [if_pos ⟨hs, e⟩, if_pos e]
    · rw [if_neg (fun q => e q.2), if_neg e]
  | succ d =>
    have hi2 : i < S := by omega
    have hv := B.2.2.2 i hi2
    rw [if_neg (nI_ge (by omega) (by omega)), rd_n (by omega) (by omega), (M.2.2.2 i hi2).1]
    have p5i : σi.1 8 i = σ.1 8 i := by rw [p5 i hi2, if_neg (by omega)]
    by_cases e : v 3 i = h
    · rw [if_pos (by rw [e]), ck_n (by omega) (by omega), nm_d, nI_clamp (by omega), nI_1]
      refine ih d _ (by omega) ⟨i + 1, _, by omega, rfl, fun j hj => by rw [sR_ne _ _ hj]; exact p1 j hj, by rw [sR_2]; exact p2, fun s hs => ?_, fun s hs => ?_⟩
      · rw [sR_at, pk_un (by omega)]; exact p4 s hs
      · rw [sR_at]
        by_cases q : s = i
        · subst q; rw [pk_us, if_pos ⟨by omega, e⟩]
        · rw [pk_un q, p5 s hs]
          by_cases q2 : s < i ∧ v 3 s = h
          · rw [if_pos q2, if_pos ⟨by omega, q2.2⟩]
          · rw [if_neg q2, if_neg (fun z => q2 ⟨by omega, z.2⟩)]
    · rw [if_neg (fun q => e ((nI_eq (by omega) (by omega)).mp q)), rd_n (by omega) (by omega), ck_n (by omega) (by omega), nm_d, nI_clamp (by omega), nI_1]
      refine ih d _ (by omega) ⟨i + 1, _, by omega, rfl, fun j hj => by rw [sR_ne _ _ hj]; exact p1 j hj, by rw [sR_2]; exact p2, fun s hs => ?_, fun s hs => ?_⟩
      · rw [sR_at, pk_un (by omega)]; exact p4 s hs
      · rw [sR_at]
        by_cases q : s = i
        · subst q; rw [pk_us, if_neg (fun z => e z.2), p5i]
        · rw [pk_un q, p5 s hs]
          by_cases q2 : s < i ∧ v 3 s = h
          · rw [if_pos q2, if_pos ⟨by omega, q2.2⟩]
          · rw [if_neg q2, if_neg (fun z => q2 ⟨by omega, z.2⟩)]
