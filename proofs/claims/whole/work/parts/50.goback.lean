/-! ===== pure: goBack (own work) ===== -/
theorem gb34 {o : Nat} (ho : o ≤ 430) (t0 : St) : ∃ t, f_X8_goBack_34 (nI o) 0 t0 = f_X8_goBack_62 (nI o) 0 t ∧ (∀ k, k ≠ 8 → t.1 k = t0.1 k) ∧ ∀ j, j < 8 → t.1 8 j = t0.1 27 (o + j) := by
  unfold f_X8_goBack_34
  refine lp_x (fun d q => ∃ i t, i + d = 8 ∧ q = (nI o, nI i, t) ∧ (∀ k, k ≠ 8 → t.1 k = t0.1 k) ∧ ∀ j, j < i → t.1 8 j = t0.1 27 (o + j)) (fun t => f_X8_goBack_62 (nI o) 0 t) (fun t => (∀ k, k ≠ 8 → t.1 k = t0.1 k) ∧ ∀ j, j < 8 → t.1 8 j = t0.1 27 (o + j)) ?_ 100000 8 _ (by omega) ⟨0, t0, by omega, rfl, fun _ _ => rfl, fun j hj => by omega⟩
  rintro d rec _ ⟨i, t, hi, rfl, p1, p3⟩ ih
  show ∃ z, b_X8_goBack_34 rec (nI o) (nI i) t = _ ∧ _
  unfold b_X8_goBack_34
  rw [show (8 : Int32) = nI 8 from rfl]
  cases d with
  | zero =>
    have : i = 8 := by omega
    subst this
    rw [if_pos (nI_le (by omega) (by omega))]
    exact ⟨t, rfl, p1, p3⟩
  | succ d =>
    rw [if_neg (nI_ge (by omega) (by omega)), nI_add, rd_n (by omega) (by omega), ck_n (by omega) (by omega), nm_d, nI_clamp (by omega), nI_1, p1 27 (by omega)]
    refine ih d _ (by omega) ⟨i + 1, _, by omega, rfl, fun k hk => by rw [sR_ne _ _ hk]; exact p1 k hk, fun j hj => ?_⟩
    rw [sR_at]
    by_cases z : j = i
    · subst z; rw [pk_us]
    · rw [pk_un z]; exact p3 j (by omega)
theorem gb213 {o : Nat} (ho : o ≤ 430) (t0 : St) : ∃ t, f_X8_goBack_213 (nI o) 0 t0 = some (1, t) ∧ (∀ k, k ≠ 11 → k ≠ 12 → t.1 k = t0.1 k) ∧ ∀ j, j < 200 → t.1 11 j = t0.1 27 (o + 30 + j) ∧ t.1 12 j = t0.1 27 (o + 230 + j) := by
  unfold f_X8_goBack_213
  refine lp_x (fun d q => ∃ i t, i + d = 200 ∧ q = (nI o, nI i, t) ∧ (∀ k, k ≠ 11 → k ≠ 12 → t.1 k = t0.1 k) ∧ ∀ j, j < i → t.1 11 j = t0.1 27 (o + 30 + j) ∧ t.1 12 j = t0.1 27 (o + 230 + j)) (fun (t : St) => some (1, t)) (fun (t : St) => (∀ k, k ≠ 11 → k ≠ 12 → t.1 k = t0.1 k) ∧ ∀ j, j < 200 → t.1 11 j = t0.1 27 (o + 30 + j) ∧ t.1 12 j = t0.1 27 (o + 230 + j)) ?_ 100000 200 _ (by omega) ⟨0, t0, by omega, rfl, fun _ _ _ => rfl, fun j hj => by omega⟩
  rintro d rec _ ⟨i, t, hi, rfl, p1, p3⟩ ih
  show ∃ z, b_X8_goBack_213 rec (nI o) (nI i) t = _ ∧ _
  unfold b_X8_goBack_213
  rw [show (200 : Int32) = nI 200 from rfl, show (30 : Int32) = nI 30 from rfl, show (230 : Int32) = nI 230 from rfl, nI_add, nI_add, nI_add, nI_add]
  cases d with
  | zero =>
    have : i = 200 := by omega
    subst this
    rw [if_pos (nI_le (by omega) (by omega))]
    exact ⟨t, rfl, p1, p3⟩
  | succ d =>
    rw [if_neg (nI_ge (by omega) (by omega)), rd_n (by omega) (by omega), ck_n (by omega) (by omega), nm_d, nI_clamp (by omega), rd_n (by omega) (by omega), ck_n (by omega) (by omega), nm_d, nI_1, sR_ne _ _ (show 27 ≠ 11 by omega), p1 27 (by omega) (by omega)]
    refine ih d _ (by omega) ⟨i + 1, _, by omega, rfl, fun k k1 k2 => by rw [sR_ne _ _ k2, sR_ne _ _ k1]; exact p1 k k1 k2, fun j hj => ?_⟩
    rw [sR_ne _ _ (show 11 ≠ 12 by omega), sR_at, sR_at, sR_ne _ _ (show 12 ≠ 11 by omega)]
    by_cases z : j = i
    · subst z; rw [pk_us, pk_us]; exact ⟨rfl, rfl⟩
    · rw [pk_un z, pk_un z]; exact p3 j (by omega)
def bk8 (o : Nat) (t : St) : St := sR t 0 (upd (upd (upd (upd (upd (upd (upd (upd (t.1 0) 10 (t.1 27 (o + 18))) 11 (t.1 27 (o + 19))) 12 (t.1 27 (o + 20))) 13 (t.1 27 (o + 21))) 14 (t.1 27 (o + 22))) 17 (t.1 27 (o + 23))) 18 (t.1 27 (o + 24))) 21 (t.1 27 (o + 25)))
theorem gb62 {o : Nat} (ho : o ≤ 430) (t0 : St) : ∃ t, f_X8_goBack_62 (nI o) 0 t0 = f_X8_goBack_213 (nI o) 0 (bk8 o t) ∧ (∀ k, k ≠ 9 → k ≠ 10 → t.1 k = t0.1 k) ∧ ∀ j, j < 5 → t.1 9 j = t0.1 27 (o + 8 + j) ∧ t.1 10 j = t0.1 27 (o + 13 + j) := by
  unfold f_X8_goBack_62
  refine lp_x (fun d q => ∃ i t, i + d = 5 ∧ q = (nI o, nI i, t) ∧ (∀ k, k ≠ 9 → k ≠ 10 → t.1 k = t0.1 k) ∧ ∀ j, j < i → t.1 9 j = t0.1 27 (o + 8 + j) ∧ t.1 10 j = t0.1 27 (o + 13 + j)) (fun t => f_X8_goBack_213 (nI o) 0 (bk8 o t)) (fun t => (∀ k, k ≠ 9 → k ≠ 10 → t.1 k = t0.1 k) ∧ ∀ j, j < 5 → t.1 9 j = t0.1 27 (o + 8 + j) ∧ t.1 10 j = t0.1 27 (o + 13 + j)) ?_ 100000 5 _ (by omega) ⟨0, t0, by omega, rfl, fun _ _ _ => rfl, fun j hj => by omega⟩
  rintro d rec _ ⟨i, t, hi, rfl, p1, p3⟩ ih
  show ∃ z, b_X8_goBack_62 rec (nI o) (nI i) t = _ ∧ _
  unfold b_X8_goBack_62
  rw [show (5 : Int32) = nI 5 from rfl]
  cases d with
  | zero =>
    have : i = 5 := by omega
    subst this
    rw [if_pos (nI_le (by omega) (by omega))]
    have e : ∀ (f : Nat → Int32), (sR t 0 f).1 27 = t.1 27 := fun f => by rw [sR_ne _ _ (by omega)]
    refine ⟨t, ?_, p1, p3⟩
    clear ih
    generalize f_X8_goBack_213 (nI o) 0 = G
    rw [show (18 : Int32) = nI 18 from rfl, show (19 : Int32) = nI 19 from rfl, show (20 : Int32) = nI 20 from rfl, show (21 : Int32) = nI 21 from rfl, show (22 : Int32) = nI 22 from rfl, show (23 : Int32) = nI 23 from rfl, show (24 : Int32) = nI 24 from rfl, show (25 : Int32) = nI 25 from rfl, nI_add, nI_add, nI_add, nI_add, nI_add, nI_add, nI_add, nI_add]
    rw [rd_n (by omega) (by omega), nm_d, e, rd_n (by omega) (by omega), nm_d, sIsI t, e, rd_n (by omega) (by omega), nm_d, sIsI t, e, rd_n (by omega) (by omega), nm_d, sIsI t, e, rd_n (by omega) (by omega), nm_d, sIsI t, e, rd_n (by omega) (by omega), nm_d, sIsI t, e, rd_n (by omega) (by omega), nm_d, sIsI t, e, rd_n (by omega) (by omega), nm_d, sIsI t]
    rfl
  | succ d =>
    rw [if_neg (nI_ge (by omega) (by omega)), show (8 : Int32) = nI 8 from rfl, show (13 : Int32) = nI 13 from rfl, nI_add, nI_add, nI_add, nI_add, rd_n (by omega) (by omega), ck_n (by omega) (by omega), nm_d, nI_clamp (by omega), rd_n (by omega) (by omega), ck_n (by omega) (by omega), nm_d, nI_1, sR_ne _ _ (show 27 ≠ 9 by omega), p1 27 (by omega) (by omega)]
    refine ih d _ (by omega) ⟨i + 1, _, by omega, rfl, fun k k1 k2 => by rw [sR_ne _ _ k2, sR_ne _ _ k1]; exact p1 k k1 k2, fun j hj => ?_⟩
    rw [sR_ne _ _ (show 9 ≠ 10 by omega), sR_at, sR_at, sR_ne _ _ (show 10 ≠ 9 by omega)]
    by_cases z : j = i
    · subst z; rw [pk_us, pk_us]; exact ⟨rfl, rfl⟩
    · rw [pk_un z, pk_un z]; exact p3 j (by omega)
theorem backAll {o : Nat} (ho : o ≤ 430) (t0 : St) : ∃ t, f_X8_goBack_34 (nI o) 0 t0 = some (1, t) ∧ (∀ k, k ≠ 0 → (k < 8 ∨ 12 < k) → t.1 k = t0.1 k) ∧ (∀ j, j < 10 ∨ j = 15 ∨ j = 16 ∨ j = 19 ∨ j = 20 ∨ 21 < j → t.1 0 j = t0.1 0 j) ∧ IMG o (t0.1 27) t := by
  obtain ⟨t1, a1, a2, a4⟩ := gb34 ho t0
  obtain ⟨t2, b1, b2, b4⟩ := gb62 ho t1
  obtain ⟨t3, c1, c2, c4⟩ := gb213 ho (bk8 o t2)
  have s1 : ∀ k, k ≠ 0 → (bk8 o t2).1 k = t2.1 k := fun k hk => by unfold bk8; rw [sR_ne _ _ hk]
  have z0 : (bk8 o t2).1 0 = upd (upd (upd (upd (upd (upd (upd (upd (t2.1 0) 10 (t2.1 27 (o + 18))) 11 (t2.1 27 (o + 19))) 12 (t2.1 27 (o + 20))) 13 (t2.1 27 (o + 21))) 14 (t2.1 27 (o + 22))) 17 (t2.1 27 (o + 23))) 18 (t2.1 27 (o + 24))) 21 (t2.1 27 (o + 25)) := by unfold bk8; rw [sR_at]
  have z27 : t2.1 27 = t0.1 27 := by rw [b2 27 (by omega) (by omega), a2 27 (by omega)]
  rw [z27] at z0
  have e0 : t3.1 0 = (bk8 o t2).1 0 := c2 0 (by omega) (by omega)
  refine ⟨t3, by rw [a1, b1, c1], fun k k1 k2 => by rw [c2 k (by omega) (by omega), s1 k k1, b2 k (by omega) (by omega), a2 k (by omega)], fun j hj => ?_, fun j hj => ?_, fun j hj => ?_, ?_, fun j hj => ?_⟩
  · rw [e0, z0, pk_un (by omega), pk_un (by omega), pk_un (by omega), pk_un (by omega), pk_un (by omega), pk_un (by omega), pk_un (by omega), pk_un (by omega), b2 0 (by omega) (by omega), a2 0 (by omega)]
  · rw [c2 8 (by omega) (by omega), s1 8 (by omega), b2 8 (by omega) (by omega), a4 j hj]
  · rw [c2 9 (by omega) (by omega), s1 9 (by omega), c2 10 (by omega) (by omega), s1 10 (by omega), (b4 j hj).1, (b4 j hj).2, a2 27 (by omega)]; exact ⟨rfl, rfl⟩
  · rw [e0, z0]
    refine ⟨?_, ?_, ?_, ?_, ?_, ?_, ?_, ?_⟩
    · rw [pk_un (by omega), pk_un (by omega), pk_un (by omega), pk_un (by omega), pk_un (by omega), pk_un (by omega), pk_un (by omega), pk_us]
    · rw [pk_un (by omega), pk_un (by omega), pk_un (by omega), pk_un (by omega), pk_un (by omega), pk_un (by omega), pk_us]
    · rw [pk_un (by omega), pk_un (by omega), pk_un (by omega), pk_un (by omega), pk_un (by omega), pk_us]
    · rw [pk_un (by omega), pk_un (by omega), pk_un (by omega), pk_un (by omega), pk_us]
    · rw [pk_un (by omega), pk_un (by omega), pk_un (by omega), pk_us]
    · rw [pk_un (by omega), pk_un (by omega), pk_us]
    · rw [pk_un (by omega), pk_us]
    · rw [pk_us]
  · rw [(c4 j hj).1, (c4 j hj).2, s1 27 (by omega), z27]; exact ⟨rfl, rfl⟩
theorem ok_goBack {σc σm : St} (I : Inv σc σm) (x1 : Int32) : ∃ (r : Int32) (σc1 σm1 : St), f_X7_goBack x1 σc = some (r, σc1) ∧ f_X8_goBack x1 σm = some (r, σm1) ∧ Inv σc1 σm1 := by
  obtain ⟨H, S, v, hI⟩ := id I
  obtain ⟨B, C, M, R, ld, T, F, W, J⟩ := id hI
  obtain ⟨p, q, p1, q1, j1, j2, j3, j4, j5⟩ := id J
  unfold f_X7_goBack f_X8_goBack
  rcases in01 x1 σm with ⟨h1, h2⟩ | ⟨h1, h2, h3⟩ | ⟨i, hi, rfl, h1, h2, h3⟩
  · rw [if_pos h1, h2]; exact ⟨_, σc, σm, rfl, rfl, I⟩
  · rw [if_neg h1, if_neg h2, h3]; exact ⟨_, σc, σm, rfl, rfl, I⟩
  · obtain ⟨c, c1, c2, c3⟩ := imgAt hi σc
    have e430 : (430 * nI i : Int32) = nI (430 * i) := by rw [show (430 : Int32) = nI 430 from rfl, pk_mul]
    have e28 : σm.1 28 i = if i = 0 then nI p else nI q := by
      rcases (show i = 0 ∨ i = 1 by omega) with rfl | rfl
      · rw [if_pos rfl]; exact j2
      · rw [if_neg (by omega)]; exact j3
    rw [if_neg h1, if_pos h2, h3, bd_s, if_neg i10, j1, bitsG p1 q1 hi, rd_n hi (by omega), e28]
    by_cases z : (if i = 0 then nI p else nI q) = 0
    · rw [if_pos z, if_pos z]; exact ⟨_, σc, σm, rfl, rfl, I⟩
    · rw [if_neg z, if_neg z, c2, bd_s, nm_d, c3, ck_t, e430]
      have R2 : CG H S v c i σc σm := by
        rcases (show i = 0 ∨ i = 1 by omega) with rfl | rfl
        · have hc : c = 30 := by omega
          subst hc
          refine j4 ?_
          rw [if_pos rfl] at z
          rcases (show p = 0 ∨ p = 1 by omega) with e | e
          · exfalso; exact z (by rw [e]; rfl)
          · exact e
        · have hc : c = 41 := by omega
          subst hc
          refine j5 ?_
          rw [if_neg (by omega)] at z
          rcases (show q = 0 ∨ q = 1 by omega) with e | e
          · exfalso; exact z (by rw [e]; rfl)
          · exact e
      obtain ⟨s, a1, a2, a3, a4⟩ := ccp (a := 19) (b := c) B C (by omega) (by omega) (by omega) R2
      obtain ⟨t, b1, b2, b3, b5⟩ := backAll (o := 430 * i) (by omega) σm
      rw [a1, bv_s, b1]
      obtain ⟨i1, i2, ⟨i3, i4, i5, i6, i7, i8, i9, i10'⟩, i11⟩ := b5
      refine ⟨_, _, _, rfl, rfl, H, S, v, B, ?_, ?_, ?_, a4, ?_, ?_, ?_, ?_⟩
      · exact C.cg (fun k _ _ => a2 k (by omega))
      · exact M.cg (b3 0 (by omega)) (b3 4 (by omega)) (fun k _ _ => b2 k (by omega) (by omega))
      · exact CR.num B a3 (fun s' hs => (i1 s' hs).symm) (fun h hh => ⟨(i2 h hh).1.symm, (i2 h hh).2.symm⟩) (fun n hn => ⟨(i11 n hn).1.symm, (i11 n hn).2.symm⟩) i3.symm i4.symm i5.symm i6.symm i7.symm i8.symm i9.symm i10'.symm
      · exact T.cg (by rw [a2 1 (by omega)]) (a2 2 (by omega)) (b3 23 (by omega)) (b2 13 (by omega) (by omega))
      · rw [a2 1 (by omega), b3 24 (by omega)]; exact F
      · exact W.cg (by rw [a2 52 (by omega)]) (a2 53 (by omega)) (a2 54 (by omega)) (b3 44 (by omega)) (b2 25 (by omega) (by omega)) (b2 26 (by omega) (by omega))
      · exact J.cg (by rw [a2 0 (by omega)]) (fun k _ _ _ => a2 k (by omega)) (b2 28 (by omega) (by omega)) (b2 27 (by omega) (by omega))
