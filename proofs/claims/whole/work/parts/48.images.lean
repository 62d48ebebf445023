/-! ===== pure: images (own work) ===== -/
theorem cpyT {k : Nat} (hk : k ≤ 200) : decide ((¬ (0 : Int32) < 0) ∧ (¬ (0 : Int32) < 0) ∧ (¬ nI k < 0) ∧ (0 : Int32).toNatClampNeg + (nI k).toNatClampNeg ≤ 200 ∧ (0 : Int32).toNatClampNeg + (nI k).toNatClampNeg ≤ 200) = true := by
  have e0 : (0 : Int32).toNatClampNeg = 0 := by decide
  refine decide_eq_true ⟨by decide, by decide, nI_pos (by omega), ?_, ?_⟩
  · rw [e0, nI_clamp (by omega)]; omega
  · rw [e0, nI_clamp (by omega)]; omega
theorem cpyk {f g : Nat → Int32} {n j : Nat} (hn : n ≤ 200) (h : j < n) : va_cpy f g (0 : Int32).toNatClampNeg (0 : Int32).toNatClampNeg (nI n).toNatClampNeg j = f j := by
  rw [nI_clamp (by omega)]; exact sb_cpy0 h
/-- a course copied -/
theorem ccp {H S a b : Nat} {v : Nat → Nat → Nat} {σ : St} {sh oe dn ru mi : Nat → Int32} {na nl nf lw dy hd kp sd : Int32} (B : VB H S v) (V : VC H S v σ) (ha : 19 ≤ a) (hb : 19 ≤ b) (hd2 : b + 9 < a ∨ a + 9 < b) (R : CR H S v b σ sh oe dn na nl nf lw dy hd kp sd ru mi) : ∃ σ', f_X0_copyFrom a b σ = some σ' ∧ (∀ k, k < a ∨ a + 9 < k → σ'.1 k = σ.1 k) ∧ CR H S v a σ' sh oe dn na nl nf lw dy hd kp sd ru mi ∧ laid S (a + 1) σ' := by
  have h8 := B.2.1
  have hH := B.1
  obtain ⟨r1, r2, r3, r4, r5, r6, ⟨k, k0, k1, k2, k3⟩, r8, r9⟩ := R
  unfold f_X0_copyFrom
  obtain ⟨σ1, c0, c1, c2, c3, c4, c5, c6, c7, c8⟩ := ncp (a := a + 1) (b := b + 1) (σ := σ) (by omega) (by omega) h8 V.2.1 (by omega)
  rw [c0, bv_s, nm_d]
  have c1' : ∀ j, j < a + 1 ∨ a + 5 < j → σ1.1 j = σ.1 j := fun j hj => c1 j (by omega)
  generalize e3 : sI σ1 a 2 (σ1.1 b 2) = σ3
  have f3 : ∀ j, j ≠ a → σ3.1 j = σ1.1 j := fun j hj => by rw [← e3, sR_ne _ _ hj]
  have g3 : σ3.1 a = upd (σ.1 a) 2 (σ.1 b 2) := by rw [← e3, sR_at, c1' a (by omega), c1' b (by omega)]
  rw [show decide ((¬ (0 : Int32) < 0) ∧ (¬ (0 : Int32) < 0) ∧ (¬ (5 : Int32) < 0) ∧ (0 : Int32).toNatClampNeg + (5 : Int32).toNatClampNeg ≤ 5 ∧ (0 : Int32).toNatClampNeg + (5 : Int32).toNatClampNeg ≤ 5) = true by decide, ck_t, nm_d]
  generalize e5 : sR σ3 (a + 6) (va_cpy (σ3.1 (b + 6)) (σ3.1 (a + 6)) (0 : Int32).toNatClampNeg (0 : Int32).toNatClampNeg (5 : Int32).toNatClampNeg) = σ5
  have f5 : ∀ j, j ≠ a + 6 → σ5.1 j = σ3.1 j := fun j hj => by rw [← e5, sR_ne _ _ hj]
  have g5 : ∀ j, j < 5 → σ5.1 (a + 6) j = σ.1 (b + 6) j := fun j hj => by
    rw [← e5, sR_at]
    have : va_cpy (σ3.1 (b + 6)) (σ3.1 (a + 6)) (0 : Int32).toNatClampNeg (0 : Int32).toNatClampNeg (5 : Int32).toNatClampNeg j = σ3.1 (b + 6) j := sb_cpy0 hj
    rw [this, f3 _ (by omega), c1' _ (by omega)]
  rw [ck_t, nm_d]
  generalize e7 : sR σ5 (a + 7) (va_cpy (σ5.1 (b + 7)) (σ5.1 (a + 7)) (0 : Int32).toNatClampNeg (0 : Int32).toNatClampNeg (5 : Int32).toNatClampNeg) = σ7
  have f7 : ∀ j, j ≠ a + 7 → σ7.1 j = σ5.1 j := fun j hj => by rw [← e7, sR_ne _ _ hj]
  have g7 : ∀ j, j < 5 → σ7.1 (a + 7) j = σ.1 (b + 7) j := fun j hj => by
    rw [← e7, sR_at]
    have : va_cpy (σ5.1 (b + 7)) (σ5.1 (a + 7)) (0 : Int32).toNatClampNeg (0 : Int32).toNatClampNeg (5 : Int32).toNatClampNeg j = σ5.1 (b + 7) j := sb_cpy0 hj
    rw [this, f5 _ (by omega), f3 _ (by omega), c1' _ (by omega)]
  have h7b : ∀ j, (j < a ∨ a + 9 < j) → σ7.1 j = σ.1 j := fun j hj => by rw [f7 j (by omega), f5 j (by omega), f3 j (by omega), c1' j (by omega)]
  have h7a : σ7.1 a = upd (σ.1 a) 2 (σ.1 b 2) := by rw [f7 a (by omega), f5 a (by omega), g3]
  rw [nm_d, nm_d]
  generalize e8 : sI σ7 a 5 (σ7.1 b 5) = σ8
  generalize e9 : sI σ8 a 6 (σ8.1 b 6) = σ9
  have f9 : ∀ j, j ≠ a → σ9.1 j = σ7.1 j := fun j hj => by rw [← e9, sR_ne _ _ hj, ← e8, sR_ne _ _ hj]
  have g9 : σ9.1 a = upd (upd (upd (σ.1 a) 2 (σ.1 b 2)) 5 (σ.1 b 5)) 6 (σ.1 b 6) := by
    rw [← e9, sR_at, ← e8, sR_at, sR_ne _ _ (show b ≠ a by omega), h7a, h7b b (by omega)]
  have g96 : σ9.1 a 6 = nI k := by rw [g9, pk_us]; exact k1
  rw [g96, cpyT k0, ck_t, nm_d]
  generalize e11 : sR σ9 (a + 8) (va_cpy (σ9.1 (b + 8)) (σ9.1 (a + 8)) (0 : Int32).toNatClampNeg (0 : Int32).toNatClampNeg (nI k).toNatClampNeg) = σ11
  have f11 : ∀ j, j ≠ a + 8 → σ11.1 j = σ9.1 j := fun j hj => by rw [← e11, sR_ne _ _ hj]
  have g11 : ∀ j, j < k → σ11.1 (a + 8) j = σ.1 (b + 8) j := fun j hj => by
    rw [← e11, sR_at, cpyk k0 hj, f9 _ (by omega), h7b _ (by omega)]
  have g116 : σ11.1 a 6 = nI k := by rw [f11 a (by omega)]; exact g96
  rw [g116, cpyT k0, ck_t, nm_d]
  generalize e13 : sR σ11 (a + 9) (va_cpy (σ11.1 (b + 9)) (σ11.1 (a + 9)) (0 : Int32).toNatClampNeg (0 : Int32).toNatClampNeg (nI k).toNatClampNeg) = σ13
  have f13 : ∀ j, j ≠ a + 9 → σ13.1 j = σ11.1 j := fun j hj => by rw [← e13, sR_ne _ _ hj]
  have g13 : ∀ j, j < k → σ13.1 (a + 9) j = σ.1 (b + 9) j := fun j hj => by
    rw [← e13, sR_at, cpyk k0 hj, f11 _ (by omega), f9 _ (by omega), h7b _ (by omega)]
  rw [nm_d]
  generalize e14 : sI σ13 a 9 (σ13.1 b 9) = σ14
  have f14 : ∀ j, j ≠ a → σ14.1 j = σ13.1 j := fun j hj => by rw [← e14, sR_ne _ _ hj]
  have g14 : σ14.1 a = upd (upd (upd (upd (σ.1 a) 2 (σ.1 b 2)) 5 (σ.1 b 5)) 6 (σ.1 b 6)) 9 (σ.1 b 9) := by
    rw [← e14, sR_at, f13 a (by omega), f11 a (by omega), g9, f13 b (by omega), f11 b (by omega), f9 b (by omega), h7b b (by omega)]
  have F : ∀ j, j ≠ a → j ≠ a + 6 → j ≠ a + 7 → j ≠ a + 8 → j ≠ a + 9 → σ14.1 j = σ1.1 j := fun j j1 j2 j3 j4 j5 => by rw [f14 j j1, f13 j j5, f11 j j4, f9 j j1, f7 j j3, f5 j j2, f3 j j1]
  refine ⟨σ14, rfl, fun j hj => by rw [F j (by omega) (by omega) (by omega) (by omega) (by omega), c1' j (by omega)], ⟨fun s hs => ?_, fun h hh => ?_, ?_, ?_, ?_, ?_, ⟨k, k0, ?_, k2, fun i hi => ?_⟩, ?_, r9⟩, ?_⟩
  · rw [F (a + 2) (by omega) (by omega) (by omega) (by omega) (by omega), c3 s (by omega)]; exact r1 s hs
  · rw [f14 (a + 6) (by omega), f13 (a + 6) (by omega), f11 (a + 6) (by omega), f9 (a + 6) (by omega), f7 (a + 6) (by omega), g5 h (by omega), f14 (a + 7) (by omega), f13 (a + 7) (by omega), f11 (a + 7) (by omega), f9 (a + 7) (by omega), g7 h (by omega)]; exact r2 h hh
  · rw [F (a + 1) (by omega) (by omega) (by omega) (by omega) (by omega), c4, c5, c6]; exact r3
  · rw [F (a + 1) (by omega) (by omega) (by omega) (by omega) (by omega), c7]; exact r4
  · rw [g14]; exact r5
  · rw [g14]; exact r6
  · rw [g14]; exact k1
  · rw [f14 (a + 8) (by omega), f13 (a + 8) (by omega), g11 i hi, f14 (a + 9) (by omega), g13 i hi]; exact k3 i hi
  · rw [g14]; exact r8
  · have e1 := F (a + 1) (by omega) (by omega) (by omega) (by omega) (by omega)
    exact c8.cg (fun j _ _ => F j (by omega) (by omega) (by omega) (by omega) (by omega)) (fun j _ _ => F j (by omega) (by omega) (by omega) (by omega) (by omega)) (by rw [e1]) (by rw [e1]) (by rw [e1])
theorem CR.num {H S : Nat} {v : Nat → Nat → Nat} {c : Nat} {σ : St} {sh oe dn ru mi sh' oe' dn' ru' mi' : Nat → Int32} {na nl nf lw dy hd kp sd na' nl' nf' lw' dy' hd' kp' sd' : Int32} (B : VB H S v) (C : CR H S v c σ sh oe dn na nl nf lw dy hd kp sd ru mi) (h1 : ∀ s, s < 8 → sh' s = sh s) (h2 : ∀ h, h < 5 → oe' h = oe h ∧ dn' h = dn h) (h3 : ∀ i, i < 200 → ru' i = ru i ∧ mi' i = mi i) (a1 : na' = na) (a2 : nl' = nl) (a3 : nf' = nf) (a4 : lw' = lw) (a5 : dy' = dy) (a6 : hd' = hd) (a7 : kp' = kp) (a8 : sd' = sd) : CR H S v c σ sh' oe' dn' na' nl' nf' lw' dy' hd' kp' sd' ru' mi' := by
  have h8 := B.2.1
  have hH := B.1
  subst a1 a2 a3 a4 a5 a6 a7 a8
  obtain ⟨r1, r2, r3, r4, r5, r6, ⟨k, k0, k1, k2, k3⟩, r8⟩ := C
  refine ⟨fun s hs => by rw [h1 s (by omega)]; exact r1 s hs, fun h hh => by rw [(h2 h (by omega)).1, (h2 h (by omega)).2]; exact r2 h hh, r3, r4, r5, r6, ⟨k, k0, k1, k2, fun i hi => by rw [(h3 i (by omega)).1, (h3 i (by omega)).2]; exact k3 i hi⟩, r8⟩
/-- the reference's image at o of itself -/
def IMG (o : Nat) (f : Nat → Int32) (t : St) : Prop := (∀ j, j < 8 → f (o + j) = t.1 8 j) ∧ (∀ j, j < 5 → f (o + 8 + j) = t.1 9 j ∧ f (o + 13 + j) = t.1 10 j) ∧ (f (o + 18) = t.1 0 10 ∧ f (o + 19) = t.1 0 11 ∧ f (o + 20) = t.1 0 12 ∧ f (o + 21) = t.1 0 13 ∧ f (o + 22) = t.1 0 14 ∧ f (o + 23) = t.1 0 17 ∧ f (o + 24) = t.1 0 18 ∧ f (o + 25) = t.1 0 21) ∧ ∀ j, j < 200 → f (o + 30 + j) = t.1 11 j ∧ f (o + 230 + j) = t.1 12 j
theorem kp21 {o : Nat} (ho : o ≤ 430) (x1 : Int32) (t0 : St) : ∃ t, f_X8_keep_21 x1 (nI o) 0 t0 = f_X8_keep_49 x1 (nI o) 0 t ∧ (∀ k, k ≠ 27 → t.1 k = t0.1 k) ∧ (∀ j, j < o ∨ o + 8 ≤ j → t.1 27 j = t0.1 27 j) ∧ ∀ j, j < 8 → t.1 27 (o + j) = t0.1 8 j := by
  unfold f_X8_keep_21
  refine lp_x (fun d q => ∃ i t, i + d = 8 ∧ q = (x1, nI o, nI i, t) ∧ (∀ k, k ≠ 27 → t.1 k = t0.1 k) ∧ (∀ j, j < o ∨ o + 8 ≤ j → t.1 27 j = t0.1 27 j) ∧ ∀ j, j < i → t.1 27 (o + j) = t0.1 8 j) (fun t => f_X8_keep_49 x1 (nI o) 0 t) (fun t => (∀ k, k ≠ 27 → t.1 k = t0.1 k) ∧ (∀ j, j < o ∨ o + 8 ≤ j → t.1 27 j = t0.1 27 j) ∧ ∀ j, j < 8 → t.1 27 (o + j) = t0.1 8 j) ?_ 100000 8 _ (by omega) ⟨0, t0, by omega, rfl, fun _ _ => rfl, fun _ _ => rfl, fun j hj => by omega⟩
  rintro d rec _ ⟨i, t, hi, rfl, p1, p2, p3⟩ ih
  show ∃ z, b_X8_keep_21 rec x1 (nI o) (nI i) t = _ ∧ _
  unfold b_X8_keep_21
  rw [show (8 : Int32) = nI 8 from rfl]
  cases d with
  | zero =>
    have : i = 8 := by omega
    subst this
    rw [if_pos (nI_le (by omega) (by omega))]
    exact ⟨t, rfl, p1, p2, p3⟩
  | succ d =>
    rw [if_neg (nI_ge (by omega) (by omega)), rd_n (by omega) (by omega), nI_add, ck_n (by omega) (by omega), nm_d, nI_clamp (by omega), nI_1]
    refine ih d _ (by omega) ⟨i + 1, _, by omega, rfl, fun k hk => by rw [sR_ne _ _ hk]; exact p1 k hk, fun j hj => ?_, fun j hj => ?_⟩
    · rw [sR_at, pk_un (by omega)]; exact p2 j hj
    · rw [sR_at]
      by_cases z : j = i
      · subst z; rw [pk_us, p1 8 (by omega)]
      · rw [pk_un (by omega)]; exact p3 j (by omega)
theorem kp200 {o i : Nat} (ho : o ≤ 430) (hi : i < 2) (t0 : St) : ∃ t, f_X8_keep_200 (nI i) (nI o) 0 t0 = some (1, sI t 28 i 1) ∧ (∀ k, k ≠ 27 → t.1 k = t0.1 k) ∧ (∀ j, j < o + 30 ∨ o + 430 ≤ j → t.1 27 j = t0.1 27 j) ∧ ∀ j, j < 200 → t.1 27 (o + 30 + j) = t0.1 11 j ∧ t.1 27 (o + 230 + j) = t0.1 12 j := by
  unfold f_X8_keep_200
  refine lp_x (fun d q => ∃ n t, n + d = 200 ∧ q = (nI i, nI o, nI n, t) ∧ (∀ k, k ≠ 27 → t.1 k = t0.1 k) ∧ (∀ j, j < o + 30 ∨ o + 430 ≤ j → t.1 27 j = t0.1 27 j) ∧ ∀ j, j < n → t.1 27 (o + 30 + j) = t0.1 11 j ∧ t.1 27 (o + 230 + j) = t0.1 12 j) (fun (t : St) => some (1, sI t 28 i 1)) (fun (t : St) => (∀ k, k ≠ 27 → t.1 k = t0.1 k) ∧ (∀ j, j < o + 30 ∨ o + 430 ≤ j → t.1 27 j = t0.1 27 j) ∧ ∀ j, j < 200 → t.1 27 (o + 30 + j) = t0.1 11 j ∧ t.1 27 (o + 230 + j) = t0.1 12 j) ?_ 100000 200 _ (by omega) ⟨0, t0, by omega, rfl, fun _ _ => rfl, fun _ _ => rfl, fun j hj => by omega⟩
  rintro d rec _ ⟨n, t, hn, rfl, p1, p2, p3⟩ ih
  show ∃ z, b_X8_keep_200 rec (nI i) (nI o) (nI n) t = _ ∧ _
  unfold b_X8_keep_200
  rw [show (200 : Int32) = nI 200 from rfl, show (30 : Int32) = nI 30 from rfl, show (230 : Int32) = nI 230 from rfl, nI_add, nI_add, nI_add, nI_add]
  cases d with
  | zero =>
    have : n = 200 := by omega
    subst this
    rw [if_pos (nI_le (by omega) (by omega)), ck_n hi (by omega), nm_d, nI_clamp (by omega)]
    exact ⟨t, rfl, p1, p2, p3⟩
  | succ d =>
    rw [if_neg (nI_ge (by omega) (by omega)), rd_n (by omega) (by omega), ck_n (by omega) (by omega), nm_d, nI_clamp (by omega), rd_n (by omega) (by omega), ck_n (by omega) (by omega), nm_d, nI_clamp (by omega), nI_1, sR_ne _ _ (show 12 ≠ 27 by omega), p1 11 (by omega), p1 12 (by omega)]
    refine ih d _ (by omega) ⟨n + 1, _, by omega, rfl, fun k hk => by rw [sR_ne _ _ hk, sR_ne _ _ hk]; exact p1 k hk, fun j hj => ?_, fun j hj => ?_⟩
    · rw [sR_at, sR_at, pk_un (by omega), pk_un (by omega)]; exact p2 j hj
    · rw [sR_at, sR_at]
      by_cases z : j = n
      · subst z; rw [pk_un (by omega), pk_us, pk_us]; exact ⟨rfl, rfl⟩
      · rw [pk_un (by omega), pk_un (by omega), pk_un (by omega), pk_un (by omega)]; exact p3 j (by omega)
