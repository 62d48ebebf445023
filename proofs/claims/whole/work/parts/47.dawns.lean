/-! ===== pure: dawns, the rest (own work) ===== -/
/-- days on end and works done -/
def OE (H : Nat) (v : Nat → Nat → Nat) (σ τ : St) : Prop := (∀ h, h < H → σ.1 25 h = τ.1 9 h ∧ (∃ k, k < v 0 h ∧ τ.1 9 h = nI k) ∧ σ.1 26 h = τ.1 10 h) ∧ σ.1 19 5 = τ.1 0 17
theorem count2 {H S h : Nat} {v : Nat → Nat → Nat} {σ τ : St} (B : VB H S v) (C : VC H S v σ) (M : VM H S v τ) (hh : h < H) (O : OE H v σ τ) (y : Int32) : ∃ σ' τ', f_X0_countDayOf (nI h) σ = some σ' ∧ f_X8_dawnNow_199 y (nI h) 0 τ = some (y, τ') ∧ OE H v σ' τ' ∧ (∀ k, k ≠ 19 → k ≠ 25 → k ≠ 26 → σ'.1 k = σ.1 k) ∧ (∀ j, j ≠ 5 → σ'.1 19 j = σ.1 19 j) ∧ (∀ k, k ≠ 0 → k ≠ 9 → k ≠ 10 → τ'.1 k = τ.1 k) ∧ (∀ j, j ≠ 17 → τ'.1 0 j = τ.1 0 j) := by
  have hH := B.1
  obtain ⟨o1, ⟨k, k1, k2⟩, o3⟩ := O.1 h hh
  have hv := B.2.2.1 h hh
  have cb := C.2.2.1 h hh
  have mb := M.2.2.1 h hh
  -- the reference's loop
  have ref : ∃ t, f_X8_dawnNow_199 y (nI h) 0 τ = (if nI (k + 1) < nI (v 0 h) then some (y, t) else some (y, sI (sI (sI t 9 h 0) 10 h (τ.1 10 h + 1)) 0 17 (τ.1 0 17 + nI (v 1 h)))) ∧ (∀ j, j ≠ 9 → t.1 j = τ.1 j) ∧ ∀ j, j < H → t.1 9 j = if j = h then nI (k + 1) else 0 := by
    unfold f_X8_dawnNow_199
    refine lp_x (fun d q => ∃ (i : Nat) (t : St), i + d = H ∧ q = (y, nI h, nI i, t) ∧ (∀ j, j ≠ 9 → t.1 j = τ.1 j) ∧ (∀ j, j < i → t.1 9 j = if j = h then nI (k + 1) else 0) ∧ (i ≤ h → t.1 9 h = nI k)) (fun (t : St) => if nI (k + 1) < nI (v 0 h) then some (y, t) else some (y, sI (sI (sI t 9 h 0) 10 h (τ.1 10 h + 1)) 0 17 (τ.1 0 17 + nI (v 1 h)))) (fun (t : St) => (∀ j, j ≠ 9 → t.1 j = τ.1 j) ∧ ∀ j, j < H → t.1 9 j = if j = h then nI (k + 1) else 0) ?_ 100000 H _ (by omega) ⟨0, τ, by omega, rfl, fun _ _ => rfl, fun j hj => by omega, fun _ => k2⟩
    rintro d rec _ ⟨i, t, hi, rfl, p1, p2, p3⟩ ih
    show ∃ z, b_X8_dawnNow_199 rec y (nI h) (nI i) t = _ ∧ _
    unfold b_X8_dawnNow_199 f_X8_dawnNow_229
    rw [p1 0 (by omega), M.1]
    cases d with
    | zero =>
      have : i = H := by omega
      subst this
      refine ⟨t, ?_, p1, p2⟩
      rw [if_pos (nI_le (by omega) (by omega)), rd_n (by omega) (by omega), rd_n (by omega) (by omega), p2 h hh, if_pos rfl, p1 1 (by omega), mb.1]
      by_cases q : nI (k + 1) < nI (v 0 h)
      · rw [if_pos q, if_pos q]
      · rw [if_neg q, if_neg q, ck_n (by omega) (by omega), nm_d, nI_clamp (by omega), rd_n (by omega) (by omega), ck_n (by omega) (by omega), nm_d, rd_n (by omega) (by omega), nm_d]
        have a1 : (sI t 9 h 0).1 10 = τ.1 10 := by rw [sR_ne _ _ (by omega), p1 10 (by omega)]
        have a2 : ∀ x, (sI (sI t 9 h 0) 10 h x).1 2 h = nI (v 1 h) := fun x => by rw [sR_ne _ _ (by omega), sR_ne _ _ (by omega), p1 2 (by omega)]; exact mb.2.1
        have a3 : ∀ x, (sI (sI t 9 h 0) 10 h x).1 0 17 = τ.1 0 17 := fun x => by rw [sR_ne _ _ (by omega), sR_ne _ _ (by omega), p1 0 (by omega)]
        rw [a1, a2, a3]
    | succ d =>
      rw [if_neg (nI_ge (by omega) (by omega))]
      by_cases q : i = h
      · subst q
        rw [if_pos rfl, rd_n (by omega) (by omega), ck_n (by omega) (by omega), nm_d, nI_clamp (by omega), p3 (by omega), nI_1, nI_1]
        refine ih d _ (by omega) ⟨i + 1, _, by omega, rfl, fun j hj => by rw [sR_ne _ _ hj]; exact p1 j hj, fun j hj => ?_, fun z => by omega⟩
        rw [sR_at]
        by_cases z : j = i
        · subst z; rw [pk_us, if_pos rfl]
        · rw [pk_un z]; exact p2 j (by omega)
      · rw [if_neg (fun z => q ((nI_eq (by omega) (by omega)).mp z)), ck_n (by omega) (by omega), nm_d, nI_clamp (by omega), nI_1]
        refine ih d _ (by omega) ⟨i + 1, _, by omega, rfl, fun j hj => by rw [sR_ne _ _ hj]; exact p1 j hj, fun j hj => ?_, fun z => by rw [sR_at, pk_un (by omega)]; exact p3 (by omega)⟩
        rw [sR_at]
        by_cases z : j = i
        · subst z; rw [pk_us, if_neg q]
        · rw [pk_un z]; exact p2 j (by omega)
  obtain ⟨t, r1, r2, r3⟩ := ref
  rw [r1]
  unfold f_X0_countDayOf
  obtain ⟨s, f0, f1, f2, f3, f4⟩ := fillI (r := 25) (n := 5) (by omega) 0 σ
  rw [rd_n (by omega) (by omega), nm_d, f0, bv_s, rd_n (by omega) (by omega), f2 4 (by omega), cb.1, o1, k2, nI_1]
  by_cases q : nI (k + 1) < nI (v 0 h)
  · have q' : k + 1 < v 0 h := (nI_ltI (by omega) (by omega)).mp q
    rw [if_pos q, if_pos q, ck_n (by omega) (by omega), nm_d, nI_clamp (by omega)]
    refine ⟨_, _, rfl, rfl, ⟨fun j hj => ?_, ?_⟩, fun j j1 j2 j3 => ?_, fun j hj => ?_, fun j j1 j2 j3 => r2 j j2, fun j hj => by rw [r2 0 (by omega)]⟩
    · rw [sR_at, sR_ne _ _ (by omega), f2 26 (by omega), r2 10 (by omega), r3 j hj]
      by_cases z : j = h
      · subst z; rw [pk_us, if_pos rfl]; exact ⟨rfl, ⟨k + 1, q', rfl⟩, o3⟩
      · rw [pk_un z, if_neg z, f3 j (by omega)]
        have := B.2.2.1 j hj
        exact ⟨rfl, ⟨0, by omega, rfl⟩, (O.1 j hj).2.2⟩
    · rw [sR_ne _ _ (by omega), f2 19 (by omega), r2 0 (by omega)]; exact O.2
    · rw [sR_ne _ _ j2, f2 j j2]
    · rw [sR_ne _ _ (by omega), f2 19 (by omega)]
  · rw [if_neg q, if_neg q, rd_n (by omega) (by omega), ck_n (by omega) (by omega), nm_d, nI_clamp (by omega), rd_n (by omega) (by omega), nm_d, f2 26 (by omega)]
    have a1 : ∀ x, (sI s 26 h x).1 5 h = nI (v 1 h) := fun x => by rw [sR_ne _ _ (by omega), f2 5 (by omega)]; exact cb.2.1
    have a2 : ∀ x, (sI s 26 h x).1 19 5 = τ.1 0 17 := fun x => by rw [sR_ne _ _ (by omega), f2 19 (by omega)]; exact O.2
    rw [a1, a2]
    refine ⟨_, _, rfl, rfl, ⟨fun j hj => ?_, ?_⟩, fun j j1 j2 j3 => ?_, fun j hj => ?_, fun j j1 j2 j3 => ?_, fun j hj => ?_⟩
    · have hvj := B.2.2.1 j hj
      show s.1 25 j = upd (t.1 9) h 0 j ∧ (∃ k, k < v 0 j ∧ upd (t.1 9) h 0 j = nI k) ∧ upd (s.1 26) h (σ.1 26 h + 1) j = upd (t.1 10) h (τ.1 10 h + 1) j
      rw [f3 j (by omega), f2 26 (by omega), r2 10 (by omega)]
      by_cases z : j = h
      · subst z; simp only [pk_us]; rw [o3]; exact ⟨trivial, ⟨0, by omega, rfl⟩, rfl⟩
      · simp only [pk_un z]; rw [r3 j hj, if_neg z]; exact ⟨rfl, ⟨0, by omega, rfl⟩, (O.1 j hj).2.2⟩
    · rw [sR_at, sR_at, pk_us, pk_us]
    · rw [sR_ne _ _ j1, sR_ne _ _ j3, f2 j j2]
    · rw [sR_at, pk_un hj, sR_ne _ _ (by omega), f2 19 (by omega)]
    · rw [sR_ne _ _ j1, sR_ne _ _ j3, sR_ne _ _ j2]; exact r2 j j2
    · rw [sR_at, pk_un hj, sR_ne _ _ (by omega), sR_ne _ _ (by omega), r2 0 (by omega)]
/-- the day of a ruler -/
theorem day79 {H S w : Nat} {v : Nat → Nat → Nat} {σ τ : St} (I : InvV H S v σ τ) (hw : w < S) (e : σ.1 29 w = τ.1 21 w) : ∃ σ' τ', f_X0_liveDay_79 (nI w) σ = some (nI w, σ') ∧ f_X8_dawnNow_134 (nI w) τ = some (nI w, τ') ∧ InvV H S v σ' τ' := by
  obtain ⟨B, C, M, R, ld, T, F, W, J⟩ := id I
  have h8 := B.2.1
  have hH := B.1
  have hv := B.2.2.2 w hw
  obtain ⟨r1, r2, r3, r4, r5, r6, r7, r8⟩ := R
  have r5' : σ.1 19 2 = τ.1 0 14 := r5
  unfold f_X0_liveDay_79
  rw [nm_d]
  obtain ⟨σ1, τ1, a1, a2, a3, a4, a5, a6, a7⟩ := keep2 (σ := sI σ 19 2 (σ.1 19 2 + 1)) (τ := τ) (w := w) (by omega) r7 e
  rw [a1, bv_s, a2]
  unfold f_X8_dawnNow_180
  have b1 : ∀ k, k ≠ 19 → k ≠ 27 → k ≠ 28 → σ1.1 k = σ.1 k := fun k k1 k2 k3 => by rw [a4 k k1 k2 k3, sR_ne _ _ k1]
  have C1 : VC H S v σ1 := C.cg (fun k _ _ => b1 k (by omega) (by omega) (by omega))
  have M1 : VM H S v τ1 := M.cg (a7 0 (by omega)) (a7 4 (by omega)) (fun k _ _ => a6 k (by omega) (by omega) (by omega))
  rw [nm_d, rd_n (by omega) (by omega), rd_n (by omega) (by omega), (C1.2.2.2 w hw).1, sR_ne _ _ (by omega), (M1.2.2.2 w hw).1]
  have M2 : VM H S v (sI τ1 0 14 (τ1.1 0 14 + 1)) := M1.cg rfl rfl (fun k _ _ => sR_ne _ _ (by omega))
  have O : OE H v σ1 (sI τ1 0 14 (τ1.1 0 14 + 1)) := by
    refine ⟨fun h hh => ?_, ?_⟩
    · rw [b1 25 (by omega) (by omega) (by omega), b1 26 (by omega) (by omega) (by omega), sR_ne _ _ (by omega), sR_ne _ _ (by omega), a6 9 (by omega) (by omega) (by omega), a6 10 (by omega) (by omega) (by omega)]; exact r2 h hh
    · rw [a5 5 (by omega), sR_at, pk_un (by omega), sR_at, pk_un (by omega), a7 17 (by omega)]; exact r6
  obtain ⟨σ2, τ2, c1, c2, c3, c4, c5, c6, c7⟩ := count2 B C1 M2 hv.1 O (nI w)
  rw [c1, bv_s, c2]
  refine ⟨σ2, τ2, rfl, rfl, B, C1.cg (fun k _ _ => c4 k (by omega) (by omega) (by omega)), M2.cg (c7 0 (by omega)) (c7 4 (by omega)) (fun k _ _ => c6 k (by omega) (by omega) (by omega)), ?_, ?_, ?_, ?_, ?_, ?_⟩
  · have g1 : ∀ k, k ≠ 19 → k ≠ 25 → k ≠ 26 → k ≠ 27 → k ≠ 28 → σ2.1 k = σ.1 k := fun k k1 k2 k3 k4 k5 => by rw [c4 k k1 k2 k3, b1 k k1 k4 k5]
    have g0 : ∀ j, j ≠ 17 → j ≠ 14 → j ≠ 18 → τ2.1 0 j = τ.1 0 j := fun j j1 j2 j3 => by rw [c7 j j1, sR_at, pk_un j2, a7 j j3]
    have g8 : ∀ k, k ≠ 0 → k ≠ 9 → k ≠ 10 → τ2.1 k = τ1.1 k := fun k k1 k2 k3 => by rw [c6 k k1 k2 k3, sR_ne _ _ k1]
    refine ⟨fun s hs => ?_, fun h hh => ?_, ?_, ?_, ?_, ?_, ?_, ?_⟩
    · rw [g1 21 (by omega) (by omega) (by omega) (by omega) (by omega), g8 8 (by omega) (by omega) (by omega), a6 8 (by omega) (by omega) (by omega)]; exact r1 s hs
    · exact c3.1 h hh
    · rw [g1 20 (by omega) (by omega) (by omega) (by omega) (by omega), g0 10 (by omega) (by omega) (by omega), g0 11 (by omega) (by omega) (by omega), g0 12 (by omega) (by omega) (by omega)]; exact r3
    · rw [g1 20 (by omega) (by omega) (by omega) (by omega) (by omega), g0 13 (by omega) (by omega) (by omega)]; exact r4
    · rw [c5 2 (by omega), a5 2 (by omega), sR_at, pk_us, c7 14 (by omega), sR_at, pk_us, a7 14 (by omega), r5']
    · exact c3.2
    · obtain ⟨k, k0, k1, k2, k3⟩ := a3
      refine ⟨k, k0, ?_, ?_, fun i hi => ?_⟩
      · rw [c5 6 (by omega)]; exact k1
      · rw [c7 18 (by omega), sR_at, pk_un (by omega)]; exact k2
      · rw [c4 27 (by omega) (by omega) (by omega), c4 28 (by omega) (by omega) (by omega), g8 11 (by omega) (by omega) (by omega), g8 12 (by omega) (by omega) (by omega)]; exact k3 i hi
    · rw [c5 9 (by omega), a5 9 (by omega), sR_at, pk_un (by omega), g0 21 (by omega) (by omega) (by omega)]; exact r8
  · have g1 : ∀ k, k ≠ 19 → k ≠ 25 → k ≠ 26 → k ≠ 27 → k ≠ 28 → σ2.1 k = σ.1 k := fun k k1 k2 k3 k4 k5 => by rw [c4 k k1 k2 k3, b1 k k1 k4 k5]
    have e20 := g1 20 (by omega) (by omega) (by omega) (by omega) (by omega)
    exact ld.cg (fun k _ _ => g1 k (by omega) (by omega) (by omega) (by omega) (by omega)) (fun k _ _ => g1 k (by omega) (by omega) (by omega) (by omega) (by omega)) (by rw [e20]) (by rw [e20]) (by rw [e20])
  · refine T.cg ?_ ?_ ?_ ?_
    · rw [c4 1 (by omega) (by omega) (by omega), b1 1 (by omega) (by omega) (by omega)]
    · rw [c4 2 (by omega) (by omega) (by omega), b1 2 (by omega) (by omega) (by omega)]
    · rw [c7 23 (by omega), sR_at, pk_un (by omega), a7 23 (by omega)]
    · rw [c6 13 (by omega) (by omega) (by omega), sR_ne _ _ (by omega), a6 13 (by omega) (by omega) (by omega)]
  · rw [c4 1 (by omega) (by omega) (by omega), b1 1 (by omega) (by omega) (by omega), c7 24 (by omega), sR_at, pk_un (by omega), a7 24 (by omega)]; exact F
  · refine W.cg ?_ ?_ ?_ ?_ ?_ ?_
    · rw [c4 52 (by omega) (by omega) (by omega), b1 52 (by omega) (by omega) (by omega)]
    · rw [c4 53 (by omega) (by omega) (by omega), b1 53 (by omega) (by omega) (by omega)]
    · rw [c4 54 (by omega) (by omega) (by omega), b1 54 (by omega) (by omega) (by omega)]
    · rw [c7 44 (by omega), sR_at, pk_un (by omega), a7 44 (by omega)]
    · rw [c6 25 (by omega) (by omega) (by omega), sR_ne _ _ (by omega), a6 25 (by omega) (by omega) (by omega)]
    · rw [c6 26 (by omega) (by omega) (by omega), sR_ne _ _ (by omega), a6 26 (by omega) (by omega) (by omega)]
  · refine J.cg ?_ (fun k k1 k2 k3 => ?_) ?_ ?_
    · rw [c4 0 (by omega) (by omega) (by omega), b1 0 (by omega) (by omega) (by omega)]
    · rw [c4 k (by omega) (by omega) (by omega), b1 k (by omega) (by omega) (by omega)]
    · rw [c6 28 (by omega) (by omega) (by omega), sR_ne _ _ (by omega), a6 28 (by omega) (by omega) (by omega)]
    · rw [c6 27 (by omega) (by omega) (by omega), sR_ne _ _ (by omega), a6 27 (by omega) (by omega) (by omega)]
/-- one dawn, both sides -/
theorem dawn2 {H S : Nat} {v : Nat → Nat → Nat} {σ τ : St} (I : InvV H S v σ τ) (hS : 0 < S) : ∃ (r : Int32) (σ' τ' : St), f_X0_liveDay σ = some (r, σ') ∧ f_X8_dawnNow τ = some (r, τ') ∧ InvV H S v σ' τ' := by
  have B := I.1
  have h8 := B.2.1
  unfold f_X0_liveDay f_X8_dawnNow f_X0_liveDay_2 f_X8_dawnNow_4
  obtain ⟨l, -, hl, el⟩ := I.2.2.2.1.2.2.2.1.2
  have key := lp_2x (B := fun (rec2 : Int32 × St → Option (Int32 × St)) (q : Int32 × St) => b_X0_liveDay_2 rec2 (q.1) (q.2)) (B2 := fun (rec4 : Int32 × Int32 × St → Option (Int32 × St)) (q : Int32 × Int32 × St) => b_X8_dawnNow_4 rec4 (q.1) (q.2.1) (q.2.2))
    (fun d a b => ∃ (i : Nat) (s t : St), i + d = S ∧ a = (nI i, s) ∧ b = (nI (pw l (t.1 21) i), nI i, t) ∧ InvV H S v s t ∧ t.1 0 13 = nI l ∧ ∀ j, j < i → s.1 29 j = t.1 21 j)
    (fun (s : St) => if (s.1 20 5) = 2 then bd (f_X0_draw (s.1 3 4) s) (fun r8 σ6 => f_X0_liveDay_79 r8 σ6) else bd (f_X0_whoIsAhead s) (fun r5 σ3 => f_X0_liveDay_79 r5 σ3))
    (fun (t : St) => if (t.1 0 13) = 2 then bd (f_X8_draw (t.1 0 4) t) (fun r5 σ3 => f_X8_dawnNow_134 r5 σ3) else f_X8_dawnNow_134 (nI (pw l (t.1 21) S)) t)
    (fun s t => InvV H S v s t ∧ t.1 0 13 = nI l ∧ ∀ j, j < S → s.1 29 j = t.1 21 j) ?_ 100000 S (0, σ) (0, 0, τ) (by omega) ⟨0, σ, τ, by omega, rfl, rfl, I, el, fun j hj => by omega⟩
  · obtain ⟨s, t, k1, k2, k3, k4, k5⟩ := key
    rw [k1, k2]
    have elc : s.1 20 5 = nI l := by rw [← k4]; exact k3.2.2.2.1.2.2.2.1.1
    rw [elc, k4]
    by_cases h2 : l = 2
    · subst h2
      rw [if_pos (show nI 2 = 2 from rfl), if_pos (show nI 2 = 2 from rfl), k3.2.1.2.1, k3.2.2.1.2.1]
      obtain ⟨k, r, r1, r2, r3, r4⟩ := draw2 k3 hS (by omega)
      rw [r3, r4, bd_s, bd_s]
      obtain ⟨σ', τ', a1, a2, a3⟩ := day79 (inv_seed k3 r2) r1 (k5 r r1)
      exact ⟨_, σ', τ', a1, a2, a3⟩
    · have hn2 : ¬ nI l = 2 := fun q => h2 ((nI_eq (b := 2) (by omega) (by omega)).mp q)
      rw [if_neg hn2, if_neg hn2, aheadC B k3.2.1 hS elc (by omega), bd_s, pw_cg S k5]
      have hp := pw_lt l (t.1 21) S
      obtain ⟨σ', τ', a1, a2, a3⟩ := day79 k3 (w := pw l (t.1 21) S) (by omega) (k5 _ (by omega))
      exact ⟨_, σ', τ', a1, a2, a3⟩
  rintro d rec rec2 _ _ ⟨i, s, t, hi, rfl, rfl, J, jl, jm⟩ ih
  show ∃ z w, b_X0_liveDay_2 rec (nI i) s = _ ∧ b_X8_dawnNow_4 rec2 (nI (pw l (t.1 21) i)) (nI i) t = _ ∧ _
  unfold b_X0_liveDay_2 b_X8_dawnNow_4
  cases d with
  | zero =>
    have : i = S := by omega
    subst this
    refine ⟨s, t, ?_, ?_, J, jl, jm⟩
    · rw [if_pos (by rw [J.2.1.2.1]; exact nI_le (by omega) (by omega))]
    · rw [if_pos (by rw [J.2.2.1.2.1]; exact nI_le (by omega) (by omega))]
  | succ d =>
    have hi2 : i < S := by omega
    have hv := B.2.2.2 i hi2
    have hp := pw_lt l (t.1 21) i
    rw [if_neg (by rw [J.2.1.2.1]; exact nI_ge (by omega) (by omega)), if_neg (by rw [J.2.2.1.2.1]; exact nI_ge (by omega) (by omega)), rd_n (by omega) (by omega), rd_n (by omega) (by omega), (J.2.1.2.2.2 i hi2).2.2.1, (J.2.2.1.2.2.2 i hi2).2.2.1]
    have e2 : (2 * nI (v 5 i) + 1 : Int32) = nI (2 * v 5 i + 1) := by rw [show (2 : Int32) = nI 2 from rfl, pk_mul, nI_1]
    rw [e2]
    obtain ⟨k, r, r1, r2, r3, r4⟩ := draw2 J (m := 2 * v 5 i + 1) (by omega) (by omega)
    have J2 := inv_seed J r2
    rw [r3, r4, bd_s, bd_s]
    generalize hs' : sI s 19 9 (nI k) = s' at J2
    generalize ht' : sI t 0 21 (nI k) = t' at J2
    have es29 : s'.1 29 = s.1 29 := by rw [← hs', sR_ne _ _ (by omega)]
    have et21 : t'.1 21 = t.1 21 := by rw [← ht', sR_ne _ _ (by omega)]
    have et13 : t'.1 0 13 = nI l := by rw [← ht', sR_at, pk_un (by omega)]; exact jl
    obtain ⟨sh, f1, f2, f3, f4, f5, f6⟩ := fl_eq B J2.2.1 J2.2.2.1 J2.nr hi2
    have hfst : f_X8_firstOf (nI i) t' = some (s'.1 22 i, t') := by rw [firstM B hi2]; rw [← f3]
    have hx : (s'.1 22 i + nI r).toInt < 1000000 := by
      have f5' : (s'.1 22 i).toInt = (v 4 i : Int) - sh - v 5 i := f5
      rw [add_tI (by rw [f5', nI_toInt (by omega)]; omega) (by rw [f5', nI_toInt (by omega)]; omega), f5', nI_toInt (by omega)]; omega
    have hmin : f_X1_minuteAt 20 (nI i) (nI r) s' = some (hrd (s'.1 24 i) (s'.1 22 i + nI r), s') := by
      unfold f_X1_minuteAt; rw [rd_n (by omega) (by omega), heardC (by omega), bd_s]
    rw [hmin, hfst, bd_s, bd_s, heardM B J2.2.1 J2.2.2.1 J2.nr hi2 hx, bd_s, ck_n (by omega) (by omega), ck_n (by omega) (by omega), nm_d, nm_d, nI_clamp (by omega)]
    generalize hrd (s'.1 24 i) (s'.1 22 i + nI r) = x
    have J3 : InvV H S v (sI s' 29 i x) (sI t' 21 i x) := J2.cg (fun k hk => sR_ne _ _ (by omega)) (fun k hk => sR_ne _ _ (by omega)) (fun j hj => rfl)
    have q13 : (sI t' 21 i x).1 0 13 = nI l := et13
    have pwi : pw l (t.1 21) i = pw l ((sI t' 21 i x).1 21) i := pw_cg i (fun j hj => by rw [sR_at, pk_un (by omega), et21])
    rw [pwi, q13]
    have jm3 : ∀ j, j < i + 1 → (sI s' 29 i x).1 29 j = (sI t' 21 i x).1 21 j := fun j hj => by
      rw [sR_at, sR_at]
      by_cases z : j = i
      · subst z; rw [pk_us, pk_us]
      · rw [pk_un z, pk_un z, es29, et21]; exact jm j (by omega)
    have hp3 := pw_lt l ((sI t' 21 i x).1 21) i
    generalize hs3 : sI s' 29 i x = s3 at J3 jm3
    generalize ht3 : sI t' 21 i x = t3 at J3 jm3 hp3 q13
    unfold f_X8_dawnNow_95 f_X8_dawnNow_107
    simp only [rd_n (show i < 8 by omega) (show 8 < 2 ^ 31 by omega), rd_n (show pw l (t3.1 21) i < 8 by omega) (show 8 < 2 ^ 31 by omega), if_true, if_neg i10, nI_1]
    have go : ∀ u, u = pw l (t3.1 21) (i + 1) → ∃ z w, rec (nI (i + 1), s3) = _ ∧ rec2 (nI u, nI (i + 1), t3) = _ ∧ _ := fun u hu => ih d (nI (i + 1), s3) (nI u, nI (i + 1), t3) (by omega) ⟨i + 1, s3, t3, by omega, rfl, by rw [hu], J3, q13, jm3⟩
    by_cases h0 : l = 0
    · rw [if_pos (by rw [h0]; rfl)]
      by_cases q : t3.1 21 (pw l (t3.1 21) i) ≤ t3.1 21 i
      · rw [if_pos q]
        exact go _ (by rw [pw, if_pos h0, if_pos q])
      · rw [if_neg q]
        exact go _ (by rw [pw, if_pos h0, if_neg q])
    · rw [if_neg (show ¬ nI l = 0 from fun z => h0 ((nI_eq (b := 0) (by omega) (by omega)).mp z))]
      by_cases q : t3.1 21 i ≤ t3.1 21 (pw l (t3.1 21) i)
      · rw [if_pos q]
        exact go _ (by rw [pw, if_neg h0, if_pos q])
      · rw [if_neg q]
        exact go _ (by rw [pw, if_neg h0, if_neg q])
theorem ok_dawn {σc σm : St} (I : Inv σc σm) (x1 : Int32) : ∃ (r : Int32) (σc1 σm1 : St), f_X7_dawn x1 σc = some (r, σc1) ∧ f_X8_dawn x1 σm = some (r, σm1) ∧ Inv σc1 σm1 := by
  obtain ⟨H, S, v, hI⟩ := id I
  have h8 := hI.1.2.1
  unfold f_X7_dawn f_X8_dawn
  rcases in160 (x := x1) (n := 99) (N := 99) (b := 99) rfl (by omega) (by decide) σm with ⟨h1, h2⟩ | ⟨h1, h2, h3⟩ | ⟨h1, h2, h3, k, k1, k2, rfl⟩
  · rw [if_pos h1, h2]; exact ⟨_, σc, σm, rfl, rfl, I⟩
  · rw [if_neg h1, if_neg h2, h3]; exact ⟨_, σc, σm, rfl, rfl, I⟩
  · rw [if_neg h1, if_pos h2, h3, bd_s, if_neg i10, hI.2.1.2.1, hI.2.2.1.2.1]
    by_cases hS : S = 0
    · subst hS
      rw [if_pos (show nI 0 = 0 from rfl), if_pos (show nI 0 = 0 from rfl)]
      exact ⟨_, σc, σm, rfl, rfl, I⟩
    have hne : ¬ nI S = 0 := nI_ne0 (by omega) (by omega)
    rw [if_neg hne, if_neg hne]
    unfold f_X7_dawn_31 f_X8_dawn_30
    have key := lp_2 (B := fun (rec31 : Int32 × Int32 × Int32 × St → Option (Int32 × St)) (q : Int32 × Int32 × Int32 × St) => b_X7_dawn_31 rec31 (q.1) (q.2.1) (q.2.2.1) (q.2.2.2)) (B2 := fun (rec30 : Int32 × Int32 × Int32 × St → Option (Int32 × St)) (q : Int32 × Int32 × Int32 × St) => b_X8_dawn_30 rec30 (q.1) (q.2.1) (q.2.2.1) (q.2.2.2))
      (fun d a b => ∃ (i : Nat) (x : Int32) (s t : St), i + d = k ∧ a = (nI k, x, nI i, s) ∧ b = (nI k, x, nI i, t) ∧ InvV H S v s t) (fun _ _ o p => o.1 = p.1 ∧ InvV H S v o.2 p.2) ?_ 100000 k (nI k, -1, 0, σc) (nI k, -1, 0, σm) (by omega) ⟨0, -1, σc, σm, by omega, rfl, rfl, hI⟩
    · obtain ⟨⟨o1, o2⟩, ⟨p1, p2⟩, c1, c2, c3, c4⟩ := key
      have c3' : o1 = p1 := c3
      subst c3'
      exact ⟨o1, o2, p2, c1, c2, H, S, v, c4⟩
    rintro d rec rec2 _ _ ⟨i, x, s, t, hi, rfl, rfl, J⟩ ih
    show ∃ o p, b_X7_dawn_31 rec (nI k) x (nI i) s = some o ∧ b_X8_dawn_30 rec2 (nI k) x (nI i) t = some p ∧ _
    unfold b_X7_dawn_31 b_X8_dawn_30
    cases d with
    | zero =>
      have : i = k := by omega
      subst this
      rw [if_pos (nI_le (by omega) (by omega)), if_pos (nI_le (by omega) (by omega))]
      exact ⟨_, _, rfl, rfl, rfl, J⟩
    | succ d =>
      rw [if_neg (nI_ge (by omega) (by omega)), if_neg (nI_ge (by omega) (by omega))]
      obtain ⟨r, s', t', a1, a2, a3⟩ := dawn2 J (by omega)
      rw [a1, a2, bd_s, bd_s, nI_1]
      exact ih d _ _ (by omega) ⟨i + 1, r, s', t', by omega, rfl, rfl, a3⟩
