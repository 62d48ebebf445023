/-! ===== pure: the odds that a work is done (own work) ===== -/
theorem sL_at (σ : St) (k : Nat) (f : Nat → Int64) : (sL σ k f).2 k = f := by simp [sL]
theorem sL_ne (σ : St) {k k' : Nat} (f : Nat → Int64) (h : k' ≠ k) : (sL σ k f).2 k' = σ.2 k' := by simp [sL, h]
theorem fillL {r n : Nat} (hn : n ≤ 1000) (x : Int64) (σ : St) : ∃ σ', f_J7_fill_d0a16 r n x σ = some σ' ∧ σ'.1 = σ.1 ∧ (∀ k, k ≠ r → σ'.2 k = σ.2 k) ∧ ∀ j, j < n → σ'.2 r j = x := by
  unfold f_J7_fill_d0a16 f_J7_fill_d0a16_6
  rw [nm_d]
  refine lp_x (fun d q => ∃ i s, i + d = n ∧ q = (x, nI i, nI n, s) ∧ s.1 = σ.1 ∧ (∀ k, k ≠ r → s.2 k = σ.2 k) ∧ ∀ j, j < i → s.2 r j = x) (fun (σ' : St) => some σ') (fun (σ' : St) => σ'.1 = σ.1 ∧ (∀ k, k ≠ r → σ'.2 k = σ.2 k) ∧ ∀ j, j < n → σ'.2 r j = x) ?_ 100000 n _ (by omega) ⟨0, σ, by omega, rfl, rfl, fun _ _ => rfl, fun j hj => by omega⟩
  rintro d rec _ ⟨i, s, hi, rfl, p1, p2, p3⟩ ih
  show ∃ z, b_J7_fill_d0a16_6 r n rec x (nI i) (nI n) s = _ ∧ _
  unfold b_J7_fill_d0a16_6
  cases d with
  | zero =>
    have : i = n := by omega
    subst this
    rw [if_pos (nI_le (by omega) (by omega))]
    exact ⟨s, rfl, p1, p2, p3⟩
  | succ d =>
    rw [if_neg (nI_ge (by omega) (by omega)), ck_n (by omega) (by omega), nm_d, nI_clamp (by omega), nI_1]
    refine ih d _ (by omega) ⟨i + 1, _, by omega, rfl, by rw [sL_1]; exact p1, fun k hk => by rw [sL_ne _ _ hk]; exact p2 k hk, fun j hj => ?_⟩
    rw [sL_at]
    by_cases q : j = i
    · subst q; rw [pk_uLs]
    · rw [pk_uLn q]; exact p3 j (by omega)
theorem fillI {r n : Nat} (hn : n ≤ 1000) (x : Int32) (σ : St) : ∃ σ', f_J7_fill_53178 r n x σ = some σ' ∧ σ'.2 = σ.2 ∧ (∀ k, k ≠ r → σ'.1 k = σ.1 k) ∧ (∀ j, j < n → σ'.1 r j = x) ∧ ∀ j, n ≤ j → σ'.1 r j = σ.1 r j := by
  unfold f_J7_fill_53178 f_J7_fill_53178_5
  rw [nm_d]
  refine lp_x (fun d q => ∃ i s, i + d = n ∧ q = (x, nI i, nI n, s) ∧ s.2 = σ.2 ∧ (∀ k, k ≠ r → s.1 k = σ.1 k) ∧ (∀ j, j < i → s.1 r j = x) ∧ ∀ j, n ≤ j → s.1 r j = σ.1 r j) (fun (σ' : St) => some σ') (fun (σ' : St) => σ'.2 = σ.2 ∧ (∀ k, k ≠ r → σ'.1 k = σ.1 k) ∧ (∀ j, j < n → σ'.1 r j = x) ∧ ∀ j, n ≤ j → σ'.1 r j = σ.1 r j) ?_ 100000 n _ (by omega) ⟨0, σ, by omega, rfl, rfl, fun _ _ => rfl, fun j hj => by omega, fun _ _ => rfl⟩
  rintro d rec _ ⟨i, s, hi, rfl, p1, p2, p3, p4⟩ ih
  show ∃ z, b_J7_fill_53178_5 r n rec x (nI i) (nI n) s = _ ∧ _
  unfold b_J7_fill_53178_5
  cases d with
  | zero =>
    have : i = n := by omega
    subst this
    rw [if_pos (nI_le (by omega) (by omega))]
    exact ⟨s, rfl, p1, p2, p3, p4⟩
  | succ d =>
    rw [if_neg (nI_ge (by omega) (by omega)), ck_n (by omega) (by omega), nm_d, nI_clamp (by omega), nI_1]
    refine ih d _ (by omega) ⟨i + 1, _, by omega, rfl, p1, fun k hk => by rw [sR_ne _ _ hk]; exact p2 k hk, fun j hj => ?_, fun j hj => ?_⟩
    · rw [sR_at]
      by_cases q : j = i
      · subst q; rw [pk_us]
      · rw [pk_un q]; exact p3 j (by omega)
    · rw [sR_at, pk_un (by omega)]; exact p4 j hj
def PR (D : Nat) (p : Int64) (s1 s2 : St) : Prop := s1.1 72 1 = nI D ∧ s1.2 72 2 = p ∧ (∀ i, i < D → s1.2 73 i = s2.2 24 i) ∧ s1.2 72 3 = s2.2 24 D
/-- one day of a work, both sides -/
theorem day2 {D h : Nat} {p : Int64} {s1 s2 : St} (hD : 1 ≤ D) (hD7 : D ≤ 7) (hh : h < 5) (em : s2.1 1 h = nI D) (P : PR D p s1 s2) : ∃ s1' s2', f_X3_goOnADay s1 = some s1' ∧ f_X8_workDay (nI h) p s2 = some s2' ∧ s1'.1 = s1.1 ∧ s2'.1 = s2.1 ∧ PR D p s1' s2' := by
  unfold f_X3_goOnADay f_X8_workDay f_X3_goOnADay_9 f_X8_workDay_13
  have e1 : nI D - 1 = nI (D - 1) := by rw [show (1 : Int32) = nI 1 from rfl, pk_sub hD]
  rw [rd_n hh (by omega), em, P.1, nm_d, nm_d, e1]
  have key := lp_2 (B := fun (rec9 : Int64 × Int32 × St → Option (St)) (q : Int64 × Int32 × St) => b_X3_goOnADay_9 rec9 (q.1) (q.2.1) (q.2.2)) (B2 := fun (rec13 : Int32 × Int64 × Int64 × Int32 × St → Option (St)) (q : Int32 × Int64 × Int64 × Int32 × St) => b_X8_workDay_13 rec13 (q.1) (q.2.1) (q.2.2.1) (q.2.2.2.1) (q.2.2.2.2))
    (fun d a b => ∃ (x : Int32) (y : Int64) (t1 t2 : St), d ≤ D ∧ a = (y, x, t1) ∧ b = (nI h, p, y, x, t2) ∧ ((d = 0 ∧ x = -1) ∨ (0 < d ∧ x = nI (d - 1))) ∧ t1.1 = s1.1 ∧ t2.1 = s2.1 ∧ PR D p t1 t2)
    (fun _ _ o q => o.1 = s1.1 ∧ q.1 = s2.1 ∧ PR D p o q) ?_ 100000 D (0, nI (D - 1), s1) (nI h, p, 0, nI (D - 1), s2) (by omega) ⟨nI (D - 1), 0, s1, s2, by omega, rfl, rfl, Or.inr ⟨by omega, rfl⟩, rfl, rfl, P⟩
  · obtain ⟨o, q, k1, k2, k3, k4, k5⟩ := key
    exact ⟨o, q, k1, k2, k3, k4, k5⟩
  rintro d rec rec2 _ _ ⟨x, y, t1, t2, hd, rfl, rfl, hx, f1, f2, Q⟩ ih
  show ∃ o q, b_X3_goOnADay_9 rec y x t1 = some o ∧ b_X8_workDay_13 rec2 (nI h) p y x t2 = some q ∧ _
  unfold b_X3_goOnADay_9 b_X8_workDay_13
  rcases hx with ⟨h0, rfl⟩ | ⟨h0, rfl⟩
  · rw [if_pos m1_lt0, if_pos m1_lt0, show (0 : Int32) = nI 0 from rfl, ck_n (by omega) (by omega), ck_n (by omega) (by omega), nm_d, nm_d, nI_clamp (by omega)]
    refine ⟨_, _, rfl, rfl, f1, f2, Q.1, by rw [sL_ne _ _ (by omega)]; exact Q.2.1, fun i hi => ?_, ?_⟩
    · rw [sL_at, sL_at]
      by_cases q : i = 0
      · subst q; rw [pk_uLs, pk_uLs]
      · rw [pk_uLn q, pk_uLn q]; exact Q.2.2.1 i hi
    · rw [sL_ne _ _ (by omega), sL_at, pk_uLn (by omega)]; exact Q.2.2.2
  · obtain ⟨i, rfl⟩ : ∃ i, d = i + 1 := ⟨d - 1, by omega⟩
    rw [show i + 1 - 1 = i by omega, if_neg (nI_pos (by omega)), if_neg (nI_pos (by omega)), rdL_n (by omega) (by omega), rdL_n (by omega) (by omega)]
    simp only [nm_d]
    rw [rdL_n (by omega) (by omega), rdL_n (by omega) (by omega), rd_n hh (by omega), f2, em, f1, P.1, e1, nI_1, Q.2.1, Q.2.2.1 i (by omega)]
    unfold f_X3_goOnADay_76 f_X8_workDay_86
    have hx' : (i = 0 ∧ nI i + (-1) = -1) ∨ (0 < i ∧ nI i + (-1) = nI (i - 1)) := by
      by_cases q : i = 0
      · subst q; exact Or.inl ⟨rfl, rfl⟩
      · refine Or.inr ⟨by omega, ?_⟩
        obtain ⟨p, rfl⟩ : ∃ p, i = p + 1 := ⟨i - 1, by omega⟩
        rw [pk_m1]; rfl
    by_cases q : i + 1 = D
    · rw [if_pos (show nI i = nI (D - 1) by rw [← q]; rfl), if_pos (show nI (i + 1) = nI D by rw [q]), rdL_n (by omega) (by omega), ck_n (by omega) (by omega), nm_d, nI_clamp (by omega)]
      refine ih i _ _ (by omega) ⟨_, _, _, _, by omega, rfl, rfl, hx', f1, f2, ?_, ?_, fun j hj => ?_, ?_⟩
      · rw [sL_1]; exact Q.1
      · rw [sL_at, pk_uLn (by omega)]; exact Q.2.1
      · rw [sL_ne _ _ (by omega), sL_at, pk_uLn (by omega)]; exact Q.2.2.1 j hj
      · rw [sL_at, sL_at, pk_uLs, q, pk_uLs, Q.2.2.2]
    · rw [if_neg (show ¬ nI i = nI (D - 1) from fun z => by have := (nI_eq (by omega) (by omega)).mp z; omega), if_neg (show ¬ nI (i + 1) = nI D from fun z => by have := (nI_eq (by omega) (by omega)).mp z; omega), ck_n (by omega) (by omega), ck_n (by omega) (by omega), nm_d, nI_clamp (by omega)]
      refine ih i _ _ (by omega) ⟨_, _, _, _, by omega, rfl, rfl, hx', f1, f2, ?_, ?_, fun j hj => ?_, ?_⟩
      · rw [sL_1]; exact Q.1
      · rw [sL_ne _ _ (by omega)]; exact Q.2.1
      · rw [sL_at, sL_at]
        by_cases z : j = i + 1
        · subst z; rw [pk_uLs, pk_uLs]
        · rw [pk_uLn z, pk_uLn z]; exact Q.2.2.1 j hj
      · rw [sL_ne _ _ (by omega), sL_at, pk_uLn (by omega)]; exact Q.2.2.2
theorem startM {k h : Nat} {σ : St} (hh : h < 5) (hk : k < 8) (e : σ.1 9 h = nI k) : ∃ σ', f_X8_startWork (nI h) σ = some σ' ∧ σ'.1 = σ.1 ∧ ∀ i, i < 8 → σ'.2 24 i = if i = k then 1000000000 else 0 := by
  unfold f_X8_startWork f_X8_startWork_2
  refine lp_x (fun d q => ∃ i s, i + d = 8 ∧ q = (nI h, nI i, s) ∧ s.1 = σ.1 ∧ ∀ j, j < i → s.2 24 j = if j = k then 1000000000 else 0) (fun (σ' : St) => some σ') (fun (σ' : St) => σ'.1 = σ.1 ∧ ∀ i, i < 8 → σ'.2 24 i = if i = k then 1000000000 else 0) ?_ 100000 8 _ (by omega) ⟨0, σ, by omega, rfl, rfl, fun j hj => by omega⟩
  rintro d rec _ ⟨i, s, hi, rfl, p1, p3⟩ ih
  show ∃ z, b_X8_startWork_2 rec (nI h) (nI i) s = _ ∧ _
  unfold b_X8_startWork_2 f_X8_startWork_30
  rw [show (8 : Int32) = nI 8 from rfl]
  cases d with
  | zero =>
    have : i = 8 := by omega
    subst this
    rw [if_pos (nI_le (by omega) (by omega))]
    exact ⟨s, rfl, p1, p3⟩
  | succ d =>
    rw [if_neg (nI_ge (by omega) (by omega)), rd_n hh (by omega), p1, e, ck_n (by omega) (by omega), ck_n (by omega) (by omega), nm_d, nm_d, nI_clamp (by omega), nI_1]
    by_cases q : i = k
    · rw [if_pos (by rw [q])]
      refine ih d _ (by omega) ⟨i + 1, _, by omega, rfl, p1, fun j hj => ?_⟩
      rw [sL_at]
      by_cases z : j = i
      · subst z; rw [pk_uLs, if_pos q]
      · rw [pk_uLn z]; exact p3 j (by omega)
    · rw [if_neg (fun z => q ((nI_eq (by omega) (by omega)).mp z))]
      refine ih d _ (by omega) ⟨i + 1, _, by omega, rfl, p1, fun j hj => ?_⟩
      rw [sL_at]
      by_cases z : j = i
      · subst z; rw [pk_uLs, if_neg q]
      · rw [pk_uLn z]; exact p3 j (by omega)
/-- a work looked at, both sides -/
theorem look2 {H S h : Nat} {v : Nat → Nat → Nat} {σc σm : St} (hI : InvV H S v σc σm) (hh : h < H) : ∃ (x : Int32) (s1 s2 : St), f_X7_lookAhead (nI h) σc = some s1 ∧ f_X8_oddsOfHouses (1 <<< (nI h &&& 31)) σm = some (x, σm) ∧ f_X8_startWork (nI h) σm = some s2 ∧ (∀ k, k ≠ 72 → s1.1 k = σc.1 k) ∧ s2.1 = σm.1 ∧ PR (v 0 h) x.toInt64 s1 s2 := by
  obtain ⟨B, C, M, R, ld, T, F, W, J⟩ := id hI
  obtain ⟨l, -, hl, el⟩ := R.2.2.2.1.2
  have hH := B.1
  have hv := B.2.2.1 h hh
  obtain ⟨r1, ⟨k, k1, k2⟩, r3⟩ := R.2.1 h hh
  have r1' : σc.1 25 h = σm.1 9 h := r1
  have od := oh2 B C M hI.nr el hl (1 <<< (nI h &&& 31))
  obtain ⟨s2, m1, m2, m3⟩ := startM (k := k) (h := h) (σ := σm) (by omega) (by omega) k2
  unfold f_X7_lookAhead f_X3_begin
  rw [rd_n (by omega) (by omega), rd_n (by omega) (by omega), od.1, bd_s, (C.2.2.1 h hh).1, r1', k2]
  obtain ⟨σ1, f0, f1, f2, f3⟩ := fillL (r := 73) (n := 7) (by omega) 0 σc
  rw [f0, bv_s, nm_d, nm_d, nm_d, if_neg (nI_pos (by omega)), show (7 : Int32) = nI 7 from rfl, if_neg (nI_ge (by omega) (by omega)), ck_n (by omega) (by omega), nm_d, nI_clamp (by omega), bv_s]
  refine ⟨_, _, s2, rfl, od.2, m1, fun j hj => ?_, m2, ?_, ?_, fun i hi => ?_, ?_⟩
  · show (sI σ1 72 1 (nI (v 0 h))).1 j = _
    rw [sR_ne _ _ hj, f1]
  · rfl
  · rw [sL_ne _ _ (by omega), sL_at, pk_uLn (by omega), sL_at, pk_uLs]
  · rw [sL_at, m3 i (by omega)]
    by_cases q : i = k
    · subst q; rw [pk_uLs, if_pos rfl]
    · rw [pk_uLn q, if_neg q, sL_ne _ _ (by omega), sL_ne _ _ (by omega)]
      exact f3 i (by omega)
  · rw [sL_ne _ _ (by omega), sL_at, pk_uLs, m3 _ (by omega), if_neg (by omega)]
theorem in160 {x : Int32} {n : Nat} {N : Int64} {b : Int32} (hb : b = nI n) (hn : n < 2 ^ 31) (hN : b.toInt64 = N) (σ : St) : (x < 1 ∧ f_X8_in x.toInt64 1 N σ = some (0, σ)) ∨ (¬ x < 1 ∧ ¬ x ≤ b ∧ f_X8_in x.toInt64 1 N σ = some (0, σ)) ∨ (¬ x < 1 ∧ x ≤ b ∧ f_X8_in x.toInt64 1 N σ = some (1, σ) ∧ ∃ k, 1 ≤ k ∧ k ≤ n ∧ x = nI k) := by
  by_cases h1 : x < 1
  · exact Or.inl ⟨h1, in_0 (a := 1) (b := b) (by decide) hN σ (fun q => Int32.not_le.mpr h1 q.1)⟩
  · by_cases h2 : x ≤ b
    · refine Or.inr (Or.inr ⟨h1, h2, in_1 (a := 1) (b := b) (by decide) hN σ ⟨Int32.not_lt.mp h1, h2⟩, ?_⟩)
      rw [lt_toInt] at h1
      rw [le_toInt, hb, nI_toInt hn] at h2
      have h1' : ¬ x.toInt < 1 := h1
      exact ⟨x.toInt.toNat, by omega, by omega, of_tI' (by omega) (by omega) rfl⟩
    · exact Or.inr (Or.inl ⟨h1, h2, in_0 (a := 1) (b := b) (by decide) hN σ (fun q => h2 q.2)⟩)
theorem ok_work {σc σm : St} (I : Inv σc σm) (x1 x2 : Int32) : ∃ (r : Int32) (σc1 σm1 : St), f_X7_work x1 x2 σc = some (r, σc1) ∧ f_X8_work x1 x2 σm = some (r, σm1) ∧ Inv σc1 σm1 := by
  obtain ⟨H, S, v, hI⟩ := id I
  obtain ⟨B, C, M, R, ld, T, F, W, J⟩ := id hI
  have hH := B.1
  unfold f_X7_work f_X8_work
  rcases ix3 x1 (n := H) (by omega) with h | ⟨h, hh, rfl⟩
  · rw [hasH_no C.1 h, isH_no (by omega) M.1 h]
    exact ⟨_, σc, σm, rfl, rfl, I⟩
  rw [hasH_yes (by omega) C.1 hh, isH_yes (by omega) M.1 hh]
  simp only [bd_s, if_neg i10]
  rcases in160 (x := x2) (n := 60) (N := 60) (b := 60) rfl (by omega) (by decide) σm with ⟨h1, h2⟩ | ⟨h1, h2, h3⟩ | ⟨h1, h2, h3, k, k1, k2, rfl⟩
  · rw [if_pos h1, h2]; exact ⟨_, σc, σm, rfl, rfl, I⟩
  · rw [if_neg h1, if_neg h2, h3]; exact ⟨_, σc, σm, rfl, rfl, I⟩
  · obtain ⟨x, s1, s2, a1, a2, a3, a4, a5, a6⟩ := look2 hI hh
    rw [if_neg h1, if_pos h2, h3, a1, bv_s]
    simp only [bd_s, if_neg i10, a2, nm_d, a3, bv_s]
    have hv := B.2.2.1 h hh
    unfold f_X7_work_35 f_X8_work_43
    have key := lp_2 (B := fun (rec35 : Int32 × Int32 × St → Option (Int32 × St)) (q : Int32 × Int32 × St) => b_X7_work_35 rec35 (q.1) (q.2.1) (q.2.2)) (B2 := fun (rec43 : Int32 × Int32 × Int64 × Int32 × St → Option (Int32 × St)) (q : Int32 × Int32 × Int64 × Int32 × St) => b_X8_work_43 rec43 (q.1) (q.2.1) (q.2.2.1) (q.2.2.2.1) (q.2.2.2.2))
      (fun d a b => ∃ (i : Nat) (t1 t2 : St), i + d = k ∧ a = (nI k, nI i, t1) ∧ b = (nI h, nI k, x.toInt64, nI i, t2) ∧ t1.1 = s1.1 ∧ t2.1 = s2.1 ∧ PR (v 0 h) x.toInt64 t1 t2)
      (fun _ _ o q => o.1 = q.1 ∧ o.2.1 = s1.1 ∧ q.2.1 = s2.1) ?_ 100000 k (nI k, 0, s1) (nI h, nI k, x.toInt64, 0, s2) (by omega) ⟨0, s1, s2, by omega, rfl, rfl, rfl, rfl, a6⟩
    · obtain ⟨⟨o1, o2⟩, ⟨q1, q2⟩, c1, c2, c3, c4, c5⟩ := key
      have c3' : o1 = q1 := c3
      subst c3'
      have c4' : o2.1 = s1.1 := c4
      have c5' : q2.1 = s2.1 := c5
      exact ⟨o1, o2, q2, c1, c2, H, S, v, hI.cg (fun j hj => by rw [c4']; exact a4 j (by omega)) (fun j hj => by rw [c5', a5]) (fun j hj => by rw [c5', a5])⟩
    rintro d rec rec2 _ _ ⟨i, t1, t2, hi, rfl, rfl, f1, f2, Q⟩ ih
    show ∃ o q, b_X7_work_35 rec (nI k) (nI i) t1 = some o ∧ b_X8_work_43 rec2 (nI h) (nI k) x.toInt64 (nI i) t2 = some q ∧ _
    unfold b_X7_work_35 b_X8_work_43
    have em : t2.1 1 h = nI (v 0 h) := by rw [f2, a5]; exact (M.2.2.1 h hh).1
    cases d with
    | zero =>
      have : i = k := by omega
      subst this
      rw [if_pos (nI_le (by omega) (by omega)), if_pos (nI_le (by omega) (by omega)), rd_n (by omega) (by omega), em, rdL_n (by omega) (by omega)]
      exact ⟨_, _, rfl, rfl, by rw [Q.2.2.2], f1, f2⟩
    | succ d =>
      rw [if_neg (nI_ge (by omega) (by omega)), if_neg (nI_ge (by omega) (by omega))]
      obtain ⟨t1', t2', b1, b2, b3, b4, b5⟩ := day2 (by omega) (by omega) (show h < 5 by omega) em Q
      rw [b1, b2, bv_s, bv_s, nI_1]
      exact ih d _ _ (by omega) ⟨i + 1, t1', t2', by omega, rfl, rfl, by rw [b3, f1], by rw [b4, f2], b5⟩
theorem ok_likely {σc σm : St} (I : Inv σc σm) (x1 x2 : Int32) : ∃ (r : Int32) (σc1 σm1 : St), f_X7_likely x1 x2 σc = some (r, σc1) ∧ f_X8_likely x1 x2 σm = some (r, σm1) ∧ Inv σc1 σm1 := by
  obtain ⟨H, S, v, hI⟩ := id I
  obtain ⟨B, C, M, R, ld, T, F, W, J⟩ := id hI
  have hH := B.1
  unfold f_X7_likely f_X8_likely
  rcases ix3 x1 (n := H) (by omega) with h | ⟨h, hh, rfl⟩
  · rw [hasH_no C.1 h, isH_no (by omega) M.1 h]
    exact ⟨_, σc, σm, rfl, rfl, I⟩
  rw [hasH_yes (by omega) C.1 hh, isH_yes (by omega) M.1 hh]
  simp only [bd_s, if_neg i10]
  rcases in160 (x := x2) (n := 100) (N := 100) (b := 100) rfl (by omega) (by decide) σm with ⟨h1, h2⟩ | ⟨h1, h2, h3⟩ | ⟨h1, h2, h3, k, k1, k2, rfl⟩
  · rw [if_pos h1, h2]; exact ⟨_, σc, σm, rfl, rfl, I⟩
  · rw [if_neg h1, if_neg h2, h3]; exact ⟨_, σc, σm, rfl, rfl, I⟩
  · obtain ⟨x, s1, s2, a1, a2, a3, a4, a5, a6⟩ := look2 hI hh
    rw [if_neg h1, if_pos h2, h3, a1, bv_s]
    simp only [bd_s, if_neg i10, a2, nm_d, a3, bv_s]
    have hv := B.2.2.1 h hh
    unfold f_X7_likely_35 f_X8_likely_43
    have key := lp_2 (B := fun (rec35 : Int32 × Int32 × St → Option (Int32 × St)) (q : Int32 × Int32 × St) => b_X7_likely_35 rec35 (q.1) (q.2.1) (q.2.2)) (B2 := fun (rec43 : Int32 × Int32 × Int64 × Int32 × St → Option (Int32 × St)) (q : Int32 × Int32 × Int64 × Int32 × St) => b_X8_likely_43 rec43 (q.1) (q.2.1) (q.2.2.1) (q.2.2.2.1) (q.2.2.2.2))
      (fun d a b => ∃ (i : Nat) (t1 t2 : St), i + d = 61 ∧ a = (nI k, nI i, t1) ∧ b = (nI h, nI k, x.toInt64, nI i, t2) ∧ t1.1 = s1.1 ∧ t2.1 = s2.1 ∧ PR (v 0 h) x.toInt64 t1 t2)
      (fun _ _ o q => o.1 = q.1 ∧ o.2.1 = s1.1 ∧ q.2.1 = s2.1) ?_ 100000 60 (nI k, 1, s1) (nI h, nI k, x.toInt64, 1, s2) (by omega) ⟨1, s1, s2, by omega, rfl, rfl, rfl, rfl, a6⟩
    · obtain ⟨⟨o1, o2⟩, ⟨q1, q2⟩, c1, c2, c3, c4, c5⟩ := key
      have c3' : o1 = q1 := c3
      subst c3'
      have c4' : o2.1 = s1.1 := c4
      have c5' : q2.1 = s2.1 := c5
      exact ⟨o1, o2, q2, c1, c2, H, S, v, hI.cg (fun j hj => by rw [c4']; exact a4 j (by omega)) (fun j hj => by rw [c5', a5]) (fun j hj => by rw [c5', a5])⟩
    rintro d rec rec2 _ _ ⟨i, t1, t2, hi, rfl, rfl, f1, f2, Q⟩ ih
    show ∃ o q, b_X7_likely_35 rec (nI k) (nI i) t1 = some o ∧ b_X8_likely_43 rec2 (nI h) (nI k) x.toInt64 (nI i) t2 = some q ∧ _
    unfold b_X7_likely_35 b_X8_likely_43
    have em : t2.1 1 h = nI (v 0 h) := by rw [f2, a5]; exact (M.2.2.1 h hh).1
    rw [show (60 : Int32) = nI 60 from rfl]
    cases d with
    | zero =>
      rw [if_pos (nI_lt (by omega) (by omega)), if_pos (nI_lt (by omega) (by omega))]
      exact ⟨_, _, rfl, rfl, rfl, f1, f2⟩
    | succ d =>
      rw [if_neg (nI_nlt (by omega) (by omega)), if_neg (nI_nlt (by omega) (by omega))]
      obtain ⟨t1', t2', b1, b2, b3, b4, b5⟩ := day2 (by omega) (by omega) (show h < 5 by omega) em Q
      rw [b1, b2, bv_s, bv_s, nI_1, rd_n (by omega) (by omega), b4, em, rdL_n (by omega) (by omega), b5.2.2.2]
      by_cases q : lg_cmp (t2'.2 24 (v 0 h) * 100) ((nI k).toInt64 * 1000000000) < 0
      · rw [if_pos q, if_pos q]
        exact ih d _ _ (by omega) ⟨i + 1, t1', t2', by omega, rfl, rfl, by rw [b3, f1], by rw [b4, f2], b5⟩
      · rw [if_neg q, if_neg q]
        exact ⟨_, _, rfl, rfl, rfl, by show t1'.1 = _; rw [b3, f1], by show t2'.1 = _; rw [b4, f2]⟩
