/-! ===== pure: the best shift (own work) ===== -/
theorem lp_x {α ρ ζ : Type} {B : (α → Option ρ) → α → Option ρ} (A : Nat → α → Prop) (F : ζ → Option ρ) (Q : ζ → Prop) (hs : ∀ (d : Nat) (rec : α → Option ρ) (a : α), A d a → (∀ (d' : Nat) (a' : α), d' < d → A d' a' → ∃ z, rec a' = F z ∧ Q z) → ∃ z, B rec a = F z ∧ Q z) : ∀ (n d : Nat) (a : α), d < n → A d a → ∃ z, lp B n a = F z ∧ Q z := by
  intro n
  induction n with
  | zero => intro d a h; omega
  | succ n ih => intro d a h hA; exact hs d (lp B n) a hA (fun d' a' hd' hA' => ih d' a' (by omega) hA')
theorem saveM {S : Nat} {σ : St} (hS : S ≤ 8) (e : σ.1 0 4 = nI S) (x1 x2 : Int32) (x3 : Int64) : ∃ σ', f_X8_bestShift_7 x1 x2 x3 0 σ = f_X8_bestShift_39 x1 x2 x3 0 σ' ∧ (∀ k, k ≠ 22 → σ'.1 k = σ.1 k) ∧ σ'.2 = σ.2 ∧ ∀ s, s < S → σ'.1 22 s = σ.1 8 s := by
  unfold f_X8_bestShift_7
  refine lp_x (fun d q => ∃ i σi, i + d = S ∧ q = (x1, x2, x3, nI i, σi) ∧ (∀ k, k ≠ 22 → σi.1 k = σ.1 k) ∧ σi.2 = σ.2 ∧ ∀ s, s < i → σi.1 22 s = σ.1 8 s) (fun σ' => f_X8_bestShift_39 x1 x2 x3 0 σ') (fun σ' => (∀ k, k ≠ 22 → σ'.1 k = σ.1 k) ∧ σ'.2 = σ.2 ∧ ∀ s, s < S → σ'.1 22 s = σ.1 8 s) ?_ 100000 S _ (by omega) ⟨0, σ, by omega, rfl, fun _ _ => rfl, rfl, fun s hs => by omega⟩
  rintro d rec _ ⟨i, σi, hi, rfl, p1, p2, p3⟩ ih
  show ∃ z, b_X8_bestShift_7 rec x1 x2 x3 (nI i) σi = _ ∧ _
  unfold b_X8_bestShift_7
  rw [p1 0 (by omega), e]
  cases d with
  | zero =>
    have : i = S := by omega
    subst this
    rw [if_pos (nI_le (by omega) (by omega))]
    exact ⟨σi, rfl, p1, p2, p3⟩
  | succ d =>
    rw [if_neg (nI_ge (by omega) (by omega)), rd_n (by omega) (by omega), ck_n (by omega) (by omega), nm_d, nI_clamp (by omega), nI_1]
    refine ih d _ (by omega) ⟨i + 1, _, by omega, rfl, fun k hk => by rw [sR_ne _ _ hk]; exact p1 k hk, by rw [sR_2]; exact p2, fun s hs => ?_⟩
    rw [sR_at]
    by_cases q : s = i
    · subst q; rw [pk_us, p1 8 (by omega)]
    · rw [pk_un q]; exact p3 s (by omega)
theorem restM {S : Nat} {σ : St} (hS : S ≤ 8) (e : σ.1 0 4 = nI S) (x2 : Int32) : ∃ σ', f_X8_bestShift_156 x2 0 σ = some (x2, σ') ∧ (∀ k, k ≠ 8 → σ'.1 k = σ.1 k) ∧ σ'.2 = σ.2 ∧ (∀ s, s < S → σ'.1 8 s = σ.1 22 s) ∧ ∀ s, S ≤ s → σ'.1 8 s = σ.1 8 s := by
  unfold f_X8_bestShift_156
  refine lp_x (fun d q => ∃ i σi, i + d = S ∧ q = (x2, nI i, σi) ∧ (∀ k, k ≠ 8 → σi.1 k = σ.1 k) ∧ σi.2 = σ.2 ∧ (∀ s, s < i → σi.1 8 s = σ.1 22 s) ∧ ∀ s, S ≤ s → σi.1 8 s = σ.1 8 s) (fun (σ' : St) => some (x2, σ')) (fun (σ' : St) => (∀ k, k ≠ 8 → σ'.1 k = σ.1 k) ∧ σ'.2 = σ.2 ∧ (∀ s, s < S → σ'.1 8 s = σ.1 22 s) ∧ ∀ s, S ≤ s → σ'.1 8 s = σ.1 8 s) ?_ 100000 S _ (by omega) ⟨0, σ, by omega, rfl, fun _ _ => rfl, rfl, fun s hs => by omega, fun _ _ => rfl⟩
  rintro d rec _ ⟨i, σi, hi, rfl, p1, p2, p3, p4⟩ ih
  show ∃ z, b_X8_bestShift_156 rec x2 (nI i) σi = _ ∧ _
  unfold b_X8_bestShift_156
  rw [p1 0 (by omega), e]
  cases d with
  | zero =>
    have : i = S := by omega
    subst this
    rw [if_pos (nI_le (by omega) (by omega))]
    exact ⟨σi, rfl, p1, p2, p3, p4⟩
  | succ d =>
    rw [if_neg (nI_ge (by omega) (by omega)), rd_n (by omega) (by omega), ck_n (by omega) (by omega), nm_d, nI_clamp (by omega), nI_1]
    refine ih d _ (by omega) ⟨i + 1, _, by omega, rfl, fun k hk => by rw [sR_ne _ _ hk]; exact p1 k hk, by rw [sR_2]; exact p2, fun s hs => ?_, fun s hs => ?_⟩
    · rw [sR_at]
      by_cases q : s = i
      · subst q; rw [pk_us, p1 22 (by omega)]
      · rw [pk_un q]; exact p3 s (by omega)
    · rw [sR_at, pk_un (by omega)]; exact p4 s hs
def fc (σ σ' : St) : Prop := (∀ k, k ≠ 60 → (k < 66 ∨ 70 < k) → σ'.1 k = σ.1 k) ∧ (∀ j, j ≠ 4 → j ≠ 6 → σ'.1 60 j = σ.1 60 j) ∧ σ'.2 = σ.2
def fm (σ σ' : St) : Prop := (∀ k, k ≠ 0 → k ≠ 8 → k ≠ 22 → σ'.1 k = σ.1 k) ∧ (∀ j, j ≠ 41 → σ'.1 0 j = σ.1 0 j) ∧ σ'.2 = σ.2
theorem nI10 (j : Nat) : nI (10 * j) + 10 = nI (10 * (j + 1)) := by rw [show (10 : Int32) = nI 10 from rfl, nI_add]; rfl
/-- the shift that the class seeks is the shift that the reference seeks -/
theorem seek2 {H S b h l : Nat} {v : Nat → Nat → Nat} {σc σm : St} (hb : 20 ≤ b) (hb2 : b + 4 < 66) (hb3 : b < 56 ∨ b = 61) (B : VB H S v) (C : VC H S v σc) (M : VM H S v σm) (N : NR H S b σc σm) (hh : h < H) (el : σm.1 0 13 = nI l) (hl : l ≤ 2) : ∃ (i : Nat) (σc' σm' : St), f_X2_seekShift b (nI h) σc = some σc' ∧ f_X8_bestShift (nI h) σm = some (nI (10 * i), σm') ∧ i ≤ 6 ∧ σc'.1 60 4 = nI (10 * i) ∧ σc'.1 60 6 = σm'.1 0 41 ∧ fc σc σc' ∧ fm σm σm' ∧ σm'.1 8 = σm.1 8 := by
  have h8 := B.2.1
  have hH := B.1
  unfold f_X2_seekShift f_X8_bestShift
  obtain ⟨σ1, c0, c1, c2, c3, c4, c5, c6, c7, c8⟩ := ncp (a := 66) (b := b) (σ := σc) (by omega) (by omega) h8 C.2.1 (by omega)
  obtain ⟨σ2, m0, m1, m2, m3⟩ := saveM h8 M.2.1 (nI h) (-1) 0
  rw [c0, bv_s, m0]
  unfold f_X2_seekShift_13 f_X8_bestShift_39
  have key := lp_2 (B := fun (rec13 : Int32 × Int64 × Int32 × St → Option (St)) (q : Int32 × Int64 × Int32 × St) => b_X2_seekShift_13 b rec13 (q.1) (q.2.1) (q.2.2.1) (q.2.2.2))
    (B2 := fun (rec39 : Int32 × Int32 × Int64 × Int32 × St → Option (Int32 × St)) (q : Int32 × Int32 × Int64 × Int32 × St) => b_X8_bestShift_39 rec39 (q.1) (q.2.1) (q.2.2.1) (q.2.2.2.1) (q.2.2.2.2))
    (fun d a p => ∃ (j : Nat) (x2 : Int32) (x3 : Int64) (s1 s2 : St), j + d = 7 ∧ 10 * j ≤ v 2 h + 10 ∧ a = (nI h, x3, nI (10 * j), s1) ∧ p = (nI h, x2, x3, nI (10 * j), s2) ∧ ((j = 0 ∧ x2 = -1) ∨ (0 < j ∧ (∃ i, i ≤ 6 ∧ x2 = nI (10 * i)) ∧ s1.1 60 4 = x2 ∧ s1.1 60 6 = s2.1 0 41)) ∧ NR H S 66 s1 s2 ∧ fc σc s1 ∧ fm σm s2 ∧ (∀ s, s < S → s2.1 22 s = σm.1 8 s) ∧ (∀ s, S ≤ s → s2.1 8 s = σm.1 8 s))
    (fun _ _ o p => ∃ i, i ≤ 6 ∧ p.1 = nI (10 * i) ∧ o.1 60 4 = nI (10 * i) ∧ o.1 60 6 = p.2.1 0 41 ∧ fc σc o ∧ fm σm p.2 ∧ p.2.1 8 = σm.1 8) ?_ 100000 7 (nI h, 0, 0, σ1) (nI h, -1, 0, 0, σ2) (by omega) ⟨0, -1, 0, σ1, σ2, by omega, by omega, rfl, rfl, Or.inl ⟨rfl, rfl⟩, ?_, ⟨fun k k1 k2 => c1 k (by omega), fun j _ _ => by rw [c1 60 (by omega)], c2⟩, ⟨fun k k1 k2 k3 => m1 k (by omega), fun j _ => by rw [m1 0 (by omega)], m2⟩, m3, fun s _ => by rw [m1 8 (by omega)]⟩
  · obtain ⟨o, ⟨p1, p2⟩, k1, k2, i, k3, k4, k5, k6, k7, k8, k9⟩ := key
    have k4' : p1 = nI (10 * i) := k4
    subst k4'
    exact ⟨i, o, p2, k1, k2, k3, k5, k6, k7, k8, k9⟩
  · rintro d rec rec2 _ _ ⟨j, x2, x3, s1, s2, hj, hj2, rfl, rfl, hx, nr, f1, f2, g1, g2⟩ ih
    show ∃ o p, b_X2_seekShift_13 b rec (nI h) x3 (nI (10 * j)) s1 = some o ∧ b_X8_bestShift_39 rec2 (nI h) x2 x3 (nI (10 * j)) s2 = some p ∧ _
    have hv := B.2.2.1 h hh
    have C1 : VC H S v s1 := C.cg (fun k _ _ => f1.1 k (by omega) (by omega))
    have M1 : VM H S v s2 := M.cg (f2.2.1 0 (by omega)) (f2.2.1 4 (by omega)) (fun k _ _ => f2.1 k (by omega) (by omega) (by omega))
    have cb := C1.2.2.1 h hh
    have mb := M1.2.2.1 h hh
    unfold b_X2_seekShift_13 b_X8_bestShift_39
    rw [rd_n (by omega) (by omega), rd_n (by omega) (by omega), cb.2.2, mb.2.2]
    by_cases e : v 2 h < 10 * j
    · rw [if_pos (nI_lt e (by omega)), if_pos (nI_lt e (by omega))]
      rcases hx with ⟨h0, -⟩ | ⟨h0, ⟨i, i1, i2⟩, i3, i4⟩
      · omega
      · obtain ⟨s3, t1, t2, t3, t4, t5⟩ := restM h8 M1.2.1 x2
        refine ⟨s1, (x2, s3), rfl, t1, i, i1, i2, by rw [i3, i2], ?_, f1, ⟨fun k k1 k2 k3 => by rw [t2 k k2]; exact f2.1 k k1 k2 k3, fun k hk => by rw [t2 0 (by omega)]; exact f2.2.1 k hk, by rw [t3]; exact f2.2.2⟩, ?_⟩
        · rw [i4]; show _ = s3.1 0 41; rw [t2 0 (by omega)]
        · funext s
          show s3.1 8 s = σm.1 8 s
          by_cases q : s < S
          · rw [t4 s q]; exact g1 s q
          · rw [t5 s (by omega)]; exact g2 s (by omega)
    · rw [if_neg (fun q => by have := lt_toInt.mp q; rw [nI_toInt (by omega), nI_toInt (by omega)] at this; omega), if_neg (fun q => by have := lt_toInt.mp q; rw [nI_toInt (by omega), nI_toInt (by omega)] at this; omega)]
      obtain ⟨r, s3, a0, a1, a2, a3, a4, a5, -⟩ := shC (a := 66) (σ := s1) (by omega) B C1 hh nr.2.2.2 (nI (10 * j))
      obtain ⟨s4, b0, b1, b2, b4, b5⟩ := shM B M1 hh (nI (10 * j))
      have N2 : NR H S 66 s3 s4 := by
        refine ⟨fun s hs => ?_, ?_, ?_, a3⟩
        · rw [a5 s hs, b5 s hs]
          by_cases q : v 3 s = h
          · rw [if_pos q, if_pos q]; exact ⟨rfl, 10 * j, by omega, by omega, rfl⟩
          · rw [if_neg q, if_neg q]; exact nr.1 s hs
        · rw [a1 66 (by omega), b1 0 (by omega)]; exact nr.2.1
        · rw [a1 66 (by omega), b1 0 (by omega)]; exact nr.2.2.1
      have C3 : VC H S v s3 := C1.cg (fun k _ _ => a1 k (by omega))
      have M3 : VM H S v s4 := M1.cg (by rw [b1 0 (by omega)]) (by rw [b1 0 (by omega)]) (fun k _ _ => b1 k (by omega))
      have F3 : fc σc s3 := ⟨fun k k1 k2 => by rw [a1 k (by omega)]; exact f1.1 k k1 k2, fun k k1 k2 => by rw [a1 60 (by omega)]; exact f1.2.1 k k1 k2, by rw [a2]; exact f1.2.2⟩
      have G3 : fm σm s4 := ⟨fun k k1 k2 k3 => by rw [b1 k k2]; exact f2.1 k k1 k2 k3, fun k k1 => by rw [b1 0 (by omega)]; exact f2.2.1 k k1, by rw [b2]; exact f2.2.2⟩
      have g3 : ∀ s, s < S → s4.1 22 s = σm.1 8 s := fun s hs => by rw [b1 22 (by omega)]; exact g1 s hs
      have g4 : ∀ s, S ≤ s → s4.1 8 s = σm.1 8 s := fun s hs => by rw [b4 s hs]; exact g2 s hs
      have od := oh2 B C3 M3 N2 (by rw [G3.2.1 13 (by omega)]; exact el) hl (1 <<< (nI h &&& 31))
      have cb3 := C3.2.2.1 h hh
      have mb3 := M3.2.2.1 h hh
      rw [a0, bd_s, b0, bv_s, od.1, od.2, bd_s, bd_s, rd_n (by omega) (by omega), rd_n (by omega) (by omega), cb3.2.1, mb3.2.1, nm_d, nm_d]
      generalize hz : ((nI (ohN l 66 s3 S v (1 <<< (nI h &&& 31)))).toInt64 * (nI (v 1 h)).toInt64) / 1000000000 - (nI (10 * j)).toInt64 = z
      generalize nI (ohN l 66 s3 S v (1 <<< (nI h &&& 31))) = od
      have hnew : ∃ o p, f_X2_seekShift_86 b rec (nI h) (nI (10 * j)) od z s3 = some o ∧ f_X8_bestShift_98 rec2 (nI h) x2 x3 (nI (10 * j)) od z s4 = some p ∧ ∃ i, i ≤ 6 ∧ p.1 = nI (10 * i) ∧ o.1 60 4 = nI (10 * i) ∧ o.1 60 6 = p.2.1 0 41 ∧ fc σc o ∧ fm σm p.2 ∧ p.2.1 8 = σm.1 8 := by
        unfold f_X2_seekShift_86 f_X8_bestShift_98 f_X8_bestShift_103 f_X8_bestShift_116 f_X8_bestShift_132 f_X2_seekShift_101 f_X8_bestShift_146
        rw [if_neg i10, if_neg i10, nm_d, nm_d, nm_d, if_neg i10, nI10]
        refine ih (d - 1) _ _ (by omega) ⟨j + 1, nI (10 * j), z, _, _, by omega, by omega, rfl, rfl, Or.inr ⟨by omega, ⟨j, by omega, rfl⟩, rfl, rfl⟩, ?_, ⟨fun k k1 k2 => by rw [sR_ne _ _ k1, sR_ne _ _ k1]; exact F3.1 k k1 k2, fun k k1 k2 => by rw [sR_at, sR_at, pk_un k2, pk_un k1]; exact F3.2.1 k k1 k2, F3.2.2⟩, ⟨fun k k1 k2 k3 => by rw [sR_ne _ _ k1]; exact G3.1 k k1 k2 k3, fun k k1 => by rw [sR_at, pk_un k1]; exact G3.2.1 k k1, G3.2.2⟩, fun s hs => by rw [sR_ne _ _ (by omega)]; exact g3 s hs, fun s hs => by rw [sR_ne _ _ (by omega)]; exact g4 s hs⟩
        refine ⟨N2.1, N2.2.1, N2.2.2.1, N2.2.2.2.cg (fun k _ _ => ?_) (fun k _ _ => ?_) rfl rfl rfl⟩
        · rw [sR_ne _ _ (by omega), sR_ne _ _ (by omega)]
        · rw [sR_ne _ _ (by omega), sR_ne _ _ (by omega)]
      rcases hx with ⟨h0, h1⟩ | ⟨h0, ⟨i, i1, i2⟩, i3, i4⟩
      · subst h0; subst h1
        rw [if_pos (show nI (10 * 0) = 0 from rfl), if_pos m1_lt0]
        exact hnew
      · rw [if_neg (show ¬ nI (10 * j) = 0 from fun q => by have := (nI_eq (b := 0) (by omega) (by omega)).mp q; omega), if_neg (show ¬ x2 < 0 by rw [i2]; exact nI_pos (by omega))]
        by_cases e2 : lg_cmp z x3 ≤ 0
        · rw [if_pos e2, if_pos e2]
          unfold f_X8_bestShift_103 f_X8_bestShift_116 f_X8_bestShift_132 f_X2_seekShift_101 f_X8_bestShift_146
          rw [if_pos rfl, if_pos rfl, nm_d, if_pos rfl, nI10]
          refine ih (d - 1) _ _ (by omega) ⟨j + 1, x2, x3, _, _, by omega, by omega, rfl, rfl, Or.inr ⟨by omega, ⟨i, i1, i2⟩, by rw [a1 60 (by omega)]; exact i3, ?_⟩, ?_, F3, ⟨fun k k1 k2 k3 => by rw [sR_ne _ _ k1]; exact G3.1 k k1 k2 k3, fun k k1 => by rw [sR_at, pk_un k1]; exact G3.2.1 k k1, G3.2.2⟩, fun s hs => by rw [sR_ne _ _ (by omega)]; exact g3 s hs, fun s hs => by rw [sR_ne _ _ (by omega)]; exact g4 s hs⟩
          · rw [sR_at, pk_us, a1 60 (by omega), b1 0 (by omega)]; exact i4
          · exact ⟨N2.1, N2.2.1, N2.2.2.1, N2.2.2.2⟩
        · rw [if_neg e2, if_neg e2]
          exact hnew
  · refine ⟨fun s hs => ?_, ?_, ?_, c8⟩
    · rw [c3 s (by omega), m1 8 (by omega)]; exact N.1 s hs
    · rw [c4, c5, c6, m1 0 (by omega)]; exact N.2.1
    · rw [c7, m1 0 (by omega)]; exact N.2.2.1
theorem ok_best {σc σm : St} (I : Inv σc σm) (x1 x2 : Int32) : ∃ (r : Int32) (σc1 σm1 : St), f_X7_best x1 x2 σc = some (r, σc1) ∧ f_X8_best x1 x2 σm = some (r, σm1) ∧ Inv σc1 σm1 := by
  obtain ⟨H, S, v, hI⟩ := id I
  obtain ⟨B, C, M, R, ld, T, F, W, J⟩ := id hI
  obtain ⟨l, -, hl, el⟩ := R.2.2.2.1.2
  have hH := B.1
  unfold f_X7_best f_X8_best
  rcases ix3 x1 (n := H) (by omega) with h | ⟨h, hh, rfl⟩
  · rw [hasH_no C.1 h, isH_no (by omega) M.1 h]
    exact ⟨_, σc, σm, rfl, rfl, I⟩
  rw [hasH_yes (by omega) C.1 hh, isH_yes (by omega) M.1 hh]
  simp only [bd_s, if_neg i10]
  by_cases h1 : x2 < 0
  · rw [in_0 (a := 0) (b := 1) (by decide) (by decide) σm (fun q => Int32.not_le.mpr h1 q.1)]
    simp only [if_pos h1, bd_s, if_true]
    exact ⟨_, σc, σm, rfl, rfl, I⟩
  by_cases h2 : x2 ≤ 1
  · rw [in_1 (a := 0) (b := 1) (by decide) (by decide) σm ⟨Int32.not_lt.mp h1, h2⟩]
    simp only [if_neg h1, if_pos h2, bd_s, if_neg i10, sofC B C hh, sofM B M hh]
    by_cases h3 : sof (v 3) h S 0 0 = 0
    · simp only [if_pos h3]
      exact ⟨_, σc, σm, rfl, rfl, I⟩
    · obtain ⟨i, σc', σm', k1, k2, k3, k4, k5, k6, k7, k8⟩ := seek2 (b := 20) (by omega) (by omega) (by omega) B C M hI.nr hh el hl
      simp only [if_neg h3, k1, k2, bv_s, bd_s, k4, k5]
      have I2 : Inv σc' σm' := ⟨H, S, v, hI.cg (fun k hk => k6.1 k (by omega) (by omega)) (fun k hk => by
        by_cases q : k = 8
        · rw [q]; exact k8
        · exact k7.1 k (by omega) (by omega) (by omega)) (fun j hj => k7.2.1 j (by omega))⟩
      by_cases h4 : x2 = 0
      · simp only [if_pos h4]; exact ⟨_, _, _, rfl, rfl, I2⟩
      · simp only [if_neg h4]; exact ⟨_, _, _, rfl, rfl, I2⟩
  · rw [in_0 (a := 0) (b := 1) (by decide) (by decide) σm (fun q => h2 q.2)]
    simp only [if_neg h1, if_neg h2, bd_s, if_true]
    exact ⟨_, σc, σm, rfl, rfl, I⟩
