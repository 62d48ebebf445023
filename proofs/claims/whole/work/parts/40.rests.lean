/-! ===== pure: shifts that nobody would leave (own work) ===== -/
def cod (w : Nat → Nat) : Nat → Nat → Nat → Nat
  | 0, _, acc => acc
  | d + 1, i, acc => cod w d (i + 1) (acc * 7 + w i / 10)
theorem cod_inj {w z : Nat → Nat} : ∀ (d i a b : Nat), (∀ s, i ≤ s → s < i + d → w s ≤ 60 ∧ z s ≤ 60) → cod w d i a = cod z d i b → a = b ∧ ∀ s, i ≤ s → s < i + d → w s / 10 = z s / 10 := by
  intro d
  induction d with
  | zero => intro i a b _ e; exact ⟨e, fun s h1 h2 => by omega⟩
  | succ d ih =>
    intro i a b hw e
    rw [cod, cod] at e
    obtain ⟨e1, e2⟩ := ih (i + 1) _ _ (fun s h1 h2 => hw s (by omega) (by omega)) e
    have := hw i (by omega) (by omega)
    refine ⟨by omega, fun s h1 h2 => ?_⟩
    by_cases q : s = i
    · subst q; omega
    · exact e2 s (by omega) (by omega)
theorem cod_lt {w : Nat → Nat} : ∀ (d i a : Nat), (∀ s, i ≤ s → s < i + d → w s ≤ 60) → cod w d i a < (a + 1) * 7 ^ d := by
  intro d
  induction d with
  | zero => intro i a _; rw [cod]; omega
  | succ d ih =>
    intro i a hw
    rw [cod]
    have h1 := ih (i + 1) (a * 7 + w i / 10) (fun s h1 h2 => hw s (by omega) (by omega))
    have h2 := hw i (by omega) (by omega)
    have h3 : (a * 7 + w i / 10 + 1) * 7 ^ d ≤ ((a + 1) * 7) * 7 ^ d := Nat.mul_le_mul_right _ (by omega)
    have h4 : ((a + 1) * 7) * 7 ^ d = (a + 1) * 7 ^ (d + 1) := by rw [Nat.pow_succ, Nat.mul_assoc, Nat.mul_comm 7]
    omega
theorem cod_b {w : Nat → Nat} {S : Nat} (hS : S ≤ 8) (hw : ∀ s, s < S → w s ≤ 60) : cod w S 0 0 < 2 ^ 31 := by
  have h1 := cod_lt (w := w) S 0 0 (fun s _ h2 => hw s (by omega))
  have h2 : 7 ^ S ≤ 7 ^ 8 := Nat.pow_le_pow_right (by omega) hS
  omega
theorem codC {H S : Nat} {v : Nat → Nat → Nat} {σ : St} (B : VB H S v) (C : VC H S v σ) {w : Nat → Nat} (hw : ∀ s, s < S → σ.1 62 s = nI (w s) ∧ w s ≤ 60) : f_X2_codeOfPlan σ = some (nI (cod w S 0 0), σ) := by
  have h8 := B.2.1
  unfold f_X2_codeOfPlan f_X2_codeOfPlan_4
  refine lp_m (fun d q o => ∃ i a, i + d = S ∧ q = (nI a, nI i, σ) ∧ o = (nI (cod w d i a), σ)) ?_ 100000 S _ _ (by omega) ⟨0, 0, by omega, rfl, rfl⟩
  rintro d rec _ _ ⟨i, a, hi, rfl, rfl⟩ ih
  show b_X2_codeOfPlan_4 rec (nI a) (nI i) σ = _
  unfold b_X2_codeOfPlan_4
  rw [C.2.1]
  cases d with
  | zero => rw [if_pos (nI_le (by omega) (by omega)), cod]
  | succ d =>
    have h := hw i (by omega)
    rw [if_neg (nI_ge (by omega) (by omega)), rd_n (by omega) (by omega), h.1, nm_d, show (10 : Int32) = nI 10 from rfl, pk_div (by omega) (by omega) (by omega), show (7 : Int32) = nI 7 from rfl, pk_mul, nI_add, nI_1]
    exact ih d _ (by omega) ⟨i + 1, _, by omega, rfl, by rw [cod]⟩
theorem wasC {j : Nat} (hj : j < 20) (σ : St) : ∃ r, f_X2_wasThere (nI j) σ = some (r, σ) ∧ (r = 0 ∨ (r = 1 ∧ ∃ i, i < j ∧ σ.1 71 i = σ.1 71 j)) := by
  unfold f_X2_wasThere f_X2_wasThere_2
  refine lp_x (fun d q => ∃ i, i + d = j ∧ q = (nI j, nI i, σ)) (fun r => some (r, σ)) (fun (r : Int32) => r = 0 ∨ (r = 1 ∧ ∃ i, i < j ∧ σ.1 71 i = σ.1 71 j)) ?_ 100000 j _ (by omega) ⟨0, by omega, rfl⟩
  rintro d rec _ ⟨i, hi, rfl⟩ ih
  show ∃ z, b_X2_wasThere_2 rec (nI j) (nI i) σ = _ ∧ _
  unfold b_X2_wasThere_2
  cases d with
  | zero => rw [if_pos (nI_le (by omega) (by omega))]; exact ⟨0, rfl, Or.inl rfl⟩
  | succ d =>
    rw [if_neg (nI_ge (by omega) (by omega)), rd_n (by omega) (by omega), rd_n (by omega) (by omega)]
    by_cases e : σ.1 71 i = σ.1 71 j
    · rw [if_pos e]; exact ⟨1, rfl, Or.inr ⟨rfl, i, by omega, e⟩⟩
    · rw [if_neg e, nI_1]; exact ih d _ (by omega) ⟨i + 1, by omega, rfl⟩
def shw (S : Nat) (σ : St) (w : Nat → Nat) : Prop := ∀ s, s < S → σ.1 8 s = nI (w s)
/-- what the class's search says of the reference's rounds -/
def outc (H S : Nat) (σm : St) (r : Int32) (σ1 : St) : Prop := ∃ (K : Nat) (P : Nat → St → Prop), P 0 σm ∧ (∀ n σ, n < K → P n σ → ∃ σ', f_X8_roundChanges σ = some (1, σ') ∧ P (n + 1) σ') ∧ (∀ n σ, P n σ → fr S σm σ) ∧ ((r = nI K ∧ K < 20 ∧ ∀ σ, P K σ → ∃ σ', f_X8_roundChanges σ = some (0, σ') ∧ fr S σm σ' ∧ NR H S 61 σ1 σ') ∨ (r = -1 ∧ K = 20))
theorem settle2 {H S l : Nat} {v : Nat → Nat → Nat} {σc σm : St} (B : VB H S v) (C : VC H S v σc) (M : VM H S v σm) (N : NR H S 20 σc σm) (el : σm.1 0 13 = nI l) (hl : l ≤ 2) : ∃ (r : Int32) (σc' : St), f_X2_settle σc = some (r, σc') ∧ (∀ k, k < 60 ∨ 71 < k → σc'.1 k = σc.1 k) ∧ outc H S σm r σc' := by
  have h8 := B.2.1
  unfold f_X2_settle
  obtain ⟨σ1, c0, c1, c2, c3, c4, c5, c6, c7, c8⟩ := ncp (a := 61) (b := 20) (σ := σc) (by omega) (by omega) h8 C.2.1 (by omega)
  rw [c0, bv_s]
  unfold f_X2_settle_10
  have w0 : ∀ s, s < S → σm.1 8 s = nI ((σm.1 8 s).toNatClampNeg) ∧ (σm.1 8 s).toNatClampNeg ≤ 60 := fun s hs => by
    obtain ⟨-, k, -, k2, k3⟩ := N.1 s hs
    rw [k3, nI_clamp (by omega)]; exact ⟨rfl, k2⟩
  have key := lp_e (B := fun (rec10 : Int32 × St → Option (Int32 × St)) (q : Int32 × St) => b_X2_settle_10 rec10 (q.1) (q.2))
    (fun d q => ∃ (n : Nat) (W : Nat → Nat → Nat) (s1 : St), n + d = 20 ∧ q = (nI n, s1) ∧ (∀ k, k < 60 ∨ 71 < k → s1.1 k = σc.1 k) ∧ shw S σm (W 0) ∧ (∀ s, s < S → s1.1 62 s = nI (W n s) ∧ W n s ≤ 60) ∧ (s1.1 61 3 = σm.1 0 10 ∧ s1.1 61 4 = σm.1 0 11 ∧ s1.1 61 2 = σm.1 0 12) ∧ s1.1 61 5 = σm.1 0 13 ∧ laid S 61 s1 ∧ (∀ m, m < n → s1.1 71 m = nI (cod (W (m + 1)) S 0 0) ∧ ∀ s, s < S → W (m + 1) s ≤ 60 ∧ W (m + 1) s % 10 = 0) ∧ ∀ m, m < n → ∀ σ, fr S σm σ → shw S σ (W m) → ∃ σ', f_X8_roundChanges σ = some (1, σ') ∧ fr S σm σ' ∧ shw S σ' (W (m + 1)))
    (fun _ o => (∀ k, k < 60 ∨ 71 < k → o.2.1 k = σc.1 k) ∧ outc H S σm o.1 o.2) ?_ 100000 20 (0, σ1) (by omega) ⟨0, fun _ s => (σm.1 8 s).toNatClampNeg, σ1, by omega, rfl, fun k hk => c1 k (by omega), fun s hs => (w0 s hs).1, fun s hs => ⟨?_, (w0 s hs).2⟩, ?_, ?_, c8, fun m hm => by omega, fun m hm => by omega⟩
  · obtain ⟨⟨r, s⟩, k1, k2, k3⟩ := key
    exact ⟨r, s, k1, k2, k3⟩
  · rintro d rec _ ⟨n, W, s1, hd, rfl, f1, w1, w2, w3, w4, ld, cd, st⟩ ih
    show ∃ o, b_X2_settle_10 rec (nI n) s1 = some o ∧ _
    unfold b_X2_settle_10
    rw [show (20 : Int32) = nI 20 from rfl]
    have C1 : VC H S v s1 := C.cg (fun k _ _ => f1 k (by omega))
    cases d with
    | zero =>
      have : n = 20 := by omega
      subst this
      rw [if_pos (nI_le (by omega) (by omega))]
      refine ⟨_, rfl, f1, 20, fun n σ => fr S σm σ ∧ shw S σ (W n), ⟨fr.rfl', w1⟩, fun n σ hn hP => ?_, fun n σ hP => hP.1, Or.inr ⟨rfl, rfl⟩⟩
      obtain ⟨σ', t1, t2, t3⟩ := st n hn σ hP.1 hP.2
      exact ⟨σ', t1, t2, t3⟩
    | succ d =>
      rw [if_neg (nI_ge (by omega) (by omega))]
      have hN : ∀ σ, fr S σm σ → shw S σ (W n) → NR H S 61 s1 σ := fun σ hf hs => by
        refine ⟨fun s q => ?_, ?_, ?_, ld⟩
        · rw [(w2 s q).1, hs s q]; exact ⟨rfl, W n s, by omega, (w2 s q).2, rfl⟩
        · rw [hf.1.2.1 10 (by omega), hf.1.2.1 11 (by omega), hf.1.2.1 12 (by omega)]; exact ⟨w3.1, w3.2.1, w3.2.2, N.2.1.2.2.2⟩
        · rw [hf.1.2.1 13 (by omega)]; exact ⟨w4, N.2.2.1.2⟩
      -- a reference state to run beside
      have hex : ∃ σ, fr S σm σ ∧ shw S σ (W n) := by
        refine ⟨sR σm 8 (fun s => if s < S then nI (W n s) else σm.1 8 s), ⟨⟨fun k k1 k2 k3 => sR_ne _ _ k2, fun j hj => by rw [sR_ne _ _ (by omega)], rfl⟩, fun s hs => by rw [sR_at, if_neg (by omega)]⟩, fun s hs => by rw [sR_at, if_pos hs]⟩
      obtain ⟨σ0, hf0, hs0⟩ := hex
      obtain ⟨f, s2, t2, r1, r2, r3, r4, r5, r6, r7⟩ := round2 B C1 (M.fr hf0) (hN σ0 hf0 hs0) (by rw [hf0.1.2.1 13 (by omega)]; exact el) hl
      have hall : ∀ σ, fr S σm σ → shw S σ (W n) → ∃ σ', f_X8_roundChanges σ = some (f, σ') ∧ fr S σm σ' ∧ NR H S 61 s2 σ' := fun σ hf hs => by
        obtain ⟨f', s2', t2', q1, q2, q3, q4, q5, q6, q7⟩ := round2 B C1 (M.fr hf) (hN σ hf hs) (by rw [hf.1.2.1 13 (by omega)]; exact el) hl
        rw [r1] at q1
        have e := Option.some.inj q1
        have e1 : f = f' := congrArg Prod.fst e
        have e2 : s2 = s2' := congrArg Prod.snd e
        subst e1; subst e2
        exact ⟨t2', q2, hf.tr q6, q4⟩
      rw [r1, bd_s]
      have f2 : ∀ k, k < 60 ∨ 71 < k → s2.1 k = σc.1 k := fun k hk => by rw [r5 k (by omega)]; exact f1 k hk
      rcases r3 with rfl | rfl
      · rw [if_pos rfl]
        exact ⟨_, rfl, f2, n, fun n σ => fr S σm σ ∧ shw S σ (W n), ⟨fr.rfl', w1⟩, fun n σ hn hP => by
          obtain ⟨σ', t1, t2, t3⟩ := st n hn σ hP.1 hP.2
          exact ⟨σ', t1, t2, t3⟩, fun n σ hP => hP.1, Or.inl ⟨rfl, by omega, fun σ hP => hall σ hP.1 hP.2⟩⟩
      · rw [if_neg i10]
        have hw' : ∀ s, s < S → s2.1 62 s = nI ((t2.1 8 s).toNatClampNeg) ∧ (t2.1 8 s).toNatClampNeg ≤ 60 ∧ (t2.1 8 s).toNatClampNeg % 10 = 0 := fun s hs => by
          obtain ⟨i, i1, i2⟩ := r7 s hs
          have e : s2.1 62 s = t2.1 8 s := (r4.1 s hs).1
          rw [e, i2, nI_clamp (by omega)]
          exact ⟨rfl, by omega, by omega⟩
        have C2 : VC H S v s2 := C1.rc r5
        rw [codC B C2 (w := fun s => (t2.1 8 s).toNatClampNeg) (fun s hs => ⟨(hw' s hs).1, (hw' s hs).2.1⟩), bd_s, ck_n (by omega) (by omega), nm_d, nI_clamp (by omega)]
        obtain ⟨r, q1, q2⟩ := wasC (j := n) (by omega) (sI s2 71 n (nI (cod (fun s => (t2.1 8 s).toNatClampNeg) S 0 0)))
        rw [q1, bd_s]
        have stn : ∀ σ, fr S σm σ → shw S σ (W n) → ∃ σ', f_X8_roundChanges σ = some (1, σ') ∧ fr S σm σ' ∧ shw S σ' (fun s => (t2.1 8 s).toNatClampNeg) := fun σ hf hs => by
          obtain ⟨σ', a1, a2, a3⟩ := hall σ hf hs
          refine ⟨σ', a1, a2, fun s q => ?_⟩
          rw [← (a3.1 s q).1]; exact (hw' s q).1
        have row71 : ∀ m, m < n → s2.1 71 m = s1.1 71 m := fun m _ => by rw [r5 71 (by omega)]
        rcases q2 with rfl | ⟨rfl, i, i1, i2⟩
        · rw [if_pos rfl, nI_1]
          obtain ⟨W', eW1, eW2⟩ : ∃ W' : Nat → Nat → Nat, W' (n + 1) = (fun s => (t2.1 8 s).toNatClampNeg) ∧ ∀ m, m ≤ n → W' m = W m := ⟨fun m => if m = n + 1 then fun s => (t2.1 8 s).toNatClampNeg else W m, if_pos rfl, fun m hm => if_neg (show ¬ m = n + 1 by omega)⟩
          refine ih d _ (by omega) ⟨n + 1, W', _, by omega, rfl, fun k hk => by rw [sR_ne _ _ (by omega)]; exact f2 k hk, ?_, fun s hs => ?_, ?_, ?_, ?_, fun m hm => ?_, fun m hm σ hf hs => ?_⟩
          · rw [eW2 0 (by omega)]; exact w1
          · rw [eW1, sR_ne _ _ (by omega)]; exact ⟨(hw' s hs).1, (hw' s hs).2.1⟩
          · rw [sR_ne _ _ (by omega)]
            have e1 := r4.2.1
            rw [r6.1.2.1 10 (by omega), r6.1.2.1 11 (by omega), r6.1.2.1 12 (by omega), hf0.1.2.1 10 (by omega), hf0.1.2.1 11 (by omega), hf0.1.2.1 12 (by omega)] at e1
            exact ⟨e1.1, e1.2.1, e1.2.2.1⟩
          · rw [sR_ne _ _ (by omega)]
            have e1 := r4.2.2.1.1
            rw [r6.1.2.1 13 (by omega), hf0.1.2.1 13 (by omega)] at e1
            exact e1
          · exact r4.2.2.2.cg (fun k _ _ => sR_ne _ _ (by omega)) (fun k _ _ => sR_ne _ _ (by omega)) rfl rfl rfl
          · rw [sR_at]
            by_cases q : m = n
            · subst q
              rw [pk_us, eW1]
              exact ⟨rfl, fun s hs => (hw' s hs).2⟩
            · rw [pk_un q, eW2 (m + 1) (by omega), row71 m (by omega)]
              exact cd m (by omega)
          · by_cases q : m = n
            · subst q
              rw [eW1]
              rw [eW2 m (by omega)] at hs
              exact stn σ hf hs
            · rw [eW2 (m + 1) (by omega)]
              rw [eW2 m (by omega)] at hs
              exact st m (by omega) σ hf hs
        · rw [if_neg i10]
          rw [sR_at, pk_us, pk_un (by omega), row71 i (by omega), (cd i i1).1] at i2
          have i3 := (nI_eq (cod_b h8 (fun s hs => ((cd i i1).2 s hs).1)) (cod_b h8 (fun s hs => (hw' s hs).2.1))).mp i2
          have i4 := (cod_inj S 0 0 0 (fun s _ h2 => ⟨((cd i i1).2 s (by omega)).1, (hw' s (by omega)).2.1⟩) i3).2
          have i5 : ∀ s, s < S → (t2.1 8 s).toNatClampNeg = W (i + 1) s := fun s hs => by
            have a1 := i4 s (by omega) (by omega)
            have a2 := ((cd i i1).2 s hs).2
            have a3 := (hw' s hs).2.2
            have a1' : W (i + 1) s / 10 = (t2.1 8 s).toNatClampNeg / 10 := a1
            omega
          refine ⟨_, rfl, fun k hk => by rw [sR_ne _ _ (by omega)]; exact f2 k hk, 20, fun _ σ => fr S σm σ ∧ ∃ m, m ≤ n ∧ shw S σ (W m), ⟨fr.rfl', 0, by omega, w1⟩, fun _ σ _ hP => ?_, fun _ σ hP => hP.1, Or.inr ⟨rfl, rfl⟩⟩
          obtain ⟨hf, m, m1, m2⟩ := hP
          by_cases q : m = n
          · subst q
            obtain ⟨σ', a1, a2, a3⟩ := stn σ hf m2
            exact ⟨σ', a1, a2, i + 1, by omega, fun s hs => by rw [a3 s hs]; exact congrArg nI (i5 s hs)⟩
          · obtain ⟨σ', a1, a2, a3⟩ := st m (by omega) σ hf m2
            exact ⟨σ', a1, a2, m + 1, by omega, a3⟩
  · rw [c3 s (by omega), (N.1 s hs).1]; exact (w0 s hs).1
  · rw [c4, c5, c6]; exact ⟨N.2.1.1, N.2.1.2.1, N.2.1.2.2.1⟩
  · rw [c7]; exact N.2.2.1.1
def fsh (f : Nat → Nat) (g : Nat → Int32) (h : Nat) : Nat → Nat → Int32
  | 0, _ => 0
  | d + 1, i => if f i = h then g i else fsh f g h d (i + 1)
theorem fsh_cg {f : Nat → Nat} {g g' : Nat → Int32} {h S : Nat} (e : ∀ s, s < S → g s = g' s) : ∀ d i, i + d = S → fsh f g h d i = fsh f g' h d i := by
  intro d
  induction d with
  | zero => intro i _; rfl
  | succ d ih => intro i hi; rw [fsh, fsh, e i (by omega), ih (i + 1) (by omega)]
theorem fshC {H S h : Nat} {v : Nat → Nat → Nat} {σ : St} (B : VB H S v) (C : VC H S v σ) (hh : h < H) : f_X2_settledShift (nI h) σ = some (fsh (v 3) (σ.1 62) h S 0, σ) := by
  have h8 := B.2.1
  have hH := B.1
  unfold f_X2_settledShift f_X2_settledShift_2
  refine lp_m (fun d q o => ∃ i, i + d = S ∧ q = (nI h, nI i, σ) ∧ o = (fsh (v 3) (σ.1 62) h d i, σ)) ?_ 100000 S _ _ (by omega) ⟨0, by omega, rfl, rfl⟩
  rintro d rec _ _ ⟨i, hi, rfl, rfl⟩ ih
  show b_X2_settledShift_2 rec (nI h) (nI i) σ = _
  unfold b_X2_settledShift_2
  rw [C.2.1]
  cases d with
  | zero => rw [if_pos (nI_le (by omega) (by omega)), fsh]
  | succ d =>
    have hv := B.2.2.2 i (by omega)
    rw [if_neg (nI_ge (by omega) (by omega)), rd_n (by omega) (by omega), (C.2.2.2 i (by omega)).1]
    by_cases e : v 3 i = h
    · rw [if_pos (by rw [e]), rd_n (by omega) (by omega), fsh, if_pos e]
    · rw [if_neg (fun q => e ((nI_eq (by omega) (by omega)).mp q)), nI_1]
      exact ih d _ (by omega) ⟨i + 1, by omega, rfl, by rw [fsh, if_neg e]⟩
theorem fshM {H S h : Nat} {v : Nat → Nat → Nat} {σ : St} (B : VB H S v) (M : VM H S v σ) (hh : h < H) : f_X8_leastOf (nI h) σ = some (fsh (v 3) (σ.1 8) h S 0, σ) := by
  have h8 := B.2.1
  have hH := B.1
  unfold f_X8_leastOf f_X8_leastOf_9
  rw [nm_d, M.2.1]
  refine lp_m (fun d q o => ∃ (j : Nat) (x : Int32), j = d ∧ j ≤ S ∧ q = (nI h, fsh (v 3) (σ.1 8) h (S - j) j, x, σ) ∧ ((j = 0 ∧ x = -1) ∨ (0 < j ∧ x = nI (j - 1))) ∧ o = (fsh (v 3) (σ.1 8) h S 0, σ)) ?_ 100000 S _ _ (by omega) ⟨S, nI S - 1, rfl, by omega, by rw [Nat.sub_self]; rfl, ?_, rfl⟩
  · rintro d rec _ _ ⟨j, x, rfl, hj, rfl, hx, rfl⟩ ih
    show b_X8_leastOf_9 rec (nI h) _ x σ = _
    unfold b_X8_leastOf_9 f_X8_leastOf_33
    rcases hx with ⟨h0, rfl⟩ | ⟨h0, rfl⟩
    · subst h0; rw [if_pos m1_lt0]; rfl
    · obtain ⟨i, rfl⟩ : ∃ i, j = i + 1 := ⟨j - 1, by omega⟩
      have hv := B.2.2.2 i (by omega)
      rw [show i + 1 - 1 = i by omega, if_neg (nI_pos (by omega)), rd_n (by omega) (by omega), (M.2.2.2 i (by omega)).1]
      have hx' : (i = 0 ∧ nI i + (-1) = -1) ∨ (0 < i ∧ nI i + (-1) = nI (i - 1)) := by
        by_cases q : i = 0
        · subst q; exact Or.inl ⟨rfl, rfl⟩
        · refine Or.inr ⟨by omega, ?_⟩
          obtain ⟨p, rfl⟩ : ∃ p, i = p + 1 := ⟨i - 1, by omega⟩
          rw [pk_m1]; rfl
      have e2 : S - i = (S - (i + 1)) + 1 := by omega
      by_cases e : v 3 i = h
      · rw [if_pos (by rw [e]), rd_n (by omega) (by omega)]
        exact ih i _ (by omega) ⟨i, _, rfl, by omega, by rw [e2, fsh, if_pos e], hx', rfl⟩
      · rw [if_neg (fun q => e ((nI_eq (by omega) (by omega)).mp q))]
        exact ih i _ (by omega) ⟨i, _, rfl, by omega, by rw [e2, fsh, if_neg e], hx', rfl⟩
  · by_cases q : S = 0
    · subst q; exact Or.inl ⟨rfl, rfl⟩
    · refine Or.inr ⟨by omega, ?_⟩
      rw [show (1 : Int32) = nI 1 from rfl, pk_sub (by omega)]
theorem save23 {S : Nat} {σ : St} (hS : S ≤ 8) (e : σ.1 0 4 = nI S) (x1 : Int32) : ∃ σ', f_X8_rests_18 x1 0 σ = f_X8_rests_46 x1 0 σ' ∧ (∀ k, k ≠ 23 → σ'.1 k = σ.1 k) ∧ σ'.2 = σ.2 ∧ ∀ s, s < S → σ'.1 23 s = σ.1 8 s := by
  unfold f_X8_rests_18
  refine lp_x (fun d q => ∃ i σi, i + d = S ∧ q = (x1, nI i, σi) ∧ (∀ k, k ≠ 23 → σi.1 k = σ.1 k) ∧ σi.2 = σ.2 ∧ ∀ s, s < i → σi.1 23 s = σ.1 8 s) (fun σ' => f_X8_rests_46 x1 0 σ') (fun σ' => (∀ k, k ≠ 23 → σ'.1 k = σ.1 k) ∧ σ'.2 = σ.2 ∧ ∀ s, s < S → σ'.1 23 s = σ.1 8 s) ?_ 100000 S _ (by omega) ⟨0, σ, by omega, rfl, fun _ _ => rfl, rfl, fun s hs => by omega⟩
  rintro d rec _ ⟨i, σi, hi, rfl, p1, p2, p3⟩ ih
  show ∃ z, b_X8_rests_18 rec x1 (nI i) σi = _ ∧ _
  unfold b_X8_rests_18
  rw [p1 0 (by omega), e]
  cases d with
  | zero =>
    have : i = S := by omega
    subst this
    rw [if_pos (nI_le (by omega) (by omega))]
    exact ⟨σi, rfl, p1, p2, p3⟩
  | succ d =>
    rw [if_neg (nI_ge (by omega) (by omega)), rd_n (by omega) (by omega), ck_n (by omega) (by omega), nm_d, nI_clamp (by omega), nI_1]
    refine ih d _ (by omega) ⟨i + 1, _, by omega, rfl, fun k hk => by rw [sR_ne _ _ hk]; exact p1 k hk, by rw [sR_2]; exact p2, fun s hs => ?_⟩
    rw [sR_at]
    by_cases q : s = i
    · subst q; rw [pk_us, p1 8 (by omega)]
    · rw [pk_un q]; exact p3 s (by omega)
theorem back23 {S : Nat} {σ : St} (hS : S ≤ 8) (e : σ.1 0 4 = nI S) (x2 x3 : Int32) : ∃ σ', f_X8_rests_83 x2 x3 0 σ = some (if x2 = 20 then -1 else x3, σ') ∧ (∀ k, k ≠ 8 → σ'.1 k = σ.1 k) ∧ σ'.2 = σ.2 ∧ (∀ s, s < S → σ'.1 8 s = σ.1 23 s) ∧ ∀ s, S ≤ s → σ'.1 8 s = σ.1 8 s := by
  unfold f_X8_rests_83
  refine lp_x (fun d q => ∃ i σi, i + d = S ∧ q = (x2, x3, nI i, σi) ∧ (∀ k, k ≠ 8 → σi.1 k = σ.1 k) ∧ σi.2 = σ.2 ∧ (∀ s, s < i → σi.1 8 s = σ.1 23 s) ∧ ∀ s, S ≤ s → σi.1 8 s = σ.1 8 s) (fun (σ' : St) => some (if x2 = 20 then -1 else x3, σ')) (fun (σ' : St) => (∀ k, k ≠ 8 → σ'.1 k = σ.1 k) ∧ σ'.2 = σ.2 ∧ (∀ s, s < S → σ'.1 8 s = σ.1 23 s) ∧ ∀ s, S ≤ s → σ'.1 8 s = σ.1 8 s) ?_ 100000 S _ (by omega) ⟨0, σ, by omega, rfl, fun _ _ => rfl, rfl, fun s hs => by omega, fun _ _ => rfl⟩
  rintro d rec _ ⟨i, σi, hi, rfl, p1, p2, p3, p4⟩ ih
  show ∃ z, b_X8_rests_83 rec x2 x3 (nI i) σi = _ ∧ _
  unfold b_X8_rests_83
  rw [p1 0 (by omega), e]
  cases d with
  | zero =>
    have : i = S := by omega
    subst this
    rw [if_pos (nI_le (by omega) (by omega))]
    refine ⟨σi, ?_, p1, p2, p3, p4⟩
    by_cases q : x2 = 20
    · simp only [if_pos q]
    · simp only [if_neg q]
  | succ d =>
    rw [if_neg (nI_ge (by omega) (by omega)), rd_n (by omega) (by omega), ck_n (by omega) (by omega), nm_d, nI_clamp (by omega), nI_1]
    refine ih d _ (by omega) ⟨i + 1, _, by omega, rfl, fun k hk => by rw [sR_ne _ _ hk]; exact p1 k hk, by rw [sR_2]; exact p2, fun s hs => ?_, fun s hs => ?_⟩
    · rw [sR_at]
      by_cases q : s = i
      · subst q; rw [pk_us, p1 23 (by omega)]
      · rw [pk_un q]; exact p3 s (by omega)
    · rw [sR_at, pk_un (by omega)]; exact p4 s hs
/-- the reference's rounds, by what the class's search says -/
theorem rounds {H S : Nat} {σm σ1 : St} {r : Int32} (O : outc H S σm r σ1) (x1 : Int32) : ∃ (x : Int32) (σ' : St), f_X8_rests_46 x1 0 σm = f_X8_rests_65 x1 x σ' ∧ fr S σm σ' ∧ ((r = -1 ∧ x = 20) ∨ (¬ r = -1 ∧ x = r ∧ ¬ x = 20 ∧ NR H S 61 σ1 σ')) := by
  obtain ⟨K, P, P0, Ps, Pf, hK⟩ := O
  have hK20 : K ≤ 20 := by rcases hK with h | h <;> omega
  unfold f_X8_rests_46
  have key := lp_x (B := fun (rec46 : Int32 × Int32 × St → Option (Int32 × St)) (q : Int32 × Int32 × St) => b_X8_rests_46 rec46 (q.1) (q.2.1) (q.2.2)) (fun d q => ∃ n σ, n + d = K ∧ q = (x1, nI n, σ) ∧ P n σ) (fun (z : Int32 × St) => f_X8_rests_65 x1 z.1 z.2) (fun z => fr S σm z.2 ∧ ((r = -1 ∧ z.1 = 20) ∨ (¬ r = -1 ∧ z.1 = r ∧ ¬ z.1 = 20 ∧ NR H S 61 σ1 z.2))) ?_ 100000 K (x1, 0, σm) (by omega) ⟨0, σm, by omega, rfl, P0⟩
  · obtain ⟨⟨x, s⟩, k1, k2, k3⟩ := key
    exact ⟨x, s, k1, k2, k3⟩
  rintro d rec _ ⟨n, σ, hn, rfl, hP⟩ ih
  show ∃ z, b_X8_rests_46 rec x1 (nI n) σ = _ ∧ _
  unfold b_X8_rests_46
  rw [show (20 : Int32) = nI 20 from rfl]
  cases d with
  | zero =>
    have : n = K := by omega
    subst this
    rcases hK with ⟨h1, h2, h3⟩ | ⟨h1, h2⟩
    · rw [if_neg (nI_ge (by omega) (by omega))]
      obtain ⟨σ', a1, a2, a3⟩ := h3 σ hP
      rw [a1, bd_s, if_pos rfl]
      refine ⟨(nI n, σ'), rfl, a2, Or.inr ⟨by rw [h1]; exact nI_ne_m1 (by omega), h1.symm, ?_, a3⟩⟩
      exact fun q => by have := (nI_eq (a := n) (b := 20) (by omega) (by omega)).mp q; omega
    · subst h2
      rw [if_pos (nI_le (by omega) (by omega))]
      exact ⟨(nI 20, σ), rfl, Pf _ _ hP, Or.inl ⟨h1, rfl⟩⟩
  | succ d =>
    rw [if_neg (nI_ge (by omega) (by omega))]
    obtain ⟨σ', a1, a2⟩ := Ps n σ (by omega) hP
    rw [a1, bd_s, if_neg i10, nI_1]
    exact ih d _ (by omega) ⟨n + 1, σ', by omega, rfl, a2⟩
theorem rests2 {H S : Nat} {v : Nat → Nat → Nat} {σc σm : St} (hI : InvV H S v σc σm) (x1 : Int32) (hx : x1 = -1 ∨ ∃ h, h < H ∧ x1 = nI h) : ∃ (r : Int32) (σc1 σm1 : St), f_X7_rests_19 x1 σc = some (r, σc1) ∧ f_X8_rests_16 x1 σm = some (r, σm1) ∧ InvV H S v σc1 σm1 := by
  obtain ⟨B, C, M, R, ld, T, F, W, J⟩ := id hI
  obtain ⟨l, -, hl, el⟩ := R.2.2.2.1.2
  have hH := B.1
  unfold f_X7_rests_19 f_X8_rests_16
  obtain ⟨σ0, m0, m1, m2, m3⟩ := save23 B.2.1 M.2.1 x1
  have M0 : VM H S v σ0 := M.cg (by rw [m1 0 (by omega)]) (by rw [m1 0 (by omega)]) (fun k _ _ => m1 k (by omega))
  have N0 : NR H S 20 σc σ0 := by
    have N := hI.nr
    refine ⟨fun s hs => by rw [m1 8 (by omega)]; exact N.1 s hs, by rw [m1 0 (by omega)]; exact N.2.1, by rw [m1 0 (by omega)]; exact N.2.2.1, N.2.2.2⟩
  obtain ⟨r, σc', k1, k2, O⟩ := settle2 B C M0 N0 (by rw [m1 0 (by omega)]; exact el) hl
  obtain ⟨x, σ', a1, a2, a3⟩ := rounds O x1
  rw [m0, a1, k1, bd_s]
  have M1 : VM H S v σ' := M0.fr a2
  have C1 : VC H S v σc' := C.cg (fun k _ _ => k2 k (by omega))
  have fin : ∀ x3 : Int32, ∃ σ'', f_X8_rests_83 x x3 0 σ' = some (if x = 20 then -1 else x3, σ'') ∧ InvV H S v σc' σ'' := fun x3 => by
    obtain ⟨σ'', b1, b2, b3, b4, b5⟩ := back23 B.2.1 M1.2.1 x x3
    refine ⟨σ'', b1, hI.cg (fun k hk => k2 k (by omega)) (fun k hk => ?_) (fun j hj => ?_)⟩
    · by_cases q : k = 8
      · subst q
        funext s
        by_cases q2 : s < S
        · rw [b4 s q2, a2.1.1 23 (by omega) (by omega) (by omega)]; exact m3 s q2
        · rw [b5 s (by omega), a2.2 s (by omega), m1 8 (by omega)]
      · rw [b2 k q, a2.1.1 k (by omega) q (by omega), m1 k (by omega)]
    · rw [b2 0 (by omega), a2.1.2.1 j (by omega), m1 0 (by omega)]
  unfold f_X8_rests_65 f_X8_rests_79
  rcases hx with rfl | ⟨h, hh, rfl⟩
  · rw [if_pos rfl, if_pos rfl]
    obtain ⟨σ'', b1, b2⟩ := fin x
    rw [b1]
    refine ⟨_, _, _, rfl, ?_, b2⟩
    rcases a3 with ⟨c1, c2⟩ | ⟨c1, c2, c3, -⟩
    · rw [if_pos c2, c1]
    · rw [if_neg c3, c2]
  · have hne := nI_ne_m1 (n := h) (by omega)
    rw [if_neg hne, if_neg hne, fshM B M1 hh, bd_s]
    obtain ⟨σ'', b1, b2⟩ := fin (fsh (v 3) (σ'.1 8) h S 0)
    rw [b1]
    rcases a3 with ⟨c1, c2⟩ | ⟨c1, c2, c3, c4⟩
    · rw [if_pos c2, if_pos c1]
      exact ⟨_, _, _, rfl, by rw [c1], b2⟩
    · rw [if_neg c3, if_neg c1, fshC B C1 hh, bd_s]
      refine ⟨_, _, _, rfl, ?_, b2⟩
      rw [fsh_cg (g := σ'.1 8) (g' := σc'.1 62) (fun s hs => (c4.1 s hs).1.symm) S 0 (by omega)]
theorem ok_rests {σc σm : St} (I : Inv σc σm) (x1 : Int32) : ∃ (r : Int32) (σc1 σm1 : St), f_X7_rests x1 σc = some (r, σc1) ∧ f_X8_rests x1 σm = some (r, σm1) ∧ Inv σc1 σm1 := by
  obtain ⟨H, S, v, hI⟩ := id I
  obtain ⟨B, C, M, R, ld, T, F, W, J⟩ := id hI
  have hH := B.1
  unfold f_X7_rests f_X8_rests
  by_cases h0 : x1 = -1
  · rw [if_pos h0, if_pos h0]
    obtain ⟨r, a, b, k1, k2, k3⟩ := rests2 hI x1 (Or.inl h0)
    exact ⟨r, a, b, k1, k2, H, S, v, k3⟩
  · rw [if_neg h0, if_neg h0]
    rcases ix3 x1 (n := H) (by omega) with h | ⟨h, hh, rfl⟩
    · rw [hasH_no C.1 h, isH_no (by omega) M.1 h]
      exact ⟨_, σc, σm, rfl, rfl, I⟩
    rw [hasH_yes (by omega) C.1 hh, isH_yes (by omega) M.1 hh, bd_s, bd_s, if_neg i10, if_neg i10]
    obtain ⟨r, a, b, k1, k2, k3⟩ := rests2 hI (nI h) (Or.inr ⟨h, hh, rfl⟩)
    exact ⟨r, a, b, k1, k2, H, S, v, k3⟩
