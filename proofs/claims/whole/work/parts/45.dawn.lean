/-! ===== pure: dawns (own work) ===== -/
theorem lp_2x {α β ρ τ ζ ξ : Type} {B : (α → Option ρ) → α → Option ρ} {B2 : (β → Option τ) → β → Option τ} (A : Nat → α → β → Prop) (F : ζ → Option ρ) (G : ξ → Option τ) (Q : ζ → ξ → Prop) (hs : ∀ (d : Nat) (rec : α → Option ρ) (rec2 : β → Option τ) (a : α) (b : β), A d a b → (∀ (d' : Nat) (a' : α) (b' : β), d' < d → A d' a' b' → ∃ z w, rec a' = F z ∧ rec2 b' = G w ∧ Q z w) → ∃ z w, B rec a = F z ∧ B2 rec2 b = G w ∧ Q z w) : ∀ (n d : Nat) (a : α) (b : β), d < n → A d a b → ∃ z w, lp B n a = F z ∧ lp B2 n b = G w ∧ Q z w := by
  intro n
  induction n with
  | zero => intro d a b h; omega
  | succ n ih => intro d a b h hA; exact hs d (lp B n) (lp B2 n) a b hA (fun d' a' b' hd' hA' => ih d' a' b' (by omega) hA')
theorem lN_and {n : Nat} (h : n < 2 ^ 63) : lN n &&& 2147483647 = lN (n % 2147483648) := by
  apply Int64.toBitVec_inj.mp
  rw [Int64.toBitVec_and]
  apply BitVec.eq_of_toNat_eq
  rw [BitVec.toNat_and]
  have e1 : (lN n).toBitVec.toNat = n := by
    show (BitVec.ofNat 64 n).toNat = n
    rw [BitVec.toNat_ofNat]; omega
  have e2 : (lN (n % 2147483648)).toBitVec.toNat = n % 2147483648 := by
    show (BitVec.ofNat 64 (n % 2147483648)).toNat = _
    rw [BitVec.toNat_ofNat]; omega
  have e3 : (2147483647 : Int64).toBitVec.toNat = 2 ^ 31 - 1 := by decide
  rw [e1, e2, e3, Nat.and_two_pow_sub_one_eq_mod]
def nsd (k : Nat) : Nat := (k * 1103515245 + 12345) % 2147483648
theorem inv_seed {H S : Nat} {v : Nat → Nat → Nat} {σc σm : St} (I : InvV H S v σc σm) {k : Nat} (hk : k < 2 ^ 31) : InvV H S v (sI σc 19 9 (nI k)) (sI σm 0 21 (nI k)) := by
  obtain ⟨B, C, M, R, ld, T, F, W, J⟩ := I
  obtain ⟨r1, r2, r3, r4, r5, r6, r7, ⟨r8, r9⟩⟩ := R
  exact ⟨B, C.cg (fun k _ _ => sR_ne _ _ (by omega)), M.cg rfl rfl (fun k _ _ => sR_ne _ _ (by omega)), ⟨r1, r2, r3, r4, r5, r6, r7, rfl, k, hk, rfl⟩, ld.cg (fun k _ _ => sR_ne _ _ (by omega)) (fun k _ _ => sR_ne _ _ (by omega)) rfl rfl rfl, T, F, W, J.cg rfl (fun k _ _ _ => sR_ne _ _ (by omega)) rfl rfl⟩
theorem draw2 {H S m : Nat} {v : Nat → Nat → Nat} {σc σm : St} (I : InvV H S v σc σm) (hm : 0 < m) (hm2 : m ≤ 1000) : ∃ (k r : Nat), r < m ∧ k < 2 ^ 31 ∧ f_X0_draw (nI m) σc = some (nI r, sI σc 19 9 (nI k)) ∧ f_X8_draw (nI m) σm = some (nI r, sI σm 0 21 (nI k)) := by
  obtain ⟨e1, k, k1, k2⟩ := I.2.2.2.1.2.2.2.2.2.2.2
  have e1' : σc.1 19 9 = σm.1 0 21 := e1
  have hb : nsd k < 2147483648 := Nat.mod_lt _ (by omega)
  refine ⟨nsd k, nsd k / 65536 % m, Nat.mod_lt _ hm, hb, ?_, ?_⟩
  · unfold f_X0_draw
    have hc : (((σc.1 19 9 : Int32).toInt64 * 1103515245 + 12345) &&& 2147483647 : Int64).toInt32 = nI (nsd k) := by
      rw [e1', k2, nI_l k1, show (1103515245 : Int64) = lN 1103515245 from rfl, show (12345 : Int64) = lN 12345 from rfl, lN_mul, lN_add, lN_and (by omega), lN_i]; rfl
    rw [hc, nm_d, if_neg (nI_nle hm (by omega)), nz_N hm (by omega), ck_t, sR_at, pk_us, show (65536 : Int32) = nI 65536 from rfl, pk_div (by omega) (by omega) (by omega), pk_rem (by omega) hm (by omega)]
  · unfold f_X8_draw
    have hc : (((σm.1 0 21 : Int32).toInt64 * 1103515245 + 12345) - ((σm.1 0 21 : Int32).toInt64 * 1103515245 + 12345) / 2147483648 * 2147483648 : Int64).toInt32 = nI (nsd k) := by
      rw [k2, nI_l k1, show (1103515245 : Int64) = lN 1103515245 from rfl, show (12345 : Int64) = lN 12345 from rfl, lN_mul, lN_add, show (2147483648 : Int64) = lN 2147483648 from rfl, pk_lRem (by omega) (by omega) (by omega), lN_i]; rfl
    rw [hc, nm_d, nz_N hm (by omega), ck_t, sR_at, pk_us, show (65536 : Int32) = nI 65536 from rfl, pk_div (by omega) (by omega) (by omega), pk_rem (by omega) hm (by omega)]
def pw (l : Nat) (m : Nat → Int32) : Nat → Nat
  | 0 => 0
  | i + 1 => if l = 0 then (if m (pw l m i) ≤ m i then pw l m i else i) else (if m i ≤ m (pw l m i) then pw l m i else i)
theorem pw_lt (l : Nat) (m : Nat → Int32) : ∀ i, pw l m i ≤ i - 1 := by
  intro i
  induction i with
  | zero => exact Nat.le_refl _
  | succ i ih =>
    rw [pw]
    split
    · split <;> omega
    · split <;> omega
theorem pw_cg {l : Nat} {m m' : Nat → Int32} : ∀ i, (∀ j, j < i → m j = m' j) → pw l m i = pw l m' i := by
  intro i
  induction i with
  | zero => intro _; rfl
  | succ i ih =>
    intro h
    have e := ih (fun j hj => h j (by omega))
    have hl := pw_lt l m' i
    rw [pw, pw, e, h i (by omega), h (pw l m' i) (by omega)]
theorem nI_le_rfl (x : Int32) : x ≤ x := by rw [le_toInt]; exact Int.le_refl _
theorem aheadC {H S l : Nat} {v : Nat → Nat → Nat} {σ : St} (B : VB H S v) (C : VC H S v σ) (hS : 0 < S) (el : σ.1 20 5 = nI l) (hl : l ≤ 1) : f_X0_whoIsAhead σ = some (nI (pw l (σ.1 29) S), σ) := by
  have h8 := B.2.1
  unfold f_X0_whoIsAhead f_X0_whoIsAhead_4
  have e1 : pw l (σ.1 29) 1 = 0 := by have := pw_lt l (σ.1 29) 1; omega
  refine lp_m (fun d q o => ∃ i, i + d = S ∧ 0 < i ∧ q = (nI (pw l (σ.1 29) i), nI i, σ) ∧ o = (nI (pw l (σ.1 29) S), σ)) ?_ 100000 (S - 1) _ _ (by omega) ⟨1, by omega, by omega, by rw [e1]; rfl, rfl⟩
  rintro d rec _ _ ⟨i, hi, hi0, rfl, rfl⟩ ih
  show b_X0_whoIsAhead_4 rec (nI (pw l (σ.1 29) i)) (nI i) σ = _
  unfold b_X0_whoIsAhead_4 f_X0_whoIsAhead_69 f_X0_whoIsAhead_76
  rw [C.2.1]
  have hp := pw_lt l (σ.1 29) i
  cases d with
  | zero =>
    have : i = S := by omega
    subst this
    rw [if_pos (nI_le (by omega) (by omega))]
  | succ d =>
    rw [if_neg (nI_ge (by omega) (by omega)), el]
    simp only [rd_n (show i < 8 by omega) (show 8 < 2 ^ 31 by omega), rd_n (show pw l (σ.1 29) i < 8 by omega) (show 8 < 2 ^ 31 by omega), if_true, if_neg i10, nI_1]
    by_cases h1 : l = 1
    · rw [if_pos (by rw [h1]; rfl)]
      by_cases q : σ.1 29 i ≤ σ.1 29 (pw l (σ.1 29) i)
      · rw [if_pos q]
        exact ih d _ (by omega) ⟨i + 1, by omega, by omega, by rw [pw, if_neg (show ¬ l = 0 by omega), if_pos q], rfl⟩
      · rw [if_neg q]
        exact ih d _ (by omega) ⟨i + 1, by omega, by omega, by rw [pw, if_neg (show ¬ l = 0 by omega), if_neg q], rfl⟩
    · rw [if_neg (show ¬ nI l = 1 from fun q => h1 ((nI_eq (b := 1) (by omega) (by omega)).mp q))]
      by_cases q : σ.1 29 (pw l (σ.1 29) i) ≤ σ.1 29 i
      · rw [if_pos q]
        exact ih d _ (by omega) ⟨i + 1, by omega, by omega, by rw [pw, if_pos (show l = 0 by omega), if_pos q], rfl⟩
      · rw [if_neg q]
        exact ih d _ (by omega) ⟨i + 1, by omega, by omega, by rw [pw, if_pos (show l = 0 by omega), if_neg q], rfl⟩
