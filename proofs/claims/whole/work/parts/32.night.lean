/-! ===== pure: nights (own work) ===== -/
theorem bmod32 {z : Int} (h1 : -2147483648 ≤ z) (h2 : z < 2147483648) : z.bmod (2 ^ 32) = z := by
  rw [Int.bmod_def]; split <;> omega
theorem sub_tI {x y : Int32} (h1 : -2147483648 ≤ x.toInt - y.toInt) (h2 : x.toInt - y.toInt < 2147483648) : (x - y).toInt = x.toInt - y.toInt := by
  rw [Int32.toInt_sub]; exact bmod32 h1 h2
theorem add_tI {x y : Int32} (h1 : -2147483648 ≤ x.toInt + y.toInt) (h2 : x.toInt + y.toInt < 2147483648) : (x + y).toInt = x.toInt + y.toInt := by
  rw [Int32.toInt_add]; exact bmod32 h1 h2
theorem mul_tI {x y : Int32} (h1 : -2147483648 ≤ x.toInt * y.toInt) (h2 : x.toInt * y.toInt < 2147483648) : (x * y).toInt = x.toInt * y.toInt := by
  rw [Int32.toInt_mul]; exact bmod32 h1 h2
theorem x1_ge {a : Nat} (h : is_X1 a) : 20 ≤ a := by rcases h with h | h | h | h | h | h <;> omega
def lay (σ : St) (a s : Nat) : St := sI (sI (sI σ (a + 2) s (σ.1 8 s - σ.1 (a + 1) s - σ.1 9 s)) (a + 3) s (σ.1 8 s - σ.1 (a + 1) s + σ.1 9 s)) (a + 4) s (rf σ a s)
theorem lay_eq {σ : St} {a s : Nat} (ha : 20 ≤ a) (hs : s < 8) : f_X1_layOut a (nI s) σ = some (lay σ a s) := by
  unfold f_X1_layOut f_X1_layOut_95 f_X1_layOut_96 lay rf
  have k8 : (8 : Nat) < 2 ^ 31 := by omega
  have c8 : (nI s).toNatClampNeg = s := nI_clamp (by omega)
  simp only [rd_n hs k8, ck_n hs k8, nm_d, c8]
  have e9 : ∀ x, (sI σ (a + 2) s x).1 9 = σ.1 9 := fun x => sR_ne _ _ (by omega)
  simp only [e9]
  have g : ∀ (x y : Int32) (k : Nat), k ≠ a + 2 → k ≠ a + 3 → (sI (sI σ (a + 2) s x) (a + 3) s y).1 k = σ.1 k := fun x y k h1 h2 => by rw [sR_ne _ _ h2, sR_ne _ _ h1]
  simp only [g _ _ a (by omega) (by omega), g _ _ 7 (by omega) (by omega), g _ _ 10 (by omega) (by omega)]
  by_cases h1 : σ.1 a 2 = -1
  · simp only [if_pos h1, if_true]
  · simp only [if_neg h1]
    by_cases h2 : σ.1 7 s = σ.1 a 2
    · simp only [if_pos h2, if_true]
    · simp only [if_neg h2]
      by_cases h3 : σ.1 a 4 ≤ σ.1 10 s
      · simp only [if_pos h3, if_true]
      · simp only [if_neg h3, if_neg i10]
theorem lay_ne {σ : St} {a s k : Nat} (h2 : k ≠ a + 2) (h3 : k ≠ a + 3) (h4 : k ≠ a + 4) : (lay σ a s).1 k = σ.1 k := by
  unfold lay; rw [sR_ne _ _ h4, sR_ne _ _ h3, sR_ne _ _ h2]
theorem lay_2 (σ : St) (a s : Nat) : (lay σ a s).2 = σ.2 := rfl
theorem lay_r2 (σ : St) (a s : Nat) : (lay σ a s).1 (a + 2) = upd (σ.1 (a + 2)) s (σ.1 8 s - σ.1 (a + 1) s - σ.1 9 s) := by
  unfold lay; rw [sR_ne _ _ (by omega), sR_ne _ _ (by omega), sR_at]
theorem lay_r3 (σ : St) (a s : Nat) : (lay σ a s).1 (a + 3) = upd (σ.1 (a + 3)) s (σ.1 8 s - σ.1 (a + 1) s + σ.1 9 s) := by
  unfold lay; rw [sR_ne _ _ (by omega), sR_at, sR_ne _ _ (by omega)]
theorem lay_r4 (σ : St) (a s : Nat) : (lay σ a s).1 (a + 4) = upd (σ.1 (a + 4)) s (rf σ a s) := by
  unfold lay; rw [sR_at, sR_ne _ _ (by omega), sR_ne _ _ (by omega)]
/-- the sleepers below i are laid out, from σ on nothing else has changed -/
def LO (a i : Nat) (σ σ' : St) : Prop := (∀ k, k ≠ a + 2 → k ≠ a + 3 → k ≠ a + 4 → σ'.1 k = σ.1 k) ∧ σ'.2 = σ.2 ∧ ∀ s, s < i → σ'.1 (a + 2) s = σ.1 8 s - σ.1 (a + 1) s - σ.1 9 s ∧ σ'.1 (a + 3) s = σ.1 8 s - σ.1 (a + 1) s + σ.1 9 s ∧ σ'.1 (a + 4) s = rf σ a s
theorem LO.step {a i : Nat} {σ σ' : St} (ha : 20 ≤ a) (h : LO a i σ σ') : LO a (i + 1) σ (lay σ' a i) := by
  obtain ⟨h1, h2, h3⟩ := h
  have e : ∀ s, rf σ' a s = rf σ a s := fun s => by unfold rf; rw [h1 a (by omega) (by omega) (by omega), h1 7 (by omega) (by omega) (by omega), h1 10 (by omega) (by omega) (by omega)]
  refine ⟨fun k k2 k3 k4 => by rw [lay_ne k2 k3 k4]; exact h1 k k2 k3 k4, by rw [lay_2, h2], fun s hs => ?_⟩
  rw [lay_r2, lay_r3, lay_r4, e, h1 8 (by omega) (by omega) (by omega), h1 9 (by omega) (by omega) (by omega), h1 (a + 1) (by omega) (by omega) (by omega)]
  by_cases q : s = i
  · subst q; simp only [pk_us]; exact ⟨trivial, trivial, trivial⟩
  · simp only [pk_un q]; exact h3 s (by omega)
theorem LO.laid {a S : Nat} {σ σ' : St} (ha : 20 ≤ a) (h : LO a S σ σ') : laid S a σ' := by
  obtain ⟨h1, h2, h3⟩ := h
  intro s hs
  have e : rf σ' a s = rf σ a s := by unfold rf; rw [h1 a (by omega) (by omega) (by omega), h1 7 (by omega) (by omega) (by omega), h1 10 (by omega) (by omega) (by omega)]
  rw [e, h1 8 (by omega) (by omega) (by omega), h1 9 (by omega) (by omega) (by omega), h1 (a + 1) (by omega) (by omega) (by omega)]
  exact h3 s hs
theorem mkN {S : Nat} {σ : St} {a : Nat} (ha : 20 ≤ a) (hS : S ≤ 8) (hs : σ.1 3 4 = nI S) (x1 x2 x3 : Int32) : ∃ σ', f_X1_makeNoise a x1 x2 x3 σ = some σ' ∧ LO a S (sI (sI (sI σ a 2 x1) a 3 x2) a 4 x3) σ' := by
  unfold f_X1_makeNoise f_X1_makeNoise_18
  simp only [nm_d]
  generalize hσ : sI (sI (sI σ a 2 x1) a 3 x2) a 4 x3 = σ0
  have hs0 : σ0.1 3 4 = nI S := by rw [← hσ, sR_ne _ _ (by omega), sR_ne _ _ (by omega), sR_ne _ _ (by omega)]; exact hs
  refine lp_e (fun d q => ∃ i σi, i + d = S ∧ q = (nI i, σi) ∧ LO a i σ0 σi) (fun _ o => LO a S σ0 o) ?_ 100000 S _ (by omega) ⟨0, σ0, by omega, rfl, ⟨fun _ _ _ _ => rfl, rfl, fun s hs => by omega⟩⟩
  rintro d rec _ ⟨i, σi, hi, rfl, hL⟩ ih
  show ∃ o, b_X1_makeNoise_18 a rec (nI i) σi = some o ∧ _
  unfold b_X1_makeNoise_18
  rw [hL.1 3 (by omega) (by omega) (by omega), hs0]
  cases d with
  | zero =>
    rw [if_pos (nI_le (by omega) (by omega))]
    have : i = S := by omega
    subst this
    exact ⟨_, rfl, hL⟩
  | succ d =>
    rw [if_neg (nI_ge (by omega) (by omega)), lay_eq ha (by omega), bv_s, nI_1]
    exact ih d _ (by omega) ⟨i + 1, _, by omega, rfl, hL.step ha⟩
theorem shO {σ : St} {a s : Nat} (ha : 20 ≤ a) (hs : s < 8) (k : Int32) : f_X1_shiftOne a (nI s) k σ = some (lay (sI σ (a + 1) s k) a s) := by
  unfold f_X1_shiftOne
  rw [ck_n hs (by omega), nm_d, nI_clamp (by omega), lay_eq ha hs, bv_s]
theorem laid_shift {S a s : Nat} {σ : St} (ha : 20 ≤ a) (L : laid S a σ) (k : Int32) : laid S a (lay (sI σ (a + 1) s k) a s) := by
  intro t ht
  have e1 : ∀ j, j ≠ a + 1 → (sI σ (a + 1) s k).1 j = σ.1 j := fun j h => sR_ne _ _ h
  have e2 : (lay (sI σ (a + 1) s k) a s).1 (a + 1) = upd (σ.1 (a + 1)) s k := by rw [lay_ne (by omega) (by omega) (by omega), sR_at]
  have e3 : ∀ t, rf (lay (sI σ (a + 1) s k) a s) a t = rf σ a t := fun t => by
    unfold rf; rw [lay_ne (by omega) (by omega) (by omega), lay_ne (by omega) (by omega) (by omega), lay_ne (by omega) (by omega) (by omega), e1 a (by omega), e1 7 (by omega), e1 10 (by omega)]
  have e4 : rf (sI σ (a + 1) s k) a s = rf σ a s := by unfold rf; rw [e1 a (by omega), e1 7 (by omega), e1 10 (by omega)]
  rw [e3, e2, lay_r2, lay_r3, lay_r4, e4, lay_ne (k := 8) (by omega) (by omega) (by omega), lay_ne (k := 9) (by omega) (by omega) (by omega), e1 8 (by omega), e1 9 (by omega), e1 (a + 2) (by omega), e1 (a + 3) (by omega), e1 (a + 4) (by omega), sR_at]
  by_cases q : t = s
  · subst q; simp only [pk_us]; exact ⟨trivial, trivial, trivial⟩
  · simp only [pk_un q]; exact L t ht
/-- a night of the class against the reference as it is -/
def NR (H S a : Nat) (σc σm : St) : Prop := (∀ s, s < S → σc.1 (a + 1) s = σm.1 8 s ∧ rg (σm.1 8 s) 0 60) ∧ (σc.1 a 3 = σm.1 0 10 ∧ σc.1 a 4 = σm.1 0 11 ∧ σc.1 a 2 = σm.1 0 12 ∧ nOK H (σm.1 0 12) (σm.1 0 10) (σm.1 0 11)) ∧ (σc.1 a 5 = σm.1 0 13 ∧ rg (σm.1 0 13) 0 2) ∧ laid S a σc
theorem InvV.nr {H S : Nat} {v : Nat → Nat → Nat} {σc σm : St} (I : InvV H S v σc σm) : NR H S 20 σc σm := ⟨I.2.2.2.1.1, I.2.2.2.1.2.2.1, I.2.2.2.1.2.2.2.1, I.2.2.2.2.1⟩
/-- does the noise reach sleeper s -/
def stl (σm : St) (s : Nat) : Prop := ¬ σm.1 0 10 < 0 ∧ ¬ σm.1 0 11 ≤ σm.1 7 s ∧ ¬ σm.1 4 s = σm.1 0 12
theorem stl_eq {σ : St} {s : Nat} (hs : s < 8) : (stl σ s ∧ f_X8_isStartled (nI s) σ = some (1, σ)) ∨ (¬ stl σ s ∧ f_X8_isStartled (nI s) σ = some (0, σ)) := by
  unfold f_X8_isStartled stl
  have k8 : (8 : Nat) < 2 ^ 31 := by omega
  simp only [rd_n hs k8]
  by_cases h1 : σ.1 0 10 < 0
  · exact Or.inr ⟨fun q => q.1 h1, by rw [if_pos h1]⟩
  · by_cases h2 : σ.1 0 11 ≤ σ.1 7 s
    · exact Or.inr ⟨fun q => q.2.1 h2, by rw [if_neg h1, if_pos h2]⟩
    · by_cases h3 : σ.1 4 s = σ.1 0 12
      · exact Or.inr ⟨fun q => q.2.2 h3, by rw [if_neg h1, if_neg h2, if_pos h3]⟩
      · exact Or.inl ⟨⟨h1, h2, h3⟩, by rw [if_neg h1, if_neg h2, if_neg h3]⟩
theorem rf_stl {H S a : Nat} {v : Nat → Nat → Nat} {σc σm : St} (B : VB H S v) (C : VC H S v σc) (M : VM H S v σm) (N : NR H S a σc σm) {s : Nat} (hs : s < S) : (stl σm s → rf σc a s = σm.1 0 10) ∧ (¬ stl σm s → rf σc a s = 1000000) := by
  have hH := B.1
  have c := C.2.2.2 s hs
  have m := M.2.2.2 s hs
  obtain ⟨-, ⟨n1, n2, n3, n4⟩, -⟩ := N
  unfold rf stl
  rw [n1, n2, n3, c.1, c.2.2.2, m.1, m.2.2.2]
  rcases nOK_at hH n4 with ⟨h1, h2⟩ | ⟨h1, h2⟩
  · exact ⟨fun q => absurd h2 q.1, fun _ => by rw [if_pos h1]⟩
  · rw [if_neg h1]
    by_cases h3 : nI (v 3 s) = σm.1 0 12
    · exact ⟨fun q => absurd h3 q.2.2, fun _ => by rw [if_pos h3]⟩
    · rw [if_neg h3]
      by_cases h4 : σm.1 0 11 ≤ nI (v 6 s)
      · exact ⟨fun q => absurd h4 q.2.1, fun _ => by rw [if_pos h4]⟩
      · exact ⟨fun _ => by rw [if_neg h4], fun q => absurd ⟨h2, h4, h3⟩ q⟩
/-- what the noise makes of a minute -/
def hrd (r x : Int32) : Int32 := if r ≤ x then r else x
theorem heardC {a s : Nat} {σ : St} (hs : s < 8) (x : Int32) : f_X1_heard a (nI s) x σ = some (hrd (σ.1 (a + 4) s) x, σ) := by
  unfold f_X1_heard hrd
  have k8 : (8 : Nat) < 2 ^ 31 := by omega
  simp only [rd_n hs k8]
  by_cases h : σ.1 (a + 4) s ≤ x
  · simp only [if_pos h]
  · simp only [if_neg h]
theorem heardM {H S a : Nat} {v : Nat → Nat → Nat} {σc σm : St} (B : VB H S v) (C : VC H S v σc) (M : VM H S v σm) (N : NR H S a σc σm) {s : Nat} (hs : s < S) {x : Int32} (hx : x.toInt < 1000000) : f_X8_heard (nI s) x σm = some (hrd (σc.1 (a + 4) s) x, σm) := by
  have h8 := B.2.1
  have r := rf_stl B C M N hs
  rw [(N.2.2.2 s hs).2.2]
  unfold f_X8_heard hrd
  rcases stl_eq (σ := σm) (s := s) (by omega) with ⟨h1, h2⟩ | ⟨h1, h2⟩
  · rw [h2, bd_s, if_neg i10, r.1 h1]
    by_cases q : x ≤ σm.1 0 10
    · rw [if_pos q]
      by_cases q2 : σm.1 0 10 ≤ x
      · rw [if_pos q2]
        have e : x = σm.1 0 10 := Int32.toInt_inj.mp (by rw [le_toInt] at q q2; omega)
        rw [e]
      · rw [if_neg q2]
    · rw [if_neg q, if_pos (by rw [le_toInt] at q ⊢; omega)]
  · rw [h2, bd_s, if_pos rfl, r.2 h1, if_neg (by rw [le_toInt]; show ¬ (1000000 : Int) ≤ x.toInt; omega)]
theorem firstM {H S : Nat} {v : Nat → Nat → Nat} {σ : St} (B : VB H S v) {s : Nat} (hs : s < S) : f_X8_firstOf (nI s) σ = some (σ.1 5 s - σ.1 8 s - σ.1 6 s, σ) := by
  have h8 := B.2.1
  unfold f_X8_firstOf; simp only [rd_n (show s < 8 by omega) (show 8 < 2 ^ 31 by omega)]
theorem lastM {H S : Nat} {v : Nat → Nat → Nat} {σ : St} (B : VB H S v) {s : Nat} (hs : s < S) : f_X8_lastOf (nI s) σ = some (σ.1 5 s - σ.1 8 s + σ.1 6 s, σ) := by
  have h8 := B.2.1
  unfold f_X8_lastOf; simp only [rd_n (show s < 8 by omega) (show 8 < 2 ^ 31 by omega)]
/-- first and last minute: the same on both sides, and small -/
theorem fl_eq {H S a : Nat} {v : Nat → Nat → Nat} {σc σm : St} (B : VB H S v) (C : VC H S v σc) (M : VM H S v σm) (N : NR H S a σc σm) {s : Nat} (hs : s < S) : ∃ sh, sh ≤ 60 ∧ σm.1 8 s = nI sh ∧ σc.1 (a + 2) s = σm.1 5 s - σm.1 8 s - σm.1 6 s ∧ σc.1 (a + 3) s = σm.1 5 s - σm.1 8 s + σm.1 6 s ∧ (σc.1 (a + 2) s).toInt = (v 4 s : Int) - sh - v 5 s ∧ (σc.1 (a + 3) s).toInt = (v 4 s : Int) - sh + v 5 s := by
  have b := B.2.2.2 s hs
  have c := C.2.2.2 s hs
  have m := M.2.2.2 s hs
  obtain ⟨l1, l2, -⟩ := N.2.2.2 s hs
  obtain ⟨n1, sh, -, n2, n3⟩ := N.1 s hs
  have e1 : (nI (v 4 s) - nI sh).toInt = (v 4 s : Int) - sh := pk_sub_toInt (by omega) (by omega)
  have e5 : (nI (v 5 s)).toInt = (v 5 s : Int) := nI_toInt (by omega)
  refine ⟨sh, n2, n3, ?_, ?_, ?_, ?_⟩
  · rw [l1, n1, c.2.1, c.2.2.1, m.2.1, m.2.2.1]
  · rw [l2, n1, c.2.1, c.2.2.1, m.2.1, m.2.2.1]
  · rw [l1, n1, n3, c.2.1, c.2.2.1, sub_tI (by rw [e1, e5]; omega) (by rw [e1, e5]; omega), e1, e5]
  · rw [l2, n1, n3, c.2.1, c.2.2.1, add_tI (by rw [e1, e5]; omega) (by rw [e1, e5]; omega), e1, e5]
