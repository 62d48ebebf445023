/-! ===== pure: a round of best shifts (own work) ===== -/
theorem or_z {x y : Int32} (h : x ||| y = 0) : x = 0 ∧ y = 0 := by
  have e : x.toBitVec ||| y.toBitVec = 0#32 := by
    have := congrArg Int32.toBitVec h
    simpa using this
  have hx : x.toBitVec = 0#32 := by
    apply BitVec.eq_of_getLsbD_eq
    intro i hi
    have := congrArg (fun z => BitVec.getLsbD z i) e
    simp at this ⊢
    exact this.1
  have hy : y.toBitVec = 0#32 := by
    apply BitVec.eq_of_getLsbD_eq
    intro i hi
    have := congrArg (fun z => BitVec.getLsbD z i) e
    simp at this ⊢
    exact this.2
  exact ⟨Int32.toBitVec_inj.mp hx, Int32.toBitVec_inj.mp hy⟩
theorem shl_nz {i : Nat} (h : i < 8) : ¬ ((1 : Int32) <<< (nI i &&& 31)) = 0 := by
  rcases (show i = 0 ∨ i = 1 ∨ i = 2 ∨ i = 3 ∨ i = 4 ∨ i = 5 ∨ i = 6 ∨ i = 7 by omega) with rfl | rfl | rfl | rfl | rfl | rfl | rfl | rfl <;> decide
theorem sof_z {f : Nat → Nat} {h : Nat} : ∀ (d i : Nat) (acc : Int32), i + d ≤ 8 → sof f h d i acc = 0 → acc = 0 ∧ ∀ s, i ≤ s → s < i + d → ¬ f s = h := by
  intro d
  induction d with
  | zero => intro i acc _ e; exact ⟨e, fun s h1 h2 => by omega⟩
  | succ d ih =>
    intro i acc hi e
    rw [sof] at e
    obtain ⟨e1, e2⟩ := ih (i + 1) _ (by omega) e
    by_cases q : f i = h
    · rw [if_pos q] at e1
      exact absurd (or_z e1).2 (shl_nz (by omega))
    · rw [if_neg q] at e1
      refine ⟨e1, fun s h1 h2 => ?_⟩
      by_cases q2 : s = i
      · subst q2; exact q
      · exact e2 s (by omega) (by omega)
/-- what the reference's inner loop says -/
theorem chgM {H S h : Nat} {v : Nat → Nat → Nat} {σ : St} (B : VB H S v) (M : VM H S v σ) (hh : h < H) (k x1 : Int32) (hx : x1 = 0 ∨ x1 = 1) (rec4 : Int32 × Int32 × St → Option (Int32 × St)) (y : Int32) (hy : (y = 0 ∧ x1 = 0 ∧ ∀ s, s < S → v 3 s = h → σ.1 8 s = k) ∨ (y = 1 ∧ (x1 = 1 ∨ ∃ s, s < S ∧ v 3 s = h ∧ ¬ σ.1 8 s = k))) : f_X8_roundChanges_29 rec4 x1 (nI h) k 0 σ = bv (f_X8_shiftHouse (nI h) k σ) (fun σ' => rec4 (y, nI (h + 1), σ')) := by
  have h8 := B.2.1
  have hH := B.1
  unfold f_X8_roundChanges_29
  refine lp_q (fun d q o => ∃ (i : Nat) (x : Int32), i + d = S ∧ q = (x, nI h, k, nI i, σ) ∧ ((x = 0 ∧ x1 = 0 ∧ ∀ s, s < i → v 3 s = h → σ.1 8 s = k) ∨ (x = 1 ∧ (x1 = 1 ∨ ∃ s, s < S ∧ v 3 s = h ∧ ¬ σ.1 8 s = k))) ∧ o = bv (f_X8_shiftHouse (nI h) k σ) (fun σ' => rec4 (y, nI (h + 1), σ'))) ?_ 100000 S _ _ (by omega) ⟨0, x1, by omega, rfl, ?_, rfl⟩
  · rintro d rec _ _ ⟨i, x, hi, rfl, hxx, rfl⟩ ih
    show b_X8_roundChanges_29 rec4 rec x (nI h) k (nI i) σ = _
    unfold b_X8_roundChanges_29 f_X8_roundChanges_68 f_X8_roundChanges_64 f_X8_roundChanges_69 f_X8_roundChanges_82
    rw [M.2.1]
    cases d with
    | zero =>
      have : i = S := by omega
      subst this
      have hxy : x = y := by
        rcases hxx with ⟨a1, a2, a3⟩ | ⟨a1, a2⟩
        · rcases hy with ⟨b1, -, -⟩ | ⟨-, b2⟩
          · rw [a1, b1]
          · exfalso
            rcases b2 with b2 | ⟨s, s1, s2, s3⟩
            · rw [a2] at b2; exact absurd b2 (by decide)
            · exact s3 (a3 s s1 s2)
        · rcases hy with ⟨-, b2, b3⟩ | ⟨b1, -⟩
          · exfalso
            rcases a2 with a2 | ⟨s, s1, s2, s3⟩
            · rw [b2] at a2; exact absurd a2 (by decide)
            · exact s3 (b3 s s1 s2)
          · rw [a1, b1]
      rw [if_pos (nI_le (by omega) (by omega)), hxy, nI_1]
    | succ d =>
      have hv := B.2.2.2 i (by omega)
      rw [if_neg (nI_ge (by omega) (by omega)), nI_1]
      rcases hxx with ⟨a1, a2, a3⟩ | ⟨a1, a2⟩
      · rw [if_pos a1, rd_n (by omega) (by omega), (M.2.2.2 i (by omega)).1]
        by_cases e : v 3 i = h
        · rw [if_pos (by rw [e]), rd_n (by omega) (by omega)]
          by_cases e2 : σ.1 8 i = k
          · rw [if_pos e2]
            refine ih d _ (by omega) ⟨i + 1, 0, by omega, rfl, Or.inl ⟨rfl, a2, fun s hs hw => ?_⟩, rfl⟩
            by_cases q : s = i
            · subst q; exact e2
            · exact a3 s (by omega) hw
          · rw [if_neg e2]
            exact ih d _ (by omega) ⟨i + 1, 1, by omega, rfl, Or.inr ⟨rfl, Or.inr ⟨i, by omega, e, e2⟩⟩, rfl⟩
        · rw [if_neg (fun q => e ((nI_eq (by omega) (by omega)).mp q))]
          refine ih d _ (by omega) ⟨i + 1, 0, by omega, rfl, Or.inl ⟨rfl, a2, fun s hs hw => ?_⟩, rfl⟩
          by_cases q : s = i
          · subst q; exact absurd hw e
          · exact a3 s (by omega) hw
      · rw [if_neg (by rw [a1]; exact i10)]
        exact ih d _ (by omega) ⟨i + 1, 1, by omega, rfl, Or.inr ⟨rfl, a2⟩, rfl⟩
  · rcases hx with hx | hx
    · exact Or.inl ⟨hx, hx, fun s hs => by omega⟩
    · exact Or.inr ⟨hx, Or.inl hx⟩
def rc (σ σ' : St) : Prop := ∀ k, k < 60 ∨ 70 < k → σ'.1 k = σ.1 k
def fr (S : Nat) (σ σ' : St) : Prop := fm σ σ' ∧ ∀ s, S ≤ s → σ'.1 8 s = σ.1 8 s
theorem fr.rfl' {S : Nat} {σ : St} : fr S σ σ := ⟨⟨fun _ _ _ _ => rfl, fun _ _ => rfl, rfl⟩, fun _ _ => rfl⟩
theorem fr.tr {S : Nat} {σ σ' σ'' : St} (h : fr S σ σ') (g : fr S σ' σ'') : fr S σ σ'' := ⟨⟨fun k k1 k2 k3 => by rw [g.1.1 k k1 k2 k3]; exact h.1.1 k k1 k2 k3, fun j hj => by rw [g.1.2.1 j hj]; exact h.1.2.1 j hj, by rw [g.1.2.2]; exact h.1.2.2⟩, fun s hs => by rw [g.2 s hs]; exact h.2 s hs⟩
theorem VM.fr {H S : Nat} {v : Nat → Nat → Nat} {σ σ' : St} (M : VM H S v σ) (h : fr S σ σ') : VM H S v σ' := M.cg (h.1.2.1 0 (by omega)) (h.1.2.1 4 (by omega)) (fun k _ _ => h.1.1 k (by omega) (by omega) (by omega))
theorem VC.rc {H S : Nat} {v : Nat → Nat → Nat} {σ σ' : St} (C : VC H S v σ) (h : rc σ σ') : VC H S v σ' := C.cg (fun k _ _ => h k (by omega))
/-- one round, both sides -/
theorem round2 {H S l : Nat} {v : Nat → Nat → Nat} {σc σm : St} (B : VB H S v) (C : VC H S v σc) (M : VM H S v σm) (N : NR H S 61 σc σm) (el : σm.1 0 13 = nI l) (hl : l ≤ 2) : ∃ (f : Int32) (σc' σm' : St), f_X2_playRound σc = some (f, σc') ∧ f_X8_roundChanges σm = some (f, σm') ∧ (f = 0 ∨ f = 1) ∧ NR H S 61 σc' σm' ∧ rc σc σc' ∧ fr S σm σm' ∧ ∀ s, s < S → ∃ i, i ≤ 6 ∧ σm'.1 8 s = nI (10 * i) := by
  have h8 := B.2.1
  have hH := B.1
  unfold f_X2_playRound f_X8_roundChanges f_X2_playRound_4 f_X8_roundChanges_4
  have key := lp_2 (B := fun (rec4 : Int32 × Int32 × St → Option (Int32 × St)) (q : Int32 × Int32 × St) => b_X2_playRound_4 rec4 (q.1) (q.2.1) (q.2.2)) (B2 := fun (rec4 : Int32 × Int32 × St → Option (Int32 × St)) (q : Int32 × Int32 × St) => b_X8_roundChanges_4 rec4 (q.1) (q.2.1) (q.2.2))
    (fun d a p => ∃ (h : Nat) (x : Int32) (s1 s2 : St), h + d = H ∧ a = (x, nI h, s1) ∧ p = (x, nI h, s2) ∧ (x = 0 ∨ x = 1) ∧ NR H S 61 s1 s2 ∧ rc σc s1 ∧ fr S σm s2 ∧ ∀ s, s < S → v 3 s < h → ∃ i, i ≤ 6 ∧ s2.1 8 s = nI (10 * i))
    (fun _ _ o p => o.1 = p.1 ∧ (o.1 = 0 ∨ o.1 = 1) ∧ NR H S 61 o.2 p.2 ∧ rc σc o.2 ∧ fr S σm p.2 ∧ ∀ s, s < S → ∃ i, i ≤ 6 ∧ p.2.1 8 s = nI (10 * i)) ?_ 100000 H (0, 0, σc) (0, 0, σm) (by omega) ⟨0, 0, σc, σm, by omega, rfl, rfl, Or.inl rfl, N, fun _ _ => rfl, fr.rfl', fun s _ hs => by omega⟩
  · obtain ⟨⟨o1, o2⟩, ⟨p1, p2⟩, k1, k2, k3, k4, k5, k6, k7, k8⟩ := key
    have k3' : o1 = p1 := k3
    subst k3'
    exact ⟨o1, o2, p2, k1, k2, k4, k5, k6, k7, k8⟩
  rintro d rec rec2 _ _ ⟨h, x, s1, s2, hd, rfl, rfl, hx, nr, f1, f2, g⟩ ih
  show ∃ o p, b_X2_playRound_4 rec x (nI h) s1 = some o ∧ b_X8_roundChanges_4 rec2 x (nI h) s2 = some p ∧ _
  have C1 : VC H S v s1 := C.rc f1
  have M1 : VM H S v s2 := M.fr f2
  unfold b_X2_playRound_4 b_X8_roundChanges_4
  rw [C1.1, M1.1]
  cases d with
  | zero =>
    have : h = H := by omega
    subst this
    have hz : bz x = true := by rcases hx with rfl | rfl <;> rfl
    rw [if_pos (nI_le (by omega) (by omega)), if_pos (nI_le (by omega) (by omega)), hz, ck_t]
    exact ⟨_, _, rfl, rfl, rfl, hx, nr, f1, f2, fun s hs => g s hs (B.2.2.2 s hs).1⟩
  | succ d =>
    have hh : h < H := by omega
    rw [if_neg (nI_ge (by omega) (by omega)), if_neg (nI_ge (by omega) (by omega)), sofC B C1 hh, sofM B M1 hh, bd_s, bd_s]
    by_cases e : sof (v 3) h S 0 0 = 0
    · rw [if_pos e, if_pos e]
      unfold f_X2_playRound_50 f_X8_roundChanges_82
      rw [nI_1]
      refine ih d _ _ (by omega) ⟨h + 1, x, s1, s2, by omega, rfl, rfl, hx, nr, f1, f2, fun s hs hv => ?_⟩
      have := (sof_z S 0 0 (by omega) e).2 s (by omega) (by omega)
      exact g s hs (by omega)
    · rw [if_neg e, if_neg e]
      obtain ⟨i, s3, s4, k1, k2, k3, k4, k5, k6, k7, k8⟩ := seek2 (b := 61) (by omega) (by omega) (by omega) B C1 M1 nr hh (by rw [f2.1.2.1 13 (by omega)]; exact el) hl
      have C3 : VC H S v s3 := C1.cg (fun k _ _ => k6.1 k (by omega) (by omega))
      have M3 : VM H S v s4 := M1.cg (k7.2.1 0 (by omega)) (k7.2.1 4 (by omega)) (fun k _ _ => by
        exact k7.1 k (by omega) (by omega) (by omega))
      have ld3 : laid S 61 s3 := nr.2.2.2.cg (fun k _ _ => k6.1 k (by omega) (by omega)) (fun k _ _ => k6.1 k (by omega) (by omega)) (by rw [k6.1 61 (by omega) (by omega)]) (by rw [k6.1 61 (by omega) (by omega)]) (by rw [k6.1 61 (by omega) (by omega)])
      have N3 : NR H S 61 s3 s4 := by
        refine ⟨fun s hs => ?_, ?_, ?_, ld3⟩
        · rw [k6.1 62 (by omega) (by omega), k8]; exact nr.1 s hs
        · rw [k6.1 61 (by omega) (by omega), k7.2.1 10 (by omega), k7.2.1 11 (by omega), k7.2.1 12 (by omega)]; exact nr.2.1
        · rw [k6.1 61 (by omega) (by omega), k7.2.1 13 (by omega)]; exact nr.2.2.1
      obtain ⟨r, s5, a0, a1, a2, a3, a4, a5, a6⟩ := shC (a := 61) (σ := s3) (by omega) B C3 hh ld3 (nI (10 * i))
      obtain ⟨s6, b0, b1, b2, b4, b5⟩ := shM B M3 hh (nI (10 * i))
      have hy : (x ||| r = 0 ∧ x = 0 ∧ ∀ s, s < S → v 3 s = h → s4.1 8 s = nI (10 * i)) ∨ (x ||| r = 1 ∧ (x = 1 ∨ ∃ s, s < S ∧ v 3 s = h ∧ ¬ s4.1 8 s = nI (10 * i))) := by
        rcases a6 with ⟨r1, r2⟩ | ⟨r1, s, t1, t2, t3⟩
        · subst r1
          rcases hx with rfl | rfl
          · exact Or.inl ⟨rfl, rfl, fun s hs hw => by rw [← (N3.1 s hs).1]; exact r2 s hs hw⟩
          · exact Or.inr ⟨rfl, Or.inl rfl⟩
        · subst r1
          refine Or.inr ⟨?_, Or.inr ⟨s, t1, t2, by rw [← (N3.1 s t1).1]; exact t3⟩⟩
          rcases hx with rfl | rfl <;> rfl
      rw [k1, bv_s, k4, a0, bd_s, nm_d, k2, bd_s, chgM B M3 hh (nI (10 * i)) x hx rec2 (x ||| r) hy, b0, bv_s]
      unfold f_X2_playRound_50
      rw [nI_1]
      refine ih d _ _ (by omega) ⟨h + 1, x ||| r, s5, s6, by omega, rfl, rfl, ?_, ⟨fun s hs => ?_, ?_, ?_, a3⟩, fun k hk => ?_, f2.tr ⟨⟨fun k q1 q2 q3 => ?_, fun j hj => ?_, ?_⟩, fun s hs => ?_⟩, fun s hs hv => ?_⟩
      · rcases hy with ⟨q, -⟩ | ⟨q, -⟩
        · exact Or.inl q
        · exact Or.inr q
      · rw [a5 s hs, b5 s hs]
        by_cases q : v 3 s = h
        · rw [if_pos q, if_pos q]; exact ⟨rfl, 10 * i, by omega, by omega, rfl⟩
        · rw [if_neg q, if_neg q]; exact N3.1 s hs
      · rw [a1 61 (by omega), b1 0 (by omega)]; exact N3.2.1
      · rw [a1 61 (by omega), b1 0 (by omega)]; exact N3.2.2.1
      · rw [a1 k (by omega), k6.1 k (by omega) (by omega)]; exact f1 k hk
      · rw [b1 k q2]; exact k7.1 k q1 q2 q3
      · rw [b1 0 (by omega)]; exact k7.2.1 j hj
      · rw [b2]; exact k7.2.2
      · rw [b4 s hs, k8]
      · rw [b5 s hs]
        by_cases q : v 3 s = h
        · rw [if_pos q]; exact ⟨i, k3, rfl⟩
        · rw [if_neg q, k8]; exact g s hs (by omega)
