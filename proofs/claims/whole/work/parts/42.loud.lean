/-! ===== pure: who should be woken with what noise when (own work) ===== -/
theorem prt_mono2 {c c' al al' : Nat → Nat} {s S : Nat} (h : ∀ o, o < S → ¬ o = s → c' o ≤ c o) (ha : ∀ o, o < S → al' o = al o) : ∀ d o v v', o + d = S → v' ≤ v → prt c' al' s d o v' ≤ prt c al s d o v := by
  intro d
  induction d with
  | zero => intro o v v' _ hv; exact hv
  | succ d ih =>
    intro o v v' ho hv
    rw [prt, prt, ha o (by omega)]
    refine ih (o + 1) _ _ (by omega) ?_
    by_cases q : o = s
    · rw [if_pos q, if_pos q]; exact hv
    · rw [if_neg q, if_neg q]; exact Nat.div_le_div_right (Nat.mul_le_mul hv (h o (by omega) q))
theorem odN_mono {l S s : Nat} {F L R F' L' R' : Nat → Int} (hs : s < S) (hFL : ∀ o, o < S → F' o = F o ∧ L' o = L o) (hR : R' s = R s) (hc : ∀ o, o < S → ¬ o = s → ∀ t, cN l F' L' R' o s t ≤ cN l F L R o s t) : odN l F' L' R' S s ≤ odN l F L R S s := by
  unfold odN
  by_cases h2 : l = 2
  · rw [if_pos h2, if_pos h2]; exact Nat.le_refl _
  · have ea : ∀ o, o < S → aN F' L' o = aN F L o := fun o ho => by unfold aN; rw [(hFL o ho).1, (hFL o ho).2]
    rw [if_neg h2, if_neg h2, ea s hs, (hFL s hs).1]
    refine smm_le2 _ _ (fun w _ _ => ?_)
    unfold ptN
    rw [hR, ea s hs]
    exact prt_mono2 (fun o ho hne => hc o ho hne _) ea S 0 _ _ (by omega) (Nat.le_refl _)
theorem osm_mono {f g : Nat → Nat} {b : Nat → Bool} {S : Nat} (h : ∀ s, s < S → b s = true → f s ≤ g s) : ∀ d i, i + d = S → osm f b d i ≤ osm g b d i := by
  intro d
  induction d with
  | zero => intro i _; exact Nat.le_refl _
  | succ d ih =>
    intro i hi
    rw [osm, osm]
    refine Nat.add_le_add ?_ (ih (i + 1) (by omega))
    by_cases q : b i = true
    · rw [if_pos q, if_pos q]; exact h i (by omega) q
    · rw [if_neg q, if_neg q]; exact Nat.le_refl _
theorem osm_od_cg {l S : Nat} {F L R F' L' R' : Nat → Int} {b : Nat → Bool} (h : ∀ o, o < S → F' o = F o ∧ L' o = L o ∧ R' o = R o) : osm (odN l F' L' R' S) b S 0 = osm (odN l F L R S) b S 0 := by
  have e : ∀ o s t, o < S → cN l F' L' R' o s t = cN l F L R o s t := fun o s t ho => by unfold cN; rw [(h o ho).1, (h o ho).2.1, (h o ho).2.2]
  refine Nat.le_antisymm (osm_mono (S := S) (fun s hs _ => ?_) S 0 (by omega)) (osm_mono (S := S) (fun s hs _ => ?_) S 0 (by omega))
  · exact odN_mono hs (fun o ho => ⟨(h o ho).1, (h o ho).2.1⟩) (h s hs).2.2 (fun o ho _ t => Nat.le_of_eq (e o s t ho))
  · exact odN_mono hs (fun o ho => ⟨(h o ho).1.symm, (h o ho).2.1.symm⟩) (h s hs).2.2.symm (fun o ho _ t => Nat.le_of_eq (e o s t ho).symm)
def Rf (v : Nat → Nat → Nat) (h M n o : Nat) : Int := if ¬ v 3 o = h ∧ v 6 o < n then (M : Int) else 1000000
def Fq (σ : St) (o : Nat) : Int := (σ.1 5 o - σ.1 8 o - σ.1 6 o).toInt
def Lq (σ : St) (o : Nat) : Int := (σ.1 5 o - σ.1 8 o + σ.1 6 o).toInt
def oMn (l S : Nat) (v : Nat → Nat → Nat) (σ : St) (h M n : Nat) : Nat := osm (odN l (Fq σ) (Lq σ) (Rf v h M n) S) (btv (1 <<< (nI h &&& 31)) v) S 0
def nf (σ σ' : St) : Prop := (∀ k, k ≠ 0 → σ'.1 k = σ.1 k) ∧ (∀ j, j ≠ 10 → j ≠ 11 → j ≠ 12 → σ'.1 0 j = σ.1 0 j) ∧ σ'.2 = σ.2
theorem nf.set {σ σ' : St} (h : nf σ σ') (x y z : Int32) : nf σ (sI (sI (sI σ' 0 12 x) 0 10 y) 0 11 z) := by
  refine ⟨fun k hk => by rw [sR_ne _ _ hk, sR_ne _ _ hk, sR_ne _ _ hk]; exact h.1 k hk, fun j h1 h2 h3 => ?_, h.2.2⟩
  rw [sR_at, sR_at, sR_at, pk_un h2, pk_un h1, pk_un h3]; exact h.2.1 j h1 h2 h3
/-- a state of the class that can carry the trial noise -/
def cb (S : Nat) (σc σm s : St) : Prop := (∀ k, k < 60 ∨ 70 < k → s.1 k = σc.1 k) ∧ (∀ t, t < S → s.1 67 t = σm.1 8 t) ∧ s.1 66 5 = σm.1 0 13
theorem nz2 {H S h l M n : Nat} {v : Nat → Nat → Nat} {σc σm σ s : St} (B : VB H S v) (C : VC H S v σc) (Mv : VM H S v σm) (N : NR H S 20 σc σm) (hh : h < H) (el : σm.1 0 13 = nI l) (hl : l ≤ 2) (hM : M ≤ 700) (hn : n ≤ 9) (hf : nf σm σ) (hb : cb S σc σm s) : ∃ s', f_X1_makeNoise 66 (nI h) (nI M) (nI n) s = some s' ∧ cb S σc σm s' ∧ s'.1 60 = s.1 60 ∧ f_X1_oddsOfHouses 66 (1 <<< (nI h &&& 31)) s' = some (nI (oMn l S v σm h M n), s') ∧ f_X8_setNoise (nI h) (nI M) (nI n) σ = some (sI (sI (sI σ 0 12 (nI h)) 0 10 (nI M)) 0 11 (nI n)) ∧ f_X8_oddsOfHouses (1 <<< (nI h &&& 31)) (sI (sI (sI σ 0 12 (nI h)) 0 10 (nI M)) 0 11 (nI n)) = some (nI (oMn l S v σm h M n), sI (sI (sI σ 0 12 (nI h)) 0 10 (nI M)) 0 11 (nI n)) ∧ oMn l S v σm h M n ≤ 1000000000 := by
  have h8 := B.2.1
  have hH := B.1
  have C1 : VC H S v s := C.cg (fun k _ _ => hb.1 k (by omega))
  obtain ⟨s', m1, LL⟩ := mkN (a := 66) (by omega) h8 C1.2.1 (nI h) (nI M) (nI n)
  have g : ∀ k, k ≠ 66 → k ≠ 68 → k ≠ 69 → k ≠ 70 → s'.1 k = s.1 k := fun k k1 k2 k3 k4 => by rw [LL.1 k k2 k3 k4, sR_ne _ _ k1, sR_ne _ _ k1, sR_ne _ _ k1]
  have g66 : s'.1 66 = upd (upd (upd (s.1 66) 2 (nI h)) 3 (nI M)) 4 (nI n) := by rw [LL.1 66 (by omega) (by omega) (by omega), sR_at, sR_at, sR_at]
  have hb' : cb S σc σm s' := ⟨fun k hk => by rw [g k (by omega) (by omega) (by omega) (by omega)]; exact hb.1 k hk, fun t ht => by rw [g 67 (by omega) (by omega) (by omega) (by omega)]; exact hb.2.1 t ht, by rw [g66]; exact hb.2.2⟩
  have C' : VC H S v s' := C.cg (fun k _ _ => hb'.1 k (by omega))
  have hf' := hf.set (nI h) (nI M) (nI n)
  generalize hσ' : sI (sI (sI σ 0 12 (nI h)) 0 10 (nI M)) 0 11 (nI n) = σ' at hf' ⊢
  have M' : VM H S v σ' := Mv.cg (hf'.2.1 0 (by omega) (by omega) (by omega)) (hf'.2.1 4 (by omega) (by omega) (by omega)) (fun k _ _ => hf'.1 k (by omega))
  have q12 : σ'.1 0 12 = nI h := by rw [← hσ']; rfl
  have q10 : σ'.1 0 10 = nI M := by rw [← hσ']; rfl
  have q11 : σ'.1 0 11 = nI n := by rw [← hσ']; rfl
  have q13 : σ'.1 0 13 = σm.1 0 13 := hf'.2.1 13 (by omega) (by omega) (by omega)
  have N' : NR H S 66 s' σ' := by
    refine ⟨fun t ht => ?_, ?_, ?_, LL.laid (by omega)⟩
    · rw [hf'.1 8 (by omega)]; exact ⟨hb'.2.1 t ht, (N.1 t ht).2⟩
    · rw [q12, q10, q11, g66]; exact ⟨rfl, rfl, rfl, Or.inr ⟨h, M, n, hh, hM, hn, rfl, rfl, rfl⟩⟩
    · rw [q13]; exact ⟨hb'.2.2, N.2.2.1.2⟩
  have od := oh2 B C' M' N' (by rw [q13]; exact el) hl (1 <<< (nI h &&& 31))
  obtain ⟨nb, hk⟩ := nr_nb B C' M' N'
  have hall : ∀ o, o < S → fI 66 s' o = Fq σm o ∧ lI 66 s' o = Lq σm o ∧ rI 66 s' o = Rf v h M n o := by
    intro o ho
    obtain ⟨sh, -, -, f3, f4, -, -⟩ := fl_eq B C' M' N' ho
    have hv := B.2.2.2 o ho
    have mo := M'.2.2.2 o ho
    refine ⟨?_, ?_, ?_⟩
    · show (s'.1 68 o).toInt = _
      rw [f3, hf'.1 5 (by omega), hf'.1 8 (by omega), hf'.1 6 (by omega)]; rfl
    · show (s'.1 69 o).toInt = _
      rw [f4, hf'.1 5 (by omega), hf'.1 8 (by omega), hf'.1 6 (by omega)]; rfl
    · have hs : stl σ' o ↔ (¬ v 3 o = h ∧ v 6 o < n) := by
        unfold stl
        rw [q10, q11, q12, mo.1, mo.2.2.2, nI_leI (by omega) (by omega), nI_eq (by omega) (by omega)]
        constructor
        · rintro ⟨-, a2, a3⟩; exact ⟨a3, by omega⟩
        · rintro ⟨a2, a3⟩; exact ⟨nI_pos (by omega), by omega, a2⟩
      unfold Rf
      rcases (hk o ho).2 with ⟨a1, a2⟩ | ⟨a1, a2⟩
      · rw [if_pos (hs.mp a1), a2, q10, nI_toInt (by omega)]
      · rw [if_neg (fun z => a1 (hs.mpr z)), a2]
  have eo : ohN l 66 s' S v (1 <<< (nI h &&& 31)) = oMn l S v σm h M n := osm_od_cg hall
  rw [eo] at od
  refine ⟨s', m1, hb', g 60 (by omega) (by omega) (by omega) (by omega), od.1, by rw [setN, hσ'], od.2, ?_⟩
  rw [← eo]
  exact osm_b nb h8 _
theorem btv_h {h k : Nat} (hh : h < 5) (hk : k < 5) (v : Nat → Nat → Nat) (s : Nat) (e : v 3 s = k) (hb : btv (1 <<< (nI h &&& 31)) v s = true) : k = h := by
  unfold btv at hb
  rw [e] at hb
  rcases (show h = 0 ∨ h = 1 ∨ h = 2 ∨ h = 3 ∨ h = 4 by omega) with rfl | rfl | rfl | rfl | rfl <;>
  rcases (show k = 0 ∨ k = 1 ∨ k = 2 ∨ k = 3 ∨ k = 4 by omega) with rfl | rfl | rfl | rfl | rfl <;>
  first
  | rfl
  | exact absurd hb (by decide)
theorem cGe_mR {F L R R' y : Int} (h : F ≤ L) (hR : R' ≤ R) : cGe F L R' y ≤ cGe F L R y := by
  by_cases h1 : R' < y
  · have := (cGe_b (R := R) (y := y) h).1
    unfold cGe at this ⊢
    rw [if_pos h1]; exact this
  · unfold cGe
    rw [if_neg h1, if_neg (show ¬ R < y by omega)]; exact Int.le_refl _
theorem cLe_mR {F L R R' y : Int} (h : F ≤ L) (hR : R ≤ R') : cLe F L R' y ≤ cLe F L R y := by
  by_cases h1 : R ≤ y
  · have := (cLe_b (R := R') (y := y) h).2
    unfold cLe at this ⊢
    rw [if_pos h1]; exact this
  · unfold cLe
    rw [if_neg h1, if_neg (show ¬ R' ≤ y by omega)]; exact Int.le_refl _
/-- no later minute is better than minute 60 -/
theorem oMn_le {H S h l M n : Nat} {v : Nat → Nat → Nat} {σ : St} (B : VB H S v) (hF : ∀ o, o < S → Fq σ o ≤ Lq σ o) (hh : h < H) (hl : l ≤ 2) (hM : 60 ≤ M) (hM2 : M ≤ 700) (hn : n ≤ 9) : ∃ k, k ≤ 9 ∧ oMn l S v σ h M n ≤ oMn l S v σ h 60 k := by
  have hH := B.1
  have hin : ∀ s, s < S → btv (1 <<< (nI h &&& 31)) v s = true → ∀ M n, Rf v h M n s = 1000000 := fun s hs hb M n => by
    unfold Rf
    have hv := (B.2.2.2 s hs).1
    have : v 3 s = h := btv_h (by omega) (by omega) v s rfl hb
    rw [if_neg (fun q => q.1 this)]
  by_cases h0 : l = 0
  · refine ⟨0, by omega, osm_mono (S := S) (fun s hs hb => ?_) S 0 (by omega)⟩
    refine odN_mono hs (fun o ho => ⟨rfl, rfl⟩) (by rw [hin s hs hb, hin s hs hb]) (fun o ho _ t => ?_)
    unfold cN
    rw [if_pos h0, if_pos h0]
    refine Int.toNat_le_toNat (cGe_mR (hF o ho) ?_)
    unfold Rf
    rw [if_neg (show ¬ (¬ v 3 o = h ∧ v 6 o < 0) by omega)]
    split <;> omega
  · refine ⟨n, hn, osm_mono (S := S) (fun s hs hb => ?_) S 0 (by omega)⟩
    refine odN_mono hs (fun o ho => ⟨rfl, rfl⟩) (by rw [hin s hs hb, hin s hs hb]) (fun o ho _ t => ?_)
    unfold cN
    rw [if_neg h0, if_neg h0]
    refine Int.toNat_le_toNat (cLe_mR (hF o ho) ?_)
    unfold Rf
    split <;> omega
def bix (f : Nat → Nat) : Nat → Nat
  | 0 => 0
  | k + 1 => if f (k + 1) ≤ f (bix f k) then bix f k else k + 1
theorem bix_le (f : Nat → Nat) : ∀ k, bix f k ≤ k := by
  intro k
  induction k with
  | zero => exact Nat.le_refl _
  | succ k ih => rw [bix]; split <;> omega
theorem bix_mx (f : Nat → Nat) : ∀ k j, j ≤ k → f j ≤ f (bix f k) := by
  intro k
  induction k with
  | zero => intro j hj; rw [show j = 0 by omega]; exact Nat.le_refl _
  | succ k ih =>
    intro j hj
    rw [bix]
    by_cases q : f (k + 1) ≤ f (bix f k)
    · rw [if_pos q]
      by_cases e : j = k + 1
      · subst e; exact q
      · exact ih j (by omega)
    · rw [if_neg q]
      by_cases e : j = k + 1
      · subst e; exact Nat.le_refl _
      · have := ih j (by omega); omega
/-- the class's search -/
theorem seekN {H S h l : Nat} {v : Nat → Nat → Nat} {σc σm : St} (B : VB H S v) (C : VC H S v σc) (Mv : VM H S v σm) (N : NR H S 20 σc σm) (hh : h < H) (el : σm.1 0 13 = nI l) (hl : l ≤ 2) : ∃ σ', f_X2_seekNoise (nI h) σc = some σ' ∧ (∀ k, k < 60 ∨ 70 < k → σ'.1 k = σc.1 k) ∧ σ'.1 60 5 = nI (bix (oMn l S v σm h 60) 9) ∧ σ'.1 60 6 = nI (oMn l S v σm h 60 (bix (oMn l S v σm h 60) 9)) := by
  have h8 := B.2.1
  unfold f_X2_seekNoise f_X2_seekNoise_10
  obtain ⟨σ1, c0, c1, c2, c3, c4, c5, c6, c7, c8⟩ := ncp (a := 66) (b := 20) (σ := σc) (by omega) (by omega) h8 C.2.1 (by omega)
  rw [c0, bv_s]
  refine lp_e (fun d q => ∃ (n : Nat) (s : St), n + d = 10 ∧ q = (nI h, nI n, s) ∧ cb S σc σm s ∧ (n = 0 ∨ ∃ k, n = k + 1 ∧ s.1 60 5 = nI (bix (oMn l S v σm h 60) k) ∧ s.1 60 6 = nI (oMn l S v σm h 60 (bix (oMn l S v σm h 60) k)))) (fun _ (o : St) => (∀ k, k < 60 ∨ 70 < k → o.1 k = σc.1 k) ∧ o.1 60 5 = nI (bix (oMn l S v σm h 60) 9) ∧ o.1 60 6 = nI (oMn l S v σm h 60 (bix (oMn l S v σm h 60) 9))) ?_ 100000 10 _ (by omega) ⟨0, σ1, by omega, rfl, ⟨fun k hk => c1 k (by omega), fun t ht => by rw [c3 t (by omega)]; exact (N.1 t ht).1, by rw [c7]; exact N.2.2.1.1⟩, Or.inl rfl⟩
  rintro d rec _ ⟨n, s, hd, rfl, hb, hk⟩ ih
  show ∃ o, b_X2_seekNoise_10 rec (nI h) (nI n) s = some o ∧ _
  unfold b_X2_seekNoise_10
  rw [show (9 : Int32) = nI 9 from rfl]
  cases d with
  | zero =>
    have : n = 10 := by omega
    subst this
    rw [if_pos (nI_lt (by omega) (by omega))]
    rcases hk with hk | ⟨k, k1, k2, k3⟩
    · omega
    · have : k = 9 := by omega
      subst this
      exact ⟨_, rfl, hb.1, k2, k3⟩
  | succ d =>
    rw [if_neg (nI_nlt (by omega) (by omega))]
    obtain ⟨s', a1, a2, a3, a4, -, -, a7⟩ := nz2 (σ := σm) (M := 60) (n := n) B C Mv N hh el hl (by omega) (by omega) ⟨fun _ _ => rfl, fun _ _ _ _ => rfl, rfl⟩ hb
    rw [show (60 : Int32) = nI 60 from rfl, a1, bv_s, a4, bd_s]
    unfold f_X2_seekNoise_52 f_X2_seekNoise_63
    rw [nm_d, nm_d, nI_1]
    have hset : ∀ (i : Nat), cb S σc σm (sI (sI s' 60 5 (nI n)) 60 6 (nI i)) := fun i => by
      refine ⟨fun k hk => by rw [sR_ne _ _ (by omega), sR_ne _ _ (by omega)]; exact a2.1 k hk, fun t ht => ?_, ?_⟩
      · rw [sR_ne _ _ (by omega), sR_ne _ _ (by omega)]; exact a2.2.1 t ht
      · rw [sR_ne _ _ (by omega), sR_ne _ _ (by omega)]; exact a2.2.2
    rcases hk with hk | ⟨k, k1, k2, k3⟩
    · subst hk
      rw [if_pos (show nI 0 = 0 from rfl)]
      exact ih d _ (by omega) ⟨1, _, by omega, rfl, hset _, Or.inr ⟨0, rfl, rfl, rfl⟩⟩
    · subst k1
      have hbk := bix_le (oMn l S v σm h 60) k
      obtain ⟨_, -, -, -, -, -, -, a8⟩ := nz2 (σ := σm) (M := 60) (n := bix (oMn l S v σm h 60) k) B C Mv N hh el hl (by omega) (by omega) ⟨fun _ _ => rfl, fun _ _ _ _ => rfl, rfl⟩ hb
      rw [if_neg (show ¬ nI (k + 1) = 0 from nI_ne0 (by omega) (by omega)), a3, k3]
      by_cases q : oMn l S v σm h 60 (k + 1) ≤ oMn l S v σm h 60 (bix (oMn l S v σm h 60) k)
      · rw [if_pos (nI_le q (by omega))]
        exact ih d _ (by omega) ⟨k + 1 + 1, s', by omega, rfl, a2, Or.inr ⟨k + 1, rfl, by rw [a3, bix, if_pos q]; exact k2, by rw [a3, bix, if_pos q]; exact k3⟩⟩
      · rw [if_neg (nI_ge (by omega) (by omega))]
        exact ih d _ (by omega) ⟨k + 1 + 1, _, by omega, rfl, hset _, Or.inr ⟨k + 1, rfl, by rw [bix, if_neg q]; rfl, by rw [bix, if_neg q]; rfl⟩⟩
/-- the reference's search at minute 60 -/
theorem in60 {H S h l : Nat} {v : Nat → Nat → Nat} {σc σm σ s0 : St} (B : VB H S v) (C : VC H S v σc) (Mv : VM H S v σm) (N : NR H S 20 σc σm) (hh : h < H) (el : σm.1 0 13 = nI l) (hl : l ≤ 2) (hb : cb S σc σm s0) (hf : nf σm σ) (rec53 : Int32 × Int32 × Int32 × Int32 × Int32 × Int32 × Int32 × Int32 × St → Option (Int32 × St)) (x2 x3 x4 x5 : Int32) : ∃ σ', f_X8_loud_64 rec53 (nI h) x2 x3 x4 x5 (-1) 0 (nI 60) 0 σ = rec53 (nI h, x2, x3, x4, x5, nI (600 + bix (oMn l S v σm h 60) 9), nI (oMn l S v σm h 60 (bix (oMn l S v σm h 60) 9)), nI 70, σ') ∧ nf σm σ' := by
  unfold f_X8_loud_64
  refine lp_x (fun d q => ∃ (n : Nat) (x6 x7 : Int32) (s : St), n + d = 10 ∧ q = (nI h, x2, x3, x4, x5, x6, x7, nI 60, nI n, s) ∧ nf σm s ∧ ((n = 0 ∧ x6 = -1) ∨ ∃ k, n = k + 1 ∧ x6 = nI (600 + bix (oMn l S v σm h 60) k) ∧ x7 = nI (oMn l S v σm h 60 (bix (oMn l S v σm h 60) k)))) (fun (σ' : St) => rec53 (nI h, x2, x3, x4, x5, nI (600 + bix (oMn l S v σm h 60) 9), nI (oMn l S v σm h 60 (bix (oMn l S v σm h 60) 9)), nI 70, σ')) (fun σ' => nf σm σ') ?_ 100000 10 _ (by omega) ⟨0, -1, 0, σ, by omega, rfl, hf, Or.inl ⟨rfl, rfl⟩⟩
  rintro d rec _ ⟨n, x6, x7, s, hd, rfl, hs, hk⟩ ih
  show ∃ z, b_X8_loud_64 rec53 rec (nI h) x2 x3 x4 x5 x6 x7 (nI 60) (nI n) s = _ ∧ _
  unfold b_X8_loud_64
  rw [show (10 : Int32) = nI 10 from rfl]
  cases d with
  | zero =>
    have : n = 10 := by omega
    subst this
    rw [if_pos (nI_le (by omega) (by omega)), nI_add]
    rcases hk with hk | ⟨k, k1, k2, k3⟩
    · omega
    · have : k = 9 := by omega
      subst this; subst k2; subst k3
      exact ⟨s, rfl, hs⟩
  | succ d =>
    rw [if_neg (nI_ge (by omega) (by omega))]
    obtain ⟨-, -, -, -, -, a5, a6, a7⟩ := nz2 (M := 60) (n := n) B C Mv N hh el hl (by omega) (by omega) hs hb
    rw [a5, bv_s, a6, bd_s]
    unfold f_X8_loud_101 f_X8_loud_106 f_X8_loud_126 f_X8_loud_140
    simp only [if_neg i10, nI_1, if_true]
    have e10 : (10 * nI 60 + nI n : Int32) = nI (600 + n) := by rw [show (10 : Int32) = nI 10 from rfl, pk_mul, nI_add]
    rcases hk with ⟨hk, hx⟩ | ⟨k, k1, k2, k3⟩
    · subst hk; subst hx
      rw [if_pos m1_lt0, e10]
      exact ih d _ (by omega) ⟨1, _, _, _, by omega, rfl, hs.set _ _ _, Or.inr ⟨0, rfl, rfl, rfl⟩⟩
    · subst k1; subst k2; subst k3
      have hbk := bix_le (oMn l S v σm h 60) k
      obtain ⟨_, -, -, -, -, -, -, a8⟩ := nz2 (σ := σm) (M := 60) (n := bix (oMn l S v σm h 60) k) B C Mv N hh el hl (by omega) (by omega) ⟨fun _ _ => rfl, fun _ _ _ _ => rfl, rfl⟩ hb
      rw [if_neg (nI_pos (by omega)), e10]
      by_cases q : oMn l S v σm h 60 (k + 1) ≤ oMn l S v σm h 60 (bix (oMn l S v σm h 60) k)
      · rw [if_pos (nI_le q (by omega))]
        exact ih d _ (by omega) ⟨k + 1 + 1, _, _, _, by omega, rfl, hs.set _ _ _, Or.inr ⟨k + 1, rfl, by rw [bix, if_pos q], by rw [bix, if_pos q]⟩⟩
      · rw [if_neg (nI_ge (by omega) (by omega))]
        exact ih d _ (by omega) ⟨k + 1 + 1, _, _, _, by omega, rfl, hs.set _ _ _, Or.inr ⟨k + 1, rfl, by rw [bix, if_neg q], by rw [bix, if_neg q]⟩⟩
/-- later minutes change nothing -/
theorem inLate {H S h l M : Nat} {v : Nat → Nat → Nat} {σc σm σ s0 : St} (B : VB H S v) (C : VC H S v σc) (Mv : VM H S v σm) (N : NR H S 20 σc σm) (hh : h < H) (el : σm.1 0 13 = nI l) (hl : l ≤ 2) (hb : cb S σc σm s0) (hf : nf σm σ) (hM : 60 ≤ M) (hM2 : M ≤ 600) (rec53 : Int32 × Int32 × Int32 × Int32 × Int32 × Int32 × Int32 × Int32 × St → Option (Int32 × St)) (x2 x3 x4 x5 : Int32) (p b : Nat) (hp : p < 2 ^ 31) (hb2 : b ≤ 1000000000) (hmx : ∀ n, n ≤ 9 → oMn l S v σm h M n ≤ b) : ∃ σ', f_X8_loud_64 rec53 (nI h) x2 x3 x4 x5 (nI p) (nI b) (nI M) 0 σ = rec53 (nI h, x2, x3, x4, x5, nI p, nI b, nI (M + 10), σ') ∧ nf σm σ' := by
  unfold f_X8_loud_64
  refine lp_x (fun d q => ∃ (n : Nat) (s : St), n + d = 10 ∧ q = (nI h, x2, x3, x4, x5, nI p, nI b, nI M, nI n, s) ∧ nf σm s) (fun (σ' : St) => rec53 (nI h, x2, x3, x4, x5, nI p, nI b, nI (M + 10), σ')) (fun σ' => nf σm σ') ?_ 100000 10 _ (by omega) ⟨0, σ, by omega, rfl, hf⟩
  rintro d rec _ ⟨n, s, hd, rfl, hs⟩ ih
  show ∃ z, b_X8_loud_64 rec53 rec (nI h) x2 x3 x4 x5 (nI p) (nI b) (nI M) (nI n) s = _ ∧ _
  unfold b_X8_loud_64
  rw [show (10 : Int32) = nI 10 from rfl]
  cases d with
  | zero =>
    have : n = 10 := by omega
    subst this
    rw [if_pos (nI_le (by omega) (by omega)), nI_add]
    exact ⟨s, rfl, hs⟩
  | succ d =>
    rw [if_neg (nI_ge (by omega) (by omega))]
    obtain ⟨-, -, -, -, -, a5, a6, a7⟩ := nz2 (M := M) (n := n) B C Mv N hh el hl (by omega) (by omega) hs hb
    rw [a5, bv_s, a6, bd_s]
    unfold f_X8_loud_106 f_X8_loud_126 f_X8_loud_140
    simp only [nI_1, if_true]
    rw [if_neg (nI_pos hp), if_pos (nI_le (hmx n (by omega)) (by omega))]
    exact ih d _ (by omega) ⟨n + 1, _, by omega, rfl, hs.set _ _ _⟩
theorem ok_loud {σc σm : St} (I : Inv σc σm) (x1 x2 : Int32) : ∃ (r : Int32) (σc1 σm1 : St), f_X7_loud x1 x2 σc = some (r, σc1) ∧ f_X8_loud x1 x2 σm = some (r, σm1) ∧ Inv σc1 σm1 := by
  obtain ⟨H, S, v, hI⟩ := id I
  obtain ⟨B, C, M, R, ld, T, F, W, J⟩ := id hI
  obtain ⟨l, -, hl, el⟩ := R.2.2.2.1.2
  have hH := B.1
  unfold f_X7_loud f_X8_loud
  rcases ix3 x1 (n := H) (by omega) with h | ⟨h, hh, rfl⟩
  · rw [hasH_no C.1 h, isH_no (by omega) M.1 h]
    exact ⟨_, σc, σm, rfl, rfl, I⟩
  rw [hasH_yes (by omega) C.1 hh, isH_yes (by omega) M.1 hh]
  simp only [bd_s, if_neg i10]
  by_cases h1 : x2 < 0
  · rw [in_0 (a := 0) (b := 2) (by decide) (by decide) σm (fun q => Int32.not_le.mpr h1 q.1)]
    simp only [if_pos h1, bd_s, if_true]
    exact ⟨_, σc, σm, rfl, rfl, I⟩
  by_cases h2 : x2 ≤ 2
  · rw [in_1 (a := 0) (b := 2) (by decide) (by decide) σm ⟨Int32.not_lt.mp h1, h2⟩]
    simp only [if_neg h1, if_pos h2, bd_s, if_neg i10, nm_d]
    obtain ⟨σ1, c0, c1, c2, c3, c4, c5, c6, c7, c8⟩ := ncp (a := 66) (b := 20) (σ := σc) (by omega) (by omega) B.2.1 C.2.1 (by omega)
    have N := hI.nr
    have hb : cb S σc σm σ1 := ⟨fun k hk => c1 k (by omega), fun t ht => by rw [c3 t (by have := B.2.1; omega)]; exact (N.1 t ht).1, by rw [c7]; exact N.2.2.1.1⟩
    have hF : ∀ o, o < S → Fq σm o ≤ Lq σm o := fun o ho => by
      obtain ⟨sh, -, -, f3, f4, f5, f6⟩ := fl_eq B C M N ho
      unfold Fq Lq
      rw [← f3, ← f4, f5, f6]; omega
    obtain ⟨σ', k1, k2, k3, k4⟩ := seekN B C M N hh el hl
    have hbk := bix_le (oMn l S v σm h 60) 9
    obtain ⟨_, -, -, -, -, -, -, a8⟩ := nz2 (σ := σm) (M := 60) (n := bix (oMn l S v σm h 60) 9) B C M N hh el hl (by omega) (by omega) ⟨fun _ _ => rfl, fun _ _ _ _ => rfl, rfl⟩ hb
    generalize hbi : bix (oMn l S v σm h 60) 9 = bi at k3 k4 hbk a8
    -- the reference
    have ref : ∃ σ'', f_X8_loud_53 (nI h) x2 (σm.1 0 12) (σm.1 0 10) (σm.1 0 11) (-1) 0 60 σm = some (if x2 = 0 then nI 60 else if x2 = 1 then nI bi else nI (oMn l S v σm h 60 bi), σ'') ∧ nf σm σ'' ∧ σ''.1 0 10 = σm.1 0 10 ∧ σ''.1 0 11 = σm.1 0 11 ∧ σ''.1 0 12 = σm.1 0 12 := by
      unfold f_X8_loud_53
      refine lp_x (fun d q => ∃ (j : Nat) (x6 x7 : Int32) (s : St), j + d = 55 ∧ q = (nI h, x2, σm.1 0 12, σm.1 0 10, σm.1 0 11, x6, x7, nI (60 + 10 * j), s) ∧ nf σm s ∧ ((j = 0 ∧ x6 = -1 ∧ x7 = 0) ∨ (0 < j ∧ x6 = nI (600 + bi) ∧ x7 = nI (oMn l S v σm h 60 bi)))) (fun (σ'' : St) => some (if x2 = 0 then nI 60 else if x2 = 1 then nI bi else nI (oMn l S v σm h 60 bi), σ'')) (fun (σ'' : St) => nf σm σ'' ∧ σ''.1 0 10 = σm.1 0 10 ∧ σ''.1 0 11 = σm.1 0 11 ∧ σ''.1 0 12 = σm.1 0 12) ?_ 100000 55 _ (by omega) ⟨0, -1, 0, σm, by omega, rfl, ⟨fun _ _ => rfl, fun _ _ _ _ => rfl, rfl⟩, Or.inl ⟨rfl, rfl, rfl⟩⟩
      rintro d rec _ ⟨j, x6, x7, s, hd, rfl, hs, hk⟩ ih
      show ∃ z, b_X8_loud_53 rec (nI h) x2 (σm.1 0 12) (σm.1 0 10) (σm.1 0 11) x6 x7 (nI (60 + 10 * j)) s = _ ∧ _
      unfold b_X8_loud_53
      rw [show (600 : Int32) = nI 600 from rfl]
      cases d with
      | zero =>
        rw [if_pos (nI_lt (by omega) (by omega)), setN, bv_s]
        obtain ⟨-, hx6, hx7⟩ := hk.resolve_left (fun q => by omega)
        subst hx6; subst hx7
        rw [show (10 : Int32) = nI 10 from rfl, pk_div (by omega) (by omega) (by omega), show (600 + bi) / 10 = 60 by omega, pk_mul, pk_sub (by omega), show 600 + bi - 60 * 10 = bi by omega]
        refine ⟨_, ?_, hs.set _ _ _, rfl, rfl, rfl⟩
        by_cases q0 : x2 = 0
        · rw [if_pos q0, if_pos q0]
        · rw [if_neg q0, if_neg q0]
          by_cases q1 : x2 = 1
          · rw [if_pos q1, if_pos q1]
          · rw [if_neg q1, if_neg q1]
      | succ d =>
        rw [if_neg (nI_nlt (by omega) (by omega))]
        rcases hk with ⟨q0, q1, q2⟩ | ⟨q0, q1, q2⟩
        · subst q0; subst q1; subst q2
          obtain ⟨s', t1, t2⟩ := in60 B C M N hh el hl hb hs rec x2 (σm.1 0 12) (σm.1 0 10) (σm.1 0 11)
          rw [hbi] at t1
          rw [show 60 + 10 * 0 = 60 by omega, t1]
          exact ih d _ (by omega) ⟨1, _, _, s', by omega, rfl, t2, Or.inr ⟨by omega, rfl, rfl⟩⟩
        · subst q1; subst q2
          obtain ⟨s', t1, t2⟩ := inLate (M := 60 + 10 * j) B C M N hh el hl hb hs (by omega) (by omega) rec x2 (σm.1 0 12) (σm.1 0 10) (σm.1 0 11) (600 + bi) (oMn l S v σm h 60 bi) (by omega) a8 (fun n hn => by
            obtain ⟨k, kk1, kk2⟩ := oMn_le (M := 60 + 10 * j) B hF hh hl (by omega) (by omega) hn
            have := bix_mx (oMn l S v σm h 60) 9 k kk1
            rw [hbi] at this
            omega)
          rw [t1]
          exact ih d _ (by omega) ⟨j + 1, _, _, s', by omega, rfl, t2, Or.inr ⟨by omega, rfl, rfl⟩⟩
    obtain ⟨σ'', r1, r2, r3, r4, r5⟩ := ref
    have I2 : ∀ σ0, (∀ k, k < 60 ∨ 70 < k → σ0.1 k = σc.1 k) → Inv σ0 σ'' := fun σ0 h0 => ⟨H, S, v, hI.cg (fun k hk => h0 k (by omega)) (fun k hk => r2.1 k (by omega)) (fun j hj => by
      by_cases q1 : j = 10
      · rw [q1]; exact r3
      by_cases q2 : j = 11
      · rw [q2]; exact r4
      by_cases q3 : j = 12
      · rw [q3]; exact r5
      exact r2.2.1 j q1 q2 q3)⟩
    rw [r1]
    by_cases q0 : x2 = 0
    · rw [if_pos q0, if_pos q0]
      exact ⟨_, _, _, rfl, rfl, I2 σc (fun _ _ => rfl)⟩
    · rw [if_neg q0, if_neg q0, k1, bv_s]
      by_cases q1 : x2 = 1
      · rw [if_pos q1, if_pos q1]
        exact ⟨_, _, _, rfl, by rw [k3], I2 σ' k2⟩
      · rw [if_neg q1, if_neg q1]
        exact ⟨_, _, _, rfl, by rw [k4], I2 σ' k2⟩
  · rw [in_0 (a := 0) (b := 2) (by decide) (by decide) σm (fun q => h2 q.2)]
    simp only [if_neg h1, if_neg h2, bd_s, if_true]
    exact ⟨_, σc, σm, rfl, rfl, I⟩
