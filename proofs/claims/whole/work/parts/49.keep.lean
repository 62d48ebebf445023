/-! ===== pure: keep, goBack (own work) ===== -/
def st8 (o : Nat) (t : St) : St := sR t 27 (upd (upd (upd (upd (upd (upd (upd (upd (t.1 27) (o + 18) (t.1 0 10)) (o + 19) (t.1 0 11)) (o + 20) (t.1 0 12)) (o + 21) (t.1 0 13)) (o + 22) (t.1 0 14)) (o + 23) (t.1 0 17)) (o + 24) (t.1 0 18)) (o + 25) (t.1 0 21))
theorem sIsI (t : St) (k : Nat) (f : Nat → Int32) (j : Nat) (x : Int32) : sI (sR t k f) k j x = sR t k (upd f j x) := by
  refine Prod.ext ?_ rfl
  funext i
  by_cases q : i = k
  · subst q; rw [sR_at, sR_at, sR_at]
  · rw [sR_ne _ _ q, sR_ne _ _ q, sR_ne _ _ q]
theorem kp49 {o : Nat} (ho : o ≤ 430) (x1 : Int32) (t0 : St) : ∃ t, f_X8_keep_49 x1 (nI o) 0 t0 = f_X8_keep_200 x1 (nI o) 0 (st8 o t) ∧ (∀ k, k ≠ 27 → t.1 k = t0.1 k) ∧ (∀ j, j < o + 8 ∨ o + 18 ≤ j → t.1 27 j = t0.1 27 j) ∧ ∀ j, j < 5 → t.1 27 (o + 8 + j) = t0.1 9 j ∧ t.1 27 (o + 13 + j) = t0.1 10 j := by
  unfold f_X8_keep_49
  refine lp_x (fun d q => ∃ i t, i + d = 5 ∧ q = (x1, nI o, nI i, t) ∧ (∀ k, k ≠ 27 → t.1 k = t0.1 k) ∧ (∀ j, j < o + 8 ∨ o + 18 ≤ j → t.1 27 j = t0.1 27 j) ∧ ∀ j, j < i → t.1 27 (o + 8 + j) = t0.1 9 j ∧ t.1 27 (o + 13 + j) = t0.1 10 j) (fun t => f_X8_keep_200 x1 (nI o) 0 (st8 o t)) (fun t => (∀ k, k ≠ 27 → t.1 k = t0.1 k) ∧ (∀ j, j < o + 8 ∨ o + 18 ≤ j → t.1 27 j = t0.1 27 j) ∧ ∀ j, j < 5 → t.1 27 (o + 8 + j) = t0.1 9 j ∧ t.1 27 (o + 13 + j) = t0.1 10 j) ?_ 100000 5 _ (by omega) ⟨0, t0, by omega, rfl, fun _ _ => rfl, fun _ _ => rfl, fun j hj => by omega⟩
  rintro d rec _ ⟨i, t, hi, rfl, p1, p2, p3⟩ ih
  show ∃ z, b_X8_keep_49 rec x1 (nI o) (nI i) t = _ ∧ _
  unfold b_X8_keep_49
  rw [show (5 : Int32) = nI 5 from rfl]
  cases d with
  | zero =>
    have : i = 5 := by omega
    subst this
    rw [if_pos (nI_le (by omega) (by omega))]
    have e : ∀ (f : Nat → Int32) (j : Nat), (sR t 27 f).1 0 j = t.1 0 j := fun f j => by rw [sR_ne _ _ (by omega)]
    refine ⟨t, ?_, p1, p2, p3⟩
    clear ih
    generalize f_X8_keep_200 x1 (nI o) 0 = G
    rw [show (18 : Int32) = nI 18 from rfl, show (19 : Int32) = nI 19 from rfl, show (20 : Int32) = nI 20 from rfl, show (21 : Int32) = nI 21 from rfl, show (22 : Int32) = nI 22 from rfl, show (23 : Int32) = nI 23 from rfl, show (24 : Int32) = nI 24 from rfl, show (25 : Int32) = nI 25 from rfl, nI_add, nI_add, nI_add, nI_add, nI_add, nI_add, nI_add, nI_add]
    rw [ck_n (by omega) (by omega), nm_d, nI_clamp (by omega), e, ck_n (by omega) (by omega), nm_d, nI_clamp (by omega), sIsI t, e, ck_n (by omega) (by omega), nm_d, nI_clamp (by omega), sIsI t, e, ck_n (by omega) (by omega), nm_d, nI_clamp (by omega), sIsI t, e, ck_n (by omega) (by omega), nm_d, nI_clamp (by omega), sIsI t, e, ck_n (by omega) (by omega), nm_d, nI_clamp (by omega), sIsI t, e, ck_n (by omega) (by omega), nm_d, nI_clamp (by omega), sIsI t, e, ck_n (by omega) (by omega), nm_d, nI_clamp (by omega), sIsI t]
    rfl
  | succ d =>
    rw [if_neg (nI_ge (by omega) (by omega)), show (8 : Int32) = nI 8 from rfl, show (13 : Int32) = nI 13 from rfl, nI_add, nI_add, nI_add, nI_add, rd_n (by omega) (by omega), ck_n (by omega) (by omega), nm_d, nI_clamp (by omega), rd_n (by omega) (by omega), ck_n (by omega) (by omega), nm_d, nI_clamp (by omega), nI_1, sR_ne _ _ (show 10 ≠ 27 by omega), p1 9 (by omega), p1 10 (by omega)]
    refine ih d _ (by omega) ⟨i + 1, _, by omega, rfl, fun k hk => by rw [sR_ne _ _ hk, sR_ne _ _ hk]; exact p1 k hk, fun j hj => ?_, fun j hj => ?_⟩
    · rw [sR_at, sR_at, pk_un (by omega), pk_un (by omega)]; exact p2 j hj
    · rw [sR_at, sR_at]
      by_cases z : j = i
      · subst z; rw [pk_un (by omega), pk_us, pk_us]; exact ⟨rfl, rfl⟩
      · rw [pk_un (by omega), pk_un (by omega), pk_un (by omega), pk_un (by omega)]; exact p3 j (by omega)
theorem keepAll {i : Nat} (hi : i < 2) (t0 : St) : ∃ t, f_X8_keep_21 (nI i) (nI (430 * i)) 0 t0 = some (1, t) ∧ (∀ k, k ≠ 27 → k ≠ 28 → t.1 k = t0.1 k) ∧ t.1 28 = upd (t0.1 28) i 1 ∧ (∀ j, j < 430 * i ∨ 430 * i + 430 ≤ j → t.1 27 j = t0.1 27 j) ∧ IMG (430 * i) (t.1 27) t0 := by
  generalize ho : 430 * i = o
  have ho2 : o ≤ 430 := by omega
  obtain ⟨t1, a1, a2, a3, a4⟩ := kp21 ho2 (nI i) t0
  obtain ⟨t2, b1, b2, b3, b4⟩ := kp49 ho2 (nI i) t1
  obtain ⟨t3, c1, c2, c3, c4⟩ := kp200 ho2 hi (st8 o t2)
  have s1 : ∀ k, k ≠ 27 → (st8 o t2).1 k = t0.1 k := fun k hk => by unfold st8; rw [sR_ne _ _ hk, b2 k hk, a2 k hk]
  have s2 : ∀ j, j < o + 18 ∨ o + 26 ≤ j → (st8 o t2).1 27 j = t2.1 27 j := fun j hj => by
    unfold st8
    rw [sR_at, pk_un (by omega), pk_un (by omega), pk_un (by omega), pk_un (by omega), pk_un (by omega), pk_un (by omega), pk_un (by omega), pk_un (by omega)]
  have z : ∀ j, t2.1 0 j = t0.1 0 j := fun j => by rw [b2 0 (by omega), a2 0 (by omega)]
  have s3 : (st8 o t2).1 27 (o + 18) = t0.1 0 10 ∧ (st8 o t2).1 27 (o + 19) = t0.1 0 11 ∧ (st8 o t2).1 27 (o + 20) = t0.1 0 12 ∧ (st8 o t2).1 27 (o + 21) = t0.1 0 13 ∧ (st8 o t2).1 27 (o + 22) = t0.1 0 14 ∧ (st8 o t2).1 27 (o + 23) = t0.1 0 17 ∧ (st8 o t2).1 27 (o + 24) = t0.1 0 18 ∧ (st8 o t2).1 27 (o + 25) = t0.1 0 21 := by
    unfold st8
    rw [sR_at, z, z, z, z, z, z, z, z]
    refine ⟨?_, ?_, ?_, ?_, ?_, ?_, ?_, ?_⟩
    · rw [pk_un (by omega), pk_un (by omega), pk_un (by omega), pk_un (by omega), pk_un (by omega), pk_un (by omega), pk_un (by omega), pk_us]
    · rw [pk_un (by omega), pk_un (by omega), pk_un (by omega), pk_un (by omega), pk_un (by omega), pk_un (by omega), pk_us]
    · rw [pk_un (by omega), pk_un (by omega), pk_un (by omega), pk_un (by omega), pk_un (by omega), pk_us]
    · rw [pk_un (by omega), pk_un (by omega), pk_un (by omega), pk_un (by omega), pk_us]
    · rw [pk_un (by omega), pk_un (by omega), pk_un (by omega), pk_us]
    · rw [pk_un (by omega), pk_un (by omega), pk_us]
    · rw [pk_un (by omega), pk_us]
    · rw [pk_us]
  refine ⟨sI t3 28 i 1, by rw [a1, b1, c1], fun k k1 k2 => by rw [sR_ne _ _ k2, c2 k k1, s1 k k1], by rw [sR_at, c2 28 (by omega), s1 28 (by omega)], fun j hj => ?_, fun j hj => ?_, fun j hj => ?_, ?_, fun j hj => ?_⟩
  · rw [sR_ne _ _ (by omega), c3 j (by omega), s2 j (by omega), b3 j (by omega), a3 j (by omega)]
  · rw [sR_ne _ _ (by omega), c3 _ (by omega), s2 _ (by omega), b3 _ (by omega), a4 j hj]
  · rw [sR_ne _ _ (by omega), c3 _ (by omega), s2 _ (by omega), c3 _ (by omega), s2 _ (by omega), (b4 j hj).1, (b4 j hj).2, a2 9 (by omega), a2 10 (by omega)]; exact ⟨rfl, rfl⟩
  · rw [sR_ne _ _ (by omega), c3 _ (by omega), c3 _ (by omega), c3 _ (by omega), c3 _ (by omega), c3 _ (by omega), c3 _ (by omega), c3 _ (by omega), c3 _ (by omega)]; exact s3
  · rw [sR_ne _ _ (by omega), (c4 j hj).1, (c4 j hj).2, s1 11 (by omega), s1 12 (by omega)]; exact ⟨rfl, rfl⟩
theorem bitsK {p q i : Nat} (hp : p ≤ 1) (hq : q ≤ 1) (hi : i < 2) : nI (p + 2 * q) ||| (1 <<< (nI i &&& 31)) = (if i = 0 then nI (1 + 2 * q) else nI (p + 2 * 1)) := by
  rcases (show p = 0 ∨ p = 1 by omega) with rfl | rfl <;> rcases (show q = 0 ∨ q = 1 by omega) with rfl | rfl <;> rcases (show i = 0 ∨ i = 1 by omega) with rfl | rfl <;> decide +kernel
theorem bitsG {p q i : Nat} (hp : p ≤ 1) (hq : q ≤ 1) (hi : i < 2) : ((nI (p + 2 * q) >>> (nI i &&& 31)) &&& 1) = (if i = 0 then nI p else nI q) := by
  rcases (show p = 0 ∨ p = 1 by omega) with rfl | rfl <;> rcases (show q = 0 ∨ q = 1 by omega) with rfl | rfl <;> rcases (show i = 0 ∨ i = 1 by omega) with rfl | rfl <;> decide +kernel
theorem in01 (x : Int32) (σ : St) : (x < 0 ∧ f_X8_in x.toInt64 0 1 σ = some (0, σ)) ∨ (¬ x < 0 ∧ ¬ x < 2 ∧ f_X8_in x.toInt64 0 1 σ = some (0, σ)) ∨ ∃ i, i < 2 ∧ x = nI i ∧ ¬ nI i < 0 ∧ nI i < 2 ∧ f_X8_in (nI i).toInt64 0 1 σ = some (1, σ) := by
  by_cases h1 : x < 0
  · exact Or.inl ⟨h1, in_0 (a := 0) (b := 1) (by decide) (by decide) σ (fun q => Int32.not_le.mpr h1 q.1)⟩
  · by_cases h2 : x < 2
    · have h2' : x ≤ 1 := by rw [lt_toInt] at h2; rw [le_toInt]; have a : x.toInt < 2 := h2; show x.toInt ≤ 1; omega
      obtain ⟨j, hj, rfl⟩ := nI_of2 (n := 1) (M := 1) rfl h1 h2'
      exact Or.inr (Or.inr ⟨j, by omega, rfl, h1, h2, in_1 (a := 0) (b := 1) (by decide) (by decide) σ ⟨Int32.not_lt.mp h1, h2'⟩⟩)
    · refine Or.inr (Or.inl ⟨h1, h2, in_0 (a := 0) (b := 1) (by decide) (by decide) σ (fun hq => h2 (lt_toInt.mpr ?_))⟩)
      have a : x.toInt ≤ 1 := le_toInt.mp hq.2
      show x.toInt < 2
      omega
theorem imgAt {i : Nat} (hi : i < 2) (σ : St) : ∃ c, (c = 30 + 11 * i) ∧ f_X7_imageAt (nI i) σ = some (c, σ) ∧ decide (is_X0 c) = true := by
  unfold f_X7_imageAt
  rcases (show i = 0 ∨ i = 1 by omega) with rfl | rfl
  · exact ⟨30, rfl, by rw [if_pos (show nI 0 = 0 from rfl)], by decide⟩
  · exact ⟨41, rfl, by rw [if_neg (show ¬ nI 1 = 0 from i10)], by decide⟩
theorem ok_keep {σc σm : St} (I : Inv σc σm) (x1 : Int32) : ∃ (r : Int32) (σc1 σm1 : St), f_X7_keep x1 σc = some (r, σc1) ∧ f_X8_keep x1 σm = some (r, σm1) ∧ Inv σc1 σm1 := by
  obtain ⟨H, S, v, hI⟩ := id I
  obtain ⟨B, C, M, R, ld, T, F, W, J⟩ := id hI
  unfold f_X7_keep f_X8_keep
  rcases in01 x1 σm with ⟨h1, h2⟩ | ⟨h1, h2, h3⟩ | ⟨i, hi, rfl, h1, h2, h3⟩
  · rw [if_pos h1, h2]; exact ⟨_, σc, σm, rfl, rfl, I⟩
  · rw [if_neg h1, if_neg h2, h3]; exact ⟨_, σc, σm, rfl, rfl, I⟩
  · obtain ⟨c, c1, c2, c3⟩ := imgAt hi σc
    have e430 : (430 * nI i : Int32) = nI (430 * i) := by rw [show (430 : Int32) = nI 430 from rfl, pk_mul]
    rw [if_neg h1, if_pos h2, h3, c2, bd_s, bd_s, if_neg i10, nm_d, c3, ck_t, e430]
    obtain ⟨s, a1, a2, a3, a4⟩ := ccp (a := c) (b := 19) B C (by omega) (by omega) (by omega) R
    obtain ⟨t, b1, b2, b3, b4, b5⟩ := keepAll hi σm
    rw [a1, bv_s, nm_d, b1]
    refine ⟨_, _, _, rfl, rfl, H, S, v, B, ?_, ?_, ?_, ?_, ?_, ?_, ?_, ?_⟩
    · exact C.cg (fun k _ _ => by rw [sR_ne _ _ (by omega), a2 k (by omega)])
    · exact M.cg (by rw [b2 0 (by omega) (by omega)]) (by rw [b2 0 (by omega) (by omega)]) (fun k _ _ => b2 k (by omega) (by omega))
    · exact CM.cg R (fun k _ _ => by rw [sR_ne _ _ (by omega), a2 k (by omega)]) (fun k _ _ => b2 k (by omega) (by omega)) (fun j _ => by rw [b2 0 (by omega) (by omega)])
    · have e20 : (sI s 0 5 (s.1 0 5 ||| (1 <<< (nI i &&& 31)))).1 20 = σc.1 20 := by rw [sR_ne _ _ (by omega), a2 20 (by omega)]
      exact ld.cg (fun k _ _ => by rw [sR_ne _ _ (by omega), a2 k (by omega)]) (fun k _ _ => by rw [sR_ne _ _ (by omega), a2 k (by omega)]) (by rw [e20]) (by rw [e20]) (by rw [e20])
    · exact T.cg (by rw [sR_ne _ _ (by omega), a2 1 (by omega)]) (by rw [sR_ne _ _ (by omega), a2 2 (by omega)]) (by rw [b2 0 (by omega) (by omega)]) (b2 13 (by omega) (by omega))
    · rw [sR_ne _ _ (by omega), a2 1 (by omega), b2 0 (by omega) (by omega)]; exact F
    · exact W.cg (by rw [sR_ne _ _ (by omega), a2 52 (by omega)]) (by rw [sR_ne _ _ (by omega), a2 53 (by omega)]) (by rw [sR_ne _ _ (by omega), a2 54 (by omega)]) (by rw [b2 0 (by omega) (by omega)]) (b2 25 (by omega) (by omega)) (b2 26 (by omega) (by omega))
    · obtain ⟨p, q, p1, q1, j1, j2, j3, j4, j5⟩ := J
      have new : CG H S v c i (sI s 0 5 (s.1 0 5 ||| (1 <<< (nI i &&& 31)))) t := by
        obtain ⟨i1, i2, ⟨i3, i4, i5, i6, i7, i8, i9, i10'⟩, i11⟩ := b5
        refine CR.num B (a3.cg (fun k _ _ => sR_ne _ _ (by omega))) (fun s' hs => i1 s' hs) (fun h hh => i2 h hh) (fun n hn => i11 n hn) i3 i4 i5 i6 i7 i8 i9 i10'
      have e05 : (sI s 0 5 (s.1 0 5 ||| (1 <<< (nI i &&& 31)))).1 0 5 = if i = 0 then nI (1 + 2 * q) else nI (p + 2 * 1) := by
        rw [sR_at, pk_us, a2 0 (by omega), j1, bitsK p1 q1 hi]
      rcases (show i = 0 ∨ i = 1 by omega) with rfl | rfl
      · have hc : c = 30 := by omega
        subst hc
        refine ⟨1, q, by omega, q1, by rw [e05]; rfl, by rw [b3, pk_us]; rfl, by rw [b3, pk_un (by omega)]; exact j3, fun _ => new, fun e => ?_⟩
        have o := j5 e
        refine CR.num B (o.cg (fun k _ _ => by rw [sR_ne _ _ (by omega), a2 k (by omega)])) (fun s' hs => b4 _ (by omega)) (fun h hh => ⟨b4 _ (by omega), b4 _ (by omega)⟩) (fun n hn => ⟨b4 _ (by omega), b4 _ (by omega)⟩) (b4 _ (by omega)) (b4 _ (by omega)) (b4 _ (by omega)) (b4 _ (by omega)) (b4 _ (by omega)) (b4 _ (by omega)) (b4 _ (by omega)) (b4 _ (by omega))
      · have hc : c = 41 := by omega
        subst hc
        refine ⟨p, 1, p1, by omega, by rw [e05]; rfl, by rw [b3, pk_un (by omega)]; exact j2, by rw [b3, pk_us]; rfl, fun e => ?_, fun _ => new⟩
        have o := j4 e
        refine CR.num B (o.cg (fun k _ _ => by rw [sR_ne _ _ (by omega), a2 k (by omega)])) (fun s' hs => b4 _ (by omega)) (fun h hh => ⟨b4 _ (by omega), b4 _ (by omega)⟩) (fun n hn => ⟨b4 _ (by omega), b4 _ (by omega)⟩) (b4 _ (by omega)) (b4 _ (by omega)) (b4 _ (by omega)) (b4 _ (by omega)) (b4 _ (by omega)) (b4 _ (by omega)) (b4 _ (by omega)) (b4 _ (by omega))
