/-! ===== pure: the reference's words (own work) ===== -/
theorem wc_sleeper {T : Nat → Nat} {p d : Nat} (h : ∀ j, j < d → 97 ≤ T (p + j) ∧ T (p + j) ≤ 122) : wc T p d = 7535943612 ↔ (d = 7 ∧ T (p + 0) = 115 ∧ T (p + 1) = 108 ∧ T (p + 2) = 101 ∧ T (p + 3) = 101 ∧ T (p + 4) = 112 ∧ T (p + 5) = 101 ∧ T (p + 6) = 114) := by
  constructor
  · intro e
    cases d with
    | zero => rw [wc] at e; omega
    | succ d1 =>
    have t1 := h d1 (by omega)
    have e1 := wc_peel t1 (by omega) e
    have z1 : wc T p d1 = 279109022 ∧ T (p + d1) = 114 := by omega
    cases d1 with
    | zero => have := z1.1; rw [wc] at this; omega
    | succ d2 =>
    have t2 := h d2 (by omega)
    have e2 := wc_peel t2 (by omega) z1.1
    have z2 : wc T p d2 = 10337371 ∧ T (p + d2) = 101 := by omega
    cases d2 with
    | zero => have := z2.1; rw [wc] at this; omega
    | succ d3 =>
    have t3 := h d3 (by omega)
    have e3 := wc_peel t3 (by omega) z2.1
    have z3 : wc T p d3 = 382865 ∧ T (p + d3) = 112 := by omega
    cases d3 with
    | zero => have := z3.1; rw [wc] at this; omega
    | succ d4 =>
    have t4 := h d4 (by omega)
    have e4 := wc_peel t4 (by omega) z3.1
    have z4 : wc T p d4 = 14180 ∧ T (p + d4) = 101 := by omega
    cases d4 with
    | zero => have := z4.1; rw [wc] at this; omega
    | succ d5 =>
    have t5 := h d5 (by omega)
    have e5 := wc_peel t5 (by omega) z4.1
    have z5 : wc T p d5 = 525 ∧ T (p + d5) = 101 := by omega
    cases d5 with
    | zero => have := z5.1; rw [wc] at this; omega
    | succ d6 =>
    have t6 := h d6 (by omega)
    have e6 := wc_peel t6 (by omega) z5.1
    have z6 : wc T p d6 = 19 ∧ T (p + d6) = 108 := by omega
    cases d6 with
    | zero => have := z6.1; rw [wc] at this; omega
    | succ d7 =>
    have t7 := h d7 (by omega)
    have e7 := wc_peel t7 (by omega) z6.1
    have z7 : wc T p d7 = 0 ∧ T (p + d7) = 115 := by omega
    cases d7 with
    | zero => exact ⟨rfl, z7.2, z6.2, z5.2, z4.2, z3.2, z2.2, z1.2⟩
    | succ d8 => have := wc_pos (h d8 (by omega)); omega
  · rintro ⟨rfl, a0, a1, a2, a3, a4, a5, a6⟩
    have w0 : wc T p 0 = 0 := rfl
    have w1 : wc T p 1 = 19 := by rw [wc, w0, if_pos (by omega), a0]
    have w2 : wc T p 2 = 525 := by rw [wc, w1, if_pos (by omega), a1]
    have w3 : wc T p 3 = 14180 := by rw [wc, w2, if_pos (by omega), a2]
    have w4 : wc T p 4 = 382865 := by rw [wc, w3, if_pos (by omega), a3]
    have w5 : wc T p 5 = 10337371 := by rw [wc, w4, if_pos (by omega), a4]
    have w6 : wc T p 6 = 279109022 := by rw [wc, w5, if_pos (by omega), a5]
    rw [wc, w6, if_pos (by omega), a6]
theorem wrd_code {T : Nat → Nat} {p e : Nat} (hpe : p ≤ e) (h : ∀ j, p ≤ j → j < e → 97 ≤ T j ∧ T j ≤ 122) : (wrd 0 T p e ↔ wc T p (e - p) = 4562600) ∧ (wrd 1 T p e ↔ wc T p (e - p) = 7535943612) := by
  have h' : ∀ j, j < e - p → 97 ≤ T (p + j) ∧ T (p + j) ≤ 122 := fun j hj => h (p + j) (by omega) (by omega)
  have eb : ∀ j c, j < e - p → c < 128 → (bc (T (p + j)) = nI c ↔ T (p + j) = c) := fun j c hj hc => bc_eq (by have := h' j hj; omega) hc
  constructor
  · rw [wc_house h']
    unfold wrd
    rw [show sln 0 = 5 from rfl]
    constructor
    · rintro ⟨e1, e2⟩
      exact ⟨by omega, (eb 0 104 (by omega) (by omega)).mp (e2 0 (by omega)), (eb 1 111 (by omega) (by omega)).mp (e2 1 (by omega)), (eb 2 117 (by omega) (by omega)).mp (e2 2 (by omega)), (eb 3 115 (by omega) (by omega)).mp (e2 3 (by omega)), (eb 4 101 (by omega) (by omega)).mp (e2 4 (by omega))⟩
    · rintro ⟨e1, a0, a1, a2, a3, a4⟩
      refine ⟨by omega, fun j hj => ?_⟩
      rcases (show j = 0 ∨ j = 1 ∨ j = 2 ∨ j = 3 ∨ j = 4 by omega) with rfl | rfl | rfl | rfl | rfl
      · exact (eb 0 104 (by omega) (by omega)).mpr a0
      · exact (eb 1 111 (by omega) (by omega)).mpr a1
      · exact (eb 2 117 (by omega) (by omega)).mpr a2
      · exact (eb 3 115 (by omega) (by omega)).mpr a3
      · exact (eb 4 101 (by omega) (by omega)).mpr a4
  · rw [wc_sleeper h']
    unfold wrd
    rw [show sln 1 = 7 from rfl]
    constructor
    · rintro ⟨e1, e2⟩
      exact ⟨by omega, (eb 0 115 (by omega) (by omega)).mp (e2 0 (by omega)), (eb 1 108 (by omega) (by omega)).mp (e2 1 (by omega)), (eb 2 101 (by omega) (by omega)).mp (e2 2 (by omega)), (eb 3 101 (by omega) (by omega)).mp (e2 3 (by omega)), (eb 4 112 (by omega) (by omega)).mp (e2 4 (by omega)), (eb 5 101 (by omega) (by omega)).mp (e2 5 (by omega)), (eb 6 114 (by omega) (by omega)).mp (e2 6 (by omega))⟩
    · rintro ⟨e1, a0, a1, a2, a3, a4, a5, a6⟩
      refine ⟨by omega, fun j hj => ?_⟩
      rcases (show j = 0 ∨ j = 1 ∨ j = 2 ∨ j = 3 ∨ j = 4 ∨ j = 5 ∨ j = 6 by omega) with rfl | rfl | rfl | rfl | rfl | rfl | rfl
      · exact (eb 0 115 (by omega) (by omega)).mpr a0
      · exact (eb 1 108 (by omega) (by omega)).mpr a1
      · exact (eb 2 101 (by omega) (by omega)).mpr a2
      · exact (eb 3 101 (by omega) (by omega)).mpr a3
      · exact (eb 4 112 (by omega) (by omega)).mpr a4
      · exact (eb 5 101 (by omega) (by omega)).mpr a5
      · exact (eb 6 114 (by omega) (by omega)).mpr a6
def W2 (t : St) (c e : Nat) : St := sI (sJ t 0 26 (lN c)) 0 27 (nI e)
theorem W2_1 (t : St) (c e : Nat) {k : Nat} (h : k ≠ 0) : (W2 t c e).1 k = t.1 k := by unfold W2; rw [sR_ne _ _ h, sL_1]
theorem W2_0 (t : St) (c e : Nat) {j : Nat} (h : j ≠ 27) : (W2 t c e).1 0 j = t.1 0 j := by unfold W2; rw [sR_at, pk_un h, sL_1]
theorem W2_27 (t : St) (c e : Nat) : (W2 t c e).1 0 27 = nI e := by unfold W2; rw [sR_at, pk_us]
theorem W2_26 (t : St) (c e : Nat) : (W2 t c e).2 0 26 = lN c := by unfold W2; rw [sR_2, sL_get, if_pos rfl, pk_uLs]
theorem W2_step (t : St) (c e c' e' : Nat) : sI (sJ (W2 t c e) 0 26 (lN c')) 0 27 (nI e') = W2 t c' e' := by
  refine Prod.ext ?_ ?_
  · funext k
    by_cases z : k = 0
    · subst z
      funext j
      by_cases j1 : j = 27
      · subst j1; rw [W2_27, sR_at, pk_us]
      · rw [W2_0 _ _ _ j1, sR_at, pk_un j1, sL_1, W2_0 _ _ _ j1]
    · rw [W2_1 _ _ _ z, sR_ne _ _ z, sL_1, W2_1 _ _ _ z]
  · unfold W2
    rw [sR_2, sR_2]
    funext k
    rw [sL_get, sL_get]
    by_cases z : k = 0
    · rw [if_pos z, if_pos z]
      funext j
      by_cases j1 : j = 26
      · subst j1; rw [pk_uLs, pk_uLs]
      · rw [pk_uLn j1, pk_uLn j1, sR_2, sL_get, if_pos rfl, pk_uLn j1]
    · rw [if_neg z, if_neg z, sR_2, sL_get, if_neg z]
theorem skp_id {T : Nat → Nat} {n p : Nat} (h : p < n → ¬ T p = 32) : skp T (n - p) p = p := by
  cases hd : n - p with
  | zero => rw [skp]
  | succ d => rw [skp, if_neg (h (by omega))]
theorem rw92 (rec : St → Option St) (t : St) (c e y : Nat) : f_X8_readWord_92 rec (lN y) (W2 t c e) = rec (W2 t y (e + 1)) := by
  unfold f_X8_readWord_92
  rw [nm_d, nm_d, sL_1, W2_27, nI_1, W2_step]
theorem wordM {n p : Nat} {T : Nat → Nat} {s t : St} (X : TT n T s t) (hp : p < n) (hb : ¬ T p = 32) (e2 : t.1 0 25 = nI p) : f_X8_readWord t = some (W2 t (wc T p (ltr T (n - p) p - p)) (ltr T (n - p) p)) := by
  unfold f_X8_readWord
  have e3 : sI t 0 25 (nI p) = t := by rw [← e2, sI_id]
  rw [hereM X (by omega) e2, skp_id (fun _ => hb), bd_s, nm_d, nm_d, e3]
  have e4 : sI (sJ t 0 26 0) 0 27 ((sJ t 0 26 0).1 0 25) = W2 t 0 p := by
    rw [sL_1, e2]; rfl
  rw [e4]
  obtain ⟨hn, y1, y2, y3⟩ := X
  unfold f_X8_readWord_18
  refine lp_m (fun d q o => ∃ i, i + d = n ∧ p ≤ i ∧ (∀ j, p ≤ j → j < i → 97 ≤ T j ∧ T j ≤ 122) ∧ q = W2 t (wc T p (i - p)) i ∧ o = W2 t (wc T p (ltr T d i - p)) (ltr T d i)) ?_ 100000 (n - p) _ _ (by omega) ⟨p, by omega, by omega, fun j h1 h2 => by omega, by rw [Nat.sub_self]; rfl, rfl⟩
  rintro d rec _ _ ⟨i, hi, hpi, hl, rfl, rfl⟩ ih
  show b_X8_readWord_18 rec (W2 t (wc T p (i - p)) i) = _
  unfold b_X8_readWord_18
  have hwb := wc_b (T := T) (p := p) (i - p) (fun j hj => hl (p + j) (by omega) (by omega))
  have hws : wc T p (i + 1 - p) = if wc T p (i - p) ≤ 1000000000000 then 27 * wc T p (i - p) + T i - 96 else 2000000000000 := by
    rw [show i + 1 - p = (i - p) + 1 by omega, wc, show p + (i - p) = i by omega]
  obtain ⟨c, hc⟩ : ∃ c, wc T p (i - p) = c := ⟨_, rfl⟩
  rw [hc] at hwb hws ⊢
  rw [W2_0 _ _ _ (show 23 ≠ 27 by omega), y2, W2_27, W2_1 _ _ _ (show 13 ≠ 0 by omega)]
  cases d with
  | zero => rw [if_pos (nI_le (by omega) (by omega)), ltr, hc]
  | succ d =>
    have h := y3 i (by omega)
    rw [if_neg (nI_ge (by omega) (by omega)), rd_n (by omega) (by omega), h.2.1]
    by_cases q : 97 ≤ T i ∧ T i ≤ 122
    · have hl' : ∀ j, p ≤ j → j < i + 1 → 97 ≤ T j ∧ T j ≤ 122 := fun j h1 h2 => by
        by_cases z : j = i
        · subst z; exact q
        · exact hl j h1 (by omega)
      rw [in_1 (a := 97) (b := 122) (by decide) (by decide) _ ⟨nI_le (a := 97) q.1 (by omega), nI_le (b := 122) q.2 (by omega)⟩, bd_s, if_neg i10, W2_26, W2_27, W2_1 _ _ _ (show 13 ≠ 0 by omega), rd_n (by omega) (by omega), h.2.1, show (1000000000000 : Int64) = lN 1000000000000 from rfl]
      by_cases q2 : c ≤ 1000000000000
      · rw [if_pos q2] at hws
        rw [if_pos ((lg_cmp_le _ _).mpr ((pk_lLE (b := 1000000000000) (by omega) (by omega)).mpr q2)), nI_l (by omega), show (27 : Int64) = lN 27 from rfl, show (96 : Int64) = lN 96 from rfl, lN_mul, lN_add, lN_sub (by omega), rw92]
        exact ih d _ (by omega) ⟨i + 1, by omega, by omega, hl', by rw [hws], by rw [ltr, if_pos q]⟩
      · rw [if_neg q2] at hws
        rw [if_neg (fun z => q2 ((pk_lLE (b := 1000000000000) (by omega) (by omega)).mp ((lg_cmp_le _ _).mp z))), show (2000000000000 : Int64) = lN 2000000000000 from rfl, rw92]
        exact ih d _ (by omega) ⟨i + 1, by omega, by omega, hl', by rw [hws], by rw [ltr, if_pos q]⟩
    · rw [in_0 (a := 97) (b := 122) (by decide) (by decide) _ (fun z => q ⟨(nI_leI (a := 97) (by omega) (by omega)).mp z.1, (nI_leI (b := 122) (by omega) (by omega)).mp z.2⟩), bd_s, if_pos rfl, ltr, if_neg q, hc]
