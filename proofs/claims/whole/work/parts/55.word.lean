/-! ===== pure: reading words (own work) ===== -/
def ltr (T : Nat → Nat) : Nat → Nat → Nat
  | 0, p => p
  | d + 1, p => if 97 ≤ T p ∧ T p ≤ 122 then ltr T d (p + 1) else p
theorem ltr_b (T : Nat → Nat) : ∀ d p, p ≤ ltr T d p ∧ ltr T d p ≤ p + d ∧ ∀ j, p ≤ j → j < ltr T d p → 97 ≤ T j ∧ T j ≤ 122 := by
  intro d
  induction d with
  | zero => intro p; rw [ltr]; exact ⟨by omega, by omega, fun j h1 h2 => by omega⟩
  | succ d ih =>
    intro p
    rw [ltr]
    by_cases q : 97 ≤ T p ∧ T p ≤ 122
    · rw [if_pos q]
      obtain ⟨a, b, c⟩ := ih (p + 1)
      refine ⟨by omega, by omega, fun j h1 h2 => ?_⟩
      by_cases z : j = p
      · subst z; exact q
      · exact c j (by omega) h2
    · rw [if_neg q]; exact ⟨by omega, by omega, fun j h1 h2 => by omega⟩
theorem wordC {n p : Nat} {T : Nat → Nat} {s t : St} (X : TT n T s t) (hp : p ≤ n) (e : s.1 1 3 = nI p) : f_X4_readClause s = f_X4_readClause_57 (nI p) (sI s 1 3 (nI (ltr T (n - p) p))) := by
  obtain ⟨hn, y1, y2, y3⟩ := X
  unfold f_X4_readClause f_X4_readClause_5
  rw [nm_d, e]
  refine lp_q (fun d q o => ∃ i, i + d = n ∧ p ≤ i ∧ q = (nI p, sI s 1 3 (nI i)) ∧ o = f_X4_readClause_57 (nI p) (sI s 1 3 (nI (ltr T d i)))) ?_ 100000 (n - p) _ _ (by omega) ⟨p, by omega, by omega, by rw [← e, sI_id], rfl⟩
  rintro d rec _ o ⟨i, hi, hpi, rfl, ho⟩ ih
  show b_X4_readClause_5 rec (nI p) (sI s 1 3 (nI i)) = o
  unfold b_X4_readClause_5
  have a1 : (sI s 1 3 (nI i)).1 1 1 = nI n := by rw [sR_at, pk_un (by omega)]; exact y1
  have a2 : (sI s 1 3 (nI i)).1 1 3 = nI i := by rw [sR_at, pk_us]
  have a3 : (sI s 1 3 (nI i)).1 2 = s.1 2 := by rw [sR_ne _ _ (by omega)]
  rw [a1, a2, a3]
  cases d with
  | zero => rw [if_pos (nI_le (by omega) (by omega)), ho, ltr]
  | succ d =>
    have h := y3 i (by omega)
    rw [if_neg (nI_ge (by omega) (by omega)), rd_n (by omega) (by omega), rd_n (by omega) (by omega), h.2.2, show (97 : Int32) = nI 97 from rfl, show (122 : Int32) = nI 122 from rfl, nm_d, sI_sI, nI_1]
    by_cases q : 97 ≤ T i ∧ T i ≤ 122
    · rw [if_neg (fun z => by have := (bc_lt h.1 (by omega)).mp z; omega), if_neg (fun z => by have := (bc_gt h.1 (by omega)).mp z; omega)]
      exact ih d _ (by omega) ⟨i + 1, by omega, by omega, rfl, by rw [ho, ltr, if_pos q]⟩
    · rw [ho, ltr, if_neg q]
      by_cases q2 : bc (T i) < nI 97
      · rw [if_pos q2]
      · have hq : ¬ (T i < 97 ∨ 128 ≤ T i) := fun z => q2 ((bc_lt h.1 (c := 97) (by omega)).mpr z)
        rw [if_neg q2, if_pos ((bc_gt h.1 (by omega)).mpr (by omega))]
def wrd (i : Nat) (T : Nat → Nat) (p e : Nat) : Prop := e = p + sln i ∧ ∀ j, j < sln i → bc (T (p + j)) = sch i j
theorem isW {n p e i : Nat} {T : Nat → Nat} {s t : St} (X : TT n T s t) (hi : i < 2) (hpe : p ≤ e) (hen : e ≤ n) (e3 : s.1 1 3 = nI e) : (wrd i T p e ∧ f_X4_isWord i (nI p) s = some (1, s)) ∨ (¬ wrd i T p e ∧ f_X4_isWord i (nI p) s = some (0, s)) := by
  obtain ⟨hn, y1, y2, y3⟩ := X
  have hs : sln i ≤ 7 := by rcases (show i = 0 ∨ i = 1 by omega) with rfl | rfl <;> decide
  unfold f_X4_isWord
  rw [e3, pk_sub hpe, show Int32.ofNat (sln i) = nI (sln i) from rfl]
  by_cases q : e = p + sln i
  · rw [if_pos (show nI (e - p) = nI (sln i) by rw [show e - p = sln i by omega])]
    have key : ∃ r, f_X4_isWord_17 i (nI p) 0 s = some (r, s) ∧ ((r = 1 ∧ ∀ j, j < sln i → bc (T (p + j)) = sch i j) ∨ (r = 0 ∧ ∃ j, j < sln i ∧ ¬ bc (T (p + j)) = sch i j)) := by
      unfold f_X4_isWord_17
      refine lp_x (fun d qq => ∃ k, k + d = sln i ∧ qq = (nI p, nI k, s) ∧ ∀ j, j < k → bc (T (p + j)) = sch i j) (fun (r : Int32) => some (r, s)) (fun (r : Int32) => (r = 1 ∧ ∀ j, j < sln i → bc (T (p + j)) = sch i j) ∨ (r = 0 ∧ ∃ j, j < sln i ∧ ¬ bc (T (p + j)) = sch i j)) ?_ 100000 (sln i) _ (by omega) ⟨0, by omega, rfl, fun j hj => by omega⟩
      rintro d rec _ ⟨k, hk, rfl, hall⟩ ih
      show ∃ z, b_X4_isWord_17 i rec (nI p) (nI k) s = _ ∧ _
      unfold b_X4_isWord_17
      rw [show Int32.ofNat (sln i) = nI (sln i) from rfl]
      cases d with
      | zero =>
        have : k = sln i := by omega
        subst this
        rw [if_pos (nI_le (by omega) (by omega))]
        exact ⟨1, rfl, Or.inl ⟨rfl, hall⟩⟩
      | succ d =>
        rw [if_neg (nI_ge (by omega) (by omega)), nI_add, rd_n (by omega) (by omega), ck_n (by omega) (by omega), nI_clamp (by omega), (y3 (p + k) (by omega)).2.2, nI_1]
        by_cases z : bc (T (p + k)) = sch i k
        · rw [if_pos z]
          refine ih d _ (by omega) ⟨k + 1, by omega, rfl, fun j hj => ?_⟩
          by_cases z2 : j = k
          · subst z2; exact z
          · exact hall j (by omega)
        · rw [if_neg z]
          exact ⟨0, rfl, Or.inr ⟨rfl, k, by omega, z⟩⟩
    obtain ⟨r, k1, k2⟩ := key
    rcases k2 with ⟨rfl, k3⟩ | ⟨rfl, j, j1, j2⟩
    · exact Or.inl ⟨⟨q, k3⟩, k1⟩
    · exact Or.inr ⟨fun z => j2 (z.2 j j1), k1⟩
  · rw [if_neg (show ¬ nI (e - p) = nI (sln i) from fun z => by have := (nI_eq (by omega) (by omega)).mp z; omega)]
    exact Or.inr ⟨fun z => q z.1, rfl⟩
/-- the reference's code of a word -/
def wc (T : Nat → Nat) (p : Nat) : Nat → Nat
  | 0 => 0
  | d + 1 => if wc T p d ≤ 1000000000000 then 27 * wc T p d + T (p + d) - 96 else 2000000000000
theorem wc_b {T : Nat → Nat} {p : Nat} : ∀ d, (∀ j, j < d → 97 ≤ T (p + j) ∧ T (p + j) ≤ 122) → wc T p d ≤ 27000000000100 := by
  intro d
  induction d with
  | zero => intro _; rw [wc]; omega
  | succ d ih =>
    intro h
    have := ih (fun j hj => h j (by omega))
    have h2 := h d (by omega)
    rw [wc]; split <;> omega
theorem wc_peel {T : Nat → Nat} {p d c : Nat} (hT : 97 ≤ T (p + d) ∧ T (p + d) ≤ 122) (hc : c ≤ 1000000000000) (e : wc T p (d + 1) = c) : 27 * wc T p d + (T (p + d) - 96) = c := by
  rw [wc] at e
  by_cases q : wc T p d ≤ 1000000000000
  · rw [if_pos q] at e; omega
  · rw [if_neg q] at e; omega
theorem wc_pos {T : Nat → Nat} {p d : Nat} (hT : 97 ≤ T (p + d) ∧ T (p + d) ≤ 122) : 0 < wc T p (d + 1) := by
  rw [wc]; split <;> omega
theorem wc_house {T : Nat → Nat} {p d : Nat} (h : ∀ j, j < d → 97 ≤ T (p + j) ∧ T (p + j) ≤ 122) : wc T p d = 4562600 ↔ (d = 5 ∧ T (p + 0) = 104 ∧ T (p + 1) = 111 ∧ T (p + 2) = 117 ∧ T (p + 3) = 115 ∧ T (p + 4) = 101) := by
  constructor
  · intro e
    cases d with
    | zero => rw [wc] at e; omega
    | succ d1 =>
    have t1 := h d1 (by omega)
    have e1 := wc_peel t1 (by omega) e
    have z1 : wc T p d1 = 168985 ∧ T (p + d1) = 101 := by omega
    cases d1 with
    | zero => have := z1.1; rw [wc] at this; omega
    | succ d2 =>
    have t2 := h d2 (by omega)
    have e2 := wc_peel t2 (by omega) z1.1
    have z2 : wc T p d2 = 6258 ∧ T (p + d2) = 115 := by omega
    cases d2 with
    | zero => have := z2.1; rw [wc] at this; omega
    | succ d3 =>
    have t3 := h d3 (by omega)
    have e3 := wc_peel t3 (by omega) z2.1
    have z3 : wc T p d3 = 231 ∧ T (p + d3) = 117 := by omega
    cases d3 with
    | zero => have := z3.1; rw [wc] at this; omega
    | succ d4 =>
    have t4 := h d4 (by omega)
    have e4 := wc_peel t4 (by omega) z3.1
    have z4 : wc T p d4 = 8 ∧ T (p + d4) = 111 := by omega
    cases d4 with
    | zero => have := z4.1; rw [wc] at this; omega
    | succ d5 =>
    have t5 := h d5 (by omega)
    have e5 := wc_peel t5 (by omega) z4.1
    have z5 : wc T p d5 = 0 ∧ T (p + d5) = 104 := by omega
    cases d5 with
    | zero => exact ⟨rfl, z5.2, z4.2, z3.2, z2.2, z1.2⟩
    | succ d6 => have := wc_pos (h d6 (by omega)); omega
  · rintro ⟨rfl, a0, a1, a2, a3, a4⟩
    have w0 : wc T p 0 = 0 := rfl
    have w1 : wc T p 1 = 8 := by rw [wc, w0, if_pos (by omega), a0]
    have w2 : wc T p 2 = 231 := by rw [wc, w1, if_pos (by omega), a1]
    have w3 : wc T p 3 = 6258 := by rw [wc, w2, if_pos (by omega), a2]
    have w4 : wc T p 4 = 168985 := by rw [wc, w3, if_pos (by omega), a3]
    rw [wc, w4, if_pos (by omega), a4]
