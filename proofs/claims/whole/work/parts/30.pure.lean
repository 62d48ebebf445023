/-! ===== pure: the functions' words, and what holds between class and reference (own work) ===== -/
theorem nm_d {α β : Type} (a : α) (f : α → β) : nm a f = f a := rfl
theorem ck_t {α : Type} (x : Option α) : ck true x = x := rfl
theorem bd_s {α β γ : Type} (a : α) (b : β) (g : α → β → Option γ) : bd (some (a, b)) g = g a b := rfl
theorem bv_s {α γ : Type} (a : α) (g : α → Option γ) : bv (some a) g = g a := rfl
theorem inb_nI {j n : Nat} (h : j < n) (hn : n < 2 ^ 31) : inb (nI j) n = true := decide_eq_true (vp_in_nI h hn)
theorem rd_n {α : Type} {f : Nat → Int32} {n j : Nat} {g : Int32 → Option α} (h : j < n) (hn : n < 2 ^ 31) : rd f n (nI j) g = g (f j) := by
  rw [rd, inb_nI h hn, nI_clamp (by omega)]; rfl
theorem rdL_n {α : Type} {f : Nat → Int64} {n j : Nat} {g : Int64 → Option α} (h : j < n) (hn : n < 2 ^ 31) : rdL f n (nI j) g = g (f j) := by
  rw [rdL, inb_nI h hn, nI_clamp (by omega)]; rfl
theorem ck_n {α : Type} {n j : Nat} {x : Option α} (h : j < n) (hn : n < 2 ^ 31) : ck (inb (nI j) n) x = x := by
  rw [inb_nI h hn]; rfl
theorem lp_s {α ρ : Type} (B : (α → Option ρ) → α → Option ρ) (n : Nat) (a : α) : lp B (n + 1) a = B (lp B n) a := rfl
theorem lp_m {α ρ : Type} {B : (α → Option ρ) → α → Option ρ} (A : Nat → α → ρ → Prop) (hs : ∀ (d : Nat) (rec : α → Option ρ) (a : α) (o : ρ), A d a o → (∀ (d' : Nat) (a' : α), d' < d → A d' a' o → rec a' = some o) → B rec a = some o) : ∀ (n d : Nat) (a : α) (o : ρ), d < n → A d a o → lp B n a = some o := by
  intro n
  induction n with
  | zero => intro d a o h; omega
  | succ n ih => intro d a o h hA; exact hs d (lp B n) a o hA (fun d' a' hd' hA' => ih d' a' o (by omega) hA')
theorem lp_e {α ρ : Type} {B : (α → Option ρ) → α → Option ρ} (A : Nat → α → Prop) (Q : α → ρ → Prop) (hs : ∀ (d : Nat) (rec : α → Option ρ) (a : α), A d a → (∀ (d' : Nat) (a' : α), d' < d → A d' a' → ∃ o, rec a' = some o ∧ Q a' o) → ∃ o, B rec a = some o ∧ Q a o) : ∀ (n d : Nat) (a : α), d < n → A d a → ∃ o, lp B n a = some o ∧ Q a o := by
  intro n
  induction n with
  | zero => intro d a h; omega
  | succ n ih => intro d a h hA; exact hs d (lp B n) a hA (fun d' a' hd' hA' => ih d' a' (by omega) hA')
theorem lp_2 {α β ρ τ : Type} {B : (α → Option ρ) → α → Option ρ} {B2 : (β → Option τ) → β → Option τ} (A : Nat → α → β → Prop) (Q : α → β → ρ → τ → Prop) (hs : ∀ (d : Nat) (rec : α → Option ρ) (rec2 : β → Option τ) (a : α) (b : β), A d a b → (∀ (d' : Nat) (a' : α) (b' : β), d' < d → A d' a' b' → ∃ o p, rec a' = some o ∧ rec2 b' = some p ∧ Q a' b' o p) → ∃ o p, B rec a = some o ∧ B2 rec2 b = some p ∧ Q a b o p) : ∀ (n d : Nat) (a : α) (b : β), d < n → A d a b → ∃ o p, lp B n a = some o ∧ lp B2 n b = some p ∧ Q a b o p := by
  intro n
  induction n with
  | zero => intro d a b h; omega
  | succ n ih => intro d a b h hA; exact hs d (lp B n) (lp B2 n) a b hA (fun d' a' b' hd' hA' => ih d' a' b' (by omega) hA')
theorem sR_at (σ : St) (k : Nat) (f : Nat → Int32) : (sR σ k f).1 k = f := by simp [sR]
theorem sR_ne (σ : St) {k k' : Nat} (f : Nat → Int32) (h : k' ≠ k) : (sR σ k f).1 k' = σ.1 k' := by simp [sR, h]
theorem sR_get (σ : St) (k : Nat) (f : Nat → Int32) (k' : Nat) : (sR σ k f).1 k' = if k' = k then f else σ.1 k' := rfl
theorem sR_2 (σ : St) (k : Nat) (f : Nat → Int32) : (sR σ k f).2 = σ.2 := rfl
theorem sL_1 (σ : St) (k : Nat) (f : Nat → Int64) : (sL σ k f).1 = σ.1 := rfl
theorem sL_get (σ : St) (k : Nat) (f : Nat → Int64) (k' : Nat) : (sL σ k f).2 k' = if k' = k then f else σ.2 k' := rfl
theorem upd_get (f : Nat → Int32) (k : Nat) (x : Int32) (j : Nat) : upd f k x j = if j = k then x else f j := rfl
/-! numbers -/
theorem nI_lt0 {n : Nat} (h : n < 2 ^ 31) : ¬ nI n < 0 := nI_pos h
theorem m1_lt0 : ((-1) : Int32) < 0 := by decide
theorem nI_ne_m1 {n : Nat} (h : n < 2 ^ 31) : ¬ nI n = -1 := fun e => nI_pos h (e ▸ m1_lt0)
theorem lt_toInt {x y : Int32} : x < y ↔ x.toInt < y.toInt := Int32.lt_iff_toInt_lt
theorem le_toInt {x y : Int32} : x ≤ y ↔ x.toInt ≤ y.toInt := Int32.le_iff_toInt_le
theorem in_c {A B : Int64} {a b x : Int32} (hA : a.toInt64 = A) (hB : b.toInt64 = B) (σ : St) : f_X8_in x.toInt64 A B σ = some (if a ≤ x ∧ x ≤ b then 1 else 0, σ) := by
  subst hA; subst hB
  have e : ∀ u w : Int32, (u.toInt64 < w.toInt64) ↔ u < w := fun u w => by rw [Int64.lt_iff_toInt_lt, Int32.toInt_toInt64, Int32.toInt_toInt64, lt_toInt]
  have l1 : (lg_cmp x.toInt64 a.toInt64 < 0) ↔ x < a := by
    rw [← Int32.not_le, lg_cmp_ge, Int64.not_le, e]
  have l2 : (0 < lg_cmp x.toInt64 b.toInt64) ↔ b < x := by
    rw [← Int32.not_le, lg_cmp_le, Int64.not_le, e]
  unfold f_X8_in
  by_cases h1 : x < a
  · rw [if_pos (l1.mpr h1), if_neg (fun h => Int32.not_le.mpr h1 h.1)]
  · rw [if_neg (fun h => h1 (l1.mp h))]
    by_cases h2 : b < x
    · rw [if_pos (l2.mpr h2), if_neg (fun h => Int32.not_le.mpr h2 h.2)]
    · rw [if_neg (fun h => h2 (l2.mp h)), if_pos ⟨Int32.not_lt.mp h1, Int32.not_lt.mp h2⟩]
theorem in_1 {A B : Int64} {a b x : Int32} (hA : a.toInt64 = A) (hB : b.toInt64 = B) (σ : St) (h : a ≤ x ∧ x ≤ b) : f_X8_in x.toInt64 A B σ = some (1, σ) := by rw [in_c hA hB, if_pos h]
theorem in_0 {A B : Int64} {a b x : Int32} (hA : a.toInt64 = A) (hB : b.toInt64 = B) (σ : St) (h : ¬ (a ≤ x ∧ x ≤ b)) : f_X8_in x.toInt64 A B σ = some (0, σ) := by rw [in_c hA hB, if_neg h]
theorem i10 : ¬ (1 : Int32) = 0 := by decide
theorem in_no {x : Int32} {N : Nat} (hN : N ≤ 8) (h : x < 0 ∨ nI N ≤ x) : ¬ (0 ≤ x ∧ x ≤ nI N - 1) := by
  rintro ⟨h1, h2⟩
  rw [le_toInt] at h1 h2
  have e1 : (nI N - 1).toInt = (N : Int) - 1 := pk_sub_toInt (a := N) (b := 1) (by omega) (by omega)
  rw [e1] at h2
  have e0 : (0 : Int32).toInt = 0 := rfl
  rw [e0] at h1
  rcases h with h | h
  · rw [lt_toInt, e0] at h; omega
  · rw [le_toInt, nI_toInt (by omega)] at h; omega
theorem in_yes {j N : Nat} (hN : N ≤ 8) (h : j < N) : 0 ≤ nI j ∧ nI j ≤ nI N - 1 := by
  refine ⟨nI_pos' (by omega), ?_⟩
  rw [le_toInt]
  have e1 : (nI N - 1).toInt = (N : Int) - 1 := pk_sub_toInt (a := N) (b := 1) (by omega) (by omega)
  rw [e1, nI_toInt (by omega)]; omega
theorem isH_no {σ : St} {H : Nat} (hH : H ≤ 8) (e : σ.1 0 0 = nI H) {x : Int32} (h : x < 0 ∨ nI H ≤ x) : f_X8_isHouse x σ = some (0, σ) := by
  unfold f_X8_isHouse; rw [in_c (a := 0) (b := σ.1 0 0 - 1) (by decide) rfl, e, if_neg (in_no hH h)]; rfl
theorem isH_yes {σ : St} {H j : Nat} (hH : H ≤ 8) (e : σ.1 0 0 = nI H) (h : j < H) : f_X8_isHouse (nI j) σ = some (1, σ) := by
  unfold f_X8_isHouse; rw [in_c (a := 0) (b := σ.1 0 0 - 1) (by decide) rfl, e, if_pos (in_yes hH h)]; rfl
theorem isS_no {σ : St} {H : Nat} (hH : H ≤ 8) (e : σ.1 0 4 = nI H) {x : Int32} (h : x < 0 ∨ nI H ≤ x) : f_X8_isSleeper x σ = some (0, σ) := by
  unfold f_X8_isSleeper; rw [in_c (a := 0) (b := σ.1 0 4 - 1) (by decide) rfl, e, if_neg (in_no hH h)]; rfl
theorem isS_yes {σ : St} {H j : Nat} (hH : H ≤ 8) (e : σ.1 0 4 = nI H) (h : j < H) : f_X8_isSleeper (nI j) σ = some (1, σ) := by
  unfold f_X8_isSleeper; rw [in_c (a := 0) (b := σ.1 0 4 - 1) (by decide) rfl, e, if_pos (in_yes hH h)]; rfl
theorem hasH_no {σ : St} {H : Nat} (e : σ.1 3 0 = nI H) {x : Int32} (h : x < 0 ∨ nI H ≤ x) : f_X5_hasHouse x σ = some (0, σ) := by
  unfold f_X5_hasHouse
  by_cases h1 : x < 0
  · rw [if_pos h1]
  · rw [if_neg h1, e, if_pos (h.resolve_left h1)]
theorem hasH_yes {σ : St} {H j : Nat} (hH : H ≤ 8) (e : σ.1 3 0 = nI H) (h : j < H) : f_X5_hasHouse (nI j) σ = some (1, σ) := by
  unfold f_X5_hasHouse
  rw [if_neg (nI_pos (by omega)), e, if_neg (nI_ge h (by omega))]
theorem hasS_no {σ : St} {H : Nat} (e : σ.1 3 4 = nI H) {x : Int32} (h : x < 0 ∨ nI H ≤ x) : f_X5_hasSleeper x σ = some (0, σ) := by
  unfold f_X5_hasSleeper
  by_cases h1 : x < 0
  · rw [if_pos h1]
  · rw [if_neg h1, e, if_pos (h.resolve_left h1)]
theorem hasS_yes {σ : St} {H j : Nat} (hH : H ≤ 8) (e : σ.1 3 4 = nI H) (h : j < H) : f_X5_hasSleeper (nI j) σ = some (1, σ) := by
  unfold f_X5_hasSleeper
  rw [if_neg (nI_pos (by omega)), e, if_neg (nI_ge h (by omega))]
theorem ix3 (x : Int32) {n : Nat} (hn : n < 2 ^ 31) : (x < 0 ∨ nI n ≤ x) ∨ ∃ j : Nat, j < n ∧ x = nI j := by
  rcases pk_ix x hn with h | h | h
  · exact Or.inl (Or.inl h)
  · exact Or.inl (Or.inr h)
  · exact Or.inr h
/-! what holds between them -/
def rg (x : Int32) (lo hi : Nat) : Prop := ∃ k, lo ≤ k ∧ k ≤ hi ∧ x = nI k
def VB (H S : Nat) (v : Nat → Nat → Nat) : Prop := H ≤ 5 ∧ S ≤ 8 ∧ (∀ h, h < H → 1 ≤ v 0 h ∧ v 0 h ≤ 7 ∧ v 1 h ≤ 999 ∧ v 2 h ≤ 60) ∧ ∀ s, s < S → v 3 s < H ∧ 60 ≤ v 4 s ∧ v 4 s ≤ 600 ∧ v 5 s ≤ 59 ∧ v 6 s ≤ 9
def VC (H S : Nat) (v : Nat → Nat → Nat) (σ : St) : Prop := σ.1 3 0 = nI H ∧ σ.1 3 4 = nI S ∧ (∀ h, h < H → σ.1 4 h = nI (v 0 h) ∧ σ.1 5 h = nI (v 1 h) ∧ σ.1 6 h = nI (v 2 h)) ∧ ∀ s, s < S → σ.1 7 s = nI (v 3 s) ∧ σ.1 8 s = nI (v 4 s) ∧ σ.1 9 s = nI (v 5 s) ∧ σ.1 10 s = nI (v 6 s)
def VM (H S : Nat) (v : Nat → Nat → Nat) (σ : St) : Prop := σ.1 0 0 = nI H ∧ σ.1 0 4 = nI S ∧ (∀ h, h < H → σ.1 1 h = nI (v 0 h) ∧ σ.1 2 h = nI (v 1 h) ∧ σ.1 3 h = nI (v 2 h)) ∧ ∀ s, s < S → σ.1 4 s = nI (v 3 s) ∧ σ.1 5 s = nI (v 4 s) ∧ σ.1 6 s = nI (v 5 s) ∧ σ.1 7 s = nI (v 6 s)
def nOK (H : Nat) (f a n : Int32) : Prop := (f = -1 ∧ a = -1 ∧ n = -1) ∨ ∃ h m l, h < H ∧ m ≤ 700 ∧ l ≤ 9 ∧ f = nI h ∧ a = nI m ∧ n = nI l
/-- the class's course at c, against the reference's numbers: shifts, days on end, done; noise (minute, loudness, house), law, day, had, kept, seed; rulers, minutes -/
def CR (H S : Nat) (v : Nat → Nat → Nat) (c : Nat) (σ : St) (sh oe dn : Nat → Int32) (na nl nf lw dy hd kp sd : Int32) (ru mi : Nat → Int32) : Prop :=
  (∀ s, s < S → σ.1 (c + 2) s = sh s ∧ rg (sh s) 0 60) ∧
  (∀ h, h < H → σ.1 (c + 6) h = oe h ∧ (∃ k, k < v 0 h ∧ oe h = nI k) ∧ σ.1 (c + 7) h = dn h) ∧
  (σ.1 (c + 1) 3 = na ∧ σ.1 (c + 1) 4 = nl ∧ σ.1 (c + 1) 2 = nf ∧ nOK H nf na nl) ∧
  (σ.1 (c + 1) 5 = lw ∧ rg lw 0 2) ∧ σ.1 c 2 = dy ∧ σ.1 c 5 = hd ∧
  (∃ k, k ≤ 200 ∧ σ.1 c 6 = nI k ∧ kp = nI k ∧ ∀ i, i < k → σ.1 (c + 8) i = ru i ∧ σ.1 (c + 9) i = mi i) ∧
  (σ.1 c 9 = sd ∧ ∃ k, k < 2 ^ 31 ∧ sd = nI k)
/-- the course that goes on, and the images -/
abbrev CM (H S : Nat) (v : Nat → Nat → Nat) (σc σm : St) : Prop := CR H S v 19 σc (σm.1 8) (σm.1 9) (σm.1 10) (σm.1 0 10) (σm.1 0 11) (σm.1 0 12) (σm.1 0 13) (σm.1 0 14) (σm.1 0 17) (σm.1 0 18) (σm.1 0 21) (σm.1 11) (σm.1 12)
abbrev CG (H S : Nat) (v : Nat → Nat → Nat) (c i : Nat) (σc σm : St) : Prop := CR H S v c σc (fun j => σm.1 27 (430 * i + j)) (fun j => σm.1 27 (430 * i + 8 + j)) (fun j => σm.1 27 (430 * i + 13 + j)) (σm.1 27 (430 * i + 18)) (σm.1 27 (430 * i + 19)) (σm.1 27 (430 * i + 20)) (σm.1 27 (430 * i + 21)) (σm.1 27 (430 * i + 22)) (σm.1 27 (430 * i + 23)) (σm.1 27 (430 * i + 24)) (σm.1 27 (430 * i + 25)) (fun j => σm.1 27 (430 * i + 30 + j)) (fun j => σm.1 27 (430 * i + 230 + j))
def rf (σ : St) (a s : Nat) : Int32 := if σ.1 a 2 = -1 then 1000000 else if σ.1 7 s = σ.1 a 2 then 1000000 else if σ.1 a 4 ≤ σ.1 10 s then 1000000 else σ.1 a 3
def laid (S a : Nat) (σ : St) : Prop := ∀ s, s < S → σ.1 (a + 2) s = σ.1 8 s - σ.1 (a + 1) s - σ.1 9 s ∧ σ.1 (a + 3) s = σ.1 8 s - σ.1 (a + 1) s + σ.1 9 s ∧ σ.1 (a + 4) s = rf σ a s
def TB (x y : Int32) : Prop := ∃ k, k < 256 ∧ y = nI k ∧ x = (nI k).toInt8.toInt32
def Tx (σc σm : St) : Prop := ∃ n, n ≤ 400 ∧ σc.1 1 1 = nI n ∧ σm.1 0 23 = nI n ∧ ∀ j, j < n → TB (σc.1 2 j) (σm.1 13 j)
def Wd (S : Nat) (σc σm : St) : Prop := ∃ n, n ≤ 40 ∧ σc.1 52 0 = nI n ∧ σm.1 0 44 = nI n ∧ ∀ i, i < n → σc.1 53 i = σm.1 25 i ∧ σc.1 54 i = σm.1 26 i ∧ (∃ s, s < S ∧ σm.1 25 i = nI s) ∧ rg (σm.1 26 i) 0 999
def Im (H S : Nat) (v : Nat → Nat → Nat) (σc σm : St) : Prop := ∃ p q, p ≤ 1 ∧ q ≤ 1 ∧ σc.1 0 5 = nI (p + 2 * q) ∧ σm.1 28 0 = nI p ∧ σm.1 28 1 = nI q ∧ (p = 1 → CG H S v 30 0 σc σm) ∧ (q = 1 → CG H S v 41 1 σc σm)
/-- what holds between class and reference ahead of each call -/
def InvV (H S : Nat) (v : Nat → Nat → Nat) (σc σm : St) : Prop := VB H S v ∧ VC H S v σc ∧ VM H S v σm ∧ CM H S v σc σm ∧ laid S 20 σc ∧ Tx σc σm ∧ σc.1 1 5 = σm.1 0 24 ∧ Wd S σc σm ∧ Im H S v σc σm
def Inv (σc σm : St) : Prop := ∃ H S v, InvV H S v σc σm
theorem inv0 : Inv s0c s0m := by
  refine ⟨0, 0, fun _ _ => 0, ⟨by omega, by omega, fun h hh => by omega, fun s hs => by omega⟩, ⟨rfl, rfl, fun h hh => by omega, fun s hs => by omega⟩, ⟨rfl, rfl, fun h hh => by omega, fun s hs => by omega⟩, ⟨fun s hs => by omega, fun h hh => by omega, ⟨rfl, rfl, rfl, Or.inl ⟨rfl, rfl, rfl⟩⟩, ⟨rfl, 0, by omega, by omega, rfl⟩, rfl, rfl, ⟨0, by omega, rfl, rfl, fun i hi => by omega⟩, rfl, 0, by omega, rfl⟩, fun s hs => by omega, ⟨0, by omega, rfl, rfl, fun i hi => by omega⟩, rfl, ⟨0, by omega, rfl, rfl, fun i hi => by omega⟩, ⟨0, 0, by omega, by omega, rfl, rfl, rfl, fun h => by omega, fun h => by omega⟩⟩
theorem nOK_at {H : Nat} (hH : H ≤ 5) {f a n : Int32} (h : nOK H f a n) : (f = -1 ∧ a < 0) ∨ (¬ f = -1 ∧ ¬ a < 0) := by
  rcases h with ⟨rfl, rfl, rfl⟩ | ⟨x, m, l, hx5, hm, -, rfl, rfl, rfl⟩
  · exact Or.inl ⟨rfl, m1_lt0⟩
  · by_cases hx : nI x = -1
    · exact absurd hx (by
        intro e
        have h1 : (nI x).toInt = -1 := by rw [e]; rfl
        have : x < 2 ^ 31 := by omega
        rw [nI_toInt this] at h1; omega)
    · exact Or.inr ⟨hx, nI_pos (by omega)⟩
