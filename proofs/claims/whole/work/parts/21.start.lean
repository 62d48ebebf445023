/-- the class as its constructor leaves it; the reference likewise -/
def s0c : St := (fun k => if k = 1 then (fun j => if j = 5 then (-1) else 0) else if k = 20 then (fun j => if j = 2 then (-1) else if j = 3 then (-1) else if j = 4 then (-1) else 0) else if k = 31 then (fun j => if j = 2 then (-1) else if j = 3 then (-1) else if j = 4 then (-1) else 0) else if k = 42 then (fun j => if j = 2 then (-1) else if j = 3 then (-1) else if j = 4 then (-1) else 0) else if k = 55 then (fun j => if j = 2 then (-1) else if j = 3 then (-1) else if j = 4 then (-1) else 0) else if k = 61 then (fun j => if j = 2 then (-1) else if j = 3 then (-1) else if j = 4 then (-1) else 0) else if k = 66 then (fun j => if j = 2 then (-1) else if j = 3 then (-1) else if j = 4 then (-1) else 0) else (fun _ => 0), fun _ _ => 0)
def s0m : St := (fun k => if k = 0 then (fun j => if j = 10 then (-1) else if j = 11 then (-1) else if j = 12 then (-1) else if j = 24 then (-1) else 0) else (fun _ => 0), fun _ _ => 0)
def adc (q0 : Nat) (u7 : List Nat) : Nat → Nat := fun k => ([q0, (u7.getD 0 0), (u7.getD 1 0), (u7.getD 10 0), (u7.getD 11 0), (u7.getD 12 0), (u7.getD 13 0), (u7.getD 14 0), (u7.getD 15 0), (u7.getD 16 0), (u7.getD 17 0), (u7.getD 2 0), (u7.getD 3 0), (u7.getD 4 0), (u7.getD 5 0), (u7.getD 6 0), (u7.getD 7 0), (u7.getD 8 0), (u7.getD 9 0), (u7.getD 18 0), (u7.getD 19 0), (u7.getD 20 0), (u7.getD 21 0), (u7.getD 22 0), (u7.getD 23 0), (u7.getD 24 0), (u7.getD 25 0), (u7.getD 26 0), (u7.getD 27 0), (u7.getD 28 0), (u7.getD 29 0), (u7.getD 30 0), (u7.getD 31 0), (u7.getD 32 0), (u7.getD 33 0), (u7.getD 34 0), (u7.getD 35 0), (u7.getD 36 0), (u7.getD 37 0), (u7.getD 38 0), (u7.getD 39 0), (u7.getD 40 0), (u7.getD 41 0), (u7.getD 42 0), (u7.getD 43 0), (u7.getD 44 0), (u7.getD 45 0), (u7.getD 46 0), (u7.getD 47 0), (u7.getD 48 0), (u7.getD 49 0), (u7.getD 50 0), (u7.getD 51 0), (u7.getD 52 0), (u7.getD 53 0), (u7.getD 54 0), (u7.getD 55 0), (u7.getD 56 0), (u7.getD 57 0), (u7.getD 58 0), (u7.getD 59 0), (u7.getD 60 0), (u7.getD 61 0), (u7.getD 62 0), (u7.getD 63 0), (u7.getD 64 0), (u7.getD 65 0), (u7.getD 66 0), (u7.getD 67 0), (u7.getD 68 0), (u7.getD 69 0), (u7.getD 70 0), (u7.getD 71 0), (u7.getD 72 0)] : List Nat).getD k 0
def adm (q1 : Nat) (u8 : List Nat) : Nat → Nat := fun k => ([q1, (u8.getD 0 0), (u8.getD 1 0), (u8.getD 2 0), (u8.getD 3 0), (u8.getD 4 0), (u8.getD 5 0), (u8.getD 6 0), (u8.getD 7 0), (u8.getD 8 0), (u8.getD 9 0), (u8.getD 10 0), (u8.getD 11 0), (u8.getD 12 0), (u8.getD 13 0), (u8.getD 14 0), (u8.getD 15 0), (u8.getD 16 0), (u8.getD 17 0), (u8.getD 18 0), (u8.getD 19 0), (u8.getD 20 0), (u8.getD 21 0), (u8.getD 22 0), (u8.getD 23 0), (u8.getD 24 0), (u8.getD 25 0), (u8.getD 26 0), (u8.getD 27 0)] : List Nat).getD k 0
theorem app_get_r {α : Type} {w v : List α} {k : Nat} {q : α} (h : v[k]? = some q) : (w ++ v)[w.length + k]? = some q := by
  rw [List.getElem?_append_right (Nat.le_add_right _ _), Nat.add_sub_cancel_left]; exact h
theorem app_get_l {α : Type} {w v : List α} {k : Nat} {q : α} (h : w[k]? = some q) : (w ++ v)[k]? = some q := by
  have hk : k < w.length := (List.getElem?_eq_some_iff.mp h).1
  rw [List.getElem?_append_left hk]; exact h
theorem P_r {D : va_G} {cl : List vw_C} {w v : va_W} {H : Heap} (h : va_P D cl (w ++ v) H) : va_P D cl v H := fun k q hq => h (w.length + k) q (app_get_r hq)
theorem P_l {D : va_G} {cl : List vw_C} {w v : va_W} {H : Heap} (h : va_P D cl (w ++ v) H) : va_P D cl w H := fun k q hq => h k q (app_get_l hq)
theorem D_r {A : Nat → Prop} {w v : va_W} (h : va_D A (w ++ v)) : va_D A v := ⟨fun i j x y hx hy e => by have := h.1 _ _ x y (app_get_r hx) (app_get_r hy) e; omega, fun k q hq => h.2 (w.length + k) q (app_get_r hq)⟩
theorem D_l {A : Nat → Prop} {w v : va_W} (h : va_D A (w ++ v)) : va_D A w := ⟨fun i j x y hx hy e => h.1 _ _ x y (app_get_l hx) (app_get_l hy) e, fun k q hq => h.2 k q (app_get_l hq)⟩
theorem D_lr {A : Nat → Prop} {w v : va_W} (h : va_D A (w ++ v)) {i j : Nat} {x y : Nat × va_E} (hx : w[i]? = some x) (hy : v[j]? = some y) : x.1 ≠ y.1 := by
  intro e
  have h1 := h.1 _ _ x y (app_get_l hx) (app_get_r hy) e
  have h2 : i < w.length := (List.getElem?_eq_some_iff.mp hx).1
  omega
theorem join_app {A : Nat → Prop} {D : va_G} {cl : List vw_C} {w wc w1 : va_W} {H H1 : Heap} (hP : va_P D cl (w ++ wc) H) (hD : va_D A (w ++ wc)) (hk : ∀ q : Nat, q < H.size → ¬ va_A wc H.size q → H1[q]? = H[q]?) (hF : ∀ q, va_A wc H.size q → A q) (hP1 : va_P D cl w1 H1) (hD1 : va_D (va_A wc H.size) w1) : va_P D cl (w ++ w1) H1 ∧ va_D A (w ++ w1) := by
  have ap : ∀ (k : Nat) (q : Nat × va_E), w[k]? = some q → q.1 < H.size ∧ ¬ va_A wc H.size q.1 := by
    intro k q hq
    have hl := (hP k q (app_get_l hq)).lt
    refine ⟨hl, fun z => ?_⟩
    rcases z with ⟨j, x, hj⟩ | z
    · exact D_lr hD hq hj rfl
    · omega
  refine ⟨va_P.app (fun k q hq => (hP k q (app_get_l hq)).kept (hk q.1 (ap k q hq).1 (ap k q hq).2)) hP1, va_D.app (D_l hD) (hD1.weaken (fun k q _ h => hF q.1 h)) (fun i j x y hx hy hxy => ?_)⟩
  exact (ap i x hx).2 (by rw [hxy]; exact hD1.2 j y hy)
theorem arr_of {args : Array Value} {s : State} {ty : FieldType} (h : (Cond.arrayClass ty).before args s = true) : ∃ cA : ClassId, ArrOfT s cA ty ∧ s.vm.findClass ("[" ++ ty.toString) = some cA := by
  obtain ⟨cA, kA, comp, h1, h2, h3⟩ := Cond.arrayClass_spec h
  exact ⟨cA, fun n z => ⟨fun k h => (by cases h), kA, h2, comp, h3⟩, h1⟩
set_option maxHeartbeats 8000000 in
set_option maxRecDepth 40000 in
theorem st_eqC (a : Nat → Nat) (B : ClassId × ClassId × ClassId × ClassId) (q0 q1 : Nat) (u7 u8 : List Nat) : ([0, 1, 2, 11, 12, 13, 14, 15, 16, 17, 18, 3, 4, 5, 6, 7, 8, 9, 10, 19, 20, 21, 22, 23, 24, 25, 26, 27, 28, 29, 30, 31, 32, 33, 34, 35, 36, 37, 38, 39, 40, 41, 42, 43, 44, 45, 46, 47, 48, 49, 50, 51, 52, 53, 54, 55, 56, 57, 58, 59, 60, 61, 62, 63, 64, 65, 66, 67, 68, 69, 70, 71, 72, 73, 74, 75, 76, 77, 78, 79, 80, 81, 82, 83, 84, 85, 86, 87, 88, 89, 90, 91, 92, 93, 94, 95, 96, 97, 98, 99, 100, 101, 102] : List Nat).filterMap (fun i => (wi_X7 (a, B) q0 u7 ++ wi_X8 (a, B) q1 u8)[i]?) = wC (adc q0 u7, B) s0c ++ wM (adm q1 u8, B) s0m := rfl
set_option maxHeartbeats 8000000 in
set_option maxRecDepth 40000 in
theorem st_eqD (a : Nat → Nat) (B : ClassId × ClassId × ClassId × ClassId) (q0 q1 : Nat) (u7 u8 : List Nat) : ([0, 1, 2, 11, 12, 13, 14, 15, 16, 17, 18, 3, 4, 5, 6, 7, 8, 9, 10, 19, 20, 21, 22, 23, 24, 25, 26, 27, 28, 29, 30, 31, 32, 33, 34, 35, 36, 37, 38, 39, 40, 41, 42, 43, 44, 45, 46, 47, 48, 49, 50, 51, 52, 53, 54, 55, 56, 57, 58, 59, 60, 61, 62, 63, 64, 65, 66, 67, 68, 69, 70, 71, 72, 73, 74, 75, 76, 77, 78, 79, 80, 81, 82, 83, 84, 85, 86, 87, 88, 89, 90, 91, 92, 93, 94, 95, 96, 97, 98, 99, 100, 101, 102] : List Nat).map (fun i => (wi_X7 (a, B) q0 u7 ++ wi_X8 (a, B) q1 u8)[i]?) = (wC (adc q0 u7, B) s0c ++ wM (adm q1 u8, B) s0m).map some := rfl
theorem st_nd : va_nd [0, 1, 2, 11, 12, 13, 14, 15, 16, 17, 18, 3, 4, 5, 6, 7, 8, 9, 10, 19, 20, 21, 22, 23, 24, 25, 26, 27, 28, 29, 30, 31, 32, 33, 34, 35, 36, 37, 38, 39, 40, 41, 42, 43, 44, 45, 46, 47, 48, 49, 50, 51, 52, 53, 54, 55, 56, 57, 58, 59, 60, 61, 62, 63, 64, 65, 66, 67, 68, 69, 70, 71, 72, 73, 74, 75, 76, 77, 78, 79, 80, 81, 82, 83, 84, 85, 86, 87, 88, 89, 90, 91, 92, 93, 94, 95, 96, 97, 98, 99, 100, 101, 102] = true := by decide +kernel
theorem st_SF {A : Nat → Prop} {B : ClassId × ClassId × ClassId × ClassId} {q0 q1 : Nat} {u7 u8 : List Nat} {σc σm : St} (h : va_D A (wC (adc q0 u7, B) σc ++ wM (adm q1 u8, B) σm)) : SF A (adc q0 u7, B) (adm q1 u8) := by
  refine ⟨fun i j hi hj e => (D_l h).1 i j _ _ (wl_get hi) (wl_get hj) e, fun k hk => (D_l h).2 k _ (wl_get hk), fun i j hi hj e => (D_r h).1 i j _ _ (wl_get hi) (wl_get hj) e, fun k hk => (D_r h).2 k _ (wl_get hk), fun i j hi hj => ?_⟩
  exact D_lr h (wl_get hi) (wl_get hj)
def tmS : Nat → Term := fun i => if i = 0 then Term.string "FirstAwake$Reader" 47 else Term.string "FirstAwake$Reader" 57
set_option maxHeartbeats 8000000 in
theorem st_SE {args : Array Value} {s : State} (hts : ∀ w ∈ lw_tbl, w.before args s = true) (hgv : (Jvm.Cond.and given_1 narrow_1).before args s = true) : ∃ K V : Nat → Nat, SE K V (AL s) s s.heap := by
  have hs := flat_of_before _ hgv
  have hA : ∀ a : Nat, a < s.heap.size → ¬ AL s a := fun a h => Nat.not_le.mpr h
  have two : ∀ {P : Nat → Prop}, P 0 → P 1 → ∀ i : Nat, i < 2 → P i := by
    intro P p0 p1 i hi
    rcases (show i = 0 ∨ i = 1 by omega) with rfl | rfl
    · exact p0
    · exact p1
  obtain ⟨K, V, hK, hev⟩ := vk_Sof (args := args) (s := s) (N := 2) (tm := tmS) (len := slen) (byt := sbyt) (A := AL s)
    (two (by decide) (by decide))
    (two (hs _ (by decide +kernel)) (hs _ (by decide +kernel)))
    (two (hs _ (by decide +kernel)) (hs _ (by decide +kernel)))
    (two (hs _ (by decide +kernel)) (hs _ (by decide +kernel)))
    (two (hs _ (by decide +kernel)) (hs _ (by decide +kernel)))
    (two (by
      intro j hj
      match j, hj with
      | 0, _ => exact hs _ (by decide +kernel)
      | 1, _ => exact hs _ (by decide +kernel)
      | 2, _ => exact hs _ (by decide +kernel)
      | 3, _ => exact hs _ (by decide +kernel)
      | 4, _ => exact hs _ (by decide +kernel)
      | j + 5, h => exact absurd h (by simp [slen])) (by
      intro j hj
      match j, hj with
      | 0, _ => exact hs _ (by decide +kernel)
      | 1, _ => exact hs _ (by decide +kernel)
      | 2, _ => exact hs _ (by decide +kernel)
      | 3, _ => exact hs _ (by decide +kernel)
      | 4, _ => exact hs _ (by decide +kernel)
      | 5, _ => exact hs _ (by decide +kernel)
      | 6, _ => exact hs _ (by decide +kernel)
      | j + 7, h => exact absurd h (by simp [slen])))
    (by
      intro i j hi hj hij
      rcases (show i = 0 ∨ i = 1 by omega) with rfl | rfl <;> rcases (show j = 0 ∨ j = 1 by omega) with rfl | rfl
      · exact absurd rfl hij
      · exact Or.inl (hs _ (by decide +kernel))
      · exact Or.inr (hs _ (by decide +kernel))
      · exact absurd rfl hij) hA
  refine ⟨K, V, hK, va_Zof (hts _ (tq2 (i := 118) rfl)) (hts _ (tq1 (i := 10) rfl)) (va_eqi (hs _ (by decide +kernel))) hA, va_Zqof (hts _ (tq2 (i := 134) rfl)) (hts _ (tq1 (i := 12) rfl)) (hs _ (by decide +kernel)) hA, vk_R.of (hts _ (tq2 (i := 104) rfl)) (hev 0 (by decide)), vk_R.of (hts _ (tq2 (i := 173) rfl)) (hev 1 (by decide))⟩
set_option maxHeartbeats 8000000 in
theorem st_K {args : Array Value} {s : State} (htA : ∀ w ∈ wA, w.before args s = true) : ∃ (D : va_G) (B : ClassId × ClassId × ClassId × ClassId), ∀ a : Nat → Nat, va_K D vwCl (tyG (a, B)) s := by
  obtain ⟨c0, iS0, hKn0⟩ := u_known (C := RX0) (T := TX0) (N := 11) (n := 11) htA inX0 (htA _ q22)
  obtain ⟨c1, iS1, hKn1⟩ := u_known (C := RX1) (T := TX1) (N := 9) (n := 9) htA inX1 (htA _ q67)
  obtain ⟨c2, iS2, hKn2⟩ := u_known (C := RX2) (T := TX2) (N := 7) (n := 7) htA inX2 (htA _ q32)
  obtain ⟨c3, iS3, hKn3⟩ := u_known (C := RX3) (T := TX3) (N := 4) (n := 4) htA inX3 (htA _ q36)
  obtain ⟨c4, iS4, hKn4⟩ := u_known (C := RX4) (T := TX4) (N := 6) (n := 6) htA inX4 (htA _ q14)
  obtain ⟨c5, iS5, hKn5⟩ := u_known (C := RX5) (T := TX5) (N := 9) (n := 9) htA inX5 (htA _ q18)
  obtain ⟨c6, iS6, hKn6⟩ := u_known (C := RX6) (T := TX6) (N := 4) (n := 4) htA inX6 (htA _ q28)
  obtain ⟨c7, iS7, hKn7⟩ := u_known (C := RX7) (T := TX7) (N := 9) (n := 9) htA inX7 (htA _ q1)
  obtain ⟨c8, iS8, hKn8⟩ := u_known (C := RX8) (T := TX8) (N := 49) (n := 49) htA inX8 (htA _ q4)
  obtain ⟨cB, aB, fB⟩ := arr_of (htA _ q43)
  obtain ⟨cI, aI, fI⟩ := arr_of (htA _ q52)
  obtain ⟨cJ, aJ, fJ⟩ := arr_of (htA _ q110)
  obtain ⟨cZ, aZ, fZ⟩ := arr_of (htA _ q147)
  refine ⟨(fun k => if k = 0 then c0 else if k = 1 then c1 else if k = 2 then c2 else if k = 3 then c3 else if k = 4 then c4 else if k = 5 then c5 else if k = 6 then c6 else if k = 7 then c7 else c8, fun k => if k = 0 then iS0 else if k = 1 then iS1 else if k = 2 then iS2 else if k = 3 then iS3 else if k = 4 then iS4 else if k = 5 then iS5 else if k = 6 then iS6 else if k = 7 then iS7 else iS8), (cB, cI, cJ, cZ), fun a => ⟨?_, ?_⟩⟩
  · intro k q hq
    match k, hq with
    | 0, hq => cases hq; exact hKn0
    | 1, hq => cases hq; exact hKn1
    | 2, hq => cases hq; exact hKn2
    | 3, hq => cases hq; exact hKn3
    | 4, hq => cases hq; exact hKn4
    | 5, hq => cases hq; exact hKn5
    | 6, hq => cases hq; exact hKn6
    | 7, hq => cases hq; exact hKn7
    | 8, hq => cases hq; exact hKn8
    | k + 9, hq => simp [vwCl] at hq
  · intro k q hq
    match k, hq with
    | 0, hq => cases hq; exact ⟨aB, fB⟩
    | 1, hq => cases hq; exact ⟨aI, fI⟩
    | 2, hq => cases hq; exact ⟨aJ, fJ⟩
    | 3, hq => cases hq; exact ⟨aZ, fZ⟩
    | k + 4, hq => simp [tyG] at hq
theorem lki_L_9 : LkI RL 9 yX7_init cX7_init 1 0 := ⟨q7, q8, q2, q9, rfl, by decide +kernel, by decide +kernel, by decide +kernel⟩
theorem lki_L_12 : LkI RL 12 yX8_init cX8_init 1 0 := ⟨q112, q113, q5, q114, rfl, by decide +kernel, by decide +kernel, by decide +kernel⟩
set_option maxHeartbeats 8000000 in
set_option maxRecDepth 40000 in
theorem start_of {I : St → St → Prop} (ok : OkAll I) (h0 : I s0c s0m) {p : Program} {e : Env} {s : State} {m : MethodId} {below : List Frame} {meth : Method} {c : Code} (l : Launch) {b L : Nat} {xs : Nat → Int32} (hL : L ≤ 2048) (C0 : lw_At p s m meth c b L xs) : W p l e room_1 s m #[Value.ref b] below meth c s.heap [] 0 0 (lw_Z below #[Value.ref b] s) (entryFrame m ([Value.ref b] : List Value).toArray 4) := by
  obtain ⟨hx, hb, hr, hml, hown, hts, hX, hbl, hlocks, hgv⟩ := C0
  have htA : ∀ w ∈ wA, w.before #[Value.ref b] s = true := fun w hw => hts w (wA_in w hw)
  obtain ⟨K, V, hE⟩ := st_SE hts hgv
  obtain ⟨D, B, hK⟩ := st_K htA
  have hA : ∀ q : Nat, s.heap.size ≤ q → AL s q := fun _ h => h
  have C : Cx p s m #[.ref b] meth c code 4 RL D (tyG ((fun _ => 0 : Nat → Nat), B)) := ⟨hx, hb, hml, hown, htA, hlocks, hK _⟩
  have hS : va_S (AL s) s.heap s.heap [] := va_S.rf
  have hP : va_P D vwCl [] s.heap := fun k q h => by simp at h
  have hD : va_D (AL s) [] := ⟨fun i j p q h => by simp at h, fun k q h => by simp at h⟩
  have hl := lv_entry ([.ref b]) (n := 4) (Nat.le_of_ble_eq_true rfl)
  rw [lg_entry_eq]
  generalize (lg_sl ([.ref b]) ++ List.replicate (4 - (lg_sl ([.ref b])).length) Slot.unset).toArray = ls at hl ⊢
  have hl : lv_has ls 4 [(0, .ref b)] := hl
  refine va_new (ci := 7) (fs := [.null, .null, .null, .null, .null, .int 0, .null, .null, .null]) (C := RX7) (T := TX7) (N := 9) C.1 C.2.1 C.2.2.2.2.1 inX7 tyX7 tyX7_ok C.2.2.2.1 (C.2.2.2.2.1 _ q0) (C.2.2.2.2.1 _ q1) (C.2.2.2.2.1 _ q2) C.2.2.2.2.2.2 hP hD hS hA rfl bl_X7 (Nat.le_of_ble_eq_true rfl) (Nat.le_of_ble_eq_true rfl) dL_law_0 (fun q0 H hP hD hS => ?_)
  refine W.widen (k := 1) (n := 9) (Nat.le_refl _) (Nat.le_refl _) ?_
  refine lv_dup C.1 C.2.1 dL_law_3 rfl ?_
  have hP : va_P D vwCl ([] ++ [(q0, .inr (7, [.null, .null, .null, .null, .null, .int 0, .null, .null, .null]))]) H := hP
  have hD : va_D (AL s) ([] ++ [(q0, .inr (7, [.null, .null, .null, .null, .null, .int 0, .null, .null, .null]))]) := hD
  have hFc := z_free (D_r hD) hS hA
  refine va_callv (y_runI (As := []) (rest := [.ref q0]) C (P_r hP) (D_r hD) (ci_X7 l D ((fun _ => 0 : Nat → Nat), B) q0 _) lki_L_9 rfl ⟨rfl, rfl, Nat.le_of_ble_eq_true rfl, Nat.le_of_ble_eq_true rfl⟩ hl.1 rfl (Nat.le_of_ble_eq_true rfl) dL_law_4 ⟨Nat.le_of_ble_eq_true rfl, Nat.le_of_ble_eq_true rfl⟩) hS (fun q _ h => hFc q h) hFc (fun u7 t H1 locs ht hvm hw hB hz1 hk1 hS => ?_)
  obtain ⟨hP1, hK1, hD1⟩ := hB
  rw [ht] at hP1
  obtain ⟨hP, hD⟩ := join_app hP hD hk1 hFc hP1 hD1
  generalize H1 = H at hP hS ⊢
  have hP : va_P D vwCl (wi_X7 ((fun _ => 0 : Nat → Nat), B) q0 u7) H := hP
  have hD : va_D (AL s) (wi_X7 ((fun _ => 0 : Nat → Nat), B) q0 u7) := hD
  refine W.widen (k := 74) (n := 2182) (Nat.le_refl _) (Nat.le_refl _) ?_
  refine lv_astore_n (lv' := [(1, .ref q0), (0, .ref b)]) C.1 C.2.1 dL_law_7 rfl hl (by decide) rfl (fun ls hl => ?_)
  refine va_new (ci := 8) (fs := [.int 0, .null, .null, .null, .int 0, .null, .null, .null, .null, .null, .int 0, .int 0, .int 0, .int 0, .int 0, .null, .null, .int 0, .int 0, .null, .null, .int 0, .null, .int 0, .int 0, .int 0, .long 0, .int 0, .int 0, .int 0, .int 0, .null, .null, .null, .int 0, .null, .null, .null, .null, .null, .null, .int 0, .null, .null, .int 0, .null, .null, .null, .null]) (C := RX8) (T := TX8) (N := 49) C.1 C.2.1 C.2.2.2.2.1 inX8 tyX8 tyX8_ok C.2.2.2.1 (C.2.2.2.2.1 _ q3) (C.2.2.2.2.1 _ q4) (C.2.2.2.2.1 _ q5) C.2.2.2.2.2.2 hP hD hS hA rfl bl_X8 (Nat.le_of_ble_eq_true rfl) (Nat.le_of_ble_eq_true rfl) dL_law_8 (fun q1 H hP hD hS => ?_)
  refine W.widen (k := 75) (n := 2231) (Nat.le_refl _) (Nat.le_refl _) ?_
  refine lv_dup C.1 C.2.1 dL_law_11 rfl ?_
  have hFc := z_free (D_r hD) hS hA
  refine va_callv (y_runI (As := []) (rest := [.ref q1]) C (P_r hP) (D_r hD) (ci_X8 l D ((fun _ => 0 : Nat → Nat), B) q1 _) lki_L_12 rfl ⟨rfl, rfl, Nat.le_of_ble_eq_true rfl, Nat.le_of_ble_eq_true rfl⟩ hl.1 rfl (Nat.le_of_ble_eq_true rfl) dL_law_12 ⟨Nat.le_of_ble_eq_true rfl, Nat.le_of_ble_eq_true rfl⟩) hS (fun q _ h => hFc q h) hFc (fun u8 t H1 locs ht hvm hw hB hz1 hk1 hS => ?_)
  obtain ⟨hP1, hK1, hD1⟩ := hB
  rw [ht] at hP1
  obtain ⟨hP, hD⟩ := join_app hP hD hk1 hFc hP1 hD1
  generalize H1 = H at hP hS ⊢
  refine W.widen (k := 103) (n := 4117) (Nat.le_refl _) (Nat.le_refl _) ?_
  refine lv_astore_n (lv' := [(2, .ref q1), (1, .ref q0), (0, .ref b)]) C.1 C.2.1 dL_law_15 rfl hl (by decide) rfl (fun ls hl => ?_)
  refine lv_iconst (v := 0) C.1 C.2.1 dL_law_16 (by decide) ?_
  refine lv_istore_n (lv' := [(3, .int 0), (2, .ref q1), (1, .ref q0), (0, .ref b)]) C.1 C.2.1 dL_law_17 rfl hl (by decide) rfl (fun ls hl => ?_)
  have hP := hP.sub [0, 1, 2, 11, 12, 13, 14, 15, 16, 17, 18, 3, 4, 5, 6, 7, 8, 9, 10, 19, 20, 21, 22, 23, 24, 25, 26, 27, 28, 29, 30, 31, 32, 33, 34, 35, 36, 37, 38, 39, 40, 41, 42, 43, 44, 45, 46, 47, 48, 49, 50, 51, 52, 53, 54, 55, 56, 57, 58, 59, 60, 61, 62, 63, 64, 65, 66, 67, 68, 69, 70, 71, 72, 73, 74, 75, 76, 77, 78, 79, 80, 81, 82, 83, 84, 85, 86, 87, 88, 89, 90, 91, 92, 93, 94, 95, 96, 97, 98, 99, 100, 101, 102] (st_eqC (fun _ => 0) B q0 q1 u7 u8)
  have hD := hD.sub [0, 1, 2, 11, 12, 13, 14, 15, 16, 17, 18, 3, 4, 5, 6, 7, 8, 9, 10, 19, 20, 21, 22, 23, 24, 25, 26, 27, 28, 29, 30, 31, 32, 33, 34, 35, 36, 37, 38, 39, 40, 41, 42, 43, 44, 45, 46, 47, 48, 49, 50, 51, 52, 53, 54, 55, 56, 57, 58, 59, 60, 61, 62, 63, 64, 65, 66, 67, 68, 69, 70, 71, 72, 73, 74, 75, 76, 77, 78, 79, 80, 81, 82, 83, 84, 85, 86, 87, 88, 89, 90, 91, 92, 93, 94, 95, 96, 97, 98, 99, 100, 101, 102] st_nd (st_eqD (fun _ => 0) B q0 q1 u7 u8)
  exact law_loop (G := (adc q0 u7, B)) (am := adm q1 u8) (K := K) (V := V) ok ⟨⟨hx, hb, hml, hown, htA, hlocks, hK _⟩, hr, st_SF hD, hX, hbl, hL, hE⟩ (L + 1) 0 0 (Nat.zero_le L) (by omega) nI_0.symm s0c s0m h0 H _ ls ⟨P_l hP, P_r hP, hS⟩ (lv_sub hl [3, 2, 1, 0] rfl)
