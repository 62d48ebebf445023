theorem bl_X0 : ∀ j, j < 11 → defaultValue (tyX0 j) = vp_V [.null, .null, .int 0, .null, .null, .int 0, .int 0, .null, .null, .int 0, .null] j := by
  intro j hj
  match j, hj with
  | 0, _ => rfl
  | 1, _ => rfl
  | 2, _ => rfl
  | 3, _ => rfl
  | 4, _ => rfl
  | 5, _ => rfl
  | 6, _ => rfl
  | 7, _ => rfl
  | 8, _ => rfl
  | 9, _ => rfl
  | 10, _ => rfl
  | k + 11, h => exact absurd h (by omega)
theorem bl_X1 : ∀ j, j < 9 → defaultValue (tyX1 j) = vp_V [.null, .null, .int 0, .int 0, .int 0, .int 0, .null, .null, .null] j := by
  intro j hj
  match j, hj with
  | 0, _ => rfl
  | 1, _ => rfl
  | 2, _ => rfl
  | 3, _ => rfl
  | 4, _ => rfl
  | 5, _ => rfl
  | 6, _ => rfl
  | 7, _ => rfl
  | 8, _ => rfl
  | k + 9, h => exact absurd h (by omega)
theorem bl_X2 : ∀ j, j < 7 → defaultValue (tyX2 j) = vp_V [.null, .null, .null, .null, .int 0, .int 0, .int 0] j := by
  intro j hj
  match j, hj with
  | 0, _ => rfl
  | 1, _ => rfl
  | 2, _ => rfl
  | 3, _ => rfl
  | 4, _ => rfl
  | 5, _ => rfl
  | 6, _ => rfl
  | k + 7, h => exact absurd h (by omega)
theorem bl_X3 : ∀ j, j < 4 → defaultValue (tyX3 j) = vp_V [.null, .int 0, .long 0, .long 0] j := by
  intro j hj
  match j, hj with
  | 0, _ => rfl
  | 1, _ => rfl
  | 2, _ => rfl
  | 3, _ => rfl
  | k + 4, h => exact absurd h (by omega)
theorem bl_X4 : ∀ j, j < 6 → defaultValue (tyX4 j) = vp_V [.null, .int 0, .null, .int 0, .int 0, .int 0] j := by
  intro j hj
  match j, hj with
  | 0, _ => rfl
  | 1, _ => rfl
  | 2, _ => rfl
  | 3, _ => rfl
  | 4, _ => rfl
  | 5, _ => rfl
  | k + 6, h => exact absurd h (by omega)
theorem bl_X5 : ∀ j, j < 9 → defaultValue (tyX5 j) = vp_V [.int 0, .null, .null, .null, .int 0, .null, .null, .null, .null] j := by
  intro j hj
  match j, hj with
  | 0, _ => rfl
  | 1, _ => rfl
  | 2, _ => rfl
  | 3, _ => rfl
  | 4, _ => rfl
  | 5, _ => rfl
  | 6, _ => rfl
  | 7, _ => rfl
  | 8, _ => rfl
  | k + 9, h => exact absurd h (by omega)
theorem bl_X6 : ∀ j, j < 4 → defaultValue (tyX6 j) = vp_V [.int 0, .null, .null, .null] j := by
  intro j hj
  match j, hj with
  | 0, _ => rfl
  | 1, _ => rfl
  | 2, _ => rfl
  | 3, _ => rfl
  | k + 4, h => exact absurd h (by omega)
theorem bl_X7 : ∀ j, j < 9 → defaultValue (tyX7 j) = vp_V [.null, .null, .null, .null, .null, .int 0, .null, .null, .null] j := by
  intro j hj
  match j, hj with
  | 0, _ => rfl
  | 1, _ => rfl
  | 2, _ => rfl
  | 3, _ => rfl
  | 4, _ => rfl
  | 5, _ => rfl
  | 6, _ => rfl
  | 7, _ => rfl
  | 8, _ => rfl
  | k + 9, h => exact absurd h (by omega)
theorem bl_X8 : ∀ j, j < 49 → defaultValue (tyX8 j) = vp_V [.int 0, .null, .null, .null, .int 0, .null, .null, .null, .null, .null, .int 0, .int 0, .int 0, .int 0, .int 0, .null, .null, .int 0, .int 0, .null, .null, .int 0, .null, .int 0, .int 0, .int 0, .long 0, .int 0, .int 0, .int 0, .int 0, .null, .null, .null, .int 0, .null, .null, .null, .null, .null, .null, .int 0, .null, .null, .int 0, .null, .null, .null, .null] j := by
  intro j hj
  match j, hj with
  | 0, _ => rfl
  | 1, _ => rfl
  | 2, _ => rfl
  | 3, _ => rfl
  | 4, _ => rfl
  | 5, _ => rfl
  | 6, _ => rfl
  | 7, _ => rfl
  | 8, _ => rfl
  | 9, _ => rfl
  | 10, _ => rfl
  | 11, _ => rfl
  | 12, _ => rfl
  | 13, _ => rfl
  | 14, _ => rfl
  | 15, _ => rfl
  | 16, _ => rfl
  | 17, _ => rfl
  | 18, _ => rfl
  | 19, _ => rfl
  | 20, _ => rfl
  | 21, _ => rfl
  | 22, _ => rfl
  | 23, _ => rfl
  | 24, _ => rfl
  | 25, _ => rfl
  | 26, _ => rfl
  | 27, _ => rfl
  | 28, _ => rfl
  | 29, _ => rfl
  | 30, _ => rfl
  | 31, _ => rfl
  | 32, _ => rfl
  | 33, _ => rfl
  | 34, _ => rfl
  | 35, _ => rfl
  | 36, _ => rfl
  | 37, _ => rfl
  | 38, _ => rfl
  | 39, _ => rfl
  | 40, _ => rfl
  | 41, _ => rfl
  | 42, _ => rfl
  | 43, _ => rfl
  | 44, _ => rfl
  | 45, _ => rfl
  | 46, _ => rfl
  | 47, _ => rfl
  | 48, _ => rfl
  | k + 49, h => exact absurd h (by omega)
def wi_X5 (G : Geo) (h0 : Nat) (l : List Nat) : va_W := [(h0, .inr (5, [.int 0, .ref (l.getD 0 0), .ref (l.getD 1 0), .ref (l.getD 2 0), .int 0, .ref (l.getD 3 0), .ref (l.getD 4 0), .ref (l.getD 5 0), .ref (l.getD 6 0)])), ((l.getD 0 0), .inl (G.2.2.1, 5, .inl (fun _ => 0))), ((l.getD 1 0), .inl (G.2.2.1, 5, .inl (fun _ => 0))), ((l.getD 2 0), .inl (G.2.2.1, 5, .inl (fun _ => 0))), ((l.getD 3 0), .inl (G.2.2.1, 8, .inl (fun _ => 0))), ((l.getD 4 0), .inl (G.2.2.1, 8, .inl (fun _ => 0))), ((l.getD 5 0), .inl (G.2.2.1, 8, .inl (fun _ => 0))), ((l.getD 6 0), .inl (G.2.2.1, 8, .inl (fun _ => 0)))]
set_option maxHeartbeats 4000000 in
set_option maxRecDepth 20000 in
theorem ci_X5 (l : Launch) (D : va_G) (G : Geo) (h0 : Nat) : CN l D (tyG G) [(h0, .inr (5, [.int 0, .null, .null, .null, .int 0, .null, .null, .null, .null]))] (wi_X5 G h0) yX5_init cX5_init 1 { frames := 1, cells := 7, slots := 47, locals := 12 } [.ref h0] 7 47 := by
  refine cn_of pn_X5 rfl (Nat.le_of_ble_eq_true rfl) (fun p e s m below meth c A ls C hr hin hP hD hS hA hl => ?_)
  have C : Cx p s m _ meth c cX5_init 1 RX5 D (tyG G) := C
  have hl : lv_has ls 1 [(0, .ref h0)] := hl
  refine lv_aload_n C.1 C.2.1 dX5_init_0 rfl (lv_at hl 0 rfl) ?_
  refine y_oi C q51 q11 q12 hl.1 ⟨Nat.le_of_ble_eq_true rfl, Nat.le_of_ble_eq_true rfl⟩ dX5_init_1 ?_
  refine lv_aload_n C.1 C.2.1 dX5_init_4 rfl (lv_at hl 0 rfl) ?_
  refine lv_iconst (v := 5) C.1 C.2.1 dX5_init_5 (by decide) ?_
  refine y_newa (atype := .int) (ty := .int) C q52 rfl (fun _ _ h => h) hP hD hS hA 1 rfl (a0 := (5, .inl (fun _ => 0))) (N := 5) (fun _ => rfl) (by decide) (by decide) (Nat.le_of_ble_eq_true rfl) (Nat.le_of_ble_eq_true rfl) (Nat.le_of_ble_eq_true rfl) dX5_init_6 (fun q1 H hP hD hS => ?_)
  have hP : va_P D vwCl [(h0, .inr (5, [.int 0, .null, .null, .null, .int 0, .null, .null, .null, .null])), (q1, .inl (G.2.2.1, 5, .inl (fun _ => 0)))] H := hP
  have hD : va_D A [(h0, .inr (5, [.int 0, .null, .null, .null, .int 0, .null, .null, .null, .null])), (q1, .inl (G.2.2.1, 5, .inl (fun _ => 0)))] := hD
  refine W.widen (k := 1) (n := 5) (Nat.le_refl _) (Nat.le_refl _) ?_
  refine va_putF (v := .ref q1) (ty := .array .int) (C := RX5) (T := TX5) (N := 9) C.1 C.2.1 C.2.2.2.2.1 inX5 tyX5 tyX5_ok nmX5 C.2.2.2.1 C.2.2.2.2.2.2 hP hD hS 0 rfl rfl 1 (by decide) (C.2.2.2.2.1 _ q53) (fun _ h9 => h9) rfl hin rfl (by decide +kernel) rfl rfl (Nat.le_of_ble_eq_true rfl) dX5_init_8 (fun H locs hP hD hS => ?_)
  have hP : va_P D vwCl [(h0, .inr (5, [.int 0, .ref q1, .null, .null, .int 0, .null, .null, .null, .null])), (q1, .inl (G.2.2.1, 5, .inl (fun _ => 0)))] H := hP
  have hD : va_D A [(h0, .inr (5, [.int 0, .ref q1, .null, .null, .int 0, .null, .null, .null, .null])), (q1, .inl (G.2.2.1, 5, .inl (fun _ => 0)))] := hD
  refine lv_aload_n C.1 C.2.1 dX5_init_11 rfl (lv_at hl 0 rfl) ?_
  refine lv_iconst (v := 5) C.1 C.2.1 dX5_init_12 (by decide) ?_
  refine y_newa (atype := .int) (ty := .int) C q52 rfl (fun _ _ h => h) hP hD hS hA 1 rfl (a0 := (5, .inl (fun _ => 0))) (N := 5) (fun _ => rfl) (by decide) (by decide) (Nat.le_of_ble_eq_true rfl) (Nat.le_of_ble_eq_true rfl) (Nat.le_of_ble_eq_true rfl) dX5_init_13 (fun q2 H hP hD hS => ?_)
  have hP : va_P D vwCl [(h0, .inr (5, [.int 0, .ref q1, .null, .null, .int 0, .null, .null, .null, .null])), (q1, .inl (G.2.2.1, 5, .inl (fun _ => 0))), (q2, .inl (G.2.2.1, 5, .inl (fun _ => 0)))] H := hP
  have hD : va_D A [(h0, .inr (5, [.int 0, .ref q1, .null, .null, .int 0, .null, .null, .null, .null])), (q1, .inl (G.2.2.1, 5, .inl (fun _ => 0))), (q2, .inl (G.2.2.1, 5, .inl (fun _ => 0)))] := hD
  refine W.widen (k := 2) (n := 10) (Nat.le_refl _) (Nat.le_refl _) ?_
  refine va_putF (v := .ref q2) (ty := .array .int) (C := RX5) (T := TX5) (N := 9) C.1 C.2.1 C.2.2.2.2.1 inX5 tyX5 tyX5_ok nmX5 C.2.2.2.1 C.2.2.2.2.2.2 hP hD hS 0 rfl rfl 2 (by decide) (C.2.2.2.2.1 _ q54) (fun _ h9 => h9) rfl hin rfl (by decide +kernel) rfl rfl (Nat.le_of_ble_eq_true rfl) dX5_init_15 (fun H locs hP hD hS => ?_)
  have hP : va_P D vwCl [(h0, .inr (5, [.int 0, .ref q1, .ref q2, .null, .int 0, .null, .null, .null, .null])), (q1, .inl (G.2.2.1, 5, .inl (fun _ => 0))), (q2, .inl (G.2.2.1, 5, .inl (fun _ => 0)))] H := hP
  have hD : va_D A [(h0, .inr (5, [.int 0, .ref q1, .ref q2, .null, .int 0, .null, .null, .null, .null])), (q1, .inl (G.2.2.1, 5, .inl (fun _ => 0))), (q2, .inl (G.2.2.1, 5, .inl (fun _ => 0)))] := hD
  refine lv_aload_n C.1 C.2.1 dX5_init_18 rfl (lv_at hl 0 rfl) ?_
  refine lv_iconst (v := 5) C.1 C.2.1 dX5_init_19 (by decide) ?_
  refine y_newa (atype := .int) (ty := .int) C q52 rfl (fun _ _ h => h) hP hD hS hA 1 rfl (a0 := (5, .inl (fun _ => 0))) (N := 5) (fun _ => rfl) (by decide) (by decide) (Nat.le_of_ble_eq_true rfl) (Nat.le_of_ble_eq_true rfl) (Nat.le_of_ble_eq_true rfl) dX5_init_20 (fun q3 H hP hD hS => ?_)
  have hP : va_P D vwCl [(h0, .inr (5, [.int 0, .ref q1, .ref q2, .null, .int 0, .null, .null, .null, .null])), (q1, .inl (G.2.2.1, 5, .inl (fun _ => 0))), (q2, .inl (G.2.2.1, 5, .inl (fun _ => 0))), (q3, .inl (G.2.2.1, 5, .inl (fun _ => 0)))] H := hP
  have hD : va_D A [(h0, .inr (5, [.int 0, .ref q1, .ref q2, .null, .int 0, .null, .null, .null, .null])), (q1, .inl (G.2.2.1, 5, .inl (fun _ => 0))), (q2, .inl (G.2.2.1, 5, .inl (fun _ => 0))), (q3, .inl (G.2.2.1, 5, .inl (fun _ => 0)))] := hD
  refine W.widen (k := 3) (n := 15) (Nat.le_refl _) (Nat.le_refl _) ?_
  refine va_putF (v := .ref q3) (ty := .array .int) (C := RX5) (T := TX5) (N := 9) C.1 C.2.1 C.2.2.2.2.1 inX5 tyX5 tyX5_ok nmX5 C.2.2.2.1 C.2.2.2.2.2.2 hP hD hS 0 rfl rfl 3 (by decide) (C.2.2.2.2.1 _ q55) (fun _ h9 => h9) rfl hin rfl (by decide +kernel) rfl rfl (Nat.le_of_ble_eq_true rfl) dX5_init_22 (fun H locs hP hD hS => ?_)
  have hP : va_P D vwCl [(h0, .inr (5, [.int 0, .ref q1, .ref q2, .ref q3, .int 0, .null, .null, .null, .null])), (q1, .inl (G.2.2.1, 5, .inl (fun _ => 0))), (q2, .inl (G.2.2.1, 5, .inl (fun _ => 0))), (q3, .inl (G.2.2.1, 5, .inl (fun _ => 0)))] H := hP
  have hD : va_D A [(h0, .inr (5, [.int 0, .ref q1, .ref q2, .ref q3, .int 0, .null, .null, .null, .null])), (q1, .inl (G.2.2.1, 5, .inl (fun _ => 0))), (q2, .inl (G.2.2.1, 5, .inl (fun _ => 0))), (q3, .inl (G.2.2.1, 5, .inl (fun _ => 0)))] := hD
  refine lv_aload_n C.1 C.2.1 dX5_init_25 rfl (lv_at hl 0 rfl) ?_
  refine lv_bipush (v := 8) C.1 C.2.1 dX5_init_26 (by decide) ?_
  refine y_newa (atype := .int) (ty := .int) C q52 rfl (fun _ _ h => h) hP hD hS hA 1 rfl (a0 := (8, .inl (fun _ => 0))) (N := 8) (fun _ => rfl) (by decide) (by decide) (Nat.le_of_ble_eq_true rfl) (Nat.le_of_ble_eq_true rfl) (Nat.le_of_ble_eq_true rfl) dX5_init_28 (fun q4 H hP hD hS => ?_)
  have hP : va_P D vwCl [(h0, .inr (5, [.int 0, .ref q1, .ref q2, .ref q3, .int 0, .null, .null, .null, .null])), (q1, .inl (G.2.2.1, 5, .inl (fun _ => 0))), (q2, .inl (G.2.2.1, 5, .inl (fun _ => 0))), (q3, .inl (G.2.2.1, 5, .inl (fun _ => 0))), (q4, .inl (G.2.2.1, 8, .inl (fun _ => 0)))] H := hP
  have hD : va_D A [(h0, .inr (5, [.int 0, .ref q1, .ref q2, .ref q3, .int 0, .null, .null, .null, .null])), (q1, .inl (G.2.2.1, 5, .inl (fun _ => 0))), (q2, .inl (G.2.2.1, 5, .inl (fun _ => 0))), (q3, .inl (G.2.2.1, 5, .inl (fun _ => 0))), (q4, .inl (G.2.2.1, 8, .inl (fun _ => 0)))] := hD
  refine W.widen (k := 4) (n := 23) (Nat.le_refl _) (Nat.le_refl _) ?_
  refine va_putF (v := .ref q4) (ty := .array .int) (C := RX5) (T := TX5) (N := 9) C.1 C.2.1 C.2.2.2.2.1 inX5 tyX5 tyX5_ok nmX5 C.2.2.2.1 C.2.2.2.2.2.2 hP hD hS 0 rfl rfl 5 (by decide) (C.2.2.2.2.1 _ q56) (fun _ h9 => h9) rfl hin rfl (by decide +kernel) rfl rfl (Nat.le_of_ble_eq_true rfl) dX5_init_30 (fun H locs hP hD hS => ?_)
  have hP : va_P D vwCl [(h0, .inr (5, [.int 0, .ref q1, .ref q2, .ref q3, .int 0, .ref q4, .null, .null, .null])), (q1, .inl (G.2.2.1, 5, .inl (fun _ => 0))), (q2, .inl (G.2.2.1, 5, .inl (fun _ => 0))), (q3, .inl (G.2.2.1, 5, .inl (fun _ => 0))), (q4, .inl (G.2.2.1, 8, .inl (fun _ => 0)))] H := hP
  have hD : va_D A [(h0, .inr (5, [.int 0, .ref q1, .ref q2, .ref q3, .int 0, .ref q4, .null, .null, .null])), (q1, .inl (G.2.2.1, 5, .inl (fun _ => 0))), (q2, .inl (G.2.2.1, 5, .inl (fun _ => 0))), (q3, .inl (G.2.2.1, 5, .inl (fun _ => 0))), (q4, .inl (G.2.2.1, 8, .inl (fun _ => 0)))] := hD
  refine lv_aload_n C.1 C.2.1 dX5_init_33 rfl (lv_at hl 0 rfl) ?_
  refine lv_bipush (v := 8) C.1 C.2.1 dX5_init_34 (by decide) ?_
  refine y_newa (atype := .int) (ty := .int) C q52 rfl (fun _ _ h => h) hP hD hS hA 1 rfl (a0 := (8, .inl (fun _ => 0))) (N := 8) (fun _ => rfl) (by decide) (by decide) (Nat.le_of_ble_eq_true rfl) (Nat.le_of_ble_eq_true rfl) (Nat.le_of_ble_eq_true rfl) dX5_init_36 (fun q5 H hP hD hS => ?_)
  have hP : va_P D vwCl [(h0, .inr (5, [.int 0, .ref q1, .ref q2, .ref q3, .int 0, .ref q4, .null, .null, .null])), (q1, .inl (G.2.2.1, 5, .inl (fun _ => 0))), (q2, .inl (G.2.2.1, 5, .inl (fun _ => 0))), (q3, .inl (G.2.2.1, 5, .inl (fun _ => 0))), (q4, .inl (G.2.2.1, 8, .inl (fun _ => 0))), (q5, .inl (G.2.2.1, 8, .inl (fun _ => 0)))] H := hP
  have hD : va_D A [(h0, .inr (5, [.int 0, .ref q1, .ref q2, .ref q3, .int 0, .ref q4, .null, .null, .null])), (q1, .inl (G.2.2.1, 5, .inl (fun _ => 0))), (q2, .inl (G.2.2.1, 5, .inl (fun _ => 0))), (q3, .inl (G.2.2.1, 5, .inl (fun _ => 0))), (q4, .inl (G.2.2.1, 8, .inl (fun _ => 0))), (q5, .inl (G.2.2.1, 8, .inl (fun _ => 0)))] := hD
  refine W.widen (k := 5) (n := 31) (Nat.le_refl _) (Nat.le_refl _) ?_
  refine va_putF (v := .ref q5) (ty := .array .int) (C := RX5) (T := TX5) (N := 9) C.1 C.2.1 C.2.2.2.2.1 inX5 tyX5 tyX5_ok nmX5 C.2.2.2.1 C.2.2.2.2.2.2 hP hD hS 0 rfl rfl 6 (by decide) (C.2.2.2.2.1 _ q57) (fun _ h9 => h9) rfl hin rfl (by decide +kernel) rfl rfl (Nat.le_of_ble_eq_true rfl) dX5_init_38 (fun H locs hP hD hS => ?_)
  have hP : va_P D vwCl [(h0, .inr (5, [.int 0, .ref q1, .ref q2, .ref q3, .int 0, .ref q4, .ref q5, .null, .null])), (q1, .inl (G.2.2.1, 5, .inl (fun _ => 0))), (q2, .inl (G.2.2.1, 5, .inl (fun _ => 0))), (q3, .inl (G.2.2.1, 5, .inl (fun _ => 0))), (q4, .inl (G.2.2.1, 8, .inl (fun _ => 0))), (q5, .inl (G.2.2.1, 8, .inl (fun _ => 0)))] H := hP
  have hD : va_D A [(h0, .inr (5, [.int 0, .ref q1, .ref q2, .ref q3, .int 0, .ref q4, .ref q5, .null, .null])), (q1, .inl (G.2.2.1, 5, .inl (fun _ => 0))), (q2, .inl (G.2.2.1, 5, .inl (fun _ => 0))), (q3, .inl (G.2.2.1, 5, .inl (fun _ => 0))), (q4, .inl (G.2.2.1, 8, .inl (fun _ => 0))), (q5, .inl (G.2.2.1, 8, .inl (fun _ => 0)))] := hD
  refine lv_aload_n C.1 C.2.1 dX5_init_41 rfl (lv_at hl 0 rfl) ?_
  refine lv_bipush (v := 8) C.1 C.2.1 dX5_init_42 (by decide) ?_
  refine y_newa (atype := .int) (ty := .int) C q52 rfl (fun _ _ h => h) hP hD hS hA 1 rfl (a0 := (8, .inl (fun _ => 0))) (N := 8) (fun _ => rfl) (by decide) (by decide) (Nat.le_of_ble_eq_true rfl) (Nat.le_of_ble_eq_true rfl) (Nat.le_of_ble_eq_true rfl) dX5_init_44 (fun q6 H hP hD hS => ?_)
  have hP : va_P D vwCl [(h0, .inr (5, [.int 0, .ref q1, .ref q2, .ref q3, .int 0, .ref q4, .ref q5, .null, .null])), (q1, .inl (G.2.2.1, 5, .inl (fun _ => 0))), (q2, .inl (G.2.2.1, 5, .inl (fun _ => 0))), (q3, .inl (G.2.2.1, 5, .inl (fun _ => 0))), (q4, .inl (G.2.2.1, 8, .inl (fun _ => 0))), (q5, .inl (G.2.2.1, 8, .inl (fun _ => 0))), (q6, .inl (G.2.2.1, 8, .inl (fun _ => 0)))] H := hP
  have hD : va_D A [(h0, .inr (5, [.int 0, .ref q1, .ref q2, .ref q3, .int 0, .ref q4, .ref q5, .null, .null])), (q1, .inl (G.2.2.1, 5, .inl (fun _ => 0))), (q2, .inl (G.2.2.1, 5, .inl (fun _ => 0))), (q3, .inl (G.2.2.1, 5, .inl (fun _ => 0))), (q4, .inl (G.2.2.1, 8, .inl (fun _ => 0))), (q5, .inl (G.2.2.1, 8, .inl (fun _ => 0))), (q6, .inl (G.2.2.1, 8, .inl (fun _ => 0)))] := hD
  refine W.widen (k := 6) (n := 39) (Nat.le_refl _) (Nat.le_refl _) ?_
  refine va_putF (v := .ref q6) (ty := .array .int) (C := RX5) (T := TX5) (N := 9) C.1 C.2.1 C.2.2.2.2.1 inX5 tyX5 tyX5_ok nmX5 C.2.2.2.1 C.2.2.2.2.2.2 hP hD hS 0 rfl rfl 7 (by decide) (C.2.2.2.2.1 _ q58) (fun _ h9 => h9) rfl hin rfl (by decide +kernel) rfl rfl (Nat.le_of_ble_eq_true rfl) dX5_init_46 (fun H locs hP hD hS => ?_)
  have hP : va_P D vwCl [(h0, .inr (5, [.int 0, .ref q1, .ref q2, .ref q3, .int 0, .ref q4, .ref q5, .ref q6, .null])), (q1, .inl (G.2.2.1, 5, .inl (fun _ => 0))), (q2, .inl (G.2.2.1, 5, .inl (fun _ => 0))), (q3, .inl (G.2.2.1, 5, .inl (fun _ => 0))), (q4, .inl (G.2.2.1, 8, .inl (fun _ => 0))), (q5, .inl (G.2.2.1, 8, .inl (fun _ => 0))), (q6, .inl (G.2.2.1, 8, .inl (fun _ => 0)))] H := hP
  have hD : va_D A [(h0, .inr (5, [.int 0, .ref q1, .ref q2, .ref q3, .int 0, .ref q4, .ref q5, .ref q6, .null])), (q1, .inl (G.2.2.1, 5, .inl (fun _ => 0))), (q2, .inl (G.2.2.1, 5, .inl (fun _ => 0))), (q3, .inl (G.2.2.1, 5, .inl (fun _ => 0))), (q4, .inl (G.2.2.1, 8, .inl (fun _ => 0))), (q5, .inl (G.2.2.1, 8, .inl (fun _ => 0))), (q6, .inl (G.2.2.1, 8, .inl (fun _ => 0)))] := hD
  refine lv_aload_n C.1 C.2.1 dX5_init_49 rfl (lv_at hl 0 rfl) ?_
  refine lv_bipush (v := 8) C.1 C.2.1 dX5_init_50 (by decide) ?_
  refine y_newa (atype := .int) (ty := .int) C q52 rfl (fun _ _ h => h) hP hD hS hA 1 rfl (a0 := (8, .inl (fun _ => 0))) (N := 8) (fun _ => rfl) (by decide) (by decide) (Nat.le_of_ble_eq_true rfl) (Nat.le_of_ble_eq_true rfl) (Nat.le_of_ble_eq_true rfl) dX5_init_52 (fun q7 H hP hD hS => ?_)
  have hP : va_P D vwCl [(h0, .inr (5, [.int 0, .ref q1, .ref q2, .ref q3, .int 0, .ref q4, .ref q5, .ref q6, .null])), (q1, .inl (G.2.2.1, 5, .inl (fun _ => 0))), (q2, .inl (G.2.2.1, 5, .inl (fun _ => 0))), (q3, .inl (G.2.2.1, 5, .inl (fun _ => 0))), (q4, .inl (G.2.2.1, 8, .inl (fun _ => 0))), (q5, .inl (G.2.2.1, 8, .inl (fun _ => 0))), (q6, .inl (G.2.2.1, 8, .inl (fun _ => 0))), (q7, .inl (G.2.2.1, 8, .inl (fun _ => 0)))] H := hP
  have hD : va_D A [(h0, .inr (5, [.int 0, .ref q1, .ref q2, .ref q3, .int 0, .ref q4, .ref q5, .ref q6, .null])), (q1, .inl (G.2.2.1, 5, .inl (fun _ => 0))), (q2, .inl (G.2.2.1, 5, .inl (fun _ => 0))), (q3, .inl (G.2.2.1, 5, .inl (fun _ => 0))), (q4, .inl (G.2.2.1, 8, .inl (fun _ => 0))), (q5, .inl (G.2.2.1, 8, .inl (fun _ => 0))), (q6, .inl (G.2.2.1, 8, .inl (fun _ => 0))), (q7, .inl (G.2.2.1, 8, .inl (fun _ => 0)))] := hD
  refine W.widen (k := 7) (n := 47) (Nat.le_refl _) (Nat.le_refl _) ?_
  refine va_putF (v := .ref q7) (ty := .array .int) (C := RX5) (T := TX5) (N := 9) C.1 C.2.1 C.2.2.2.2.1 inX5 tyX5 tyX5_ok nmX5 C.2.2.2.1 C.2.2.2.2.2.2 hP hD hS 0 rfl rfl 8 (by decide) (C.2.2.2.2.1 _ q59) (fun _ h9 => h9) rfl hin rfl (by decide +kernel) rfl rfl (Nat.le_of_ble_eq_true rfl) dX5_init_54 (fun H locs hP hD hS => ?_)
  have hP : va_P D vwCl [(h0, .inr (5, [.int 0, .ref q1, .ref q2, .ref q3, .int 0, .ref q4, .ref q5, .ref q6, .ref q7])), (q1, .inl (G.2.2.1, 5, .inl (fun _ => 0))), (q2, .inl (G.2.2.1, 5, .inl (fun _ => 0))), (q3, .inl (G.2.2.1, 5, .inl (fun _ => 0))), (q4, .inl (G.2.2.1, 8, .inl (fun _ => 0))), (q5, .inl (G.2.2.1, 8, .inl (fun _ => 0))), (q6, .inl (G.2.2.1, 8, .inl (fun _ => 0))), (q7, .inl (G.2.2.1, 8, .inl (fun _ => 0)))] H := hP
  have hD : va_D A [(h0, .inr (5, [.int 0, .ref q1, .ref q2, .ref q3, .int 0, .ref q4, .ref q5, .ref q6, .ref q7])), (q1, .inl (G.2.2.1, 5, .inl (fun _ => 0))), (q2, .inl (G.2.2.1, 5, .inl (fun _ => 0))), (q3, .inl (G.2.2.1, 5, .inl (fun _ => 0))), (q4, .inl (G.2.2.1, 8, .inl (fun _ => 0))), (q5, .inl (G.2.2.1, 8, .inl (fun _ => 0))), (q6, .inl (G.2.2.1, 8, .inl (fun _ => 0))), (q7, .inl (G.2.2.1, 8, .inl (fun _ => 0)))] := hD
  exact y_ret C hr [q1, q2, q3, q4, q5, q6, q7] rfl hP hD hS dX5_init_57
def wi_X1 (G : Geo) (h0 : Nat) (v : Nat) (l : List Nat) : va_W := [(h0, .inr (1, [.ref v, .ref (l.getD 0 0), .int (-1), .int (-1), .int (-1), .int 0, .ref (l.getD 1 0), .ref (l.getD 2 0), .ref (l.getD 3 0)])), ((l.getD 0 0), .inl (G.2.2.1, 8, .inl (fun _ => 0))), ((l.getD 1 0), .inl (G.2.2.1, 8, .inl (fun _ => 0))), ((l.getD 2 0), .inl (G.2.2.1, 8, .inl (fun _ => 0))), ((l.getD 3 0), .inl (G.2.2.1, 8, .inl (fun _ => 0)))]
set_option maxHeartbeats 4000000 in
set_option maxRecDepth 20000 in
theorem ci_X1 (l : Launch) (D : va_G) (G : Geo) (h0 : Nat) (v : Nat) : CN l D (tyG G) [(h0, .inr (1, [.null, .null, .int 0, .int 0, .int 0, .int 0, .null, .null, .null]))] (wi_X1 G h0 v) yX1_init cX1_init 2 { frames := 1, cells := 4, slots := 32, locals := 12 } [.ref h0, .ref v] 4 32 := by
  refine cn_of pn_X1 rfl (Nat.le_of_ble_eq_true rfl) (fun p e s m below meth c A ls C hr hin hP hD hS hA hl => ?_)
  have C : Cx p s m _ meth c cX1_init 2 RX1 D (tyG G) := C
  have hl : lv_has ls 2 [(0, .ref h0), (1, .ref v)] := hl
  refine lv_aload_n C.1 C.2.1 dX1_init_0 rfl (lv_at hl 0 rfl) ?_
  refine y_oi C q78 q11 q12 hl.1 ⟨Nat.le_of_ble_eq_true rfl, Nat.le_of_ble_eq_true rfl⟩ dX1_init_1 ?_
  refine lv_aload_n C.1 C.2.1 dX1_init_4 rfl (lv_at hl 0 rfl) ?_
  refine lv_aload_n C.1 C.2.1 dX1_init_5 rfl (lv_at hl 1 rfl) ?_
  refine va_putF (v := .ref v) (ty := .object "FirstAwake$Valley") (C := RX1) (T := TX1) (N := 9) C.1 C.2.1 C.2.2.2.2.1 inX1 tyX1 tyX1_ok nmX1 C.2.2.2.1 C.2.2.2.2.2.2 hP hD hS 0 rfl rfl 0 (by decide) (C.2.2.2.2.1 _ q79) (fun _ h9 => h9) rfl hin rfl (by decide +kernel) rfl rfl (Nat.le_of_ble_eq_true rfl) dX1_init_6 (fun H locs hP hD hS => ?_)
  have hP : va_P D vwCl [(h0, .inr (1, [.ref v, .null, .int 0, .int 0, .int 0, .int 0, .null, .null, .null]))] H := hP
  have hD : va_D A [(h0, .inr (1, [.ref v, .null, .int 0, .int 0, .int 0, .int 0, .null, .null, .null]))] := hD
  refine lv_aload_n C.1 C.2.1 dX1_init_9 rfl (lv_at hl 0 rfl) ?_
  refine lv_bipush (v := 8) C.1 C.2.1 dX1_init_10 (by decide) ?_
  refine y_newa (atype := .int) (ty := .int) C q52 rfl (fun _ _ h => h) hP hD hS hA 1 rfl (a0 := (8, .inl (fun _ => 0))) (N := 8) (fun _ => rfl) (by decide) (by decide) (Nat.le_of_ble_eq_true rfl) (Nat.le_of_ble_eq_true rfl) (Nat.le_of_ble_eq_true rfl) dX1_init_12 (fun q1 H hP hD hS => ?_)
  have hP : va_P D vwCl [(h0, .inr (1, [.ref v, .null, .int 0, .int 0, .int 0, .int 0, .null, .null, .null])), (q1, .inl (G.2.2.1, 8, .inl (fun _ => 0)))] H := hP
  have hD : va_D A [(h0, .inr (1, [.ref v, .null, .int 0, .int 0, .int 0, .int 0, .null, .null, .null])), (q1, .inl (G.2.2.1, 8, .inl (fun _ => 0)))] := hD
  refine W.widen (k := 1) (n := 8) (Nat.le_refl _) (Nat.le_refl _) ?_
  refine va_putF (v := .ref q1) (ty := .array .int) (C := RX1) (T := TX1) (N := 9) C.1 C.2.1 C.2.2.2.2.1 inX1 tyX1 tyX1_ok nmX1 C.2.2.2.1 C.2.2.2.2.2.2 hP hD hS 0 rfl rfl 1 (by decide) (C.2.2.2.2.1 _ q80) (fun _ h9 => h9) rfl hin rfl (by decide +kernel) rfl rfl (Nat.le_of_ble_eq_true rfl) dX1_init_14 (fun H locs hP hD hS => ?_)
  have hP : va_P D vwCl [(h0, .inr (1, [.ref v, .ref q1, .int 0, .int 0, .int 0, .int 0, .null, .null, .null])), (q1, .inl (G.2.2.1, 8, .inl (fun _ => 0)))] H := hP
  have hD : va_D A [(h0, .inr (1, [.ref v, .ref q1, .int 0, .int 0, .int 0, .int 0, .null, .null, .null])), (q1, .inl (G.2.2.1, 8, .inl (fun _ => 0)))] := hD
  refine lv_aload_n C.1 C.2.1 dX1_init_17 rfl (lv_at hl 0 rfl) ?_
  refine lv_iconst (v := (-1)) C.1 C.2.1 dX1_init_18 (by decide) ?_
  refine va_put (v := .int (-1)) (ty := .int) (C := RX1) (T := TX1) (N := 9) C.1 C.2.1 C.2.2.2.2.1 inX1 tyX1 tyX1_ok nmX1 C.2.2.2.1 C.2.2.2.2.2.2 hP hD hS 0 rfl rfl 2 (by decide) (C.2.2.2.2.1 _ q81) (fun _ h9 => h9) rfl (by decide +kernel) rfl rfl (Nat.le_of_ble_eq_true rfl) dX1_init_19 (fun H locs hP hD hS => ?_)
  have hP : va_P D vwCl [(h0, .inr (1, [.ref v, .ref q1, .int (-1), .int 0, .int 0, .int 0, .null, .null, .null])), (q1, .inl (G.2.2.1, 8, .inl (fun _ => 0)))] H := hP
  have hD : va_D A [(h0, .inr (1, [.ref v, .ref q1, .int (-1), .int 0, .int 0, .int 0, .null, .null, .null])), (q1, .inl (G.2.2.1, 8, .inl (fun _ => 0)))] := hD
  refine lv_aload_n C.1 C.2.1 dX1_init_22 rfl (lv_at hl 0 rfl) ?_
  refine lv_iconst (v := (-1)) C.1 C.2.1 dX1_init_23 (by decide) ?_
  refine va_put (v := .int (-1)) (ty := .int) (C := RX1) (T := TX1) (N := 9) C.1 C.2.1 C.2.2.2.2.1 inX1 tyX1 tyX1_ok nmX1 C.2.2.2.1 C.2.2.2.2.2.2 hP hD hS 0 rfl rfl 3 (by decide) (C.2.2.2.2.1 _ q82) (fun _ h9 => h9) rfl (by decide +kernel) rfl rfl (Nat.le_of_ble_eq_true rfl) dX1_init_24 (fun H locs hP hD hS => ?_)
  have hP : va_P D vwCl [(h0, .inr (1, [.ref v, .ref q1, .int (-1), .int (-1), .int 0, .int 0, .null, .null, .null])), (q1, .inl (G.2.2.1, 8, .inl (fun _ => 0)))] H := hP
  have hD : va_D A [(h0, .inr (1, [.ref v, .ref q1, .int (-1), .int (-1), .int 0, .int 0, .null, .null, .null])), (q1, .inl (G.2.2.1, 8, .inl (fun _ => 0)))] := hD
  refine lv_aload_n C.1 C.2.1 dX1_init_27 rfl (lv_at hl 0 rfl) ?_
  refine lv_iconst (v := (-1)) C.1 C.2.1 dX1_init_28 (by decide) ?_
  refine va_put (v := .int (-1)) (ty := .int) (C := RX1) (T := TX1) (N := 9) C.1 C.2.1 C.2.2.2.2.1 inX1 tyX1 tyX1_ok nmX1 C.2.2.2.1 C.2.2.2.2.2.2 hP hD hS 0 rfl rfl 4 (by decide) (C.2.2.2.2.1 _ q83) (fun _ h9 => h9) rfl (by decide +kernel) rfl rfl (Nat.le_of_ble_eq_true rfl) dX1_init_29 (fun H locs hP hD hS => ?_)
  have hP : va_P D vwCl [(h0, .inr (1, [.ref v, .ref q1, .int (-1), .int (-1), .int (-1), .int 0, .null, .null, .null])), (q1, .inl (G.2.2.1, 8, .inl (fun _ => 0)))] H := hP
  have hD : va_D A [(h0, .inr (1, [.ref v, .ref q1, .int (-1), .int (-1), .int (-1), .int 0, .null, .null, .null])), (q1, .inl (G.2.2.1, 8, .inl (fun _ => 0)))] := hD
  refine lv_aload_n C.1 C.2.1 dX1_init_32 rfl (lv_at hl 0 rfl) ?_
  refine lv_bipush (v := 8) C.1 C.2.1 dX1_init_33 (by decide) ?_
  refine y_newa (atype := .int) (ty := .int) C q52 rfl (fun _ _ h => h) hP hD hS hA 1 rfl (a0 := (8, .inl (fun _ => 0))) (N := 8) (fun _ => rfl) (by decide) (by decide) (Nat.le_of_ble_eq_true rfl) (Nat.le_of_ble_eq_true rfl) (Nat.le_of_ble_eq_true rfl) dX1_init_35 (fun q2 H hP hD hS => ?_)
  have hP : va_P D vwCl [(h0, .inr (1, [.ref v, .ref q1, .int (-1), .int (-1), .int (-1), .int 0, .null, .null, .null])), (q1, .inl (G.2.2.1, 8, .inl (fun _ => 0))), (q2, .inl (G.2.2.1, 8, .inl (fun _ => 0)))] H := hP
  have hD : va_D A [(h0, .inr (1, [.ref v, .ref q1, .int (-1), .int (-1), .int (-1), .int 0, .null, .null, .null])), (q1, .inl (G.2.2.1, 8, .inl (fun _ => 0))), (q2, .inl (G.2.2.1, 8, .inl (fun _ => 0)))] := hD
  refine W.widen (k := 2) (n := 16) (Nat.le_refl _) (Nat.le_refl _) ?_
  refine va_putF (v := .ref q2) (ty := .array .int) (C := RX1) (T := TX1) (N := 9) C.1 C.2.1 C.2.2.2.2.1 inX1 tyX1 tyX1_ok nmX1 C.2.2.2.1 C.2.2.2.2.2.2 hP hD hS 0 rfl rfl 6 (by decide) (C.2.2.2.2.1 _ q84) (fun _ h9 => h9) rfl hin rfl (by decide +kernel) rfl rfl (Nat.le_of_ble_eq_true rfl) dX1_init_37 (fun H locs hP hD hS => ?_)
  have hP : va_P D vwCl [(h0, .inr (1, [.ref v, .ref q1, .int (-1), .int (-1), .int (-1), .int 0, .ref q2, .null, .null])), (q1, .inl (G.2.2.1, 8, .inl (fun _ => 0))), (q2, .inl (G.2.2.1, 8, .inl (fun _ => 0)))] H := hP
  have hD : va_D A [(h0, .inr (1, [.ref v, .ref q1, .int (-1), .int (-1), .int (-1), .int 0, .ref q2, .null, .null])), (q1, .inl (G.2.2.1, 8, .inl (fun _ => 0))), (q2, .inl (G.2.2.1, 8, .inl (fun _ => 0)))] := hD
  refine lv_aload_n C.1 C.2.1 dX1_init_40 rfl (lv_at hl 0 rfl) ?_
  refine lv_bipush (v := 8) C.1 C.2.1 dX1_init_41 (by decide) ?_
  refine y_newa (atype := .int) (ty := .int) C q52 rfl (fun _ _ h => h) hP hD hS hA 1 rfl (a0 := (8, .inl (fun _ => 0))) (N := 8) (fun _ => rfl) (by decide) (by decide) (Nat.le_of_ble_eq_true rfl) (Nat.le_of_ble_eq_true rfl) (Nat.le_of_ble_eq_true rfl) dX1_init_43 (fun q3 H hP hD hS => ?_)
  have hP : va_P D vwCl [(h0, .inr (1, [.ref v, .ref q1, .int (-1), .int (-1), .int (-1), .int 0, .ref q2, .null, .null])), (q1, .inl (G.2.2.1, 8, .inl (fun _ => 0))), (q2, .inl (G.2.2.1, 8, .inl (fun _ => 0))), (q3, .inl (G.2.2.1, 8, .inl (fun _ => 0)))] H := hP
  have hD : va_D A [(h0, .inr (1, [.ref v, .ref q1, .int (-1), .int (-1), .int (-1), .int 0, .ref q2, .null, .null])), (q1, .inl (G.2.2.1, 8, .inl (fun _ => 0))), (q2, .inl (G.2.2.1, 8, .inl (fun _ => 0))), (q3, .inl (G.2.2.1, 8, .inl (fun _ => 0)))] := hD
  refine W.widen (k := 3) (n := 24) (Nat.le_refl _) (Nat.le_refl _) ?_
  refine va_putF (v := .ref q3) (ty := .array .int) (C := RX1) (T := TX1) (N := 9) C.1 C.2.1 C.2.2.2.2.1 inX1 tyX1 tyX1_ok nmX1 C.2.2.2.1 C.2.2.2.2.2.2 hP hD hS 0 rfl rfl 7 (by decide) (C.2.2.2.2.1 _ q85) (fun _ h9 => h9) rfl hin rfl (by decide +kernel) rfl rfl (Nat.le_of_ble_eq_true rfl) dX1_init_45 (fun H locs hP hD hS => ?_)
  have hP : va_P D vwCl [(h0, .inr (1, [.ref v, .ref q1, .int (-1), .int (-1), .int (-1), .int 0, .ref q2, .ref q3, .null])), (q1, .inl (G.2.2.1, 8, .inl (fun _ => 0))), (q2, .inl (G.2.2.1, 8, .inl (fun _ => 0))), (q3, .inl (G.2.2.1, 8, .inl (fun _ => 0)))] H := hP
  have hD : va_D A [(h0, .inr (1, [.ref v, .ref q1, .int (-1), .int (-1), .int (-1), .int 0, .ref q2, .ref q3, .null])), (q1, .inl (G.2.2.1, 8, .inl (fun _ => 0))), (q2, .inl (G.2.2.1, 8, .inl (fun _ => 0))), (q3, .inl (G.2.2.1, 8, .inl (fun _ => 0)))] := hD
  refine lv_aload_n C.1 C.2.1 dX1_init_48 rfl (lv_at hl 0 rfl) ?_
  refine lv_bipush (v := 8) C.1 C.2.1 dX1_init_49 (by decide) ?_
  refine y_newa (atype := .int) (ty := .int) C q52 rfl (fun _ _ h => h) hP hD hS hA 1 rfl (a0 := (8, .inl (fun _ => 0))) (N := 8) (fun _ => rfl) (by decide) (by decide) (Nat.le_of_ble_eq_true rfl) (Nat.le_of_ble_eq_true rfl) (Nat.le_of_ble_eq_true rfl) dX1_init_51 (fun q4 H hP hD hS => ?_)
  have hP : va_P D vwCl [(h0, .inr (1, [.ref v, .ref q1, .int (-1), .int (-1), .int (-1), .int 0, .ref q2, .ref q3, .null])), (q1, .inl (G.2.2.1, 8, .inl (fun _ => 0))), (q2, .inl (G.2.2.1, 8, .inl (fun _ => 0))), (q3, .inl (G.2.2.1, 8, .inl (fun _ => 0))), (q4, .inl (G.2.2.1, 8, .inl (fun _ => 0)))] H := hP
  have hD : va_D A [(h0, .inr (1, [.ref v, .ref q1, .int (-1), .int (-1), .int (-1), .int 0, .ref q2, .ref q3, .null])), (q1, .inl (G.2.2.1, 8, .inl (fun _ => 0))), (q2, .inl (G.2.2.1, 8, .inl (fun _ => 0))), (q3, .inl (G.2.2.1, 8, .inl (fun _ => 0))), (q4, .inl (G.2.2.1, 8, .inl (fun _ => 0)))] := hD
  refine W.widen (k := 4) (n := 32) (Nat.le_refl _) (Nat.le_refl _) ?_
  refine va_putF (v := .ref q4) (ty := .array .int) (C := RX1) (T := TX1) (N := 9) C.1 C.2.1 C.2.2.2.2.1 inX1 tyX1 tyX1_ok nmX1 C.2.2.2.1 C.2.2.2.2.2.2 hP hD hS 0 rfl rfl 8 (by decide) (C.2.2.2.2.1 _ q86) (fun _ h9 => h9) rfl hin rfl (by decide +kernel) rfl rfl (Nat.le_of_ble_eq_true rfl) dX1_init_53 (fun H locs hP hD hS => ?_)
  have hP : va_P D vwCl [(h0, .inr (1, [.ref v, .ref q1, .int (-1), .int (-1), .int (-1), .int 0, .ref q2, .ref q3, .ref q4])), (q1, .inl (G.2.2.1, 8, .inl (fun _ => 0))), (q2, .inl (G.2.2.1, 8, .inl (fun _ => 0))), (q3, .inl (G.2.2.1, 8, .inl (fun _ => 0))), (q4, .inl (G.2.2.1, 8, .inl (fun _ => 0)))] H := hP
  have hD : va_D A [(h0, .inr (1, [.ref v, .ref q1, .int (-1), .int (-1), .int (-1), .int 0, .ref q2, .ref q3, .ref q4])), (q1, .inl (G.2.2.1, 8, .inl (fun _ => 0))), (q2, .inl (G.2.2.1, 8, .inl (fun _ => 0))), (q3, .inl (G.2.2.1, 8, .inl (fun _ => 0))), (q4, .inl (G.2.2.1, 8, .inl (fun _ => 0)))] := hD
  exact y_ret C hr [q1, q2, q3, q4] rfl hP hD hS dX1_init_56
theorem lki_X0_17 : LkI RX0 17 yX1_init cX1_init 2 1 := ⟨q75, q76, q68, q77, rfl, by decide +kernel, by decide +kernel, by decide +kernel⟩
def wi_X0 (G : Geo) (h0 : Nat) (v : Nat) (l : List Nat) : va_W := [(h0, .inr (0, [.ref v, .ref (l.getD 0 0), .int 0, .ref (l.getD 5 0), .ref (l.getD 6 0), .int 0, .int 0, .ref (l.getD 7 0), .ref (l.getD 8 0), .int 0, .ref (l.getD 9 0)])), ((l.getD 0 0), .inr (1, [.ref v, .ref (l.getD 1 0), .int (-1), .int (-1), .int (-1), .int 0, .ref (l.getD 2 0), .ref (l.getD 3 0), .ref (l.getD 4 0)])), ((l.getD 1 0), .inl (G.2.2.1, 8, .inl (fun _ => 0))), ((l.getD 2 0), .inl (G.2.2.1, 8, .inl (fun _ => 0))), ((l.getD 3 0), .inl (G.2.2.1, 8, .inl (fun _ => 0))), ((l.getD 4 0), .inl (G.2.2.1, 8, .inl (fun _ => 0))), ((l.getD 5 0), .inl (G.2.2.1, 5, .inl (fun _ => 0))), ((l.getD 6 0), .inl (G.2.2.1, 5, .inl (fun _ => 0))), ((l.getD 7 0), .inl (G.2.2.1, 200, .inl (fun _ => 0))), ((l.getD 8 0), .inl (G.2.2.1, 200, .inl (fun _ => 0))), ((l.getD 9 0), .inl (G.2.2.1, 8, .inl (fun _ => 0)))]
set_option maxHeartbeats 4000000 in
set_option maxRecDepth 20000 in
theorem ci_X0 (l : Launch) (D : va_G) (G : Geo) (h0 : Nat) (v : Nat) : CN l D (tyG G) [(h0, .inr (0, [.null, .null, .int 0, .null, .null, .int 0, .int 0, .null, .null, .int 0, .null]))] (wi_X0 G h0 v) yX0_init cX0_init 2 { frames := 2, cells := 10, slots := 459, locals := 33 } [.ref h0, .ref v] 10 459 := by
  refine cn_of pn_X0 rfl (Nat.le_of_ble_eq_true rfl) (fun p e s m below meth c A ls C hr hin hP hD hS hA hl => ?_)
  have C : Cx p s m _ meth c cX0_init 2 RX0 D (tyG G) := C
  have hl : lv_has ls 2 [(0, .ref h0), (1, .ref v)] := hl
  refine lv_aload_n C.1 C.2.1 dX0_init_0 rfl (lv_at hl 0 rfl) ?_
  refine y_oi C q64 q11 q12 hl.1 ⟨Nat.le_of_ble_eq_true rfl, Nat.le_of_ble_eq_true rfl⟩ dX0_init_1 ?_
  refine lv_aload_n C.1 C.2.1 dX0_init_4 rfl (lv_at hl 0 rfl) ?_
  refine lv_aload_n C.1 C.2.1 dX0_init_5 rfl (lv_at hl 1 rfl) ?_
  refine va_putF (v := .ref v) (ty := .object "FirstAwake$Valley") (C := RX0) (T := TX0) (N := 11) C.1 C.2.1 C.2.2.2.2.1 inX0 tyX0 tyX0_ok nmX0 C.2.2.2.1 C.2.2.2.2.2.2 hP hD hS 0 rfl rfl 0 (by decide) (C.2.2.2.2.1 _ q65) (fun _ h9 => h9) rfl hin rfl (by decide +kernel) rfl rfl (Nat.le_of_ble_eq_true rfl) dX0_init_6 (fun H locs hP hD hS => ?_)
  have hP : va_P D vwCl [(h0, .inr (0, [.ref v, .null, .int 0, .null, .null, .int 0, .int 0, .null, .null, .int 0, .null]))] H := hP
  have hD : va_D A [(h0, .inr (0, [.ref v, .null, .int 0, .null, .null, .int 0, .int 0, .null, .null, .int 0, .null]))] := hD
  refine lv_aload_n C.1 C.2.1 dX0_init_9 rfl (lv_at hl 0 rfl) ?_
  refine va_new (ci := 1) (fs := [.null, .null, .int 0, .int 0, .int 0, .int 0, .null, .null, .null]) (C := RX1) (T := TX1) (N := 9) C.1 C.2.1 C.2.2.2.2.1 inX1 tyX1 tyX1_ok C.2.2.2.1 (C.2.2.2.2.1 _ q66) (C.2.2.2.2.1 _ q67) (C.2.2.2.2.1 _ q68) C.2.2.2.2.2.2 hP hD hS hA rfl bl_X1 (Nat.le_of_ble_eq_true rfl) (Nat.le_of_ble_eq_true rfl) dX0_init_10 (fun q1 H hP hD hS => ?_)
  have hP : va_P D vwCl [(h0, .inr (0, [.ref v, .null, .int 0, .null, .null, .int 0, .int 0, .null, .null, .int 0, .null])), (q1, .inr (1, [.null, .null, .int 0, .int 0, .int 0, .int 0, .null, .null, .null]))] H := hP
  have hD : va_D A [(h0, .inr (0, [.ref v, .null, .int 0, .null, .null, .int 0, .int 0, .null, .null, .int 0, .null])), (q1, .inr (1, [.null, .null, .int 0, .int 0, .int 0, .int 0, .null, .null, .null]))] := hD
  refine W.widen (k := 1) (n := 9) (Nat.le_refl _) (Nat.le_refl _) ?_
  refine lv_dup C.1 C.2.1 dX0_init_13 rfl ?_
  refine lv_aload_n C.1 C.2.1 dX0_init_14 rfl (lv_at hl 1 rfl) ?_
  have hPc := hP.sub (ws' := [(q1, .inr (1, [.null, .null, .int 0, .int 0, .int 0, .int 0, .null, .null, .null]))]) [1] rfl
  have hDc := hD.sub (ws' := [(q1, .inr (1, [.null, .null, .int 0, .int 0, .int 0, .int 0, .null, .null, .null]))]) [1] (by decide) rfl
  have hFc := va_free (wc := [(q1, .inr (1, [.null, .null, .int 0, .int 0, .int 0, .int 0, .null, .null, .null]))]) hD hS hA [1] rfl
  refine va_callv (y_runI (As := [.ref v]) (rest := [.ref q1, .ref h0]) C hPc hDc (ci_X1 l D G q1 v _) lki_X0_17 rfl ⟨rfl, rfl, Nat.le_of_ble_eq_true rfl, Nat.le_of_ble_eq_true rfl⟩ hl.1 rfl (Nat.le_of_ble_eq_true rfl) dX0_init_15 ⟨Nat.le_of_ble_eq_true rfl, Nat.le_of_ble_eq_true rfl⟩) hS (fun q _ h => hFc q h) hFc (fun u t H1 locs ht hvm hw hB hz1 hk1 hS => ?_)
  obtain ⟨u2, rfl⟩ : ∃ z, z = u := ⟨_, rfl⟩
  obtain ⟨hP1, hK1, hD1⟩ := hB
  rw [ht] at hP1
  obtain ⟨hP, hD⟩ := va_join (wr := [(h0, .inr (0, [.ref v, .null, .int 0, .null, .null, .int 0, .int 0, .null, .null, .int 0, .null]))]) (w1 := wi_X1 G q1 v u2) hP hD [1] [0] rfl rfl (by decide) (by decide) hk1 hFc hP1 hD1
  generalize H1 = H at hP hS ⊢
  have hP : va_P D vwCl [(h0, .inr (0, [.ref v, .null, .int 0, .null, .null, .int 0, .int 0, .null, .null, .int 0, .null])), (q1, .inr (1, [.ref v, .ref (u2.getD 0 0), .int (-1), .int (-1), .int (-1), .int 0, .ref (u2.getD 1 0), .ref (u2.getD 2 0), .ref (u2.getD 3 0)])), ((u2.getD 0 0), .inl (G.2.2.1, 8, .inl (fun _ => 0))), ((u2.getD 1 0), .inl (G.2.2.1, 8, .inl (fun _ => 0))), ((u2.getD 2 0), .inl (G.2.2.1, 8, .inl (fun _ => 0))), ((u2.getD 3 0), .inl (G.2.2.1, 8, .inl (fun _ => 0)))] H := hP
  have hD : va_D A [(h0, .inr (0, [.ref v, .null, .int 0, .null, .null, .int 0, .int 0, .null, .null, .int 0, .null])), (q1, .inr (1, [.ref v, .ref (u2.getD 0 0), .int (-1), .int (-1), .int (-1), .int 0, .ref (u2.getD 1 0), .ref (u2.getD 2 0), .ref (u2.getD 3 0)])), ((u2.getD 0 0), .inl (G.2.2.1, 8, .inl (fun _ => 0))), ((u2.getD 1 0), .inl (G.2.2.1, 8, .inl (fun _ => 0))), ((u2.getD 2 0), .inl (G.2.2.1, 8, .inl (fun _ => 0))), ((u2.getD 3 0), .inl (G.2.2.1, 8, .inl (fun _ => 0)))] := hD
  refine W.widen (k := 5) (n := 41) (Nat.le_refl _) (Nat.le_refl _) ?_
  refine va_putF (v := .ref q1) (ty := .object "FirstAwake$Night") (C := RX0) (T := TX0) (N := 11) C.1 C.2.1 C.2.2.2.2.1 inX0 tyX0 tyX0_ok nmX0 C.2.2.2.1 C.2.2.2.2.2.2 hP hD hS 0 rfl rfl 1 (by decide) (C.2.2.2.2.1 _ q69) (fun _ h9 => h9) rfl hin rfl (by decide +kernel) rfl rfl (Nat.le_of_ble_eq_true rfl) dX0_init_18 (fun H locs hP hD hS => ?_)
  have hP : va_P D vwCl [(h0, .inr (0, [.ref v, .ref q1, .int 0, .null, .null, .int 0, .int 0, .null, .null, .int 0, .null])), (q1, .inr (1, [.ref v, .ref (u2.getD 0 0), .int (-1), .int (-1), .int (-1), .int 0, .ref (u2.getD 1 0), .ref (u2.getD 2 0), .ref (u2.getD 3 0)])), ((u2.getD 0 0), .inl (G.2.2.1, 8, .inl (fun _ => 0))), ((u2.getD 1 0), .inl (G.2.2.1, 8, .inl (fun _ => 0))), ((u2.getD 2 0), .inl (G.2.2.1, 8, .inl (fun _ => 0))), ((u2.getD 3 0), .inl (G.2.2.1, 8, .inl (fun _ => 0)))] H := hP
  have hD : va_D A [(h0, .inr (0, [.ref v, .ref q1, .int 0, .null, .null, .int 0, .int 0, .null, .null, .int 0, .null])), (q1, .inr (1, [.ref v, .ref (u2.getD 0 0), .int (-1), .int (-1), .int (-1), .int 0, .ref (u2.getD 1 0), .ref (u2.getD 2 0), .ref (u2.getD 3 0)])), ((u2.getD 0 0), .inl (G.2.2.1, 8, .inl (fun _ => 0))), ((u2.getD 1 0), .inl (G.2.2.1, 8, .inl (fun _ => 0))), ((u2.getD 2 0), .inl (G.2.2.1, 8, .inl (fun _ => 0))), ((u2.getD 3 0), .inl (G.2.2.1, 8, .inl (fun _ => 0)))] := hD
  refine lv_aload_n C.1 C.2.1 dX0_init_21 rfl (lv_at hl 0 rfl) ?_
  refine lv_iconst (v := 5) C.1 C.2.1 dX0_init_22 (by decide) ?_
  refine y_newa (atype := .int) (ty := .int) C q52 rfl (fun _ _ h => h) hP hD hS hA 1 rfl (a0 := (5, .inl (fun _ => 0))) (N := 5) (fun _ => rfl) (by decide) (by decide) (Nat.le_of_ble_eq_true rfl) (Nat.le_of_ble_eq_true rfl) (Nat.le_of_ble_eq_true rfl) dX0_init_23 (fun q3 H hP hD hS => ?_)
  have hP : va_P D vwCl [(h0, .inr (0, [.ref v, .ref q1, .int 0, .null, .null, .int 0, .int 0, .null, .null, .int 0, .null])), (q1, .inr (1, [.ref v, .ref (u2.getD 0 0), .int (-1), .int (-1), .int (-1), .int 0, .ref (u2.getD 1 0), .ref (u2.getD 2 0), .ref (u2.getD 3 0)])), ((u2.getD 0 0), .inl (G.2.2.1, 8, .inl (fun _ => 0))), ((u2.getD 1 0), .inl (G.2.2.1, 8, .inl (fun _ => 0))), ((u2.getD 2 0), .inl (G.2.2.1, 8, .inl (fun _ => 0))), ((u2.getD 3 0), .inl (G.2.2.1, 8, .inl (fun _ => 0))), (q3, .inl (G.2.2.1, 5, .inl (fun _ => 0)))] H := hP
  have hD : va_D A [(h0, .inr (0, [.ref v, .ref q1, .int 0, .null, .null, .int 0, .int 0, .null, .null, .int 0, .null])), (q1, .inr (1, [.ref v, .ref (u2.getD 0 0), .int (-1), .int (-1), .int (-1), .int 0, .ref (u2.getD 1 0), .ref (u2.getD 2 0), .ref (u2.getD 3 0)])), ((u2.getD 0 0), .inl (G.2.2.1, 8, .inl (fun _ => 0))), ((u2.getD 1 0), .inl (G.2.2.1, 8, .inl (fun _ => 0))), ((u2.getD 2 0), .inl (G.2.2.1, 8, .inl (fun _ => 0))), ((u2.getD 3 0), .inl (G.2.2.1, 8, .inl (fun _ => 0))), (q3, .inl (G.2.2.1, 5, .inl (fun _ => 0)))] := hD
  refine W.widen (k := 6) (n := 46) (Nat.le_refl _) (Nat.le_refl _) ?_
  refine va_putF (v := .ref q3) (ty := .array .int) (C := RX0) (T := TX0) (N := 11) C.1 C.2.1 C.2.2.2.2.1 inX0 tyX0 tyX0_ok nmX0 C.2.2.2.1 C.2.2.2.2.2.2 hP hD hS 0 rfl rfl 3 (by decide) (C.2.2.2.2.1 _ q70) (fun _ h9 => h9) rfl hin rfl (by decide +kernel) rfl rfl (Nat.le_of_ble_eq_true rfl) dX0_init_25 (fun H locs hP hD hS => ?_)
  have hP : va_P D vwCl [(h0, .inr (0, [.ref v, .ref q1, .int 0, .ref q3, .null, .int 0, .int 0, .null, .null, .int 0, .null])), (q1, .inr (1, [.ref v, .ref (u2.getD 0 0), .int (-1), .int (-1), .int (-1), .int 0, .ref (u2.getD 1 0), .ref (u2.getD 2 0), .ref (u2.getD 3 0)])), ((u2.getD 0 0), .inl (G.2.2.1, 8, .inl (fun _ => 0))), ((u2.getD 1 0), .inl (G.2.2.1, 8, .inl (fun _ => 0))), ((u2.getD 2 0), .inl (G.2.2.1, 8, .inl (fun _ => 0))), ((u2.getD 3 0), .inl (G.2.2.1, 8, .inl (fun _ => 0))), (q3, .inl (G.2.2.1, 5, .inl (fun _ => 0)))] H := hP
  have hD : va_D A [(h0, .inr (0, [.ref v, .ref q1, .int 0, .ref q3, .null, .int 0, .int 0, .null, .null, .int 0, .null])), (q1, .inr (1, [.ref v, .ref (u2.getD 0 0), .int (-1), .int (-1), .int (-1), .int 0, .ref (u2.getD 1 0), .ref (u2.getD 2 0), .ref (u2.getD 3 0)])), ((u2.getD 0 0), .inl (G.2.2.1, 8, .inl (fun _ => 0))), ((u2.getD 1 0), .inl (G.2.2.1, 8, .inl (fun _ => 0))), ((u2.getD 2 0), .inl (G.2.2.1, 8, .inl (fun _ => 0))), ((u2.getD 3 0), .inl (G.2.2.1, 8, .inl (fun _ => 0))), (q3, .inl (G.2.2.1, 5, .inl (fun _ => 0)))] := hD
  refine lv_aload_n C.1 C.2.1 dX0_init_28 rfl (lv_at hl 0 rfl) ?_
  refine lv_iconst (v := 5) C.1 C.2.1 dX0_init_29 (by decide) ?_
  refine y_newa (atype := .int) (ty := .int) C q52 rfl (fun _ _ h => h) hP hD hS hA 1 rfl (a0 := (5, .inl (fun _ => 0))) (N := 5) (fun _ => rfl) (by decide) (by decide) (Nat.le_of_ble_eq_true rfl) (Nat.le_of_ble_eq_true rfl) (Nat.le_of_ble_eq_true rfl) dX0_init_30 (fun q4 H hP hD hS => ?_)
  have hP : va_P D vwCl [(h0, .inr (0, [.ref v, .ref q1, .int 0, .ref q3, .null, .int 0, .int 0, .null, .null, .int 0, .null])), (q1, .inr (1, [.ref v, .ref (u2.getD 0 0), .int (-1), .int (-1), .int (-1), .int 0, .ref (u2.getD 1 0), .ref (u2.getD 2 0), .ref (u2.getD 3 0)])), ((u2.getD 0 0), .inl (G.2.2.1, 8, .inl (fun _ => 0))), ((u2.getD 1 0), .inl (G.2.2.1, 8, .inl (fun _ => 0))), ((u2.getD 2 0), .inl (G.2.2.1, 8, .inl (fun _ => 0))), ((u2.getD 3 0), .inl (G.2.2.1, 8, .inl (fun _ => 0))), (q3, .inl (G.2.2.1, 5, .inl (fun _ => 0))), (q4, .inl (G.2.2.1, 5, .inl (fun _ => 0)))] H := hP
  have hD : va_D A [(h0, .inr (0, [.ref v, .ref q1, .int 0, .ref q3, .null, .int 0, .int 0, .null, .null, .int 0, .null])), (q1, .inr (1, [.ref v, .ref (u2.getD 0 0), .int (-1), .int (-1), .int (-1), .int 0, .ref (u2.getD 1 0), .ref (u2.getD 2 0), .ref (u2.getD 3 0)])), ((u2.getD 0 0), .inl (G.2.2.1, 8, .inl (fun _ => 0))), ((u2.getD 1 0), .inl (G.2.2.1, 8, .inl (fun _ => 0))), ((u2.getD 2 0), .inl (G.2.2.1, 8, .inl (fun _ => 0))), ((u2.getD 3 0), .inl (G.2.2.1, 8, .inl (fun _ => 0))), (q3, .inl (G.2.2.1, 5, .inl (fun _ => 0))), (q4, .inl (G.2.2.1, 5, .inl (fun _ => 0)))] := hD
  refine W.widen (k := 7) (n := 51) (Nat.le_refl _) (Nat.le_refl _) ?_
  refine va_putF (v := .ref q4) (ty := .array .int) (C := RX0) (T := TX0) (N := 11) C.1 C.2.1 C.2.2.2.2.1 inX0 tyX0 tyX0_ok nmX0 C.2.2.2.1 C.2.2.2.2.2.2 hP hD hS 0 rfl rfl 4 (by decide) (C.2.2.2.2.1 _ q71) (fun _ h9 => h9) rfl hin rfl (by decide +kernel) rfl rfl (Nat.le_of_ble_eq_true rfl) dX0_init_32 (fun H locs hP hD hS => ?_)
  have hP : va_P D vwCl [(h0, .inr (0, [.ref v, .ref q1, .int 0, .ref q3, .ref q4, .int 0, .int 0, .null, .null, .int 0, .null])), (q1, .inr (1, [.ref v, .ref (u2.getD 0 0), .int (-1), .int (-1), .int (-1), .int 0, .ref (u2.getD 1 0), .ref (u2.getD 2 0), .ref (u2.getD 3 0)])), ((u2.getD 0 0), .inl (G.2.2.1, 8, .inl (fun _ => 0))), ((u2.getD 1 0), .inl (G.2.2.1, 8, .inl (fun _ => 0))), ((u2.getD 2 0), .inl (G.2.2.1, 8, .inl (fun _ => 0))), ((u2.getD 3 0), .inl (G.2.2.1, 8, .inl (fun _ => 0))), (q3, .inl (G.2.2.1, 5, .inl (fun _ => 0))), (q4, .inl (G.2.2.1, 5, .inl (fun _ => 0)))] H := hP
  have hD : va_D A [(h0, .inr (0, [.ref v, .ref q1, .int 0, .ref q3, .ref q4, .int 0, .int 0, .null, .null, .int 0, .null])), (q1, .inr (1, [.ref v, .ref (u2.getD 0 0), .int (-1), .int (-1), .int (-1), .int 0, .ref (u2.getD 1 0), .ref (u2.getD 2 0), .ref (u2.getD 3 0)])), ((u2.getD 0 0), .inl (G.2.2.1, 8, .inl (fun _ => 0))), ((u2.getD 1 0), .inl (G.2.2.1, 8, .inl (fun _ => 0))), ((u2.getD 2 0), .inl (G.2.2.1, 8, .inl (fun _ => 0))), ((u2.getD 3 0), .inl (G.2.2.1, 8, .inl (fun _ => 0))), (q3, .inl (G.2.2.1, 5, .inl (fun _ => 0))), (q4, .inl (G.2.2.1, 5, .inl (fun _ => 0)))] := hD
  refine lv_aload_n C.1 C.2.1 dX0_init_35 rfl (lv_at hl 0 rfl) ?_
  refine lv_sipush (v := 200) C.1 C.2.1 dX0_init_36 (by decide) ?_
  refine y_newa (atype := .int) (ty := .int) C q52 rfl (fun _ _ h => h) hP hD hS hA 1 rfl (a0 := (200, .inl (fun _ => 0))) (N := 200) (fun _ => rfl) (by decide) (by decide) (Nat.le_of_ble_eq_true rfl) (Nat.le_of_ble_eq_true rfl) (Nat.le_of_ble_eq_true rfl) dX0_init_39 (fun q5 H hP hD hS => ?_)
  have hP : va_P D vwCl [(h0, .inr (0, [.ref v, .ref q1, .int 0, .ref q3, .ref q4, .int 0, .int 0, .null, .null, .int 0, .null])), (q1, .inr (1, [.ref v, .ref (u2.getD 0 0), .int (-1), .int (-1), .int (-1), .int 0, .ref (u2.getD 1 0), .ref (u2.getD 2 0), .ref (u2.getD 3 0)])), ((u2.getD 0 0), .inl (G.2.2.1, 8, .inl (fun _ => 0))), ((u2.getD 1 0), .inl (G.2.2.1, 8, .inl (fun _ => 0))), ((u2.getD 2 0), .inl (G.2.2.1, 8, .inl (fun _ => 0))), ((u2.getD 3 0), .inl (G.2.2.1, 8, .inl (fun _ => 0))), (q3, .inl (G.2.2.1, 5, .inl (fun _ => 0))), (q4, .inl (G.2.2.1, 5, .inl (fun _ => 0))), (q5, .inl (G.2.2.1, 200, .inl (fun _ => 0)))] H := hP
  have hD : va_D A [(h0, .inr (0, [.ref v, .ref q1, .int 0, .ref q3, .ref q4, .int 0, .int 0, .null, .null, .int 0, .null])), (q1, .inr (1, [.ref v, .ref (u2.getD 0 0), .int (-1), .int (-1), .int (-1), .int 0, .ref (u2.getD 1 0), .ref (u2.getD 2 0), .ref (u2.getD 3 0)])), ((u2.getD 0 0), .inl (G.2.2.1, 8, .inl (fun _ => 0))), ((u2.getD 1 0), .inl (G.2.2.1, 8, .inl (fun _ => 0))), ((u2.getD 2 0), .inl (G.2.2.1, 8, .inl (fun _ => 0))), ((u2.getD 3 0), .inl (G.2.2.1, 8, .inl (fun _ => 0))), (q3, .inl (G.2.2.1, 5, .inl (fun _ => 0))), (q4, .inl (G.2.2.1, 5, .inl (fun _ => 0))), (q5, .inl (G.2.2.1, 200, .inl (fun _ => 0)))] := hD
  refine W.widen (k := 8) (n := 251) (Nat.le_refl _) (Nat.le_refl _) ?_
  refine va_putF (v := .ref q5) (ty := .array .int) (C := RX0) (T := TX0) (N := 11) C.1 C.2.1 C.2.2.2.2.1 inX0 tyX0 tyX0_ok nmX0 C.2.2.2.1 C.2.2.2.2.2.2 hP hD hS 0 rfl rfl 7 (by decide) (C.2.2.2.2.1 _ q72) (fun _ h9 => h9) rfl hin rfl (by decide +kernel) rfl rfl (Nat.le_of_ble_eq_true rfl) dX0_init_41 (fun H locs hP hD hS => ?_)
  have hP : va_P D vwCl [(h0, .inr (0, [.ref v, .ref q1, .int 0, .ref q3, .ref q4, .int 0, .int 0, .ref q5, .null, .int 0, .null])), (q1, .inr (1, [.ref v, .ref (u2.getD 0 0), .int (-1), .int (-1), .int (-1), .int 0, .ref (u2.getD 1 0), .ref (u2.getD 2 0), .ref (u2.getD 3 0)])), ((u2.getD 0 0), .inl (G.2.2.1, 8, .inl (fun _ => 0))), ((u2.getD 1 0), .inl (G.2.2.1, 8, .inl (fun _ => 0))), ((u2.getD 2 0), .inl (G.2.2.1, 8, .inl (fun _ => 0))), ((u2.getD 3 0), .inl (G.2.2.1, 8, .inl (fun _ => 0))), (q3, .inl (G.2.2.1, 5, .inl (fun _ => 0))), (q4, .inl (G.2.2.1, 5, .inl (fun _ => 0))), (q5, .inl (G.2.2.1, 200, .inl (fun _ => 0)))] H := hP
  have hD : va_D A [(h0, .inr (0, [.ref v, .ref q1, .int 0, .ref q3, .ref q4, .int 0, .int 0, .ref q5, .null, .int 0, .null])), (q1, .inr (1, [.ref v, .ref (u2.getD 0 0), .int (-1), .int (-1), .int (-1), .int 0, .ref (u2.getD 1 0), .ref (u2.getD 2 0), .ref (u2.getD 3 0)])), ((u2.getD 0 0), .inl (G.2.2.1, 8, .inl (fun _ => 0))), ((u2.getD 1 0), .inl (G.2.2.1, 8, .inl (fun _ => 0))), ((u2.getD 2 0), .inl (G.2.2.1, 8, .inl (fun _ => 0))), ((u2.getD 3 0), .inl (G.2.2.1, 8, .inl (fun _ => 0))), (q3, .inl (G.2.2.1, 5, .inl (fun _ => 0))), (q4, .inl (G.2.2.1, 5, .inl (fun _ => 0))), (q5, .inl (G.2.2.1, 200, .inl (fun _ => 0)))] := hD
  refine lv_aload_n C.1 C.2.1 dX0_init_44 rfl (lv_at hl 0 rfl) ?_
  refine lv_sipush (v := 200) C.1 C.2.1 dX0_init_45 (by decide) ?_
  refine y_newa (atype := .int) (ty := .int) C q52 rfl (fun _ _ h => h) hP hD hS hA 1 rfl (a0 := (200, .inl (fun _ => 0))) (N := 200) (fun _ => rfl) (by decide) (by decide) (Nat.le_of_ble_eq_true rfl) (Nat.le_of_ble_eq_true rfl) (Nat.le_of_ble_eq_true rfl) dX0_init_48 (fun q6 H hP hD hS => ?_)
  have hP : va_P D vwCl [(h0, .inr (0, [.ref v, .ref q1, .int 0, .ref q3, .ref q4, .int 0, .int 0, .ref q5, .null, .int 0, .null])), (q1, .inr (1, [.ref v, .ref (u2.getD 0 0), .int (-1), .int (-1), .int (-1), .int 0, .ref (u2.getD 1 0), .ref (u2.getD 2 0), .ref (u2.getD 3 0)])), ((u2.getD 0 0), .inl (G.2.2.1, 8, .inl (fun _ => 0))), ((u2.getD 1 0), .inl (G.2.2.1, 8, .inl (fun _ => 0))), ((u2.getD 2 0), .inl (G.2.2.1, 8, .inl (fun _ => 0))), ((u2.getD 3 0), .inl (G.2.2.1, 8, .inl (fun _ => 0))), (q3, .inl (G.2.2.1, 5, .inl (fun _ => 0))), (q4, .inl (G.2.2.1, 5, .inl (fun _ => 0))), (q5, .inl (G.2.2.1, 200, .inl (fun _ => 0))), (q6, .inl (G.2.2.1, 200, .inl (fun _ => 0)))] H := hP
  have hD : va_D A [(h0, .inr (0, [.ref v, .ref q1, .int 0, .ref q3, .ref q4, .int 0, .int 0, .ref q5, .null, .int 0, .null])), (q1, .inr (1, [.ref v, .ref (u2.getD 0 0), .int (-1), .int (-1), .int (-1), .int 0, .ref (u2.getD 1 0), .ref (u2.getD 2 0), .ref (u2.getD 3 0)])), ((u2.getD 0 0), .inl (G.2.2.1, 8, .inl (fun _ => 0))), ((u2.getD 1 0), .inl (G.2.2.1, 8, .inl (fun _ => 0))), ((u2.getD 2 0), .inl (G.2.2.1, 8, .inl (fun _ => 0))), ((u2.getD 3 0), .inl (G.2.2.1, 8, .inl (fun _ => 0))), (q3, .inl (G.2.2.1, 5, .inl (fun _ => 0))), (q4, .inl (G.2.2.1, 5, .inl (fun _ => 0))), (q5, .inl (G.2.2.1, 200, .inl (fun _ => 0))), (q6, .inl (G.2.2.1, 200, .inl (fun _ => 0)))] := hD
  refine W.widen (k := 9) (n := 451) (Nat.le_refl _) (Nat.le_refl _) ?_
  refine va_putF (v := .ref q6) (ty := .array .int) (C := RX0) (T := TX0) (N := 11) C.1 C.2.1 C.2.2.2.2.1 inX0 tyX0 tyX0_ok nmX0 C.2.2.2.1 C.2.2.2.2.2.2 hP hD hS 0 rfl rfl 8 (by decide) (C.2.2.2.2.1 _ q73) (fun _ h9 => h9) rfl hin rfl (by decide +kernel) rfl rfl (Nat.le_of_ble_eq_true rfl) dX0_init_50 (fun H locs hP hD hS => ?_)
  have hP : va_P D vwCl [(h0, .inr (0, [.ref v, .ref q1, .int 0, .ref q3, .ref q4, .int 0, .int 0, .ref q5, .ref q6, .int 0, .null])), (q1, .inr (1, [.ref v, .ref (u2.getD 0 0), .int (-1), .int (-1), .int (-1), .int 0, .ref (u2.getD 1 0), .ref (u2.getD 2 0), .ref (u2.getD 3 0)])), ((u2.getD 0 0), .inl (G.2.2.1, 8, .inl (fun _ => 0))), ((u2.getD 1 0), .inl (G.2.2.1, 8, .inl (fun _ => 0))), ((u2.getD 2 0), .inl (G.2.2.1, 8, .inl (fun _ => 0))), ((u2.getD 3 0), .inl (G.2.2.1, 8, .inl (fun _ => 0))), (q3, .inl (G.2.2.1, 5, .inl (fun _ => 0))), (q4, .inl (G.2.2.1, 5, .inl (fun _ => 0))), (q5, .inl (G.2.2.1, 200, .inl (fun _ => 0))), (q6, .inl (G.2.2.1, 200, .inl (fun _ => 0)))] H := hP
  have hD : va_D A [(h0, .inr (0, [.ref v, .ref q1, .int 0, .ref q3, .ref q4, .int 0, .int 0, .ref q5, .ref q6, .int 0, .null])), (q1, .inr (1, [.ref v, .ref (u2.getD 0 0), .int (-1), .int (-1), .int (-1), .int 0, .ref (u2.getD 1 0), .ref (u2.getD 2 0), .ref (u2.getD 3 0)])), ((u2.getD 0 0), .inl (G.2.2.1, 8, .inl (fun _ => 0))), ((u2.getD 1 0), .inl (G.2.2.1, 8, .inl (fun _ => 0))), ((u2.getD 2 0), .inl (G.2.2.1, 8, .inl (fun _ => 0))), ((u2.getD 3 0), .inl (G.2.2.1, 8, .inl (fun _ => 0))), (q3, .inl (G.2.2.1, 5, .inl (fun _ => 0))), (q4, .inl (G.2.2.1, 5, .inl (fun _ => 0))), (q5, .inl (G.2.2.1, 200, .inl (fun _ => 0))), (q6, .inl (G.2.2.1, 200, .inl (fun _ => 0)))] := hD
  refine lv_aload_n C.1 C.2.1 dX0_init_53 rfl (lv_at hl 0 rfl) ?_
  refine lv_bipush (v := 8) C.1 C.2.1 dX0_init_54 (by decide) ?_
  refine y_newa (atype := .int) (ty := .int) C q52 rfl (fun _ _ h => h) hP hD hS hA 1 rfl (a0 := (8, .inl (fun _ => 0))) (N := 8) (fun _ => rfl) (by decide) (by decide) (Nat.le_of_ble_eq_true rfl) (Nat.le_of_ble_eq_true rfl) (Nat.le_of_ble_eq_true rfl) dX0_init_56 (fun q7 H hP hD hS => ?_)
  have hP : va_P D vwCl [(h0, .inr (0, [.ref v, .ref q1, .int 0, .ref q3, .ref q4, .int 0, .int 0, .ref q5, .ref q6, .int 0, .null])), (q1, .inr (1, [.ref v, .ref (u2.getD 0 0), .int (-1), .int (-1), .int (-1), .int 0, .ref (u2.getD 1 0), .ref (u2.getD 2 0), .ref (u2.getD 3 0)])), ((u2.getD 0 0), .inl (G.2.2.1, 8, .inl (fun _ => 0))), ((u2.getD 1 0), .inl (G.2.2.1, 8, .inl (fun _ => 0))), ((u2.getD 2 0), .inl (G.2.2.1, 8, .inl (fun _ => 0))), ((u2.getD 3 0), .inl (G.2.2.1, 8, .inl (fun _ => 0))), (q3, .inl (G.2.2.1, 5, .inl (fun _ => 0))), (q4, .inl (G.2.2.1, 5, .inl (fun _ => 0))), (q5, .inl (G.2.2.1, 200, .inl (fun _ => 0))), (q6, .inl (G.2.2.1, 200, .inl (fun _ => 0))), (q7, .inl (G.2.2.1, 8, .inl (fun _ => 0)))] H := hP
  have hD : va_D A [(h0, .inr (0, [.ref v, .ref q1, .int 0, .ref q3, .ref q4, .int 0, .int 0, .ref q5, .ref q6, .int 0, .null])), (q1, .inr (1, [.ref v, .ref (u2.getD 0 0), .int (-1), .int (-1), .int (-1), .int 0, .ref (u2.getD 1 0), .ref (u2.getD 2 0), .ref (u2.getD 3 0)])), ((u2.getD 0 0), .inl (G.2.2.1, 8, .inl (fun _ => 0))), ((u2.getD 1 0), .inl (G.2.2.1, 8, .inl (fun _ => 0))), ((u2.getD 2 0), .inl (G.2.2.1, 8, .inl (fun _ => 0))), ((u2.getD 3 0), .inl (G.2.2.1, 8, .inl (fun _ => 0))), (q3, .inl (G.2.2.1, 5, .inl (fun _ => 0))), (q4, .inl (G.2.2.1, 5, .inl (fun _ => 0))), (q5, .inl (G.2.2.1, 200, .inl (fun _ => 0))), (q6, .inl (G.2.2.1, 200, .inl (fun _ => 0))), (q7, .inl (G.2.2.1, 8, .inl (fun _ => 0)))] := hD
  refine W.widen (k := 10) (n := 459) (Nat.le_refl _) (Nat.le_refl _) ?_
  refine va_putF (v := .ref q7) (ty := .array .int) (C := RX0) (T := TX0) (N := 11) C.1 C.2.1 C.2.2.2.2.1 inX0 tyX0 tyX0_ok nmX0 C.2.2.2.1 C.2.2.2.2.2.2 hP hD hS 0 rfl rfl 10 (by decide) (C.2.2.2.2.1 _ q74) (fun _ h9 => h9) rfl hin rfl (by decide +kernel) rfl rfl (Nat.le_of_ble_eq_true rfl) dX0_init_58 (fun H locs hP hD hS => ?_)
  have hP : va_P D vwCl [(h0, .inr (0, [.ref v, .ref q1, .int 0, .ref q3, .ref q4, .int 0, .int 0, .ref q5, .ref q6, .int 0, .ref q7])), (q1, .inr (1, [.ref v, .ref (u2.getD 0 0), .int (-1), .int (-1), .int (-1), .int 0, .ref (u2.getD 1 0), .ref (u2.getD 2 0), .ref (u2.getD 3 0)])), ((u2.getD 0 0), .inl (G.2.2.1, 8, .inl (fun _ => 0))), ((u2.getD 1 0), .inl (G.2.2.1, 8, .inl (fun _ => 0))), ((u2.getD 2 0), .inl (G.2.2.1, 8, .inl (fun _ => 0))), ((u2.getD 3 0), .inl (G.2.2.1, 8, .inl (fun _ => 0))), (q3, .inl (G.2.2.1, 5, .inl (fun _ => 0))), (q4, .inl (G.2.2.1, 5, .inl (fun _ => 0))), (q5, .inl (G.2.2.1, 200, .inl (fun _ => 0))), (q6, .inl (G.2.2.1, 200, .inl (fun _ => 0))), (q7, .inl (G.2.2.1, 8, .inl (fun _ => 0)))] H := hP
  have hD : va_D A [(h0, .inr (0, [.ref v, .ref q1, .int 0, .ref q3, .ref q4, .int 0, .int 0, .ref q5, .ref q6, .int 0, .ref q7])), (q1, .inr (1, [.ref v, .ref (u2.getD 0 0), .int (-1), .int (-1), .int (-1), .int 0, .ref (u2.getD 1 0), .ref (u2.getD 2 0), .ref (u2.getD 3 0)])), ((u2.getD 0 0), .inl (G.2.2.1, 8, .inl (fun _ => 0))), ((u2.getD 1 0), .inl (G.2.2.1, 8, .inl (fun _ => 0))), ((u2.getD 2 0), .inl (G.2.2.1, 8, .inl (fun _ => 0))), ((u2.getD 3 0), .inl (G.2.2.1, 8, .inl (fun _ => 0))), (q3, .inl (G.2.2.1, 5, .inl (fun _ => 0))), (q4, .inl (G.2.2.1, 5, .inl (fun _ => 0))), (q5, .inl (G.2.2.1, 200, .inl (fun _ => 0))), (q6, .inl (G.2.2.1, 200, .inl (fun _ => 0))), (q7, .inl (G.2.2.1, 8, .inl (fun _ => 0)))] := hD
  exact y_ret C hr [q1, (u2.getD 0 0), (u2.getD 1 0), (u2.getD 2 0), (u2.getD 3 0), q3, q4, q5, q6, q7] rfl hP hD hS dX0_init_61
theorem lki_X4_17 : LkI RX4 17 yX5_init cX5_init 1 0 := ⟨q48, q49, q19, q50, rfl, by decide +kernel, by decide +kernel, by decide +kernel⟩
def wi_X4 (G : Geo) (h0 : Nat) (l : List Nat) : va_W := [(h0, .inr (4, [.ref (l.getD 0 0), .int 0, .ref (l.getD 1 0), .int 0, .int 0, .int (-1)])), ((l.getD 0 0), .inl (G.2.1, 400, .inl (fun _ => 0))), ((l.getD 1 0), .inr (5, [.int 0, .ref (l.getD 2 0), .ref (l.getD 3 0), .ref (l.getD 4 0), .int 0, .ref (l.getD 5 0), .ref (l.getD 6 0), .ref (l.getD 7 0), .ref (l.getD 8 0)])), ((l.getD 2 0), .inl (G.2.2.1, 5, .inl (fun _ => 0))), ((l.getD 3 0), .inl (G.2.2.1, 5, .inl (fun _ => 0))), ((l.getD 4 0), .inl (G.2.2.1, 5, .inl (fun _ => 0))), ((l.getD 5 0), .inl (G.2.2.1, 8, .inl (fun _ => 0))), ((l.getD 6 0), .inl (G.2.2.1, 8, .inl (fun _ => 0))), ((l.getD 7 0), .inl (G.2.2.1, 8, .inl (fun _ => 0))), ((l.getD 8 0), .inl (G.2.2.1, 8, .inl (fun _ => 0)))]
set_option maxHeartbeats 4000000 in
set_option maxRecDepth 20000 in
theorem ci_X4 (l : Launch) (D : va_G) (G : Geo) (h0 : Nat) : CN l D (tyG G) [(h0, .inr (4, [.null, .int 0, .null, .int 0, .int 0, .int 0]))] (wi_X4 G h0) yX4_init cX4_init 1 { frames := 2, cells := 9, slots := 456, locals := 32 } [.ref h0] 9 456 := by
  refine cn_of pn_X4 rfl (Nat.le_of_ble_eq_true rfl) (fun p e s m below meth c A ls C hr hin hP hD hS hA hl => ?_)
  have C : Cx p s m _ meth c cX4_init 1 RX4 D (tyG G) := C
  have hl : lv_has ls 1 [(0, .ref h0)] := hl
  refine lv_aload_n C.1 C.2.1 dX4_init_0 rfl (lv_at hl 0 rfl) ?_
  refine y_oi C q42 q11 q12 hl.1 ⟨Nat.le_of_ble_eq_true rfl, Nat.le_of_ble_eq_true rfl⟩ dX4_init_1 ?_
  refine lv_aload_n C.1 C.2.1 dX4_init_4 rfl (lv_at hl 0 rfl) ?_
  refine lv_sipush (v := 400) C.1 C.2.1 dX4_init_5 (by decide) ?_
  refine y_newa (atype := .byte) (ty := .byte) C q43 rfl (fun _ _ h => h) hP hD hS hA 0 rfl (a0 := (400, .inl (fun _ => 0))) (N := 400) (fun _ => rfl) (by decide) (by decide) (Nat.le_of_ble_eq_true rfl) (Nat.le_of_ble_eq_true rfl) (Nat.le_of_ble_eq_true rfl) dX4_init_8 (fun q1 H hP hD hS => ?_)
  have hP : va_P D vwCl [(h0, .inr (4, [.null, .int 0, .null, .int 0, .int 0, .int 0])), (q1, .inl (G.2.1, 400, .inl (fun _ => 0)))] H := hP
  have hD : va_D A [(h0, .inr (4, [.null, .int 0, .null, .int 0, .int 0, .int 0])), (q1, .inl (G.2.1, 400, .inl (fun _ => 0)))] := hD
  refine W.widen (k := 1) (n := 400) (Nat.le_refl _) (Nat.le_refl _) ?_
  refine va_putF (v := .ref q1) (ty := .array .byte) (C := RX4) (T := TX4) (N := 6) C.1 C.2.1 C.2.2.2.2.1 inX4 tyX4 tyX4_ok nmX4 C.2.2.2.1 C.2.2.2.2.2.2 hP hD hS 0 rfl rfl 0 (by decide) (C.2.2.2.2.1 _ q44) (fun _ h9 => h9) rfl hin rfl (by decide +kernel) rfl rfl (Nat.le_of_ble_eq_true rfl) dX4_init_10 (fun H locs hP hD hS => ?_)
  have hP : va_P D vwCl [(h0, .inr (4, [.ref q1, .int 0, .null, .int 0, .int 0, .int 0])), (q1, .inl (G.2.1, 400, .inl (fun _ => 0)))] H := hP
  have hD : va_D A [(h0, .inr (4, [.ref q1, .int 0, .null, .int 0, .int 0, .int 0])), (q1, .inl (G.2.1, 400, .inl (fun _ => 0)))] := hD
  refine lv_aload_n C.1 C.2.1 dX4_init_13 rfl (lv_at hl 0 rfl) ?_
  refine va_new (ci := 5) (fs := [.int 0, .null, .null, .null, .int 0, .null, .null, .null, .null]) (C := RX5) (T := TX5) (N := 9) C.1 C.2.1 C.2.2.2.2.1 inX5 tyX5 tyX5_ok C.2.2.2.1 (C.2.2.2.2.1 _ q45) (C.2.2.2.2.1 _ q18) (C.2.2.2.2.1 _ q19) C.2.2.2.2.2.2 hP hD hS hA rfl bl_X5 (Nat.le_of_ble_eq_true rfl) (Nat.le_of_ble_eq_true rfl) dX4_init_14 (fun q2 H hP hD hS => ?_)
  have hP : va_P D vwCl [(h0, .inr (4, [.ref q1, .int 0, .null, .int 0, .int 0, .int 0])), (q1, .inl (G.2.1, 400, .inl (fun _ => 0))), (q2, .inr (5, [.int 0, .null, .null, .null, .int 0, .null, .null, .null, .null]))] H := hP
  have hD : va_D A [(h0, .inr (4, [.ref q1, .int 0, .null, .int 0, .int 0, .int 0])), (q1, .inl (G.2.1, 400, .inl (fun _ => 0))), (q2, .inr (5, [.int 0, .null, .null, .null, .int 0, .null, .null, .null, .null]))] := hD
  refine W.widen (k := 2) (n := 409) (Nat.le_refl _) (Nat.le_refl _) ?_
  refine lv_dup C.1 C.2.1 dX4_init_17 rfl ?_
  have hPc := hP.sub (ws' := [(q2, .inr (5, [.int 0, .null, .null, .null, .int 0, .null, .null, .null, .null]))]) [2] rfl
  have hDc := hD.sub (ws' := [(q2, .inr (5, [.int 0, .null, .null, .null, .int 0, .null, .null, .null, .null]))]) [2] (by decide) rfl
  have hFc := va_free (wc := [(q2, .inr (5, [.int 0, .null, .null, .null, .int 0, .null, .null, .null, .null]))]) hD hS hA [2] rfl
  refine va_callv (y_runI (As := []) (rest := [.ref q2, .ref h0]) C hPc hDc (ci_X5 l D G q2 _) lki_X4_17 rfl ⟨rfl, rfl, Nat.le_of_ble_eq_true rfl, Nat.le_of_ble_eq_true rfl⟩ hl.1 rfl (Nat.le_of_ble_eq_true rfl) dX4_init_18 ⟨Nat.le_of_ble_eq_true rfl, Nat.le_of_ble_eq_true rfl⟩) hS (fun q _ h => hFc q h) hFc (fun u t H1 locs ht hvm hw hB hz1 hk1 hS => ?_)
  obtain ⟨u3, rfl⟩ : ∃ z, z = u := ⟨_, rfl⟩
  obtain ⟨hP1, hK1, hD1⟩ := hB
  rw [ht] at hP1
  obtain ⟨hP, hD⟩ := va_join (wr := [(h0, .inr (4, [.ref q1, .int 0, .null, .int 0, .int 0, .int 0])), (q1, .inl (G.2.1, 400, .inl (fun _ => 0)))]) (w1 := wi_X5 G q2 u3) hP hD [2] [0, 1] rfl rfl (by decide) (by decide) hk1 hFc hP1 hD1
  generalize H1 = H at hP hS ⊢
  have hP : va_P D vwCl [(h0, .inr (4, [.ref q1, .int 0, .null, .int 0, .int 0, .int 0])), (q1, .inl (G.2.1, 400, .inl (fun _ => 0))), (q2, .inr (5, [.int 0, .ref (u3.getD 0 0), .ref (u3.getD 1 0), .ref (u3.getD 2 0), .int 0, .ref (u3.getD 3 0), .ref (u3.getD 4 0), .ref (u3.getD 5 0), .ref (u3.getD 6 0)])), ((u3.getD 0 0), .inl (G.2.2.1, 5, .inl (fun _ => 0))), ((u3.getD 1 0), .inl (G.2.2.1, 5, .inl (fun _ => 0))), ((u3.getD 2 0), .inl (G.2.2.1, 5, .inl (fun _ => 0))), ((u3.getD 3 0), .inl (G.2.2.1, 8, .inl (fun _ => 0))), ((u3.getD 4 0), .inl (G.2.2.1, 8, .inl (fun _ => 0))), ((u3.getD 5 0), .inl (G.2.2.1, 8, .inl (fun _ => 0))), ((u3.getD 6 0), .inl (G.2.2.1, 8, .inl (fun _ => 0)))] H := hP
  have hD : va_D A [(h0, .inr (4, [.ref q1, .int 0, .null, .int 0, .int 0, .int 0])), (q1, .inl (G.2.1, 400, .inl (fun _ => 0))), (q2, .inr (5, [.int 0, .ref (u3.getD 0 0), .ref (u3.getD 1 0), .ref (u3.getD 2 0), .int 0, .ref (u3.getD 3 0), .ref (u3.getD 4 0), .ref (u3.getD 5 0), .ref (u3.getD 6 0)])), ((u3.getD 0 0), .inl (G.2.2.1, 5, .inl (fun _ => 0))), ((u3.getD 1 0), .inl (G.2.2.1, 5, .inl (fun _ => 0))), ((u3.getD 2 0), .inl (G.2.2.1, 5, .inl (fun _ => 0))), ((u3.getD 3 0), .inl (G.2.2.1, 8, .inl (fun _ => 0))), ((u3.getD 4 0), .inl (G.2.2.1, 8, .inl (fun _ => 0))), ((u3.getD 5 0), .inl (G.2.2.1, 8, .inl (fun _ => 0))), ((u3.getD 6 0), .inl (G.2.2.1, 8, .inl (fun _ => 0)))] := hD
  refine W.widen (k := 9) (n := 456) (Nat.le_refl _) (Nat.le_refl _) ?_
  refine va_putF (v := .ref q2) (ty := .object "FirstAwake$Valley") (C := RX4) (T := TX4) (N := 6) C.1 C.2.1 C.2.2.2.2.1 inX4 tyX4 tyX4_ok nmX4 C.2.2.2.1 C.2.2.2.2.2.2 hP hD hS 0 rfl rfl 2 (by decide) (C.2.2.2.2.1 _ q46) (fun _ h9 => h9) rfl hin rfl (by decide +kernel) rfl rfl (Nat.le_of_ble_eq_true rfl) dX4_init_21 (fun H locs hP hD hS => ?_)
  have hP : va_P D vwCl [(h0, .inr (4, [.ref q1, .int 0, .ref q2, .int 0, .int 0, .int 0])), (q1, .inl (G.2.1, 400, .inl (fun _ => 0))), (q2, .inr (5, [.int 0, .ref (u3.getD 0 0), .ref (u3.getD 1 0), .ref (u3.getD 2 0), .int 0, .ref (u3.getD 3 0), .ref (u3.getD 4 0), .ref (u3.getD 5 0), .ref (u3.getD 6 0)])), ((u3.getD 0 0), .inl (G.2.2.1, 5, .inl (fun _ => 0))), ((u3.getD 1 0), .inl (G.2.2.1, 5, .inl (fun _ => 0))), ((u3.getD 2 0), .inl (G.2.2.1, 5, .inl (fun _ => 0))), ((u3.getD 3 0), .inl (G.2.2.1, 8, .inl (fun _ => 0))), ((u3.getD 4 0), .inl (G.2.2.1, 8, .inl (fun _ => 0))), ((u3.getD 5 0), .inl (G.2.2.1, 8, .inl (fun _ => 0))), ((u3.getD 6 0), .inl (G.2.2.1, 8, .inl (fun _ => 0)))] H := hP
  have hD : va_D A [(h0, .inr (4, [.ref q1, .int 0, .ref q2, .int 0, .int 0, .int 0])), (q1, .inl (G.2.1, 400, .inl (fun _ => 0))), (q2, .inr (5, [.int 0, .ref (u3.getD 0 0), .ref (u3.getD 1 0), .ref (u3.getD 2 0), .int 0, .ref (u3.getD 3 0), .ref (u3.getD 4 0), .ref (u3.getD 5 0), .ref (u3.getD 6 0)])), ((u3.getD 0 0), .inl (G.2.2.1, 5, .inl (fun _ => 0))), ((u3.getD 1 0), .inl (G.2.2.1, 5, .inl (fun _ => 0))), ((u3.getD 2 0), .inl (G.2.2.1, 5, .inl (fun _ => 0))), ((u3.getD 3 0), .inl (G.2.2.1, 8, .inl (fun _ => 0))), ((u3.getD 4 0), .inl (G.2.2.1, 8, .inl (fun _ => 0))), ((u3.getD 5 0), .inl (G.2.2.1, 8, .inl (fun _ => 0))), ((u3.getD 6 0), .inl (G.2.2.1, 8, .inl (fun _ => 0)))] := hD
  refine lv_aload_n C.1 C.2.1 dX4_init_24 rfl (lv_at hl 0 rfl) ?_
  refine lv_iconst (v := (-1)) C.1 C.2.1 dX4_init_25 (by decide) ?_
  refine va_put (v := .int (-1)) (ty := .int) (C := RX4) (T := TX4) (N := 6) C.1 C.2.1 C.2.2.2.2.1 inX4 tyX4 tyX4_ok nmX4 C.2.2.2.1 C.2.2.2.2.2.2 hP hD hS 0 rfl rfl 5 (by decide) (C.2.2.2.2.1 _ q47) (fun _ h9 => h9) rfl (by decide +kernel) rfl rfl (Nat.le_of_ble_eq_true rfl) dX4_init_26 (fun H locs hP hD hS => ?_)
  have hP : va_P D vwCl [(h0, .inr (4, [.ref q1, .int 0, .ref q2, .int 0, .int 0, .int (-1)])), (q1, .inl (G.2.1, 400, .inl (fun _ => 0))), (q2, .inr (5, [.int 0, .ref (u3.getD 0 0), .ref (u3.getD 1 0), .ref (u3.getD 2 0), .int 0, .ref (u3.getD 3 0), .ref (u3.getD 4 0), .ref (u3.getD 5 0), .ref (u3.getD 6 0)])), ((u3.getD 0 0), .inl (G.2.2.1, 5, .inl (fun _ => 0))), ((u3.getD 1 0), .inl (G.2.2.1, 5, .inl (fun _ => 0))), ((u3.getD 2 0), .inl (G.2.2.1, 5, .inl (fun _ => 0))), ((u3.getD 3 0), .inl (G.2.2.1, 8, .inl (fun _ => 0))), ((u3.getD 4 0), .inl (G.2.2.1, 8, .inl (fun _ => 0))), ((u3.getD 5 0), .inl (G.2.2.1, 8, .inl (fun _ => 0))), ((u3.getD 6 0), .inl (G.2.2.1, 8, .inl (fun _ => 0)))] H := hP
  have hD : va_D A [(h0, .inr (4, [.ref q1, .int 0, .ref q2, .int 0, .int 0, .int (-1)])), (q1, .inl (G.2.1, 400, .inl (fun _ => 0))), (q2, .inr (5, [.int 0, .ref (u3.getD 0 0), .ref (u3.getD 1 0), .ref (u3.getD 2 0), .int 0, .ref (u3.getD 3 0), .ref (u3.getD 4 0), .ref (u3.getD 5 0), .ref (u3.getD 6 0)])), ((u3.getD 0 0), .inl (G.2.2.1, 5, .inl (fun _ => 0))), ((u3.getD 1 0), .inl (G.2.2.1, 5, .inl (fun _ => 0))), ((u3.getD 2 0), .inl (G.2.2.1, 5, .inl (fun _ => 0))), ((u3.getD 3 0), .inl (G.2.2.1, 8, .inl (fun _ => 0))), ((u3.getD 4 0), .inl (G.2.2.1, 8, .inl (fun _ => 0))), ((u3.getD 5 0), .inl (G.2.2.1, 8, .inl (fun _ => 0))), ((u3.getD 6 0), .inl (G.2.2.1, 8, .inl (fun _ => 0)))] := hD
  exact y_ret C hr [q1, q2, (u3.getD 0 0), (u3.getD 1 0), (u3.getD 2 0), (u3.getD 3 0), (u3.getD 4 0), (u3.getD 5 0), (u3.getD 6 0)] rfl hP hD hS dX4_init_29
theorem lki_X6_20 : LkI RX6 20 yX1_init cX1_init 2 1 := ⟨q95, q76, q68, q77, rfl, by decide +kernel, by decide +kernel, by decide +kernel⟩
def wi_X6 (G : Geo) (h0 : Nat) (v : Nat) (l : List Nat) : va_W := [(h0, .inr (6, [.int 0, .ref (l.getD 0 0), .ref (l.getD 1 0), .ref (l.getD 2 0)])), ((l.getD 0 0), .inl (G.2.2.1, 40, .inl (fun _ => 0))), ((l.getD 1 0), .inl (G.2.2.1, 40, .inl (fun _ => 0))), ((l.getD 2 0), .inr (1, [.ref v, .ref (l.getD 3 0), .int (-1), .int (-1), .int (-1), .int 0, .ref (l.getD 4 0), .ref (l.getD 5 0), .ref (l.getD 6 0)])), ((l.getD 3 0), .inl (G.2.2.1, 8, .inl (fun _ => 0))), ((l.getD 4 0), .inl (G.2.2.1, 8, .inl (fun _ => 0))), ((l.getD 5 0), .inl (G.2.2.1, 8, .inl (fun _ => 0))), ((l.getD 6 0), .inl (G.2.2.1, 8, .inl (fun _ => 0)))]
set_option maxHeartbeats 4000000 in
set_option maxRecDepth 20000 in
theorem ci_X6 (l : Launch) (D : va_G) (G : Geo) (h0 : Nat) (v : Nat) : CN l D (tyG G) [(h0, .inr (6, [.int 0, .null, .null, .null]))] (wi_X6 G h0 v) yX6_init cX6_init 2 { frames := 2, cells := 7, slots := 121, locals := 33 } [.ref h0, .ref v] 7 121 := by
  refine cn_of pn_X6 rfl (Nat.le_of_ble_eq_true rfl) (fun p e s m below meth c A ls C hr hin hP hD hS hA hl => ?_)
  have C : Cx p s m _ meth c cX6_init 2 RX6 D (tyG G) := C
  have hl : lv_has ls 2 [(0, .ref h0), (1, .ref v)] := hl
  refine lv_aload_n C.1 C.2.1 dX6_init_0 rfl (lv_at hl 0 rfl) ?_
  refine y_oi C q90 q11 q12 hl.1 ⟨Nat.le_of_ble_eq_true rfl, Nat.le_of_ble_eq_true rfl⟩ dX6_init_1 ?_
  refine lv_aload_n C.1 C.2.1 dX6_init_4 rfl (lv_at hl 0 rfl) ?_
  refine lv_bipush (v := 40) C.1 C.2.1 dX6_init_5 (by decide) ?_
  refine y_newa (atype := .int) (ty := .int) C q52 rfl (fun _ _ h => h) hP hD hS hA 1 rfl (a0 := (40, .inl (fun _ => 0))) (N := 40) (fun _ => rfl) (by decide) (by decide) (Nat.le_of_ble_eq_true rfl) (Nat.le_of_ble_eq_true rfl) (Nat.le_of_ble_eq_true rfl) dX6_init_7 (fun q1 H hP hD hS => ?_)
  have hP : va_P D vwCl [(h0, .inr (6, [.int 0, .null, .null, .null])), (q1, .inl (G.2.2.1, 40, .inl (fun _ => 0)))] H := hP
  have hD : va_D A [(h0, .inr (6, [.int 0, .null, .null, .null])), (q1, .inl (G.2.2.1, 40, .inl (fun _ => 0)))] := hD
  refine W.widen (k := 1) (n := 40) (Nat.le_refl _) (Nat.le_refl _) ?_
  refine va_putF (v := .ref q1) (ty := .array .int) (C := RX6) (T := TX6) (N := 4) C.1 C.2.1 C.2.2.2.2.1 inX6 tyX6 tyX6_ok nmX6 C.2.2.2.1 C.2.2.2.2.2.2 hP hD hS 0 rfl rfl 1 (by decide) (C.2.2.2.2.1 _ q91) (fun _ h9 => h9) rfl hin rfl (by decide +kernel) rfl rfl (Nat.le_of_ble_eq_true rfl) dX6_init_9 (fun H locs hP hD hS => ?_)
  have hP : va_P D vwCl [(h0, .inr (6, [.int 0, .ref q1, .null, .null])), (q1, .inl (G.2.2.1, 40, .inl (fun _ => 0)))] H := hP
  have hD : va_D A [(h0, .inr (6, [.int 0, .ref q1, .null, .null])), (q1, .inl (G.2.2.1, 40, .inl (fun _ => 0)))] := hD
  refine lv_aload_n C.1 C.2.1 dX6_init_12 rfl (lv_at hl 0 rfl) ?_
  refine lv_bipush (v := 40) C.1 C.2.1 dX6_init_13 (by decide) ?_
  refine y_newa (atype := .int) (ty := .int) C q52 rfl (fun _ _ h => h) hP hD hS hA 1 rfl (a0 := (40, .inl (fun _ => 0))) (N := 40) (fun _ => rfl) (by decide) (by decide) (Nat.le_of_ble_eq_true rfl) (Nat.le_of_ble_eq_true rfl) (Nat.le_of_ble_eq_true rfl) dX6_init_15 (fun q2 H hP hD hS => ?_)
  have hP : va_P D vwCl [(h0, .inr (6, [.int 0, .ref q1, .null, .null])), (q1, .inl (G.2.2.1, 40, .inl (fun _ => 0))), (q2, .inl (G.2.2.1, 40, .inl (fun _ => 0)))] H := hP
  have hD : va_D A [(h0, .inr (6, [.int 0, .ref q1, .null, .null])), (q1, .inl (G.2.2.1, 40, .inl (fun _ => 0))), (q2, .inl (G.2.2.1, 40, .inl (fun _ => 0)))] := hD
  refine W.widen (k := 2) (n := 80) (Nat.le_refl _) (Nat.le_refl _) ?_
  refine va_putF (v := .ref q2) (ty := .array .int) (C := RX6) (T := TX6) (N := 4) C.1 C.2.1 C.2.2.2.2.1 inX6 tyX6 tyX6_ok nmX6 C.2.2.2.1 C.2.2.2.2.2.2 hP hD hS 0 rfl rfl 2 (by decide) (C.2.2.2.2.1 _ q92) (fun _ h9 => h9) rfl hin rfl (by decide +kernel) rfl rfl (Nat.le_of_ble_eq_true rfl) dX6_init_17 (fun H locs hP hD hS => ?_)
  have hP : va_P D vwCl [(h0, .inr (6, [.int 0, .ref q1, .ref q2, .null])), (q1, .inl (G.2.2.1, 40, .inl (fun _ => 0))), (q2, .inl (G.2.2.1, 40, .inl (fun _ => 0)))] H := hP
  have hD : va_D A [(h0, .inr (6, [.int 0, .ref q1, .ref q2, .null])), (q1, .inl (G.2.2.1, 40, .inl (fun _ => 0))), (q2, .inl (G.2.2.1, 40, .inl (fun _ => 0)))] := hD
  refine lv_aload_n C.1 C.2.1 dX6_init_20 rfl (lv_at hl 0 rfl) ?_
  refine va_new (ci := 1) (fs := [.null, .null, .int 0, .int 0, .int 0, .int 0, .null, .null, .null]) (C := RX1) (T := TX1) (N := 9) C.1 C.2.1 C.2.2.2.2.1 inX1 tyX1 tyX1_ok C.2.2.2.1 (C.2.2.2.2.1 _ q93) (C.2.2.2.2.1 _ q67) (C.2.2.2.2.1 _ q68) C.2.2.2.2.2.2 hP hD hS hA rfl bl_X1 (Nat.le_of_ble_eq_true rfl) (Nat.le_of_ble_eq_true rfl) dX6_init_21 (fun q3 H hP hD hS => ?_)
  have hP : va_P D vwCl [(h0, .inr (6, [.int 0, .ref q1, .ref q2, .null])), (q1, .inl (G.2.2.1, 40, .inl (fun _ => 0))), (q2, .inl (G.2.2.1, 40, .inl (fun _ => 0))), (q3, .inr (1, [.null, .null, .int 0, .int 0, .int 0, .int 0, .null, .null, .null]))] H := hP
  have hD : va_D A [(h0, .inr (6, [.int 0, .ref q1, .ref q2, .null])), (q1, .inl (G.2.2.1, 40, .inl (fun _ => 0))), (q2, .inl (G.2.2.1, 40, .inl (fun _ => 0))), (q3, .inr (1, [.null, .null, .int 0, .int 0, .int 0, .int 0, .null, .null, .null]))] := hD
  refine W.widen (k := 3) (n := 89) (Nat.le_refl _) (Nat.le_refl _) ?_
  refine lv_dup C.1 C.2.1 dX6_init_24 rfl ?_
  refine lv_aload_n C.1 C.2.1 dX6_init_25 rfl (lv_at hl 1 rfl) ?_
  have hPc := hP.sub (ws' := [(q3, .inr (1, [.null, .null, .int 0, .int 0, .int 0, .int 0, .null, .null, .null]))]) [3] rfl
  have hDc := hD.sub (ws' := [(q3, .inr (1, [.null, .null, .int 0, .int 0, .int 0, .int 0, .null, .null, .null]))]) [3] (by decide) rfl
  have hFc := va_free (wc := [(q3, .inr (1, [.null, .null, .int 0, .int 0, .int 0, .int 0, .null, .null, .null]))]) hD hS hA [3] rfl
  refine va_callv (y_runI (As := [.ref v]) (rest := [.ref q3, .ref h0]) C hPc hDc (ci_X1 l D G q3 v _) lki_X6_20 rfl ⟨rfl, rfl, Nat.le_of_ble_eq_true rfl, Nat.le_of_ble_eq_true rfl⟩ hl.1 rfl (Nat.le_of_ble_eq_true rfl) dX6_init_26 ⟨Nat.le_of_ble_eq_true rfl, Nat.le_of_ble_eq_true rfl⟩) hS (fun q _ h => hFc q h) hFc (fun u t H1 locs ht hvm hw hB hz1 hk1 hS => ?_)
  obtain ⟨u4, rfl⟩ : ∃ z, z = u := ⟨_, rfl⟩
  obtain ⟨hP1, hK1, hD1⟩ := hB
  rw [ht] at hP1
  obtain ⟨hP, hD⟩ := va_join (wr := [(h0, .inr (6, [.int 0, .ref q1, .ref q2, .null])), (q1, .inl (G.2.2.1, 40, .inl (fun _ => 0))), (q2, .inl (G.2.2.1, 40, .inl (fun _ => 0)))]) (w1 := wi_X1 G q3 v u4) hP hD [3] [0, 1, 2] rfl rfl (by decide) (by decide) hk1 hFc hP1 hD1
  generalize H1 = H at hP hS ⊢
  have hP : va_P D vwCl [(h0, .inr (6, [.int 0, .ref q1, .ref q2, .null])), (q1, .inl (G.2.2.1, 40, .inl (fun _ => 0))), (q2, .inl (G.2.2.1, 40, .inl (fun _ => 0))), (q3, .inr (1, [.ref v, .ref (u4.getD 0 0), .int (-1), .int (-1), .int (-1), .int 0, .ref (u4.getD 1 0), .ref (u4.getD 2 0), .ref (u4.getD 3 0)])), ((u4.getD 0 0), .inl (G.2.2.1, 8, .inl (fun _ => 0))), ((u4.getD 1 0), .inl (G.2.2.1, 8, .inl (fun _ => 0))), ((u4.getD 2 0), .inl (G.2.2.1, 8, .inl (fun _ => 0))), ((u4.getD 3 0), .inl (G.2.2.1, 8, .inl (fun _ => 0)))] H := hP
  have hD : va_D A [(h0, .inr (6, [.int 0, .ref q1, .ref q2, .null])), (q1, .inl (G.2.2.1, 40, .inl (fun _ => 0))), (q2, .inl (G.2.2.1, 40, .inl (fun _ => 0))), (q3, .inr (1, [.ref v, .ref (u4.getD 0 0), .int (-1), .int (-1), .int (-1), .int 0, .ref (u4.getD 1 0), .ref (u4.getD 2 0), .ref (u4.getD 3 0)])), ((u4.getD 0 0), .inl (G.2.2.1, 8, .inl (fun _ => 0))), ((u4.getD 1 0), .inl (G.2.2.1, 8, .inl (fun _ => 0))), ((u4.getD 2 0), .inl (G.2.2.1, 8, .inl (fun _ => 0))), ((u4.getD 3 0), .inl (G.2.2.1, 8, .inl (fun _ => 0)))] := hD
  refine W.widen (k := 7) (n := 121) (Nat.le_refl _) (Nat.le_refl _) ?_
  refine va_putF (v := .ref q3) (ty := .object "FirstAwake$Night") (C := RX6) (T := TX6) (N := 4) C.1 C.2.1 C.2.2.2.2.1 inX6 tyX6 tyX6_ok nmX6 C.2.2.2.1 C.2.2.2.2.2.2 hP hD hS 0 rfl rfl 3 (by decide) (C.2.2.2.2.1 _ q94) (fun _ h9 => h9) rfl hin rfl (by decide +kernel) rfl rfl (Nat.le_of_ble_eq_true rfl) dX6_init_29 (fun H locs hP hD hS => ?_)
  have hP : va_P D vwCl [(h0, .inr (6, [.int 0, .ref q1, .ref q2, .ref q3])), (q1, .inl (G.2.2.1, 40, .inl (fun _ => 0))), (q2, .inl (G.2.2.1, 40, .inl (fun _ => 0))), (q3, .inr (1, [.ref v, .ref (u4.getD 0 0), .int (-1), .int (-1), .int (-1), .int 0, .ref (u4.getD 1 0), .ref (u4.getD 2 0), .ref (u4.getD 3 0)])), ((u4.getD 0 0), .inl (G.2.2.1, 8, .inl (fun _ => 0))), ((u4.getD 1 0), .inl (G.2.2.1, 8, .inl (fun _ => 0))), ((u4.getD 2 0), .inl (G.2.2.1, 8, .inl (fun _ => 0))), ((u4.getD 3 0), .inl (G.2.2.1, 8, .inl (fun _ => 0)))] H := hP
  have hD : va_D A [(h0, .inr (6, [.int 0, .ref q1, .ref q2, .ref q3])), (q1, .inl (G.2.2.1, 40, .inl (fun _ => 0))), (q2, .inl (G.2.2.1, 40, .inl (fun _ => 0))), (q3, .inr (1, [.ref v, .ref (u4.getD 0 0), .int (-1), .int (-1), .int (-1), .int 0, .ref (u4.getD 1 0), .ref (u4.getD 2 0), .ref (u4.getD 3 0)])), ((u4.getD 0 0), .inl (G.2.2.1, 8, .inl (fun _ => 0))), ((u4.getD 1 0), .inl (G.2.2.1, 8, .inl (fun _ => 0))), ((u4.getD 2 0), .inl (G.2.2.1, 8, .inl (fun _ => 0))), ((u4.getD 3 0), .inl (G.2.2.1, 8, .inl (fun _ => 0)))] := hD
  exact y_ret C hr [q1, q2, q3, (u4.getD 0 0), (u4.getD 1 0), (u4.getD 2 0), (u4.getD 3 0)] rfl hP hD hS dX6_init_32
theorem lki_X2_17 : LkI RX2 17 yX1_init cX1_init 2 1 := ⟨q105, q76, q68, q77, rfl, by decide +kernel, by decide +kernel, by decide +kernel⟩
def wi_X2 (G : Geo) (h0 : Nat) (v : Nat) (l : List Nat) : va_W := [(h0, .inr (2, [.ref v, .ref (l.getD 0 0), .ref (l.getD 5 0), .ref (l.getD 10 0), .int 0, .int 0, .int 0])), ((l.getD 0 0), .inr (1, [.ref v, .ref (l.getD 1 0), .int (-1), .int (-1), .int (-1), .int 0, .ref (l.getD 2 0), .ref (l.getD 3 0), .ref (l.getD 4 0)])), ((l.getD 1 0), .inl (G.2.2.1, 8, .inl (fun _ => 0))), ((l.getD 2 0), .inl (G.2.2.1, 8, .inl (fun _ => 0))), ((l.getD 3 0), .inl (G.2.2.1, 8, .inl (fun _ => 0))), ((l.getD 4 0), .inl (G.2.2.1, 8, .inl (fun _ => 0))), ((l.getD 5 0), .inr (1, [.ref v, .ref (l.getD 6 0), .int (-1), .int (-1), .int (-1), .int 0, .ref (l.getD 7 0), .ref (l.getD 8 0), .ref (l.getD 9 0)])), ((l.getD 6 0), .inl (G.2.2.1, 8, .inl (fun _ => 0))), ((l.getD 7 0), .inl (G.2.2.1, 8, .inl (fun _ => 0))), ((l.getD 8 0), .inl (G.2.2.1, 8, .inl (fun _ => 0))), ((l.getD 9 0), .inl (G.2.2.1, 8, .inl (fun _ => 0))), ((l.getD 10 0), .inl (G.2.2.1, 20, .inl (fun _ => 0)))]
set_option maxHeartbeats 4000000 in
set_option maxRecDepth 20000 in
theorem ci_X2 (l : Launch) (D : va_G) (G : Geo) (h0 : Nat) (v : Nat) : CN l D (tyG G) [(h0, .inr (2, [.null, .null, .null, .null, .int 0, .int 0, .int 0]))] (wi_X2 G h0 v) yX2_init cX2_init 2 { frames := 2, cells := 11, slots := 102, locals := 33 } [.ref h0, .ref v] 11 102 := by
  refine cn_of pn_X2 rfl (Nat.le_of_ble_eq_true rfl) (fun p e s m below meth c A ls C hr hin hP hD hS hA hl => ?_)
  have C : Cx p s m _ meth c cX2_init 2 RX2 D (tyG G) := C
  have hl : lv_has ls 2 [(0, .ref h0), (1, .ref v)] := hl
  refine lv_aload_n C.1 C.2.1 dX2_init_0 rfl (lv_at hl 0 rfl) ?_
  refine y_oi C q99 q11 q12 hl.1 ⟨Nat.le_of_ble_eq_true rfl, Nat.le_of_ble_eq_true rfl⟩ dX2_init_1 ?_
  refine lv_aload_n C.1 C.2.1 dX2_init_4 rfl (lv_at hl 0 rfl) ?_
  refine lv_aload_n C.1 C.2.1 dX2_init_5 rfl (lv_at hl 1 rfl) ?_
  refine va_putF (v := .ref v) (ty := .object "FirstAwake$Valley") (C := RX2) (T := TX2) (N := 7) C.1 C.2.1 C.2.2.2.2.1 inX2 tyX2 tyX2_ok nmX2 C.2.2.2.1 C.2.2.2.2.2.2 hP hD hS 0 rfl rfl 0 (by decide) (C.2.2.2.2.1 _ q100) (fun _ h9 => h9) rfl hin rfl (by decide +kernel) rfl rfl (Nat.le_of_ble_eq_true rfl) dX2_init_6 (fun H locs hP hD hS => ?_)
  have hP : va_P D vwCl [(h0, .inr (2, [.ref v, .null, .null, .null, .int 0, .int 0, .int 0]))] H := hP
  have hD : va_D A [(h0, .inr (2, [.ref v, .null, .null, .null, .int 0, .int 0, .int 0]))] := hD
  refine lv_aload_n C.1 C.2.1 dX2_init_9 rfl (lv_at hl 0 rfl) ?_
  refine va_new (ci := 1) (fs := [.null, .null, .int 0, .int 0, .int 0, .int 0, .null, .null, .null]) (C := RX1) (T := TX1) (N := 9) C.1 C.2.1 C.2.2.2.2.1 inX1 tyX1 tyX1_ok C.2.2.2.1 (C.2.2.2.2.1 _ q101) (C.2.2.2.2.1 _ q67) (C.2.2.2.2.1 _ q68) C.2.2.2.2.2.2 hP hD hS hA rfl bl_X1 (Nat.le_of_ble_eq_true rfl) (Nat.le_of_ble_eq_true rfl) dX2_init_10 (fun q1 H hP hD hS => ?_)
  have hP : va_P D vwCl [(h0, .inr (2, [.ref v, .null, .null, .null, .int 0, .int 0, .int 0])), (q1, .inr (1, [.null, .null, .int 0, .int 0, .int 0, .int 0, .null, .null, .null]))] H := hP
  have hD : va_D A [(h0, .inr (2, [.ref v, .null, .null, .null, .int 0, .int 0, .int 0])), (q1, .inr (1, [.null, .null, .int 0, .int 0, .int 0, .int 0, .null, .null, .null]))] := hD
  refine W.widen (k := 1) (n := 9) (Nat.le_refl _) (Nat.le_refl _) ?_
  refine lv_dup C.1 C.2.1 dX2_init_13 rfl ?_
  refine lv_aload_n C.1 C.2.1 dX2_init_14 rfl (lv_at hl 1 rfl) ?_
  have hPc := hP.sub (ws' := [(q1, .inr (1, [.null, .null, .int 0, .int 0, .int 0, .int 0, .null, .null, .null]))]) [1] rfl
  have hDc := hD.sub (ws' := [(q1, .inr (1, [.null, .null, .int 0, .int 0, .int 0, .int 0, .null, .null, .null]))]) [1] (by decide) rfl
  have hFc := va_free (wc := [(q1, .inr (1, [.null, .null, .int 0, .int 0, .int 0, .int 0, .null, .null, .null]))]) hD hS hA [1] rfl
  refine va_callv (y_runI (As := [.ref v]) (rest := [.ref q1, .ref h0]) C hPc hDc (ci_X1 l D G q1 v _) lki_X2_17 rfl ⟨rfl, rfl, Nat.le_of_ble_eq_true rfl, Nat.le_of_ble_eq_true rfl⟩ hl.1 rfl (Nat.le_of_ble_eq_true rfl) dX2_init_15 ⟨Nat.le_of_ble_eq_true rfl, Nat.le_of_ble_eq_true rfl⟩) hS (fun q _ h => hFc q h) hFc (fun u t H1 locs ht hvm hw hB hz1 hk1 hS => ?_)
  obtain ⟨u2, rfl⟩ : ∃ z, z = u := ⟨_, rfl⟩
  obtain ⟨hP1, hK1, hD1⟩ := hB
  rw [ht] at hP1
  obtain ⟨hP, hD⟩ := va_join (wr := [(h0, .inr (2, [.ref v, .null, .null, .null, .int 0, .int 0, .int 0]))]) (w1 := wi_X1 G q1 v u2) hP hD [1] [0] rfl rfl (by decide) (by decide) hk1 hFc hP1 hD1
  generalize H1 = H at hP hS ⊢
  have hP : va_P D vwCl [(h0, .inr (2, [.ref v, .null, .null, .null, .int 0, .int 0, .int 0])), (q1, .inr (1, [.ref v, .ref (u2.getD 0 0), .int (-1), .int (-1), .int (-1), .int 0, .ref (u2.getD 1 0), .ref (u2.getD 2 0), .ref (u2.getD 3 0)])), ((u2.getD 0 0), .inl (G.2.2.1, 8, .inl (fun _ => 0))), ((u2.getD 1 0), .inl (G.2.2.1, 8, .inl (fun _ => 0))), ((u2.getD 2 0), .inl (G.2.2.1, 8, .inl (fun _ => 0))), ((u2.getD 3 0), .inl (G.2.2.1, 8, .inl (fun _ => 0)))] H := hP
  have hD : va_D A [(h0, .inr (2, [.ref v, .null, .null, .null, .int 0, .int 0, .int 0])), (q1, .inr (1, [.ref v, .ref (u2.getD 0 0), .int (-1), .int (-1), .int (-1), .int 0, .ref (u2.getD 1 0), .ref (u2.getD 2 0), .ref (u2.getD 3 0)])), ((u2.getD 0 0), .inl (G.2.2.1, 8, .inl (fun _ => 0))), ((u2.getD 1 0), .inl (G.2.2.1, 8, .inl (fun _ => 0))), ((u2.getD 2 0), .inl (G.2.2.1, 8, .inl (fun _ => 0))), ((u2.getD 3 0), .inl (G.2.2.1, 8, .inl (fun _ => 0)))] := hD
  refine W.widen (k := 5) (n := 41) (Nat.le_refl _) (Nat.le_refl _) ?_
  refine va_putF (v := .ref q1) (ty := .object "FirstAwake$Night") (C := RX2) (T := TX2) (N := 7) C.1 C.2.1 C.2.2.2.2.1 inX2 tyX2 tyX2_ok nmX2 C.2.2.2.1 C.2.2.2.2.2.2 hP hD hS 0 rfl rfl 1 (by decide) (C.2.2.2.2.1 _ q102) (fun _ h9 => h9) rfl hin rfl (by decide +kernel) rfl rfl (Nat.le_of_ble_eq_true rfl) dX2_init_18 (fun H locs hP hD hS => ?_)
  have hP : va_P D vwCl [(h0, .inr (2, [.ref v, .ref q1, .null, .null, .int 0, .int 0, .int 0])), (q1, .inr (1, [.ref v, .ref (u2.getD 0 0), .int (-1), .int (-1), .int (-1), .int 0, .ref (u2.getD 1 0), .ref (u2.getD 2 0), .ref (u2.getD 3 0)])), ((u2.getD 0 0), .inl (G.2.2.1, 8, .inl (fun _ => 0))), ((u2.getD 1 0), .inl (G.2.2.1, 8, .inl (fun _ => 0))), ((u2.getD 2 0), .inl (G.2.2.1, 8, .inl (fun _ => 0))), ((u2.getD 3 0), .inl (G.2.2.1, 8, .inl (fun _ => 0)))] H := hP
  have hD : va_D A [(h0, .inr (2, [.ref v, .ref q1, .null, .null, .int 0, .int 0, .int 0])), (q1, .inr (1, [.ref v, .ref (u2.getD 0 0), .int (-1), .int (-1), .int (-1), .int 0, .ref (u2.getD 1 0), .ref (u2.getD 2 0), .ref (u2.getD 3 0)])), ((u2.getD 0 0), .inl (G.2.2.1, 8, .inl (fun _ => 0))), ((u2.getD 1 0), .inl (G.2.2.1, 8, .inl (fun _ => 0))), ((u2.getD 2 0), .inl (G.2.2.1, 8, .inl (fun _ => 0))), ((u2.getD 3 0), .inl (G.2.2.1, 8, .inl (fun _ => 0)))] := hD
  refine lv_aload_n C.1 C.2.1 dX2_init_21 rfl (lv_at hl 0 rfl) ?_
  refine va_new (ci := 1) (fs := [.null, .null, .int 0, .int 0, .int 0, .int 0, .null, .null, .null]) (C := RX1) (T := TX1) (N := 9) C.1 C.2.1 C.2.2.2.2.1 inX1 tyX1 tyX1_ok C.2.2.2.1 (C.2.2.2.2.1 _ q101) (C.2.2.2.2.1 _ q67) (C.2.2.2.2.1 _ q68) C.2.2.2.2.2.2 hP hD hS hA rfl bl_X1 (Nat.le_of_ble_eq_true rfl) (Nat.le_of_ble_eq_true rfl) dX2_init_22 (fun q3 H hP hD hS => ?_)
  have hP : va_P D vwCl [(h0, .inr (2, [.ref v, .ref q1, .null, .null, .int 0, .int 0, .int 0])), (q1, .inr (1, [.ref v, .ref (u2.getD 0 0), .int (-1), .int (-1), .int (-1), .int 0, .ref (u2.getD 1 0), .ref (u2.getD 2 0), .ref (u2.getD 3 0)])), ((u2.getD 0 0), .inl (G.2.2.1, 8, .inl (fun _ => 0))), ((u2.getD 1 0), .inl (G.2.2.1, 8, .inl (fun _ => 0))), ((u2.getD 2 0), .inl (G.2.2.1, 8, .inl (fun _ => 0))), ((u2.getD 3 0), .inl (G.2.2.1, 8, .inl (fun _ => 0))), (q3, .inr (1, [.null, .null, .int 0, .int 0, .int 0, .int 0, .null, .null, .null]))] H := hP
  have hD : va_D A [(h0, .inr (2, [.ref v, .ref q1, .null, .null, .int 0, .int 0, .int 0])), (q1, .inr (1, [.ref v, .ref (u2.getD 0 0), .int (-1), .int (-1), .int (-1), .int 0, .ref (u2.getD 1 0), .ref (u2.getD 2 0), .ref (u2.getD 3 0)])), ((u2.getD 0 0), .inl (G.2.2.1, 8, .inl (fun _ => 0))), ((u2.getD 1 0), .inl (G.2.2.1, 8, .inl (fun _ => 0))), ((u2.getD 2 0), .inl (G.2.2.1, 8, .inl (fun _ => 0))), ((u2.getD 3 0), .inl (G.2.2.1, 8, .inl (fun _ => 0))), (q3, .inr (1, [.null, .null, .int 0, .int 0, .int 0, .int 0, .null, .null, .null]))] := hD
  refine W.widen (k := 6) (n := 50) (Nat.le_refl _) (Nat.le_refl _) ?_
  refine lv_dup C.1 C.2.1 dX2_init_25 rfl ?_
  refine lv_aload_n C.1 C.2.1 dX2_init_26 rfl (lv_at hl 1 rfl) ?_
  have hPc := hP.sub (ws' := [(q3, .inr (1, [.null, .null, .int 0, .int 0, .int 0, .int 0, .null, .null, .null]))]) [6] rfl
  have hDc := hD.sub (ws' := [(q3, .inr (1, [.null, .null, .int 0, .int 0, .int 0, .int 0, .null, .null, .null]))]) [6] (by decide) rfl
  have hFc := va_free (wc := [(q3, .inr (1, [.null, .null, .int 0, .int 0, .int 0, .int 0, .null, .null, .null]))]) hD hS hA [6] rfl
  refine va_callv (y_runI (As := [.ref v]) (rest := [.ref q3, .ref h0]) C hPc hDc (ci_X1 l D G q3 v _) lki_X2_17 rfl ⟨rfl, rfl, Nat.le_of_ble_eq_true rfl, Nat.le_of_ble_eq_true rfl⟩ hl.1 rfl (Nat.le_of_ble_eq_true rfl) dX2_init_27 ⟨Nat.le_of_ble_eq_true rfl, Nat.le_of_ble_eq_true rfl⟩) hS (fun q _ h => hFc q h) hFc (fun u t H1 locs ht hvm hw hB hz1 hk1 hS => ?_)
  obtain ⟨u4, rfl⟩ : ∃ z, z = u := ⟨_, rfl⟩
  obtain ⟨hP1, hK1, hD1⟩ := hB
  rw [ht] at hP1
  obtain ⟨hP, hD⟩ := va_join (wr := [(h0, .inr (2, [.ref v, .ref q1, .null, .null, .int 0, .int 0, .int 0])), (q1, .inr (1, [.ref v, .ref (u2.getD 0 0), .int (-1), .int (-1), .int (-1), .int 0, .ref (u2.getD 1 0), .ref (u2.getD 2 0), .ref (u2.getD 3 0)])), ((u2.getD 0 0), .inl (G.2.2.1, 8, .inl (fun _ => 0))), ((u2.getD 1 0), .inl (G.2.2.1, 8, .inl (fun _ => 0))), ((u2.getD 2 0), .inl (G.2.2.1, 8, .inl (fun _ => 0))), ((u2.getD 3 0), .inl (G.2.2.1, 8, .inl (fun _ => 0)))]) (w1 := wi_X1 G q3 v u4) hP hD [6] [0, 1, 2, 3, 4, 5] rfl rfl (by decide) (by decide) hk1 hFc hP1 hD1
  generalize H1 = H at hP hS ⊢
  have hP : va_P D vwCl [(h0, .inr (2, [.ref v, .ref q1, .null, .null, .int 0, .int 0, .int 0])), (q1, .inr (1, [.ref v, .ref (u2.getD 0 0), .int (-1), .int (-1), .int (-1), .int 0, .ref (u2.getD 1 0), .ref (u2.getD 2 0), .ref (u2.getD 3 0)])), ((u2.getD 0 0), .inl (G.2.2.1, 8, .inl (fun _ => 0))), ((u2.getD 1 0), .inl (G.2.2.1, 8, .inl (fun _ => 0))), ((u2.getD 2 0), .inl (G.2.2.1, 8, .inl (fun _ => 0))), ((u2.getD 3 0), .inl (G.2.2.1, 8, .inl (fun _ => 0))), (q3, .inr (1, [.ref v, .ref (u4.getD 0 0), .int (-1), .int (-1), .int (-1), .int 0, .ref (u4.getD 1 0), .ref (u4.getD 2 0), .ref (u4.getD 3 0)])), ((u4.getD 0 0), .inl (G.2.2.1, 8, .inl (fun _ => 0))), ((u4.getD 1 0), .inl (G.2.2.1, 8, .inl (fun _ => 0))), ((u4.getD 2 0), .inl (G.2.2.1, 8, .inl (fun _ => 0))), ((u4.getD 3 0), .inl (G.2.2.1, 8, .inl (fun _ => 0)))] H := hP
  have hD : va_D A [(h0, .inr (2, [.ref v, .ref q1, .null, .null, .int 0, .int 0, .int 0])), (q1, .inr (1, [.ref v, .ref (u2.getD 0 0), .int (-1), .int (-1), .int (-1), .int 0, .ref (u2.getD 1 0), .ref (u2.getD 2 0), .ref (u2.getD 3 0)])), ((u2.getD 0 0), .inl (G.2.2.1, 8, .inl (fun _ => 0))), ((u2.getD 1 0), .inl (G.2.2.1, 8, .inl (fun _ => 0))), ((u2.getD 2 0), .inl (G.2.2.1, 8, .inl (fun _ => 0))), ((u2.getD 3 0), .inl (G.2.2.1, 8, .inl (fun _ => 0))), (q3, .inr (1, [.ref v, .ref (u4.getD 0 0), .int (-1), .int (-1), .int (-1), .int 0, .ref (u4.getD 1 0), .ref (u4.getD 2 0), .ref (u4.getD 3 0)])), ((u4.getD 0 0), .inl (G.2.2.1, 8, .inl (fun _ => 0))), ((u4.getD 1 0), .inl (G.2.2.1, 8, .inl (fun _ => 0))), ((u4.getD 2 0), .inl (G.2.2.1, 8, .inl (fun _ => 0))), ((u4.getD 3 0), .inl (G.2.2.1, 8, .inl (fun _ => 0)))] := hD
  refine W.widen (k := 10) (n := 82) (Nat.le_refl _) (Nat.le_refl _) ?_
  refine va_putF (v := .ref q3) (ty := .object "FirstAwake$Night") (C := RX2) (T := TX2) (N := 7) C.1 C.2.1 C.2.2.2.2.1 inX2 tyX2 tyX2_ok nmX2 C.2.2.2.1 C.2.2.2.2.2.2 hP hD hS 0 rfl rfl 2 (by decide) (C.2.2.2.2.1 _ q103) (fun _ h9 => h9) rfl hin rfl (by decide +kernel) rfl rfl (Nat.le_of_ble_eq_true rfl) dX2_init_30 (fun H locs hP hD hS => ?_)
  have hP : va_P D vwCl [(h0, .inr (2, [.ref v, .ref q1, .ref q3, .null, .int 0, .int 0, .int 0])), (q1, .inr (1, [.ref v, .ref (u2.getD 0 0), .int (-1), .int (-1), .int (-1), .int 0, .ref (u2.getD 1 0), .ref (u2.getD 2 0), .ref (u2.getD 3 0)])), ((u2.getD 0 0), .inl (G.2.2.1, 8, .inl (fun _ => 0))), ((u2.getD 1 0), .inl (G.2.2.1, 8, .inl (fun _ => 0))), ((u2.getD 2 0), .inl (G.2.2.1, 8, .inl (fun _ => 0))), ((u2.getD 3 0), .inl (G.2.2.1, 8, .inl (fun _ => 0))), (q3, .inr (1, [.ref v, .ref (u4.getD 0 0), .int (-1), .int (-1), .int (-1), .int 0, .ref (u4.getD 1 0), .ref (u4.getD 2 0), .ref (u4.getD 3 0)])), ((u4.getD 0 0), .inl (G.2.2.1, 8, .inl (fun _ => 0))), ((u4.getD 1 0), .inl (G.2.2.1, 8, .inl (fun _ => 0))), ((u4.getD 2 0), .inl (G.2.2.1, 8, .inl (fun _ => 0))), ((u4.getD 3 0), .inl (G.2.2.1, 8, .inl (fun _ => 0)))] H := hP
  have hD : va_D A [(h0, .inr (2, [.ref v, .ref q1, .ref q3, .null, .int 0, .int 0, .int 0])), (q1, .inr (1, [.ref v, .ref (u2.getD 0 0), .int (-1), .int (-1), .int (-1), .int 0, .ref (u2.getD 1 0), .ref (u2.getD 2 0), .ref (u2.getD 3 0)])), ((u2.getD 0 0), .inl (G.2.2.1, 8, .inl (fun _ => 0))), ((u2.getD 1 0), .inl (G.2.2.1, 8, .inl (fun _ => 0))), ((u2.getD 2 0), .inl (G.2.2.1, 8, .inl (fun _ => 0))), ((u2.getD 3 0), .inl (G.2.2.1, 8, .inl (fun _ => 0))), (q3, .inr (1, [.ref v, .ref (u4.getD 0 0), .int (-1), .int (-1), .int (-1), .int 0, .ref (u4.getD 1 0), .ref (u4.getD 2 0), .ref (u4.getD 3 0)])), ((u4.getD 0 0), .inl (G.2.2.1, 8, .inl (fun _ => 0))), ((u4.getD 1 0), .inl (G.2.2.1, 8, .inl (fun _ => 0))), ((u4.getD 2 0), .inl (G.2.2.1, 8, .inl (fun _ => 0))), ((u4.getD 3 0), .inl (G.2.2.1, 8, .inl (fun _ => 0)))] := hD
  refine lv_aload_n C.1 C.2.1 dX2_init_33 rfl (lv_at hl 0 rfl) ?_
  refine lv_bipush (v := 20) C.1 C.2.1 dX2_init_34 (by decide) ?_
  refine y_newa (atype := .int) (ty := .int) C q52 rfl (fun _ _ h => h) hP hD hS hA 1 rfl (a0 := (20, .inl (fun _ => 0))) (N := 20) (fun _ => rfl) (by decide) (by decide) (Nat.le_of_ble_eq_true rfl) (Nat.le_of_ble_eq_true rfl) (Nat.le_of_ble_eq_true rfl) dX2_init_36 (fun q5 H hP hD hS => ?_)
  have hP : va_P D vwCl [(h0, .inr (2, [.ref v, .ref q1, .ref q3, .null, .int 0, .int 0, .int 0])), (q1, .inr (1, [.ref v, .ref (u2.getD 0 0), .int (-1), .int (-1), .int (-1), .int 0, .ref (u2.getD 1 0), .ref (u2.getD 2 0), .ref (u2.getD 3 0)])), ((u2.getD 0 0), .inl (G.2.2.1, 8, .inl (fun _ => 0))), ((u2.getD 1 0), .inl (G.2.2.1, 8, .inl (fun _ => 0))), ((u2.getD 2 0), .inl (G.2.2.1, 8, .inl (fun _ => 0))), ((u2.getD 3 0), .inl (G.2.2.1, 8, .inl (fun _ => 0))), (q3, .inr (1, [.ref v, .ref (u4.getD 0 0), .int (-1), .int (-1), .int (-1), .int 0, .ref (u4.getD 1 0), .ref (u4.getD 2 0), .ref (u4.getD 3 0)])), ((u4.getD 0 0), .inl (G.2.2.1, 8, .inl (fun _ => 0))), ((u4.getD 1 0), .inl (G.2.2.1, 8, .inl (fun _ => 0))), ((u4.getD 2 0), .inl (G.2.2.1, 8, .inl (fun _ => 0))), ((u4.getD 3 0), .inl (G.2.2.1, 8, .inl (fun _ => 0))), (q5, .inl (G.2.2.1, 20, .inl (fun _ => 0)))] H := hP
  have hD : va_D A [(h0, .inr (2, [.ref v, .ref q1, .ref q3, .null, .int 0, .int 0, .int 0])), (q1, .inr (1, [.ref v, .ref (u2.getD 0 0), .int (-1), .int (-1), .int (-1), .int 0, .ref (u2.getD 1 0), .ref (u2.getD 2 0), .ref (u2.getD 3 0)])), ((u2.getD 0 0), .inl (G.2.2.1, 8, .inl (fun _ => 0))), ((u2.getD 1 0), .inl (G.2.2.1, 8, .inl (fun _ => 0))), ((u2.getD 2 0), .inl (G.2.2.1, 8, .inl (fun _ => 0))), ((u2.getD 3 0), .inl (G.2.2.1, 8, .inl (fun _ => 0))), (q3, .inr (1, [.ref v, .ref (u4.getD 0 0), .int (-1), .int (-1), .int (-1), .int 0, .ref (u4.getD 1 0), .ref (u4.getD 2 0), .ref (u4.getD 3 0)])), ((u4.getD 0 0), .inl (G.2.2.1, 8, .inl (fun _ => 0))), ((u4.getD 1 0), .inl (G.2.2.1, 8, .inl (fun _ => 0))), ((u4.getD 2 0), .inl (G.2.2.1, 8, .inl (fun _ => 0))), ((u4.getD 3 0), .inl (G.2.2.1, 8, .inl (fun _ => 0))), (q5, .inl (G.2.2.1, 20, .inl (fun _ => 0)))] := hD
  refine W.widen (k := 11) (n := 102) (Nat.le_refl _) (Nat.le_refl _) ?_
  refine va_putF (v := .ref q5) (ty := .array .int) (C := RX2) (T := TX2) (N := 7) C.1 C.2.1 C.2.2.2.2.1 inX2 tyX2 tyX2_ok nmX2 C.2.2.2.1 C.2.2.2.2.2.2 hP hD hS 0 rfl rfl 3 (by decide) (C.2.2.2.2.1 _ q104) (fun _ h9 => h9) rfl hin rfl (by decide +kernel) rfl rfl (Nat.le_of_ble_eq_true rfl) dX2_init_38 (fun H locs hP hD hS => ?_)
  have hP : va_P D vwCl [(h0, .inr (2, [.ref v, .ref q1, .ref q3, .ref q5, .int 0, .int 0, .int 0])), (q1, .inr (1, [.ref v, .ref (u2.getD 0 0), .int (-1), .int (-1), .int (-1), .int 0, .ref (u2.getD 1 0), .ref (u2.getD 2 0), .ref (u2.getD 3 0)])), ((u2.getD 0 0), .inl (G.2.2.1, 8, .inl (fun _ => 0))), ((u2.getD 1 0), .inl (G.2.2.1, 8, .inl (fun _ => 0))), ((u2.getD 2 0), .inl (G.2.2.1, 8, .inl (fun _ => 0))), ((u2.getD 3 0), .inl (G.2.2.1, 8, .inl (fun _ => 0))), (q3, .inr (1, [.ref v, .ref (u4.getD 0 0), .int (-1), .int (-1), .int (-1), .int 0, .ref (u4.getD 1 0), .ref (u4.getD 2 0), .ref (u4.getD 3 0)])), ((u4.getD 0 0), .inl (G.2.2.1, 8, .inl (fun _ => 0))), ((u4.getD 1 0), .inl (G.2.2.1, 8, .inl (fun _ => 0))), ((u4.getD 2 0), .inl (G.2.2.1, 8, .inl (fun _ => 0))), ((u4.getD 3 0), .inl (G.2.2.1, 8, .inl (fun _ => 0))), (q5, .inl (G.2.2.1, 20, .inl (fun _ => 0)))] H := hP
  have hD : va_D A [(h0, .inr (2, [.ref v, .ref q1, .ref q3, .ref q5, .int 0, .int 0, .int 0])), (q1, .inr (1, [.ref v, .ref (u2.getD 0 0), .int (-1), .int (-1), .int (-1), .int 0, .ref (u2.getD 1 0), .ref (u2.getD 2 0), .ref (u2.getD 3 0)])), ((u2.getD 0 0), .inl (G.2.2.1, 8, .inl (fun _ => 0))), ((u2.getD 1 0), .inl (G.2.2.1, 8, .inl (fun _ => 0))), ((u2.getD 2 0), .inl (G.2.2.1, 8, .inl (fun _ => 0))), ((u2.getD 3 0), .inl (G.2.2.1, 8, .inl (fun _ => 0))), (q3, .inr (1, [.ref v, .ref (u4.getD 0 0), .int (-1), .int (-1), .int (-1), .int 0, .ref (u4.getD 1 0), .ref (u4.getD 2 0), .ref (u4.getD 3 0)])), ((u4.getD 0 0), .inl (G.2.2.1, 8, .inl (fun _ => 0))), ((u4.getD 1 0), .inl (G.2.2.1, 8, .inl (fun _ => 0))), ((u4.getD 2 0), .inl (G.2.2.1, 8, .inl (fun _ => 0))), ((u4.getD 3 0), .inl (G.2.2.1, 8, .inl (fun _ => 0))), (q5, .inl (G.2.2.1, 20, .inl (fun _ => 0)))] := hD
  exact y_ret C hr [q1, (u2.getD 0 0), (u2.getD 1 0), (u2.getD 2 0), (u2.getD 3 0), q3, (u4.getD 0 0), (u4.getD 1 0), (u4.getD 2 0), (u4.getD 3 0), q5] rfl hP hD hS dX2_init_41
def wi_X3 (G : Geo) (h0 : Nat) (l : List Nat) : va_W := [(h0, .inr (3, [.ref (l.getD 0 0), .int 0, .long 0, .long 0])), ((l.getD 0 0), .inl (G.2.2.2.1, 7, .inr (.inl (fun _ => 0))))]
set_option maxHeartbeats 4000000 in
set_option maxRecDepth 20000 in
theorem ci_X3 (l : Launch) (D : va_G) (G : Geo) (h0 : Nat) : CN l D (tyG G) [(h0, .inr (3, [.null, .int 0, .long 0, .long 0]))] (wi_X3 G h0) yX3_init cX3_init 1 { frames := 1, cells := 1, slots := 7, locals := 12 } [.ref h0] 1 7 := by
  refine cn_of pn_X3 rfl (Nat.le_of_ble_eq_true rfl) (fun p e s m below meth c A ls C hr hin hP hD hS hA hl => ?_)
  have C : Cx p s m _ meth c cX3_init 1 RX3 D (tyG G) := C
  have hl : lv_has ls 1 [(0, .ref h0)] := hl
  refine lv_aload_n C.1 C.2.1 dX3_init_0 rfl (lv_at hl 0 rfl) ?_
  refine y_oi C q109 q11 q12 hl.1 ⟨Nat.le_of_ble_eq_true rfl, Nat.le_of_ble_eq_true rfl⟩ dX3_init_1 ?_
  refine lv_aload_n C.1 C.2.1 dX3_init_4 rfl (lv_at hl 0 rfl) ?_
  refine lv_bipush (v := 7) C.1 C.2.1 dX3_init_5 (by decide) ?_
  refine y_newa (atype := .long) (ty := .long) C q110 rfl (fun _ _ h => h) hP hD hS hA 2 rfl (a0 := (7, .inr (.inl (fun _ => 0)))) (N := 7) (fun _ => rfl) (by decide) (by decide) (Nat.le_of_ble_eq_true rfl) (Nat.le_of_ble_eq_true rfl) (Nat.le_of_ble_eq_true rfl) dX3_init_7 (fun q1 H hP hD hS => ?_)
  have hP : va_P D vwCl [(h0, .inr (3, [.null, .int 0, .long 0, .long 0])), (q1, .inl (G.2.2.2.1, 7, .inr (.inl (fun _ => 0))))] H := hP
  have hD : va_D A [(h0, .inr (3, [.null, .int 0, .long 0, .long 0])), (q1, .inl (G.2.2.2.1, 7, .inr (.inl (fun _ => 0))))] := hD
  refine W.widen (k := 1) (n := 7) (Nat.le_refl _) (Nat.le_refl _) ?_
  refine va_putF (v := .ref q1) (ty := .array .long) (C := RX3) (T := TX3) (N := 4) C.1 C.2.1 C.2.2.2.2.1 inX3 tyX3 tyX3_ok nmX3 C.2.2.2.1 C.2.2.2.2.2.2 hP hD hS 0 rfl rfl 0 (by decide) (C.2.2.2.2.1 _ q111) (fun _ h9 => h9) rfl hin rfl (by decide +kernel) rfl rfl (Nat.le_of_ble_eq_true rfl) dX3_init_9 (fun H locs hP hD hS => ?_)
  have hP : va_P D vwCl [(h0, .inr (3, [.ref q1, .int 0, .long 0, .long 0])), (q1, .inl (G.2.2.2.1, 7, .inr (.inl (fun _ => 0))))] H := hP
  have hD : va_D A [(h0, .inr (3, [.ref q1, .int 0, .long 0, .long 0])), (q1, .inl (G.2.2.2.1, 7, .inr (.inl (fun _ => 0))))] := hD
  exact y_ret C hr [q1] rfl hP hD hS dX3_init_12
