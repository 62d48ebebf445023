variable {p : Program} {l : Launch} {e : Env} {s : State} {m : MethodId} {args : Array Value} {below : List Frame} {meth : Method} {c : Code} {D : va_G} {A : Nat → Prop} {G : Geo}
theorem lk_X4_49 : Lk RX4 49 yX4_isWord cX4_isWord 4 ((some .boolean)) 2 := ⟨q198, q199, q200, q15, q201, by decide +kernel, by decide +kernel, by decide +kernel⟩
theorem lk_X4_59 : Lk RX4 59 yX4_readSleeper cX4_readSleeper 3 none 1 := ⟨q270, q271, q272, q15, q273, by decide +kernel, by decide +kernel, by decide +kernel⟩
theorem lk_X4_53 : Lk RX4 53 yX4_readHouse cX4_readHouse 3 none 1 := ⟨q251, q252, q253, q15, q254, by decide +kernel, by decide +kernel, by decide +kernel⟩
theorem lk_X4_44 : Lk RX4 44 yX4_readClause cX4_readClause 2 none 0 := ⟨q194, q195, q196, q15, q197, by decide +kernel, by decide +kernel, by decide +kernel⟩
theorem lk_X7_69 : Lk RX7 69 yX4_readAll cX4_readAll 2 ((some .int)) 0 := ⟨q182, q183, q184, q15, q185, by decide +kernel, by decide +kernel, by decide +kernel⟩
theorem lk_X7_76 : Lk RX7 76 yX5_copyFrom cX5_copyFrom 2 none 1 := ⟨q278, q279, q280, q19, q281, by decide +kernel, by decide +kernel, by decide +kernel⟩
theorem lk_X7_79 : Lk RX7 79 yX0_beginAnew cX0_beginAnew 1 none 0 := ⟨q288, q289, q290, q23, q291, by decide +kernel, by decide +kernel, by decide +kernel⟩
def b_X4_isWord_17 (i : Nat)  (rec17 : Int32 × Int32 × St → Option (Int32 × St)) (x1 : Int32) (x3 : Int32) (σ : St) : Option (Int32 × St) := if (Int32.ofNat (sln i)) ≤ x3 then some (1, σ) else rd (σ.1 2) 400 (x1 + x3) (fun v3 => ck (inb x3 (sln i)) (if v3 = (sch i (x3 : Int32).toNatClampNeg) then rec17 (x1, x3 + 1, σ) else some (0, σ)))
def f_X4_isWord_17 (i : Nat)  (x1 : Int32) (x3 : Int32) (σ : St) : Option (Int32 × St) := lp (fun (rec17 : Int32 × Int32 × St → Option (Int32 × St)) (q : Int32 × Int32 × St) => b_X4_isWord_17 i  rec17 (q.1) (q.2.1) (q.2.2)) 100000 (x1, x3, σ)
set_option maxHeartbeats 4000000 in
theorem t_X4_isWord_17 (C : Cx p s m args meth c cX4_isWord 4 RX4 D (tyG G)) (hr : meth.sig.returnType = (some .boolean)) {K V : Nat → Nat} (E : SE K V A s s.heap) {o : Int32 × St} (i : Nat) (hi : i < 2)  : ∀ (x1 : Int32) (x3 : Int32) (σ : St) (H : Heap) (locs : List Loc) (ls : Array Slot), Hs D A s.heap (wC G σ) H locs → lv_has ls 4 [(0, .ref (G.1 1)), (1, .int x1), (2, .ref (K i)), (3, .int x3)] → f_X4_isWord_17 i  x1 x3 σ = some o → W p l e ({ frames := 4, cells := 0, slots := 0, locals := 85 } : Room) s m args below meth c H locs 0 0 (MQ below (QI D (tyG G) (wC G) A o) args s 0 0 A) (F0 m 17 ls []) := by
  intro x1 x3 σ H locs ls h hl hf
  refine lp_el (P := fun q : Int32 × Int32 × St => ∀ (H : Heap) (locs : List Loc) (ls : Array Slot), Hs D A s.heap (wC G (q.2.2)) H locs → lv_has ls 4 [(0, .ref (G.1 1)), (1, .int (q.1)), (2, .ref (K i)), (3, .int (q.2.1))] → W p l e ({ frames := 4, cells := 0, slots := 0, locals := 85 } : Room) s m args below meth c H locs 0 0 (MQ below (QI D (tyG G) (wC G) A o) args s 0 0 A) (F0 m 17 ls [])) (fun rec17 q IH17 hf => ?_) _ (x1, x3, σ) hf H locs ls h hl
  obtain ⟨x1, x3, σ⟩ := q
  intro H locs ls h hl
  have hl : lv_has ls 4 [(0, .ref (G.1 1)), (1, .int x1), (2, .ref (K i)), (3, .int x3)] := hl
  have h : Hs D A s.heap (wC G σ) H locs := h
  have hf : b_X4_isWord_17 i  rec17 x1 x3 σ = some o := hf
  unfold b_X4_isWord_17 at hf
  have hx := C.1
  have hb := C.2.1
  refine lv_iload_n hx hb dX4_isWord_17 rfl (lv_at hl 3 rfl) ?_
  refine lv_aload_n hx hb dX4_isWord_18 rfl (lv_at hl 2 rfl) ?_
  refine x_slen (rest := [.int x3]) C E h hi ⟨Nat.le_of_ble_eq_true rfl, Nat.le_of_ble_eq_true rfl⟩ hl.1 (Nat.le_of_ble_eq_true rfl) dX4_isWord_19 (fun H locs h => ?_)
  refine lv_icmp_ge (tgt := 49) hx hb dX4_isWord_22 (by decide) (fun c2 => ?_) (fun c2 => ?_)
  · have hf := ifT c2 hf
    refine lv_iconst (v := 1) hx hb dX4_isWord_49 (by decide) ?_
    exact x_zret C hr h rfl hf dX4_isWord_50
  · have hf := ifF c2 hf
    refine lv_aload_n hx hb dX4_isWord_25 rfl (lv_at hl 0 rfl) ?_
    refine gf_X4_9 C h (by decide) dX4_isWord_26 ?_
    refine lv_iload_n hx hb dX4_isWord_29 rfl (lv_at hl 1 rfl) ?_
    refine lv_iload_n hx hb dX4_isWord_30 rfl (lv_at hl 3 rfl) ?_
    refine lv_iadd hx hb dX4_isWord_31 ?_
    refine rd_el hf (fun v3 hinv3 hv3 hf => ?_)
    refine x_bald C h 2 0 (ltA_X4_text (by decide)) ((aC_X4_text G (by decide)) _ _) rfl hinv3 hv3 dX4_isWord_32 ?_
    refine lv_aload_n hx hb dX4_isWord_33 rfl (lv_at hl 2 rfl) ?_
    refine lv_iload_n hx hb dX4_isWord_34 rfl (lv_at hl 3 rfl) ?_
    refine ckb_el hf (fun hin4 hf => ?_)
    refine x_schr (rest := [.int v3]) C E h hi hin4 ⟨Nat.le_of_ble_eq_true rfl, Nat.le_of_ble_eq_true rfl⟩ hl.1 (Nat.le_of_ble_eq_true rfl) dX4_isWord_35 (fun H locs h => ?_)
    refine lv_icmp_eq (tgt := 43) hx hb dX4_isWord_38 (by decide) (fun c5 => ?_) (fun c5 => ?_)
    · have hf := ifT c5 hf
      refine lv_iinc (v := x3 + 1) (lv' := [(3, .int (x3 + 1)), (0, .ref (G.1 1)), (1, .int x1), (2, .ref (K i))]) hx hb dX4_isWord_43 hl (k := 3) rfl rfl (by decide) rfl (fun ls hl => ?_)
      refine lv_goto (tgt := 17) hx hb dX4_isWord_46 (by decide) ?_
      exact IH17 (x1, x3 + 1, σ) hf _ _ _ h (lv_sub hl [1, 2, 3, 0] rfl)
    · have hf := ifF c5 hf
      refine lv_iconst (v := 0) hx hb dX4_isWord_41 (by decide) ?_
      exact x_zret C hr h rfl hf dX4_isWord_42
def f_X4_isWord (i : Nat) (x1 : Int32) (σ : St) : Option (Int32 × St) := if ((σ.1 1 3) - x1) = (Int32.ofNat (sln i)) then f_X4_isWord_17 i x1 0 σ else some (0, σ)
set_option maxHeartbeats 4000000 in
theorem c_X4_isWord (l : Launch) (D : va_G) (G : Geo) (K V : Nat → Nat) (i : Nat) (hi : i < 2) (x1 : Int32) (σ : St) (o : Int32 × St) (hf : f_X4_isWord i x1 σ = some o) : CIs l D (tyG G) (wC G) K V yX4_isWord cX4_isWord 4 ((some .boolean)) ({ frames := 4, cells := 0, slots := 0, locals := 85 }) [.ref (G.1 1), .int x1, .ref (K i)] σ o := by
  refine met_ofS (Qc := fun A => QI D (tyG G) (wC G) A o) pn_X4 (Nat.le_of_ble_eq_true rfl) (fun p e s m below meth c A ls C hr E h hl => ?_)
  have C : Cx p s m _ meth c cX4_isWord 4 RX4 D (tyG G) := C
  have hl : lv_has ls 4 [(0, .ref (G.1 1)), (1, .int x1), (2, .ref (K i))] := hl
  unfold f_X4_isWord at hf
  have hx := C.1
  have hb := C.2.1
  refine lv_aload_n hx hb dX4_isWord_0 rfl (lv_at hl 0 rfl) ?_
  refine gf_X4_35 C h (by decide) dX4_isWord_1 ?_
  refine lv_iload_n hx hb dX4_isWord_4 rfl (lv_at hl 1 rfl) ?_
  refine lv_isub hx hb dX4_isWord_5 ?_
  refine lv_aload_n hx hb dX4_isWord_6 rfl (lv_at hl 2 rfl) ?_
  refine x_slen (rest := [.int ((σ.1 1 3) - x1)]) C E h hi ⟨Nat.le_of_ble_eq_true rfl, Nat.le_of_ble_eq_true rfl⟩ hl.1 (Nat.le_of_ble_eq_true rfl) dX4_isWord_7 (fun H locs h => ?_)
  refine lv_icmp_eq (tgt := 15) hx hb dX4_isWord_10 (by decide) (fun c1 => ?_) (fun c1 => ?_)
  · have hf := ifT c1 hf
    refine lv_iconst (v := 0) hx hb dX4_isWord_15 (by decide) ?_
    refine lv_istore_n (lv' := [(3, .int 0), (0, .ref (G.1 1)), (1, .int x1), (2, .ref (K i))]) hx hb dX4_isWord_16 rfl hl (by decide) rfl (fun ls hl => ?_)
    exact t_X4_isWord_17 C hr E i hi x1 0 σ _ _ _ h (lv_sub hl [1, 2, 3, 0] rfl) hf
  · have hf := ifF c1 hf
    refine lv_iconst (v := 0) hx hb dX4_isWord_13 (by decide) ?_
    exact x_zret C hr h rfl hf dX4_isWord_14
def f_X4_readClause_57   (x1 : Int32) (σ : St) : Option (St) := bd (f_X4_isWord 0 x1 σ) (fun r10 σ8 => if r10 = 0 then bd (f_X4_isWord 1 x1 σ8) (fun r14 σ12 => if r14 = 0 then bv (f_X4_note 1 x1 σ12) (fun σ16 => some σ16) else bv (f_X4_readSleeper x1 σ12) (fun σ18 => some σ18)) else bv (f_X4_readHouse x1 σ8) (fun σ20 => some σ20))
set_option maxHeartbeats 4000000 in
theorem t_X4_readClause_57 (C : Cx p s m args meth c cX4_readClause 2 RX4 D (tyG G)) (hr : meth.sig.returnType = none) {K V : Nat → Nat} (E : SE K V A s s.heap) {o : St}   : ∀ (x1 : Int32) (σ : St) (H : Heap) (locs : List Loc) (ls : Array Slot), Hs D A s.heap (wC G σ) H locs → lv_has ls 2 [(0, .ref (G.1 1)), (1, .int x1)] → f_X4_readClause_57   x1 σ = some o → W p l e ({ frames := 5, cells := 0, slots := 0, locals := 108 } : Room) s m args below meth c H locs 0 0 (MQ below (QV D (tyG G) (wC G) A o) args s 0 0 A) (F0 m 57 ls []) := by
  intro x1 σ H locs ls h hl hf
  unfold f_X4_readClause_57 at hf
  have hx := C.1
  have hb := C.2.1
  refine lv_aload_n hx hb dX4_readClause_57 rfl (lv_at hl 0 rfl) ?_
  refine lv_iload_n hx hb dX4_readClause_58 rfl (lv_at hl 1 rfl) ?_
  refine va_ldcS hx hb C.2.2.2.1 E.2.2.2.1 dX4_readClause_59 ?_
  refine bd_el hf (fun r10 σ8 ho9 hf => ?_)
  refine x_goi h (x_runVS (As := [.int x1, .ref (K 0)]) (rest := []) C E h (c_X4_isWord l D G K V 0 (by decide) x1 σ (r10, σ8) ho9 _) lk_X4_49 rfl ⟨rfl, rfl, Nat.le_of_ble_eq_true rfl, Nat.le_of_ble_eq_true rfl⟩ (x_rcv C h 1 (lt_X4 (by decide)) ((oC_X4 G (by decide)) _ _) rfl) hl.1 rfl (Nat.le_of_ble_eq_true rfl) dX4_readClause_61) (fun H locs h => ?_)
  refine lv_if_eq (tgt := 75) hx hb dX4_readClause_64 (by decide) (fun c11 => ?_) (fun c11 => ?_)
  · have hf := ifT c11 hf
    refine lv_aload_n hx hb dX4_readClause_75 rfl (lv_at hl 0 rfl) ?_
    refine lv_iload_n hx hb dX4_readClause_76 rfl (lv_at hl 1 rfl) ?_
    refine va_ldcS hx hb C.2.2.2.1 E.2.2.2.2 dX4_readClause_77 ?_
    refine bd_el hf (fun r14 σ12 ho13 hf => ?_)
    refine x_goi h (x_runVS (As := [.int x1, .ref (K 1)]) (rest := []) C E h (c_X4_isWord l D G K V 1 (by decide) x1 σ8 (r14, σ12) ho13 _) lk_X4_49 rfl ⟨rfl, rfl, Nat.le_of_ble_eq_true rfl, Nat.le_of_ble_eq_true rfl⟩ (x_rcv C h 1 (lt_X4 (by decide)) ((oC_X4 G (by decide)) _ _) rfl) hl.1 rfl (Nat.le_of_ble_eq_true rfl) dX4_readClause_79) (fun H locs h => ?_)
    refine lv_if_eq (tgt := 93) hx hb dX4_readClause_82 (by decide) (fun c15 => ?_) (fun c15 => ?_)
    · have hf := ifT c15 hf
      refine lv_aload_n hx hb dX4_readClause_93 rfl (lv_at hl 0 rfl) ?_
      refine lv_iconst (v := 1) hx hb dX4_readClause_94 (by decide) ?_
      refine lv_iload_n hx hb dX4_readClause_95 rfl (lv_at hl 1 rfl) ?_
      refine bv_el hf (fun σ16 ho17 hf => ?_)
      refine x_gov h (x_runV (As := [.int 1, .int x1]) (rest := []) C h (c_X4_note l D G 1 x1 σ12 σ16 ho17 _) lk_X4_62 rfl ⟨rfl, rfl, Nat.le_of_ble_eq_true rfl, Nat.le_of_ble_eq_true rfl⟩ (x_rcv C h 1 (lt_X4 (by decide)) ((oC_X4 G (by decide)) _ _) rfl) hl.1 rfl (Nat.le_of_ble_eq_true rfl) dX4_readClause_96) (fun H locs h => ?_)
      exact x_vret C hr h hf dX4_readClause_99
    · have hf := ifF c15 hf
      refine lv_aload_n hx hb dX4_readClause_85 rfl (lv_at hl 0 rfl) ?_
      refine lv_iload_n hx hb dX4_readClause_86 rfl (lv_at hl 1 rfl) ?_
      refine bv_el hf (fun σ18 ho19 hf => ?_)
      refine x_gov h (x_runV (As := [.int x1]) (rest := []) C h (c_X4_readSleeper l D G x1 σ12 σ18 ho19 _) lk_X4_59 rfl ⟨rfl, rfl, Nat.le_of_ble_eq_true rfl, Nat.le_of_ble_eq_true rfl⟩ (x_rcv C h 1 (lt_X4 (by decide)) ((oC_X4 G (by decide)) _ _) rfl) hl.1 rfl (Nat.le_of_ble_eq_true rfl) dX4_readClause_87) (fun H locs h => ?_)
      refine lv_goto (tgt := 99) hx hb dX4_readClause_90 (by decide) ?_
      exact x_vret C hr h hf dX4_readClause_99
  · have hf := ifF c11 hf
    refine lv_aload_n hx hb dX4_readClause_67 rfl (lv_at hl 0 rfl) ?_
    refine lv_iload_n hx hb dX4_readClause_68 rfl (lv_at hl 1 rfl) ?_
    refine bv_el hf (fun σ20 ho21 hf => ?_)
    refine x_gov h (x_runV (As := [.int x1]) (rest := []) C h (c_X4_readHouse l D G x1 σ8 σ20 ho21 _) lk_X4_53 rfl ⟨rfl, rfl, Nat.le_of_ble_eq_true rfl, Nat.le_of_ble_eq_true rfl⟩ (x_rcv C h 1 (lt_X4 (by decide)) ((oC_X4 G (by decide)) _ _) rfl) hl.1 rfl (Nat.le_of_ble_eq_true rfl) dX4_readClause_69) (fun H locs h => ?_)
    refine lv_goto (tgt := 99) hx hb dX4_readClause_72 (by decide) ?_
    exact x_vret C hr h hf dX4_readClause_99
def b_X4_readClause_5   (rec5 : Int32 × St → Option (St)) (x1 : Int32) (σ : St) : Option (St) := if (σ.1 1 1) ≤ (σ.1 1 3) then f_X4_readClause_57 x1 σ else rd (σ.1 2) 400 (σ.1 1 3) (fun v3 => if v3 < 97 then f_X4_readClause_57 x1 σ else rd (σ.1 2) 400 (σ.1 1 3) (fun v5 => if (122 : Int32) < v5 then f_X4_readClause_57 x1 σ else nm (sI σ 1 3 ((σ.1 1 3) + 1)) (fun σ7 => rec5 (x1, σ7))))
def f_X4_readClause_5   (x1 : Int32) (σ : St) : Option (St) := lp (fun (rec5 : Int32 × St → Option (St)) (q : Int32 × St) => b_X4_readClause_5   rec5 (q.1) (q.2)) 100000 (x1, σ)
set_option maxHeartbeats 4000000 in
theorem t_X4_readClause_5 (C : Cx p s m args meth c cX4_readClause 2 RX4 D (tyG G)) (hr : meth.sig.returnType = none) {K V : Nat → Nat} (E : SE K V A s s.heap) {o : St}   : ∀ (x1 : Int32) (σ : St) (H : Heap) (locs : List Loc) (ls : Array Slot), Hs D A s.heap (wC G σ) H locs → lv_has ls 2 [(0, .ref (G.1 1)), (1, .int x1)] → f_X4_readClause_5   x1 σ = some o → W p l e ({ frames := 5, cells := 0, slots := 0, locals := 108 } : Room) s m args below meth c H locs 0 0 (MQ below (QV D (tyG G) (wC G) A o) args s 0 0 A) (F0 m 5 ls []) := by
  intro x1 σ H locs ls h hl hf
  refine lp_el (P := fun q : Int32 × St => ∀ (H : Heap) (locs : List Loc) (ls : Array Slot), Hs D A s.heap (wC G (q.2)) H locs → lv_has ls 2 [(0, .ref (G.1 1)), (1, .int (q.1))] → W p l e ({ frames := 5, cells := 0, slots := 0, locals := 108 } : Room) s m args below meth c H locs 0 0 (MQ below (QV D (tyG G) (wC G) A o) args s 0 0 A) (F0 m 5 ls [])) (fun rec5 q IH5 hf => ?_) _ (x1, σ) hf H locs ls h hl
  obtain ⟨x1, σ⟩ := q
  intro H locs ls h hl
  have hl : lv_has ls 2 [(0, .ref (G.1 1)), (1, .int x1)] := hl
  have h : Hs D A s.heap (wC G σ) H locs := h
  have hf : b_X4_readClause_5   rec5 x1 σ = some o := hf
  unfold b_X4_readClause_5 at hf
  have hx := C.1
  have hb := C.2.1
  refine lv_aload_n hx hb dX4_readClause_5 rfl (lv_at hl 0 rfl) ?_
  refine gf_X4_35 C h (by decide) dX4_readClause_6 ?_
  refine lv_aload_n hx hb dX4_readClause_9 rfl (lv_at hl 0 rfl) ?_
  refine gf_X4_26 C h (by decide) dX4_readClause_10 ?_
  refine lv_icmp_ge (tgt := 57) hx hb dX4_readClause_13 (by decide) (fun c2 => ?_) (fun c2 => ?_)
  · have hf := ifT c2 hf
    exact t_X4_readClause_57 C hr E x1 σ _ _ _ h (lv_sub hl [0, 1] rfl) hf
  · have hf := ifF c2 hf
    refine lv_aload_n hx hb dX4_readClause_16 rfl (lv_at hl 0 rfl) ?_
    refine gf_X4_9 C h (by decide) dX4_readClause_17 ?_
    refine lv_aload_n hx hb dX4_readClause_20 rfl (lv_at hl 0 rfl) ?_
    refine gf_X4_35 C h (by decide) dX4_readClause_21 ?_
    refine rd_el hf (fun v3 hinv3 hv3 hf => ?_)
    refine x_bald C h 2 0 (ltA_X4_text (by decide)) ((aC_X4_text G (by decide)) _ _) rfl hinv3 hv3 dX4_readClause_24 ?_
    refine lv_bipush (v := 97) hx hb dX4_readClause_25 (by decide) ?_
    refine lv_icmp_lt (tgt := 57) hx hb dX4_readClause_27 (by decide) (fun c4 => ?_) (fun c4 => ?_)
    · have hf := ifT c4 hf
      exact t_X4_readClause_57 C hr E x1 σ _ _ _ h (lv_sub hl [0, 1] rfl) hf
    · have hf := ifF c4 hf
      refine lv_aload_n hx hb dX4_readClause_30 rfl (lv_at hl 0 rfl) ?_
      refine gf_X4_9 C h (by decide) dX4_readClause_31 ?_
      refine lv_aload_n hx hb dX4_readClause_34 rfl (lv_at hl 0 rfl) ?_
      refine gf_X4_35 C h (by decide) dX4_readClause_35 ?_
      refine rd_el hf (fun v5 hinv5 hv5 hf => ?_)
      refine x_bald C h 2 0 (ltA_X4_text (by decide)) ((aC_X4_text G (by decide)) _ _) rfl hinv5 hv5 dX4_readClause_38 ?_
      refine lv_bipush (v := 122) hx hb dX4_readClause_39 (by decide) ?_
      refine lv_icmp_gt (tgt := 57) hx hb dX4_readClause_41 (by decide) (fun c6 => ?_) (fun c6 => ?_)
      · have hf := ifT c6 hf
        exact t_X4_readClause_57 C hr E x1 σ _ _ _ h (lv_sub hl [0, 1] rfl) hf
      · have hf := ifF c6 hf
        refine lv_aload_n hx hb dX4_readClause_44 rfl (lv_at hl 0 rfl) ?_
        refine lv_dup hx hb dX4_readClause_45 rfl ?_
        refine gf_X4_35 C h (by decide) dX4_readClause_46 ?_
        refine lv_iconst (v := 1) hx hb dX4_readClause_49 (by decide) ?_
        refine lv_iadd hx hb dX4_readClause_50 ?_
        refine nm_el hf (fun σ7 hσ7 hf => ?_)
        refine pf_X4_35 C h (by decide) dX4_readClause_51 hσ7 (fun H locs h => ?_)
        refine lv_goto (tgt := 5) hx hb dX4_readClause_54 (by decide) ?_
        exact IH5 (x1, σ7) hf _ _ _ h (lv_sub hl [0, 1] rfl)
def f_X4_readClause   (σ : St) : Option (St) := nm (σ.1 1 3) (fun z1 => f_X4_readClause_5 z1 σ)
set_option maxHeartbeats 4000000 in
theorem c_X4_readClause (l : Launch) (D : va_G) (G : Geo) (K V : Nat → Nat)   (σ : St) (o : St) (hf : f_X4_readClause   σ = some o) : CVs l D (tyG G) (wC G) K V yX4_readClause cX4_readClause 2 none ({ frames := 5, cells := 0, slots := 0, locals := 108 }) [.ref (G.1 1)] σ o := by
  refine met_ofS (Qc := fun A => QV D (tyG G) (wC G) A o) pn_X4 (Nat.le_of_ble_eq_true rfl) (fun p e s m below meth c A ls C hr E h hl => ?_)
  have C : Cx p s m _ meth c cX4_readClause 2 RX4 D (tyG G) := C
  have hl : lv_has ls 2 [(0, .ref (G.1 1))] := hl
  unfold f_X4_readClause at hf
  have hx := C.1
  have hb := C.2.1
  refine lv_aload_n hx hb dX4_readClause_0 rfl (lv_at hl 0 rfl) ?_
  refine gf_X4_35 C h (by decide) dX4_readClause_1 ?_
  refine nm_el hf (fun z1 ez1 hf => ?_)
  refine x_topi ez1 ?_
  refine lv_istore_n (lv' := [(1, .int z1), (0, .ref (G.1 1))]) hx hb dX4_readClause_4 rfl hl (by decide) rfl (fun ls hl => ?_)
  exact t_X4_readClause_5 C hr E z1 σ _ _ _ h (lv_sub hl [1, 0] rfl) hf
def f_X4_readAll_76    (σ : St) : Option (Int32 × St) := nm (sI σ 1 1 0) (fun σ15 => some (σ15.1 1 4, σ15))
set_option maxHeartbeats 4000000 in
theorem t_X4_readAll_76 (C : Cx p s m args meth c cX4_readAll 2 RX4 D (tyG G)) (hr : meth.sig.returnType = (some .int)) {K V : Nat → Nat} (E : SE K V A s s.heap) {o : Int32 × St}   : ∀  (σ : St) (H : Heap) (locs : List Loc) (ls : Array Slot), Hs D A s.heap (wC G σ) H locs → lv_has ls 2 [(0, .ref (G.1 1))] → f_X4_readAll_76    σ = some o → W p l e ({ frames := 6, cells := 0, slots := 0, locals := 129 } : Room) s m args below meth c H locs 0 0 (MQ below (QI D (tyG G) (wC G) A o) args s 0 0 A) (F0 m 76 ls []) := by
  intro  σ H locs ls h hl hf
  unfold f_X4_readAll_76 at hf
  have hx := C.1
  have hb := C.2.1
  refine lv_aload_n hx hb dX4_readAll_76 rfl (lv_at hl 0 rfl) ?_
  refine lv_iconst (v := 0) hx hb dX4_readAll_77 (by decide) ?_
  refine nm_el hf (fun σ15 hσ15 hf => ?_)
  refine pf_X4_26 C h (by decide) dX4_readAll_78 hσ15 (fun H locs h => ?_)
  refine lv_aload_n hx hb dX4_readAll_81 rfl (lv_at hl 0 rfl) ?_
  refine gf_X4_38 C h (by decide) dX4_readAll_82 ?_
  exact x_iret C hr h hf dX4_readAll_85
def b_X4_readAll_37   (rec37 : Int32 × St → Option (Int32 × St)) (x1 : Int32) (σ : St) : Option (Int32 × St) := if (400 : Int32) ≤ x1 then f_X4_readAll_76 σ else if (σ.1 1 1) ≤ (σ.1 1 3) then f_X4_readAll_76 σ else if (σ.1 1 4) = 0 then bv (f_X4_readClause σ) (fun σ11 => bv (f_X4_skipBlanks σ11) (fun σ13 => rec37 (x1 + 1, σ13))) else f_X4_readAll_76 σ
def f_X4_readAll_37   (x1 : Int32) (σ : St) : Option (Int32 × St) := lp (fun (rec37 : Int32 × St → Option (Int32 × St)) (q : Int32 × St) => b_X4_readAll_37   rec37 (q.1) (q.2)) 100000 (x1, σ)
set_option maxHeartbeats 4000000 in
theorem t_X4_readAll_37 (C : Cx p s m args meth c cX4_readAll 2 RX4 D (tyG G)) (hr : meth.sig.returnType = (some .int)) {K V : Nat → Nat} (E : SE K V A s s.heap) {o : Int32 × St}   : ∀ (x1 : Int32) (σ : St) (H : Heap) (locs : List Loc) (ls : Array Slot), Hs D A s.heap (wC G σ) H locs → lv_has ls 2 [(0, .ref (G.1 1)), (1, .int x1)] → f_X4_readAll_37   x1 σ = some o → W p l e ({ frames := 6, cells := 0, slots := 0, locals := 129 } : Room) s m args below meth c H locs 0 0 (MQ below (QI D (tyG G) (wC G) A o) args s 0 0 A) (F0 m 37 ls []) := by
  intro x1 σ H locs ls h hl hf
  refine lp_el (P := fun q : Int32 × St => ∀ (H : Heap) (locs : List Loc) (ls : Array Slot), Hs D A s.heap (wC G (q.2)) H locs → lv_has ls 2 [(0, .ref (G.1 1)), (1, .int (q.1))] → W p l e ({ frames := 6, cells := 0, slots := 0, locals := 129 } : Room) s m args below meth c H locs 0 0 (MQ below (QI D (tyG G) (wC G) A o) args s 0 0 A) (F0 m 37 ls [])) (fun rec37 q IH37 hf => ?_) _ (x1, σ) hf H locs ls h hl
  obtain ⟨x1, σ⟩ := q
  intro H locs ls h hl
  have hl : lv_has ls 2 [(0, .ref (G.1 1)), (1, .int x1)] := hl
  have h : Hs D A s.heap (wC G σ) H locs := h
  have hf : b_X4_readAll_37   rec37 x1 σ = some o := hf
  unfold b_X4_readAll_37 at hf
  have hx := C.1
  have hb := C.2.1
  refine lv_iload_n hx hb dX4_readAll_37 rfl (lv_at hl 1 rfl) ?_
  refine lv_sipush (v := 400) hx hb dX4_readAll_38 (by decide) ?_
  refine lv_icmp_ge (tgt := 76) hx hb dX4_readAll_41 (by decide) (fun c8 => ?_) (fun c8 => ?_)
  · have hf := ifT c8 hf
    exact t_X4_readAll_76 C hr E σ _ _ _ h (lv_sub hl [0] rfl) hf
  · have hf := ifF c8 hf
    refine lv_aload_n hx hb dX4_readAll_44 rfl (lv_at hl 0 rfl) ?_
    refine gf_X4_35 C h (by decide) dX4_readAll_45 ?_
    refine lv_aload_n hx hb dX4_readAll_48 rfl (lv_at hl 0 rfl) ?_
    refine gf_X4_26 C h (by decide) dX4_readAll_49 ?_
    refine lv_icmp_ge (tgt := 76) hx hb dX4_readAll_52 (by decide) (fun c9 => ?_) (fun c9 => ?_)
    · have hf := ifT c9 hf
      exact t_X4_readAll_76 C hr E σ _ _ _ h (lv_sub hl [0] rfl) hf
    · have hf := ifF c9 hf
      refine lv_aload_n hx hb dX4_readAll_55 rfl (lv_at hl 0 rfl) ?_
      refine gf_X4_38 C h (by decide) dX4_readAll_56 ?_
      refine lv_if_ne (tgt := 76) hx hb dX4_readAll_59 (by decide) (fun c10 => ?_) (fun c10 => ?_)
      · have hf := ifF c10 hf
        exact t_X4_readAll_76 C hr E σ _ _ _ h (lv_sub hl [0] rfl) hf
      · have hf := ifT c10 hf
        refine lv_aload_n hx hb dX4_readAll_62 rfl (lv_at hl 0 rfl) ?_
        refine bv_el hf (fun σ11 ho12 hf => ?_)
        refine x_gov h (x_runVS (As := []) (rest := []) C E h (c_X4_readClause l D G K V σ σ11 ho12 _) lk_X4_44 rfl ⟨rfl, rfl, Nat.le_of_ble_eq_true rfl, Nat.le_of_ble_eq_true rfl⟩ (x_rcv C h 1 (lt_X4 (by decide)) ((oC_X4 G (by decide)) _ _) rfl) hl.1 rfl (Nat.le_of_ble_eq_true rfl) dX4_readAll_63) (fun H locs h => ?_)
        refine lv_aload_n hx hb dX4_readAll_66 rfl (lv_at hl 0 rfl) ?_
        refine bv_el hf (fun σ13 ho14 hf => ?_)
        refine x_gov h (x_runV (As := []) (rest := []) C h (c_X4_skipBlanks l D G σ11 σ13 ho14 _) lk_X4_41 rfl ⟨rfl, rfl, Nat.le_of_ble_eq_true rfl, Nat.le_of_ble_eq_true rfl⟩ (x_rcv C h 1 (lt_X4 (by decide)) ((oC_X4 G (by decide)) _ _) rfl) hl.1 rfl (Nat.le_of_ble_eq_true rfl) dX4_readAll_67) (fun H locs h => ?_)
        refine lv_iinc (v := x1 + 1) (lv' := [(1, .int (x1 + 1)), (0, .ref (G.1 1))]) hx hb dX4_readAll_70 hl (k := 1) rfl rfl (by decide) rfl (fun ls hl => ?_)
        refine lv_goto (tgt := 37) hx hb dX4_readAll_73 (by decide) ?_
        exact IH37 (x1 + 1, σ13) hf _ _ _ h (lv_sub hl [1, 0] rfl)
def f_X4_readAll   (σ : St) : Option (Int32 × St) := nm (sI σ 11 0 0) (fun σ1 => nm (sI σ1 11 4 0) (fun σ2 => nm (sI σ2 1 3 0) (fun σ3 => nm (sI σ3 1 4 0) (fun σ4 => nm (sI σ4 1 5 ((-1))) (fun σ5 => bv (f_X4_skipBlanks σ5) (fun σ6 => f_X4_readAll_37 0 σ6))))))
set_option maxHeartbeats 4000000 in
theorem c_X4_readAll (l : Launch) (D : va_G) (G : Geo) (K V : Nat → Nat)   (σ : St) (o : Int32 × St) (hf : f_X4_readAll   σ = some o) : CIs l D (tyG G) (wC G) K V yX4_readAll cX4_readAll 2 ((some .int)) ({ frames := 6, cells := 0, slots := 0, locals := 129 }) [.ref (G.1 1)] σ o := by
  refine met_ofS (Qc := fun A => QI D (tyG G) (wC G) A o) pn_X4 (Nat.le_of_ble_eq_true rfl) (fun p e s m below meth c A ls C hr E h hl => ?_)
  have C : Cx p s m _ meth c cX4_readAll 2 RX4 D (tyG G) := C
  have hl : lv_has ls 2 [(0, .ref (G.1 1))] := hl
  unfold f_X4_readAll at hf
  have hx := C.1
  have hb := C.2.1
  refine lv_aload_n hx hb dX4_readAll_0 rfl (lv_at hl 0 rfl) ?_
  refine gf_X4_18 C h (by decide) dX4_readAll_1 ?_
  refine lv_iconst (v := 0) hx hb dX4_readAll_4 (by decide) ?_
  refine nm_el hf (fun σ1 hσ1 hf => ?_)
  refine pf_X4_29 C h (by decide) dX4_readAll_5 hσ1 (fun H locs h => ?_)
  refine lv_aload_n hx hb dX4_readAll_8 rfl (lv_at hl 0 rfl) ?_
  refine gf_X4_18 C h (by decide) dX4_readAll_9 ?_
  refine lv_iconst (v := 0) hx hb dX4_readAll_12 (by decide) ?_
  refine nm_el hf (fun σ2 hσ2 hf => ?_)
  refine pf_X4_32 C h (by decide) dX4_readAll_13 hσ2 (fun H locs h => ?_)
  refine lv_aload_n hx hb dX4_readAll_16 rfl (lv_at hl 0 rfl) ?_
  refine lv_iconst (v := 0) hx hb dX4_readAll_17 (by decide) ?_
  refine nm_el hf (fun σ3 hσ3 hf => ?_)
  refine pf_X4_35 C h (by decide) dX4_readAll_18 hσ3 (fun H locs h => ?_)
  refine lv_aload_n hx hb dX4_readAll_21 rfl (lv_at hl 0 rfl) ?_
  refine lv_iconst (v := 0) hx hb dX4_readAll_22 (by decide) ?_
  refine nm_el hf (fun σ4 hσ4 hf => ?_)
  refine pf_X4_38 C h (by decide) dX4_readAll_23 hσ4 (fun H locs h => ?_)
  refine lv_aload_n hx hb dX4_readAll_26 rfl (lv_at hl 0 rfl) ?_
  refine lv_iconst (v := (-1)) hx hb dX4_readAll_27 (by decide) ?_
  refine nm_el hf (fun σ5 hσ5 hf => ?_)
  refine pf_X4_22 C h (by decide) dX4_readAll_28 hσ5 (fun H locs h => ?_)
  refine lv_aload_n hx hb dX4_readAll_31 rfl (lv_at hl 0 rfl) ?_
  refine bv_el hf (fun σ6 ho7 hf => ?_)
  refine x_gov h (x_runV (As := []) (rest := []) C h (c_X4_skipBlanks l D G σ5 σ6 ho7 _) lk_X4_41 rfl ⟨rfl, rfl, Nat.le_of_ble_eq_true rfl, Nat.le_of_ble_eq_true rfl⟩ (x_rcv C h 1 (lt_X4 (by decide)) ((oC_X4 G (by decide)) _ _) rfl) hl.1 rfl (Nat.le_of_ble_eq_true rfl) dX4_readAll_32) (fun H locs h => ?_)
  refine lv_iconst (v := 0) hx hb dX4_readAll_35 (by decide) ?_
  refine lv_istore_n (lv' := [(1, .int 0), (0, .ref (G.1 1))]) hx hb dX4_readAll_36 rfl hl (by decide) rfl (fun ls hl => ?_)
  exact t_X4_readAll_37 C hr E 0 σ6 _ _ _ h (lv_sub hl [1, 0] rfl) hf
def f_X7_valley   (σ : St) : Option (Int32 × St) := bd (f_X4_readAll σ) (fun r3 σ1 => if r3 = 0 then bv (f_X5_copyFrom σ1) (fun σ5 => bv (f_X0_beginAnew σ5) (fun σ7 => nm (sI σ7 52 0 0) (fun σ9 => nm (sI σ9 0 5 0) (fun σ10 => some (σ10.1 3 4, σ10))))) else some (((-10)) - r3, σ1))
set_option maxHeartbeats 4000000 in
theorem c_X7_valley (l : Launch) (D : va_G) (G : Geo) (K V : Nat → Nat)   (σ : St) (o : Int32 × St) (hf : f_X7_valley   σ = some o) : CIs l D (tyG G) (wC G) K V yX7_valley cX7_valley 2 ((some .int)) ({ frames := 7, cells := 0, slots := 0, locals := 150 }) [.ref (G.1 0)] σ o := by
  refine met_ofS (Qc := fun A => QI D (tyG G) (wC G) A o) pn_X7 (Nat.le_of_ble_eq_true rfl) (fun p e s m below meth c A ls C hr E h hl => ?_)
  have C : Cx p s m _ meth c cX7_valley 2 RX7 D (tyG G) := C
  have hl : lv_has ls 2 [(0, .ref (G.1 0))] := hl
  unfold f_X7_valley at hf
  have hx := C.1
  have hb := C.2.1
  refine lv_aload_n hx hb dX7_valley_0 rfl (lv_at hl 0 rfl) ?_
  refine gf_X7_10 C h (by decide) dX7_valley_1 ?_
  refine bd_el hf (fun r3 σ1 ho2 hf => ?_)
  refine x_goi h (x_runVS (As := []) (rest := []) C E h (c_X4_readAll l D G K V σ (r3, σ1) ho2 _) lk_X7_69 rfl ⟨rfl, rfl, Nat.le_of_ble_eq_true rfl, Nat.le_of_ble_eq_true rfl⟩ (x_rcv C h 1 (lt_X4 (by decide)) ((oC_X4 G (by decide)) _ _) rfl) hl.1 rfl (Nat.le_of_ble_eq_true rfl) dX7_valley_4) (fun H locs h => ?_)
  refine lv_istore_n (lv' := [(1, .int r3), (0, .ref (G.1 0))]) hx hb dX7_valley_7 rfl hl (by decide) rfl (fun ls hl => ?_)
  refine lv_iload_n hx hb dX7_valley_8 rfl (lv_at hl 0 rfl) ?_
  refine lv_if_eq (tgt := 17) hx hb dX7_valley_9 (by decide) (fun c4 => ?_) (fun c4 => ?_)
  · have hf := ifT c4 hf
    refine lv_aload_n hx hb dX7_valley_17 rfl (lv_at hl 1 rfl) ?_
    refine gf_X7_19 C h (by decide) dX7_valley_18 ?_
    refine lv_aload_n hx hb dX7_valley_21 rfl (lv_at hl 1 rfl) ?_
    refine gf_X7_10 C h (by decide) dX7_valley_22 ?_
    refine gf_X7_73 C h (by decide) dX7_valley_25 ?_
    refine bv_el hf (fun σ5 ho6 hf => ?_)
    refine x_gov h (x_runV (As := [.ref (G.1 11)]) (rest := []) C h (c_X5_copyFrom l D G σ1 σ5 ho6 _) lk_X7_76 rfl ⟨rfl, rfl, Nat.le_of_ble_eq_true rfl, Nat.le_of_ble_eq_true rfl⟩ (x_rcv C h 3 (lt_X5 (by decide)) ((oC_X5 G (by decide)) _ _) rfl) hl.1 rfl (Nat.le_of_ble_eq_true rfl) dX7_valley_28) (fun H locs h => ?_)
    refine lv_aload_n hx hb dX7_valley_31 rfl (lv_at hl 1 rfl) ?_
    refine gf_X7_28 C h (by decide) dX7_valley_32 ?_
    refine bv_el hf (fun σ7 ho8 hf => ?_)
    refine x_gov h (x_runV (As := []) (rest := []) C h (c_X0_beginAnew l D G σ5 σ7 ho8 _) lk_X7_79 rfl ⟨rfl, rfl, Nat.le_of_ble_eq_true rfl, Nat.le_of_ble_eq_true rfl⟩ (x_rcv C h 19 (lt_X0 (by decide)) ((oC_X0 G (by decide)) _ _) rfl) hl.1 rfl (Nat.le_of_ble_eq_true rfl) dX7_valley_35) (fun H locs h => ?_)
    refine lv_aload_n hx hb dX7_valley_38 rfl (lv_at hl 1 rfl) ?_
    refine gf_X7_41 C h (by decide) dX7_valley_39 ?_
    refine lv_iconst (v := 0) hx hb dX7_valley_42 (by decide) ?_
    refine nm_el hf (fun σ9 hσ9 hf => ?_)
    refine pf_X7_82 C h (by decide) dX7_valley_43 hσ9 (fun H locs h => ?_)
    refine lv_aload_n hx hb dX7_valley_46 rfl (lv_at hl 1 rfl) ?_
    refine lv_iconst (v := 0) hx hb dX7_valley_47 (by decide) ?_
    refine nm_el hf (fun σ10 hσ10 hf => ?_)
    refine pf_X7_85 C h (by decide) dX7_valley_48 hσ10 (fun H locs h => ?_)
    refine lv_aload_n hx hb dX7_valley_51 rfl (lv_at hl 1 rfl) ?_
    refine gf_X7_19 C h (by decide) dX7_valley_52 ?_
    refine gf_X7_88 C h (by decide) dX7_valley_55 ?_
    exact x_iret C hr h hf dX7_valley_58
  · have hf := ifF c4 hf
    refine lv_bipush (v := (-10)) hx hb dX7_valley_12 (by decide) ?_
    refine lv_iload_n hx hb dX7_valley_14 rfl (lv_at hl 0 rfl) ?_
    refine lv_isub hx hb dX7_valley_15 ?_
    exact x_iret C hr h hf dX7_valley_16
