variable {p : Program} {l : Launch} {e : Env} {s : State} {m : MethodId} {args : Array Value} {below : List Frame} {meth : Method} {c : Code} {D : va_G} {A : Nat → Prop} {G : Geo}
theorem lk_X1_62 : Lk RX1 62 yX1_layOut cX1_layOut 4 none 1 := ⟨q309, q310, q311, q68, q312, by decide +kernel, by decide +kernel, by decide +kernel⟩
theorem lk_X1_38 : LkS RX1 38 yJ7_fill_53178 cJ7_fill_53178 4 none 2 := ⟨q300, q301, q302, q303, by decide +kernel, by decide +kernel, by decide +kernel⟩
theorem lk_X1_47 : Lk RX1 47 yX1_makeNoise cX1_makeNoise 5 none 3 := ⟨q304, q305, q306, q68, q307, by decide +kernel, by decide +kernel, by decide +kernel⟩
theorem lk_X1_69 : Lk RX1 69 yX1_shiftOne cX1_shiftOne 3 none 2 := ⟨q687, q497, q498, q68, q499, by decide +kernel, by decide +kernel, by decide +kernel⟩
theorem lk_X1_83 : Lk RX1 83 yX1_heard cX1_heard 3 ((some .int)) 2 := ⟨q460, q461, q462, q68, q463, by decide +kernel, by decide +kernel, by decide +kernel⟩
theorem lk_X1_92 : Lk RX1 92 yX1_letting cX1_letting 7 ((some .int)) 3 := ⟨q618, q619, q620, q68, q621, by decide +kernel, by decide +kernel, by decide +kernel⟩
theorem lk_X1_87 : Lk RX1 87 yX1_oddsOf cX1_oddsOf 8 ((some .int)) 1 := ⟨q651, q614, q615, q68, q616, by decide +kernel, by decide +kernel, by decide +kernel⟩
theorem lk_X1_96 : Lk RX1 96 yX1_firstMinute cX1_firstMinute 2 ((some .int)) 1 := ⟨q841, q457, q458, q68, q459, by decide +kernel, by decide +kernel, by decide +kernel⟩
theorem lk_X1_99 : Lk RX1 99 yX1_lastMinute cX1_lastMinute 2 ((some .int)) 1 := ⟨q842, q465, q466, q68, q467, by decide +kernel, by decide +kernel, by decide +kernel⟩
theorem lk_X0_47 : LkS RX0 47 yJ7_fill_53178 cJ7_fill_53178 4 none 2 := ⟨q318, q301, q302, q303, by decide +kernel, by decide +kernel, by decide +kernel⟩
theorem lk_X0_40 : Lk RX0 40 yX1_beginAnew cX1_beginAnew 1 none 0 := ⟨q295, q296, q297, q68, q298, by decide +kernel, by decide +kernel, by decide +kernel⟩
theorem lk_X0_59 : Lk RX0 59 yX1_copyFrom cX1_copyFrom 2 none 1 := ⟨q896, q679, q680, q68, q681, by decide +kernel, by decide +kernel, by decide +kernel⟩
theorem lk_X0_91 : Lk RX0 91 yX0_whoIsAhead cX0_whoIsAhead 4 ((some .int)) 0 := ⟨q566, q567, q568, q23, q569, by decide +kernel, by decide +kernel, by decide +kernel⟩
theorem lk_X0_80 : Lk RX0 80 yX0_draw cX0_draw 2 ((some .int)) 1 := ⟨q553, q554, q555, q23, q556, by decide +kernel, by decide +kernel, by decide +kernel⟩
theorem lk_X0_84 : Lk RX0 84 yX1_minuteAt cX1_minuteAt 3 ((some .int)) 2 := ⟨q562, q563, q564, q68, q565, by decide +kernel, by decide +kernel, by decide +kernel⟩
theorem lk_X0_95 : Lk RX0 95 yX0_keepRuler cX0_keepRuler 2 none 1 := ⟨q570, q571, q572, q23, q573, by decide +kernel, by decide +kernel, by decide +kernel⟩
theorem lk_X0_102 : Lk RX0 102 yX0_countDayOf cX0_countDayOf 3 none 1 := ⟨q574, q575, q576, q23, q577, by decide +kernel, by decide +kernel, by decide +kernel⟩
theorem lk_X3_15 : LkS RX3 15 yJ7_fill_d0a16 cJ7_fill_d0a16 5 none 2 := ⟨q776, q777, q302, q778, by decide +kernel, by decide +kernel, by decide +kernel⟩
theorem lk_X2_31 : Lk RX2 31 yX1_copyFrom cX1_copyFrom 2 none 1 := ⟨q678, q679, q680, q68, q681, by decide +kernel, by decide +kernel, by decide +kernel⟩
theorem lk_X2_40 : Lk RX2 40 yX1_shiftHouse cX1_shiftHouse 5 ((some .boolean)) 2 := ⟨q683, q684, q685, q68, q686, by decide +kernel, by decide +kernel, by decide +kernel⟩
theorem lk_X2_44 : Lk RX2 44 yX1_oddsOfHouses cX1_oddsOfHouses 4 ((some .int)) 1 := ⟨q688, q648, q649, q68, q650, by decide +kernel, by decide +kernel, by decide +kernel⟩
theorem lk_X2_60 : Lk RX2 60 yX1_makeNoise cX1_makeNoise 5 none 3 := ⟨q754, q305, q306, q68, q307, by decide +kernel, by decide +kernel, by decide +kernel⟩
theorem lk_X2_82 : Lk RX2 82 yX5_sleepersOf cX5_sleepersOf 4 ((some .int)) 1 := ⟨q715, q427, q428, q19, q429, by decide +kernel, by decide +kernel, by decide +kernel⟩
theorem lk_X2_85 : Lk RX2 85 yX2_seekShift cX2_seekShift 9 none 2 := ⟨q716, q670, q671, q33, q672, by decide +kernel, by decide +kernel, by decide +kernel⟩
theorem lk_X2_67 : Lk RX2 67 yX2_playRound cX2_playRound 3 ((some .boolean)) 0 := ⟨q710, q711, q712, q33, q713, by decide +kernel, by decide +kernel, by decide +kernel⟩
theorem lk_X2_71 : Lk RX2 71 yX2_codeOfPlan cX2_codeOfPlan 3 ((some .int)) 0 := ⟨q717, q718, q719, q33, q720, by decide +kernel, by decide +kernel, by decide +kernel⟩
theorem lk_X2_75 : Lk RX2 75 yX2_wasThere cX2_wasThere 3 ((some .boolean)) 1 := ⟨q723, q724, q725, q33, q726, by decide +kernel, by decide +kernel, by decide +kernel⟩
theorem lk_X6_31 : Lk RX6 31 yX1_mayRuleAt cX1_mayRuleAt 4 ((some .boolean)) 2 := ⟨q837, q838, q839, q68, q840, by decide +kernel, by decide +kernel, by decide +kernel⟩
theorem lk_X6_35 : Lk RX6 35 yX1_copyFrom cX1_copyFrom 2 none 1 := ⟨q860, q679, q680, q68, q681, by decide +kernel, by decide +kernel, by decide +kernel⟩
theorem lk_X6_42 : Lk RX6 42 yX1_shiftOne cX1_shiftOne 3 none 2 := ⟨q861, q497, q498, q68, q499, by decide +kernel, by decide +kernel, by decide +kernel⟩
theorem lk_X6_46 : Lk RX6 46 yX6_allTrueOf cX6_allTrueOf 3 ((some .boolean)) 1 := ⟨q862, q863, q864, q29, q865, by decide +kernel, by decide +kernel, by decide +kernel⟩
theorem lk_X4_41 : Lk RX4 41 yX4_skipBlanks cX4_skipBlanks 1 none 0 := ⟨q190, q191, q192, q15, q193, by decide +kernel, by decide +kernel, by decide +kernel⟩
theorem lk_X4_62 : Lk RX4 62 yX4_note cX4_note 3 none 2 := ⟨q258, q259, q260, q15, q261, by decide +kernel, by decide +kernel, by decide +kernel⟩
theorem lk_X4_79 : Lk RX4 79 yX4_readNumber cX4_readNumber 5 ((some .int)) 2 := ⟨q262, q263, q264, q15, q265, by decide +kernel, by decide +kernel, by decide +kernel⟩
theorem lk_X4_89 : Lk RX4 89 yX4_readEnd cX4_readEnd 1 none 0 := ⟨q266, q267, q268, q15, q269, by decide +kernel, by decide +kernel, by decide +kernel⟩
def b_J7_fill_53178_5 (r n : Nat)  (rec5 : Int32 × Int32 × Int32 × St → Option (St)) (x1 : Int32) (x2 : Int32) (x3 : Int32) (σ : St) : Option (St) := if x3 ≤ x2 then some σ else ck (inb x2 n) (nm (sI σ r (x2 : Int32).toNatClampNeg x1) (fun σ4 => rec5 (x1, x2 + 1, x3, σ4)))
def f_J7_fill_53178_5 (r n : Nat)  (x1 : Int32) (x2 : Int32) (x3 : Int32) (σ : St) : Option (St) := lp (fun (rec5 : Int32 × Int32 × Int32 × St → Option (St)) (q : Int32 × Int32 × Int32 × St) => b_J7_fill_53178_5 r n  rec5 (q.1) (q.2.1) (q.2.2.1) (q.2.2.2)) 100000 (x1, x2, x3, σ)
set_option maxHeartbeats 4000000 in
theorem t_J7_fill_53178_5 (C : Cx p s m args meth c cJ7_fill_53178 4 RJ7 D (tyG G)) (hr : meth.sig.returnType = none) {o : St} (r n : Nat) (hrn : isArrC G r n)  : ∀ (x1 : Int32) (x2 : Int32) (x3 : Int32) (σ : St) (H : Heap) (locs : List Loc) (ls : Array Slot), Hs D A s.heap (wC G σ) H locs → lv_has ls 4 [(0, .ref (G.1 r)), (1, .int x1), (2, .int x2), (3, .int x3)] → f_J7_fill_53178_5 r n  x1 x2 x3 σ = some o → W p l e ({ frames := 0, cells := 0, slots := 0, locals := 0 } : Room) s m args below meth c H locs 0 0 (MQ below (QV D (tyG G) (wC G) A o) args s 0 0 A) (F0 m 5 ls []) := by
  intro x1 x2 x3 σ H locs ls h hl hf
  refine lp_el (P := fun q : Int32 × Int32 × Int32 × St => ∀ (H : Heap) (locs : List Loc) (ls : Array Slot), Hs D A s.heap (wC G (q.2.2.2)) H locs → lv_has ls 4 [(0, .ref (G.1 r)), (1, .int (q.1)), (2, .int (q.2.1)), (3, .int (q.2.2.1))] → W p l e ({ frames := 0, cells := 0, slots := 0, locals := 0 } : Room) s m args below meth c H locs 0 0 (MQ below (QV D (tyG G) (wC G) A o) args s 0 0 A) (F0 m 5 ls [])) (fun rec5 q IH5 hf => ?_) _ (x1, x2, x3, σ) hf H locs ls h hl
  obtain ⟨x1, x2, x3, σ⟩ := q
  intro H locs ls h hl
  have hl : lv_has ls 4 [(0, .ref (G.1 r)), (1, .int x1), (2, .int x2), (3, .int x3)] := hl
  have h : Hs D A s.heap (wC G σ) H locs := h
  have hf : b_J7_fill_53178_5 r n  rec5 x1 x2 x3 σ = some o := hf
  unfold b_J7_fill_53178_5 at hf
  have hx := C.1
  have hb := C.2.1
  refine lv_iload_n hx hb dJ7_fill_53178_5 rfl (lv_at hl 2 rfl) ?_
  refine lv_iload_n hx hb dJ7_fill_53178_6 rfl (lv_at hl 3 rfl) ?_
  refine lv_icmp_ge (tgt := 20) hx hb dJ7_fill_53178_7 (by decide) (fun c2 => ?_) (fun c2 => ?_)
  · have hf := ifT c2 hf
    exact x_vret C hr h hf dJ7_fill_53178_20
  · have hf := ifF c2 hf
    refine lv_aload_n hx hb dJ7_fill_53178_10 rfl (lv_at hl 0 rfl) ?_
    refine lv_iload_n hx hb dJ7_fill_53178_11 rfl (lv_at hl 2 rfl) ?_
    refine lv_iload_n hx hb dJ7_fill_53178_12 rfl (lv_at hl 1 rfl) ?_
    refine ckb_el hf (fun hin3 hf => ?_)
    refine nm_el hf (fun σ4 hσ4 hf => ?_)
    refine x_iast C h r 1 hrn.1 (fun f => hrn.2 f _) rfl hin3 dJ7_fill_53178_13 hσ4 (fun H locs h => ?_)
    refine lv_iinc (v := x2 + 1) (lv' := [(2, .int (x2 + 1)), (0, .ref (G.1 r)), (1, .int x1), (3, .int x3)]) hx hb dJ7_fill_53178_14 hl (k := 2) rfl rfl (by decide) rfl (fun ls hl => ?_)
    refine lv_goto (tgt := 5) hx hb dJ7_fill_53178_17 (by decide) ?_
    exact IH5 (x1, x2 + 1, x3, σ4) hf _ _ _ h (lv_sub hl [1, 2, 0, 3] rfl)
def f_J7_fill_53178 (r n : Nat) (x1 : Int32) (σ : St) : Option (St) := nm (Int32.ofNat n) (fun z1 => f_J7_fill_53178_5 r n x1 0 z1 σ)
set_option maxHeartbeats 4000000 in
theorem c_J7_fill_53178 (l : Launch) (D : va_G) (G : Geo)  (r n : Nat) (hrn : isArrC G r n) (x1 : Int32) (σ : St) (o : St) (hf : f_J7_fill_53178 r n x1 σ = some o) : CV l D (tyG G) (wC G) yJ7_fill_53178 cJ7_fill_53178 4 none ({ frames := 0, cells := 0, slots := 0, locals := 0 }) [.ref (G.1 r), .int x1] σ o := by
  refine met_of (Qc := fun A => QV D (tyG G) (wC G) A o) pn_J7 (Nat.le_of_ble_eq_true rfl) (fun p e s m below meth c A ls C hr h hl => ?_)
  have C : Cx p s m _ meth c cJ7_fill_53178 4 RJ7 D (tyG G) := C
  have hl : lv_has ls 4 [(0, .ref (G.1 r)), (1, .int x1)] := hl
  unfold f_J7_fill_53178 at hf
  have hx := C.1
  have hb := C.2.1
  refine lv_iconst (v := 0) hx hb dJ7_fill_53178_0 (by decide) ?_
  refine lv_istore_n (lv' := [(2, .int 0), (0, .ref (G.1 r)), (1, .int x1)]) hx hb dJ7_fill_53178_1 rfl hl (by decide) rfl (fun ls hl => ?_)
  refine lv_aload_n hx hb dJ7_fill_53178_2 rfl (lv_at hl 1 rfl) ?_
  refine x_alen C h r 1 hrn.1 (hrn.2 _ _) rfl (v := Int32.ofNat n) rfl dJ7_fill_53178_3 ?_
  refine nm_el hf (fun z1 ez1 hf => ?_)
  refine x_topi ez1 ?_
  refine lv_istore_n (lv' := [(3, .int z1), (2, .int 0), (0, .ref (G.1 r)), (1, .int x1)]) hx hb dJ7_fill_53178_4 rfl hl (by decide) rfl (fun ls hl => ?_)
  exact t_J7_fill_53178_5 C hr r n hrn x1 0 z1 σ _ _ _ h (lv_sub hl [2, 3, 1, 0] rfl) hf
def b_J7_fill_d0a16_6 (r n : Nat)  (rec6 : Int64 × Int32 × Int32 × St → Option (St)) (x1 : Int64) (x3 : Int32) (x4 : Int32) (σ : St) : Option (St) := if x4 ≤ x3 then some σ else ck (inb x3 n) (nm (sJ σ r (x3 : Int32).toNatClampNeg x1) (fun σ4 => rec6 (x1, x3 + 1, x4, σ4)))
def f_J7_fill_d0a16_6 (r n : Nat)  (x1 : Int64) (x3 : Int32) (x4 : Int32) (σ : St) : Option (St) := lp (fun (rec6 : Int64 × Int32 × Int32 × St → Option (St)) (q : Int64 × Int32 × Int32 × St) => b_J7_fill_d0a16_6 r n  rec6 (q.1) (q.2.1) (q.2.2.1) (q.2.2.2)) 100000 (x1, x3, x4, σ)
set_option maxHeartbeats 4000000 in
theorem t_J7_fill_d0a16_6 (C : Cx p s m args meth c cJ7_fill_d0a16 5 RJ7 D (tyG G)) (hr : meth.sig.returnType = none) {o : St} (r n : Nat) (hrn : isArrL G r n)  : ∀ (x1 : Int64) (x3 : Int32) (x4 : Int32) (σ : St) (H : Heap) (locs : List Loc) (ls : Array Slot), Hs D A s.heap (wC G σ) H locs → lv_has ls 5 [(0, .ref (G.1 r)), (1, .long x1), (3, .int x3), (4, .int x4)] → f_J7_fill_d0a16_6 r n  x1 x3 x4 σ = some o → W p l e ({ frames := 0, cells := 0, slots := 0, locals := 0 } : Room) s m args below meth c H locs 0 0 (MQ below (QV D (tyG G) (wC G) A o) args s 0 0 A) (F0 m 6 ls []) := by
  intro x1 x3 x4 σ H locs ls h hl hf
  refine lp_el (P := fun q : Int64 × Int32 × Int32 × St => ∀ (H : Heap) (locs : List Loc) (ls : Array Slot), Hs D A s.heap (wC G (q.2.2.2)) H locs → lv_has ls 5 [(0, .ref (G.1 r)), (1, .long (q.1)), (3, .int (q.2.1)), (4, .int (q.2.2.1))] → W p l e ({ frames := 0, cells := 0, slots := 0, locals := 0 } : Room) s m args below meth c H locs 0 0 (MQ below (QV D (tyG G) (wC G) A o) args s 0 0 A) (F0 m 6 ls [])) (fun rec6 q IH6 hf => ?_) _ (x1, x3, x4, σ) hf H locs ls h hl
  obtain ⟨x1, x3, x4, σ⟩ := q
  intro H locs ls h hl
  have hl : lv_has ls 5 [(0, .ref (G.1 r)), (1, .long x1), (3, .int x3), (4, .int x4)] := hl
  have h : Hs D A s.heap (wC G σ) H locs := h
  have hf : b_J7_fill_d0a16_6 r n  rec6 x1 x3 x4 σ = some o := hf
  unfold b_J7_fill_d0a16_6 at hf
  have hx := C.1
  have hb := C.2.1
  refine lv_iload_n hx hb dJ7_fill_d0a16_6 rfl (lv_at hl 2 rfl) ?_
  refine lv_iload hx hb dJ7_fill_d0a16_7 (lv_at hl 3 rfl) ?_
  refine lv_icmp_ge (tgt := 22) hx hb dJ7_fill_d0a16_9 (by decide) (fun c2 => ?_) (fun c2 => ?_)
  · have hf := ifT c2 hf
    exact x_vret C hr h hf dJ7_fill_d0a16_22
  · have hf := ifF c2 hf
    refine lv_aload_n hx hb dJ7_fill_d0a16_12 rfl (lv_at hl 0 rfl) ?_
    refine lv_iload_n hx hb dJ7_fill_d0a16_13 rfl (lv_at hl 2 rfl) ?_
    refine lv_lload_n hx hb dJ7_fill_d0a16_14 rfl (lv_at hl 1 rfl) ?_
    refine ckb_el hf (fun hin3 hf => ?_)
    refine nm_el hf (fun σ4 hσ4 hf => ?_)
    refine x_last C h r 2 hrn.1 (fun f => hrn.2 _ f) rfl hin3 dJ7_fill_d0a16_15 hσ4 (fun H locs h => ?_)
    refine lv_iinc (v := x3 + 1) (lv' := [(3, .int (x3 + 1)), (0, .ref (G.1 r)), (1, .long x1), (4, .int x4)]) hx hb dJ7_fill_d0a16_16 hl (k := 2) rfl rfl (by decide) rfl (fun ls hl => ?_)
    refine lv_goto (tgt := 6) hx hb dJ7_fill_d0a16_19 (by decide) ?_
    exact IH6 (x1, x3 + 1, x4, σ4) hf _ _ _ h (lv_sub hl [1, 2, 0, 3] rfl)
def f_J7_fill_d0a16 (r n : Nat) (x1 : Int64) (σ : St) : Option (St) := nm (Int32.ofNat n) (fun z1 => f_J7_fill_d0a16_6 r n x1 0 z1 σ)
set_option maxHeartbeats 4000000 in
theorem c_J7_fill_d0a16 (l : Launch) (D : va_G) (G : Geo)  (r n : Nat) (hrn : isArrL G r n) (x1 : Int64) (σ : St) (o : St) (hf : f_J7_fill_d0a16 r n x1 σ = some o) : CV l D (tyG G) (wC G) yJ7_fill_d0a16 cJ7_fill_d0a16 5 none ({ frames := 0, cells := 0, slots := 0, locals := 0 }) [.ref (G.1 r), .long x1] σ o := by
  refine met_of (Qc := fun A => QV D (tyG G) (wC G) A o) pn_J7 (Nat.le_of_ble_eq_true rfl) (fun p e s m below meth c A ls C hr h hl => ?_)
  have C : Cx p s m _ meth c cJ7_fill_d0a16 5 RJ7 D (tyG G) := C
  have hl : lv_has ls 5 [(0, .ref (G.1 r)), (1, .long x1)] := hl
  unfold f_J7_fill_d0a16 at hf
  have hx := C.1
  have hb := C.2.1
  refine lv_iconst (v := 0) hx hb dJ7_fill_d0a16_0 (by decide) ?_
  refine lv_istore_n (lv' := [(3, .int 0), (0, .ref (G.1 r)), (1, .long x1)]) hx hb dJ7_fill_d0a16_1 rfl hl (by decide) rfl (fun ls hl => ?_)
  refine lv_aload_n hx hb dJ7_fill_d0a16_2 rfl (lv_at hl 1 rfl) ?_
  refine x_alen C h r 2 hrn.1 (hrn.2 _ _) rfl (v := Int32.ofNat n) rfl dJ7_fill_d0a16_3 ?_
  refine nm_el hf (fun z1 ez1 hf => ?_)
  refine x_topi ez1 ?_
  refine lv_istore (lv' := [(4, .int z1), (3, .int 0), (0, .ref (G.1 r)), (1, .long x1)]) hx hb dJ7_fill_d0a16_4 hl (by decide) rfl (fun ls hl => ?_)
  exact t_J7_fill_d0a16_6 C hr r n hrn x1 0 z1 σ _ _ _ h (lv_sub hl [2, 3, 1, 0] rfl) hf
def f_X5_hasHouse  (x1 : Int32) (σ : St) : Option (Int32 × St) := if x1 < 0 then some (0, σ) else if (σ.1 3 0) ≤ x1 then some (0, σ) else some (1, σ)
set_option maxHeartbeats 4000000 in
theorem c_X5_hasHouse (l : Launch) (D : va_G) (G : Geo)   (x1 : Int32) (σ : St) (o : Int32 × St) (hf : f_X5_hasHouse  x1 σ = some o) : CI l D (tyG G) (wC G) yX5_hasHouse cX5_hasHouse 2 ((some .boolean)) ({ frames := 0, cells := 0, slots := 0, locals := 0 }) [.ref (G.1 3), .int x1] σ o := by
  refine met_of (Qc := fun A => QI D (tyG G) (wC G) A o) pn_X5 (Nat.le_of_ble_eq_true rfl) (fun p e s m below meth c A ls C hr h hl => ?_)
  have C : Cx p s m _ meth c cX5_hasHouse 2 RX5 D (tyG G) := C
  have hl : lv_has ls 2 [(0, .ref (G.1 3)), (1, .int x1)] := hl
  unfold f_X5_hasHouse at hf
  have hx := C.1
  have hb := C.2.1
  refine lv_iload_n hx hb dX5_hasHouse_0 rfl (lv_at hl 1 rfl) ?_
  refine lv_if_lt (tgt := 16) hx hb dX5_hasHouse_1 (by decide) (fun c1 => ?_) (fun c1 => ?_)
  · have hf := ifT c1 hf
    refine lv_iconst (v := 0) hx hb dX5_hasHouse_16 (by decide) ?_
    exact x_zret C hr h rfl hf dX5_hasHouse_17
  · have hf := ifF c1 hf
    refine lv_iload_n hx hb dX5_hasHouse_4 rfl (lv_at hl 1 rfl) ?_
    refine lv_aload_n hx hb dX5_hasHouse_5 rfl (lv_at hl 0 rfl) ?_
    refine gf_X5_33 C h (by decide) dX5_hasHouse_6 ?_
    refine lv_icmp_ge (tgt := 16) hx hb dX5_hasHouse_9 (by decide) (fun c2 => ?_) (fun c2 => ?_)
    · have hf := ifT c2 hf
      refine lv_iconst (v := 0) hx hb dX5_hasHouse_16 (by decide) ?_
      exact x_zret C hr h rfl hf dX5_hasHouse_17
    · have hf := ifF c2 hf
      refine lv_iconst (v := 1) hx hb dX5_hasHouse_12 (by decide) ?_
      refine lv_goto (tgt := 17) hx hb dX5_hasHouse_13 (by decide) ?_
      exact x_zret C hr h rfl hf dX5_hasHouse_17
def f_X5_hasSleeper  (x1 : Int32) (σ : St) : Option (Int32 × St) := if x1 < 0 then some (0, σ) else if (σ.1 3 4) ≤ x1 then some (0, σ) else some (1, σ)
set_option maxHeartbeats 4000000 in
theorem c_X5_hasSleeper (l : Launch) (D : va_G) (G : Geo)   (x1 : Int32) (σ : St) (o : Int32 × St) (hf : f_X5_hasSleeper  x1 σ = some o) : CI l D (tyG G) (wC G) yX5_hasSleeper cX5_hasSleeper 2 ((some .boolean)) ({ frames := 0, cells := 0, slots := 0, locals := 0 }) [.ref (G.1 3), .int x1] σ o := by
  refine met_of (Qc := fun A => QI D (tyG G) (wC G) A o) pn_X5 (Nat.le_of_ble_eq_true rfl) (fun p e s m below meth c A ls C hr h hl => ?_)
  have C : Cx p s m _ meth c cX5_hasSleeper 2 RX5 D (tyG G) := C
  have hl : lv_has ls 2 [(0, .ref (G.1 3)), (1, .int x1)] := hl
  unfold f_X5_hasSleeper at hf
  have hx := C.1
  have hb := C.2.1
  refine lv_iload_n hx hb dX5_hasSleeper_0 rfl (lv_at hl 1 rfl) ?_
  refine lv_if_lt (tgt := 16) hx hb dX5_hasSleeper_1 (by decide) (fun c1 => ?_) (fun c1 => ?_)
  · have hf := ifT c1 hf
    refine lv_iconst (v := 0) hx hb dX5_hasSleeper_16 (by decide) ?_
    exact x_zret C hr h rfl hf dX5_hasSleeper_17
  · have hf := ifF c1 hf
    refine lv_iload_n hx hb dX5_hasSleeper_4 rfl (lv_at hl 1 rfl) ?_
    refine lv_aload_n hx hb dX5_hasSleeper_5 rfl (lv_at hl 0 rfl) ?_
    refine gf_X5_37 C h (by decide) dX5_hasSleeper_6 ?_
    refine lv_icmp_ge (tgt := 16) hx hb dX5_hasSleeper_9 (by decide) (fun c2 => ?_) (fun c2 => ?_)
    · have hf := ifT c2 hf
      refine lv_iconst (v := 0) hx hb dX5_hasSleeper_16 (by decide) ?_
      exact x_zret C hr h rfl hf dX5_hasSleeper_17
    · have hf := ifF c2 hf
      refine lv_iconst (v := 1) hx hb dX5_hasSleeper_12 (by decide) ?_
      refine lv_goto (tgt := 17) hx hb dX5_hasSleeper_13 (by decide) ?_
      exact x_zret C hr h rfl hf dX5_hasSleeper_17
def f_X5_sleepersOf_28  (rec4 : Int32 × Int32 × Int32 × St → Option (Int32 × St)) (x1 : Int32) (x2 : Int32) (x3 : Int32) (σ : St) : Option (Int32 × St) := rec4 (x1, x2, x3 + 1, σ)
set_option maxHeartbeats 4000000 in
theorem t_X5_sleepersOf_28 (C : Cx p s m args meth c cX5_sleepersOf 4 RX5 D (tyG G)) (hr : meth.sig.returnType = (some .int)) {o : Int32 × St}  {rec4 : Int32 × Int32 × Int32 × St → Option (Int32 × St)} (IH4 : ∀ q, rec4 q = some o → ∀ (H : Heap) (locs : List Loc) (ls : Array Slot), Hs D A s.heap (wC G (q.2.2.2)) H locs → lv_has ls 4 [(0, .ref (G.1 3)), (1, .int (q.1)), (2, .int (q.2.1)), (3, .int (q.2.2.1))] → W p l e ({ frames := 0, cells := 0, slots := 0, locals := 0 } : Room) s m args below meth c H locs 0 0 (MQ below (QI D (tyG G) (wC G) A o) args s 0 0 A) (F0 m 4 ls [])) : ∀ (x1 : Int32) (x2 : Int32) (x3 : Int32) (σ : St) (H : Heap) (locs : List Loc) (ls : Array Slot), Hs D A s.heap (wC G σ) H locs → lv_has ls 4 [(0, .ref (G.1 3)), (1, .int x1), (2, .int x2), (3, .int x3)] → f_X5_sleepersOf_28  rec4 x1 x2 x3 σ = some o → W p l e ({ frames := 0, cells := 0, slots := 0, locals := 0 } : Room) s m args below meth c H locs 0 0 (MQ below (QI D (tyG G) (wC G) A o) args s 0 0 A) (F0 m 28 ls []) := by
  intro x1 x2 x3 σ H locs ls h hl hf
  unfold f_X5_sleepersOf_28 at hf
  have hx := C.1
  have hb := C.2.1
  refine lv_iinc (v := x3 + 1) (lv' := [(3, .int (x3 + 1)), (0, .ref (G.1 3)), (1, .int x1), (2, .int x2)]) hx hb dX5_sleepersOf_28 hl (k := 3) rfl rfl (by decide) rfl (fun ls hl => ?_)
  refine lv_goto (tgt := 4) hx hb dX5_sleepersOf_31 (by decide) ?_
  exact IH4 (x1, x2, x3 + 1, σ) hf _ _ _ h (lv_sub hl [1, 2, 3, 0] rfl)
def b_X5_sleepersOf_4   (rec4 : Int32 × Int32 × Int32 × St → Option (Int32 × St)) (x1 : Int32) (x2 : Int32) (x3 : Int32) (σ : St) : Option (Int32 × St) := if (σ.1 3 4) ≤ x3 then some (x2, σ) else rd (σ.1 7) 8 x3 (fun v2 => if v2 = x1 then nm (x2 ||| (1 <<< (x3 &&& 31))) (fun z4 => f_X5_sleepersOf_28 rec4 x1 z4 x3 σ) else f_X5_sleepersOf_28 rec4 x1 x2 x3 σ)
def f_X5_sleepersOf_4   (x1 : Int32) (x2 : Int32) (x3 : Int32) (σ : St) : Option (Int32 × St) := lp (fun (rec4 : Int32 × Int32 × Int32 × St → Option (Int32 × St)) (q : Int32 × Int32 × Int32 × St) => b_X5_sleepersOf_4   rec4 (q.1) (q.2.1) (q.2.2.1) (q.2.2.2)) 100000 (x1, x2, x3, σ)
set_option maxHeartbeats 4000000 in
theorem t_X5_sleepersOf_4 (C : Cx p s m args meth c cX5_sleepersOf 4 RX5 D (tyG G)) (hr : meth.sig.returnType = (some .int)) {o : Int32 × St}   : ∀ (x1 : Int32) (x2 : Int32) (x3 : Int32) (σ : St) (H : Heap) (locs : List Loc) (ls : Array Slot), Hs D A s.heap (wC G σ) H locs → lv_has ls 4 [(0, .ref (G.1 3)), (1, .int x1), (2, .int x2), (3, .int x3)] → f_X5_sleepersOf_4   x1 x2 x3 σ = some o → W p l e ({ frames := 0, cells := 0, slots := 0, locals := 0 } : Room) s m args below meth c H locs 0 0 (MQ below (QI D (tyG G) (wC G) A o) args s 0 0 A) (F0 m 4 ls []) := by
  intro x1 x2 x3 σ H locs ls h hl hf
  refine lp_el (P := fun q : Int32 × Int32 × Int32 × St => ∀ (H : Heap) (locs : List Loc) (ls : Array Slot), Hs D A s.heap (wC G (q.2.2.2)) H locs → lv_has ls 4 [(0, .ref (G.1 3)), (1, .int (q.1)), (2, .int (q.2.1)), (3, .int (q.2.2.1))] → W p l e ({ frames := 0, cells := 0, slots := 0, locals := 0 } : Room) s m args below meth c H locs 0 0 (MQ below (QI D (tyG G) (wC G) A o) args s 0 0 A) (F0 m 4 ls [])) (fun rec4 q IH4 hf => ?_) _ (x1, x2, x3, σ) hf H locs ls h hl
  obtain ⟨x1, x2, x3, σ⟩ := q
  intro H locs ls h hl
  have hl : lv_has ls 4 [(0, .ref (G.1 3)), (1, .int x1), (2, .int x2), (3, .int x3)] := hl
  have h : Hs D A s.heap (wC G σ) H locs := h
  have hf : b_X5_sleepersOf_4   rec4 x1 x2 x3 σ = some o := hf
  unfold b_X5_sleepersOf_4 at hf
  have hx := C.1
  have hb := C.2.1
  refine lv_iload_n hx hb dX5_sleepersOf_4 rfl (lv_at hl 3 rfl) ?_
  refine lv_aload_n hx hb dX5_sleepersOf_5 rfl (lv_at hl 0 rfl) ?_
  refine gf_X5_37 C h (by decide) dX5_sleepersOf_6 ?_
  refine lv_icmp_ge (tgt := 34) hx hb dX5_sleepersOf_9 (by decide) (fun c1 => ?_) (fun c1 => ?_)
  · have hf := ifT c1 hf
    refine lv_iload_n hx hb dX5_sleepersOf_34 rfl (lv_at hl 2 rfl) ?_
    exact x_iret C hr h hf dX5_sleepersOf_35
  · have hf := ifF c1 hf
    refine lv_aload_n hx hb dX5_sleepersOf_12 rfl (lv_at hl 0 rfl) ?_
    refine gf_X5_21 C h (by decide) dX5_sleepersOf_13 ?_
    refine lv_iload_n hx hb dX5_sleepersOf_16 rfl (lv_at hl 3 rfl) ?_
    refine rd_el hf (fun v2 hinv2 hv2 hf => ?_)
    refine x_iald C h 7 1 (ltA_X5_home (by decide)) ((aC_X5_home G (by decide)) _ _) rfl hinv2 hv2 dX5_sleepersOf_17 ?_
    refine lv_iload_n hx hb dX5_sleepersOf_18 rfl (lv_at hl 1 rfl) ?_
    refine lv_icmp_ne (tgt := 28) hx hb dX5_sleepersOf_19 (by decide) (fun c3 => ?_) (fun c3 => ?_)
    · have hf := ifF c3 hf
      exact t_X5_sleepersOf_28 C hr IH4 x1 x2 x3 σ _ _ _ h (lv_sub hl [0, 1, 2, 3] rfl) hf
    · have hf := ifT c3 hf
      refine lv_iload_n hx hb dX5_sleepersOf_22 rfl (lv_at hl 2 rfl) ?_
      refine lv_iconst (v := 1) hx hb dX5_sleepersOf_23 (by decide) ?_
      refine lv_iload_n hx hb dX5_sleepersOf_24 rfl (lv_at hl 3 rfl) ?_
      refine lv_ishl hx hb dX5_sleepersOf_25 ?_
      refine lv_ior hx hb dX5_sleepersOf_26 ?_
      refine nm_el hf (fun z4 ez4 hf => ?_)
      refine x_topi ez4 ?_
      refine lv_istore_n (lv' := [(2, .int z4), (0, .ref (G.1 3)), (1, .int x1), (3, .int x3)]) hx hb dX5_sleepersOf_27 rfl hl (by decide) rfl (fun ls hl => ?_)
      exact t_X5_sleepersOf_28 C hr IH4 x1 z4 x3 σ _ _ _ h (lv_sub hl [1, 2, 0, 3] rfl) hf
def f_X5_sleepersOf  (x1 : Int32) (σ : St) : Option (Int32 × St) := f_X5_sleepersOf_4 x1 0 0 σ
set_option maxHeartbeats 4000000 in
theorem c_X5_sleepersOf (l : Launch) (D : va_G) (G : Geo)   (x1 : Int32) (σ : St) (o : Int32 × St) (hf : f_X5_sleepersOf  x1 σ = some o) : CI l D (tyG G) (wC G) yX5_sleepersOf cX5_sleepersOf 4 ((some .int)) ({ frames := 0, cells := 0, slots := 0, locals := 0 }) [.ref (G.1 3), .int x1] σ o := by
  refine met_of (Qc := fun A => QI D (tyG G) (wC G) A o) pn_X5 (Nat.le_of_ble_eq_true rfl) (fun p e s m below meth c A ls C hr h hl => ?_)
  have C : Cx p s m _ meth c cX5_sleepersOf 4 RX5 D (tyG G) := C
  have hl : lv_has ls 4 [(0, .ref (G.1 3)), (1, .int x1)] := hl
  unfold f_X5_sleepersOf at hf
  have hx := C.1
  have hb := C.2.1
  refine lv_iconst (v := 0) hx hb dX5_sleepersOf_0 (by decide) ?_
  refine lv_istore_n (lv' := [(2, .int 0), (0, .ref (G.1 3)), (1, .int x1)]) hx hb dX5_sleepersOf_1 rfl hl (by decide) rfl (fun ls hl => ?_)
  refine lv_iconst (v := 0) hx hb dX5_sleepersOf_2 (by decide) ?_
  refine lv_istore_n (lv' := [(3, .int 0), (2, .int 0), (0, .ref (G.1 3)), (1, .int x1)]) hx hb dX5_sleepersOf_3 rfl hl (by decide) rfl (fun ls hl => ?_)
  exact t_X5_sleepersOf_4 C hr x1 0 0 σ _ _ _ h (lv_sub hl [2, 3, 1, 0] rfl) hf
def f_X5_copyFrom   (σ : St) : Option (St) := nm (sI σ 3 0 (σ.1 11 0)) (fun σ1 => ck (decide ((¬ (0 : Int32) < 0) ∧ (¬ (0 : Int32) < 0) ∧ (¬ (5 : Int32) < 0) ∧ (0 : Int32).toNatClampNeg + (5 : Int32).toNatClampNeg ≤ 5 ∧ (0 : Int32).toNatClampNeg + (5 : Int32).toNatClampNeg ≤ 5)) (nm (sR σ1 4 (va_cpy (σ1.1 12) (σ1.1 4) (0 : Int32).toNatClampNeg (0 : Int32).toNatClampNeg (5 : Int32).toNatClampNeg)) (fun σ3 => ck (decide ((¬ (0 : Int32) < 0) ∧ (¬ (0 : Int32) < 0) ∧ (¬ (5 : Int32) < 0) ∧ (0 : Int32).toNatClampNeg + (5 : Int32).toNatClampNeg ≤ 5 ∧ (0 : Int32).toNatClampNeg + (5 : Int32).toNatClampNeg ≤ 5)) (nm (sR σ3 5 (va_cpy (σ3.1 13) (σ3.1 5) (0 : Int32).toNatClampNeg (0 : Int32).toNatClampNeg (5 : Int32).toNatClampNeg)) (fun σ5 => ck (decide ((¬ (0 : Int32) < 0) ∧ (¬ (0 : Int32) < 0) ∧ (¬ (5 : Int32) < 0) ∧ (0 : Int32).toNatClampNeg + (5 : Int32).toNatClampNeg ≤ 5 ∧ (0 : Int32).toNatClampNeg + (5 : Int32).toNatClampNeg ≤ 5)) (nm (sR σ5 6 (va_cpy (σ5.1 14) (σ5.1 6) (0 : Int32).toNatClampNeg (0 : Int32).toNatClampNeg (5 : Int32).toNatClampNeg)) (fun σ7 => nm (sI σ7 3 4 (σ7.1 11 4)) (fun σ8 => ck (decide ((¬ (0 : Int32) < 0) ∧ (¬ (0 : Int32) < 0) ∧ (¬ (8 : Int32) < 0) ∧ (0 : Int32).toNatClampNeg + (8 : Int32).toNatClampNeg ≤ 8 ∧ (0 : Int32).toNatClampNeg + (8 : Int32).toNatClampNeg ≤ 8)) (nm (sR σ8 7 (va_cpy (σ8.1 15) (σ8.1 7) (0 : Int32).toNatClampNeg (0 : Int32).toNatClampNeg (8 : Int32).toNatClampNeg)) (fun σ10 => ck (decide ((¬ (0 : Int32) < 0) ∧ (¬ (0 : Int32) < 0) ∧ (¬ (8 : Int32) < 0) ∧ (0 : Int32).toNatClampNeg + (8 : Int32).toNatClampNeg ≤ 8 ∧ (0 : Int32).toNatClampNeg + (8 : Int32).toNatClampNeg ≤ 8)) (nm (sR σ10 8 (va_cpy (σ10.1 16) (σ10.1 8) (0 : Int32).toNatClampNeg (0 : Int32).toNatClampNeg (8 : Int32).toNatClampNeg)) (fun σ12 => ck (decide ((¬ (0 : Int32) < 0) ∧ (¬ (0 : Int32) < 0) ∧ (¬ (8 : Int32) < 0) ∧ (0 : Int32).toNatClampNeg + (8 : Int32).toNatClampNeg ≤ 8 ∧ (0 : Int32).toNatClampNeg + (8 : Int32).toNatClampNeg ≤ 8)) (nm (sR σ12 9 (va_cpy (σ12.1 17) (σ12.1 9) (0 : Int32).toNatClampNeg (0 : Int32).toNatClampNeg (8 : Int32).toNatClampNeg)) (fun σ14 => ck (decide ((¬ (0 : Int32) < 0) ∧ (¬ (0 : Int32) < 0) ∧ (¬ (8 : Int32) < 0) ∧ (0 : Int32).toNatClampNeg + (8 : Int32).toNatClampNeg ≤ 8 ∧ (0 : Int32).toNatClampNeg + (8 : Int32).toNatClampNeg ≤ 8)) (nm (sR σ14 10 (va_cpy (σ14.1 18) (σ14.1 10) (0 : Int32).toNatClampNeg (0 : Int32).toNatClampNeg (8 : Int32).toNatClampNeg)) (fun σ16 => some σ16))))))))))))))))
set_option maxHeartbeats 4000000 in
theorem c_X5_copyFrom (l : Launch) (D : va_G) (G : Geo)    (σ : St) (o : St) (hf : f_X5_copyFrom   σ = some o) : CV l D (tyG G) (wC G) yX5_copyFrom cX5_copyFrom 2 none ({ frames := 1, cells := 0, slots := 0, locals := 35 }) [.ref (G.1 3), .ref (G.1 11)] σ o := by
  refine met_of (Qc := fun A => QV D (tyG G) (wC G) A o) pn_X5 (Nat.le_of_ble_eq_true rfl) (fun p e s m below meth c A ls C hr h hl => ?_)
  have C : Cx p s m _ meth c cX5_copyFrom 2 RX5 D (tyG G) := C
  have hl : lv_has ls 2 [(0, .ref (G.1 3)), (1, .ref (G.1 11))] := hl
  unfold f_X5_copyFrom at hf
  have hx := C.1
  have hb := C.2.1
  refine lv_aload_n hx hb dX5_copyFrom_0 rfl (lv_at hl 0 rfl) ?_
  refine lv_aload_n hx hb dX5_copyFrom_1 rfl (lv_at hl 1 rfl) ?_
  refine gf_X5_33 C h (by decide) dX5_copyFrom_2 ?_
  refine nm_el hf (fun σ1 hσ1 hf => ?_)
  refine pf_X5_33 C h (by decide) dX5_copyFrom_5 hσ1 (fun H locs h => ?_)
  refine lv_aload_n hx hb dX5_copyFrom_8 rfl (lv_at hl 1 rfl) ?_
  refine gf_X5_9 C h (by decide) dX5_copyFrom_9 ?_
  refine lv_iconst (v := 0) hx hb dX5_copyFrom_12 (by decide) ?_
  refine lv_aload_n hx hb dX5_copyFrom_13 rfl (lv_at hl 0 rfl) ?_
  refine gf_X5_9 C h (by decide) dX5_copyFrom_14 ?_
  refine lv_iconst (v := 0) hx hb dX5_copyFrom_17 (by decide) ?_
  refine lv_iconst (v := 5) hx hb dX5_copyFrom_18 (by decide) ?_
  refine ck_el hf (fun hc2 hf => ?_)
  refine nm_el hf (fun σ3 hσ3 hf => ?_)
  refine x_copy C h hl.1 12 4 1 (ltA_X5_need (by decide)) (ltA_X5_need (by decide)) ((aC_X5_need G (by decide)) _ _) (fun f => (aC_X5_need G (by decide)) f _) rfl q283 q284 q285 q286 (of_decide_eq_true hc2) (Nat.le_of_ble_eq_true rfl) (Nat.le_of_ble_eq_true rfl) dX5_copyFrom_19 hσ3 (fun H locs h => ?_)
  refine lv_aload_n hx hb dX5_copyFrom_22 rfl (lv_at hl 1 rfl) ?_
  refine gf_X5_15 C h (by decide) dX5_copyFrom_23 ?_
  refine lv_iconst (v := 0) hx hb dX5_copyFrom_26 (by decide) ?_
  refine lv_aload_n hx hb dX5_copyFrom_27 rfl (lv_at hl 0 rfl) ?_
  refine gf_X5_15 C h (by decide) dX5_copyFrom_28 ?_
  refine lv_iconst (v := 0) hx hb dX5_copyFrom_31 (by decide) ?_
  refine lv_iconst (v := 5) hx hb dX5_copyFrom_32 (by decide) ?_
  refine ck_el hf (fun hc4 hf => ?_)
  refine nm_el hf (fun σ5 hσ5 hf => ?_)
  refine x_copy C h hl.1 13 5 1 (ltA_X5_worth (by decide)) (ltA_X5_worth (by decide)) ((aC_X5_worth G (by decide)) _ _) (fun f => (aC_X5_worth G (by decide)) f _) rfl q283 q284 q285 q286 (of_decide_eq_true hc4) (Nat.le_of_ble_eq_true rfl) (Nat.le_of_ble_eq_true rfl) dX5_copyFrom_33 hσ5 (fun H locs h => ?_)
  refine lv_aload_n hx hb dX5_copyFrom_36 rfl (lv_at hl 1 rfl) ?_
  refine gf_X5_18 C h (by decide) dX5_copyFrom_37 ?_
  refine lv_iconst (v := 0) hx hb dX5_copyFrom_40 (by decide) ?_
  refine lv_aload_n hx hb dX5_copyFrom_41 rfl (lv_at hl 0 rfl) ?_
  refine gf_X5_18 C h (by decide) dX5_copyFrom_42 ?_
  refine lv_iconst (v := 0) hx hb dX5_copyFrom_45 (by decide) ?_
  refine lv_iconst (v := 5) hx hb dX5_copyFrom_46 (by decide) ?_
  refine ck_el hf (fun hc6 hf => ?_)
  refine nm_el hf (fun σ7 hσ7 hf => ?_)
  refine x_copy C h hl.1 14 6 1 (ltA_X5_bed (by decide)) (ltA_X5_bed (by decide)) ((aC_X5_bed G (by decide)) _ _) (fun f => (aC_X5_bed G (by decide)) f _) rfl q283 q284 q285 q286 (of_decide_eq_true hc6) (Nat.le_of_ble_eq_true rfl) (Nat.le_of_ble_eq_true rfl) dX5_copyFrom_47 hσ7 (fun H locs h => ?_)
  refine lv_aload_n hx hb dX5_copyFrom_50 rfl (lv_at hl 0 rfl) ?_
  refine lv_aload_n hx hb dX5_copyFrom_51 rfl (lv_at hl 1 rfl) ?_
  refine gf_X5_37 C h (by decide) dX5_copyFrom_52 ?_
  refine nm_el hf (fun σ8 hσ8 hf => ?_)
  refine pf_X5_37 C h (by decide) dX5_copyFrom_55 hσ8 (fun H locs h => ?_)
  refine lv_aload_n hx hb dX5_copyFrom_58 rfl (lv_at hl 1 rfl) ?_
  refine gf_X5_21 C h (by decide) dX5_copyFrom_59 ?_
  refine lv_iconst (v := 0) hx hb dX5_copyFrom_62 (by decide) ?_
  refine lv_aload_n hx hb dX5_copyFrom_63 rfl (lv_at hl 0 rfl) ?_
  refine gf_X5_21 C h (by decide) dX5_copyFrom_64 ?_
  refine lv_iconst (v := 0) hx hb dX5_copyFrom_67 (by decide) ?_
  refine lv_bipush (v := 8) hx hb dX5_copyFrom_68 (by decide) ?_
  refine ck_el hf (fun hc9 hf => ?_)
  refine nm_el hf (fun σ10 hσ10 hf => ?_)
  refine x_copy C h hl.1 15 7 1 (ltA_X5_home (by decide)) (ltA_X5_home (by decide)) ((aC_X5_home G (by decide)) _ _) (fun f => (aC_X5_home G (by decide)) f _) rfl q283 q284 q285 q286 (of_decide_eq_true hc9) (Nat.le_of_ble_eq_true rfl) (Nat.le_of_ble_eq_true rfl) dX5_copyFrom_70 hσ10 (fun H locs h => ?_)
  refine lv_aload_n hx hb dX5_copyFrom_73 rfl (lv_at hl 1 rfl) ?_
  refine gf_X5_24 C h (by decide) dX5_copyFrom_74 ?_
  refine lv_iconst (v := 0) hx hb dX5_copyFrom_77 (by decide) ?_
  refine lv_aload_n hx hb dX5_copyFrom_78 rfl (lv_at hl 0 rfl) ?_
  refine gf_X5_24 C h (by decide) dX5_copyFrom_79 ?_
  refine lv_iconst (v := 0) hx hb dX5_copyFrom_82 (by decide) ?_
  refine lv_bipush (v := 8) hx hb dX5_copyFrom_83 (by decide) ?_
  refine ck_el hf (fun hc11 hf => ?_)
  refine nm_el hf (fun σ12 hσ12 hf => ?_)
  refine x_copy C h hl.1 16 8 1 (ltA_X5_wake (by decide)) (ltA_X5_wake (by decide)) ((aC_X5_wake G (by decide)) _ _) (fun f => (aC_X5_wake G (by decide)) f _) rfl q283 q284 q285 q286 (of_decide_eq_true hc11) (Nat.le_of_ble_eq_true rfl) (Nat.le_of_ble_eq_true rfl) dX5_copyFrom_85 hσ12 (fun H locs h => ?_)
  refine lv_aload_n hx hb dX5_copyFrom_88 rfl (lv_at hl 1 rfl) ?_
  refine gf_X5_27 C h (by decide) dX5_copyFrom_89 ?_
  refine lv_iconst (v := 0) hx hb dX5_copyFrom_92 (by decide) ?_
  refine lv_aload_n hx hb dX5_copyFrom_93 rfl (lv_at hl 0 rfl) ?_
  refine gf_X5_27 C h (by decide) dX5_copyFrom_94 ?_
  refine lv_iconst (v := 0) hx hb dX5_copyFrom_97 (by decide) ?_
  refine lv_bipush (v := 8) hx hb dX5_copyFrom_98 (by decide) ?_
  refine ck_el hf (fun hc13 hf => ?_)
  refine nm_el hf (fun σ14 hσ14 hf => ?_)
  refine x_copy C h hl.1 17 9 1 (ltA_X5_span (by decide)) (ltA_X5_span (by decide)) ((aC_X5_span G (by decide)) _ _) (fun f => (aC_X5_span G (by decide)) f _) rfl q283 q284 q285 q286 (of_decide_eq_true hc13) (Nat.le_of_ble_eq_true rfl) (Nat.le_of_ble_eq_true rfl) dX5_copyFrom_100 hσ14 (fun H locs h => ?_)
  refine lv_aload_n hx hb dX5_copyFrom_103 rfl (lv_at hl 1 rfl) ?_
  refine gf_X5_30 C h (by decide) dX5_copyFrom_104 ?_
  refine lv_iconst (v := 0) hx hb dX5_copyFrom_107 (by decide) ?_
  refine lv_aload_n hx hb dX5_copyFrom_108 rfl (lv_at hl 0 rfl) ?_
  refine gf_X5_30 C h (by decide) dX5_copyFrom_109 ?_
  refine lv_iconst (v := 0) hx hb dX5_copyFrom_112 (by decide) ?_
  refine lv_bipush (v := 8) hx hb dX5_copyFrom_113 (by decide) ?_
  refine ck_el hf (fun hc15 hf => ?_)
  refine nm_el hf (fun σ16 hσ16 hf => ?_)
  refine x_copy C h hl.1 18 10 1 (ltA_X5_light (by decide)) (ltA_X5_light (by decide)) ((aC_X5_light G (by decide)) _ _) (fun f => (aC_X5_light G (by decide)) f _) rfl q283 q284 q285 q286 (of_decide_eq_true hc15) (Nat.le_of_ble_eq_true rfl) (Nat.le_of_ble_eq_true rfl) dX5_copyFrom_115 hσ16 (fun H locs h => ?_)
  exact x_vret C hr h hf dX5_copyFrom_118
def f_X1_layOut_96 (a : Nat)  (x1 : Int32) (y0 : Int32) (σ : St) : Option (St) := if y0 = 0 then ck (inb x1 8) (nm (sI σ (a + 4) (x1 : Int32).toNatClampNeg 1000000) (fun σ17 => some σ17)) else ck (inb x1 8) (nm (sI σ (a + 4) (x1 : Int32).toNatClampNeg (σ.1 a 3)) (fun σ19 => some σ19))
set_option maxHeartbeats 4000000 in
theorem t_X1_layOut_96 (C : Cx p s m args meth c cX1_layOut 4 RX1 D (tyG G)) (hr : meth.sig.returnType = none) {o : St} (a : Nat) (hpa : is_X1 a)  : ∀ (x1 : Int32) (y0 : Int32) (σ : St) (H : Heap) (locs : List Loc) (ls : Array Slot), Hs D A s.heap (wC G σ) H locs → lv_has ls 4 [(0, .ref (G.1 a)), (1, .int x1)] → f_X1_layOut_96 a  x1 y0 σ = some o → W p l e ({ frames := 0, cells := 0, slots := 0, locals := 0 } : Room) s m args below meth c H locs 0 0 (MQ below (QV D (tyG G) (wC G) A o) args s 0 0 A) (F0 m 96 ls [.int y0]) := by
  intro x1 y0 σ H locs ls h hl hf
  unfold f_X1_layOut_96 at hf
  have hx := C.1
  have hb := C.2.1
  refine lv_istore_n (lv' := [(3, .int y0), (0, .ref (G.1 a)), (1, .int x1)]) hx hb dX1_layOut_96 rfl hl (by decide) rfl (fun ls hl => ?_)
  refine lv_aload_n hx hb dX1_layOut_97 rfl (lv_at hl 1 rfl) ?_
  refine gf_X1_35 C h hpa dX1_layOut_98 ?_
  refine lv_iload_n hx hb dX1_layOut_101 rfl (lv_at hl 2 rfl) ?_
  refine lv_iload_n hx hb dX1_layOut_102 rfl (lv_at hl 0 rfl) ?_
  refine lv_if_eq (tgt := 113) hx hb dX1_layOut_103 (by decide) (fun c15 => ?_) (fun c15 => ?_)
  · have hf := ifT c15 hf
    refine lv_ldc (v := 1000000) hx hb C.2.2.2.1 (C.2.2.2.2.1 _ q317) dX1_layOut_113 ?_
    refine ckb_el hf (fun hin16 hf => ?_)
    refine nm_el hf (fun σ17 hσ17 hf => ?_)
    refine x_iast C h (a + 4) 1 (ltA_X1_roof hpa) (fun f => (aC_X1_roof G hpa) f _) rfl hin16 dX1_layOut_115 hσ17 (fun H locs h => ?_)
    exact x_vret C hr h hf dX1_layOut_116
  · have hf := ifF c15 hf
    refine lv_aload_n hx hb dX1_layOut_106 rfl (lv_at hl 1 rfl) ?_
    refine gf_X1_23 C h hpa dX1_layOut_107 ?_
    refine lv_goto (tgt := 115) hx hb dX1_layOut_110 (by decide) ?_
    refine ckb_el hf (fun hin18 hf => ?_)
    refine nm_el hf (fun σ19 hσ19 hf => ?_)
    refine x_iast C h (a + 4) 1 (ltA_X1_roof hpa) (fun f => (aC_X1_roof G hpa) f _) rfl hin18 dX1_layOut_115 hσ19 (fun H locs h => ?_)
    exact x_vret C hr h hf dX1_layOut_116
def f_X1_layOut_95 (a : Nat)  (x1 : Int32) (σ : St) : Option (St) := f_X1_layOut_96 a x1 0 σ
set_option maxHeartbeats 4000000 in
theorem t_X1_layOut_95 (C : Cx p s m args meth c cX1_layOut 4 RX1 D (tyG G)) (hr : meth.sig.returnType = none) {o : St} (a : Nat) (hpa : is_X1 a)  : ∀ (x1 : Int32) (σ : St) (H : Heap) (locs : List Loc) (ls : Array Slot), Hs D A s.heap (wC G σ) H locs → lv_has ls 4 [(0, .ref (G.1 a)), (1, .int x1)] → f_X1_layOut_95 a  x1 σ = some o → W p l e ({ frames := 0, cells := 0, slots := 0, locals := 0 } : Room) s m args below meth c H locs 0 0 (MQ below (QV D (tyG G) (wC G) A o) args s 0 0 A) (F0 m 95 ls []) := by
  intro x1 σ H locs ls h hl hf
  unfold f_X1_layOut_95 at hf
  have hx := C.1
  have hb := C.2.1
  refine lv_iconst (v := 0) hx hb dX1_layOut_95 (by decide) ?_
  exact t_X1_layOut_96 C hr a hpa x1 0 σ _ _ _ h (lv_sub hl [0, 1] rfl) hf
def f_X1_layOut (a : Nat) (x1 : Int32) (σ : St) : Option (St) := rd (σ.1 8) 8 x1 (fun v1 => rd (σ.1 (a + 1)) 8 x1 (fun v2 => nm (v1 - v2) (fun z3 => rd (σ.1 9) 8 x1 (fun v4 => ck (inb x1 8) (nm (sI σ (a + 2) (x1 : Int32).toNatClampNeg (z3 - v4)) (fun σ6 => rd (σ6.1 9) 8 x1 (fun v7 => ck (inb x1 8) (nm (sI σ6 (a + 3) (x1 : Int32).toNatClampNeg (z3 + v7)) (fun σ9 => if (σ9.1 a 2) = ((-1)) then f_X1_layOut_95 a x1 σ9 else rd (σ9.1 7) 8 x1 (fun v11 => if v11 = (σ9.1 a 2) then f_X1_layOut_95 a x1 σ9 else rd (σ9.1 10) 8 x1 (fun v13 => if (σ9.1 a 4) ≤ v13 then f_X1_layOut_95 a x1 σ9 else f_X1_layOut_96 a x1 1 σ9)))))))))))
set_option maxHeartbeats 4000000 in
theorem c_X1_layOut (l : Launch) (D : va_G) (G : Geo)  (a : Nat) (hpa : is_X1 a) (x1 : Int32) (σ : St) (o : St) (hf : f_X1_layOut a x1 σ = some o) : CV l D (tyG G) (wC G) yX1_layOut cX1_layOut 4 none ({ frames := 0, cells := 0, slots := 0, locals := 0 }) [.ref (G.1 a), .int x1] σ o := by
  refine met_of (Qc := fun A => QV D (tyG G) (wC G) A o) pn_X1 (Nat.le_of_ble_eq_true rfl) (fun p e s m below meth c A ls C hr h hl => ?_)
  have C : Cx p s m _ meth c cX1_layOut 4 RX1 D (tyG G) := C
  have hl : lv_has ls 4 [(0, .ref (G.1 a)), (1, .int x1)] := hl
  unfold f_X1_layOut at hf
  have hx := C.1
  have hb := C.2.1
  refine lv_aload_n hx hb dX1_layOut_0 rfl (lv_at hl 0 rfl) ?_
  refine gf_X1_9 C h hpa dX1_layOut_1 ?_
  refine gf_X1_73 C h (by decide) dX1_layOut_4 ?_
  refine lv_iload_n hx hb dX1_layOut_7 rfl (lv_at hl 1 rfl) ?_
  refine rd_el hf (fun v1 hinv1 hv1 hf => ?_)
  refine x_iald C h 8 1 (ltA_X5_wake (by decide)) ((aC_X5_wake G (by decide)) _ _) rfl hinv1 hv1 dX1_layOut_8 ?_
  refine lv_aload_n hx hb dX1_layOut_9 rfl (lv_at hl 0 rfl) ?_
  refine gf_X1_15 C h hpa dX1_layOut_10 ?_
  refine lv_iload_n hx hb dX1_layOut_13 rfl (lv_at hl 1 rfl) ?_
  refine rd_el hf (fun v2 hinv2 hv2 hf => ?_)
  refine x_iald C h (a + 1) 1 (ltA_X1_shifted hpa) ((aC_X1_shifted G hpa) _ _) rfl hinv2 hv2 dX1_layOut_14 ?_
  refine lv_isub hx hb dX1_layOut_15 ?_
  refine nm_el hf (fun z3 ez3 hf => ?_)
  refine x_topi ez3 ?_
  refine lv_istore_n (lv' := [(2, .int z3), (0, .ref (G.1 a)), (1, .int x1)]) hx hb dX1_layOut_16 rfl hl (by decide) rfl (fun ls hl => ?_)
  refine lv_aload_n hx hb dX1_layOut_17 rfl (lv_at hl 1 rfl) ?_
  refine gf_X1_29 C h hpa dX1_layOut_18 ?_
  refine lv_iload_n hx hb dX1_layOut_21 rfl (lv_at hl 2 rfl) ?_
  refine lv_iload_n hx hb dX1_layOut_22 rfl (lv_at hl 0 rfl) ?_
  refine lv_aload_n hx hb dX1_layOut_23 rfl (lv_at hl 1 rfl) ?_
  refine gf_X1_9 C h hpa dX1_layOut_24 ?_
  refine gf_X1_76 C h (by decide) dX1_layOut_27 ?_
  refine lv_iload_n hx hb dX1_layOut_30 rfl (lv_at hl 2 rfl) ?_
  refine rd_el hf (fun v4 hinv4 hv4 hf => ?_)
  refine x_iald C h 9 1 (ltA_X5_span (by decide)) ((aC_X5_span G (by decide)) _ _) rfl hinv4 hv4 dX1_layOut_31 ?_
  refine lv_isub hx hb dX1_layOut_32 ?_
  refine ckb_el hf (fun hin5 hf => ?_)
  refine nm_el hf (fun σ6 hσ6 hf => ?_)
  refine x_iast C h (a + 2) 1 (ltA_X1_first hpa) (fun f => (aC_X1_first G hpa) f _) rfl hin5 dX1_layOut_33 hσ6 (fun H locs h => ?_)
  refine lv_aload_n hx hb dX1_layOut_34 rfl (lv_at hl 1 rfl) ?_
  refine gf_X1_32 C h hpa dX1_layOut_35 ?_
  refine lv_iload_n hx hb dX1_layOut_38 rfl (lv_at hl 2 rfl) ?_
  refine lv_iload_n hx hb dX1_layOut_39 rfl (lv_at hl 0 rfl) ?_
  refine lv_aload_n hx hb dX1_layOut_40 rfl (lv_at hl 1 rfl) ?_
  refine gf_X1_9 C h hpa dX1_layOut_41 ?_
  refine gf_X1_76 C h (by decide) dX1_layOut_44 ?_
  refine lv_iload_n hx hb dX1_layOut_47 rfl (lv_at hl 2 rfl) ?_
  refine rd_el hf (fun v7 hinv7 hv7 hf => ?_)
  refine x_iald C h 9 1 (ltA_X5_span (by decide)) ((aC_X5_span G (by decide)) _ _) rfl hinv7 hv7 dX1_layOut_48 ?_
  refine lv_iadd hx hb dX1_layOut_49 ?_
  refine ckb_el hf (fun hin8 hf => ?_)
  refine nm_el hf (fun σ9 hσ9 hf => ?_)
  refine x_iast C h (a + 3) 1 (ltA_X1_last hpa) (fun f => (aC_X1_last G hpa) f _) rfl hin8 dX1_layOut_50 hσ9 (fun H locs h => ?_)
  refine lv_aload_n hx hb dX1_layOut_51 rfl (lv_at hl 1 rfl) ?_
  refine gf_X1_19 C h hpa dX1_layOut_52 ?_
  refine lv_iconst (v := (-1)) hx hb dX1_layOut_55 (by decide) ?_
  refine lv_icmp_eq (tgt := 95) hx hb dX1_layOut_56 (by decide) (fun c10 => ?_) (fun c10 => ?_)
  · have hf := ifT c10 hf
    exact t_X1_layOut_95 C hr a hpa x1 σ9 _ _ _ h (lv_sub hl [1, 2] rfl) hf
  · have hf := ifF c10 hf
    refine lv_aload_n hx hb dX1_layOut_59 rfl (lv_at hl 1 rfl) ?_
    refine gf_X1_9 C h hpa dX1_layOut_60 ?_
    refine gf_X1_66 C h (by decide) dX1_layOut_63 ?_
    refine lv_iload_n hx hb dX1_layOut_66 rfl (lv_at hl 2 rfl) ?_
    refine rd_el hf (fun v11 hinv11 hv11 hf => ?_)
    refine x_iald C h 7 1 (ltA_X5_home (by decide)) ((aC_X5_home G (by decide)) _ _) rfl hinv11 hv11 dX1_layOut_67 ?_
    refine lv_aload_n hx hb dX1_layOut_68 rfl (lv_at hl 1 rfl) ?_
    refine gf_X1_19 C h hpa dX1_layOut_69 ?_
    refine lv_icmp_eq (tgt := 95) hx hb dX1_layOut_72 (by decide) (fun c12 => ?_) (fun c12 => ?_)
    · have hf := ifT c12 hf
      exact t_X1_layOut_95 C hr a hpa x1 σ9 _ _ _ h (lv_sub hl [1, 2] rfl) hf
    · have hf := ifF c12 hf
      refine lv_aload_n hx hb dX1_layOut_75 rfl (lv_at hl 1 rfl) ?_
      refine gf_X1_9 C h hpa dX1_layOut_76 ?_
      refine gf_X1_79 C h (by decide) dX1_layOut_79 ?_
      refine lv_iload_n hx hb dX1_layOut_82 rfl (lv_at hl 2 rfl) ?_
      refine rd_el hf (fun v13 hinv13 hv13 hf => ?_)
      refine x_iald C h 10 1 (ltA_X5_light (by decide)) ((aC_X5_light G (by decide)) _ _) rfl hinv13 hv13 dX1_layOut_83 ?_
      refine lv_aload_n hx hb dX1_layOut_84 rfl (lv_at hl 1 rfl) ?_
      refine gf_X1_26 C h hpa dX1_layOut_85 ?_
      refine lv_icmp_ge (tgt := 95) hx hb dX1_layOut_88 (by decide) (fun c14 => ?_) (fun c14 => ?_)
      · have hf := ifT c14 hf
        exact t_X1_layOut_95 C hr a hpa x1 σ9 _ _ _ h (lv_sub hl [1, 2] rfl) hf
      · have hf := ifF c14 hf
        refine lv_iconst (v := 1) hx hb dX1_layOut_91 (by decide) ?_
        refine lv_goto (tgt := 96) hx hb dX1_layOut_92 (by decide) ?_
        exact t_X1_layOut_96 C hr a hpa x1 1 σ9 _ _ _ h (lv_sub hl [1, 2] rfl) hf
def b_X1_makeNoise_18 (a : Nat)  (rec18 : Int32 × St → Option (St)) (x4 : Int32) (σ : St) : Option (St) := if (σ.1 3 4) ≤ x4 then some σ else bv (f_X1_layOut a x4 σ) (fun σ5 => rec18 (x4 + 1, σ5))
def f_X1_makeNoise_18 (a : Nat)  (x4 : Int32) (σ : St) : Option (St) := lp (fun (rec18 : Int32 × St → Option (St)) (q : Int32 × St) => b_X1_makeNoise_18 a  rec18 (q.1) (q.2)) 100000 (x4, σ)
set_option maxHeartbeats 4000000 in
theorem t_X1_makeNoise_18 (C : Cx p s m args meth c cX1_makeNoise 5 RX1 D (tyG G)) (hr : meth.sig.returnType = none) {o : St} (a : Nat) (hpa : is_X1 a)  : ∀ (x4 : Int32) (σ : St) (H : Heap) (locs : List Loc) (ls : Array Slot), Hs D A s.heap (wC G σ) H locs → lv_has ls 5 [(0, .ref (G.1 a)), (4, .int x4)] → f_X1_makeNoise_18 a  x4 σ = some o → W p l e ({ frames := 1, cells := 0, slots := 0, locals := 23 } : Room) s m args below meth c H locs 0 0 (MQ below (QV D (tyG G) (wC G) A o) args s 0 0 A) (F0 m 18 ls []) := by
  intro x4 σ H locs ls h hl hf
  refine lp_el (P := fun q : Int32 × St => ∀ (H : Heap) (locs : List Loc) (ls : Array Slot), Hs D A s.heap (wC G (q.2)) H locs → lv_has ls 5 [(0, .ref (G.1 a)), (4, .int (q.1))] → W p l e ({ frames := 1, cells := 0, slots := 0, locals := 23 } : Room) s m args below meth c H locs 0 0 (MQ below (QV D (tyG G) (wC G) A o) args s 0 0 A) (F0 m 18 ls [])) (fun rec18 q IH18 hf => ?_) _ (x4, σ) hf H locs ls h hl
  obtain ⟨x4, σ⟩ := q
  intro H locs ls h hl
  have hl : lv_has ls 5 [(0, .ref (G.1 a)), (4, .int x4)] := hl
  have h : Hs D A s.heap (wC G σ) H locs := h
  have hf : b_X1_makeNoise_18 a  rec18 x4 σ = some o := hf
  unfold b_X1_makeNoise_18 at hf
  have hx := C.1
  have hb := C.2.1
  refine lv_iload hx hb dX1_makeNoise_18 (lv_at hl 1 rfl) ?_
  refine lv_aload_n hx hb dX1_makeNoise_20 rfl (lv_at hl 0 rfl) ?_
  refine gf_X1_9 C h hpa dX1_makeNoise_21 ?_
  refine gf_X1_57 C h (by decide) dX1_makeNoise_24 ?_
  refine lv_icmp_ge (tgt := 42) hx hb dX1_makeNoise_27 (by decide) (fun c4 => ?_) (fun c4 => ?_)
  · have hf := ifT c4 hf
    exact x_vret C hr h hf dX1_makeNoise_42
  · have hf := ifF c4 hf
    refine lv_aload_n hx hb dX1_makeNoise_30 rfl (lv_at hl 0 rfl) ?_
    refine lv_iload hx hb dX1_makeNoise_31 (lv_at hl 1 rfl) ?_
    refine bv_el hf (fun σ5 ho6 hf => ?_)
    refine x_gov h (x_runV (As := [.int x4]) (rest := []) C h (c_X1_layOut l D G a hpa x4 σ σ5 ho6 _) lk_X1_62 rfl ⟨rfl, rfl, Nat.le_of_ble_eq_true rfl, Nat.le_of_ble_eq_true rfl⟩ (x_rcv C h a (lt_X1 hpa) ((oC_X1 G hpa) _ _) rfl) hl.1 rfl (Nat.le_of_ble_eq_true rfl) dX1_makeNoise_33) (fun H locs h => ?_)
    refine lv_iinc (v := x4 + 1) (lv' := [(4, .int (x4 + 1)), (0, .ref (G.1 a))]) hx hb dX1_makeNoise_36 hl (k := 1) rfl rfl (by decide) rfl (fun ls hl => ?_)
    refine lv_goto (tgt := 18) hx hb dX1_makeNoise_39 (by decide) ?_
    exact IH18 (x4 + 1, σ5) hf _ _ _ h (lv_sub hl [1, 0] rfl)
def f_X1_makeNoise (a : Nat) (x1 : Int32) (x2 : Int32) (x3 : Int32) (σ : St) : Option (St) := nm (sI σ a 2 x1) (fun σ1 => nm (sI σ1 a 3 x2) (fun σ2 => nm (sI σ2 a 4 x3) (fun σ3 => f_X1_makeNoise_18 a 0 σ3)))
set_option maxHeartbeats 4000000 in
theorem c_X1_makeNoise (l : Launch) (D : va_G) (G : Geo)  (a : Nat) (hpa : is_X1 a) (x1 : Int32) (x2 : Int32) (x3 : Int32) (σ : St) (o : St) (hf : f_X1_makeNoise a x1 x2 x3 σ = some o) : CV l D (tyG G) (wC G) yX1_makeNoise cX1_makeNoise 5 none ({ frames := 1, cells := 0, slots := 0, locals := 23 }) [.ref (G.1 a), .int x1, .int x2, .int x3] σ o := by
  refine met_of (Qc := fun A => QV D (tyG G) (wC G) A o) pn_X1 (Nat.le_of_ble_eq_true rfl) (fun p e s m below meth c A ls C hr h hl => ?_)
  have C : Cx p s m _ meth c cX1_makeNoise 5 RX1 D (tyG G) := C
  have hl : lv_has ls 5 [(0, .ref (G.1 a)), (1, .int x1), (2, .int x2), (3, .int x3)] := hl
  unfold f_X1_makeNoise at hf
  have hx := C.1
  have hb := C.2.1
  refine lv_aload_n hx hb dX1_makeNoise_0 rfl (lv_at hl 0 rfl) ?_
  refine lv_iload_n hx hb dX1_makeNoise_1 rfl (lv_at hl 1 rfl) ?_
  refine nm_el hf (fun σ1 hσ1 hf => ?_)
  refine pf_X1_19 C h hpa dX1_makeNoise_2 hσ1 (fun H locs h => ?_)
  refine lv_aload_n hx hb dX1_makeNoise_5 rfl (lv_at hl 0 rfl) ?_
  refine lv_iload_n hx hb dX1_makeNoise_6 rfl (lv_at hl 2 rfl) ?_
  refine nm_el hf (fun σ2 hσ2 hf => ?_)
  refine pf_X1_23 C h hpa dX1_makeNoise_7 hσ2 (fun H locs h => ?_)
  refine lv_aload_n hx hb dX1_makeNoise_10 rfl (lv_at hl 0 rfl) ?_
  refine lv_iload_n hx hb dX1_makeNoise_11 rfl (lv_at hl 3 rfl) ?_
  refine nm_el hf (fun σ3 hσ3 hf => ?_)
  refine pf_X1_26 C h hpa dX1_makeNoise_12 hσ3 (fun H locs h => ?_)
  refine lv_iconst (v := 0) hx hb dX1_makeNoise_15 (by decide) ?_
  refine lv_istore (lv' := [(4, .int 0), (0, .ref (G.1 a)), (1, .int x1), (2, .int x2), (3, .int x3)]) hx hb dX1_makeNoise_16 hl (by decide) rfl (fun ls hl => ?_)
  exact t_X1_makeNoise_18 C hr a hpa 0 σ3 _ _ _ h (lv_sub hl [1, 0] rfl) hf
def f_X1_beginAnew (a : Nat)  (σ : St) : Option (St) := bv (f_J7_fill_53178 (a + 1) 8 0 σ) (fun σ1 => nm (sI σ1 a 5 0) (fun σ3 => bv (f_X1_makeNoise a ((-1)) ((-1)) ((-1)) σ3) (fun σ4 => some σ4)))
set_option maxHeartbeats 4000000 in
theorem c_X1_beginAnew (l : Launch) (D : va_G) (G : Geo)  (a : Nat) (hpa : is_X1 a)  (σ : St) (o : St) (hf : f_X1_beginAnew a  σ = some o) : CV l D (tyG G) (wC G) yX1_beginAnew cX1_beginAnew 1 none ({ frames := 2, cells := 0, slots := 0, locals := 47 }) [.ref (G.1 a)] σ o := by
  refine met_of (Qc := fun A => QV D (tyG G) (wC G) A o) pn_X1 (Nat.le_of_ble_eq_true rfl) (fun p e s m below meth c A ls C hr h hl => ?_)
  have C : Cx p s m _ meth c cX1_beginAnew 1 RX1 D (tyG G) := C
  have hl : lv_has ls 1 [(0, .ref (G.1 a))] := hl
  unfold f_X1_beginAnew at hf
  have hx := C.1
  have hb := C.2.1
  refine lv_aload_n hx hb dX1_beginAnew_0 rfl (lv_at hl 0 rfl) ?_
  refine gf_X1_15 C h hpa dX1_beginAnew_1 ?_
  refine lv_iconst (v := 0) hx hb dX1_beginAnew_4 (by decide) ?_
  refine bv_el hf (fun σ1 ho2 hf => ?_)
  refine x_gov h (x_runS (As := [.ref (G.1 (a + 1)), .int 0]) (rest := []) C h (c_J7_fill_53178 l D G (a + 1) 8 ⟨(ltA_X1_shifted hpa), (aC_X1_shifted G hpa)⟩ 0 σ σ1 ho2 _) lk_X1_38 rfl ⟨rfl, rfl, Nat.le_of_ble_eq_true rfl, Nat.le_of_ble_eq_true rfl⟩ hl.1 rfl (Nat.le_of_ble_eq_true rfl) dX1_beginAnew_5) (fun H locs h => ?_)
  refine lv_aload_n hx hb dX1_beginAnew_8 rfl (lv_at hl 0 rfl) ?_
  refine lv_iconst (v := 0) hx hb dX1_beginAnew_9 (by decide) ?_
  refine nm_el hf (fun σ3 hσ3 hf => ?_)
  refine pf_X1_44 C h hpa dX1_beginAnew_10 hσ3 (fun H locs h => ?_)
  refine lv_aload_n hx hb dX1_beginAnew_13 rfl (lv_at hl 0 rfl) ?_
  refine lv_iconst (v := (-1)) hx hb dX1_beginAnew_14 (by decide) ?_
  refine lv_iconst (v := (-1)) hx hb dX1_beginAnew_15 (by decide) ?_
  refine lv_iconst (v := (-1)) hx hb dX1_beginAnew_16 (by decide) ?_
  refine bv_el hf (fun σ4 ho5 hf => ?_)
  refine x_gov h (x_runV (As := [.int ((-1)), .int ((-1)), .int ((-1))]) (rest := []) C h (c_X1_makeNoise l D G a hpa ((-1)) ((-1)) ((-1)) σ3 σ4 ho5 _) lk_X1_47 rfl ⟨rfl, rfl, Nat.le_of_ble_eq_true rfl, Nat.le_of_ble_eq_true rfl⟩ (x_rcv C h a (lt_X1 hpa) ((oC_X1 G hpa) _ _) rfl) hl.1 rfl (Nat.le_of_ble_eq_true rfl) dX1_beginAnew_17) (fun H locs h => ?_)
  exact x_vret C hr h hf dX1_beginAnew_20
def f_X1_copyFrom (a : Nat) (b : Nat)  (σ : St) : Option (St) := ck (decide ((¬ (0 : Int32) < 0) ∧ (¬ (0 : Int32) < 0) ∧ (¬ (8 : Int32) < 0) ∧ (0 : Int32).toNatClampNeg + (8 : Int32).toNatClampNeg ≤ 8 ∧ (0 : Int32).toNatClampNeg + (8 : Int32).toNatClampNeg ≤ 8)) (nm (sR σ (a + 1) (va_cpy (σ.1 (b + 1)) (σ.1 (a + 1)) (0 : Int32).toNatClampNeg (0 : Int32).toNatClampNeg (8 : Int32).toNatClampNeg)) (fun σ2 => nm (sI σ2 a 5 (σ2.1 b 5)) (fun σ3 => bv (f_X1_makeNoise a (σ3.1 b 2) (σ3.1 b 3) (σ3.1 b 4) σ3) (fun σ4 => some σ4))))
set_option maxHeartbeats 4000000 in
theorem c_X1_copyFrom (l : Launch) (D : va_G) (G : Geo)  (a : Nat) (hpa : is_X1 a) (b : Nat) (hpb : is_X1 b)  (σ : St) (o : St) (hf : f_X1_copyFrom a b  σ = some o) : CV l D (tyG G) (wC G) yX1_copyFrom cX1_copyFrom 2 none ({ frames := 2, cells := 0, slots := 0, locals := 47 }) [.ref (G.1 a), .ref (G.1 b)] σ o := by
  refine met_of (Qc := fun A => QV D (tyG G) (wC G) A o) pn_X1 (Nat.le_of_ble_eq_true rfl) (fun p e s m below meth c A ls C hr h hl => ?_)
  have C : Cx p s m _ meth c cX1_copyFrom 2 RX1 D (tyG G) := C
  have hl : lv_has ls 2 [(0, .ref (G.1 a)), (1, .ref (G.1 b))] := hl
  unfold f_X1_copyFrom at hf
  have hx := C.1
  have hb := C.2.1
  refine lv_aload_n hx hb dX1_copyFrom_0 rfl (lv_at hl 1 rfl) ?_
  refine gf_X1_15 C h hpb dX1_copyFrom_1 ?_
  refine lv_iconst (v := 0) hx hb dX1_copyFrom_4 (by decide) ?_
  refine lv_aload_n hx hb dX1_copyFrom_5 rfl (lv_at hl 0 rfl) ?_
  refine gf_X1_15 C h hpa dX1_copyFrom_6 ?_
  refine lv_iconst (v := 0) hx hb dX1_copyFrom_9 (by decide) ?_
  refine lv_bipush (v := 8) hx hb dX1_copyFrom_10 (by decide) ?_
  refine ck_el hf (fun hc1 hf => ?_)
  refine nm_el hf (fun σ2 hσ2 hf => ?_)
  refine x_copy C h hl.1 (b + 1) (a + 1) 1 (ltA_X1_shifted hpb) (ltA_X1_shifted hpa) ((aC_X1_shifted G hpb) _ _) (fun f => (aC_X1_shifted G hpa) f _) rfl q682 q284 q285 q286 (of_decide_eq_true hc1) (Nat.le_of_ble_eq_true rfl) (Nat.le_of_ble_eq_true rfl) dX1_copyFrom_12 hσ2 (fun H locs h => ?_)
  refine lv_aload_n hx hb dX1_copyFrom_15 rfl (lv_at hl 0 rfl) ?_
  refine lv_aload_n hx hb dX1_copyFrom_16 rfl (lv_at hl 1 rfl) ?_
  refine gf_X1_44 C h hpb dX1_copyFrom_17 ?_
  refine nm_el hf (fun σ3 hσ3 hf => ?_)
  refine pf_X1_44 C h hpa dX1_copyFrom_20 hσ3 (fun H locs h => ?_)
  refine lv_aload_n hx hb dX1_copyFrom_23 rfl (lv_at hl 0 rfl) ?_
  refine lv_aload_n hx hb dX1_copyFrom_24 rfl (lv_at hl 1 rfl) ?_
  refine gf_X1_19 C h hpb dX1_copyFrom_25 ?_
  refine lv_aload_n hx hb dX1_copyFrom_28 rfl (lv_at hl 1 rfl) ?_
  refine gf_X1_23 C h hpb dX1_copyFrom_29 ?_
  refine lv_aload_n hx hb dX1_copyFrom_32 rfl (lv_at hl 1 rfl) ?_
  refine gf_X1_26 C h hpb dX1_copyFrom_33 ?_
  refine bv_el hf (fun σ4 ho5 hf => ?_)
  refine x_gov h (x_runV (As := [.int (σ3.1 b 2), .int (σ3.1 b 3), .int (σ3.1 b 4)]) (rest := []) C h (c_X1_makeNoise l D G a hpa (σ3.1 b 2) (σ3.1 b 3) (σ3.1 b 4) σ3 σ4 ho5 _) lk_X1_47 rfl ⟨rfl, rfl, Nat.le_of_ble_eq_true rfl, Nat.le_of_ble_eq_true rfl⟩ (x_rcv C h a (lt_X1 hpa) ((oC_X1 G hpa) _ _) rfl) hl.1 rfl (Nat.le_of_ble_eq_true rfl) dX1_copyFrom_36) (fun H locs h => ?_)
  exact x_vret C hr h hf dX1_copyFrom_39
def f_X1_isNoisy (a : Nat)  (σ : St) : Option (Int32 × St) := if (σ.1 a 2) = ((-1)) then some (0, σ) else some (1, σ)
set_option maxHeartbeats 4000000 in
theorem c_X1_isNoisy (l : Launch) (D : va_G) (G : Geo)  (a : Nat) (hpa : is_X1 a)  (σ : St) (o : Int32 × St) (hf : f_X1_isNoisy a  σ = some o) : CI l D (tyG G) (wC G) yX1_isNoisy cX1_isNoisy 1 ((some .boolean)) ({ frames := 0, cells := 0, slots := 0, locals := 0 }) [.ref (G.1 a)] σ o := by
  refine met_of (Qc := fun A => QI D (tyG G) (wC G) A o) pn_X1 (Nat.le_of_ble_eq_true rfl) (fun p e s m below meth c A ls C hr h hl => ?_)
  have C : Cx p s m _ meth c cX1_isNoisy 1 RX1 D (tyG G) := C
  have hl : lv_has ls 1 [(0, .ref (G.1 a))] := hl
  unfold f_X1_isNoisy at hf
  have hx := C.1
  have hb := C.2.1
  refine lv_aload_n hx hb dX1_isNoisy_0 rfl (lv_at hl 0 rfl) ?_
  refine gf_X1_19 C h hpa dX1_isNoisy_1 ?_
  refine lv_iconst (v := (-1)) hx hb dX1_isNoisy_4 (by decide) ?_
  refine lv_icmp_eq (tgt := 12) hx hb dX1_isNoisy_5 (by decide) (fun c1 => ?_) (fun c1 => ?_)
  · have hf := ifT c1 hf
    refine lv_iconst (v := 0) hx hb dX1_isNoisy_12 (by decide) ?_
    exact x_zret C hr h rfl hf dX1_isNoisy_13
  · have hf := ifF c1 hf
    refine lv_iconst (v := 1) hx hb dX1_isNoisy_8 (by decide) ?_
    refine lv_goto (tgt := 13) hx hb dX1_isNoisy_9 (by decide) ?_
    exact x_zret C hr h rfl hf dX1_isNoisy_13
def f_X1_shiftOne (a : Nat) (x1 : Int32) (x2 : Int32) (σ : St) : Option (St) := ck (inb x1 8) (nm (sI σ (a + 1) (x1 : Int32).toNatClampNeg x2) (fun σ2 => bv (f_X1_layOut a x1 σ2) (fun σ3 => some σ3)))
set_option maxHeartbeats 4000000 in
theorem c_X1_shiftOne (l : Launch) (D : va_G) (G : Geo)  (a : Nat) (hpa : is_X1 a) (x1 : Int32) (x2 : Int32) (σ : St) (o : St) (hf : f_X1_shiftOne a x1 x2 σ = some o) : CV l D (tyG G) (wC G) yX1_shiftOne cX1_shiftOne 3 none ({ frames := 1, cells := 0, slots := 0, locals := 23 }) [.ref (G.1 a), .int x1, .int x2] σ o := by
  refine met_of (Qc := fun A => QV D (tyG G) (wC G) A o) pn_X1 (Nat.le_of_ble_eq_true rfl) (fun p e s m below meth c A ls C hr h hl => ?_)
  have C : Cx p s m _ meth c cX1_shiftOne 3 RX1 D (tyG G) := C
  have hl : lv_has ls 3 [(0, .ref (G.1 a)), (1, .int x1), (2, .int x2)] := hl
  unfold f_X1_shiftOne at hf
  have hx := C.1
  have hb := C.2.1
  refine lv_aload_n hx hb dX1_shiftOne_0 rfl (lv_at hl 0 rfl) ?_
  refine gf_X1_15 C h hpa dX1_shiftOne_1 ?_
  refine lv_iload_n hx hb dX1_shiftOne_4 rfl (lv_at hl 1 rfl) ?_
  refine lv_iload_n hx hb dX1_shiftOne_5 rfl (lv_at hl 2 rfl) ?_
  refine ckb_el hf (fun hin1 hf => ?_)
  refine nm_el hf (fun σ2 hσ2 hf => ?_)
  refine x_iast C h (a + 1) 1 (ltA_X1_shifted hpa) (fun f => (aC_X1_shifted G hpa) f _) rfl hin1 dX1_shiftOne_6 hσ2 (fun H locs h => ?_)
  refine lv_aload_n hx hb dX1_shiftOne_7 rfl (lv_at hl 0 rfl) ?_
  refine lv_iload_n hx hb dX1_shiftOne_8 rfl (lv_at hl 1 rfl) ?_
  refine bv_el hf (fun σ3 ho4 hf => ?_)
  refine x_gov h (x_runV (As := [.int x1]) (rest := []) C h (c_X1_layOut l D G a hpa x1 σ2 σ3 ho4 _) lk_X1_62 rfl ⟨rfl, rfl, Nat.le_of_ble_eq_true rfl, Nat.le_of_ble_eq_true rfl⟩ (x_rcv C h a (lt_X1 hpa) ((oC_X1 G hpa) _ _) rfl) hl.1 rfl (Nat.le_of_ble_eq_true rfl) dX1_shiftOne_9) (fun H locs h => ?_)
  exact x_vret C hr h hf dX1_shiftOne_12
def f_X1_shiftHouse_51 (a : Nat) (rec5 : Int32 × Int32 × Int32 × Int32 × St → Option (Int32 × St)) (x1 : Int32) (x2 : Int32) (x3 : Int32) (x4 : Int32) (σ : St) : Option (Int32 × St) := rec5 (x1, x2, x3, x4 + 1, σ)
set_option maxHeartbeats 4000000 in
theorem t_X1_shiftHouse_51 (C : Cx p s m args meth c cX1_shiftHouse 5 RX1 D (tyG G)) (hr : meth.sig.returnType = (some .boolean)) {o : Int32 × St} (a : Nat) (hpa : is_X1 a) {rec5 : Int32 × Int32 × Int32 × Int32 × St → Option (Int32 × St)} (IH5 : ∀ q, rec5 q = some o → ∀ (H : Heap) (locs : List Loc) (ls : Array Slot), Hs D A s.heap (wC G (q.2.2.2.2)) H locs → lv_has ls 5 [(0, .ref (G.1 a)), (1, .int (q.1)), (2, .int (q.2.1)), (3, .int (q.2.2.1)), (4, .int (q.2.2.2.1))] → W p l e ({ frames := 2, cells := 0, slots := 0, locals := 45 } : Room) s m args below meth c H locs 0 0 (MQ below (QI D (tyG G) (wC G) A o) args s 0 0 A) (F0 m 5 ls [])) : ∀ (x1 : Int32) (x2 : Int32) (x3 : Int32) (x4 : Int32) (σ : St) (H : Heap) (locs : List Loc) (ls : Array Slot), Hs D A s.heap (wC G σ) H locs → lv_has ls 5 [(0, .ref (G.1 a)), (1, .int x1), (2, .int x2), (3, .int x3), (4, .int x4)] → f_X1_shiftHouse_51 a rec5 x1 x2 x3 x4 σ = some o → W p l e ({ frames := 2, cells := 0, slots := 0, locals := 45 } : Room) s m args below meth c H locs 0 0 (MQ below (QI D (tyG G) (wC G) A o) args s 0 0 A) (F0 m 51 ls []) := by
  intro x1 x2 x3 x4 σ H locs ls h hl hf
  unfold f_X1_shiftHouse_51 at hf
  have hx := C.1
  have hb := C.2.1
  refine lv_iinc (v := x4 + 1) (lv' := [(4, .int (x4 + 1)), (0, .ref (G.1 a)), (1, .int x1), (2, .int x2), (3, .int x3)]) hx hb dX1_shiftHouse_51 hl (k := 4) rfl rfl (by decide) rfl (fun ls hl => ?_)
  refine lv_goto (tgt := 5) hx hb dX1_shiftHouse_54 (by decide) ?_
  exact IH5 (x1, x2, x3, x4 + 1, σ) hf _ _ _ h (lv_sub hl [1, 2, 3, 4, 0] rfl)
def b_X1_shiftHouse_5 (a : Nat)  (rec5 : Int32 × Int32 × Int32 × Int32 × St → Option (Int32 × St)) (x1 : Int32) (x2 : Int32) (x3 : Int32) (x4 : Int32) (σ : St) : Option (Int32 × St) := if (σ.1 3 4) ≤ x4 then ck (bz x3) (some (x3, σ)) else rd (σ.1 7) 8 x4 (fun v2 => if v2 = x1 then rd (σ.1 (a + 1)) 8 x4 (fun v4 => if v4 = x2 then f_X1_shiftHouse_51 a rec5 x1 x2 x3 x4 σ else bv (f_X1_shiftOne a x4 x2 σ) (fun σ6 => f_X1_shiftHouse_51 a rec5 x1 x2 1 x4 σ6)) else f_X1_shiftHouse_51 a rec5 x1 x2 x3 x4 σ)
def f_X1_shiftHouse_5 (a : Nat)  (x1 : Int32) (x2 : Int32) (x3 : Int32) (x4 : Int32) (σ : St) : Option (Int32 × St) := lp (fun (rec5 : Int32 × Int32 × Int32 × Int32 × St → Option (Int32 × St)) (q : Int32 × Int32 × Int32 × Int32 × St) => b_X1_shiftHouse_5 a  rec5 (q.1) (q.2.1) (q.2.2.1) (q.2.2.2.1) (q.2.2.2.2)) 100000 (x1, x2, x3, x4, σ)
set_option maxHeartbeats 4000000 in
theorem t_X1_shiftHouse_5 (C : Cx p s m args meth c cX1_shiftHouse 5 RX1 D (tyG G)) (hr : meth.sig.returnType = (some .boolean)) {o : Int32 × St} (a : Nat) (hpa : is_X1 a)  : ∀ (x1 : Int32) (x2 : Int32) (x3 : Int32) (x4 : Int32) (σ : St) (H : Heap) (locs : List Loc) (ls : Array Slot), Hs D A s.heap (wC G σ) H locs → lv_has ls 5 [(0, .ref (G.1 a)), (1, .int x1), (2, .int x2), (3, .int x3), (4, .int x4)] → f_X1_shiftHouse_5 a  x1 x2 x3 x4 σ = some o → W p l e ({ frames := 2, cells := 0, slots := 0, locals := 45 } : Room) s m args below meth c H locs 0 0 (MQ below (QI D (tyG G) (wC G) A o) args s 0 0 A) (F0 m 5 ls []) := by
  intro x1 x2 x3 x4 σ H locs ls h hl hf
  refine lp_el (P := fun q : Int32 × Int32 × Int32 × Int32 × St => ∀ (H : Heap) (locs : List Loc) (ls : Array Slot), Hs D A s.heap (wC G (q.2.2.2.2)) H locs → lv_has ls 5 [(0, .ref (G.1 a)), (1, .int (q.1)), (2, .int (q.2.1)), (3, .int (q.2.2.1)), (4, .int (q.2.2.2.1))] → W p l e ({ frames := 2, cells := 0, slots := 0, locals := 45 } : Room) s m args below meth c H locs 0 0 (MQ below (QI D (tyG G) (wC G) A o) args s 0 0 A) (F0 m 5 ls [])) (fun rec5 q IH5 hf => ?_) _ (x1, x2, x3, x4, σ) hf H locs ls h hl
  obtain ⟨x1, x2, x3, x4, σ⟩ := q
  intro H locs ls h hl
  have hl : lv_has ls 5 [(0, .ref (G.1 a)), (1, .int x1), (2, .int x2), (3, .int x3), (4, .int x4)] := hl
  have h : Hs D A s.heap (wC G σ) H locs := h
  have hf : b_X1_shiftHouse_5 a  rec5 x1 x2 x3 x4 σ = some o := hf
  unfold b_X1_shiftHouse_5 at hf
  have hx := C.1
  have hb := C.2.1
  refine lv_iload hx hb dX1_shiftHouse_5 (lv_at hl 4 rfl) ?_
  refine lv_aload_n hx hb dX1_shiftHouse_7 rfl (lv_at hl 0 rfl) ?_
  refine gf_X1_9 C h hpa dX1_shiftHouse_8 ?_
  refine gf_X1_57 C h (by decide) dX1_shiftHouse_11 ?_
  refine lv_icmp_ge (tgt := 57) hx hb dX1_shiftHouse_14 (by decide) (fun c1 => ?_) (fun c1 => ?_)
  · have hf := ifT c1 hf
    refine lv_iload_n hx hb dX1_shiftHouse_57 rfl (lv_at hl 3 rfl) ?_
    refine ck_el hf (fun hz hf => ?_)
    exact x_zret C hr h hz hf dX1_shiftHouse_58
  · have hf := ifF c1 hf
    refine lv_aload_n hx hb dX1_shiftHouse_17 rfl (lv_at hl 0 rfl) ?_
    refine gf_X1_9 C h hpa dX1_shiftHouse_18 ?_
    refine gf_X1_66 C h (by decide) dX1_shiftHouse_21 ?_
    refine lv_iload hx hb dX1_shiftHouse_24 (lv_at hl 4 rfl) ?_
    refine rd_el hf (fun v2 hinv2 hv2 hf => ?_)
    refine x_iald C h 7 1 (ltA_X5_home (by decide)) ((aC_X5_home G (by decide)) _ _) rfl hinv2 hv2 dX1_shiftHouse_26 ?_
    refine lv_iload_n hx hb dX1_shiftHouse_27 rfl (lv_at hl 1 rfl) ?_
    refine lv_icmp_ne (tgt := 51) hx hb dX1_shiftHouse_28 (by decide) (fun c3 => ?_) (fun c3 => ?_)
    · have hf := ifF c3 hf
      exact t_X1_shiftHouse_51 C hr a hpa IH5 x1 x2 x3 x4 σ _ _ _ h (lv_sub hl [0, 1, 2, 3, 4] rfl) hf
    · have hf := ifT c3 hf
      refine lv_aload_n hx hb dX1_shiftHouse_31 rfl (lv_at hl 0 rfl) ?_
      refine gf_X1_15 C h hpa dX1_shiftHouse_32 ?_
      refine lv_iload hx hb dX1_shiftHouse_35 (lv_at hl 4 rfl) ?_
      refine rd_el hf (fun v4 hinv4 hv4 hf => ?_)
      refine x_iald C h (a + 1) 1 (ltA_X1_shifted hpa) ((aC_X1_shifted G hpa) _ _) rfl hinv4 hv4 dX1_shiftHouse_37 ?_
      refine lv_iload_n hx hb dX1_shiftHouse_38 rfl (lv_at hl 2 rfl) ?_
      refine lv_icmp_eq (tgt := 51) hx hb dX1_shiftHouse_39 (by decide) (fun c5 => ?_) (fun c5 => ?_)
      · have hf := ifT c5 hf
        exact t_X1_shiftHouse_51 C hr a hpa IH5 x1 x2 x3 x4 σ _ _ _ h (lv_sub hl [0, 1, 2, 3, 4] rfl) hf
      · have hf := ifF c5 hf
        refine lv_aload_n hx hb dX1_shiftHouse_42 rfl (lv_at hl 0 rfl) ?_
        refine lv_iload hx hb dX1_shiftHouse_43 (lv_at hl 4 rfl) ?_
        refine lv_iload_n hx hb dX1_shiftHouse_45 rfl (lv_at hl 2 rfl) ?_
        refine bv_el hf (fun σ6 ho7 hf => ?_)
        refine x_gov h (x_runV (As := [.int x4, .int x2]) (rest := []) C h (c_X1_shiftOne l D G a hpa x4 x2 σ σ6 ho7 _) lk_X1_69 rfl ⟨rfl, rfl, Nat.le_of_ble_eq_true rfl, Nat.le_of_ble_eq_true rfl⟩ (x_rcv C h a (lt_X1 hpa) ((oC_X1 G hpa) _ _) rfl) hl.1 rfl (Nat.le_of_ble_eq_true rfl) dX1_shiftHouse_46) (fun H locs h => ?_)
        refine lv_iconst (v := 1) hx hb dX1_shiftHouse_49 (by decide) ?_
        refine lv_istore_n (lv' := [(3, .int 1), (0, .ref (G.1 a)), (1, .int x1), (2, .int x2), (4, .int x4)]) hx hb dX1_shiftHouse_50 rfl hl (by decide) rfl (fun ls hl => ?_)
        exact t_X1_shiftHouse_51 C hr a hpa IH5 x1 x2 1 x4 σ6 _ _ _ h (lv_sub hl [1, 2, 3, 0, 4] rfl) hf
def f_X1_shiftHouse (a : Nat) (x1 : Int32) (x2 : Int32) (σ : St) : Option (Int32 × St) := f_X1_shiftHouse_5 a x1 x2 0 0 σ
set_option maxHeartbeats 4000000 in
theorem c_X1_shiftHouse (l : Launch) (D : va_G) (G : Geo)  (a : Nat) (hpa : is_X1 a) (x1 : Int32) (x2 : Int32) (σ : St) (o : Int32 × St) (hf : f_X1_shiftHouse a x1 x2 σ = some o) : CI l D (tyG G) (wC G) yX1_shiftHouse cX1_shiftHouse 5 ((some .boolean)) ({ frames := 2, cells := 0, slots := 0, locals := 45 }) [.ref (G.1 a), .int x1, .int x2] σ o := by
  refine met_of (Qc := fun A => QI D (tyG G) (wC G) A o) pn_X1 (Nat.le_of_ble_eq_true rfl) (fun p e s m below meth c A ls C hr h hl => ?_)
  have C : Cx p s m _ meth c cX1_shiftHouse 5 RX1 D (tyG G) := C
  have hl : lv_has ls 5 [(0, .ref (G.1 a)), (1, .int x1), (2, .int x2)] := hl
  unfold f_X1_shiftHouse at hf
  have hx := C.1
  have hb := C.2.1
  refine lv_iconst (v := 0) hx hb dX1_shiftHouse_0 (by decide) ?_
  refine lv_istore_n (lv' := [(3, .int 0), (0, .ref (G.1 a)), (1, .int x1), (2, .int x2)]) hx hb dX1_shiftHouse_1 rfl hl (by decide) rfl (fun ls hl => ?_)
  refine lv_iconst (v := 0) hx hb dX1_shiftHouse_2 (by decide) ?_
  refine lv_istore (lv' := [(4, .int 0), (3, .int 0), (0, .ref (G.1 a)), (1, .int x1), (2, .int x2)]) hx hb dX1_shiftHouse_3 hl (by decide) rfl (fun ls hl => ?_)
  exact t_X1_shiftHouse_5 C hr a hpa x1 x2 0 0 σ _ _ _ h (lv_sub hl [2, 3, 4, 1, 0] rfl) hf
def f_X1_heard (a : Nat) (x1 : Int32) (x2 : Int32) (σ : St) : Option (Int32 × St) := rd (σ.1 (a + 4)) 8 x1 (fun v1 => if v1 ≤ x2 then rd (σ.1 (a + 4)) 8 x1 (fun v3 => some (v3, σ)) else some (x2, σ))
set_option maxHeartbeats 4000000 in
theorem c_X1_heard (l : Launch) (D : va_G) (G : Geo)  (a : Nat) (hpa : is_X1 a) (x1 : Int32) (x2 : Int32) (σ : St) (o : Int32 × St) (hf : f_X1_heard a x1 x2 σ = some o) : CI l D (tyG G) (wC G) yX1_heard cX1_heard 3 ((some .int)) ({ frames := 0, cells := 0, slots := 0, locals := 0 }) [.ref (G.1 a), .int x1, .int x2] σ o := by
  refine met_of (Qc := fun A => QI D (tyG G) (wC G) A o) pn_X1 (Nat.le_of_ble_eq_true rfl) (fun p e s m below meth c A ls C hr h hl => ?_)
  have C : Cx p s m _ meth c cX1_heard 3 RX1 D (tyG G) := C
  have hl : lv_has ls 3 [(0, .ref (G.1 a)), (1, .int x1), (2, .int x2)] := hl
  unfold f_X1_heard at hf
  have hx := C.1
  have hb := C.2.1
  refine lv_iload_n hx hb dX1_heard_0 rfl (lv_at hl 2 rfl) ?_
  refine lv_aload_n hx hb dX1_heard_1 rfl (lv_at hl 0 rfl) ?_
  refine gf_X1_35 C h hpa dX1_heard_2 ?_
  refine lv_iload_n hx hb dX1_heard_5 rfl (lv_at hl 1 rfl) ?_
  refine rd_el hf (fun v1 hinv1 hv1 hf => ?_)
  refine x_iald C h (a + 4) 1 (ltA_X1_roof hpa) ((aC_X1_roof G hpa) _ _) rfl hinv1 hv1 dX1_heard_6 ?_
  refine lv_icmp_ge (tgt := 14) hx hb dX1_heard_7 (by decide) (fun c2 => ?_) (fun c2 => ?_)
  · have hf := ifT c2 hf
    refine lv_aload_n hx hb dX1_heard_14 rfl (lv_at hl 0 rfl) ?_
    refine gf_X1_35 C h hpa dX1_heard_15 ?_
    refine lv_iload_n hx hb dX1_heard_18 rfl (lv_at hl 1 rfl) ?_
    refine rd_el hf (fun v3 hinv3 hv3 hf => ?_)
    refine x_iald C h (a + 4) 1 (ltA_X1_roof hpa) ((aC_X1_roof G hpa) _ _) rfl hinv3 hv3 dX1_heard_19 ?_
    exact x_iret C hr h hf dX1_heard_20
  · have hf := ifF c2 hf
    refine lv_iload_n hx hb dX1_heard_10 rfl (lv_at hl 2 rfl) ?_
    refine lv_goto (tgt := 20) hx hb dX1_heard_11 (by decide) ?_
    exact x_iret C hr h hf dX1_heard_20
def f_X1_minuteAt (a : Nat) (x1 : Int32) (x2 : Int32) (σ : St) : Option (Int32 × St) := rd (σ.1 (a + 2)) 8 x1 (fun v1 => bd (f_X1_heard a x1 (v1 + x2) σ) (fun r4 σ2 => some (r4, σ2)))
set_option maxHeartbeats 4000000 in
theorem c_X1_minuteAt (l : Launch) (D : va_G) (G : Geo)  (a : Nat) (hpa : is_X1 a) (x1 : Int32) (x2 : Int32) (σ : St) (o : Int32 × St) (hf : f_X1_minuteAt a x1 x2 σ = some o) : CI l D (tyG G) (wC G) yX1_minuteAt cX1_minuteAt 3 ((some .int)) ({ frames := 1, cells := 0, slots := 0, locals := 22 }) [.ref (G.1 a), .int x1, .int x2] σ o := by
  refine met_of (Qc := fun A => QI D (tyG G) (wC G) A o) pn_X1 (Nat.le_of_ble_eq_true rfl) (fun p e s m below meth c A ls C hr h hl => ?_)
  have C : Cx p s m _ meth c cX1_minuteAt 3 RX1 D (tyG G) := C
  have hl : lv_has ls 3 [(0, .ref (G.1 a)), (1, .int x1), (2, .int x2)] := hl
  unfold f_X1_minuteAt at hf
  have hx := C.1
  have hb := C.2.1
  refine lv_aload_n hx hb dX1_minuteAt_0 rfl (lv_at hl 0 rfl) ?_
  refine lv_iload_n hx hb dX1_minuteAt_1 rfl (lv_at hl 1 rfl) ?_
  refine lv_aload_n hx hb dX1_minuteAt_2 rfl (lv_at hl 0 rfl) ?_
  refine gf_X1_29 C h hpa dX1_minuteAt_3 ?_
  refine lv_iload_n hx hb dX1_minuteAt_6 rfl (lv_at hl 1 rfl) ?_
  refine rd_el hf (fun v1 hinv1 hv1 hf => ?_)
  refine x_iald C h (a + 2) 1 (ltA_X1_first hpa) ((aC_X1_first G hpa) _ _) rfl hinv1 hv1 dX1_minuteAt_7 ?_
  refine lv_iload_n hx hb dX1_minuteAt_8 rfl (lv_at hl 2 rfl) ?_
  refine lv_iadd hx hb dX1_minuteAt_9 ?_
  refine bd_el hf (fun r4 σ2 ho3 hf => ?_)
  refine x_goi h (x_runV (As := [.int x1, .int (v1 + x2)]) (rest := []) C h (c_X1_heard l D G a hpa x1 (v1 + x2) σ (r4, σ2) ho3 _) lk_X1_83 rfl ⟨rfl, rfl, Nat.le_of_ble_eq_true rfl, Nat.le_of_ble_eq_true rfl⟩ (x_rcv C h a (lt_X1 hpa) ((oC_X1 G hpa) _ _) rfl) hl.1 rfl (Nat.le_of_ble_eq_true rfl) dX1_minuteAt_10) (fun H locs h => ?_)
  exact x_iret C hr h hf dX1_minuteAt_13
def f_X1_firstMinute (a : Nat) (x1 : Int32) (σ : St) : Option (Int32 × St) := rd (σ.1 (a + 2)) 8 x1 (fun v1 => bd (f_X1_heard a x1 v1 σ) (fun r4 σ2 => some (r4, σ2)))
set_option maxHeartbeats 4000000 in
theorem c_X1_firstMinute (l : Launch) (D : va_G) (G : Geo)  (a : Nat) (hpa : is_X1 a) (x1 : Int32) (σ : St) (o : Int32 × St) (hf : f_X1_firstMinute a x1 σ = some o) : CI l D (tyG G) (wC G) yX1_firstMinute cX1_firstMinute 2 ((some .int)) ({ frames := 1, cells := 0, slots := 0, locals := 22 }) [.ref (G.1 a), .int x1] σ o := by
  refine met_of (Qc := fun A => QI D (tyG G) (wC G) A o) pn_X1 (Nat.le_of_ble_eq_true rfl) (fun p e s m below meth c A ls C hr h hl => ?_)
  have C : Cx p s m _ meth c cX1_firstMinute 2 RX1 D (tyG G) := C
  have hl : lv_has ls 2 [(0, .ref (G.1 a)), (1, .int x1)] := hl
  unfold f_X1_firstMinute at hf
  have hx := C.1
  have hb := C.2.1
  refine lv_aload_n hx hb dX1_firstMinute_0 rfl (lv_at hl 0 rfl) ?_
  refine lv_iload_n hx hb dX1_firstMinute_1 rfl (lv_at hl 1 rfl) ?_
  refine lv_aload_n hx hb dX1_firstMinute_2 rfl (lv_at hl 0 rfl) ?_
  refine gf_X1_29 C h hpa dX1_firstMinute_3 ?_
  refine lv_iload_n hx hb dX1_firstMinute_6 rfl (lv_at hl 1 rfl) ?_
  refine rd_el hf (fun v1 hinv1 hv1 hf => ?_)
  refine x_iald C h (a + 2) 1 (ltA_X1_first hpa) ((aC_X1_first G hpa) _ _) rfl hinv1 hv1 dX1_firstMinute_7 ?_
  refine bd_el hf (fun r4 σ2 ho3 hf => ?_)
  refine x_goi h (x_runV (As := [.int x1, .int v1]) (rest := []) C h (c_X1_heard l D G a hpa x1 v1 σ (r4, σ2) ho3 _) lk_X1_83 rfl ⟨rfl, rfl, Nat.le_of_ble_eq_true rfl, Nat.le_of_ble_eq_true rfl⟩ (x_rcv C h a (lt_X1 hpa) ((oC_X1 G hpa) _ _) rfl) hl.1 rfl (Nat.le_of_ble_eq_true rfl) dX1_firstMinute_8) (fun H locs h => ?_)
  exact x_iret C hr h hf dX1_firstMinute_11
def f_X1_lastMinute (a : Nat) (x1 : Int32) (σ : St) : Option (Int32 × St) := rd (σ.1 (a + 3)) 8 x1 (fun v1 => bd (f_X1_heard a x1 v1 σ) (fun r4 σ2 => some (r4, σ2)))
set_option maxHeartbeats 4000000 in
theorem c_X1_lastMinute (l : Launch) (D : va_G) (G : Geo)  (a : Nat) (hpa : is_X1 a) (x1 : Int32) (σ : St) (o : Int32 × St) (hf : f_X1_lastMinute a x1 σ = some o) : CI l D (tyG G) (wC G) yX1_lastMinute cX1_lastMinute 2 ((some .int)) ({ frames := 1, cells := 0, slots := 0, locals := 22 }) [.ref (G.1 a), .int x1] σ o := by
  refine met_of (Qc := fun A => QI D (tyG G) (wC G) A o) pn_X1 (Nat.le_of_ble_eq_true rfl) (fun p e s m below meth c A ls C hr h hl => ?_)
  have C : Cx p s m _ meth c cX1_lastMinute 2 RX1 D (tyG G) := C
  have hl : lv_has ls 2 [(0, .ref (G.1 a)), (1, .int x1)] := hl
  unfold f_X1_lastMinute at hf
  have hx := C.1
  have hb := C.2.1
  refine lv_aload_n hx hb dX1_lastMinute_0 rfl (lv_at hl 0 rfl) ?_
  refine lv_iload_n hx hb dX1_lastMinute_1 rfl (lv_at hl 1 rfl) ?_
  refine lv_aload_n hx hb dX1_lastMinute_2 rfl (lv_at hl 0 rfl) ?_
  refine gf_X1_32 C h hpa dX1_lastMinute_3 ?_
  refine lv_iload_n hx hb dX1_lastMinute_6 rfl (lv_at hl 1 rfl) ?_
  refine rd_el hf (fun v1 hinv1 hv1 hf => ?_)
  refine x_iald C h (a + 3) 1 (ltA_X1_last hpa) ((aC_X1_last G hpa) _ _) rfl hinv1 hv1 dX1_lastMinute_7 ?_
  refine bd_el hf (fun r4 σ2 ho3 hf => ?_)
  refine x_goi h (x_runV (As := [.int x1, .int v1]) (rest := []) C h (c_X1_heard l D G a hpa x1 v1 σ (r4, σ2) ho3 _) lk_X1_83 rfl ⟨rfl, rfl, Nat.le_of_ble_eq_true rfl, Nat.le_of_ble_eq_true rfl⟩ (x_rcv C h a (lt_X1 hpa) ((oC_X1 G hpa) _ _) rfl) hl.1 rfl (Nat.le_of_ble_eq_true rfl) dX1_lastMinute_8) (fun H locs h => ?_)
  exact x_iret C hr h hf dX1_lastMinute_11
def f_X1_letting_114 (a : Nat)  (x4 : Int32) (x5 : Int32) (σ : St) : Option (Int32 × St) := some ((x5 - x4) + 1, σ)
set_option maxHeartbeats 4000000 in
theorem t_X1_letting_114 (C : Cx p s m args meth c cX1_letting 7 RX1 D (tyG G)) (hr : meth.sig.returnType = (some .int)) {o : Int32 × St} (a : Nat) (hpa : is_X1 a)  : ∀ (x4 : Int32) (x5 : Int32) (σ : St) (H : Heap) (locs : List Loc) (ls : Array Slot), Hs D A s.heap (wC G σ) H locs → lv_has ls 7 [(4, .int x4), (5, .int x5)] → f_X1_letting_114 a  x4 x5 σ = some o → W p l e ({ frames := 0, cells := 0, slots := 0, locals := 0 } : Room) s m args below meth c H locs 0 0 (MQ below (QI D (tyG G) (wC G) A o) args s 0 0 A) (F0 m 114 ls []) := by
  intro x4 x5 σ H locs ls h hl hf
  unfold f_X1_letting_114 at hf
  have hx := C.1
  have hb := C.2.1
  refine lv_iload hx hb dX1_letting_114 (lv_at hl 1 rfl) ?_
  refine lv_iload hx hb dX1_letting_116 (lv_at hl 0 rfl) ?_
  refine lv_isub hx hb dX1_letting_118 ?_
  refine lv_iconst (v := 1) hx hb dX1_letting_119 (by decide) ?_
  refine lv_iadd hx hb dX1_letting_120 ?_
  exact x_iret C hr h hf dX1_letting_121
def f_X1_letting_94 (a : Nat)  (x1 : Int32) (x4 : Int32) (x5 : Int32) (y0 : Int32) (σ : St) : Option (Int32 × St) := rd (σ.1 (a + 4)) 8 x1 (fun v6 => if v6 ≤ y0 then f_X1_letting_114 a x4 x5 σ else if y0 < x5 then if x4 ≤ y0 then some ((y0 - x4) + 1, σ) else some (0, σ) else f_X1_letting_114 a x4 x5 σ)
set_option maxHeartbeats 4000000 in
theorem t_X1_letting_94 (C : Cx p s m args meth c cX1_letting 7 RX1 D (tyG G)) (hr : meth.sig.returnType = (some .int)) {o : Int32 × St} (a : Nat) (hpa : is_X1 a)  : ∀ (x1 : Int32) (x4 : Int32) (x5 : Int32) (y0 : Int32) (σ : St) (H : Heap) (locs : List Loc) (ls : Array Slot), Hs D A s.heap (wC G σ) H locs → lv_has ls 7 [(0, .ref (G.1 a)), (1, .int x1), (4, .int x4), (5, .int x5)] → f_X1_letting_94 a  x1 x4 x5 y0 σ = some o → W p l e ({ frames := 0, cells := 0, slots := 0, locals := 0 } : Room) s m args below meth c H locs 0 0 (MQ below (QI D (tyG G) (wC G) A o) args s 0 0 A) (F0 m 94 ls [.int y0]) := by
  intro x1 x4 x5 y0 σ H locs ls h hl hf
  unfold f_X1_letting_94 at hf
  have hx := C.1
  have hb := C.2.1
  refine lv_istore (lv' := [(6, .int y0), (0, .ref (G.1 a)), (1, .int x1), (4, .int x4), (5, .int x5)]) hx hb dX1_letting_94 hl (by decide) rfl (fun ls hl => ?_)
  refine lv_iload hx hb dX1_letting_96 (lv_at hl 0 rfl) ?_
  refine lv_aload_n hx hb dX1_letting_98 rfl (lv_at hl 1 rfl) ?_
  refine gf_X1_35 C h hpa dX1_letting_99 ?_
  refine lv_iload_n hx hb dX1_letting_102 rfl (lv_at hl 2 rfl) ?_
  refine rd_el hf (fun v6 hinv6 hv6 hf => ?_)
  refine x_iald C h (a + 4) 1 (ltA_X1_roof hpa) ((aC_X1_roof G hpa) _ _) rfl hinv6 hv6 dX1_letting_103 ?_
  refine lv_icmp_ge (tgt := 114) hx hb dX1_letting_104 (by decide) (fun c7 => ?_) (fun c7 => ?_)
  · have hf := ifT c7 hf
    exact t_X1_letting_114 C hr a hpa x4 x5 σ _ _ _ h (lv_sub hl [3, 4] rfl) hf
  · have hf := ifF c7 hf
    refine lv_iload hx hb dX1_letting_107 (lv_at hl 0 rfl) ?_
    refine lv_iload hx hb dX1_letting_109 (lv_at hl 4 rfl) ?_
    refine lv_icmp_lt (tgt := 122) hx hb dX1_letting_111 (by decide) (fun c8 => ?_) (fun c8 => ?_)
    · have hf := ifT c8 hf
      refine lv_iload hx hb dX1_letting_122 (lv_at hl 0 rfl) ?_
      refine lv_iload hx hb dX1_letting_124 (lv_at hl 3 rfl) ?_
      refine lv_icmp_ge (tgt := 133) hx hb dX1_letting_126 (by decide) (fun c9 => ?_) (fun c9 => ?_)
      · have hf := ifT c9 hf
        refine lv_iload hx hb dX1_letting_133 (lv_at hl 0 rfl) ?_
        refine lv_iload hx hb dX1_letting_135 (lv_at hl 3 rfl) ?_
        refine lv_isub hx hb dX1_letting_137 ?_
        refine lv_iconst (v := 1) hx hb dX1_letting_138 (by decide) ?_
        refine lv_iadd hx hb dX1_letting_139 ?_
        exact x_iret C hr h hf dX1_letting_140
      · have hf := ifF c9 hf
        refine lv_iconst (v := 0) hx hb dX1_letting_129 (by decide) ?_
        refine lv_goto (tgt := 140) hx hb dX1_letting_130 (by decide) ?_
        exact x_iret C hr h hf dX1_letting_140
    · have hf := ifF c8 hf
      exact t_X1_letting_114 C hr a hpa x4 x5 σ _ _ _ h (lv_sub hl [3, 4] rfl) hf
def f_X1_letting_35 (a : Nat)  (x1 : Int32) (x4 : Int32) (x5 : Int32) (y0 : Int32) (σ : St) : Option (Int32 × St) := rd (σ.1 (a + 4)) 8 x1 (fun v10 => if v10 < y0 then some (0, σ) else if y0 ≤ x5 then if y0 ≤ x4 then some ((x5 - x4) + 1, σ) else some ((x5 - y0) + 1, σ) else some (0, σ))
set_option maxHeartbeats 4000000 in
theorem t_X1_letting_35 (C : Cx p s m args meth c cX1_letting 7 RX1 D (tyG G)) (hr : meth.sig.returnType = (some .int)) {o : Int32 × St} (a : Nat) (hpa : is_X1 a)  : ∀ (x1 : Int32) (x4 : Int32) (x5 : Int32) (y0 : Int32) (σ : St) (H : Heap) (locs : List Loc) (ls : Array Slot), Hs D A s.heap (wC G σ) H locs → lv_has ls 7 [(0, .ref (G.1 a)), (1, .int x1), (4, .int x4), (5, .int x5)] → f_X1_letting_35 a  x1 x4 x5 y0 σ = some o → W p l e ({ frames := 0, cells := 0, slots := 0, locals := 0 } : Room) s m args below meth c H locs 0 0 (MQ below (QI D (tyG G) (wC G) A o) args s 0 0 A) (F0 m 35 ls [.int y0]) := by
  intro x1 x4 x5 y0 σ H locs ls h hl hf
  unfold f_X1_letting_35 at hf
  have hx := C.1
  have hb := C.2.1
  refine lv_istore (lv' := [(6, .int y0), (0, .ref (G.1 a)), (1, .int x1), (4, .int x4), (5, .int x5)]) hx hb dX1_letting_35 hl (by decide) rfl (fun ls hl => ?_)
  refine lv_iload hx hb dX1_letting_37 (lv_at hl 0 rfl) ?_
  refine lv_aload_n hx hb dX1_letting_39 rfl (lv_at hl 1 rfl) ?_
  refine gf_X1_35 C h hpa dX1_letting_40 ?_
  refine lv_iload_n hx hb dX1_letting_43 rfl (lv_at hl 2 rfl) ?_
  refine rd_el hf (fun v10 hinv10 hv10 hf => ?_)
  refine x_iald C h (a + 4) 1 (ltA_X1_roof hpa) ((aC_X1_roof G hpa) _ _) rfl hinv10 hv10 dX1_letting_44 ?_
  refine lv_icmp_gt (tgt := 55) hx hb dX1_letting_45 (by decide) (fun c11 => ?_) (fun c11 => ?_)
  · have hf := ifT c11 hf
    refine lv_iconst (v := 0) hx hb dX1_letting_55 (by decide) ?_
    exact x_iret C hr h hf dX1_letting_56
  · have hf := ifF c11 hf
    refine lv_iload hx hb dX1_letting_48 (lv_at hl 0 rfl) ?_
    refine lv_iload hx hb dX1_letting_50 (lv_at hl 4 rfl) ?_
    refine lv_icmp_le (tgt := 57) hx hb dX1_letting_52 (by decide) (fun c12 => ?_) (fun c12 => ?_)
    · have hf := ifT c12 hf
      refine lv_iload hx hb dX1_letting_57 (lv_at hl 0 rfl) ?_
      refine lv_iload hx hb dX1_letting_59 (lv_at hl 3 rfl) ?_
      refine lv_icmp_le (tgt := 74) hx hb dX1_letting_61 (by decide) (fun c13 => ?_) (fun c13 => ?_)
      · have hf := ifT c13 hf
        refine lv_iload hx hb dX1_letting_74 (lv_at hl 4 rfl) ?_
        refine lv_iload hx hb dX1_letting_76 (lv_at hl 3 rfl) ?_
        refine lv_isub hx hb dX1_letting_78 ?_
        refine lv_iconst (v := 1) hx hb dX1_letting_79 (by decide) ?_
        refine lv_iadd hx hb dX1_letting_80 ?_
        exact x_iret C hr h hf dX1_letting_81
      · have hf := ifF c13 hf
        refine lv_iload hx hb dX1_letting_64 (lv_at hl 4 rfl) ?_
        refine lv_iload hx hb dX1_letting_66 (lv_at hl 0 rfl) ?_
        refine lv_isub hx hb dX1_letting_68 ?_
        refine lv_iconst (v := 1) hx hb dX1_letting_69 (by decide) ?_
        refine lv_iadd hx hb dX1_letting_70 ?_
        refine lv_goto (tgt := 81) hx hb dX1_letting_71 (by decide) ?_
        exact x_iret C hr h hf dX1_letting_81
    · have hf := ifF c12 hf
      refine lv_iconst (v := 0) hx hb dX1_letting_55 (by decide) ?_
      exact x_iret C hr h hf dX1_letting_56
def f_X1_letting (a : Nat) (x1 : Int32) (x2 : Int32) (x3 : Int32) (σ : St) : Option (Int32 × St) := rd (σ.1 (a + 2)) 8 x1 (fun v1 => rd (σ.1 (a + 3)) 8 x1 (fun v2 => if (σ.1 a 5) = 0 then if x1 ≤ x2 then f_X1_letting_35 a x1 v1 v2 (x3 + 1) σ else f_X1_letting_35 a x1 v1 v2 x3 σ else if x1 ≤ x2 then f_X1_letting_94 a x1 v1 v2 (x3 - 1) σ else f_X1_letting_94 a x1 v1 v2 x3 σ))
set_option maxHeartbeats 4000000 in
theorem c_X1_letting (l : Launch) (D : va_G) (G : Geo)  (a : Nat) (hpa : is_X1 a) (x1 : Int32) (x2 : Int32) (x3 : Int32) (σ : St) (o : Int32 × St) (hf : f_X1_letting a x1 x2 x3 σ = some o) : CI l D (tyG G) (wC G) yX1_letting cX1_letting 7 ((some .int)) ({ frames := 0, cells := 0, slots := 0, locals := 0 }) [.ref (G.1 a), .int x1, .int x2, .int x3] σ o := by
  refine met_of (Qc := fun A => QI D (tyG G) (wC G) A o) pn_X1 (Nat.le_of_ble_eq_true rfl) (fun p e s m below meth c A ls C hr h hl => ?_)
  have C : Cx p s m _ meth c cX1_letting 7 RX1 D (tyG G) := C
  have hl : lv_has ls 7 [(0, .ref (G.1 a)), (1, .int x1), (2, .int x2), (3, .int x3)] := hl
  unfold f_X1_letting at hf
  have hx := C.1
  have hb := C.2.1
  refine lv_aload_n hx hb dX1_letting_0 rfl (lv_at hl 0 rfl) ?_
  refine gf_X1_29 C h hpa dX1_letting_1 ?_
  refine lv_iload_n hx hb dX1_letting_4 rfl (lv_at hl 1 rfl) ?_
  refine rd_el hf (fun v1 hinv1 hv1 hf => ?_)
  refine x_iald C h (a + 2) 1 (ltA_X1_first hpa) ((aC_X1_first G hpa) _ _) rfl hinv1 hv1 dX1_letting_5 ?_
  refine lv_istore (lv' := [(4, .int v1), (0, .ref (G.1 a)), (1, .int x1), (2, .int x2), (3, .int x3)]) hx hb dX1_letting_6 hl (by decide) rfl (fun ls hl => ?_)
  refine lv_aload_n hx hb dX1_letting_8 rfl (lv_at hl 1 rfl) ?_
  refine gf_X1_32 C h hpa dX1_letting_9 ?_
  refine lv_iload_n hx hb dX1_letting_12 rfl (lv_at hl 2 rfl) ?_
  refine rd_el hf (fun v2 hinv2 hv2 hf => ?_)
  refine x_iald C h (a + 3) 1 (ltA_X1_last hpa) ((aC_X1_last G hpa) _ _) rfl hinv2 hv2 dX1_letting_13 ?_
  refine lv_istore (lv' := [(5, .int v2), (4, .int v1), (0, .ref (G.1 a)), (1, .int x1), (2, .int x2), (3, .int x3)]) hx hb dX1_letting_14 hl (by decide) rfl (fun ls hl => ?_)
  refine lv_aload_n hx hb dX1_letting_16 rfl (lv_at hl 2 rfl) ?_
  refine gf_X1_44 C h hpa dX1_letting_17 ?_
  refine lv_if_ne (tgt := 82) hx hb dX1_letting_20 (by decide) (fun c3 => ?_) (fun c3 => ?_)
  · have hf := ifF c3 hf
    refine lv_iload_n hx hb dX1_letting_82 rfl (lv_at hl 3 rfl) ?_
    refine lv_iload_n hx hb dX1_letting_83 rfl (lv_at hl 4 rfl) ?_
    refine lv_icmp_le (tgt := 91) hx hb dX1_letting_84 (by decide) (fun c4 => ?_) (fun c4 => ?_)
    · have hf := ifT c4 hf
      refine lv_iload_n hx hb dX1_letting_91 rfl (lv_at hl 5 rfl) ?_
      refine lv_iconst (v := 1) hx hb dX1_letting_92 (by decide) ?_
      refine lv_isub hx hb dX1_letting_93 ?_
      exact t_X1_letting_94 C hr a hpa x1 v1 v2 (x3 - 1) σ _ _ _ h (lv_sub hl [2, 3, 1, 0] rfl) hf
    · have hf := ifF c4 hf
      refine lv_iload_n hx hb dX1_letting_87 rfl (lv_at hl 5 rfl) ?_
      refine lv_goto (tgt := 94) hx hb dX1_letting_88 (by decide) ?_
      exact t_X1_letting_94 C hr a hpa x1 v1 v2 x3 σ _ _ _ h (lv_sub hl [2, 3, 1, 0] rfl) hf
  · have hf := ifT c3 hf
    refine lv_iload_n hx hb dX1_letting_23 rfl (lv_at hl 3 rfl) ?_
    refine lv_iload_n hx hb dX1_letting_24 rfl (lv_at hl 4 rfl) ?_
    refine lv_icmp_le (tgt := 32) hx hb dX1_letting_25 (by decide) (fun c5 => ?_) (fun c5 => ?_)
    · have hf := ifT c5 hf
      refine lv_iload_n hx hb dX1_letting_32 rfl (lv_at hl 5 rfl) ?_
      refine lv_iconst (v := 1) hx hb dX1_letting_33 (by decide) ?_
      refine lv_iadd hx hb dX1_letting_34 ?_
      exact t_X1_letting_35 C hr a hpa x1 v1 v2 (x3 + 1) σ _ _ _ h (lv_sub hl [2, 3, 1, 0] rfl) hf
    · have hf := ifF c5 hf
      refine lv_iload_n hx hb dX1_letting_28 rfl (lv_at hl 5 rfl) ?_
      refine lv_goto (tgt := 35) hx hb dX1_letting_29 (by decide) ?_
      exact t_X1_letting_35 C hr a hpa x1 v1 v2 x3 σ _ _ _ h (lv_sub hl [2, 3, 1, 0] rfl) hf
def f_X1_oddsOf_167 (a : Nat) (rec42 : Int32 × Int32 × Int32 × St → Option (Int32 × St)) (x1 : Int32) (x2 : Int32) (x3 : Int32) (σ : St) : Option (Int32 × St) := rec42 (x1, x2, x3 + 1, σ)
set_option maxHeartbeats 4000000 in
theorem t_X1_oddsOf_167 (C : Cx p s m args meth c cX1_oddsOf 8 RX1 D (tyG G)) (hr : meth.sig.returnType = (some .int)) {o : Int32 × St} (a : Nat) (hpa : is_X1 a) {rec42 : Int32 × Int32 × Int32 × St → Option (Int32 × St)} (IH42 : ∀ q, rec42 q = some o → ∀ (H : Heap) (locs : List Loc) (ls : Array Slot), Hs D A s.heap (wC G (q.2.2.2)) H locs → lv_has ls 8 [(0, .ref (G.1 a)), (1, .int (q.1)), (2, .int (q.2.1)), (3, .int (q.2.2.1))] → W p l e ({ frames := 1, cells := 0, slots := 0, locals := 26 } : Room) s m args below meth c H locs 0 0 (MQ below (QI D (tyG G) (wC G) A o) args s 0 0 A) (F0 m 42 ls [])) : ∀ (x1 : Int32) (x2 : Int32) (x3 : Int32) (σ : St) (H : Heap) (locs : List Loc) (ls : Array Slot), Hs D A s.heap (wC G σ) H locs → lv_has ls 8 [(0, .ref (G.1 a)), (1, .int x1), (2, .int x2), (3, .int x3)] → f_X1_oddsOf_167 a rec42 x1 x2 x3 σ = some o → W p l e ({ frames := 1, cells := 0, slots := 0, locals := 26 } : Room) s m args below meth c H locs 0 0 (MQ below (QI D (tyG G) (wC G) A o) args s 0 0 A) (F0 m 167 ls []) := by
  intro x1 x2 x3 σ H locs ls h hl hf
  unfold f_X1_oddsOf_167 at hf
  have hx := C.1
  have hb := C.2.1
  refine lv_iinc (v := x3 + 1) (lv' := [(3, .int (x3 + 1)), (0, .ref (G.1 a)), (1, .int x1), (2, .int x2)]) hx hb dX1_oddsOf_167 hl (k := 3) rfl rfl (by decide) rfl (fun ls hl => ?_)
  refine lv_goto (tgt := 42) hx hb dX1_oddsOf_170 (by decide) ?_
  exact IH42 (x1, x2, x3 + 1, σ) hf _ _ _ h (lv_sub hl [1, 2, 3, 0] rfl)
def f_X1_oddsOf_144 (a : Nat) (rec42 : Int32 × Int32 × Int32 × St → Option (Int32 × St)) (x1 : Int32) (x2 : Int32) (x3 : Int32) (x4 : Int64) (σ : St) : Option (Int32 × St) := nm (x2 + x4.toInt32) (fun z22 => if (lg_cmp x4 0) = 0 then if (σ.1 a 5) = 0 then some (z22, σ) else f_X1_oddsOf_167 a rec42 x1 z22 x3 σ else f_X1_oddsOf_167 a rec42 x1 z22 x3 σ)
set_option maxHeartbeats 4000000 in
theorem t_X1_oddsOf_144 (C : Cx p s m args meth c cX1_oddsOf 8 RX1 D (tyG G)) (hr : meth.sig.returnType = (some .int)) {o : Int32 × St} (a : Nat) (hpa : is_X1 a) {rec42 : Int32 × Int32 × Int32 × St → Option (Int32 × St)} (IH42 : ∀ q, rec42 q = some o → ∀ (H : Heap) (locs : List Loc) (ls : Array Slot), Hs D A s.heap (wC G (q.2.2.2)) H locs → lv_has ls 8 [(0, .ref (G.1 a)), (1, .int (q.1)), (2, .int (q.2.1)), (3, .int (q.2.2.1))] → W p l e ({ frames := 1, cells := 0, slots := 0, locals := 26 } : Room) s m args below meth c H locs 0 0 (MQ below (QI D (tyG G) (wC G) A o) args s 0 0 A) (F0 m 42 ls [])) : ∀ (x1 : Int32) (x2 : Int32) (x3 : Int32) (x4 : Int64) (σ : St) (H : Heap) (locs : List Loc) (ls : Array Slot), Hs D A s.heap (wC G σ) H locs → lv_has ls 8 [(0, .ref (G.1 a)), (1, .int x1), (2, .int x2), (3, .int x3), (4, .long x4)] → f_X1_oddsOf_144 a rec42 x1 x2 x3 x4 σ = some o → W p l e ({ frames := 1, cells := 0, slots := 0, locals := 26 } : Room) s m args below meth c H locs 0 0 (MQ below (QI D (tyG G) (wC G) A o) args s 0 0 A) (F0 m 144 ls []) := by
  intro x1 x2 x3 x4 σ H locs ls h hl hf
  unfold f_X1_oddsOf_144 at hf
  have hx := C.1
  have hb := C.2.1
  refine lv_iload_n hx hb dX1_oddsOf_144 rfl (lv_at hl 2 rfl) ?_
  refine lv_lload hx hb dX1_oddsOf_145 (lv_at hl 4 rfl) ?_
  refine lv_l2i (v := x4.toInt32) hx hb dX1_oddsOf_147 rfl ?_
  refine lv_iadd hx hb dX1_oddsOf_148 ?_
  refine nm_el hf (fun z22 ez22 hf => ?_)
  refine x_topi ez22 ?_
  refine lv_istore_n (lv' := [(2, .int z22), (0, .ref (G.1 a)), (1, .int x1), (3, .int x3), (4, .long x4)]) hx hb dX1_oddsOf_149 rfl hl (by decide) rfl (fun ls hl => ?_)
  refine lv_lload hx hb dX1_oddsOf_150 (lv_at hl 4 rfl) ?_
  refine lv_lconst (v := 0) hx hb dX1_oddsOf_152 (by decide) ?_
  refine W.lcmp hx hb dX1_oddsOf_153 ?_
  refine lv_if_ne (tgt := 167) hx hb dX1_oddsOf_154 (by decide) (fun c23 => ?_) (fun c23 => ?_)
  · have hf := ifF c23 hf
    exact t_X1_oddsOf_167 C hr a hpa IH42 x1 z22 x3 σ _ _ _ h (lv_sub hl [1, 2, 0, 3] rfl) hf
  · have hf := ifT c23 hf
    refine lv_aload_n hx hb dX1_oddsOf_157 rfl (lv_at hl 1 rfl) ?_
    refine gf_X1_44 C h hpa dX1_oddsOf_158 ?_
    refine lv_if_ne (tgt := 167) hx hb dX1_oddsOf_161 (by decide) (fun c24 => ?_) (fun c24 => ?_)
    · have hf := ifF c24 hf
      exact t_X1_oddsOf_167 C hr a hpa IH42 x1 z22 x3 σ _ _ _ h (lv_sub hl [1, 2, 0, 3] rfl) hf
    · have hf := ifT c24 hf
      refine lv_goto (tgt := 173) hx hb dX1_oddsOf_164 (by decide) ?_
      refine lv_iload_n hx hb dX1_oddsOf_173 rfl (lv_at hl 0 rfl) ?_
      exact x_iret C hr h hf dX1_oddsOf_174
def f_X1_oddsOf_138 (a : Nat) (rec42 : Int32 × Int32 × Int32 × St → Option (Int32 × St)) (rec82 : Int32 × Int32 × Int32 × Int64 × Int32 × Int32 × St → Option (Int32 × St)) (x1 : Int32) (x2 : Int32) (x3 : Int32) (x4 : Int64) (x6 : Int32) (x7 : Int32) (σ : St) : Option (Int32 × St) := rec82 (x1, x2, x3, x4, x6, x7 + 1, σ)
set_option maxHeartbeats 4000000 in
theorem t_X1_oddsOf_138 (C : Cx p s m args meth c cX1_oddsOf 8 RX1 D (tyG G)) (hr : meth.sig.returnType = (some .int)) {o : Int32 × St} (a : Nat) (hpa : is_X1 a) {rec42 : Int32 × Int32 × Int32 × St → Option (Int32 × St)} (IH42 : ∀ q, rec42 q = some o → ∀ (H : Heap) (locs : List Loc) (ls : Array Slot), Hs D A s.heap (wC G (q.2.2.2)) H locs → lv_has ls 8 [(0, .ref (G.1 a)), (1, .int (q.1)), (2, .int (q.2.1)), (3, .int (q.2.2.1))] → W p l e ({ frames := 1, cells := 0, slots := 0, locals := 26 } : Room) s m args below meth c H locs 0 0 (MQ below (QI D (tyG G) (wC G) A o) args s 0 0 A) (F0 m 42 ls [])) {rec82 : Int32 × Int32 × Int32 × Int64 × Int32 × Int32 × St → Option (Int32 × St)} (IH82 : ∀ q, rec82 q = some o → ∀ (H : Heap) (locs : List Loc) (ls : Array Slot), Hs D A s.heap (wC G (q.2.2.2.2.2.2)) H locs → lv_has ls 8 [(0, .ref (G.1 a)), (1, .int (q.1)), (2, .int (q.2.1)), (3, .int (q.2.2.1)), (4, .long (q.2.2.2.1)), (6, .int (q.2.2.2.2.1)), (7, .int (q.2.2.2.2.2.1))] → W p l e ({ frames := 1, cells := 0, slots := 0, locals := 26 } : Room) s m args below meth c H locs 0 0 (MQ below (QI D (tyG G) (wC G) A o) args s 0 0 A) (F0 m 82 ls [])) : ∀ (x1 : Int32) (x2 : Int32) (x3 : Int32) (x4 : Int64) (x6 : Int32) (x7 : Int32) (σ : St) (H : Heap) (locs : List Loc) (ls : Array Slot), Hs D A s.heap (wC G σ) H locs → lv_has ls 8 [(0, .ref (G.1 a)), (1, .int x1), (2, .int x2), (3, .int x3), (4, .long x4), (6, .int x6), (7, .int x7)] → f_X1_oddsOf_138 a rec42 rec82 x1 x2 x3 x4 x6 x7 σ = some o → W p l e ({ frames := 1, cells := 0, slots := 0, locals := 26 } : Room) s m args below meth c H locs 0 0 (MQ below (QI D (tyG G) (wC G) A o) args s 0 0 A) (F0 m 138 ls []) := by
  intro x1 x2 x3 x4 x6 x7 σ H locs ls h hl hf
  unfold f_X1_oddsOf_138 at hf
  have hx := C.1
  have hb := C.2.1
  refine lv_iinc (v := x7 + 1) (lv' := [(7, .int (x7 + 1)), (0, .ref (G.1 a)), (1, .int x1), (2, .int x2), (3, .int x3), (4, .long x4), (6, .int x6)]) hx hb dX1_oddsOf_138 hl (k := 6) rfl rfl (by decide) rfl (fun ls hl => ?_)
  refine lv_goto (tgt := 82) hx hb dX1_oddsOf_141 (by decide) ?_
  exact IH82 (x1, x2, x3, x4, x6, x7 + 1, σ) hf _ _ _ h (lv_sub hl [1, 2, 3, 4, 5, 6, 0] rfl)
def b_X1_oddsOf_82 (a : Nat) (rec42 : Int32 × Int32 × Int32 × St → Option (Int32 × St)) (rec82 : Int32 × Int32 × Int32 × Int64 × Int32 × Int32 × St → Option (Int32 × St)) (x1 : Int32) (x2 : Int32) (x3 : Int32) (x4 : Int64) (x6 : Int32) (x7 : Int32) (σ : St) : Option (Int32 × St) := if (σ.1 3 4) ≤ x7 then f_X1_oddsOf_144 a rec42 x1 x2 x3 x4 σ else if (lg_cmp x4 0) = 0 then f_X1_oddsOf_144 a rec42 x1 x2 x3 x4 σ else if x7 = x1 then f_X1_oddsOf_138 a rec42 rec82 x1 x2 x3 x4 x6 x7 σ else bd (f_X1_letting a x7 x1 x6 σ) (fun r18 σ16 => rd (σ16.1 9) 8 x7 (fun v19 => ck (nzL (((2 * v19) + 1 : Int32).toInt64)) (nm ((x4 * r18.toInt64) / (((2 * v19) + 1 : Int32).toInt64)) (fun z21 => f_X1_oddsOf_138 a rec42 rec82 x1 x2 x3 z21 x6 x7 σ16))))
def f_X1_oddsOf_82 (a : Nat) (rec42 : Int32 × Int32 × Int32 × St → Option (Int32 × St)) (x1 : Int32) (x2 : Int32) (x3 : Int32) (x4 : Int64) (x6 : Int32) (x7 : Int32) (σ : St) : Option (Int32 × St) := lp (fun (rec82 : Int32 × Int32 × Int32 × Int64 × Int32 × Int32 × St → Option (Int32 × St)) (q : Int32 × Int32 × Int32 × Int64 × Int32 × Int32 × St) => b_X1_oddsOf_82 a rec42 rec82 (q.1) (q.2.1) (q.2.2.1) (q.2.2.2.1) (q.2.2.2.2.1) (q.2.2.2.2.2.1) (q.2.2.2.2.2.2)) 100000 (x1, x2, x3, x4, x6, x7, σ)
set_option maxHeartbeats 4000000 in
theorem t_X1_oddsOf_82 (C : Cx p s m args meth c cX1_oddsOf 8 RX1 D (tyG G)) (hr : meth.sig.returnType = (some .int)) {o : Int32 × St} (a : Nat) (hpa : is_X1 a) {rec42 : Int32 × Int32 × Int32 × St → Option (Int32 × St)} (IH42 : ∀ q, rec42 q = some o → ∀ (H : Heap) (locs : List Loc) (ls : Array Slot), Hs D A s.heap (wC G (q.2.2.2)) H locs → lv_has ls 8 [(0, .ref (G.1 a)), (1, .int (q.1)), (2, .int (q.2.1)), (3, .int (q.2.2.1))] → W p l e ({ frames := 1, cells := 0, slots := 0, locals := 26 } : Room) s m args below meth c H locs 0 0 (MQ below (QI D (tyG G) (wC G) A o) args s 0 0 A) (F0 m 42 ls [])) : ∀ (x1 : Int32) (x2 : Int32) (x3 : Int32) (x4 : Int64) (x6 : Int32) (x7 : Int32) (σ : St) (H : Heap) (locs : List Loc) (ls : Array Slot), Hs D A s.heap (wC G σ) H locs → lv_has ls 8 [(0, .ref (G.1 a)), (1, .int x1), (2, .int x2), (3, .int x3), (4, .long x4), (6, .int x6), (7, .int x7)] → f_X1_oddsOf_82 a rec42 x1 x2 x3 x4 x6 x7 σ = some o → W p l e ({ frames := 1, cells := 0, slots := 0, locals := 26 } : Room) s m args below meth c H locs 0 0 (MQ below (QI D (tyG G) (wC G) A o) args s 0 0 A) (F0 m 82 ls []) := by
  intro x1 x2 x3 x4 x6 x7 σ H locs ls h hl hf
  refine lp_el (P := fun q : Int32 × Int32 × Int32 × Int64 × Int32 × Int32 × St => ∀ (H : Heap) (locs : List Loc) (ls : Array Slot), Hs D A s.heap (wC G (q.2.2.2.2.2.2)) H locs → lv_has ls 8 [(0, .ref (G.1 a)), (1, .int (q.1)), (2, .int (q.2.1)), (3, .int (q.2.2.1)), (4, .long (q.2.2.2.1)), (6, .int (q.2.2.2.2.1)), (7, .int (q.2.2.2.2.2.1))] → W p l e ({ frames := 1, cells := 0, slots := 0, locals := 26 } : Room) s m args below meth c H locs 0 0 (MQ below (QI D (tyG G) (wC G) A o) args s 0 0 A) (F0 m 82 ls [])) (fun rec82 q IH82 hf => ?_) _ (x1, x2, x3, x4, x6, x7, σ) hf H locs ls h hl
  obtain ⟨x1, x2, x3, x4, x6, x7, σ⟩ := q
  intro H locs ls h hl
  have hl : lv_has ls 8 [(0, .ref (G.1 a)), (1, .int x1), (2, .int x2), (3, .int x3), (4, .long x4), (6, .int x6), (7, .int x7)] := hl
  have h : Hs D A s.heap (wC G σ) H locs := h
  have hf : b_X1_oddsOf_82 a rec42 rec82 x1 x2 x3 x4 x6 x7 σ = some o := hf
  unfold b_X1_oddsOf_82 at hf
  have hx := C.1
  have hb := C.2.1
  refine lv_iload hx hb dX1_oddsOf_82 (lv_at hl 6 rfl) ?_
  refine lv_aload_n hx hb dX1_oddsOf_84 rfl (lv_at hl 0 rfl) ?_
  refine gf_X1_9 C h hpa dX1_oddsOf_85 ?_
  refine gf_X1_57 C h (by decide) dX1_oddsOf_88 ?_
  refine lv_icmp_ge (tgt := 144) hx hb dX1_oddsOf_91 (by decide) (fun c13 => ?_) (fun c13 => ?_)
  · have hf := ifT c13 hf
    exact t_X1_oddsOf_144 C hr a hpa IH42 x1 x2 x3 x4 σ _ _ _ h (lv_sub hl [0, 1, 2, 3, 4] rfl) hf
  · have hf := ifF c13 hf
    refine lv_lload hx hb dX1_oddsOf_94 (lv_at hl 4 rfl) ?_
    refine lv_lconst (v := 0) hx hb dX1_oddsOf_96 (by decide) ?_
    refine W.lcmp hx hb dX1_oddsOf_97 ?_
    refine lv_if_eq (tgt := 144) hx hb dX1_oddsOf_98 (by decide) (fun c14 => ?_) (fun c14 => ?_)
    · have hf := ifT c14 hf
      exact t_X1_oddsOf_144 C hr a hpa IH42 x1 x2 x3 x4 σ _ _ _ h (lv_sub hl [0, 1, 2, 3, 4] rfl) hf
    · have hf := ifF c14 hf
      refine lv_iload hx hb dX1_oddsOf_101 (lv_at hl 6 rfl) ?_
      refine lv_iload_n hx hb dX1_oddsOf_103 rfl (lv_at hl 1 rfl) ?_
      refine lv_icmp_eq (tgt := 138) hx hb dX1_oddsOf_104 (by decide) (fun c15 => ?_) (fun c15 => ?_)
      · have hf := ifT c15 hf
        exact t_X1_oddsOf_138 C hr a hpa IH42 IH82 x1 x2 x3 x4 x6 x7 σ _ _ _ h (lv_sub hl [0, 1, 2, 3, 4, 5, 6] rfl) hf
      · have hf := ifF c15 hf
        refine lv_lload hx hb dX1_oddsOf_107 (lv_at hl 4 rfl) ?_
        refine lv_aload_n hx hb dX1_oddsOf_109 rfl (lv_at hl 0 rfl) ?_
        refine lv_iload hx hb dX1_oddsOf_110 (lv_at hl 6 rfl) ?_
        refine lv_iload_n hx hb dX1_oddsOf_112 rfl (lv_at hl 1 rfl) ?_
        refine lv_iload hx hb dX1_oddsOf_113 (lv_at hl 5 rfl) ?_
        refine bd_el hf (fun r18 σ16 ho17 hf => ?_)
        refine x_goi h (x_runV (As := [.int x7, .int x1, .int x6]) (rest := [.long x4]) C h (c_X1_letting l D G a hpa x7 x1 x6 σ (r18, σ16) ho17 _) lk_X1_92 rfl ⟨rfl, rfl, Nat.le_of_ble_eq_true rfl, Nat.le_of_ble_eq_true rfl⟩ (x_rcv C h a (lt_X1 hpa) ((oC_X1 G hpa) _ _) rfl) hl.1 rfl (Nat.le_of_ble_eq_true rfl) dX1_oddsOf_115) (fun H locs h => ?_)
        refine lv_i2l (v := r18.toInt64) hx hb dX1_oddsOf_118 rfl ?_
        refine lv_lmul hx hb dX1_oddsOf_119 ?_
        refine lv_iconst (v := 2) hx hb dX1_oddsOf_120 (by decide) ?_
        refine lv_aload_n hx hb dX1_oddsOf_121 rfl (lv_at hl 0 rfl) ?_
        refine gf_X1_9 C h hpa dX1_oddsOf_122 ?_
        refine gf_X1_76 C h (by decide) dX1_oddsOf_125 ?_
        refine lv_iload hx hb dX1_oddsOf_128 (lv_at hl 6 rfl) ?_
        refine rd_el hf (fun v19 hinv19 hv19 hf => ?_)
        refine x_iald C h 9 1 (ltA_X5_span (by decide)) ((aC_X5_span G (by decide)) _ _) rfl hinv19 hv19 dX1_oddsOf_130 ?_
        refine lv_imul hx hb dX1_oddsOf_131 ?_
        refine lv_iconst (v := 1) hx hb dX1_oddsOf_132 (by decide) ?_
        refine lv_iadd hx hb dX1_oddsOf_133 ?_
        refine lv_i2l (v := ((2 * v19) + 1 : Int32).toInt64) hx hb dX1_oddsOf_134 rfl ?_
        refine ck_el hf (fun hz20 hf => ?_)
        refine lv_ldiv hx hb dX1_oddsOf_135 (of_decide_eq_true hz20) ?_
        refine nm_el hf (fun z21 ez21 hf => ?_)
        refine x_topl ez21 ?_
        refine lv_lstore (lv' := [(4, .long z21), (0, .ref (G.1 a)), (1, .int x1), (2, .int x2), (3, .int x3), (6, .int x6), (7, .int x7)]) hx hb dX1_oddsOf_136 hl (by decide) rfl (fun ls hl => ?_)
        exact t_X1_oddsOf_138 C hr a hpa IH42 IH82 x1 x2 x3 z21 x6 x7 σ16 _ _ _ h (lv_sub hl [1, 2, 3, 4, 0, 5, 6] rfl) hf
def b_X1_oddsOf_42 (a : Nat)  (rec42 : Int32 × Int32 × Int32 × St → Option (Int32 × St)) (x1 : Int32) (x2 : Int32) (x3 : Int32) (σ : St) : Option (Int32 × St) := rd (σ.1 (a + 3)) 8 x1 (fun v5 => if v5 < x3 then some (x2, σ) else rd (σ.1 9) 8 x1 (fun v7 => ck (nz ((2 * v7) + 1)) (nm ((1000000000 / ((2 * v7) + 1) : Int32).toInt64) (fun z9 => bd (f_X1_heard a x1 x3 σ) (fun r12 σ10 => f_X1_oddsOf_82 a rec42 x1 x2 x3 z9 r12 0 σ10)))))
def f_X1_oddsOf_42 (a : Nat)  (x1 : Int32) (x2 : Int32) (x3 : Int32) (σ : St) : Option (Int32 × St) := lp (fun (rec42 : Int32 × Int32 × Int32 × St → Option (Int32 × St)) (q : Int32 × Int32 × Int32 × St) => b_X1_oddsOf_42 a  rec42 (q.1) (q.2.1) (q.2.2.1) (q.2.2.2)) 100000 (x1, x2, x3, σ)
set_option maxHeartbeats 4000000 in
theorem t_X1_oddsOf_42 (C : Cx p s m args meth c cX1_oddsOf 8 RX1 D (tyG G)) (hr : meth.sig.returnType = (some .int)) {o : Int32 × St} (a : Nat) (hpa : is_X1 a)  : ∀ (x1 : Int32) (x2 : Int32) (x3 : Int32) (σ : St) (H : Heap) (locs : List Loc) (ls : Array Slot), Hs D A s.heap (wC G σ) H locs → lv_has ls 8 [(0, .ref (G.1 a)), (1, .int x1), (2, .int x2), (3, .int x3)] → f_X1_oddsOf_42 a  x1 x2 x3 σ = some o → W p l e ({ frames := 1, cells := 0, slots := 0, locals := 26 } : Room) s m args below meth c H locs 0 0 (MQ below (QI D (tyG G) (wC G) A o) args s 0 0 A) (F0 m 42 ls []) := by
  intro x1 x2 x3 σ H locs ls h hl hf
  refine lp_el (P := fun q : Int32 × Int32 × Int32 × St => ∀ (H : Heap) (locs : List Loc) (ls : Array Slot), Hs D A s.heap (wC G (q.2.2.2)) H locs → lv_has ls 8 [(0, .ref (G.1 a)), (1, .int (q.1)), (2, .int (q.2.1)), (3, .int (q.2.2.1))] → W p l e ({ frames := 1, cells := 0, slots := 0, locals := 26 } : Room) s m args below meth c H locs 0 0 (MQ below (QI D (tyG G) (wC G) A o) args s 0 0 A) (F0 m 42 ls [])) (fun rec42 q IH42 hf => ?_) _ (x1, x2, x3, σ) hf H locs ls h hl
  obtain ⟨x1, x2, x3, σ⟩ := q
  intro H locs ls h hl
  have hl : lv_has ls 8 [(0, .ref (G.1 a)), (1, .int x1), (2, .int x2), (3, .int x3)] := hl
  have h : Hs D A s.heap (wC G σ) H locs := h
  have hf : b_X1_oddsOf_42 a  rec42 x1 x2 x3 σ = some o := hf
  unfold b_X1_oddsOf_42 at hf
  have hx := C.1
  have hb := C.2.1
  refine lv_iload_n hx hb dX1_oddsOf_42 rfl (lv_at hl 3 rfl) ?_
  refine lv_aload_n hx hb dX1_oddsOf_43 rfl (lv_at hl 0 rfl) ?_
  refine gf_X1_32 C h hpa dX1_oddsOf_44 ?_
  refine lv_iload_n hx hb dX1_oddsOf_47 rfl (lv_at hl 1 rfl) ?_
  refine rd_el hf (fun v5 hinv5 hv5 hf => ?_)
  refine x_iald C h (a + 3) 1 (ltA_X1_last hpa) ((aC_X1_last G hpa) _ _) rfl hinv5 hv5 dX1_oddsOf_48 ?_
  refine lv_icmp_gt (tgt := 173) hx hb dX1_oddsOf_49 (by decide) (fun c6 => ?_) (fun c6 => ?_)
  · have hf := ifT c6 hf
    refine lv_iload_n hx hb dX1_oddsOf_173 rfl (lv_at hl 2 rfl) ?_
    exact x_iret C hr h hf dX1_oddsOf_174
  · have hf := ifF c6 hf
    refine lv_ldc (v := 1000000000) hx hb C.2.2.2.1 (C.2.2.2.2.1 _ q617) dX1_oddsOf_52 ?_
    refine lv_iconst (v := 2) hx hb dX1_oddsOf_54 (by decide) ?_
    refine lv_aload_n hx hb dX1_oddsOf_55 rfl (lv_at hl 0 rfl) ?_
    refine gf_X1_9 C h hpa dX1_oddsOf_56 ?_
    refine gf_X1_76 C h (by decide) dX1_oddsOf_59 ?_
    refine lv_iload_n hx hb dX1_oddsOf_62 rfl (lv_at hl 1 rfl) ?_
    refine rd_el hf (fun v7 hinv7 hv7 hf => ?_)
    refine x_iald C h 9 1 (ltA_X5_span (by decide)) ((aC_X5_span G (by decide)) _ _) rfl hinv7 hv7 dX1_oddsOf_63 ?_
    refine lv_imul hx hb dX1_oddsOf_64 ?_
    refine lv_iconst (v := 1) hx hb dX1_oddsOf_65 (by decide) ?_
    refine lv_iadd hx hb dX1_oddsOf_66 ?_
    refine ck_el hf (fun hz8 hf => ?_)
    refine lv_idiv hx hb dX1_oddsOf_67 (of_decide_eq_true hz8) ?_
    refine lv_i2l (v := (1000000000 / ((2 * v7) + 1) : Int32).toInt64) hx hb dX1_oddsOf_68 rfl ?_
    refine nm_el hf (fun z9 ez9 hf => ?_)
    refine x_topl ez9 ?_
    refine lv_lstore (lv' := [(4, .long z9), (0, .ref (G.1 a)), (1, .int x1), (2, .int x2), (3, .int x3)]) hx hb dX1_oddsOf_69 hl (by decide) rfl (fun ls hl => ?_)
    refine lv_aload_n hx hb dX1_oddsOf_71 rfl (lv_at hl 1 rfl) ?_
    refine lv_iload_n hx hb dX1_oddsOf_72 rfl (lv_at hl 2 rfl) ?_
    refine lv_iload_n hx hb dX1_oddsOf_73 rfl (lv_at hl 4 rfl) ?_
    refine bd_el hf (fun r12 σ10 ho11 hf => ?_)
    refine x_goi h (x_runV (As := [.int x1, .int x3]) (rest := []) C h (c_X1_heard l D G a hpa x1 x3 σ (r12, σ10) ho11 _) lk_X1_83 rfl ⟨rfl, rfl, Nat.le_of_ble_eq_true rfl, Nat.le_of_ble_eq_true rfl⟩ (x_rcv C h a (lt_X1 hpa) ((oC_X1 G hpa) _ _) rfl) hl.1 rfl (Nat.le_of_ble_eq_true rfl) dX1_oddsOf_74) (fun H locs h => ?_)
    refine lv_istore (lv' := [(6, .int r12), (4, .long z9), (0, .ref (G.1 a)), (1, .int x1), (2, .int x2), (3, .int x3)]) hx hb dX1_oddsOf_77 hl (by decide) rfl (fun ls hl => ?_)
    refine lv_iconst (v := 0) hx hb dX1_oddsOf_79 (by decide) ?_
    refine lv_istore (lv' := [(7, .int 0), (6, .int r12), (4, .long z9), (0, .ref (G.1 a)), (1, .int x1), (2, .int x2), (3, .int x3)]) hx hb dX1_oddsOf_80 hl (by decide) rfl (fun ls hl => ?_)
    exact t_X1_oddsOf_82 C hr a hpa IH42 x1 x2 x3 z9 r12 0 σ10 _ _ _ h (lv_sub hl [3, 4, 5, 6, 2, 1, 0] rfl) hf
def f_X1_oddsOf (a : Nat) (x1 : Int32) (σ : St) : Option (Int32 × St) := if (σ.1 a 5) = 2 then if (σ.1 3 4) ≤ 0 then some (0, σ) else ck (nz (σ.1 3 4)) (some (1000000000 / (σ.1 3 4), σ)) else rd (σ.1 (a + 2)) 8 x1 (fun v2 => f_X1_oddsOf_42 a x1 0 v2 σ)
set_option maxHeartbeats 4000000 in
theorem c_X1_oddsOf (l : Launch) (D : va_G) (G : Geo)  (a : Nat) (hpa : is_X1 a) (x1 : Int32) (σ : St) (o : Int32 × St) (hf : f_X1_oddsOf a x1 σ = some o) : CI l D (tyG G) (wC G) yX1_oddsOf cX1_oddsOf 8 ((some .int)) ({ frames := 1, cells := 0, slots := 0, locals := 26 }) [.ref (G.1 a), .int x1] σ o := by
  refine met_of (Qc := fun A => QI D (tyG G) (wC G) A o) pn_X1 (Nat.le_of_ble_eq_true rfl) (fun p e s m below meth c A ls C hr h hl => ?_)
  have C : Cx p s m _ meth c cX1_oddsOf 8 RX1 D (tyG G) := C
  have hl : lv_has ls 8 [(0, .ref (G.1 a)), (1, .int x1)] := hl
  unfold f_X1_oddsOf at hf
  have hx := C.1
  have hb := C.2.1
  refine lv_aload_n hx hb dX1_oddsOf_0 rfl (lv_at hl 0 rfl) ?_
  refine gf_X1_44 C h hpa dX1_oddsOf_1 ?_
  refine lv_iconst (v := 2) hx hb dX1_oddsOf_4 (by decide) ?_
  refine lv_icmp_ne (tgt := 33) hx hb dX1_oddsOf_5 (by decide) (fun c1 => ?_) (fun c1 => ?_)
  · have hf := ifF c1 hf
    refine lv_iconst (v := 0) hx hb dX1_oddsOf_33 (by decide) ?_
    refine lv_istore_n (lv' := [(2, .int 0), (0, .ref (G.1 a)), (1, .int x1)]) hx hb dX1_oddsOf_34 rfl hl (by decide) rfl (fun ls hl => ?_)
    refine lv_aload_n hx hb dX1_oddsOf_35 rfl (lv_at hl 1 rfl) ?_
    refine gf_X1_29 C h hpa dX1_oddsOf_36 ?_
    refine lv_iload_n hx hb dX1_oddsOf_39 rfl (lv_at hl 2 rfl) ?_
    refine rd_el hf (fun v2 hinv2 hv2 hf => ?_)
    refine x_iald C h (a + 2) 1 (ltA_X1_first hpa) ((aC_X1_first G hpa) _ _) rfl hinv2 hv2 dX1_oddsOf_40 ?_
    refine lv_istore_n (lv' := [(3, .int v2), (2, .int 0), (0, .ref (G.1 a)), (1, .int x1)]) hx hb dX1_oddsOf_41 rfl hl (by decide) rfl (fun ls hl => ?_)
    exact t_X1_oddsOf_42 C hr a hpa x1 0 v2 σ _ _ _ h (lv_sub hl [2, 3, 1, 0] rfl) hf
  · have hf := ifT c1 hf
    refine lv_aload_n hx hb dX1_oddsOf_8 rfl (lv_at hl 0 rfl) ?_
    refine gf_X1_9 C h hpa dX1_oddsOf_9 ?_
    refine gf_X1_57 C h (by decide) dX1_oddsOf_12 ?_
    refine lv_if_le (tgt := 31) hx hb dX1_oddsOf_15 (by decide) (fun c3 => ?_) (fun c3 => ?_)
    · have hf := ifT c3 hf
      refine lv_iconst (v := 0) hx hb dX1_oddsOf_31 (by decide) ?_
      exact x_iret C hr h hf dX1_oddsOf_32
    · have hf := ifF c3 hf
      refine lv_ldc (v := 1000000000) hx hb C.2.2.2.1 (C.2.2.2.2.1 _ q617) dX1_oddsOf_18 ?_
      refine lv_aload_n hx hb dX1_oddsOf_20 rfl (lv_at hl 0 rfl) ?_
      refine gf_X1_9 C h hpa dX1_oddsOf_21 ?_
      refine gf_X1_57 C h (by decide) dX1_oddsOf_24 ?_
      refine ck_el hf (fun hz4 hf => ?_)
      refine lv_idiv hx hb dX1_oddsOf_27 (of_decide_eq_true hz4) ?_
      refine lv_goto (tgt := 32) hx hb dX1_oddsOf_28 (by decide) ?_
      exact x_iret C hr h hf dX1_oddsOf_32
def f_X1_oddsOfHouses_39 (a : Nat) (rec4 : Int32 × Int32 × Int32 × St → Option (Int32 × St)) (x1 : Int32) (x2 : Int32) (x3 : Int32) (σ : St) : Option (Int32 × St) := rec4 (x1, x2, x3 + 1, σ)
set_option maxHeartbeats 4000000 in
theorem t_X1_oddsOfHouses_39 (C : Cx p s m args meth c cX1_oddsOfHouses 4 RX1 D (tyG G)) (hr : meth.sig.returnType = (some .int)) {o : Int32 × St} (a : Nat) (hpa : is_X1 a) {rec4 : Int32 × Int32 × Int32 × St → Option (Int32 × St)} (IH4 : ∀ q, rec4 q = some o → ∀ (H : Heap) (locs : List Loc) (ls : Array Slot), Hs D A s.heap (wC G (q.2.2.2)) H locs → lv_has ls 4 [(0, .ref (G.1 a)), (1, .int (q.1)), (2, .int (q.2.1)), (3, .int (q.2.2.1))] → W p l e ({ frames := 2, cells := 0, slots := 0, locals := 53 } : Room) s m args below meth c H locs 0 0 (MQ below (QI D (tyG G) (wC G) A o) args s 0 0 A) (F0 m 4 ls [])) : ∀ (x1 : Int32) (x2 : Int32) (x3 : Int32) (σ : St) (H : Heap) (locs : List Loc) (ls : Array Slot), Hs D A s.heap (wC G σ) H locs → lv_has ls 4 [(0, .ref (G.1 a)), (1, .int x1), (2, .int x2), (3, .int x3)] → f_X1_oddsOfHouses_39 a rec4 x1 x2 x3 σ = some o → W p l e ({ frames := 2, cells := 0, slots := 0, locals := 53 } : Room) s m args below meth c H locs 0 0 (MQ below (QI D (tyG G) (wC G) A o) args s 0 0 A) (F0 m 39 ls []) := by
  intro x1 x2 x3 σ H locs ls h hl hf
  unfold f_X1_oddsOfHouses_39 at hf
  have hx := C.1
  have hb := C.2.1
  refine lv_iinc (v := x3 + 1) (lv' := [(3, .int (x3 + 1)), (0, .ref (G.1 a)), (1, .int x1), (2, .int x2)]) hx hb dX1_oddsOfHouses_39 hl (k := 3) rfl rfl (by decide) rfl (fun ls hl => ?_)
  refine lv_goto (tgt := 4) hx hb dX1_oddsOfHouses_42 (by decide) ?_
  exact IH4 (x1, x2, x3 + 1, σ) hf _ _ _ h (lv_sub hl [1, 2, 3, 0] rfl)
def b_X1_oddsOfHouses_4 (a : Nat)  (rec4 : Int32 × Int32 × Int32 × St → Option (Int32 × St)) (x1 : Int32) (x2 : Int32) (x3 : Int32) (σ : St) : Option (Int32 × St) := if (σ.1 3 4) ≤ x3 then some (x2, σ) else rd (σ.1 7) 8 x3 (fun v2 => if ((x1 >>> (v2 &&& 31)) &&& 1) = 0 then f_X1_oddsOfHouses_39 a rec4 x1 x2 x3 σ else bd (f_X1_oddsOf a x3 σ) (fun r6 σ4 => nm (x2 + r6) (fun z7 => f_X1_oddsOfHouses_39 a rec4 x1 z7 x3 σ4)))
def f_X1_oddsOfHouses_4 (a : Nat)  (x1 : Int32) (x2 : Int32) (x3 : Int32) (σ : St) : Option (Int32 × St) := lp (fun (rec4 : Int32 × Int32 × Int32 × St → Option (Int32 × St)) (q : Int32 × Int32 × Int32 × St) => b_X1_oddsOfHouses_4 a  rec4 (q.1) (q.2.1) (q.2.2.1) (q.2.2.2)) 100000 (x1, x2, x3, σ)
set_option maxHeartbeats 4000000 in
theorem t_X1_oddsOfHouses_4 (C : Cx p s m args meth c cX1_oddsOfHouses 4 RX1 D (tyG G)) (hr : meth.sig.returnType = (some .int)) {o : Int32 × St} (a : Nat) (hpa : is_X1 a)  : ∀ (x1 : Int32) (x2 : Int32) (x3 : Int32) (σ : St) (H : Heap) (locs : List Loc) (ls : Array Slot), Hs D A s.heap (wC G σ) H locs → lv_has ls 4 [(0, .ref (G.1 a)), (1, .int x1), (2, .int x2), (3, .int x3)] → f_X1_oddsOfHouses_4 a  x1 x2 x3 σ = some o → W p l e ({ frames := 2, cells := 0, slots := 0, locals := 53 } : Room) s m args below meth c H locs 0 0 (MQ below (QI D (tyG G) (wC G) A o) args s 0 0 A) (F0 m 4 ls []) := by
  intro x1 x2 x3 σ H locs ls h hl hf
  refine lp_el (P := fun q : Int32 × Int32 × Int32 × St => ∀ (H : Heap) (locs : List Loc) (ls : Array Slot), Hs D A s.heap (wC G (q.2.2.2)) H locs → lv_has ls 4 [(0, .ref (G.1 a)), (1, .int (q.1)), (2, .int (q.2.1)), (3, .int (q.2.2.1))] → W p l e ({ frames := 2, cells := 0, slots := 0, locals := 53 } : Room) s m args below meth c H locs 0 0 (MQ below (QI D (tyG G) (wC G) A o) args s 0 0 A) (F0 m 4 ls [])) (fun rec4 q IH4 hf => ?_) _ (x1, x2, x3, σ) hf H locs ls h hl
  obtain ⟨x1, x2, x3, σ⟩ := q
  intro H locs ls h hl
  have hl : lv_has ls 4 [(0, .ref (G.1 a)), (1, .int x1), (2, .int x2), (3, .int x3)] := hl
  have h : Hs D A s.heap (wC G σ) H locs := h
  have hf : b_X1_oddsOfHouses_4 a  rec4 x1 x2 x3 σ = some o := hf
  unfold b_X1_oddsOfHouses_4 at hf
  have hx := C.1
  have hb := C.2.1
  refine lv_iload_n hx hb dX1_oddsOfHouses_4 rfl (lv_at hl 3 rfl) ?_
  refine lv_aload_n hx hb dX1_oddsOfHouses_5 rfl (lv_at hl 0 rfl) ?_
  refine gf_X1_9 C h hpa dX1_oddsOfHouses_6 ?_
  refine gf_X1_57 C h (by decide) dX1_oddsOfHouses_9 ?_
  refine lv_icmp_ge (tgt := 45) hx hb dX1_oddsOfHouses_12 (by decide) (fun c1 => ?_) (fun c1 => ?_)
  · have hf := ifT c1 hf
    refine lv_iload_n hx hb dX1_oddsOfHouses_45 rfl (lv_at hl 2 rfl) ?_
    exact x_iret C hr h hf dX1_oddsOfHouses_46
  · have hf := ifF c1 hf
    refine lv_iload_n hx hb dX1_oddsOfHouses_15 rfl (lv_at hl 1 rfl) ?_
    refine lv_aload_n hx hb dX1_oddsOfHouses_16 rfl (lv_at hl 0 rfl) ?_
    refine gf_X1_9 C h hpa dX1_oddsOfHouses_17 ?_
    refine gf_X1_66 C h (by decide) dX1_oddsOfHouses_20 ?_
    refine lv_iload_n hx hb dX1_oddsOfHouses_23 rfl (lv_at hl 3 rfl) ?_
    refine rd_el hf (fun v2 hinv2 hv2 hf => ?_)
    refine x_iald C h 7 1 (ltA_X5_home (by decide)) ((aC_X5_home G (by decide)) _ _) rfl hinv2 hv2 dX1_oddsOfHouses_24 ?_
    refine lv_ishr hx hb dX1_oddsOfHouses_25 ?_
    refine lv_iconst (v := 1) hx hb dX1_oddsOfHouses_26 (by decide) ?_
    refine lv_iand hx hb dX1_oddsOfHouses_27 ?_
    refine lv_if_eq (tgt := 39) hx hb dX1_oddsOfHouses_28 (by decide) (fun c3 => ?_) (fun c3 => ?_)
    · have hf := ifT c3 hf
      exact t_X1_oddsOfHouses_39 C hr a hpa IH4 x1 x2 x3 σ _ _ _ h (lv_sub hl [0, 1, 2, 3] rfl) hf
    · have hf := ifF c3 hf
      refine lv_iload_n hx hb dX1_oddsOfHouses_31 rfl (lv_at hl 2 rfl) ?_
      refine lv_aload_n hx hb dX1_oddsOfHouses_32 rfl (lv_at hl 0 rfl) ?_
      refine lv_iload_n hx hb dX1_oddsOfHouses_33 rfl (lv_at hl 3 rfl) ?_
      refine bd_el hf (fun r6 σ4 ho5 hf => ?_)
      refine x_goi h (x_runV (As := [.int x3]) (rest := [.int x2]) C h (c_X1_oddsOf l D G a hpa x3 σ (r6, σ4) ho5 _) lk_X1_87 rfl ⟨rfl, rfl, Nat.le_of_ble_eq_true rfl, Nat.le_of_ble_eq_true rfl⟩ (x_rcv C h a (lt_X1 hpa) ((oC_X1 G hpa) _ _) rfl) hl.1 rfl (Nat.le_of_ble_eq_true rfl) dX1_oddsOfHouses_34) (fun H locs h => ?_)
      refine lv_iadd hx hb dX1_oddsOfHouses_37 ?_
      refine nm_el hf (fun z7 ez7 hf => ?_)
      refine x_topi ez7 ?_
      refine lv_istore_n (lv' := [(2, .int z7), (0, .ref (G.1 a)), (1, .int x1), (3, .int x3)]) hx hb dX1_oddsOfHouses_38 rfl hl (by decide) rfl (fun ls hl => ?_)
      exact t_X1_oddsOfHouses_39 C hr a hpa IH4 x1 z7 x3 σ4 _ _ _ h (lv_sub hl [1, 2, 0, 3] rfl) hf
def f_X1_oddsOfHouses (a : Nat) (x1 : Int32) (σ : St) : Option (Int32 × St) := f_X1_oddsOfHouses_4 a x1 0 0 σ
set_option maxHeartbeats 4000000 in
theorem c_X1_oddsOfHouses (l : Launch) (D : va_G) (G : Geo)  (a : Nat) (hpa : is_X1 a) (x1 : Int32) (σ : St) (o : Int32 × St) (hf : f_X1_oddsOfHouses a x1 σ = some o) : CI l D (tyG G) (wC G) yX1_oddsOfHouses cX1_oddsOfHouses 4 ((some .int)) ({ frames := 2, cells := 0, slots := 0, locals := 53 }) [.ref (G.1 a), .int x1] σ o := by
  refine met_of (Qc := fun A => QI D (tyG G) (wC G) A o) pn_X1 (Nat.le_of_ble_eq_true rfl) (fun p e s m below meth c A ls C hr h hl => ?_)
  have C : Cx p s m _ meth c cX1_oddsOfHouses 4 RX1 D (tyG G) := C
  have hl : lv_has ls 4 [(0, .ref (G.1 a)), (1, .int x1)] := hl
  unfold f_X1_oddsOfHouses at hf
  have hx := C.1
  have hb := C.2.1
  refine lv_iconst (v := 0) hx hb dX1_oddsOfHouses_0 (by decide) ?_
  refine lv_istore_n (lv' := [(2, .int 0), (0, .ref (G.1 a)), (1, .int x1)]) hx hb dX1_oddsOfHouses_1 rfl hl (by decide) rfl (fun ls hl => ?_)
  refine lv_iconst (v := 0) hx hb dX1_oddsOfHouses_2 (by decide) ?_
  refine lv_istore_n (lv' := [(3, .int 0), (2, .int 0), (0, .ref (G.1 a)), (1, .int x1)]) hx hb dX1_oddsOfHouses_3 rfl hl (by decide) rfl (fun ls hl => ?_)
  exact t_X1_oddsOfHouses_4 C hr a hpa x1 0 0 σ _ _ _ h (lv_sub hl [2, 3, 1, 0] rfl) hf
def f_X1_mayRuleAt_50 (a : Nat) (rec22 : Int32 × Int32 × Int32 × St → Option (Int32 × St)) (x1 : Int32) (x2 : Int32) (x3 : Int32) (σ : St) : Option (Int32 × St) := rec22 (x1, x2, x3 + 1, σ)
set_option maxHeartbeats 4000000 in
theorem t_X1_mayRuleAt_50 (C : Cx p s m args meth c cX1_mayRuleAt 4 RX1 D (tyG G)) (hr : meth.sig.returnType = (some .boolean)) {o : Int32 × St} (a : Nat) (hpa : is_X1 a) {rec22 : Int32 × Int32 × Int32 × St → Option (Int32 × St)} (IH22 : ∀ q, rec22 q = some o → ∀ (H : Heap) (locs : List Loc) (ls : Array Slot), Hs D A s.heap (wC G (q.2.2.2)) H locs → lv_has ls 4 [(0, .ref (G.1 a)), (1, .int (q.1)), (2, .int (q.2.1)), (3, .int (q.2.2.1))] → W p l e ({ frames := 2, cells := 0, slots := 0, locals := 43 } : Room) s m args below meth c H locs 0 0 (MQ below (QI D (tyG G) (wC G) A o) args s 0 0 A) (F0 m 22 ls [])) : ∀ (x1 : Int32) (x2 : Int32) (x3 : Int32) (σ : St) (H : Heap) (locs : List Loc) (ls : Array Slot), Hs D A s.heap (wC G σ) H locs → lv_has ls 4 [(0, .ref (G.1 a)), (1, .int x1), (2, .int x2), (3, .int x3)] → f_X1_mayRuleAt_50 a rec22 x1 x2 x3 σ = some o → W p l e ({ frames := 2, cells := 0, slots := 0, locals := 43 } : Room) s m args below meth c H locs 0 0 (MQ below (QI D (tyG G) (wC G) A o) args s 0 0 A) (F0 m 50 ls []) := by
  intro x1 x2 x3 σ H locs ls h hl hf
  unfold f_X1_mayRuleAt_50 at hf
  have hx := C.1
  have hb := C.2.1
  refine lv_iinc (v := x3 + 1) (lv' := [(3, .int (x3 + 1)), (0, .ref (G.1 a)), (1, .int x1), (2, .int x2)]) hx hb dX1_mayRuleAt_50 hl (k := 3) rfl rfl (by decide) rfl (fun ls hl => ?_)
  refine lv_goto (tgt := 22) hx hb dX1_mayRuleAt_53 (by decide) ?_
  exact IH22 (x1, x2, x3 + 1, σ) hf _ _ _ h (lv_sub hl [1, 2, 3, 0] rfl)
def b_X1_mayRuleAt_22 (a : Nat)  (rec22 : Int32 × Int32 × Int32 × St → Option (Int32 × St)) (x1 : Int32) (x2 : Int32) (x3 : Int32) (σ : St) : Option (Int32 × St) := if (σ.1 3 4) ≤ x3 then some (1, σ) else if x3 = x1 then f_X1_mayRuleAt_50 a rec22 x1 x2 x3 σ else bd (f_X1_letting a x3 x1 x2 σ) (fun r13 σ11 => if r13 = 0 then some (0, σ11) else f_X1_mayRuleAt_50 a rec22 x1 x2 x3 σ11)
def f_X1_mayRuleAt_22 (a : Nat)  (x1 : Int32) (x2 : Int32) (x3 : Int32) (σ : St) : Option (Int32 × St) := lp (fun (rec22 : Int32 × Int32 × Int32 × St → Option (Int32 × St)) (q : Int32 × Int32 × Int32 × St) => b_X1_mayRuleAt_22 a  rec22 (q.1) (q.2.1) (q.2.2.1) (q.2.2.2)) 100000 (x1, x2, x3, σ)
set_option maxHeartbeats 4000000 in
theorem t_X1_mayRuleAt_22 (C : Cx p s m args meth c cX1_mayRuleAt 4 RX1 D (tyG G)) (hr : meth.sig.returnType = (some .boolean)) {o : Int32 × St} (a : Nat) (hpa : is_X1 a)  : ∀ (x1 : Int32) (x2 : Int32) (x3 : Int32) (σ : St) (H : Heap) (locs : List Loc) (ls : Array Slot), Hs D A s.heap (wC G σ) H locs → lv_has ls 4 [(0, .ref (G.1 a)), (1, .int x1), (2, .int x2), (3, .int x3)] → f_X1_mayRuleAt_22 a  x1 x2 x3 σ = some o → W p l e ({ frames := 2, cells := 0, slots := 0, locals := 43 } : Room) s m args below meth c H locs 0 0 (MQ below (QI D (tyG G) (wC G) A o) args s 0 0 A) (F0 m 22 ls []) := by
  intro x1 x2 x3 σ H locs ls h hl hf
  refine lp_el (P := fun q : Int32 × Int32 × Int32 × St => ∀ (H : Heap) (locs : List Loc) (ls : Array Slot), Hs D A s.heap (wC G (q.2.2.2)) H locs → lv_has ls 4 [(0, .ref (G.1 a)), (1, .int (q.1)), (2, .int (q.2.1)), (3, .int (q.2.2.1))] → W p l e ({ frames := 2, cells := 0, slots := 0, locals := 43 } : Room) s m args below meth c H locs 0 0 (MQ below (QI D (tyG G) (wC G) A o) args s 0 0 A) (F0 m 22 ls [])) (fun rec22 q IH22 hf => ?_) _ (x1, x2, x3, σ) hf H locs ls h hl
  obtain ⟨x1, x2, x3, σ⟩ := q
  intro H locs ls h hl
  have hl : lv_has ls 4 [(0, .ref (G.1 a)), (1, .int x1), (2, .int x2), (3, .int x3)] := hl
  have h : Hs D A s.heap (wC G σ) H locs := h
  have hf : b_X1_mayRuleAt_22 a  rec22 x1 x2 x3 σ = some o := hf
  unfold b_X1_mayRuleAt_22 at hf
  have hx := C.1
  have hb := C.2.1
  refine lv_iload_n hx hb dX1_mayRuleAt_22 rfl (lv_at hl 3 rfl) ?_
  refine lv_aload_n hx hb dX1_mayRuleAt_23 rfl (lv_at hl 0 rfl) ?_
  refine gf_X1_9 C h hpa dX1_mayRuleAt_24 ?_
  refine gf_X1_57 C h (by decide) dX1_mayRuleAt_27 ?_
  refine lv_icmp_ge (tgt := 56) hx hb dX1_mayRuleAt_30 (by decide) (fun c9 => ?_) (fun c9 => ?_)
  · have hf := ifT c9 hf
    refine lv_iconst (v := 1) hx hb dX1_mayRuleAt_56 (by decide) ?_
    exact x_zret C hr h rfl hf dX1_mayRuleAt_57
  · have hf := ifF c9 hf
    refine lv_iload_n hx hb dX1_mayRuleAt_33 rfl (lv_at hl 3 rfl) ?_
    refine lv_iload_n hx hb dX1_mayRuleAt_34 rfl (lv_at hl 1 rfl) ?_
    refine lv_icmp_eq (tgt := 50) hx hb dX1_mayRuleAt_35 (by decide) (fun c10 => ?_) (fun c10 => ?_)
    · have hf := ifT c10 hf
      exact t_X1_mayRuleAt_50 C hr a hpa IH22 x1 x2 x3 σ _ _ _ h (lv_sub hl [0, 1, 2, 3] rfl) hf
    · have hf := ifF c10 hf
      refine lv_aload_n hx hb dX1_mayRuleAt_38 rfl (lv_at hl 0 rfl) ?_
      refine lv_iload_n hx hb dX1_mayRuleAt_39 rfl (lv_at hl 3 rfl) ?_
      refine lv_iload_n hx hb dX1_mayRuleAt_40 rfl (lv_at hl 1 rfl) ?_
      refine lv_iload_n hx hb dX1_mayRuleAt_41 rfl (lv_at hl 2 rfl) ?_
      refine bd_el hf (fun r13 σ11 ho12 hf => ?_)
      refine x_goi h (x_runV (As := [.int x3, .int x1, .int x2]) (rest := []) C h (c_X1_letting l D G a hpa x3 x1 x2 σ (r13, σ11) ho12 _) lk_X1_92 rfl ⟨rfl, rfl, Nat.le_of_ble_eq_true rfl, Nat.le_of_ble_eq_true rfl⟩ (x_rcv C h a (lt_X1 hpa) ((oC_X1 G hpa) _ _) rfl) hl.1 rfl (Nat.le_of_ble_eq_true rfl) dX1_mayRuleAt_42) (fun H locs h => ?_)
      refine lv_if_ne (tgt := 50) hx hb dX1_mayRuleAt_45 (by decide) (fun c14 => ?_) (fun c14 => ?_)
      · have hf := ifF c14 hf
        exact t_X1_mayRuleAt_50 C hr a hpa IH22 x1 x2 x3 σ11 _ _ _ h (lv_sub hl [0, 1, 2, 3] rfl) hf
      · have hf := ifT c14 hf
        refine lv_iconst (v := 0) hx hb dX1_mayRuleAt_48 (by decide) ?_
        exact x_zret C hr h rfl hf dX1_mayRuleAt_49
def f_X1_mayRuleAt (a : Nat) (x1 : Int32) (x2 : Int32) (σ : St) : Option (Int32 × St) := bd (f_X1_firstMinute a x1 σ) (fun r3 σ1 => if x2 < r3 then some (0, σ1) else bd (f_X1_lastMinute a x1 σ1) (fun r7 σ5 => if x2 ≤ r7 then f_X1_mayRuleAt_22 a x1 x2 0 σ5 else some (0, σ5)))
set_option maxHeartbeats 4000000 in
theorem c_X1_mayRuleAt (l : Launch) (D : va_G) (G : Geo)  (a : Nat) (hpa : is_X1 a) (x1 : Int32) (x2 : Int32) (σ : St) (o : Int32 × St) (hf : f_X1_mayRuleAt a x1 x2 σ = some o) : CI l D (tyG G) (wC G) yX1_mayRuleAt cX1_mayRuleAt 4 ((some .boolean)) ({ frames := 2, cells := 0, slots := 0, locals := 43 }) [.ref (G.1 a), .int x1, .int x2] σ o := by
  refine met_of (Qc := fun A => QI D (tyG G) (wC G) A o) pn_X1 (Nat.le_of_ble_eq_true rfl) (fun p e s m below meth c A ls C hr h hl => ?_)
  have C : Cx p s m _ meth c cX1_mayRuleAt 4 RX1 D (tyG G) := C
  have hl : lv_has ls 4 [(0, .ref (G.1 a)), (1, .int x1), (2, .int x2)] := hl
  unfold f_X1_mayRuleAt at hf
  have hx := C.1
  have hb := C.2.1
  refine lv_iload_n hx hb dX1_mayRuleAt_0 rfl (lv_at hl 2 rfl) ?_
  refine lv_aload_n hx hb dX1_mayRuleAt_1 rfl (lv_at hl 0 rfl) ?_
  refine lv_iload_n hx hb dX1_mayRuleAt_2 rfl (lv_at hl 1 rfl) ?_
  refine bd_el hf (fun r3 σ1 ho2 hf => ?_)
  refine x_goi h (x_runV (As := [.int x1]) (rest := [.int x2]) C h (c_X1_firstMinute l D G a hpa x1 σ (r3, σ1) ho2 _) lk_X1_96 rfl ⟨rfl, rfl, Nat.le_of_ble_eq_true rfl, Nat.le_of_ble_eq_true rfl⟩ (x_rcv C h a (lt_X1 hpa) ((oC_X1 G hpa) _ _) rfl) hl.1 rfl (Nat.le_of_ble_eq_true rfl) dX1_mayRuleAt_3) (fun H locs h => ?_)
  refine lv_icmp_lt (tgt := 18) hx hb dX1_mayRuleAt_6 (by decide) (fun c4 => ?_) (fun c4 => ?_)
  · have hf := ifT c4 hf
    refine lv_iconst (v := 0) hx hb dX1_mayRuleAt_18 (by decide) ?_
    exact x_zret C hr h rfl hf dX1_mayRuleAt_19
  · have hf := ifF c4 hf
    refine lv_iload_n hx hb dX1_mayRuleAt_9 rfl (lv_at hl 2 rfl) ?_
    refine lv_aload_n hx hb dX1_mayRuleAt_10 rfl (lv_at hl 0 rfl) ?_
    refine lv_iload_n hx hb dX1_mayRuleAt_11 rfl (lv_at hl 1 rfl) ?_
    refine bd_el hf (fun r7 σ5 ho6 hf => ?_)
    refine x_goi h (x_runV (As := [.int x1]) (rest := [.int x2]) C h (c_X1_lastMinute l D G a hpa x1 σ1 (r7, σ5) ho6 _) lk_X1_99 rfl ⟨rfl, rfl, Nat.le_of_ble_eq_true rfl, Nat.le_of_ble_eq_true rfl⟩ (x_rcv C h a (lt_X1 hpa) ((oC_X1 G hpa) _ _) rfl) hl.1 rfl (Nat.le_of_ble_eq_true rfl) dX1_mayRuleAt_12) (fun H locs h => ?_)
    refine lv_icmp_le (tgt := 20) hx hb dX1_mayRuleAt_15 (by decide) (fun c8 => ?_) (fun c8 => ?_)
    · have hf := ifT c8 hf
      refine lv_iconst (v := 0) hx hb dX1_mayRuleAt_20 (by decide) ?_
      refine lv_istore_n (lv' := [(3, .int 0), (0, .ref (G.1 a)), (1, .int x1), (2, .int x2)]) hx hb dX1_mayRuleAt_21 rfl hl (by decide) rfl (fun ls hl => ?_)
      exact t_X1_mayRuleAt_22 C hr a hpa x1 x2 0 σ5 _ _ _ h (lv_sub hl [1, 2, 3, 0] rfl) hf
    · have hf := ifF c8 hf
      refine lv_iconst (v := 0) hx hb dX1_mayRuleAt_18 (by decide) ?_
      exact x_zret C hr h rfl hf dX1_mayRuleAt_19
def f_X0_draw  (x1 : Int32) (σ : St) : Option (Int32 × St) := nm (sI σ 19 9 ((((((σ.1 19 9 : Int32).toInt64) * 1103515245) + 12345) &&& 2147483647 : Int64).toInt32)) (fun σ1 => if x1 ≤ 0 then some (0, σ1) else ck (nz x1) (some (((σ1.1 19 9) / 65536) - ((σ1.1 19 9) / 65536) / x1 * x1, σ1)))
set_option maxHeartbeats 4000000 in
theorem c_X0_draw (l : Launch) (D : va_G) (G : Geo)   (x1 : Int32) (σ : St) (o : Int32 × St) (hf : f_X0_draw  x1 σ = some o) : CI l D (tyG G) (wC G) yX0_draw cX0_draw 2 ((some .int)) ({ frames := 0, cells := 0, slots := 0, locals := 0 }) [.ref (G.1 19), .int x1] σ o := by
  refine met_of (Qc := fun A => QI D (tyG G) (wC G) A o) pn_X0 (Nat.le_of_ble_eq_true rfl) (fun p e s m below meth c A ls C hr h hl => ?_)
  have C : Cx p s m _ meth c cX0_draw 2 RX0 D (tyG G) := C
  have hl : lv_has ls 2 [(0, .ref (G.1 19)), (1, .int x1)] := hl
  unfold f_X0_draw at hf
  have hx := C.1
  have hb := C.2.1
  refine lv_aload_n hx hb dX0_draw_0 rfl (lv_at hl 0 rfl) ?_
  refine lv_aload_n hx hb dX0_draw_1 rfl (lv_at hl 0 rfl) ?_
  refine gf_X0_69 C h (by decide) dX0_draw_2 ?_
  refine lv_i2l (v := (σ.1 19 9 : Int32).toInt64) hx hb dX0_draw_5 rfl ?_
  refine lv_ldc2 (v := 1103515245) hx hb C.2.2.2.1 (C.2.2.2.2.1 _ q558) dX0_draw_6 ?_
  refine lv_lmul hx hb dX0_draw_9 ?_
  refine lv_ldc2 (v := 12345) hx hb C.2.2.2.1 (C.2.2.2.2.1 _ q559) dX0_draw_10 ?_
  refine lv_ladd hx hb dX0_draw_13 ?_
  refine lv_ldc2 (v := 2147483647) hx hb C.2.2.2.1 (C.2.2.2.2.1 _ q560) dX0_draw_14 ?_
  refine lv_land hx hb dX0_draw_17 ?_
  refine lv_l2i (v := (((((σ.1 19 9 : Int32).toInt64) * 1103515245) + 12345) &&& 2147483647 : Int64).toInt32) hx hb dX0_draw_18 rfl ?_
  refine nm_el hf (fun σ1 hσ1 hf => ?_)
  refine pf_X0_69 C h (by decide) dX0_draw_19 hσ1 (fun H locs h => ?_)
  refine lv_iload_n hx hb dX0_draw_22 rfl (lv_at hl 1 rfl) ?_
  refine lv_if_le (tgt := 38) hx hb dX0_draw_23 (by decide) (fun c2 => ?_) (fun c2 => ?_)
  · have hf := ifT c2 hf
    refine lv_iconst (v := 0) hx hb dX0_draw_38 (by decide) ?_
    exact x_iret C hr h hf dX0_draw_39
  · have hf := ifF c2 hf
    refine lv_aload_n hx hb dX0_draw_26 rfl (lv_at hl 0 rfl) ?_
    refine gf_X0_69 C h (by decide) dX0_draw_27 ?_
    refine lv_ldc (v := 65536) hx hb C.2.2.2.1 (C.2.2.2.2.1 _ q561) dX0_draw_30 ?_
    refine lv_idiv hx hb dX0_draw_32 (by decide) ?_
    refine lv_iload_n hx hb dX0_draw_33 rfl (lv_at hl 1 rfl) ?_
    refine ck_el hf (fun hz3 hf => ?_)
    refine lv_irem hx hb dX0_draw_34 (of_decide_eq_true hz3) ?_
    refine lv_goto (tgt := 39) hx hb dX0_draw_35 (by decide) ?_
    exact x_iret C hr h hf dX0_draw_39
def f_X0_whoIsAhead_76  (rec4 : Int32 × Int32 × St → Option (Int32 × St)) (x1 : Int32) (x2 : Int32) (σ : St) : Option (Int32 × St) := rec4 (x1, x2 + 1, σ)
set_option maxHeartbeats 4000000 in
theorem t_X0_whoIsAhead_76 (C : Cx p s m args meth c cX0_whoIsAhead 4 RX0 D (tyG G)) (hr : meth.sig.returnType = (some .int)) {o : Int32 × St}  {rec4 : Int32 × Int32 × St → Option (Int32 × St)} (IH4 : ∀ q, rec4 q = some o → ∀ (H : Heap) (locs : List Loc) (ls : Array Slot), Hs D A s.heap (wC G (q.2.2)) H locs → lv_has ls 4 [(0, .ref (G.1 19)), (1, .int (q.1)), (2, .int (q.2.1))] → W p l e ({ frames := 0, cells := 0, slots := 0, locals := 0 } : Room) s m args below meth c H locs 0 0 (MQ below (QI D (tyG G) (wC G) A o) args s 0 0 A) (F0 m 4 ls [])) : ∀ (x1 : Int32) (x2 : Int32) (σ : St) (H : Heap) (locs : List Loc) (ls : Array Slot), Hs D A s.heap (wC G σ) H locs → lv_has ls 4 [(0, .ref (G.1 19)), (1, .int x1), (2, .int x2)] → f_X0_whoIsAhead_76  rec4 x1 x2 σ = some o → W p l e ({ frames := 0, cells := 0, slots := 0, locals := 0 } : Room) s m args below meth c H locs 0 0 (MQ below (QI D (tyG G) (wC G) A o) args s 0 0 A) (F0 m 76 ls []) := by
  intro x1 x2 σ H locs ls h hl hf
  unfold f_X0_whoIsAhead_76 at hf
  have hx := C.1
  have hb := C.2.1
  refine lv_iinc (v := x2 + 1) (lv' := [(2, .int (x2 + 1)), (0, .ref (G.1 19)), (1, .int x1)]) hx hb dX0_whoIsAhead_76 hl (k := 2) rfl rfl (by decide) rfl (fun ls hl => ?_)
  refine lv_goto (tgt := 4) hx hb dX0_whoIsAhead_79 (by decide) ?_
  exact IH4 (x1, x2 + 1, σ) hf _ _ _ h (lv_sub hl [1, 2, 0] rfl)
def f_X0_whoIsAhead_69  (rec4 : Int32 × Int32 × St → Option (Int32 × St)) (x1 : Int32) (x2 : Int32) (y0 : Int32) (σ : St) : Option (Int32 × St) := if y0 = 0 then f_X0_whoIsAhead_76 rec4 x1 x2 σ else f_X0_whoIsAhead_76 rec4 x2 x2 σ
set_option maxHeartbeats 4000000 in
theorem t_X0_whoIsAhead_69 (C : Cx p s m args meth c cX0_whoIsAhead 4 RX0 D (tyG G)) (hr : meth.sig.returnType = (some .int)) {o : Int32 × St}  {rec4 : Int32 × Int32 × St → Option (Int32 × St)} (IH4 : ∀ q, rec4 q = some o → ∀ (H : Heap) (locs : List Loc) (ls : Array Slot), Hs D A s.heap (wC G (q.2.2)) H locs → lv_has ls 4 [(0, .ref (G.1 19)), (1, .int (q.1)), (2, .int (q.2.1))] → W p l e ({ frames := 0, cells := 0, slots := 0, locals := 0 } : Room) s m args below meth c H locs 0 0 (MQ below (QI D (tyG G) (wC G) A o) args s 0 0 A) (F0 m 4 ls [])) : ∀ (x1 : Int32) (x2 : Int32) (y0 : Int32) (σ : St) (H : Heap) (locs : List Loc) (ls : Array Slot), Hs D A s.heap (wC G σ) H locs → lv_has ls 4 [(0, .ref (G.1 19)), (1, .int x1), (2, .int x2)] → f_X0_whoIsAhead_69  rec4 x1 x2 y0 σ = some o → W p l e ({ frames := 0, cells := 0, slots := 0, locals := 0 } : Room) s m args below meth c H locs 0 0 (MQ below (QI D (tyG G) (wC G) A o) args s 0 0 A) (F0 m 69 ls [.int y0]) := by
  intro x1 x2 y0 σ H locs ls h hl hf
  unfold f_X0_whoIsAhead_69 at hf
  have hx := C.1
  have hb := C.2.1
  refine lv_istore_n (lv' := [(3, .int y0), (0, .ref (G.1 19)), (1, .int x1), (2, .int x2)]) hx hb dX0_whoIsAhead_69 rfl hl (by decide) rfl (fun ls hl => ?_)
  refine lv_iload_n hx hb dX0_whoIsAhead_70 rfl (lv_at hl 0 rfl) ?_
  refine lv_if_eq (tgt := 76) hx hb dX0_whoIsAhead_71 (by decide) (fun c9 => ?_) (fun c9 => ?_)
  · have hf := ifT c9 hf
    exact t_X0_whoIsAhead_76 C hr IH4 x1 x2 σ _ _ _ h (lv_sub hl [1, 2, 3] rfl) hf
  · have hf := ifF c9 hf
    refine lv_iload_n hx hb dX0_whoIsAhead_74 rfl (lv_at hl 3 rfl) ?_
    refine lv_istore_n (lv' := [(1, .int x2), (3, .int y0), (0, .ref (G.1 19)), (2, .int x2)]) hx hb dX0_whoIsAhead_75 rfl hl (by decide) rfl (fun ls hl => ?_)
    exact t_X0_whoIsAhead_76 C hr IH4 x2 x2 σ _ _ _ h (lv_sub hl [2, 0, 3] rfl) hf
def b_X0_whoIsAhead_4   (rec4 : Int32 × Int32 × St → Option (Int32 × St)) (x1 : Int32) (x2 : Int32) (σ : St) : Option (Int32 × St) := if (σ.1 3 4) ≤ x2 then some (x1, σ) else if (σ.1 20 5) = 1 then rd (σ.1 29) 8 x2 (fun v6 => rd (σ.1 29) 8 x1 (fun v7 => if v6 ≤ v7 then f_X0_whoIsAhead_69 rec4 x1 x2 0 σ else f_X0_whoIsAhead_69 rec4 x1 x2 1 σ)) else rd (σ.1 29) 8 x2 (fun v3 => rd (σ.1 29) 8 x1 (fun v4 => if v4 ≤ v3 then f_X0_whoIsAhead_69 rec4 x1 x2 0 σ else f_X0_whoIsAhead_69 rec4 x1 x2 1 σ))
def f_X0_whoIsAhead_4   (x1 : Int32) (x2 : Int32) (σ : St) : Option (Int32 × St) := lp (fun (rec4 : Int32 × Int32 × St → Option (Int32 × St)) (q : Int32 × Int32 × St) => b_X0_whoIsAhead_4   rec4 (q.1) (q.2.1) (q.2.2)) 100000 (x1, x2, σ)
set_option maxHeartbeats 4000000 in
theorem t_X0_whoIsAhead_4 (C : Cx p s m args meth c cX0_whoIsAhead 4 RX0 D (tyG G)) (hr : meth.sig.returnType = (some .int)) {o : Int32 × St}   : ∀ (x1 : Int32) (x2 : Int32) (σ : St) (H : Heap) (locs : List Loc) (ls : Array Slot), Hs D A s.heap (wC G σ) H locs → lv_has ls 4 [(0, .ref (G.1 19)), (1, .int x1), (2, .int x2)] → f_X0_whoIsAhead_4   x1 x2 σ = some o → W p l e ({ frames := 0, cells := 0, slots := 0, locals := 0 } : Room) s m args below meth c H locs 0 0 (MQ below (QI D (tyG G) (wC G) A o) args s 0 0 A) (F0 m 4 ls []) := by
  intro x1 x2 σ H locs ls h hl hf
  refine lp_el (P := fun q : Int32 × Int32 × St => ∀ (H : Heap) (locs : List Loc) (ls : Array Slot), Hs D A s.heap (wC G (q.2.2)) H locs → lv_has ls 4 [(0, .ref (G.1 19)), (1, .int (q.1)), (2, .int (q.2.1))] → W p l e ({ frames := 0, cells := 0, slots := 0, locals := 0 } : Room) s m args below meth c H locs 0 0 (MQ below (QI D (tyG G) (wC G) A o) args s 0 0 A) (F0 m 4 ls [])) (fun rec4 q IH4 hf => ?_) _ (x1, x2, σ) hf H locs ls h hl
  obtain ⟨x1, x2, σ⟩ := q
  intro H locs ls h hl
  have hl : lv_has ls 4 [(0, .ref (G.1 19)), (1, .int x1), (2, .int x2)] := hl
  have h : Hs D A s.heap (wC G σ) H locs := h
  have hf : b_X0_whoIsAhead_4   rec4 x1 x2 σ = some o := hf
  unfold b_X0_whoIsAhead_4 at hf
  have hx := C.1
  have hb := C.2.1
  refine lv_iload_n hx hb dX0_whoIsAhead_4 rfl (lv_at hl 2 rfl) ?_
  refine lv_aload_n hx hb dX0_whoIsAhead_5 rfl (lv_at hl 0 rfl) ?_
  refine gf_X0_9 C h (by decide) dX0_whoIsAhead_6 ?_
  refine gf_X0_72 C h (by decide) dX0_whoIsAhead_9 ?_
  refine lv_icmp_ge (tgt := 82) hx hb dX0_whoIsAhead_12 (by decide) (fun c1 => ?_) (fun c1 => ?_)
  · have hf := ifT c1 hf
    refine lv_iload_n hx hb dX0_whoIsAhead_82 rfl (lv_at hl 1 rfl) ?_
    exact x_iret C hr h hf dX0_whoIsAhead_83
  · have hf := ifF c1 hf
    refine lv_aload_n hx hb dX0_whoIsAhead_15 rfl (lv_at hl 0 rfl) ?_
    refine gf_X0_20 C h (by decide) dX0_whoIsAhead_16 ?_
    refine gf_X0_88 C h (by decide) dX0_whoIsAhead_19 ?_
    refine lv_iconst (v := 1) hx hb dX0_whoIsAhead_22 (by decide) ?_
    refine lv_icmp_ne (tgt := 49) hx hb dX0_whoIsAhead_23 (by decide) (fun c2 => ?_) (fun c2 => ?_)
    · have hf := ifF c2 hf
      refine lv_aload_n hx hb dX0_whoIsAhead_49 rfl (lv_at hl 0 rfl) ?_
      refine gf_X0_37 C h (by decide) dX0_whoIsAhead_50 ?_
      refine lv_iload_n hx hb dX0_whoIsAhead_53 rfl (lv_at hl 2 rfl) ?_
      refine rd_el hf (fun v3 hinv3 hv3 hf => ?_)
      refine x_iald C h 29 1 (ltA_X0_awake (by decide)) ((aC_X0_awake G (by decide)) _ _) rfl hinv3 hv3 dX0_whoIsAhead_54 ?_
      refine lv_aload_n hx hb dX0_whoIsAhead_55 rfl (lv_at hl 0 rfl) ?_
      refine gf_X0_37 C h (by decide) dX0_whoIsAhead_56 ?_
      refine lv_iload_n hx hb dX0_whoIsAhead_59 rfl (lv_at hl 1 rfl) ?_
      refine rd_el hf (fun v4 hinv4 hv4 hf => ?_)
      refine x_iald C h 29 1 (ltA_X0_awake (by decide)) ((aC_X0_awake G (by decide)) _ _) rfl hinv4 hv4 dX0_whoIsAhead_60 ?_
      refine lv_icmp_ge (tgt := 68) hx hb dX0_whoIsAhead_61 (by decide) (fun c5 => ?_) (fun c5 => ?_)
      · have hf := ifT c5 hf
        refine lv_iconst (v := 0) hx hb dX0_whoIsAhead_68 (by decide) ?_
        exact t_X0_whoIsAhead_69 C hr IH4 x1 x2 0 σ _ _ _ h (lv_sub hl [0, 1, 2] rfl) hf
      · have hf := ifF c5 hf
        refine lv_iconst (v := 1) hx hb dX0_whoIsAhead_64 (by decide) ?_
        refine lv_goto (tgt := 69) hx hb dX0_whoIsAhead_65 (by decide) ?_
        exact t_X0_whoIsAhead_69 C hr IH4 x1 x2 1 σ _ _ _ h (lv_sub hl [0, 1, 2] rfl) hf
    · have hf := ifT c2 hf
      refine lv_aload_n hx hb dX0_whoIsAhead_26 rfl (lv_at hl 0 rfl) ?_
      refine gf_X0_37 C h (by decide) dX0_whoIsAhead_27 ?_
      refine lv_iload_n hx hb dX0_whoIsAhead_30 rfl (lv_at hl 2 rfl) ?_
      refine rd_el hf (fun v6 hinv6 hv6 hf => ?_)
      refine x_iald C h 29 1 (ltA_X0_awake (by decide)) ((aC_X0_awake G (by decide)) _ _) rfl hinv6 hv6 dX0_whoIsAhead_31 ?_
      refine lv_aload_n hx hb dX0_whoIsAhead_32 rfl (lv_at hl 0 rfl) ?_
      refine gf_X0_37 C h (by decide) dX0_whoIsAhead_33 ?_
      refine lv_iload_n hx hb dX0_whoIsAhead_36 rfl (lv_at hl 1 rfl) ?_
      refine rd_el hf (fun v7 hinv7 hv7 hf => ?_)
      refine x_iald C h 29 1 (ltA_X0_awake (by decide)) ((aC_X0_awake G (by decide)) _ _) rfl hinv7 hv7 dX0_whoIsAhead_37 ?_
      refine lv_icmp_le (tgt := 45) hx hb dX0_whoIsAhead_38 (by decide) (fun c8 => ?_) (fun c8 => ?_)
      · have hf := ifT c8 hf
        refine lv_iconst (v := 0) hx hb dX0_whoIsAhead_45 (by decide) ?_
        refine lv_goto (tgt := 69) hx hb dX0_whoIsAhead_46 (by decide) ?_
        exact t_X0_whoIsAhead_69 C hr IH4 x1 x2 0 σ _ _ _ h (lv_sub hl [0, 1, 2] rfl) hf
      · have hf := ifF c8 hf
        refine lv_iconst (v := 1) hx hb dX0_whoIsAhead_41 (by decide) ?_
        refine lv_goto (tgt := 69) hx hb dX0_whoIsAhead_42 (by decide) ?_
        exact t_X0_whoIsAhead_69 C hr IH4 x1 x2 1 σ _ _ _ h (lv_sub hl [0, 1, 2] rfl) hf
def f_X0_whoIsAhead   (σ : St) : Option (Int32 × St) := f_X0_whoIsAhead_4 0 1 σ
set_option maxHeartbeats 4000000 in
theorem c_X0_whoIsAhead (l : Launch) (D : va_G) (G : Geo)    (σ : St) (o : Int32 × St) (hf : f_X0_whoIsAhead   σ = some o) : CI l D (tyG G) (wC G) yX0_whoIsAhead cX0_whoIsAhead 4 ((some .int)) ({ frames := 0, cells := 0, slots := 0, locals := 0 }) [.ref (G.1 19)] σ o := by
  refine met_of (Qc := fun A => QI D (tyG G) (wC G) A o) pn_X0 (Nat.le_of_ble_eq_true rfl) (fun p e s m below meth c A ls C hr h hl => ?_)
  have C : Cx p s m _ meth c cX0_whoIsAhead 4 RX0 D (tyG G) := C
  have hl : lv_has ls 4 [(0, .ref (G.1 19))] := hl
  unfold f_X0_whoIsAhead at hf
  have hx := C.1
  have hb := C.2.1
  refine lv_iconst (v := 0) hx hb dX0_whoIsAhead_0 (by decide) ?_
  refine lv_istore_n (lv' := [(1, .int 0), (0, .ref (G.1 19))]) hx hb dX0_whoIsAhead_1 rfl hl (by decide) rfl (fun ls hl => ?_)
  refine lv_iconst (v := 1) hx hb dX0_whoIsAhead_2 (by decide) ?_
  refine lv_istore_n (lv' := [(2, .int 1), (1, .int 0), (0, .ref (G.1 19))]) hx hb dX0_whoIsAhead_3 rfl hl (by decide) rfl (fun ls hl => ?_)
  exact t_X0_whoIsAhead_4 C hr 0 1 σ _ _ _ h (lv_sub hl [2, 1, 0] rfl) hf
def f_X0_keepRuler  (x1 : Int32) (σ : St) : Option (St) := if (200 : Int32) ≤ (σ.1 19 6) then some σ else ck (inb (σ.1 19 6) 200) (nm (sI σ 27 (σ.1 19 6 : Int32).toNatClampNeg x1) (fun σ3 => rd (σ3.1 29) 8 x1 (fun v4 => ck (inb (σ3.1 19 6) 200) (nm (sI σ3 28 (σ3.1 19 6 : Int32).toNatClampNeg v4) (fun σ6 => nm (sI σ6 19 6 ((σ6.1 19 6) + 1)) (fun σ7 => some σ7))))))
set_option maxHeartbeats 4000000 in
theorem c_X0_keepRuler (l : Launch) (D : va_G) (G : Geo)   (x1 : Int32) (σ : St) (o : St) (hf : f_X0_keepRuler  x1 σ = some o) : CV l D (tyG G) (wC G) yX0_keepRuler cX0_keepRuler 2 none ({ frames := 0, cells := 0, slots := 0, locals := 0 }) [.ref (G.1 19), .int x1] σ o := by
  refine met_of (Qc := fun A => QV D (tyG G) (wC G) A o) pn_X0 (Nat.le_of_ble_eq_true rfl) (fun p e s m below meth c A ls C hr h hl => ?_)
  have C : Cx p s m _ meth c cX0_keepRuler 2 RX0 D (tyG G) := C
  have hl : lv_has ls 2 [(0, .ref (G.1 19)), (1, .int x1)] := hl
  unfold f_X0_keepRuler at hf
  have hx := C.1
  have hb := C.2.1
  refine lv_aload_n hx hb dX0_keepRuler_0 rfl (lv_at hl 0 rfl) ?_
  refine gf_X0_56 C h (by decide) dX0_keepRuler_1 ?_
  refine lv_sipush (v := 200) hx hb dX0_keepRuler_4 (by decide) ?_
  refine lv_icmp_ge (tgt := 45) hx hb dX0_keepRuler_7 (by decide) (fun c1 => ?_) (fun c1 => ?_)
  · have hf := ifT c1 hf
    exact x_vret C hr h hf dX0_keepRuler_45
  · have hf := ifF c1 hf
    refine lv_aload_n hx hb dX0_keepRuler_10 rfl (lv_at hl 0 rfl) ?_
    refine gf_X0_31 C h (by decide) dX0_keepRuler_11 ?_
    refine lv_aload_n hx hb dX0_keepRuler_14 rfl (lv_at hl 0 rfl) ?_
    refine gf_X0_56 C h (by decide) dX0_keepRuler_15 ?_
    refine lv_iload_n hx hb dX0_keepRuler_18 rfl (lv_at hl 1 rfl) ?_
    refine ckb_el hf (fun hin2 hf => ?_)
    refine nm_el hf (fun σ3 hσ3 hf => ?_)
    refine x_iast C h 27 1 (ltA_X0_rulers (by decide)) (fun f => (aC_X0_rulers G (by decide)) f _) rfl hin2 dX0_keepRuler_19 hσ3 (fun H locs h => ?_)
    refine lv_aload_n hx hb dX0_keepRuler_20 rfl (lv_at hl 0 rfl) ?_
    refine gf_X0_34 C h (by decide) dX0_keepRuler_21 ?_
    refine lv_aload_n hx hb dX0_keepRuler_24 rfl (lv_at hl 0 rfl) ?_
    refine gf_X0_56 C h (by decide) dX0_keepRuler_25 ?_
    refine lv_aload_n hx hb dX0_keepRuler_28 rfl (lv_at hl 0 rfl) ?_
    refine gf_X0_37 C h (by decide) dX0_keepRuler_29 ?_
    refine lv_iload_n hx hb dX0_keepRuler_32 rfl (lv_at hl 1 rfl) ?_
    refine rd_el hf (fun v4 hinv4 hv4 hf => ?_)
    refine x_iald C h 29 1 (ltA_X0_awake (by decide)) ((aC_X0_awake G (by decide)) _ _) rfl hinv4 hv4 dX0_keepRuler_33 ?_
    refine ckb_el hf (fun hin5 hf => ?_)
    refine nm_el hf (fun σ6 hσ6 hf => ?_)
    refine x_iast C h 28 1 (ltA_X0_minutes (by decide)) (fun f => (aC_X0_minutes G (by decide)) f _) rfl hin5 dX0_keepRuler_34 hσ6 (fun H locs h => ?_)
    refine lv_aload_n hx hb dX0_keepRuler_35 rfl (lv_at hl 0 rfl) ?_
    refine lv_dup hx hb dX0_keepRuler_36 rfl ?_
    refine gf_X0_56 C h (by decide) dX0_keepRuler_37 ?_
    refine lv_iconst (v := 1) hx hb dX0_keepRuler_40 (by decide) ?_
    refine lv_iadd hx hb dX0_keepRuler_41 ?_
    refine nm_el hf (fun σ7 hσ7 hf => ?_)
    refine pf_X0_56 C h (by decide) dX0_keepRuler_42 hσ7 (fun H locs h => ?_)
    exact x_vret C hr h hf dX0_keepRuler_45
def f_X0_countDayOf  (x1 : Int32) (σ : St) : Option (St) := rd (σ.1 25) 5 x1 (fun v1 => nm (v1 + 1) (fun z2 => bv (f_J7_fill_53178 25 5 0 σ) (fun σ3 => rd (σ3.1 4) 5 x1 (fun v5 => if z2 < v5 then ck (inb x1 5) (nm (sI σ3 25 (x1 : Int32).toNatClampNeg z2) (fun σ8 => some σ8)) else rd (σ3.1 26) 5 x1 (fun v9 => ck (inb x1 5) (nm (sI σ3 26 (x1 : Int32).toNatClampNeg (v9 + 1)) (fun σ11 => rd (σ11.1 5) 5 x1 (fun v12 => nm (sI σ11 19 5 ((σ11.1 19 5) + v12)) (fun σ13 => some σ13)))))))))
set_option maxHeartbeats 4000000 in
theorem c_X0_countDayOf (l : Launch) (D : va_G) (G : Geo)   (x1 : Int32) (σ : St) (o : St) (hf : f_X0_countDayOf  x1 σ = some o) : CV l D (tyG G) (wC G) yX0_countDayOf cX0_countDayOf 3 none ({ frames := 1, cells := 0, slots := 0, locals := 23 }) [.ref (G.1 19), .int x1] σ o := by
  refine met_of (Qc := fun A => QV D (tyG G) (wC G) A o) pn_X0 (Nat.le_of_ble_eq_true rfl) (fun p e s m below meth c A ls C hr h hl => ?_)
  have C : Cx p s m _ meth c cX0_countDayOf 3 RX0 D (tyG G) := C
  have hl : lv_has ls 3 [(0, .ref (G.1 19)), (1, .int x1)] := hl
  unfold f_X0_countDayOf at hf
  have hx := C.1
  have hb := C.2.1
  refine lv_aload_n hx hb dX0_countDayOf_0 rfl (lv_at hl 0 rfl) ?_
  refine gf_X0_24 C h (by decide) dX0_countDayOf_1 ?_
  refine lv_iload_n hx hb dX0_countDayOf_4 rfl (lv_at hl 1 rfl) ?_
  refine rd_el hf (fun v1 hinv1 hv1 hf => ?_)
  refine x_iald C h 25 1 (ltA_X0_onEnd (by decide)) ((aC_X0_onEnd G (by decide)) _ _) rfl hinv1 hv1 dX0_countDayOf_5 ?_
  refine lv_iconst (v := 1) hx hb dX0_countDayOf_6 (by decide) ?_
  refine lv_iadd hx hb dX0_countDayOf_7 ?_
  refine nm_el hf (fun z2 ez2 hf => ?_)
  refine x_topi ez2 ?_
  refine lv_istore_n (lv' := [(2, .int z2), (0, .ref (G.1 19)), (1, .int x1)]) hx hb dX0_countDayOf_8 rfl hl (by decide) rfl (fun ls hl => ?_)
  refine lv_aload_n hx hb dX0_countDayOf_9 rfl (lv_at hl 1 rfl) ?_
  refine gf_X0_24 C h (by decide) dX0_countDayOf_10 ?_
  refine lv_iconst (v := 0) hx hb dX0_countDayOf_13 (by decide) ?_
  refine bv_el hf (fun σ3 ho4 hf => ?_)
  refine x_gov h (x_runS (As := [.ref (G.1 25), .int 0]) (rest := []) C h (c_J7_fill_53178 l D G 25 5 ⟨(ltA_X0_onEnd (by decide)), (aC_X0_onEnd G (by decide))⟩ 0 σ σ3 ho4 _) lk_X0_47 rfl ⟨rfl, rfl, Nat.le_of_ble_eq_true rfl, Nat.le_of_ble_eq_true rfl⟩ hl.1 rfl (Nat.le_of_ble_eq_true rfl) dX0_countDayOf_14) (fun H locs h => ?_)
  refine lv_iload_n hx hb dX0_countDayOf_17 rfl (lv_at hl 0 rfl) ?_
  refine lv_aload_n hx hb dX0_countDayOf_18 rfl (lv_at hl 1 rfl) ?_
  refine gf_X0_9 C h (by decide) dX0_countDayOf_19 ?_
  refine gf_X0_112 C h (by decide) dX0_countDayOf_22 ?_
  refine lv_iload_n hx hb dX0_countDayOf_25 rfl (lv_at hl 2 rfl) ?_
  refine rd_el hf (fun v5 hinv5 hv5 hf => ?_)
  refine x_iald C h 4 1 (ltA_X5_need (by decide)) ((aC_X5_need G (by decide)) _ _) rfl hinv5 hv5 dX0_countDayOf_26 ?_
  refine lv_icmp_lt (tgt := 61) hx hb dX0_countDayOf_27 (by decide) (fun c6 => ?_) (fun c6 => ?_)
  · have hf := ifT c6 hf
    refine lv_aload_n hx hb dX0_countDayOf_61 rfl (lv_at hl 1 rfl) ?_
    refine gf_X0_24 C h (by decide) dX0_countDayOf_62 ?_
    refine lv_iload_n hx hb dX0_countDayOf_65 rfl (lv_at hl 2 rfl) ?_
    refine lv_iload_n hx hb dX0_countDayOf_66 rfl (lv_at hl 0 rfl) ?_
    refine ckb_el hf (fun hin7 hf => ?_)
    refine nm_el hf (fun σ8 hσ8 hf => ?_)
    refine x_iast C h 25 1 (ltA_X0_onEnd (by decide)) (fun f => (aC_X0_onEnd G (by decide)) f _) rfl hin7 dX0_countDayOf_67 hσ8 (fun H locs h => ?_)
    exact x_vret C hr h hf dX0_countDayOf_68
  · have hf := ifF c6 hf
    refine lv_aload_n hx hb dX0_countDayOf_30 rfl (lv_at hl 1 rfl) ?_
    refine gf_X0_28 C h (by decide) dX0_countDayOf_31 ?_
    refine lv_iload_n hx hb dX0_countDayOf_34 rfl (lv_at hl 2 rfl) ?_
    refine lv_dup2_11 hx hb dX0_countDayOf_35 rfl rfl ?_
    refine rd_el hf (fun v9 hinv9 hv9 hf => ?_)
    refine x_iald C h 26 1 (ltA_X0_done (by decide)) ((aC_X0_done G (by decide)) _ _) rfl hinv9 hv9 dX0_countDayOf_36 ?_
    refine lv_iconst (v := 1) hx hb dX0_countDayOf_37 (by decide) ?_
    refine lv_iadd hx hb dX0_countDayOf_38 ?_
    refine ckb_el hf (fun hin10 hf => ?_)
    refine nm_el hf (fun σ11 hσ11 hf => ?_)
    refine x_iast C h 26 1 (ltA_X0_done (by decide)) (fun f => (aC_X0_done G (by decide)) f _) rfl hin10 dX0_countDayOf_39 hσ11 (fun H locs h => ?_)
    refine lv_aload_n hx hb dX0_countDayOf_40 rfl (lv_at hl 1 rfl) ?_
    refine lv_dup hx hb dX0_countDayOf_41 rfl ?_
    refine gf_X0_53 C h (by decide) dX0_countDayOf_42 ?_
    refine lv_aload_n hx hb dX0_countDayOf_45 rfl (lv_at hl 1 rfl) ?_
    refine gf_X0_9 C h (by decide) dX0_countDayOf_46 ?_
    refine gf_X0_115 C h (by decide) dX0_countDayOf_49 ?_
    refine lv_iload_n hx hb dX0_countDayOf_52 rfl (lv_at hl 2 rfl) ?_
    refine rd_el hf (fun v12 hinv12 hv12 hf => ?_)
    refine x_iald C h 5 1 (ltA_X5_worth (by decide)) ((aC_X5_worth G (by decide)) _ _) rfl hinv12 hv12 dX0_countDayOf_53 ?_
    refine lv_iadd hx hb dX0_countDayOf_54 ?_
    refine nm_el hf (fun σ13 hσ13 hf => ?_)
    refine pf_X0_53 C h (by decide) dX0_countDayOf_55 hσ13 (fun H locs h => ?_)
    refine lv_goto (tgt := 68) hx hb dX0_countDayOf_58 (by decide) ?_
    exact x_vret C hr h hf dX0_countDayOf_68
def f_X0_beginAnew   (σ : St) : Option (St) := bv (f_X1_beginAnew 20 σ) (fun σ1 => nm (sI σ1 19 2 0) (fun σ3 => bv (f_J7_fill_53178 25 5 0 σ3) (fun σ4 => bv (f_J7_fill_53178 26 5 0 σ4) (fun σ6 => nm (sI σ6 19 5 0) (fun σ8 => nm (sI σ8 19 6 0) (fun σ9 => some σ9))))))
set_option maxHeartbeats 4000000 in
theorem c_X0_beginAnew (l : Launch) (D : va_G) (G : Geo)    (σ : St) (o : St) (hf : f_X0_beginAnew   σ = some o) : CV l D (tyG G) (wC G) yX0_beginAnew cX0_beginAnew 1 none ({ frames := 3, cells := 0, slots := 0, locals := 67 }) [.ref (G.1 19)] σ o := by
  refine met_of (Qc := fun A => QV D (tyG G) (wC G) A o) pn_X0 (Nat.le_of_ble_eq_true rfl) (fun p e s m below meth c A ls C hr h hl => ?_)
  have C : Cx p s m _ meth c cX0_beginAnew 1 RX0 D (tyG G) := C
  have hl : lv_has ls 1 [(0, .ref (G.1 19))] := hl
  unfold f_X0_beginAnew at hf
  have hx := C.1
  have hb := C.2.1
  refine lv_aload_n hx hb dX0_beginAnew_0 rfl (lv_at hl 0 rfl) ?_
  refine gf_X0_20 C h (by decide) dX0_beginAnew_1 ?_
  refine bv_el hf (fun σ1 ho2 hf => ?_)
  refine x_gov h (x_runV (As := []) (rest := []) C h (c_X1_beginAnew l D G 20 (by decide) σ σ1 ho2 _) lk_X0_40 rfl ⟨rfl, rfl, Nat.le_of_ble_eq_true rfl, Nat.le_of_ble_eq_true rfl⟩ (x_rcv C h 20 (lt_X1 (by decide)) ((oC_X1 G (by decide)) _ _) rfl) hl.1 rfl (Nat.le_of_ble_eq_true rfl) dX0_beginAnew_4) (fun H locs h => ?_)
  refine lv_aload_n hx hb dX0_beginAnew_7 rfl (lv_at hl 0 rfl) ?_
  refine lv_iconst (v := 0) hx hb dX0_beginAnew_8 (by decide) ?_
  refine nm_el hf (fun σ3 hσ3 hf => ?_)
  refine pf_X0_43 C h (by decide) dX0_beginAnew_9 hσ3 (fun H locs h => ?_)
  refine lv_aload_n hx hb dX0_beginAnew_12 rfl (lv_at hl 0 rfl) ?_
  refine gf_X0_24 C h (by decide) dX0_beginAnew_13 ?_
  refine lv_iconst (v := 0) hx hb dX0_beginAnew_16 (by decide) ?_
  refine bv_el hf (fun σ4 ho5 hf => ?_)
  refine x_gov h (x_runS (As := [.ref (G.1 25), .int 0]) (rest := []) C h (c_J7_fill_53178 l D G 25 5 ⟨(ltA_X0_onEnd (by decide)), (aC_X0_onEnd G (by decide))⟩ 0 σ3 σ4 ho5 _) lk_X0_47 rfl ⟨rfl, rfl, Nat.le_of_ble_eq_true rfl, Nat.le_of_ble_eq_true rfl⟩ hl.1 rfl (Nat.le_of_ble_eq_true rfl) dX0_beginAnew_17) (fun H locs h => ?_)
  refine lv_aload_n hx hb dX0_beginAnew_20 rfl (lv_at hl 0 rfl) ?_
  refine gf_X0_28 C h (by decide) dX0_beginAnew_21 ?_
  refine lv_iconst (v := 0) hx hb dX0_beginAnew_24 (by decide) ?_
  refine bv_el hf (fun σ6 ho7 hf => ?_)
  refine x_gov h (x_runS (As := [.ref (G.1 26), .int 0]) (rest := []) C h (c_J7_fill_53178 l D G 26 5 ⟨(ltA_X0_done (by decide)), (aC_X0_done G (by decide))⟩ 0 σ4 σ6 ho7 _) lk_X0_47 rfl ⟨rfl, rfl, Nat.le_of_ble_eq_true rfl, Nat.le_of_ble_eq_true rfl⟩ hl.1 rfl (Nat.le_of_ble_eq_true rfl) dX0_beginAnew_25) (fun H locs h => ?_)
  refine lv_aload_n hx hb dX0_beginAnew_28 rfl (lv_at hl 0 rfl) ?_
  refine lv_iconst (v := 0) hx hb dX0_beginAnew_29 (by decide) ?_
  refine nm_el hf (fun σ8 hσ8 hf => ?_)
  refine pf_X0_53 C h (by decide) dX0_beginAnew_30 hσ8 (fun H locs h => ?_)
  refine lv_aload_n hx hb dX0_beginAnew_33 rfl (lv_at hl 0 rfl) ?_
  refine lv_iconst (v := 0) hx hb dX0_beginAnew_34 (by decide) ?_
  refine nm_el hf (fun σ9 hσ9 hf => ?_)
  refine pf_X0_56 C h (by decide) dX0_beginAnew_35 hσ9 (fun H locs h => ?_)
  exact x_vret C hr h hf dX0_beginAnew_38
def f_X0_copyFrom (a : Nat) (b : Nat)  (σ : St) : Option (St) := bv (f_X1_copyFrom (a + 1) (b + 1) σ) (fun σ1 => nm (sI σ1 a 2 (σ1.1 b 2)) (fun σ3 => ck (decide ((¬ (0 : Int32) < 0) ∧ (¬ (0 : Int32) < 0) ∧ (¬ (5 : Int32) < 0) ∧ (0 : Int32).toNatClampNeg + (5 : Int32).toNatClampNeg ≤ 5 ∧ (0 : Int32).toNatClampNeg + (5 : Int32).toNatClampNeg ≤ 5)) (nm (sR σ3 (a + 6) (va_cpy (σ3.1 (b + 6)) (σ3.1 (a + 6)) (0 : Int32).toNatClampNeg (0 : Int32).toNatClampNeg (5 : Int32).toNatClampNeg)) (fun σ5 => ck (decide ((¬ (0 : Int32) < 0) ∧ (¬ (0 : Int32) < 0) ∧ (¬ (5 : Int32) < 0) ∧ (0 : Int32).toNatClampNeg + (5 : Int32).toNatClampNeg ≤ 5 ∧ (0 : Int32).toNatClampNeg + (5 : Int32).toNatClampNeg ≤ 5)) (nm (sR σ5 (a + 7) (va_cpy (σ5.1 (b + 7)) (σ5.1 (a + 7)) (0 : Int32).toNatClampNeg (0 : Int32).toNatClampNeg (5 : Int32).toNatClampNeg)) (fun σ7 => nm (sI σ7 a 5 (σ7.1 b 5)) (fun σ8 => nm (sI σ8 a 6 (σ8.1 b 6)) (fun σ9 => ck (decide ((¬ (0 : Int32) < 0) ∧ (¬ (0 : Int32) < 0) ∧ (¬ (σ9.1 a 6 : Int32) < 0) ∧ (0 : Int32).toNatClampNeg + (σ9.1 a 6 : Int32).toNatClampNeg ≤ 200 ∧ (0 : Int32).toNatClampNeg + (σ9.1 a 6 : Int32).toNatClampNeg ≤ 200)) (nm (sR σ9 (a + 8) (va_cpy (σ9.1 (b + 8)) (σ9.1 (a + 8)) (0 : Int32).toNatClampNeg (0 : Int32).toNatClampNeg (σ9.1 a 6 : Int32).toNatClampNeg)) (fun σ11 => ck (decide ((¬ (0 : Int32) < 0) ∧ (¬ (0 : Int32) < 0) ∧ (¬ (σ11.1 a 6 : Int32) < 0) ∧ (0 : Int32).toNatClampNeg + (σ11.1 a 6 : Int32).toNatClampNeg ≤ 200 ∧ (0 : Int32).toNatClampNeg + (σ11.1 a 6 : Int32).toNatClampNeg ≤ 200)) (nm (sR σ11 (a + 9) (va_cpy (σ11.1 (b + 9)) (σ11.1 (a + 9)) (0 : Int32).toNatClampNeg (0 : Int32).toNatClampNeg (σ11.1 a 6 : Int32).toNatClampNeg)) (fun σ13 => nm (sI σ13 a 9 (σ13.1 b 9)) (fun σ14 => some σ14)))))))))))))
set_option maxHeartbeats 4000000 in
theorem c_X0_copyFrom (l : Launch) (D : va_G) (G : Geo)  (a : Nat) (hpa : is_X0 a) (b : Nat) (hpb : is_X0 b)  (σ : St) (o : St) (hf : f_X0_copyFrom a b  σ = some o) : CV l D (tyG G) (wC G) yX0_copyFrom cX0_copyFrom 2 none ({ frames := 3, cells := 0, slots := 0, locals := 68 }) [.ref (G.1 a), .ref (G.1 b)] σ o := by
  refine met_of (Qc := fun A => QV D (tyG G) (wC G) A o) pn_X0 (Nat.le_of_ble_eq_true rfl) (fun p e s m below meth c A ls C hr h hl => ?_)
  have C : Cx p s m _ meth c cX0_copyFrom 2 RX0 D (tyG G) := C
  have hl : lv_has ls 2 [(0, .ref (G.1 a)), (1, .ref (G.1 b))] := hl
  unfold f_X0_copyFrom at hf
  have hx := C.1
  have hb := C.2.1
  refine lv_aload_n hx hb dX0_copyFrom_0 rfl (lv_at hl 0 rfl) ?_
  refine gf_X0_20 C h hpa dX0_copyFrom_1 ?_
  refine lv_aload_n hx hb dX0_copyFrom_4 rfl (lv_at hl 1 rfl) ?_
  refine gf_X0_20 C h hpb dX0_copyFrom_5 ?_
  refine bv_el hf (fun σ1 ho2 hf => ?_)
  refine x_gov h (x_runV (As := [.ref (G.1 (b + 1))]) (rest := []) C h (c_X1_copyFrom l D G (a + 1) (is_X0_night hpa) (b + 1) (is_X0_night hpb) σ σ1 ho2 _) lk_X0_59 rfl ⟨rfl, rfl, Nat.le_of_ble_eq_true rfl, Nat.le_of_ble_eq_true rfl⟩ (x_rcv C h (a + 1) (lt_X1 (is_X0_night hpa)) ((oC_X1 G (is_X0_night hpa)) _ _) rfl) hl.1 rfl (Nat.le_of_ble_eq_true rfl) dX0_copyFrom_8) (fun H locs h => ?_)
  refine lv_aload_n hx hb dX0_copyFrom_11 rfl (lv_at hl 0 rfl) ?_
  refine lv_aload_n hx hb dX0_copyFrom_12 rfl (lv_at hl 1 rfl) ?_
  refine gf_X0_43 C h hpb dX0_copyFrom_13 ?_
  refine nm_el hf (fun σ3 hσ3 hf => ?_)
  refine pf_X0_43 C h hpa dX0_copyFrom_16 hσ3 (fun H locs h => ?_)
  refine lv_aload_n hx hb dX0_copyFrom_19 rfl (lv_at hl 1 rfl) ?_
  refine gf_X0_24 C h hpb dX0_copyFrom_20 ?_
  refine lv_iconst (v := 0) hx hb dX0_copyFrom_23 (by decide) ?_
  refine lv_aload_n hx hb dX0_copyFrom_24 rfl (lv_at hl 0 rfl) ?_
  refine gf_X0_24 C h hpa dX0_copyFrom_25 ?_
  refine lv_iconst (v := 0) hx hb dX0_copyFrom_28 (by decide) ?_
  refine lv_iconst (v := 5) hx hb dX0_copyFrom_29 (by decide) ?_
  refine ck_el hf (fun hc4 hf => ?_)
  refine nm_el hf (fun σ5 hσ5 hf => ?_)
  refine x_copy C h hl.1 (b + 6) (a + 6) 1 (ltA_X0_onEnd hpb) (ltA_X0_onEnd hpa) ((aC_X0_onEnd G hpb) _ _) (fun f => (aC_X0_onEnd G hpa) f _) rfl q895 q284 q285 q286 (of_decide_eq_true hc4) (Nat.le_of_ble_eq_true rfl) (Nat.le_of_ble_eq_true rfl) dX0_copyFrom_30 hσ5 (fun H locs h => ?_)
  refine lv_aload_n hx hb dX0_copyFrom_33 rfl (lv_at hl 1 rfl) ?_
  refine gf_X0_28 C h hpb dX0_copyFrom_34 ?_
  refine lv_iconst (v := 0) hx hb dX0_copyFrom_37 (by decide) ?_
  refine lv_aload_n hx hb dX0_copyFrom_38 rfl (lv_at hl 0 rfl) ?_
  refine gf_X0_28 C h hpa dX0_copyFrom_39 ?_
  refine lv_iconst (v := 0) hx hb dX0_copyFrom_42 (by decide) ?_
  refine lv_iconst (v := 5) hx hb dX0_copyFrom_43 (by decide) ?_
  refine ck_el hf (fun hc6 hf => ?_)
  refine nm_el hf (fun σ7 hσ7 hf => ?_)
  refine x_copy C h hl.1 (b + 7) (a + 7) 1 (ltA_X0_done hpb) (ltA_X0_done hpa) ((aC_X0_done G hpb) _ _) (fun f => (aC_X0_done G hpa) f _) rfl q895 q284 q285 q286 (of_decide_eq_true hc6) (Nat.le_of_ble_eq_true rfl) (Nat.le_of_ble_eq_true rfl) dX0_copyFrom_44 hσ7 (fun H locs h => ?_)
  refine lv_aload_n hx hb dX0_copyFrom_47 rfl (lv_at hl 0 rfl) ?_
  refine lv_aload_n hx hb dX0_copyFrom_48 rfl (lv_at hl 1 rfl) ?_
  refine gf_X0_53 C h hpb dX0_copyFrom_49 ?_
  refine nm_el hf (fun σ8 hσ8 hf => ?_)
  refine pf_X0_53 C h hpa dX0_copyFrom_52 hσ8 (fun H locs h => ?_)
  refine lv_aload_n hx hb dX0_copyFrom_55 rfl (lv_at hl 0 rfl) ?_
  refine lv_aload_n hx hb dX0_copyFrom_56 rfl (lv_at hl 1 rfl) ?_
  refine gf_X0_56 C h hpb dX0_copyFrom_57 ?_
  refine nm_el hf (fun σ9 hσ9 hf => ?_)
  refine pf_X0_56 C h hpa dX0_copyFrom_60 hσ9 (fun H locs h => ?_)
  refine lv_aload_n hx hb dX0_copyFrom_63 rfl (lv_at hl 1 rfl) ?_
  refine gf_X0_31 C h hpb dX0_copyFrom_64 ?_
  refine lv_iconst (v := 0) hx hb dX0_copyFrom_67 (by decide) ?_
  refine lv_aload_n hx hb dX0_copyFrom_68 rfl (lv_at hl 0 rfl) ?_
  refine gf_X0_31 C h hpa dX0_copyFrom_69 ?_
  refine lv_iconst (v := 0) hx hb dX0_copyFrom_72 (by decide) ?_
  refine lv_aload_n hx hb dX0_copyFrom_73 rfl (lv_at hl 0 rfl) ?_
  refine gf_X0_56 C h hpa dX0_copyFrom_74 ?_
  refine ck_el hf (fun hc10 hf => ?_)
  refine nm_el hf (fun σ11 hσ11 hf => ?_)
  refine x_copy C h hl.1 (b + 8) (a + 8) 1 (ltA_X0_rulers hpb) (ltA_X0_rulers hpa) ((aC_X0_rulers G hpb) _ _) (fun f => (aC_X0_rulers G hpa) f _) rfl q895 q284 q285 q286 (of_decide_eq_true hc10) (Nat.le_of_ble_eq_true rfl) (Nat.le_of_ble_eq_true rfl) dX0_copyFrom_77 hσ11 (fun H locs h => ?_)
  refine lv_aload_n hx hb dX0_copyFrom_80 rfl (lv_at hl 1 rfl) ?_
  refine gf_X0_34 C h hpb dX0_copyFrom_81 ?_
  refine lv_iconst (v := 0) hx hb dX0_copyFrom_84 (by decide) ?_
  refine lv_aload_n hx hb dX0_copyFrom_85 rfl (lv_at hl 0 rfl) ?_
  refine gf_X0_34 C h hpa dX0_copyFrom_86 ?_
  refine lv_iconst (v := 0) hx hb dX0_copyFrom_89 (by decide) ?_
  refine lv_aload_n hx hb dX0_copyFrom_90 rfl (lv_at hl 0 rfl) ?_
  refine gf_X0_56 C h hpa dX0_copyFrom_91 ?_
  refine ck_el hf (fun hc12 hf => ?_)
  refine nm_el hf (fun σ13 hσ13 hf => ?_)
  refine x_copy C h hl.1 (b + 9) (a + 9) 1 (ltA_X0_minutes hpb) (ltA_X0_minutes hpa) ((aC_X0_minutes G hpb) _ _) (fun f => (aC_X0_minutes G hpa) f _) rfl q895 q284 q285 q286 (of_decide_eq_true hc12) (Nat.le_of_ble_eq_true rfl) (Nat.le_of_ble_eq_true rfl) dX0_copyFrom_94 hσ13 (fun H locs h => ?_)
  refine lv_aload_n hx hb dX0_copyFrom_97 rfl (lv_at hl 0 rfl) ?_
  refine lv_aload_n hx hb dX0_copyFrom_98 rfl (lv_at hl 1 rfl) ?_
  refine gf_X0_69 C h hpb dX0_copyFrom_99 ?_
  refine nm_el hf (fun σ14 hσ14 hf => ?_)
  refine pf_X0_69 C h hpa dX0_copyFrom_102 hσ14 (fun H locs h => ?_)
  exact x_vret C hr h hf dX0_copyFrom_105
def f_X0_liveDay_79   (y0 : Int32) (σ : St) : Option (Int32 × St) := nm (sI σ 19 2 ((σ.1 19 2) + 1)) (fun σ18 => bv (f_X0_keepRuler y0 σ18) (fun σ19 => rd (σ19.1 7) 8 y0 (fun v21 => bv (f_X0_countDayOf v21 σ19) (fun σ22 => some (y0, σ22)))))
set_option maxHeartbeats 4000000 in
theorem t_X0_liveDay_79 (C : Cx p s m args meth c cX0_liveDay 2 RX0 D (tyG G)) (hr : meth.sig.returnType = (some .int)) {o : Int32 × St}   : ∀ (y0 : Int32) (σ : St) (H : Heap) (locs : List Loc) (ls : Array Slot), Hs D A s.heap (wC G σ) H locs → lv_has ls 2 [(0, .ref (G.1 19))] → f_X0_liveDay_79   y0 σ = some o → W p l e ({ frames := 2, cells := 0, slots := 0, locals := 45 } : Room) s m args below meth c H locs 0 0 (MQ below (QI D (tyG G) (wC G) A o) args s 0 0 A) (F0 m 79 ls [.int y0]) := by
  intro y0 σ H locs ls h hl hf
  unfold f_X0_liveDay_79 at hf
  have hx := C.1
  have hb := C.2.1
  refine lv_istore_n (lv' := [(1, .int y0), (0, .ref (G.1 19))]) hx hb dX0_liveDay_79 rfl hl (by decide) rfl (fun ls hl => ?_)
  refine lv_aload_n hx hb dX0_liveDay_80 rfl (lv_at hl 1 rfl) ?_
  refine lv_dup hx hb dX0_liveDay_81 rfl ?_
  refine gf_X0_43 C h (by decide) dX0_liveDay_82 ?_
  refine lv_iconst (v := 1) hx hb dX0_liveDay_85 (by decide) ?_
  refine lv_iadd hx hb dX0_liveDay_86 ?_
  refine nm_el hf (fun σ18 hσ18 hf => ?_)
  refine pf_X0_43 C h (by decide) dX0_liveDay_87 hσ18 (fun H locs h => ?_)
  refine lv_aload_n hx hb dX0_liveDay_90 rfl (lv_at hl 1 rfl) ?_
  refine lv_iload_n hx hb dX0_liveDay_91 rfl (lv_at hl 0 rfl) ?_
  refine bv_el hf (fun σ19 ho20 hf => ?_)
  refine x_gov h (x_runV (As := [.int y0]) (rest := []) C h (c_X0_keepRuler l D G y0 σ18 σ19 ho20 _) lk_X0_95 rfl ⟨rfl, rfl, Nat.le_of_ble_eq_true rfl, Nat.le_of_ble_eq_true rfl⟩ (x_rcv C h 19 (lt_X0 (by decide)) ((oC_X0 G (by decide)) _ _) rfl) hl.1 rfl (Nat.le_of_ble_eq_true rfl) dX0_liveDay_92) (fun H locs h => ?_)
  refine lv_aload_n hx hb dX0_liveDay_95 rfl (lv_at hl 1 rfl) ?_
  refine lv_aload_n hx hb dX0_liveDay_96 rfl (lv_at hl 1 rfl) ?_
  refine gf_X0_9 C h (by decide) dX0_liveDay_97 ?_
  refine gf_X0_99 C h (by decide) dX0_liveDay_100 ?_
  refine lv_iload_n hx hb dX0_liveDay_103 rfl (lv_at hl 0 rfl) ?_
  refine rd_el hf (fun v21 hinv21 hv21 hf => ?_)
  refine x_iald C h 7 1 (ltA_X5_home (by decide)) ((aC_X5_home G (by decide)) _ _) rfl hinv21 hv21 dX0_liveDay_104 ?_
  refine bv_el hf (fun σ22 ho23 hf => ?_)
  refine x_gov h (x_runV (As := [.int v21]) (rest := []) C h (c_X0_countDayOf l D G v21 σ19 σ22 ho23 _) lk_X0_102 rfl ⟨rfl, rfl, Nat.le_of_ble_eq_true rfl, Nat.le_of_ble_eq_true rfl⟩ (x_rcv C h 19 (lt_X0 (by decide)) ((oC_X0 G (by decide)) _ _) rfl) hl.1 rfl (Nat.le_of_ble_eq_true rfl) dX0_liveDay_105) (fun H locs h => ?_)
  refine lv_iload_n hx hb dX0_liveDay_108 rfl (lv_at hl 0 rfl) ?_
  exact x_iret C hr h hf dX0_liveDay_109
def b_X0_liveDay_2   (rec2 : Int32 × St → Option (Int32 × St)) (x1 : Int32) (σ : St) : Option (Int32 × St) := if (σ.1 3 4) ≤ x1 then if (σ.1 20 5) = 2 then bd (f_X0_draw (σ.1 3 4) σ) (fun r8 σ6 => f_X0_liveDay_79 r8 σ6) else bd (f_X0_whoIsAhead σ) (fun r5 σ3 => f_X0_liveDay_79 r5 σ3) else rd (σ.1 9) 8 x1 (fun v9 => bd (f_X0_draw ((2 * v9) + 1) σ) (fun r12 σ10 => bd (f_X1_minuteAt 20 x1 r12 σ10) (fun r15 σ13 => ck (inb x1 8) (nm (sI σ13 29 (x1 : Int32).toNatClampNeg r15) (fun σ17 => rec2 (x1 + 1, σ17))))))
def f_X0_liveDay_2   (x1 : Int32) (σ : St) : Option (Int32 × St) := lp (fun (rec2 : Int32 × St → Option (Int32 × St)) (q : Int32 × St) => b_X0_liveDay_2   rec2 (q.1) (q.2)) 100000 (x1, σ)
set_option maxHeartbeats 4000000 in
theorem t_X0_liveDay_2 (C : Cx p s m args meth c cX0_liveDay 2 RX0 D (tyG G)) (hr : meth.sig.returnType = (some .int)) {o : Int32 × St}   : ∀ (x1 : Int32) (σ : St) (H : Heap) (locs : List Loc) (ls : Array Slot), Hs D A s.heap (wC G σ) H locs → lv_has ls 2 [(0, .ref (G.1 19)), (1, .int x1)] → f_X0_liveDay_2   x1 σ = some o → W p l e ({ frames := 2, cells := 0, slots := 0, locals := 45 } : Room) s m args below meth c H locs 0 0 (MQ below (QI D (tyG G) (wC G) A o) args s 0 0 A) (F0 m 2 ls []) := by
  intro x1 σ H locs ls h hl hf
  refine lp_el (P := fun q : Int32 × St => ∀ (H : Heap) (locs : List Loc) (ls : Array Slot), Hs D A s.heap (wC G (q.2)) H locs → lv_has ls 2 [(0, .ref (G.1 19)), (1, .int (q.1))] → W p l e ({ frames := 2, cells := 0, slots := 0, locals := 45 } : Room) s m args below meth c H locs 0 0 (MQ below (QI D (tyG G) (wC G) A o) args s 0 0 A) (F0 m 2 ls [])) (fun rec2 q IH2 hf => ?_) _ (x1, σ) hf H locs ls h hl
  obtain ⟨x1, σ⟩ := q
  intro H locs ls h hl
  have hl : lv_has ls 2 [(0, .ref (G.1 19)), (1, .int x1)] := hl
  have h : Hs D A s.heap (wC G σ) H locs := h
  have hf : b_X0_liveDay_2   rec2 x1 σ = some o := hf
  unfold b_X0_liveDay_2 at hf
  have hx := C.1
  have hb := C.2.1
  refine lv_iload_n hx hb dX0_liveDay_2 rfl (lv_at hl 1 rfl) ?_
  refine lv_aload_n hx hb dX0_liveDay_3 rfl (lv_at hl 0 rfl) ?_
  refine gf_X0_9 C h (by decide) dX0_liveDay_4 ?_
  refine gf_X0_72 C h (by decide) dX0_liveDay_7 ?_
  refine lv_icmp_ge (tgt := 50) hx hb dX0_liveDay_10 (by decide) (fun c1 => ?_) (fun c1 => ?_)
  · have hf := ifT c1 hf
    refine lv_aload_n hx hb dX0_liveDay_50 rfl (lv_at hl 0 rfl) ?_
    refine gf_X0_20 C h (by decide) dX0_liveDay_51 ?_
    refine gf_X0_88 C h (by decide) dX0_liveDay_54 ?_
    refine lv_iconst (v := 2) hx hb dX0_liveDay_57 (by decide) ?_
    refine lv_icmp_ne (tgt := 75) hx hb dX0_liveDay_58 (by decide) (fun c2 => ?_) (fun c2 => ?_)
    · have hf := ifF c2 hf
      refine lv_aload_n hx hb dX0_liveDay_75 rfl (lv_at hl 0 rfl) ?_
      refine bd_el hf (fun r5 σ3 ho4 hf => ?_)
      refine x_goi h (x_runV (As := []) (rest := []) C h (c_X0_whoIsAhead l D G σ (r5, σ3) ho4 _) lk_X0_91 rfl ⟨rfl, rfl, Nat.le_of_ble_eq_true rfl, Nat.le_of_ble_eq_true rfl⟩ (x_rcv C h 19 (lt_X0 (by decide)) ((oC_X0 G (by decide)) _ _) rfl) hl.1 rfl (Nat.le_of_ble_eq_true rfl) dX0_liveDay_76) (fun H locs h => ?_)
      exact t_X0_liveDay_79 C hr r5 σ3 _ _ _ h (lv_sub hl [0] rfl) hf
    · have hf := ifT c2 hf
      refine lv_aload_n hx hb dX0_liveDay_61 rfl (lv_at hl 0 rfl) ?_
      refine lv_aload_n hx hb dX0_liveDay_62 rfl (lv_at hl 0 rfl) ?_
      refine gf_X0_9 C h (by decide) dX0_liveDay_63 ?_
      refine gf_X0_72 C h (by decide) dX0_liveDay_66 ?_
      refine bd_el hf (fun r8 σ6 ho7 hf => ?_)
      refine x_goi h (x_runV (As := [.int (σ.1 3 4)]) (rest := []) C h (c_X0_draw l D G (σ.1 3 4) σ (r8, σ6) ho7 _) lk_X0_80 rfl ⟨rfl, rfl, Nat.le_of_ble_eq_true rfl, Nat.le_of_ble_eq_true rfl⟩ (x_rcv C h 19 (lt_X0 (by decide)) ((oC_X0 G (by decide)) _ _) rfl) hl.1 rfl (Nat.le_of_ble_eq_true rfl) dX0_liveDay_69) (fun H locs h => ?_)
      refine lv_goto (tgt := 79) hx hb dX0_liveDay_72 (by decide) ?_
      exact t_X0_liveDay_79 C hr r8 σ6 _ _ _ h (lv_sub hl [0] rfl) hf
  · have hf := ifF c1 hf
    refine lv_aload_n hx hb dX0_liveDay_13 rfl (lv_at hl 0 rfl) ?_
    refine gf_X0_37 C h (by decide) dX0_liveDay_14 ?_
    refine lv_iload_n hx hb dX0_liveDay_17 rfl (lv_at hl 1 rfl) ?_
    refine lv_aload_n hx hb dX0_liveDay_18 rfl (lv_at hl 0 rfl) ?_
    refine gf_X0_20 C h (by decide) dX0_liveDay_19 ?_
    refine lv_iload_n hx hb dX0_liveDay_22 rfl (lv_at hl 1 rfl) ?_
    refine lv_aload_n hx hb dX0_liveDay_23 rfl (lv_at hl 0 rfl) ?_
    refine lv_iconst (v := 2) hx hb dX0_liveDay_24 (by decide) ?_
    refine lv_aload_n hx hb dX0_liveDay_25 rfl (lv_at hl 0 rfl) ?_
    refine gf_X0_9 C h (by decide) dX0_liveDay_26 ?_
    refine gf_X0_77 C h (by decide) dX0_liveDay_29 ?_
    refine lv_iload_n hx hb dX0_liveDay_32 rfl (lv_at hl 1 rfl) ?_
    refine rd_el hf (fun v9 hinv9 hv9 hf => ?_)
    refine x_iald C h 9 1 (ltA_X5_span (by decide)) ((aC_X5_span G (by decide)) _ _) rfl hinv9 hv9 dX0_liveDay_33 ?_
    refine lv_imul hx hb dX0_liveDay_34 ?_
    refine lv_iconst (v := 1) hx hb dX0_liveDay_35 (by decide) ?_
    refine lv_iadd hx hb dX0_liveDay_36 ?_
    refine bd_el hf (fun r12 σ10 ho11 hf => ?_)
    refine x_goi h (x_runV (As := [.int ((2 * v9) + 1)]) (rest := [.int x1, .ref (G.1 20), .int x1, .ref (G.1 29)]) C h (c_X0_draw l D G ((2 * v9) + 1) σ (r12, σ10) ho11 _) lk_X0_80 rfl ⟨rfl, rfl, Nat.le_of_ble_eq_true rfl, Nat.le_of_ble_eq_true rfl⟩ (x_rcv C h 19 (lt_X0 (by decide)) ((oC_X0 G (by decide)) _ _) rfl) hl.1 rfl (Nat.le_of_ble_eq_true rfl) dX0_liveDay_37) (fun H locs h => ?_)
    refine bd_el hf (fun r15 σ13 ho14 hf => ?_)
    refine x_goi h (x_runV (As := [.int x1, .int r12]) (rest := [.int x1, .ref (G.1 29)]) C h (c_X1_minuteAt l D G 20 (by decide) x1 r12 σ10 (r15, σ13) ho14 _) lk_X0_84 rfl ⟨rfl, rfl, Nat.le_of_ble_eq_true rfl, Nat.le_of_ble_eq_true rfl⟩ (x_rcv C h 20 (lt_X1 (by decide)) ((oC_X1 G (by decide)) _ _) rfl) hl.1 rfl (Nat.le_of_ble_eq_true rfl) dX0_liveDay_40) (fun H locs h => ?_)
    refine ckb_el hf (fun hin16 hf => ?_)
    refine nm_el hf (fun σ17 hσ17 hf => ?_)
    refine x_iast C h 29 1 (ltA_X0_awake (by decide)) (fun f => (aC_X0_awake G (by decide)) f _) rfl hin16 dX0_liveDay_43 hσ17 (fun H locs h => ?_)
    refine lv_iinc (v := x1 + 1) (lv' := [(1, .int (x1 + 1)), (0, .ref (G.1 19))]) hx hb dX0_liveDay_44 hl (k := 1) rfl rfl (by decide) rfl (fun ls hl => ?_)
    refine lv_goto (tgt := 2) hx hb dX0_liveDay_47 (by decide) ?_
    exact IH2 (x1 + 1, σ17) hf _ _ _ h (lv_sub hl [1, 0] rfl)
def f_X0_liveDay   (σ : St) : Option (Int32 × St) := f_X0_liveDay_2 0 σ
set_option maxHeartbeats 4000000 in
theorem c_X0_liveDay (l : Launch) (D : va_G) (G : Geo)    (σ : St) (o : Int32 × St) (hf : f_X0_liveDay   σ = some o) : CI l D (tyG G) (wC G) yX0_liveDay cX0_liveDay 2 ((some .int)) ({ frames := 2, cells := 0, slots := 0, locals := 45 }) [.ref (G.1 19)] σ o := by
  refine met_of (Qc := fun A => QI D (tyG G) (wC G) A o) pn_X0 (Nat.le_of_ble_eq_true rfl) (fun p e s m below meth c A ls C hr h hl => ?_)
  have C : Cx p s m _ meth c cX0_liveDay 2 RX0 D (tyG G) := C
  have hl : lv_has ls 2 [(0, .ref (G.1 19))] := hl
  unfold f_X0_liveDay at hf
  have hx := C.1
  have hb := C.2.1
  refine lv_iconst (v := 0) hx hb dX0_liveDay_0 (by decide) ?_
  refine lv_istore_n (lv' := [(1, .int 0), (0, .ref (G.1 19))]) hx hb dX0_liveDay_1 rfl hl (by decide) rfl (fun ls hl => ?_)
  exact t_X0_liveDay_2 C hr 0 σ _ _ _ h (lv_sub hl [1, 0] rfl) hf
def f_X3_begin  (x1 : Int32) (x2 : Int32) (x3 : Int32) (σ : St) : Option (St) := bv (f_J7_fill_d0a16 73 7 0 σ) (fun σ1 => nm (sI σ1 72 1 x1) (fun σ3 => nm (sJ σ3 72 2 x3.toInt64) (fun σ4 => nm (sJ σ4 72 3 0) (fun σ5 => if x2 < 0 then some σ5 else if (7 : Int32) ≤ x2 then some σ5 else ck (inb x2 7) (nm (sJ σ5 73 (x2 : Int32).toNatClampNeg 1000000000) (fun σ9 => some σ9))))))
set_option maxHeartbeats 4000000 in
theorem c_X3_begin (l : Launch) (D : va_G) (G : Geo)   (x1 : Int32) (x2 : Int32) (x3 : Int32) (σ : St) (o : St) (hf : f_X3_begin  x1 x2 x3 σ = some o) : CV l D (tyG G) (wC G) yX3_begin cX3_begin 4 none ({ frames := 1, cells := 0, slots := 0, locals := 24 }) [.ref (G.1 72), .int x1, .int x2, .int x3] σ o := by
  refine met_of (Qc := fun A => QV D (tyG G) (wC G) A o) pn_X3 (Nat.le_of_ble_eq_true rfl) (fun p e s m below meth c A ls C hr h hl => ?_)
  have C : Cx p s m _ meth c cX3_begin 4 RX3 D (tyG G) := C
  have hl : lv_has ls 4 [(0, .ref (G.1 72)), (1, .int x1), (2, .int x2), (3, .int x3)] := hl
  unfold f_X3_begin at hf
  have hx := C.1
  have hb := C.2.1
  refine lv_aload_n hx hb dX3_begin_0 rfl (lv_at hl 0 rfl) ?_
  refine gf_X3_9 C h (by decide) dX3_begin_1 ?_
  refine lv_lconst (v := 0) hx hb dX3_begin_4 (by decide) ?_
  refine bv_el hf (fun σ1 ho2 hf => ?_)
  refine x_gov h (x_runS (As := [.ref (G.1 73), .long 0]) (rest := []) C h (c_J7_fill_d0a16 l D G 73 7 ⟨(ltA_X3_parts (by decide)), (aC_X3_parts G (by decide))⟩ 0 σ σ1 ho2 _) lk_X3_15 rfl ⟨rfl, rfl, Nat.le_of_ble_eq_true rfl, Nat.le_of_ble_eq_true rfl⟩ hl.1 rfl (Nat.le_of_ble_eq_true rfl) dX3_begin_5) (fun H locs h => ?_)
  refine lv_aload_n hx hb dX3_begin_8 rfl (lv_at hl 0 rfl) ?_
  refine lv_iload_n hx hb dX3_begin_9 rfl (lv_at hl 1 rfl) ?_
  refine nm_el hf (fun σ3 hσ3 hf => ?_)
  refine pf_X3_21 C h (by decide) dX3_begin_10 hσ3 (fun H locs h => ?_)
  refine lv_aload_n hx hb dX3_begin_13 rfl (lv_at hl 0 rfl) ?_
  refine lv_iload_n hx hb dX3_begin_14 rfl (lv_at hl 3 rfl) ?_
  refine lv_i2l (v := x3.toInt64) hx hb dX3_begin_15 rfl ?_
  refine nm_el hf (fun σ4 hσ4 hf => ?_)
  refine pf_X3_25 C h (by decide) dX3_begin_16 hσ4 (fun H locs h => ?_)
  refine lv_aload_n hx hb dX3_begin_19 rfl (lv_at hl 0 rfl) ?_
  refine lv_lconst (v := 0) hx hb dX3_begin_20 (by decide) ?_
  refine nm_el hf (fun σ5 hσ5 hf => ?_)
  refine pf_X3_29 C h (by decide) dX3_begin_21 hσ5 (fun H locs h => ?_)
  refine lv_iload_n hx hb dX3_begin_24 rfl (lv_at hl 2 rfl) ?_
  refine lv_if_lt (tgt := 43) hx hb dX3_begin_25 (by decide) (fun c6 => ?_) (fun c6 => ?_)
  · have hf := ifT c6 hf
    exact x_vret C hr h hf dX3_begin_43
  · have hf := ifF c6 hf
    refine lv_iload_n hx hb dX3_begin_28 rfl (lv_at hl 2 rfl) ?_
    refine lv_bipush (v := 7) hx hb dX3_begin_29 (by decide) ?_
    refine lv_icmp_ge (tgt := 43) hx hb dX3_begin_31 (by decide) (fun c7 => ?_) (fun c7 => ?_)
    · have hf := ifT c7 hf
      exact x_vret C hr h hf dX3_begin_43
    · have hf := ifF c7 hf
      refine lv_aload_n hx hb dX3_begin_34 rfl (lv_at hl 0 rfl) ?_
      refine gf_X3_9 C h (by decide) dX3_begin_35 ?_
      refine lv_iload_n hx hb dX3_begin_38 rfl (lv_at hl 2 rfl) ?_
      refine lv_ldc2 (v := 1000000000) hx hb C.2.2.2.1 (C.2.2.2.2.1 _ q775) dX3_begin_39 ?_
      refine ckb_el hf (fun hin8 hf => ?_)
      refine nm_el hf (fun σ9 hσ9 hf => ?_)
      refine x_last C h 73 2 (ltA_X3_parts (by decide)) (fun f => (aC_X3_parts G (by decide)) _ f) rfl hin8 dX3_begin_42 hσ9 (fun H locs h => ?_)
      exact x_vret C hr h hf dX3_begin_43
def f_X3_goOnADay_76  (rec9 : Int64 × Int32 × St → Option (St)) (x1 : Int64) (x3 : Int32) (σ : St) : Option (St) := rec9 (x1, x3 + (-1), σ)
set_option maxHeartbeats 4000000 in
theorem t_X3_goOnADay_76 (C : Cx p s m args meth c cX3_goOnADay 6 RX3 D (tyG G)) (hr : meth.sig.returnType = none) {o : St}  {rec9 : Int64 × Int32 × St → Option (St)} (IH9 : ∀ q, rec9 q = some o → ∀ (H : Heap) (locs : List Loc) (ls : Array Slot), Hs D A s.heap (wC G (q.2.2)) H locs → lv_has ls 6 [(0, .ref (G.1 72)), (1, .long (q.1)), (3, .int (q.2.1))] → W p l e ({ frames := 0, cells := 0, slots := 0, locals := 0 } : Room) s m args below meth c H locs 0 0 (MQ below (QV D (tyG G) (wC G) A o) args s 0 0 A) (F0 m 9 ls [])) : ∀ (x1 : Int64) (x3 : Int32) (σ : St) (H : Heap) (locs : List Loc) (ls : Array Slot), Hs D A s.heap (wC G σ) H locs → lv_has ls 6 [(0, .ref (G.1 72)), (1, .long x1), (3, .int x3)] → f_X3_goOnADay_76  rec9 x1 x3 σ = some o → W p l e ({ frames := 0, cells := 0, slots := 0, locals := 0 } : Room) s m args below meth c H locs 0 0 (MQ below (QV D (tyG G) (wC G) A o) args s 0 0 A) (F0 m 76 ls []) := by
  intro x1 x3 σ H locs ls h hl hf
  unfold f_X3_goOnADay_76 at hf
  have hx := C.1
  have hb := C.2.1
  refine lv_iinc (v := x3 + (-1)) (lv' := [(3, .int (x3 + (-1))), (0, .ref (G.1 72)), (1, .long x1)]) hx hb dX3_goOnADay_76 hl (k := 2) rfl rfl (by decide) rfl (fun ls hl => ?_)
  refine lv_goto (tgt := 9) hx hb dX3_goOnADay_79 (by decide) ?_
  exact IH9 (x1, x3 + (-1), σ) hf _ _ _ h (lv_sub hl [1, 2, 0] rfl)
def b_X3_goOnADay_9   (rec9 : Int64 × Int32 × St → Option (St)) (x1 : Int64) (x3 : Int32) (σ : St) : Option (St) := if x3 < 0 then ck (inb 0 7) (nm (sJ σ 73 (0 : Int32).toNatClampNeg x1) (fun σ4 => some σ4)) else rdL (σ.2 73) 7 x3 (fun v5 => nm ((v5 * (σ.2 72 2)) / 1000000000) (fun z6 => rdL (σ.2 73) 7 x3 (fun v7 => nm (x1 + (v7 - z6)) (fun z8 => if x3 = ((σ.1 72 1) - 1) then nm (sJ σ 72 3 ((σ.2 72 3) + z6)) (fun σ12 => f_X3_goOnADay_76 rec9 z8 x3 σ12) else ck (inb (x3 + 1) 7) (nm (sJ σ 73 (x3 + 1 : Int32).toNatClampNeg z6) (fun σ11 => f_X3_goOnADay_76 rec9 z8 x3 σ11))))))
def f_X3_goOnADay_9   (x1 : Int64) (x3 : Int32) (σ : St) : Option (St) := lp (fun (rec9 : Int64 × Int32 × St → Option (St)) (q : Int64 × Int32 × St) => b_X3_goOnADay_9   rec9 (q.1) (q.2.1) (q.2.2)) 100000 (x1, x3, σ)
set_option maxHeartbeats 4000000 in
theorem t_X3_goOnADay_9 (C : Cx p s m args meth c cX3_goOnADay 6 RX3 D (tyG G)) (hr : meth.sig.returnType = none) {o : St}   : ∀ (x1 : Int64) (x3 : Int32) (σ : St) (H : Heap) (locs : List Loc) (ls : Array Slot), Hs D A s.heap (wC G σ) H locs → lv_has ls 6 [(0, .ref (G.1 72)), (1, .long x1), (3, .int x3)] → f_X3_goOnADay_9   x1 x3 σ = some o → W p l e ({ frames := 0, cells := 0, slots := 0, locals := 0 } : Room) s m args below meth c H locs 0 0 (MQ below (QV D (tyG G) (wC G) A o) args s 0 0 A) (F0 m 9 ls []) := by
  intro x1 x3 σ H locs ls h hl hf
  refine lp_el (P := fun q : Int64 × Int32 × St => ∀ (H : Heap) (locs : List Loc) (ls : Array Slot), Hs D A s.heap (wC G (q.2.2)) H locs → lv_has ls 6 [(0, .ref (G.1 72)), (1, .long (q.1)), (3, .int (q.2.1))] → W p l e ({ frames := 0, cells := 0, slots := 0, locals := 0 } : Room) s m args below meth c H locs 0 0 (MQ below (QV D (tyG G) (wC G) A o) args s 0 0 A) (F0 m 9 ls [])) (fun rec9 q IH9 hf => ?_) _ (x1, x3, σ) hf H locs ls h hl
  obtain ⟨x1, x3, σ⟩ := q
  intro H locs ls h hl
  have hl : lv_has ls 6 [(0, .ref (G.1 72)), (1, .long x1), (3, .int x3)] := hl
  have h : Hs D A s.heap (wC G σ) H locs := h
  have hf : b_X3_goOnADay_9   rec9 x1 x3 σ = some o := hf
  unfold b_X3_goOnADay_9 at hf
  have hx := C.1
  have hb := C.2.1
  refine lv_iload_n hx hb dX3_goOnADay_9 rfl (lv_at hl 2 rfl) ?_
  refine lv_if_lt (tgt := 82) hx hb dX3_goOnADay_10 (by decide) (fun c2 => ?_) (fun c2 => ?_)
  · have hf := ifT c2 hf
    refine lv_aload_n hx hb dX3_goOnADay_82 rfl (lv_at hl 0 rfl) ?_
    refine gf_X3_9 C h (by decide) dX3_goOnADay_83 ?_
    refine lv_iconst (v := 0) hx hb dX3_goOnADay_86 (by decide) ?_
    refine lv_lload_n hx hb dX3_goOnADay_87 rfl (lv_at hl 1 rfl) ?_
    refine ckb_el hf (fun hin3 hf => ?_)
    refine nm_el hf (fun σ4 hσ4 hf => ?_)
    refine x_last C h 73 2 (ltA_X3_parts (by decide)) (fun f => (aC_X3_parts G (by decide)) _ f) rfl hin3 dX3_goOnADay_88 hσ4 (fun H locs h => ?_)
    exact x_vret C hr h hf dX3_goOnADay_89
  · have hf := ifF c2 hf
    refine lv_aload_n hx hb dX3_goOnADay_13 rfl (lv_at hl 0 rfl) ?_
    refine gf_X3_9 C h (by decide) dX3_goOnADay_14 ?_
    refine lv_iload_n hx hb dX3_goOnADay_17 rfl (lv_at hl 2 rfl) ?_
    refine rdL_el hf (fun v5 hinv5 hv5 hf => ?_)
    refine x_lald C h 73 2 (ltA_X3_parts (by decide)) ((aC_X3_parts G (by decide)) _ _) rfl hinv5 hv5 dX3_goOnADay_18 ?_
    refine lv_aload_n hx hb dX3_goOnADay_19 rfl (lv_at hl 0 rfl) ?_
    refine gf_X3_25 C h (by decide) dX3_goOnADay_20 ?_
    refine lv_lmul hx hb dX3_goOnADay_23 ?_
    refine lv_ldc2 (v := 1000000000) hx hb C.2.2.2.1 (C.2.2.2.2.1 _ q775) dX3_goOnADay_24 ?_
    refine lv_ldiv hx hb dX3_goOnADay_27 (by decide) ?_
    refine nm_el hf (fun z6 ez6 hf => ?_)
    refine x_topl ez6 ?_
    refine lv_lstore (lv' := [(4, .long z6), (0, .ref (G.1 72)), (1, .long x1), (3, .int x3)]) hx hb dX3_goOnADay_28 hl (by decide) rfl (fun ls hl => ?_)
    refine lv_lload_n hx hb dX3_goOnADay_30 rfl (lv_at hl 2 rfl) ?_
    refine lv_aload_n hx hb dX3_goOnADay_31 rfl (lv_at hl 1 rfl) ?_
    refine gf_X3_9 C h (by decide) dX3_goOnADay_32 ?_
    refine lv_iload_n hx hb dX3_goOnADay_35 rfl (lv_at hl 3 rfl) ?_
    refine rdL_el hf (fun v7 hinv7 hv7 hf => ?_)
    refine x_lald C h 73 2 (ltA_X3_parts (by decide)) ((aC_X3_parts G (by decide)) _ _) rfl hinv7 hv7 dX3_goOnADay_36 ?_
    refine lv_lload hx hb dX3_goOnADay_37 (lv_at hl 0 rfl) ?_
    refine lv_lsub hx hb dX3_goOnADay_39 ?_
    refine lv_ladd hx hb dX3_goOnADay_40 ?_
    refine nm_el hf (fun z8 ez8 hf => ?_)
    refine x_topl ez8 ?_
    refine lv_lstore_n (lv' := [(1, .long z8), (4, .long z6), (0, .ref (G.1 72)), (3, .int x3)]) hx hb dX3_goOnADay_41 rfl hl (by decide) rfl (fun ls hl => ?_)
    refine lv_iload_n hx hb dX3_goOnADay_42 rfl (lv_at hl 3 rfl) ?_
    refine lv_aload_n hx hb dX3_goOnADay_43 rfl (lv_at hl 2 rfl) ?_
    refine gf_X3_21 C h (by decide) dX3_goOnADay_44 ?_
    refine lv_iconst (v := 1) hx hb dX3_goOnADay_47 (by decide) ?_
    refine lv_isub hx hb dX3_goOnADay_48 ?_
    refine lv_icmp_ne (tgt := 66) hx hb dX3_goOnADay_49 (by decide) (fun c9 => ?_) (fun c9 => ?_)
    · have hf := ifF c9 hf
      refine lv_aload_n hx hb dX3_goOnADay_66 rfl (lv_at hl 2 rfl) ?_
      refine gf_X3_9 C h (by decide) dX3_goOnADay_67 ?_
      refine lv_iload_n hx hb dX3_goOnADay_70 rfl (lv_at hl 3 rfl) ?_
      refine lv_iconst (v := 1) hx hb dX3_goOnADay_71 (by decide) ?_
      refine lv_iadd hx hb dX3_goOnADay_72 ?_
      refine lv_lload hx hb dX3_goOnADay_73 (lv_at hl 1 rfl) ?_
      refine ckb_el hf (fun hin10 hf => ?_)
      refine nm_el hf (fun σ11 hσ11 hf => ?_)
      refine x_last C h 73 2 (ltA_X3_parts (by decide)) (fun f => (aC_X3_parts G (by decide)) _ f) rfl hin10 dX3_goOnADay_75 hσ11 (fun H locs h => ?_)
      exact t_X3_goOnADay_76 C hr IH9 z8 x3 σ11 _ _ _ h (lv_sub hl [2, 0, 3] rfl) hf
    · have hf := ifT c9 hf
      refine lv_aload_n hx hb dX3_goOnADay_52 rfl (lv_at hl 2 rfl) ?_
      refine lv_dup hx hb dX3_goOnADay_53 rfl ?_
      refine gf_X3_29 C h (by decide) dX3_goOnADay_54 ?_
      refine lv_lload hx hb dX3_goOnADay_57 (lv_at hl 1 rfl) ?_
      refine lv_ladd hx hb dX3_goOnADay_59 ?_
      refine nm_el hf (fun σ12 hσ12 hf => ?_)
      refine pf_X3_29 C h (by decide) dX3_goOnADay_60 hσ12 (fun H locs h => ?_)
      refine lv_goto (tgt := 76) hx hb dX3_goOnADay_63 (by decide) ?_
      exact t_X3_goOnADay_76 C hr IH9 z8 x3 σ12 _ _ _ h (lv_sub hl [2, 0, 3] rfl) hf
def f_X3_goOnADay   (σ : St) : Option (St) := nm ((σ.1 72 1) - 1) (fun z1 => f_X3_goOnADay_9 0 z1 σ)
set_option maxHeartbeats 4000000 in
theorem c_X3_goOnADay (l : Launch) (D : va_G) (G : Geo)    (σ : St) (o : St) (hf : f_X3_goOnADay   σ = some o) : CV l D (tyG G) (wC G) yX3_goOnADay cX3_goOnADay 6 none ({ frames := 0, cells := 0, slots := 0, locals := 0 }) [.ref (G.1 72)] σ o := by
  refine met_of (Qc := fun A => QV D (tyG G) (wC G) A o) pn_X3 (Nat.le_of_ble_eq_true rfl) (fun p e s m below meth c A ls C hr h hl => ?_)
  have C : Cx p s m _ meth c cX3_goOnADay 6 RX3 D (tyG G) := C
  have hl : lv_has ls 6 [(0, .ref (G.1 72))] := hl
  unfold f_X3_goOnADay at hf
  have hx := C.1
  have hb := C.2.1
  refine lv_lconst (v := 0) hx hb dX3_goOnADay_0 (by decide) ?_
  refine lv_lstore_n (lv' := [(1, .long 0), (0, .ref (G.1 72))]) hx hb dX3_goOnADay_1 rfl hl (by decide) rfl (fun ls hl => ?_)
  refine lv_aload_n hx hb dX3_goOnADay_2 rfl (lv_at hl 1 rfl) ?_
  refine gf_X3_21 C h (by decide) dX3_goOnADay_3 ?_
  refine lv_iconst (v := 1) hx hb dX3_goOnADay_6 (by decide) ?_
  refine lv_isub hx hb dX3_goOnADay_7 ?_
  refine nm_el hf (fun z1 ez1 hf => ?_)
  refine x_topi ez1 ?_
  refine lv_istore_n (lv' := [(3, .int z1), (1, .long 0), (0, .ref (G.1 72))]) hx hb dX3_goOnADay_8 rfl hl (by decide) rfl (fun ls hl => ?_)
  exact t_X3_goOnADay_9 C hr 0 z1 σ _ _ _ h (lv_sub hl [2, 1, 0] rfl) hf
def f_X2_seekShift_101 (b : Nat) (rec13 : Int32 × Int64 × Int32 × St → Option (St)) (x2 : Int32) (x3 : Int64) (x5 : Int32) (σ : St) : Option (St) := rec13 (x2, x3, x5 + 10, σ)
set_option maxHeartbeats 4000000 in
theorem t_X2_seekShift_101 (C : Cx p s m args meth c cX2_seekShift 9 RX2 D (tyG G)) (hr : meth.sig.returnType = none) {o : St} (b : Nat) (hpb : is_X1 b) {rec13 : Int32 × Int64 × Int32 × St → Option (St)} (IH13 : ∀ q, rec13 q = some o → ∀ (H : Heap) (locs : List Loc) (ls : Array Slot), Hs D A s.heap (wC G (q.2.2.2)) H locs → lv_has ls 9 [(0, .ref (G.1 60)), (2, .int (q.1)), (3, .long (q.2.1)), (5, .int (q.2.2.1))] → W p l e ({ frames := 3, cells := 0, slots := 0, locals := 76 } : Room) s m args below meth c H locs 0 0 (MQ below (QV D (tyG G) (wC G) A o) args s 0 0 A) (F0 m 13 ls [])) : ∀ (x2 : Int32) (x3 : Int64) (x5 : Int32) (σ : St) (H : Heap) (locs : List Loc) (ls : Array Slot), Hs D A s.heap (wC G σ) H locs → lv_has ls 9 [(0, .ref (G.1 60)), (2, .int x2), (3, .long x3), (5, .int x5)] → f_X2_seekShift_101 b rec13 x2 x3 x5 σ = some o → W p l e ({ frames := 3, cells := 0, slots := 0, locals := 76 } : Room) s m args below meth c H locs 0 0 (MQ below (QV D (tyG G) (wC G) A o) args s 0 0 A) (F0 m 101 ls []) := by
  intro x2 x3 x5 σ H locs ls h hl hf
  unfold f_X2_seekShift_101 at hf
  have hx := C.1
  have hb := C.2.1
  refine lv_iinc (v := x5 + 10) (lv' := [(5, .int (x5 + 10)), (0, .ref (G.1 60)), (2, .int x2), (3, .long x3)]) hx hb dX2_seekShift_101 hl (k := 3) rfl rfl (by decide) rfl (fun ls hl => ?_)
  refine lv_goto (tgt := 13) hx hb dX2_seekShift_104 (by decide) ?_
  exact IH13 (x2, x3, x5 + 10, σ) hf _ _ _ h (lv_sub hl [1, 2, 3, 0] rfl)
def f_X2_seekShift_86 (b : Nat) (rec13 : Int32 × Int64 × Int32 × St → Option (St)) (x2 : Int32) (x5 : Int32) (x6 : Int32) (x7 : Int64) (σ : St) : Option (St) := nm (sI σ 60 4 x5) (fun σ15 => nm (sI σ15 60 6 x6) (fun σ16 => f_X2_seekShift_101 b rec13 x2 x7 x5 σ16))
set_option maxHeartbeats 4000000 in
theorem t_X2_seekShift_86 (C : Cx p s m args meth c cX2_seekShift 9 RX2 D (tyG G)) (hr : meth.sig.returnType = none) {o : St} (b : Nat) (hpb : is_X1 b) {rec13 : Int32 × Int64 × Int32 × St → Option (St)} (IH13 : ∀ q, rec13 q = some o → ∀ (H : Heap) (locs : List Loc) (ls : Array Slot), Hs D A s.heap (wC G (q.2.2.2)) H locs → lv_has ls 9 [(0, .ref (G.1 60)), (2, .int (q.1)), (3, .long (q.2.1)), (5, .int (q.2.2.1))] → W p l e ({ frames := 3, cells := 0, slots := 0, locals := 76 } : Room) s m args below meth c H locs 0 0 (MQ below (QV D (tyG G) (wC G) A o) args s 0 0 A) (F0 m 13 ls [])) : ∀ (x2 : Int32) (x5 : Int32) (x6 : Int32) (x7 : Int64) (σ : St) (H : Heap) (locs : List Loc) (ls : Array Slot), Hs D A s.heap (wC G σ) H locs → lv_has ls 9 [(0, .ref (G.1 60)), (2, .int x2), (5, .int x5), (6, .int x6), (7, .long x7)] → f_X2_seekShift_86 b rec13 x2 x5 x6 x7 σ = some o → W p l e ({ frames := 3, cells := 0, slots := 0, locals := 76 } : Room) s m args below meth c H locs 0 0 (MQ below (QV D (tyG G) (wC G) A o) args s 0 0 A) (F0 m 86 ls []) := by
  intro x2 x5 x6 x7 σ H locs ls h hl hf
  unfold f_X2_seekShift_86 at hf
  have hx := C.1
  have hb := C.2.1
  refine lv_lload hx hb dX2_seekShift_86 (lv_at hl 4 rfl) ?_
  refine lv_lstore_n (lv' := [(3, .long x7), (0, .ref (G.1 60)), (2, .int x2), (5, .int x5), (6, .int x6), (7, .long x7)]) hx hb dX2_seekShift_88 rfl hl (by decide) rfl (fun ls hl => ?_)
  refine lv_aload_n hx hb dX2_seekShift_89 rfl (lv_at hl 1 rfl) ?_
  refine lv_iload hx hb dX2_seekShift_90 (lv_at hl 3 rfl) ?_
  refine nm_el hf (fun σ15 hσ15 hf => ?_)
  refine pf_X2_53 C h (by decide) dX2_seekShift_92 hσ15 (fun H locs h => ?_)
  refine lv_aload_n hx hb dX2_seekShift_95 rfl (lv_at hl 1 rfl) ?_
  refine lv_iload hx hb dX2_seekShift_96 (lv_at hl 4 rfl) ?_
  refine nm_el hf (fun σ16 hσ16 hf => ?_)
  refine pf_X2_57 C h (by decide) dX2_seekShift_98 hσ16 (fun H locs h => ?_)
  exact t_X2_seekShift_101 C hr b hpb IH13 x2 x7 x5 σ16 _ _ _ h (lv_sub hl [1, 2, 0, 3] rfl) hf
def b_X2_seekShift_13 (b : Nat)  (rec13 : Int32 × Int64 × Int32 × St → Option (St)) (x2 : Int32) (x3 : Int64) (x5 : Int32) (σ : St) : Option (St) := rd (σ.1 6) 5 x2 (fun v3 => if v3 < x5 then some σ else bd (f_X1_shiftHouse 66 x2 x5 σ) (fun r7 σ5 => bd (f_X1_oddsOfHouses 66 (1 <<< (x2 &&& 31)) σ5) (fun r10 σ8 => rd (σ8.1 5) 5 x2 (fun v11 => nm (((r10.toInt64 * v11.toInt64) / 1000000000) - x5.toInt64) (fun z12 => if x5 = 0 then f_X2_seekShift_86 b rec13 x2 x5 r10 z12 σ8 else if (lg_cmp z12 x3) ≤ 0 then f_X2_seekShift_101 b rec13 x2 x3 x5 σ8 else f_X2_seekShift_86 b rec13 x2 x5 r10 z12 σ8)))))
def f_X2_seekShift_13 (b : Nat)  (x2 : Int32) (x3 : Int64) (x5 : Int32) (σ : St) : Option (St) := lp (fun (rec13 : Int32 × Int64 × Int32 × St → Option (St)) (q : Int32 × Int64 × Int32 × St) => b_X2_seekShift_13 b  rec13 (q.1) (q.2.1) (q.2.2.1) (q.2.2.2)) 100000 (x2, x3, x5, σ)
set_option maxHeartbeats 4000000 in
theorem t_X2_seekShift_13 (C : Cx p s m args meth c cX2_seekShift 9 RX2 D (tyG G)) (hr : meth.sig.returnType = none) {o : St} (b : Nat) (hpb : is_X1 b)  : ∀ (x2 : Int32) (x3 : Int64) (x5 : Int32) (σ : St) (H : Heap) (locs : List Loc) (ls : Array Slot), Hs D A s.heap (wC G σ) H locs → lv_has ls 9 [(0, .ref (G.1 60)), (2, .int x2), (3, .long x3), (5, .int x5)] → f_X2_seekShift_13 b  x2 x3 x5 σ = some o → W p l e ({ frames := 3, cells := 0, slots := 0, locals := 76 } : Room) s m args below meth c H locs 0 0 (MQ below (QV D (tyG G) (wC G) A o) args s 0 0 A) (F0 m 13 ls []) := by
  intro x2 x3 x5 σ H locs ls h hl hf
  refine lp_el (P := fun q : Int32 × Int64 × Int32 × St => ∀ (H : Heap) (locs : List Loc) (ls : Array Slot), Hs D A s.heap (wC G (q.2.2.2)) H locs → lv_has ls 9 [(0, .ref (G.1 60)), (2, .int (q.1)), (3, .long (q.2.1)), (5, .int (q.2.2.1))] → W p l e ({ frames := 3, cells := 0, slots := 0, locals := 76 } : Room) s m args below meth c H locs 0 0 (MQ below (QV D (tyG G) (wC G) A o) args s 0 0 A) (F0 m 13 ls [])) (fun rec13 q IH13 hf => ?_) _ (x2, x3, x5, σ) hf H locs ls h hl
  obtain ⟨x2, x3, x5, σ⟩ := q
  intro H locs ls h hl
  have hl : lv_has ls 9 [(0, .ref (G.1 60)), (2, .int x2), (3, .long x3), (5, .int x5)] := hl
  have h : Hs D A s.heap (wC G σ) H locs := h
  have hf : b_X2_seekShift_13 b  rec13 x2 x3 x5 σ = some o := hf
  unfold b_X2_seekShift_13 at hf
  have hx := C.1
  have hb := C.2.1
  refine lv_iload hx hb dX2_seekShift_13 (lv_at hl 3 rfl) ?_
  refine lv_aload_n hx hb dX2_seekShift_15 rfl (lv_at hl 0 rfl) ?_
  refine gf_X2_9 C h (by decide) dX2_seekShift_16 ?_
  refine gf_X2_35 C h (by decide) dX2_seekShift_19 ?_
  refine lv_iload_n hx hb dX2_seekShift_22 rfl (lv_at hl 1 rfl) ?_
  refine rd_el hf (fun v3 hinv3 hv3 hf => ?_)
  refine x_iald C h 6 1 (ltA_X5_bed (by decide)) ((aC_X5_bed G (by decide)) _ _) rfl hinv3 hv3 dX2_seekShift_23 ?_
  refine lv_icmp_gt (tgt := 107) hx hb dX2_seekShift_24 (by decide) (fun c4 => ?_) (fun c4 => ?_)
  · have hf := ifT c4 hf
    exact x_vret C hr h hf dX2_seekShift_107
  · have hf := ifF c4 hf
    refine lv_aload_n hx hb dX2_seekShift_27 rfl (lv_at hl 0 rfl) ?_
    refine gf_X2_24 C h (by decide) dX2_seekShift_28 ?_
    refine lv_iload_n hx hb dX2_seekShift_31 rfl (lv_at hl 1 rfl) ?_
    refine lv_iload hx hb dX2_seekShift_32 (lv_at hl 3 rfl) ?_
    refine bd_el hf (fun r7 σ5 ho6 hf => ?_)
    refine x_goi h (x_runV (As := [.int x2, .int x5]) (rest := []) C h (c_X1_shiftHouse l D G 66 (by decide) x2 x5 σ (r7, σ5) ho6 _) lk_X2_40 rfl ⟨rfl, rfl, Nat.le_of_ble_eq_true rfl, Nat.le_of_ble_eq_true rfl⟩ (x_rcv C h 66 (lt_X1 (by decide)) ((oC_X1 G (by decide)) _ _) rfl) hl.1 rfl (Nat.le_of_ble_eq_true rfl) dX2_seekShift_34) (fun H locs h => ?_)
    refine lv_pop hx hb dX2_seekShift_37 rfl ?_
    refine lv_aload_n hx hb dX2_seekShift_38 rfl (lv_at hl 0 rfl) ?_
    refine gf_X2_24 C h (by decide) dX2_seekShift_39 ?_
    refine lv_iconst (v := 1) hx hb dX2_seekShift_42 (by decide) ?_
    refine lv_iload_n hx hb dX2_seekShift_43 rfl (lv_at hl 1 rfl) ?_
    refine lv_ishl hx hb dX2_seekShift_44 ?_
    refine bd_el hf (fun r10 σ8 ho9 hf => ?_)
    refine x_goi h (x_runV (As := [.int (1 <<< (x2 &&& 31))]) (rest := []) C h (c_X1_oddsOfHouses l D G 66 (by decide) (1 <<< (x2 &&& 31)) σ5 (r10, σ8) ho9 _) lk_X2_44 rfl ⟨rfl, rfl, Nat.le_of_ble_eq_true rfl, Nat.le_of_ble_eq_true rfl⟩ (x_rcv C h 66 (lt_X1 (by decide)) ((oC_X1 G (by decide)) _ _) rfl) hl.1 rfl (Nat.le_of_ble_eq_true rfl) dX2_seekShift_45) (fun H locs h => ?_)
    refine lv_istore (lv' := [(6, .int r10), (0, .ref (G.1 60)), (2, .int x2), (3, .long x3), (5, .int x5)]) hx hb dX2_seekShift_48 hl (by decide) rfl (fun ls hl => ?_)
    refine lv_iload hx hb dX2_seekShift_50 (lv_at hl 0 rfl) ?_
    refine lv_i2l (v := r10.toInt64) hx hb dX2_seekShift_52 rfl ?_
    refine lv_aload_n hx hb dX2_seekShift_53 rfl (lv_at hl 1 rfl) ?_
    refine gf_X2_9 C h (by decide) dX2_seekShift_54 ?_
    refine gf_X2_48 C h (by decide) dX2_seekShift_57 ?_
    refine lv_iload_n hx hb dX2_seekShift_60 rfl (lv_at hl 2 rfl) ?_
    refine rd_el hf (fun v11 hinv11 hv11 hf => ?_)
    refine x_iald C h 5 1 (ltA_X5_worth (by decide)) ((aC_X5_worth G (by decide)) _ _) rfl hinv11 hv11 dX2_seekShift_61 ?_
    refine lv_i2l (v := v11.toInt64) hx hb dX2_seekShift_62 rfl ?_
    refine lv_lmul hx hb dX2_seekShift_63 ?_
    refine lv_ldc2 (v := 1000000000) hx hb C.2.2.2.1 (C.2.2.2.2.1 _ q675) dX2_seekShift_64 ?_
    refine lv_ldiv hx hb dX2_seekShift_67 (by decide) ?_
    refine lv_iload hx hb dX2_seekShift_68 (lv_at hl 4 rfl) ?_
    refine lv_i2l (v := x5.toInt64) hx hb dX2_seekShift_70 rfl ?_
    refine lv_lsub hx hb dX2_seekShift_71 ?_
    refine nm_el hf (fun z12 ez12 hf => ?_)
    refine x_topl ez12 ?_
    refine lv_lstore (lv' := [(7, .long z12), (6, .int r10), (0, .ref (G.1 60)), (2, .int x2), (3, .long x3), (5, .int x5)]) hx hb dX2_seekShift_72 hl (by decide) rfl (fun ls hl => ?_)
    refine lv_iload hx hb dX2_seekShift_74 (lv_at hl 5 rfl) ?_
    refine lv_if_eq (tgt := 86) hx hb dX2_seekShift_76 (by decide) (fun c13 => ?_) (fun c13 => ?_)
    · have hf := ifT c13 hf
      exact t_X2_seekShift_86 C hr b hpb IH13 x2 x5 r10 z12 σ8 _ _ _ h (lv_sub hl [2, 3, 5, 1, 0] rfl) hf
    · have hf := ifF c13 hf
      refine lv_lload hx hb dX2_seekShift_79 (lv_at hl 0 rfl) ?_
      refine lv_lload_n hx hb dX2_seekShift_81 rfl (lv_at hl 4 rfl) ?_
      refine W.lcmp hx hb dX2_seekShift_82 ?_
      refine lv_if_le (tgt := 101) hx hb dX2_seekShift_83 (by decide) (fun c14 => ?_) (fun c14 => ?_)
      · have hf := ifT c14 hf
        exact t_X2_seekShift_101 C hr b hpb IH13 x2 x3 x5 σ8 _ _ _ h (lv_sub hl [2, 3, 4, 5] rfl) hf
      · have hf := ifF c14 hf
        exact t_X2_seekShift_86 C hr b hpb IH13 x2 x5 r10 z12 σ8 _ _ _ h (lv_sub hl [2, 3, 5, 1, 0] rfl) hf
def f_X2_seekShift (b : Nat) (x2 : Int32) (σ : St) : Option (St) := bv (f_X1_copyFrom 66 b σ) (fun σ1 => f_X2_seekShift_13 b x2 0 0 σ1)
set_option maxHeartbeats 4000000 in
theorem c_X2_seekShift (l : Launch) (D : va_G) (G : Geo)  (b : Nat) (hpb : is_X1 b) (x2 : Int32) (σ : St) (o : St) (hf : f_X2_seekShift b x2 σ = some o) : CV l D (tyG G) (wC G) yX2_seekShift cX2_seekShift 9 none ({ frames := 3, cells := 0, slots := 0, locals := 76 }) [.ref (G.1 60), .ref (G.1 b), .int x2] σ o := by
  refine met_of (Qc := fun A => QV D (tyG G) (wC G) A o) pn_X2 (Nat.le_of_ble_eq_true rfl) (fun p e s m below meth c A ls C hr h hl => ?_)
  have C : Cx p s m _ meth c cX2_seekShift 9 RX2 D (tyG G) := C
  have hl : lv_has ls 9 [(0, .ref (G.1 60)), (1, .ref (G.1 b)), (2, .int x2)] := hl
  unfold f_X2_seekShift at hf
  have hx := C.1
  have hb := C.2.1
  refine lv_aload_n hx hb dX2_seekShift_0 rfl (lv_at hl 0 rfl) ?_
  refine gf_X2_24 C h (by decide) dX2_seekShift_1 ?_
  refine lv_aload_n hx hb dX2_seekShift_4 rfl (lv_at hl 1 rfl) ?_
  refine bv_el hf (fun σ1 ho2 hf => ?_)
  refine x_gov h (x_runV (As := [.ref (G.1 b)]) (rest := []) C h (c_X1_copyFrom l D G 66 (by decide) b hpb σ σ1 ho2 _) lk_X2_31 rfl ⟨rfl, rfl, Nat.le_of_ble_eq_true rfl, Nat.le_of_ble_eq_true rfl⟩ (x_rcv C h 66 (lt_X1 (by decide)) ((oC_X1 G (by decide)) _ _) rfl) hl.1 rfl (Nat.le_of_ble_eq_true rfl) dX2_seekShift_5) (fun H locs h => ?_)
  refine lv_lconst (v := 0) hx hb dX2_seekShift_8 (by decide) ?_
  refine lv_lstore_n (lv' := [(3, .long 0), (0, .ref (G.1 60)), (1, .ref (G.1 b)), (2, .int x2)]) hx hb dX2_seekShift_9 rfl hl (by decide) rfl (fun ls hl => ?_)
  refine lv_iconst (v := 0) hx hb dX2_seekShift_10 (by decide) ?_
  refine lv_istore (lv' := [(5, .int 0), (3, .long 0), (0, .ref (G.1 60)), (1, .ref (G.1 b)), (2, .int x2)]) hx hb dX2_seekShift_11 hl (by decide) rfl (fun ls hl => ?_)
  exact t_X2_seekShift_13 C hr b hpb x2 0 0 σ1 _ _ _ h (lv_sub hl [2, 4, 1, 0] rfl) hf
def f_X2_seekNoise_63  (rec10 : Int32 × Int32 × St → Option (St)) (x2 : Int32) (x3 : Int32) (σ : St) : Option (St) := rec10 (x2, x3 + 1, σ)
set_option maxHeartbeats 4000000 in
theorem t_X2_seekNoise_63 (C : Cx p s m args meth c cX2_seekNoise 5 RX2 D (tyG G)) (hr : meth.sig.returnType = none) {o : St}  {rec10 : Int32 × Int32 × St → Option (St)} (IH10 : ∀ q, rec10 q = some o → ∀ (H : Heap) (locs : List Loc) (ls : Array Slot), Hs D A s.heap (wC G (q.2.2)) H locs → lv_has ls 5 [(0, .ref (G.1 60)), (2, .int (q.1)), (3, .int (q.2.1))] → W p l e ({ frames := 3, cells := 0, slots := 0, locals := 76 } : Room) s m args below meth c H locs 0 0 (MQ below (QV D (tyG G) (wC G) A o) args s 0 0 A) (F0 m 10 ls [])) : ∀ (x2 : Int32) (x3 : Int32) (σ : St) (H : Heap) (locs : List Loc) (ls : Array Slot), Hs D A s.heap (wC G σ) H locs → lv_has ls 5 [(0, .ref (G.1 60)), (2, .int x2), (3, .int x3)] → f_X2_seekNoise_63  rec10 x2 x3 σ = some o → W p l e ({ frames := 3, cells := 0, slots := 0, locals := 76 } : Room) s m args below meth c H locs 0 0 (MQ below (QV D (tyG G) (wC G) A o) args s 0 0 A) (F0 m 63 ls []) := by
  intro x2 x3 σ H locs ls h hl hf
  unfold f_X2_seekNoise_63 at hf
  have hx := C.1
  have hb := C.2.1
  refine lv_iinc (v := x3 + 1) (lv' := [(3, .int (x3 + 1)), (0, .ref (G.1 60)), (2, .int x2)]) hx hb dX2_seekNoise_63 hl (k := 2) rfl rfl (by decide) rfl (fun ls hl => ?_)
  refine lv_goto (tgt := 10) hx hb dX2_seekNoise_66 (by decide) ?_
  exact IH10 (x2, x3 + 1, σ) hf _ _ _ h (lv_sub hl [1, 2, 0] rfl)
def f_X2_seekNoise_52  (rec10 : Int32 × Int32 × St → Option (St)) (x2 : Int32) (x3 : Int32) (x4 : Int32) (σ : St) : Option (St) := nm (sI σ 60 5 x3) (fun σ11 => nm (sI σ11 60 6 x4) (fun σ12 => f_X2_seekNoise_63 rec10 x2 x3 σ12))
set_option maxHeartbeats 4000000 in
theorem t_X2_seekNoise_52 (C : Cx p s m args meth c cX2_seekNoise 5 RX2 D (tyG G)) (hr : meth.sig.returnType = none) {o : St}  {rec10 : Int32 × Int32 × St → Option (St)} (IH10 : ∀ q, rec10 q = some o → ∀ (H : Heap) (locs : List Loc) (ls : Array Slot), Hs D A s.heap (wC G (q.2.2)) H locs → lv_has ls 5 [(0, .ref (G.1 60)), (2, .int (q.1)), (3, .int (q.2.1))] → W p l e ({ frames := 3, cells := 0, slots := 0, locals := 76 } : Room) s m args below meth c H locs 0 0 (MQ below (QV D (tyG G) (wC G) A o) args s 0 0 A) (F0 m 10 ls [])) : ∀ (x2 : Int32) (x3 : Int32) (x4 : Int32) (σ : St) (H : Heap) (locs : List Loc) (ls : Array Slot), Hs D A s.heap (wC G σ) H locs → lv_has ls 5 [(0, .ref (G.1 60)), (2, .int x2), (3, .int x3), (4, .int x4)] → f_X2_seekNoise_52  rec10 x2 x3 x4 σ = some o → W p l e ({ frames := 3, cells := 0, slots := 0, locals := 76 } : Room) s m args below meth c H locs 0 0 (MQ below (QV D (tyG G) (wC G) A o) args s 0 0 A) (F0 m 52 ls []) := by
  intro x2 x3 x4 σ H locs ls h hl hf
  unfold f_X2_seekNoise_52 at hf
  have hx := C.1
  have hb := C.2.1
  refine lv_aload_n hx hb dX2_seekNoise_52 rfl (lv_at hl 0 rfl) ?_
  refine lv_iload_n hx hb dX2_seekNoise_53 rfl (lv_at hl 2 rfl) ?_
  refine nm_el hf (fun σ11 hσ11 hf => ?_)
  refine pf_X2_64 C h (by decide) dX2_seekNoise_54 hσ11 (fun H locs h => ?_)
  refine lv_aload_n hx hb dX2_seekNoise_57 rfl (lv_at hl 0 rfl) ?_
  refine lv_iload hx hb dX2_seekNoise_58 (lv_at hl 3 rfl) ?_
  refine nm_el hf (fun σ12 hσ12 hf => ?_)
  refine pf_X2_57 C h (by decide) dX2_seekNoise_60 hσ12 (fun H locs h => ?_)
  exact t_X2_seekNoise_63 C hr IH10 x2 x3 σ12 _ _ _ h (lv_sub hl [0, 1, 2] rfl) hf
def b_X2_seekNoise_10   (rec10 : Int32 × Int32 × St → Option (St)) (x2 : Int32) (x3 : Int32) (σ : St) : Option (St) := if (9 : Int32) < x3 then some σ else bv (f_X1_makeNoise 66 x2 60 x3 σ) (fun σ4 => bd (f_X1_oddsOfHouses 66 (1 <<< (x2 &&& 31)) σ4) (fun r8 σ6 => if x3 = 0 then f_X2_seekNoise_52 rec10 x2 x3 r8 σ6 else if r8 ≤ (σ6.1 60 6) then f_X2_seekNoise_63 rec10 x2 x3 σ6 else f_X2_seekNoise_52 rec10 x2 x3 r8 σ6))
def f_X2_seekNoise_10   (x2 : Int32) (x3 : Int32) (σ : St) : Option (St) := lp (fun (rec10 : Int32 × Int32 × St → Option (St)) (q : Int32 × Int32 × St) => b_X2_seekNoise_10   rec10 (q.1) (q.2.1) (q.2.2)) 100000 (x2, x3, σ)
set_option maxHeartbeats 4000000 in
theorem t_X2_seekNoise_10 (C : Cx p s m args meth c cX2_seekNoise 5 RX2 D (tyG G)) (hr : meth.sig.returnType = none) {o : St}   : ∀ (x2 : Int32) (x3 : Int32) (σ : St) (H : Heap) (locs : List Loc) (ls : Array Slot), Hs D A s.heap (wC G σ) H locs → lv_has ls 5 [(0, .ref (G.1 60)), (2, .int x2), (3, .int x3)] → f_X2_seekNoise_10   x2 x3 σ = some o → W p l e ({ frames := 3, cells := 0, slots := 0, locals := 76 } : Room) s m args below meth c H locs 0 0 (MQ below (QV D (tyG G) (wC G) A o) args s 0 0 A) (F0 m 10 ls []) := by
  intro x2 x3 σ H locs ls h hl hf
  refine lp_el (P := fun q : Int32 × Int32 × St => ∀ (H : Heap) (locs : List Loc) (ls : Array Slot), Hs D A s.heap (wC G (q.2.2)) H locs → lv_has ls 5 [(0, .ref (G.1 60)), (2, .int (q.1)), (3, .int (q.2.1))] → W p l e ({ frames := 3, cells := 0, slots := 0, locals := 76 } : Room) s m args below meth c H locs 0 0 (MQ below (QV D (tyG G) (wC G) A o) args s 0 0 A) (F0 m 10 ls [])) (fun rec10 q IH10 hf => ?_) _ (x2, x3, σ) hf H locs ls h hl
  obtain ⟨x2, x3, σ⟩ := q
  intro H locs ls h hl
  have hl : lv_has ls 5 [(0, .ref (G.1 60)), (2, .int x2), (3, .int x3)] := hl
  have h : Hs D A s.heap (wC G σ) H locs := h
  have hf : b_X2_seekNoise_10   rec10 x2 x3 σ = some o := hf
  unfold b_X2_seekNoise_10 at hf
  have hx := C.1
  have hb := C.2.1
  refine lv_iload_n hx hb dX2_seekNoise_10 rfl (lv_at hl 2 rfl) ?_
  refine lv_bipush (v := 9) hx hb dX2_seekNoise_11 (by decide) ?_
  refine lv_icmp_gt (tgt := 69) hx hb dX2_seekNoise_13 (by decide) (fun c3 => ?_) (fun c3 => ?_)
  · have hf := ifT c3 hf
    exact x_vret C hr h hf dX2_seekNoise_69
  · have hf := ifF c3 hf
    refine lv_aload_n hx hb dX2_seekNoise_16 rfl (lv_at hl 0 rfl) ?_
    refine gf_X2_24 C h (by decide) dX2_seekNoise_17 ?_
    refine lv_iload_n hx hb dX2_seekNoise_20 rfl (lv_at hl 1 rfl) ?_
    refine lv_bipush (v := 60) hx hb dX2_seekNoise_21 (by decide) ?_
    refine lv_iload_n hx hb dX2_seekNoise_23 rfl (lv_at hl 2 rfl) ?_
    refine bv_el hf (fun σ4 ho5 hf => ?_)
    refine x_gov h (x_runV (As := [.int x2, .int 60, .int x3]) (rest := []) C h (c_X1_makeNoise l D G 66 (by decide) x2 60 x3 σ σ4 ho5 _) lk_X2_60 rfl ⟨rfl, rfl, Nat.le_of_ble_eq_true rfl, Nat.le_of_ble_eq_true rfl⟩ (x_rcv C h 66 (lt_X1 (by decide)) ((oC_X1 G (by decide)) _ _) rfl) hl.1 rfl (Nat.le_of_ble_eq_true rfl) dX2_seekNoise_24) (fun H locs h => ?_)
    refine lv_aload_n hx hb dX2_seekNoise_27 rfl (lv_at hl 0 rfl) ?_
    refine gf_X2_24 C h (by decide) dX2_seekNoise_28 ?_
    refine lv_iconst (v := 1) hx hb dX2_seekNoise_31 (by decide) ?_
    refine lv_iload_n hx hb dX2_seekNoise_32 rfl (lv_at hl 1 rfl) ?_
    refine lv_ishl hx hb dX2_seekNoise_33 ?_
    refine bd_el hf (fun r8 σ6 ho7 hf => ?_)
    refine x_goi h (x_runV (As := [.int (1 <<< (x2 &&& 31))]) (rest := []) C h (c_X1_oddsOfHouses l D G 66 (by decide) (1 <<< (x2 &&& 31)) σ4 (r8, σ6) ho7 _) lk_X2_44 rfl ⟨rfl, rfl, Nat.le_of_ble_eq_true rfl, Nat.le_of_ble_eq_true rfl⟩ (x_rcv C h 66 (lt_X1 (by decide)) ((oC_X1 G (by decide)) _ _) rfl) hl.1 rfl (Nat.le_of_ble_eq_true rfl) dX2_seekNoise_34) (fun H locs h => ?_)
    refine lv_istore (lv' := [(4, .int r8), (0, .ref (G.1 60)), (2, .int x2), (3, .int x3)]) hx hb dX2_seekNoise_37 hl (by decide) rfl (fun ls hl => ?_)
    refine lv_iload_n hx hb dX2_seekNoise_39 rfl (lv_at hl 3 rfl) ?_
    refine lv_if_eq (tgt := 52) hx hb dX2_seekNoise_40 (by decide) (fun c9 => ?_) (fun c9 => ?_)
    · have hf := ifT c9 hf
      exact t_X2_seekNoise_52 C hr IH10 x2 x3 r8 σ6 _ _ _ h (lv_sub hl [1, 2, 3, 0] rfl) hf
    · have hf := ifF c9 hf
      refine lv_iload hx hb dX2_seekNoise_43 (lv_at hl 0 rfl) ?_
      refine lv_aload_n hx hb dX2_seekNoise_45 rfl (lv_at hl 1 rfl) ?_
      refine gf_X2_57 C h (by decide) dX2_seekNoise_46 ?_
      refine lv_icmp_le (tgt := 63) hx hb dX2_seekNoise_49 (by decide) (fun c10 => ?_) (fun c10 => ?_)
      · have hf := ifT c10 hf
        exact t_X2_seekNoise_63 C hr IH10 x2 x3 σ6 _ _ _ h (lv_sub hl [1, 2, 3] rfl) hf
      · have hf := ifF c10 hf
        exact t_X2_seekNoise_52 C hr IH10 x2 x3 r8 σ6 _ _ _ h (lv_sub hl [1, 2, 3, 0] rfl) hf
def f_X2_seekNoise  (x2 : Int32) (σ : St) : Option (St) := bv (f_X1_copyFrom 66 20 σ) (fun σ1 => f_X2_seekNoise_10 x2 0 σ1)
set_option maxHeartbeats 4000000 in
theorem c_X2_seekNoise (l : Launch) (D : va_G) (G : Geo)   (x2 : Int32) (σ : St) (o : St) (hf : f_X2_seekNoise  x2 σ = some o) : CV l D (tyG G) (wC G) yX2_seekNoise cX2_seekNoise 5 none ({ frames := 3, cells := 0, slots := 0, locals := 76 }) [.ref (G.1 60), .ref (G.1 20), .int x2] σ o := by
  refine met_of (Qc := fun A => QV D (tyG G) (wC G) A o) pn_X2 (Nat.le_of_ble_eq_true rfl) (fun p e s m below meth c A ls C hr h hl => ?_)
  have C : Cx p s m _ meth c cX2_seekNoise 5 RX2 D (tyG G) := C
  have hl : lv_has ls 5 [(0, .ref (G.1 60)), (1, .ref (G.1 20)), (2, .int x2)] := hl
  unfold f_X2_seekNoise at hf
  have hx := C.1
  have hb := C.2.1
  refine lv_aload_n hx hb dX2_seekNoise_0 rfl (lv_at hl 0 rfl) ?_
  refine gf_X2_24 C h (by decide) dX2_seekNoise_1 ?_
  refine lv_aload_n hx hb dX2_seekNoise_4 rfl (lv_at hl 1 rfl) ?_
  refine bv_el hf (fun σ1 ho2 hf => ?_)
  refine x_gov h (x_runV (As := [.ref (G.1 20)]) (rest := []) C h (c_X1_copyFrom l D G 66 (by decide) 20 (by decide) σ σ1 ho2 _) lk_X2_31 rfl ⟨rfl, rfl, Nat.le_of_ble_eq_true rfl, Nat.le_of_ble_eq_true rfl⟩ (x_rcv C h 66 (lt_X1 (by decide)) ((oC_X1 G (by decide)) _ _) rfl) hl.1 rfl (Nat.le_of_ble_eq_true rfl) dX2_seekNoise_5) (fun H locs h => ?_)
  refine lv_iconst (v := 0) hx hb dX2_seekNoise_8 (by decide) ?_
  refine lv_istore_n (lv' := [(3, .int 0), (0, .ref (G.1 60)), (1, .ref (G.1 20)), (2, .int x2)]) hx hb dX2_seekNoise_9 rfl hl (by decide) rfl (fun ls hl => ?_)
  exact t_X2_seekNoise_10 C hr x2 0 σ1 _ _ _ h (lv_sub hl [1, 3, 0] rfl) hf
def f_X2_playRound_50  (rec4 : Int32 × Int32 × St → Option (Int32 × St)) (x1 : Int32) (x2 : Int32) (σ : St) : Option (Int32 × St) := rec4 (x1, x2 + 1, σ)
set_option maxHeartbeats 4000000 in
theorem t_X2_playRound_50 (C : Cx p s m args meth c cX2_playRound 3 RX2 D (tyG G)) (hr : meth.sig.returnType = (some .boolean)) {o : Int32 × St}  {rec4 : Int32 × Int32 × St → Option (Int32 × St)} (IH4 : ∀ q, rec4 q = some o → ∀ (H : Heap) (locs : List Loc) (ls : Array Slot), Hs D A s.heap (wC G (q.2.2)) H locs → lv_has ls 3 [(0, .ref (G.1 60)), (1, .int (q.1)), (2, .int (q.2.1))] → W p l e ({ frames := 4, cells := 0, slots := 0, locals := 104 } : Room) s m args below meth c H locs 0 0 (MQ below (QI D (tyG G) (wC G) A o) args s 0 0 A) (F0 m 4 ls [])) : ∀ (x1 : Int32) (x2 : Int32) (σ : St) (H : Heap) (locs : List Loc) (ls : Array Slot), Hs D A s.heap (wC G σ) H locs → lv_has ls 3 [(0, .ref (G.1 60)), (1, .int x1), (2, .int x2)] → f_X2_playRound_50  rec4 x1 x2 σ = some o → W p l e ({ frames := 4, cells := 0, slots := 0, locals := 104 } : Room) s m args below meth c H locs 0 0 (MQ below (QI D (tyG G) (wC G) A o) args s 0 0 A) (F0 m 50 ls []) := by
  intro x1 x2 σ H locs ls h hl hf
  unfold f_X2_playRound_50 at hf
  have hx := C.1
  have hb := C.2.1
  refine lv_iinc (v := x2 + 1) (lv' := [(2, .int (x2 + 1)), (0, .ref (G.1 60)), (1, .int x1)]) hx hb dX2_playRound_50 hl (k := 2) rfl rfl (by decide) rfl (fun ls hl => ?_)
  refine lv_goto (tgt := 4) hx hb dX2_playRound_53 (by decide) ?_
  exact IH4 (x1, x2 + 1, σ) hf _ _ _ h (lv_sub hl [1, 2, 0] rfl)
def b_X2_playRound_4   (rec4 : Int32 × Int32 × St → Option (Int32 × St)) (x1 : Int32) (x2 : Int32) (σ : St) : Option (Int32 × St) := if (σ.1 3 0) ≤ x2 then ck (bz x1) (some (x1, σ)) else bd (f_X5_sleepersOf x2 σ) (fun r4 σ2 => if r4 = 0 then f_X2_playRound_50 rec4 x1 x2 σ2 else bv (f_X2_seekShift 61 x2 σ2) (fun σ6 => bd (f_X1_shiftHouse 61 x2 (σ6.1 60 4) σ6) (fun r10 σ8 => nm (x1 ||| r10) (fun z11 => f_X2_playRound_50 rec4 z11 x2 σ8))))
def f_X2_playRound_4   (x1 : Int32) (x2 : Int32) (σ : St) : Option (Int32 × St) := lp (fun (rec4 : Int32 × Int32 × St → Option (Int32 × St)) (q : Int32 × Int32 × St) => b_X2_playRound_4   rec4 (q.1) (q.2.1) (q.2.2)) 100000 (x1, x2, σ)
set_option maxHeartbeats 4000000 in
theorem t_X2_playRound_4 (C : Cx p s m args meth c cX2_playRound 3 RX2 D (tyG G)) (hr : meth.sig.returnType = (some .boolean)) {o : Int32 × St}   : ∀ (x1 : Int32) (x2 : Int32) (σ : St) (H : Heap) (locs : List Loc) (ls : Array Slot), Hs D A s.heap (wC G σ) H locs → lv_has ls 3 [(0, .ref (G.1 60)), (1, .int x1), (2, .int x2)] → f_X2_playRound_4   x1 x2 σ = some o → W p l e ({ frames := 4, cells := 0, slots := 0, locals := 104 } : Room) s m args below meth c H locs 0 0 (MQ below (QI D (tyG G) (wC G) A o) args s 0 0 A) (F0 m 4 ls []) := by
  intro x1 x2 σ H locs ls h hl hf
  refine lp_el (P := fun q : Int32 × Int32 × St => ∀ (H : Heap) (locs : List Loc) (ls : Array Slot), Hs D A s.heap (wC G (q.2.2)) H locs → lv_has ls 3 [(0, .ref (G.1 60)), (1, .int (q.1)), (2, .int (q.2.1))] → W p l e ({ frames := 4, cells := 0, slots := 0, locals := 104 } : Room) s m args below meth c H locs 0 0 (MQ below (QI D (tyG G) (wC G) A o) args s 0 0 A) (F0 m 4 ls [])) (fun rec4 q IH4 hf => ?_) _ (x1, x2, σ) hf H locs ls h hl
  obtain ⟨x1, x2, σ⟩ := q
  intro H locs ls h hl
  have hl : lv_has ls 3 [(0, .ref (G.1 60)), (1, .int x1), (2, .int x2)] := hl
  have h : Hs D A s.heap (wC G σ) H locs := h
  have hf : b_X2_playRound_4   rec4 x1 x2 σ = some o := hf
  unfold b_X2_playRound_4 at hf
  have hx := C.1
  have hb := C.2.1
  refine lv_iload_n hx hb dX2_playRound_4 rfl (lv_at hl 2 rfl) ?_
  refine lv_aload_n hx hb dX2_playRound_5 rfl (lv_at hl 0 rfl) ?_
  refine gf_X2_9 C h (by decide) dX2_playRound_6 ?_
  refine gf_X2_79 C h (by decide) dX2_playRound_9 ?_
  refine lv_icmp_ge (tgt := 56) hx hb dX2_playRound_12 (by decide) (fun c1 => ?_) (fun c1 => ?_)
  · have hf := ifT c1 hf
    refine lv_iload_n hx hb dX2_playRound_56 rfl (lv_at hl 1 rfl) ?_
    refine ck_el hf (fun hz hf => ?_)
    exact x_zret C hr h hz hf dX2_playRound_57
  · have hf := ifF c1 hf
    refine lv_aload_n hx hb dX2_playRound_15 rfl (lv_at hl 0 rfl) ?_
    refine gf_X2_9 C h (by decide) dX2_playRound_16 ?_
    refine lv_iload_n hx hb dX2_playRound_19 rfl (lv_at hl 2 rfl) ?_
    refine bd_el hf (fun r4 σ2 ho3 hf => ?_)
    refine x_goi h (x_runV (As := [.int x2]) (rest := []) C h (c_X5_sleepersOf l D G x2 σ (r4, σ2) ho3 _) lk_X2_82 rfl ⟨rfl, rfl, Nat.le_of_ble_eq_true rfl, Nat.le_of_ble_eq_true rfl⟩ (x_rcv C h 3 (lt_X5 (by decide)) ((oC_X5 G (by decide)) _ _) rfl) hl.1 rfl (Nat.le_of_ble_eq_true rfl) dX2_playRound_20) (fun H locs h => ?_)
    refine lv_if_eq (tgt := 50) hx hb dX2_playRound_23 (by decide) (fun c5 => ?_) (fun c5 => ?_)
    · have hf := ifT c5 hf
      exact t_X2_playRound_50 C hr IH4 x1 x2 σ2 _ _ _ h (lv_sub hl [0, 1, 2] rfl) hf
    · have hf := ifF c5 hf
      refine lv_aload_n hx hb dX2_playRound_26 rfl (lv_at hl 0 rfl) ?_
      refine lv_aload_n hx hb dX2_playRound_27 rfl (lv_at hl 0 rfl) ?_
      refine gf_X2_20 C h (by decide) dX2_playRound_28 ?_
      refine lv_iload_n hx hb dX2_playRound_31 rfl (lv_at hl 2 rfl) ?_
      refine bv_el hf (fun σ6 ho7 hf => ?_)
      refine x_gov h (x_runV (As := [.ref (G.1 61), .int x2]) (rest := []) C h (c_X2_seekShift l D G 61 (by decide) x2 σ2 σ6 ho7 _) lk_X2_85 rfl ⟨rfl, rfl, Nat.le_of_ble_eq_true rfl, Nat.le_of_ble_eq_true rfl⟩ (x_rcv C h 60 (lt_X2 (by decide)) ((oC_X2 G (by decide)) _ _) rfl) hl.1 rfl (Nat.le_of_ble_eq_true rfl) dX2_playRound_32) (fun H locs h => ?_)
      refine lv_iload_n hx hb dX2_playRound_35 rfl (lv_at hl 1 rfl) ?_
      refine lv_aload_n hx hb dX2_playRound_36 rfl (lv_at hl 0 rfl) ?_
      refine gf_X2_20 C h (by decide) dX2_playRound_37 ?_
      refine lv_iload_n hx hb dX2_playRound_40 rfl (lv_at hl 2 rfl) ?_
      refine lv_aload_n hx hb dX2_playRound_41 rfl (lv_at hl 0 rfl) ?_
      refine gf_X2_53 C h (by decide) dX2_playRound_42 ?_
      refine bd_el hf (fun r10 σ8 ho9 hf => ?_)
      refine x_goi h (x_runV (As := [.int x2, .int (σ6.1 60 4)]) (rest := [.int x1]) C h (c_X1_shiftHouse l D G 61 (by decide) x2 (σ6.1 60 4) σ6 (r10, σ8) ho9 _) lk_X2_40 rfl ⟨rfl, rfl, Nat.le_of_ble_eq_true rfl, Nat.le_of_ble_eq_true rfl⟩ (x_rcv C h 61 (lt_X1 (by decide)) ((oC_X1 G (by decide)) _ _) rfl) hl.1 rfl (Nat.le_of_ble_eq_true rfl) dX2_playRound_45) (fun H locs h => ?_)
      refine lv_ior hx hb dX2_playRound_48 ?_
      refine nm_el hf (fun z11 ez11 hf => ?_)
      refine x_topi ez11 ?_
      refine lv_istore_n (lv' := [(1, .int z11), (0, .ref (G.1 60)), (2, .int x2)]) hx hb dX2_playRound_49 rfl hl (by decide) rfl (fun ls hl => ?_)
      exact t_X2_playRound_50 C hr IH4 z11 x2 σ8 _ _ _ h (lv_sub hl [1, 0, 2] rfl) hf
def f_X2_playRound   (σ : St) : Option (Int32 × St) := f_X2_playRound_4 0 0 σ
set_option maxHeartbeats 4000000 in
theorem c_X2_playRound (l : Launch) (D : va_G) (G : Geo)    (σ : St) (o : Int32 × St) (hf : f_X2_playRound   σ = some o) : CI l D (tyG G) (wC G) yX2_playRound cX2_playRound 3 ((some .boolean)) ({ frames := 4, cells := 0, slots := 0, locals := 104 }) [.ref (G.1 60)] σ o := by
  refine met_of (Qc := fun A => QI D (tyG G) (wC G) A o) pn_X2 (Nat.le_of_ble_eq_true rfl) (fun p e s m below meth c A ls C hr h hl => ?_)
  have C : Cx p s m _ meth c cX2_playRound 3 RX2 D (tyG G) := C
  have hl : lv_has ls 3 [(0, .ref (G.1 60))] := hl
  unfold f_X2_playRound at hf
  have hx := C.1
  have hb := C.2.1
  refine lv_iconst (v := 0) hx hb dX2_playRound_0 (by decide) ?_
  refine lv_istore_n (lv' := [(1, .int 0), (0, .ref (G.1 60))]) hx hb dX2_playRound_1 rfl hl (by decide) rfl (fun ls hl => ?_)
  refine lv_iconst (v := 0) hx hb dX2_playRound_2 (by decide) ?_
  refine lv_istore_n (lv' := [(2, .int 0), (1, .int 0), (0, .ref (G.1 60))]) hx hb dX2_playRound_3 rfl hl (by decide) rfl (fun ls hl => ?_)
  exact t_X2_playRound_4 C hr 0 0 σ _ _ _ h (lv_sub hl [2, 1, 0] rfl) hf
def b_X2_codeOfPlan_4   (rec4 : Int32 × Int32 × St → Option (Int32 × St)) (x1 : Int32) (x2 : Int32) (σ : St) : Option (Int32 × St) := if (σ.1 3 4) ≤ x2 then some (x1, σ) else rd (σ.1 62) 8 x2 (fun v2 => nm ((x1 * 7) + (v2 / 10)) (fun z3 => rec4 (z3, x2 + 1, σ)))
def f_X2_codeOfPlan_4   (x1 : Int32) (x2 : Int32) (σ : St) : Option (Int32 × St) := lp (fun (rec4 : Int32 × Int32 × St → Option (Int32 × St)) (q : Int32 × Int32 × St) => b_X2_codeOfPlan_4   rec4 (q.1) (q.2.1) (q.2.2)) 100000 (x1, x2, σ)
set_option maxHeartbeats 4000000 in
theorem t_X2_codeOfPlan_4 (C : Cx p s m args meth c cX2_codeOfPlan 3 RX2 D (tyG G)) (hr : meth.sig.returnType = (some .int)) {o : Int32 × St}   : ∀ (x1 : Int32) (x2 : Int32) (σ : St) (H : Heap) (locs : List Loc) (ls : Array Slot), Hs D A s.heap (wC G σ) H locs → lv_has ls 3 [(0, .ref (G.1 60)), (1, .int x1), (2, .int x2)] → f_X2_codeOfPlan_4   x1 x2 σ = some o → W p l e ({ frames := 0, cells := 0, slots := 0, locals := 0 } : Room) s m args below meth c H locs 0 0 (MQ below (QI D (tyG G) (wC G) A o) args s 0 0 A) (F0 m 4 ls []) := by
  intro x1 x2 σ H locs ls h hl hf
  refine lp_el (P := fun q : Int32 × Int32 × St => ∀ (H : Heap) (locs : List Loc) (ls : Array Slot), Hs D A s.heap (wC G (q.2.2)) H locs → lv_has ls 3 [(0, .ref (G.1 60)), (1, .int (q.1)), (2, .int (q.2.1))] → W p l e ({ frames := 0, cells := 0, slots := 0, locals := 0 } : Room) s m args below meth c H locs 0 0 (MQ below (QI D (tyG G) (wC G) A o) args s 0 0 A) (F0 m 4 ls [])) (fun rec4 q IH4 hf => ?_) _ (x1, x2, σ) hf H locs ls h hl
  obtain ⟨x1, x2, σ⟩ := q
  intro H locs ls h hl
  have hl : lv_has ls 3 [(0, .ref (G.1 60)), (1, .int x1), (2, .int x2)] := hl
  have h : Hs D A s.heap (wC G σ) H locs := h
  have hf : b_X2_codeOfPlan_4   rec4 x1 x2 σ = some o := hf
  unfold b_X2_codeOfPlan_4 at hf
  have hx := C.1
  have hb := C.2.1
  refine lv_iload_n hx hb dX2_codeOfPlan_4 rfl (lv_at hl 2 rfl) ?_
  refine lv_aload_n hx hb dX2_codeOfPlan_5 rfl (lv_at hl 0 rfl) ?_
  refine gf_X2_9 C h (by decide) dX2_codeOfPlan_6 ?_
  refine gf_X2_89 C h (by decide) dX2_codeOfPlan_9 ?_
  refine lv_icmp_ge (tgt := 39) hx hb dX2_codeOfPlan_12 (by decide) (fun c1 => ?_) (fun c1 => ?_)
  · have hf := ifT c1 hf
    refine lv_iload_n hx hb dX2_codeOfPlan_39 rfl (lv_at hl 1 rfl) ?_
    exact x_iret C hr h hf dX2_codeOfPlan_40
  · have hf := ifF c1 hf
    refine lv_iload_n hx hb dX2_codeOfPlan_15 rfl (lv_at hl 1 rfl) ?_
    refine lv_bipush (v := 7) hx hb dX2_codeOfPlan_16 (by decide) ?_
    refine lv_imul hx hb dX2_codeOfPlan_18 ?_
    refine lv_aload_n hx hb dX2_codeOfPlan_19 rfl (lv_at hl 0 rfl) ?_
    refine gf_X2_20 C h (by decide) dX2_codeOfPlan_20 ?_
    refine gf_X2_92 C h (by decide) dX2_codeOfPlan_23 ?_
    refine lv_iload_n hx hb dX2_codeOfPlan_26 rfl (lv_at hl 2 rfl) ?_
    refine rd_el hf (fun v2 hinv2 hv2 hf => ?_)
    refine x_iald C h 62 1 (ltA_X1_shifted (by decide)) ((aC_X1_shifted G (by decide)) _ _) rfl hinv2 hv2 dX2_codeOfPlan_27 ?_
    refine lv_bipush (v := 10) hx hb dX2_codeOfPlan_28 (by decide) ?_
    refine lv_idiv hx hb dX2_codeOfPlan_30 (by decide) ?_
    refine lv_iadd hx hb dX2_codeOfPlan_31 ?_
    refine nm_el hf (fun z3 ez3 hf => ?_)
    refine x_topi ez3 ?_
    refine lv_istore_n (lv' := [(1, .int z3), (0, .ref (G.1 60)), (2, .int x2)]) hx hb dX2_codeOfPlan_32 rfl hl (by decide) rfl (fun ls hl => ?_)
    refine lv_iinc (v := x2 + 1) (lv' := [(2, .int (x2 + 1)), (1, .int z3), (0, .ref (G.1 60))]) hx hb dX2_codeOfPlan_33 hl (k := 2) rfl rfl (by decide) rfl (fun ls hl => ?_)
    refine lv_goto (tgt := 4) hx hb dX2_codeOfPlan_36 (by decide) ?_
    exact IH4 (z3, x2 + 1, σ) hf _ _ _ h (lv_sub hl [2, 1, 0] rfl)
def f_X2_codeOfPlan   (σ : St) : Option (Int32 × St) := f_X2_codeOfPlan_4 0 0 σ
set_option maxHeartbeats 4000000 in
theorem c_X2_codeOfPlan (l : Launch) (D : va_G) (G : Geo)    (σ : St) (o : Int32 × St) (hf : f_X2_codeOfPlan   σ = some o) : CI l D (tyG G) (wC G) yX2_codeOfPlan cX2_codeOfPlan 3 ((some .int)) ({ frames := 0, cells := 0, slots := 0, locals := 0 }) [.ref (G.1 60)] σ o := by
  refine met_of (Qc := fun A => QI D (tyG G) (wC G) A o) pn_X2 (Nat.le_of_ble_eq_true rfl) (fun p e s m below meth c A ls C hr h hl => ?_)
  have C : Cx p s m _ meth c cX2_codeOfPlan 3 RX2 D (tyG G) := C
  have hl : lv_has ls 3 [(0, .ref (G.1 60))] := hl
  unfold f_X2_codeOfPlan at hf
  have hx := C.1
  have hb := C.2.1
  refine lv_iconst (v := 0) hx hb dX2_codeOfPlan_0 (by decide) ?_
  refine lv_istore_n (lv' := [(1, .int 0), (0, .ref (G.1 60))]) hx hb dX2_codeOfPlan_1 rfl hl (by decide) rfl (fun ls hl => ?_)
  refine lv_iconst (v := 0) hx hb dX2_codeOfPlan_2 (by decide) ?_
  refine lv_istore_n (lv' := [(2, .int 0), (1, .int 0), (0, .ref (G.1 60))]) hx hb dX2_codeOfPlan_3 rfl hl (by decide) rfl (fun ls hl => ?_)
  exact t_X2_codeOfPlan_4 C hr 0 0 σ _ _ _ h (lv_sub hl [2, 1, 0] rfl) hf
def b_X2_wasThere_2   (rec2 : Int32 × Int32 × St → Option (Int32 × St)) (x1 : Int32) (x2 : Int32) (σ : St) : Option (Int32 × St) := if x1 ≤ x2 then some (0, σ) else rd (σ.1 71) 20 x2 (fun v2 => rd (σ.1 71) 20 x1 (fun v3 => if v2 = v3 then some (1, σ) else rec2 (x1, x2 + 1, σ)))
def f_X2_wasThere_2   (x1 : Int32) (x2 : Int32) (σ : St) : Option (Int32 × St) := lp (fun (rec2 : Int32 × Int32 × St → Option (Int32 × St)) (q : Int32 × Int32 × St) => b_X2_wasThere_2   rec2 (q.1) (q.2.1) (q.2.2)) 100000 (x1, x2, σ)
set_option maxHeartbeats 4000000 in
theorem t_X2_wasThere_2 (C : Cx p s m args meth c cX2_wasThere 3 RX2 D (tyG G)) (hr : meth.sig.returnType = (some .boolean)) {o : Int32 × St}   : ∀ (x1 : Int32) (x2 : Int32) (σ : St) (H : Heap) (locs : List Loc) (ls : Array Slot), Hs D A s.heap (wC G σ) H locs → lv_has ls 3 [(0, .ref (G.1 60)), (1, .int x1), (2, .int x2)] → f_X2_wasThere_2   x1 x2 σ = some o → W p l e ({ frames := 0, cells := 0, slots := 0, locals := 0 } : Room) s m args below meth c H locs 0 0 (MQ below (QI D (tyG G) (wC G) A o) args s 0 0 A) (F0 m 2 ls []) := by
  intro x1 x2 σ H locs ls h hl hf
  refine lp_el (P := fun q : Int32 × Int32 × St => ∀ (H : Heap) (locs : List Loc) (ls : Array Slot), Hs D A s.heap (wC G (q.2.2)) H locs → lv_has ls 3 [(0, .ref (G.1 60)), (1, .int (q.1)), (2, .int (q.2.1))] → W p l e ({ frames := 0, cells := 0, slots := 0, locals := 0 } : Room) s m args below meth c H locs 0 0 (MQ below (QI D (tyG G) (wC G) A o) args s 0 0 A) (F0 m 2 ls [])) (fun rec2 q IH2 hf => ?_) _ (x1, x2, σ) hf H locs ls h hl
  obtain ⟨x1, x2, σ⟩ := q
  intro H locs ls h hl
  have hl : lv_has ls 3 [(0, .ref (G.1 60)), (1, .int x1), (2, .int x2)] := hl
  have h : Hs D A s.heap (wC G σ) H locs := h
  have hf : b_X2_wasThere_2   rec2 x1 x2 σ = some o := hf
  unfold b_X2_wasThere_2 at hf
  have hx := C.1
  have hb := C.2.1
  refine lv_iload_n hx hb dX2_wasThere_2 rfl (lv_at hl 2 rfl) ?_
  refine lv_iload_n hx hb dX2_wasThere_3 rfl (lv_at hl 1 rfl) ?_
  refine lv_icmp_ge (tgt := 30) hx hb dX2_wasThere_4 (by decide) (fun c1 => ?_) (fun c1 => ?_)
  · have hf := ifT c1 hf
    refine lv_iconst (v := 0) hx hb dX2_wasThere_30 (by decide) ?_
    exact x_zret C hr h rfl hf dX2_wasThere_31
  · have hf := ifF c1 hf
    refine lv_aload_n hx hb dX2_wasThere_7 rfl (lv_at hl 0 rfl) ?_
    refine gf_X2_27 C h (by decide) dX2_wasThere_8 ?_
    refine lv_iload_n hx hb dX2_wasThere_11 rfl (lv_at hl 2 rfl) ?_
    refine rd_el hf (fun v2 hinv2 hv2 hf => ?_)
    refine x_iald C h 71 1 (ltA_X2_codes (by decide)) ((aC_X2_codes G (by decide)) _ _) rfl hinv2 hv2 dX2_wasThere_12 ?_
    refine lv_aload_n hx hb dX2_wasThere_13 rfl (lv_at hl 0 rfl) ?_
    refine gf_X2_27 C h (by decide) dX2_wasThere_14 ?_
    refine lv_iload_n hx hb dX2_wasThere_17 rfl (lv_at hl 1 rfl) ?_
    refine rd_el hf (fun v3 hinv3 hv3 hf => ?_)
    refine x_iald C h 71 1 (ltA_X2_codes (by decide)) ((aC_X2_codes G (by decide)) _ _) rfl hinv3 hv3 dX2_wasThere_18 ?_
    refine lv_icmp_ne (tgt := 24) hx hb dX2_wasThere_19 (by decide) (fun c4 => ?_) (fun c4 => ?_)
    · have hf := ifF c4 hf
      refine lv_iinc (v := x2 + 1) (lv' := [(2, .int (x2 + 1)), (0, .ref (G.1 60)), (1, .int x1)]) hx hb dX2_wasThere_24 hl (k := 2) rfl rfl (by decide) rfl (fun ls hl => ?_)
      refine lv_goto (tgt := 2) hx hb dX2_wasThere_27 (by decide) ?_
      exact IH2 (x1, x2 + 1, σ) hf _ _ _ h (lv_sub hl [1, 2, 0] rfl)
    · have hf := ifT c4 hf
      refine lv_iconst (v := 1) hx hb dX2_wasThere_22 (by decide) ?_
      exact x_zret C hr h rfl hf dX2_wasThere_23
def f_X2_wasThere  (x1 : Int32) (σ : St) : Option (Int32 × St) := f_X2_wasThere_2 x1 0 σ
set_option maxHeartbeats 4000000 in
theorem c_X2_wasThere (l : Launch) (D : va_G) (G : Geo)   (x1 : Int32) (σ : St) (o : Int32 × St) (hf : f_X2_wasThere  x1 σ = some o) : CI l D (tyG G) (wC G) yX2_wasThere cX2_wasThere 3 ((some .boolean)) ({ frames := 0, cells := 0, slots := 0, locals := 0 }) [.ref (G.1 60), .int x1] σ o := by
  refine met_of (Qc := fun A => QI D (tyG G) (wC G) A o) pn_X2 (Nat.le_of_ble_eq_true rfl) (fun p e s m below meth c A ls C hr h hl => ?_)
  have C : Cx p s m _ meth c cX2_wasThere 3 RX2 D (tyG G) := C
  have hl : lv_has ls 3 [(0, .ref (G.1 60)), (1, .int x1)] := hl
  unfold f_X2_wasThere at hf
  have hx := C.1
  have hb := C.2.1
  refine lv_iconst (v := 0) hx hb dX2_wasThere_0 (by decide) ?_
  refine lv_istore_n (lv' := [(2, .int 0), (0, .ref (G.1 60)), (1, .int x1)]) hx hb dX2_wasThere_1 rfl hl (by decide) rfl (fun ls hl => ?_)
  exact t_X2_wasThere_2 C hr x1 0 σ _ _ _ h (lv_sub hl [1, 2, 0] rfl) hf
def b_X2_settle_10   (rec10 : Int32 × St → Option (Int32 × St)) (x2 : Int32) (σ : St) : Option (Int32 × St) := if (20 : Int32) ≤ x2 then some ((-1), σ) else bd (f_X2_playRound σ) (fun r6 σ4 => if r6 = 0 then some (x2, σ4) else bd (f_X2_codeOfPlan σ4) (fun r10 σ8 => ck (inb x2 20) (nm (sI σ8 71 (x2 : Int32).toNatClampNeg r10) (fun σ12 => bd (f_X2_wasThere x2 σ12) (fun r15 σ13 => if r15 = 0 then rec10 (x2 + 1, σ13) else some ((-1), σ13))))))
def f_X2_settle_10   (x2 : Int32) (σ : St) : Option (Int32 × St) := lp (fun (rec10 : Int32 × St → Option (Int32 × St)) (q : Int32 × St) => b_X2_settle_10   rec10 (q.1) (q.2)) 100000 (x2, σ)
set_option maxHeartbeats 4000000 in
theorem t_X2_settle_10 (C : Cx p s m args meth c cX2_settle 3 RX2 D (tyG G)) (hr : meth.sig.returnType = (some .int)) {o : Int32 × St}   : ∀ (x2 : Int32) (σ : St) (H : Heap) (locs : List Loc) (ls : Array Slot), Hs D A s.heap (wC G σ) H locs → lv_has ls 3 [(0, .ref (G.1 60)), (2, .int x2)] → f_X2_settle_10   x2 σ = some o → W p l e ({ frames := 5, cells := 0, slots := 0, locals := 126 } : Room) s m args below meth c H locs 0 0 (MQ below (QI D (tyG G) (wC G) A o) args s 0 0 A) (F0 m 10 ls []) := by
  intro x2 σ H locs ls h hl hf
  refine lp_el (P := fun q : Int32 × St => ∀ (H : Heap) (locs : List Loc) (ls : Array Slot), Hs D A s.heap (wC G (q.2)) H locs → lv_has ls 3 [(0, .ref (G.1 60)), (2, .int (q.1))] → W p l e ({ frames := 5, cells := 0, slots := 0, locals := 126 } : Room) s m args below meth c H locs 0 0 (MQ below (QI D (tyG G) (wC G) A o) args s 0 0 A) (F0 m 10 ls [])) (fun rec10 q IH10 hf => ?_) _ (x2, σ) hf H locs ls h hl
  obtain ⟨x2, σ⟩ := q
  intro H locs ls h hl
  have hl : lv_has ls 3 [(0, .ref (G.1 60)), (2, .int x2)] := hl
  have h : Hs D A s.heap (wC G σ) H locs := h
  have hf : b_X2_settle_10   rec10 x2 σ = some o := hf
  unfold b_X2_settle_10 at hf
  have hx := C.1
  have hb := C.2.1
  refine lv_iload_n hx hb dX2_settle_10 rfl (lv_at hl 1 rfl) ?_
  refine lv_bipush (v := 20) hx hb dX2_settle_11 (by decide) ?_
  refine lv_icmp_ge (tgt := 51) hx hb dX2_settle_13 (by decide) (fun c3 => ?_) (fun c3 => ?_)
  · have hf := ifT c3 hf
    refine lv_iconst (v := (-1)) hx hb dX2_settle_51 (by decide) ?_
    exact x_iret C hr h hf dX2_settle_52
  · have hf := ifF c3 hf
    refine lv_aload_n hx hb dX2_settle_16 rfl (lv_at hl 0 rfl) ?_
    refine bd_el hf (fun r6 σ4 ho5 hf => ?_)
    refine x_goi h (x_runV (As := []) (rest := []) C h (c_X2_playRound l D G σ (r6, σ4) ho5 _) lk_X2_67 rfl ⟨rfl, rfl, Nat.le_of_ble_eq_true rfl, Nat.le_of_ble_eq_true rfl⟩ (x_rcv C h 60 (lt_X2 (by decide)) ((oC_X2 G (by decide)) _ _) rfl) hl.1 rfl (Nat.le_of_ble_eq_true rfl) dX2_settle_17) (fun H locs h => ?_)
    refine lv_if_ne (tgt := 25) hx hb dX2_settle_20 (by decide) (fun c7 => ?_) (fun c7 => ?_)
    · have hf := ifF c7 hf
      refine lv_aload_n hx hb dX2_settle_25 rfl (lv_at hl 0 rfl) ?_
      refine gf_X2_27 C h (by decide) dX2_settle_26 ?_
      refine lv_iload_n hx hb dX2_settle_29 rfl (lv_at hl 1 rfl) ?_
      refine lv_aload_n hx hb dX2_settle_30 rfl (lv_at hl 0 rfl) ?_
      refine bd_el hf (fun r10 σ8 ho9 hf => ?_)
      refine x_goi h (x_runV (As := []) (rest := [.int x2, .ref (G.1 71)]) C h (c_X2_codeOfPlan l D G σ4 (r10, σ8) ho9 _) lk_X2_71 rfl ⟨rfl, rfl, Nat.le_of_ble_eq_true rfl, Nat.le_of_ble_eq_true rfl⟩ (x_rcv C h 60 (lt_X2 (by decide)) ((oC_X2 G (by decide)) _ _) rfl) hl.1 rfl (Nat.le_of_ble_eq_true rfl) dX2_settle_31) (fun H locs h => ?_)
      refine ckb_el hf (fun hin11 hf => ?_)
      refine nm_el hf (fun σ12 hσ12 hf => ?_)
      refine x_iast C h 71 1 (ltA_X2_codes (by decide)) (fun f => (aC_X2_codes G (by decide)) f _) rfl hin11 dX2_settle_34 hσ12 (fun H locs h => ?_)
      refine lv_aload_n hx hb dX2_settle_35 rfl (lv_at hl 0 rfl) ?_
      refine lv_iload_n hx hb dX2_settle_36 rfl (lv_at hl 1 rfl) ?_
      refine bd_el hf (fun r15 σ13 ho14 hf => ?_)
      refine x_goi h (x_runV (As := [.int x2]) (rest := []) C h (c_X2_wasThere l D G x2 σ12 (r15, σ13) ho14 _) lk_X2_75 rfl ⟨rfl, rfl, Nat.le_of_ble_eq_true rfl, Nat.le_of_ble_eq_true rfl⟩ (x_rcv C h 60 (lt_X2 (by decide)) ((oC_X2 G (by decide)) _ _) rfl) hl.1 rfl (Nat.le_of_ble_eq_true rfl) dX2_settle_37) (fun H locs h => ?_)
      refine lv_if_eq (tgt := 45) hx hb dX2_settle_40 (by decide) (fun c16 => ?_) (fun c16 => ?_)
      · have hf := ifT c16 hf
        refine lv_iinc (v := x2 + 1) (lv' := [(2, .int (x2 + 1)), (0, .ref (G.1 60))]) hx hb dX2_settle_45 hl (k := 1) rfl rfl (by decide) rfl (fun ls hl => ?_)
        refine lv_goto (tgt := 10) hx hb dX2_settle_48 (by decide) ?_
        exact IH10 (x2 + 1, σ13) hf _ _ _ h (lv_sub hl [1, 0] rfl)
      · have hf := ifF c16 hf
        refine lv_iconst (v := (-1)) hx hb dX2_settle_43 (by decide) ?_
        exact x_iret C hr h hf dX2_settle_44
    · have hf := ifT c7 hf
      refine lv_iload_n hx hb dX2_settle_23 rfl (lv_at hl 1 rfl) ?_
      exact x_iret C hr h hf dX2_settle_24
def f_X2_settle   (σ : St) : Option (Int32 × St) := bv (f_X1_copyFrom 61 20 σ) (fun σ1 => f_X2_settle_10 0 σ1)
set_option maxHeartbeats 4000000 in
theorem c_X2_settle (l : Launch) (D : va_G) (G : Geo)    (σ : St) (o : Int32 × St) (hf : f_X2_settle   σ = some o) : CI l D (tyG G) (wC G) yX2_settle cX2_settle 3 ((some .int)) ({ frames := 5, cells := 0, slots := 0, locals := 126 }) [.ref (G.1 60), .ref (G.1 20)] σ o := by
  refine met_of (Qc := fun A => QI D (tyG G) (wC G) A o) pn_X2 (Nat.le_of_ble_eq_true rfl) (fun p e s m below meth c A ls C hr h hl => ?_)
  have C : Cx p s m _ meth c cX2_settle 3 RX2 D (tyG G) := C
  have hl : lv_has ls 3 [(0, .ref (G.1 60)), (1, .ref (G.1 20))] := hl
  unfold f_X2_settle at hf
  have hx := C.1
  have hb := C.2.1
  refine lv_aload_n hx hb dX2_settle_0 rfl (lv_at hl 0 rfl) ?_
  refine gf_X2_20 C h (by decide) dX2_settle_1 ?_
  refine lv_aload_n hx hb dX2_settle_4 rfl (lv_at hl 1 rfl) ?_
  refine bv_el hf (fun σ1 ho2 hf => ?_)
  refine x_gov h (x_runV (As := [.ref (G.1 20)]) (rest := []) C h (c_X1_copyFrom l D G 61 (by decide) 20 (by decide) σ σ1 ho2 _) lk_X2_31 rfl ⟨rfl, rfl, Nat.le_of_ble_eq_true rfl, Nat.le_of_ble_eq_true rfl⟩ (x_rcv C h 61 (lt_X1 (by decide)) ((oC_X1 G (by decide)) _ _) rfl) hl.1 rfl (Nat.le_of_ble_eq_true rfl) dX2_settle_5) (fun H locs h => ?_)
  refine lv_iconst (v := 0) hx hb dX2_settle_8 (by decide) ?_
  refine lv_istore_n (lv' := [(2, .int 0), (0, .ref (G.1 60)), (1, .ref (G.1 20))]) hx hb dX2_settle_9 rfl hl (by decide) rfl (fun ls hl => ?_)
  exact t_X2_settle_10 C hr 0 σ1 _ _ _ h (lv_sub hl [1, 0] rfl) hf
def b_X2_settledShift_2   (rec2 : Int32 × Int32 × St → Option (Int32 × St)) (x1 : Int32) (x2 : Int32) (σ : St) : Option (Int32 × St) := if (σ.1 3 4) ≤ x2 then some (0, σ) else rd (σ.1 7) 8 x2 (fun v2 => if v2 = x1 then rd (σ.1 62) 8 x2 (fun v4 => some (v4, σ)) else rec2 (x1, x2 + 1, σ))
def f_X2_settledShift_2   (x1 : Int32) (x2 : Int32) (σ : St) : Option (Int32 × St) := lp (fun (rec2 : Int32 × Int32 × St → Option (Int32 × St)) (q : Int32 × Int32 × St) => b_X2_settledShift_2   rec2 (q.1) (q.2.1) (q.2.2)) 100000 (x1, x2, σ)
set_option maxHeartbeats 4000000 in
theorem t_X2_settledShift_2 (C : Cx p s m args meth c cX2_settledShift 3 RX2 D (tyG G)) (hr : meth.sig.returnType = (some .int)) {o : Int32 × St}   : ∀ (x1 : Int32) (x2 : Int32) (σ : St) (H : Heap) (locs : List Loc) (ls : Array Slot), Hs D A s.heap (wC G σ) H locs → lv_has ls 3 [(0, .ref (G.1 60)), (1, .int x1), (2, .int x2)] → f_X2_settledShift_2   x1 x2 σ = some o → W p l e ({ frames := 0, cells := 0, slots := 0, locals := 0 } : Room) s m args below meth c H locs 0 0 (MQ below (QI D (tyG G) (wC G) A o) args s 0 0 A) (F0 m 2 ls []) := by
  intro x1 x2 σ H locs ls h hl hf
  refine lp_el (P := fun q : Int32 × Int32 × St => ∀ (H : Heap) (locs : List Loc) (ls : Array Slot), Hs D A s.heap (wC G (q.2.2)) H locs → lv_has ls 3 [(0, .ref (G.1 60)), (1, .int (q.1)), (2, .int (q.2.1))] → W p l e ({ frames := 0, cells := 0, slots := 0, locals := 0 } : Room) s m args below meth c H locs 0 0 (MQ below (QI D (tyG G) (wC G) A o) args s 0 0 A) (F0 m 2 ls [])) (fun rec2 q IH2 hf => ?_) _ (x1, x2, σ) hf H locs ls h hl
  obtain ⟨x1, x2, σ⟩ := q
  intro H locs ls h hl
  have hl : lv_has ls 3 [(0, .ref (G.1 60)), (1, .int x1), (2, .int x2)] := hl
  have h : Hs D A s.heap (wC G σ) H locs := h
  have hf : b_X2_settledShift_2   rec2 x1 x2 σ = some o := hf
  unfold b_X2_settledShift_2 at hf
  have hx := C.1
  have hb := C.2.1
  refine lv_iload_n hx hb dX2_settledShift_2 rfl (lv_at hl 2 rfl) ?_
  refine lv_aload_n hx hb dX2_settledShift_3 rfl (lv_at hl 0 rfl) ?_
  refine gf_X2_9 C h (by decide) dX2_settledShift_4 ?_
  refine gf_X2_89 C h (by decide) dX2_settledShift_7 ?_
  refine lv_icmp_ge (tgt := 42) hx hb dX2_settledShift_10 (by decide) (fun c1 => ?_) (fun c1 => ?_)
  · have hf := ifT c1 hf
    refine lv_iconst (v := 0) hx hb dX2_settledShift_42 (by decide) ?_
    exact x_iret C hr h hf dX2_settledShift_43
  · have hf := ifF c1 hf
    refine lv_aload_n hx hb dX2_settledShift_13 rfl (lv_at hl 0 rfl) ?_
    refine gf_X2_9 C h (by decide) dX2_settledShift_14 ?_
    refine gf_X2_95 C h (by decide) dX2_settledShift_17 ?_
    refine lv_iload_n hx hb dX2_settledShift_20 rfl (lv_at hl 2 rfl) ?_
    refine rd_el hf (fun v2 hinv2 hv2 hf => ?_)
    refine x_iald C h 7 1 (ltA_X5_home (by decide)) ((aC_X5_home G (by decide)) _ _) rfl hinv2 hv2 dX2_settledShift_21 ?_
    refine lv_iload_n hx hb dX2_settledShift_22 rfl (lv_at hl 1 rfl) ?_
    refine lv_icmp_ne (tgt := 36) hx hb dX2_settledShift_23 (by decide) (fun c3 => ?_) (fun c3 => ?_)
    · have hf := ifF c3 hf
      refine lv_iinc (v := x2 + 1) (lv' := [(2, .int (x2 + 1)), (0, .ref (G.1 60)), (1, .int x1)]) hx hb dX2_settledShift_36 hl (k := 2) rfl rfl (by decide) rfl (fun ls hl => ?_)
      refine lv_goto (tgt := 2) hx hb dX2_settledShift_39 (by decide) ?_
      exact IH2 (x1, x2 + 1, σ) hf _ _ _ h (lv_sub hl [1, 2, 0] rfl)
    · have hf := ifT c3 hf
      refine lv_aload_n hx hb dX2_settledShift_26 rfl (lv_at hl 0 rfl) ?_
      refine gf_X2_20 C h (by decide) dX2_settledShift_27 ?_
      refine gf_X2_92 C h (by decide) dX2_settledShift_30 ?_
      refine lv_iload_n hx hb dX2_settledShift_33 rfl (lv_at hl 2 rfl) ?_
      refine rd_el hf (fun v4 hinv4 hv4 hf => ?_)
      refine x_iald C h 62 1 (ltA_X1_shifted (by decide)) ((aC_X1_shifted G (by decide)) _ _) rfl hinv4 hv4 dX2_settledShift_34 ?_
      exact x_iret C hr h hf dX2_settledShift_35
def f_X2_settledShift  (x1 : Int32) (σ : St) : Option (Int32 × St) := f_X2_settledShift_2 x1 0 σ
set_option maxHeartbeats 4000000 in
theorem c_X2_settledShift (l : Launch) (D : va_G) (G : Geo)   (x1 : Int32) (σ : St) (o : Int32 × St) (hf : f_X2_settledShift  x1 σ = some o) : CI l D (tyG G) (wC G) yX2_settledShift cX2_settledShift 3 ((some .int)) ({ frames := 0, cells := 0, slots := 0, locals := 0 }) [.ref (G.1 60), .int x1] σ o := by
  refine met_of (Qc := fun A => QI D (tyG G) (wC G) A o) pn_X2 (Nat.le_of_ble_eq_true rfl) (fun p e s m below meth c A ls C hr h hl => ?_)
  have C : Cx p s m _ meth c cX2_settledShift 3 RX2 D (tyG G) := C
  have hl : lv_has ls 3 [(0, .ref (G.1 60)), (1, .int x1)] := hl
  unfold f_X2_settledShift at hf
  have hx := C.1
  have hb := C.2.1
  refine lv_iconst (v := 0) hx hb dX2_settledShift_0 (by decide) ?_
  refine lv_istore_n (lv' := [(2, .int 0), (0, .ref (G.1 60)), (1, .int x1)]) hx hb dX2_settledShift_1 rfl hl (by decide) rfl (fun ls hl => ?_)
  exact t_X2_settledShift_2 C hr x1 0 σ _ _ _ h (lv_sub hl [1, 2, 0] rfl) hf
def f_X6_add  (x1 : Int32) (x2 : Int32) (σ : St) : Option (Int32 × St) := if (σ.1 52 0) < 40 then ck (inb (σ.1 52 0) 40) (nm (sI σ 53 (σ.1 52 0 : Int32).toNatClampNeg x1) (fun σ3 => ck (inb (σ3.1 52 0) 40) (nm (sI σ3 54 (σ3.1 52 0 : Int32).toNatClampNeg x2) (fun σ5 => nm (sI σ5 52 0 ((σ5.1 52 0) + 1)) (fun σ6 => some (1, σ6)))))) else some (0, σ)
set_option maxHeartbeats 4000000 in
theorem c_X6_add (l : Launch) (D : va_G) (G : Geo)   (x1 : Int32) (x2 : Int32) (σ : St) (o : Int32 × St) (hf : f_X6_add  x1 x2 σ = some o) : CI l D (tyG G) (wC G) yX6_add cX6_add 3 ((some .boolean)) ({ frames := 0, cells := 0, slots := 0, locals := 0 }) [.ref (G.1 52), .int x1, .int x2] σ o := by
  refine met_of (Qc := fun A => QI D (tyG G) (wC G) A o) pn_X6 (Nat.le_of_ble_eq_true rfl) (fun p e s m below meth c A ls C hr h hl => ?_)
  have C : Cx p s m _ meth c cX6_add 3 RX6 D (tyG G) := C
  have hl : lv_has ls 3 [(0, .ref (G.1 52)), (1, .int x1), (2, .int x2)] := hl
  unfold f_X6_add at hf
  have hx := C.1
  have hb := C.2.1
  refine lv_aload_n hx hb dX6_add_0 rfl (lv_at hl 0 rfl) ?_
  refine gf_X6_27 C h (by decide) dX6_add_1 ?_
  refine lv_bipush (v := 40) hx hb dX6_add_4 (by decide) ?_
  refine lv_icmp_lt (tgt := 11) hx hb dX6_add_6 (by decide) (fun c1 => ?_) (fun c1 => ?_)
  · have hf := ifT c1 hf
    refine lv_aload_n hx hb dX6_add_11 rfl (lv_at hl 0 rfl) ?_
    refine gf_X6_9 C h (by decide) dX6_add_12 ?_
    refine lv_aload_n hx hb dX6_add_15 rfl (lv_at hl 0 rfl) ?_
    refine gf_X6_27 C h (by decide) dX6_add_16 ?_
    refine lv_iload_n hx hb dX6_add_19 rfl (lv_at hl 1 rfl) ?_
    refine ckb_el hf (fun hin2 hf => ?_)
    refine nm_el hf (fun σ3 hσ3 hf => ?_)
    refine x_iast C h 53 1 (ltA_X6_who (by decide)) (fun f => (aC_X6_who G (by decide)) f _) rfl hin2 dX6_add_20 hσ3 (fun H locs h => ?_)
    refine lv_aload_n hx hb dX6_add_21 rfl (lv_at hl 0 rfl) ?_
    refine gf_X6_15 C h (by decide) dX6_add_22 ?_
    refine lv_aload_n hx hb dX6_add_25 rfl (lv_at hl 0 rfl) ?_
    refine gf_X6_27 C h (by decide) dX6_add_26 ?_
    refine lv_iload_n hx hb dX6_add_29 rfl (lv_at hl 2 rfl) ?_
    refine ckb_el hf (fun hin4 hf => ?_)
    refine nm_el hf (fun σ5 hσ5 hf => ?_)
    refine x_iast C h 54 1 (ltA_X6_minutes (by decide)) (fun f => (aC_X6_minutes G (by decide)) f _) rfl hin4 dX6_add_30 hσ5 (fun H locs h => ?_)
    refine lv_aload_n hx hb dX6_add_31 rfl (lv_at hl 0 rfl) ?_
    refine lv_dup hx hb dX6_add_32 rfl ?_
    refine gf_X6_27 C h (by decide) dX6_add_33 ?_
    refine lv_iconst (v := 1) hx hb dX6_add_36 (by decide) ?_
    refine lv_iadd hx hb dX6_add_37 ?_
    refine nm_el hf (fun σ6 hσ6 hf => ?_)
    refine pf_X6_27 C h (by decide) dX6_add_38 hσ6 (fun H locs h => ?_)
    refine lv_iconst (v := 1) hx hb dX6_add_41 (by decide) ?_
    exact x_zret C hr h rfl hf dX6_add_42
  · have hf := ifF c1 hf
    refine lv_iconst (v := 0) hx hb dX6_add_9 (by decide) ?_
    exact x_zret C hr h rfl hf dX6_add_10
def b_X6_firstLie_2   (rec2 : Int32 × St → Option (Int32 × St)) (x2 : Int32) (σ : St) : Option (Int32 × St) := if (σ.1 52 0) ≤ x2 then some ((-1), σ) else rd (σ.1 53) 40 x2 (fun v2 => rd (σ.1 54) 40 x2 (fun v3 => bd (f_X1_mayRuleAt 20 v2 v3 σ) (fun r6 σ4 => if r6 = 0 then some (x2, σ4) else rec2 (x2 + 1, σ4))))
def f_X6_firstLie_2   (x2 : Int32) (σ : St) : Option (Int32 × St) := lp (fun (rec2 : Int32 × St → Option (Int32 × St)) (q : Int32 × St) => b_X6_firstLie_2   rec2 (q.1) (q.2)) 100000 (x2, σ)
set_option maxHeartbeats 4000000 in
theorem t_X6_firstLie_2 (C : Cx p s m args meth c cX6_firstLie 3 RX6 D (tyG G)) (hr : meth.sig.returnType = (some .int)) {o : Int32 × St}   : ∀ (x2 : Int32) (σ : St) (H : Heap) (locs : List Loc) (ls : Array Slot), Hs D A s.heap (wC G σ) H locs → lv_has ls 3 [(0, .ref (G.1 52)), (1, .ref (G.1 20)), (2, .int x2)] → f_X6_firstLie_2   x2 σ = some o → W p l e ({ frames := 3, cells := 0, slots := 0, locals := 66 } : Room) s m args below meth c H locs 0 0 (MQ below (QI D (tyG G) (wC G) A o) args s 0 0 A) (F0 m 2 ls []) := by
  intro x2 σ H locs ls h hl hf
  refine lp_el (P := fun q : Int32 × St => ∀ (H : Heap) (locs : List Loc) (ls : Array Slot), Hs D A s.heap (wC G (q.2)) H locs → lv_has ls 3 [(0, .ref (G.1 52)), (1, .ref (G.1 20)), (2, .int (q.1))] → W p l e ({ frames := 3, cells := 0, slots := 0, locals := 66 } : Room) s m args below meth c H locs 0 0 (MQ below (QI D (tyG G) (wC G) A o) args s 0 0 A) (F0 m 2 ls [])) (fun rec2 q IH2 hf => ?_) _ (x2, σ) hf H locs ls h hl
  obtain ⟨x2, σ⟩ := q
  intro H locs ls h hl
  have hl : lv_has ls 3 [(0, .ref (G.1 52)), (1, .ref (G.1 20)), (2, .int x2)] := hl
  have h : Hs D A s.heap (wC G σ) H locs := h
  have hf : b_X6_firstLie_2   rec2 x2 σ = some o := hf
  unfold b_X6_firstLie_2 at hf
  have hx := C.1
  have hb := C.2.1
  refine lv_iload_n hx hb dX6_firstLie_2 rfl (lv_at hl 2 rfl) ?_
  refine lv_aload_n hx hb dX6_firstLie_3 rfl (lv_at hl 0 rfl) ?_
  refine gf_X6_27 C h (by decide) dX6_firstLie_4 ?_
  refine lv_icmp_ge (tgt := 37) hx hb dX6_firstLie_7 (by decide) (fun c1 => ?_) (fun c1 => ?_)
  · have hf := ifT c1 hf
    refine lv_iconst (v := (-1)) hx hb dX6_firstLie_37 (by decide) ?_
    exact x_iret C hr h hf dX6_firstLie_38
  · have hf := ifF c1 hf
    refine lv_aload_n hx hb dX6_firstLie_10 rfl (lv_at hl 1 rfl) ?_
    refine lv_aload_n hx hb dX6_firstLie_11 rfl (lv_at hl 0 rfl) ?_
    refine gf_X6_9 C h (by decide) dX6_firstLie_12 ?_
    refine lv_iload_n hx hb dX6_firstLie_15 rfl (lv_at hl 2 rfl) ?_
    refine rd_el hf (fun v2 hinv2 hv2 hf => ?_)
    refine x_iald C h 53 1 (ltA_X6_who (by decide)) ((aC_X6_who G (by decide)) _ _) rfl hinv2 hv2 dX6_firstLie_16 ?_
    refine lv_aload_n hx hb dX6_firstLie_17 rfl (lv_at hl 0 rfl) ?_
    refine gf_X6_15 C h (by decide) dX6_firstLie_18 ?_
    refine lv_iload_n hx hb dX6_firstLie_21 rfl (lv_at hl 2 rfl) ?_
    refine rd_el hf (fun v3 hinv3 hv3 hf => ?_)
    refine x_iald C h 54 1 (ltA_X6_minutes (by decide)) ((aC_X6_minutes G (by decide)) _ _) rfl hinv3 hv3 dX6_firstLie_22 ?_
    refine bd_el hf (fun r6 σ4 ho5 hf => ?_)
    refine x_goi h (x_runV (As := [.int v2, .int v3]) (rest := []) C h (c_X1_mayRuleAt l D G 20 (by decide) v2 v3 σ (r6, σ4) ho5 _) lk_X6_31 rfl ⟨rfl, rfl, Nat.le_of_ble_eq_true rfl, Nat.le_of_ble_eq_true rfl⟩ (x_rcv C h 20 (lt_X1 (by decide)) ((oC_X1 G (by decide)) _ _) rfl) hl.1 rfl (Nat.le_of_ble_eq_true rfl) dX6_firstLie_23) (fun H locs h => ?_)
    refine lv_if_ne (tgt := 31) hx hb dX6_firstLie_26 (by decide) (fun c7 => ?_) (fun c7 => ?_)
    · have hf := ifF c7 hf
      refine lv_iinc (v := x2 + 1) (lv' := [(2, .int (x2 + 1)), (0, .ref (G.1 52)), (1, .ref (G.1 20))]) hx hb dX6_firstLie_31 hl (k := 2) rfl rfl (by decide) rfl (fun ls hl => ?_)
      refine lv_goto (tgt := 2) hx hb dX6_firstLie_34 (by decide) ?_
      exact IH2 (x2 + 1, σ4) hf _ _ _ h (lv_sub hl [1, 2, 0] rfl)
    · have hf := ifT c7 hf
      refine lv_iload_n hx hb dX6_firstLie_29 rfl (lv_at hl 2 rfl) ?_
      exact x_iret C hr h hf dX6_firstLie_30
def f_X6_firstLie   (σ : St) : Option (Int32 × St) := f_X6_firstLie_2 0 σ
set_option maxHeartbeats 4000000 in
theorem c_X6_firstLie (l : Launch) (D : va_G) (G : Geo)    (σ : St) (o : Int32 × St) (hf : f_X6_firstLie   σ = some o) : CI l D (tyG G) (wC G) yX6_firstLie cX6_firstLie 3 ((some .int)) ({ frames := 3, cells := 0, slots := 0, locals := 66 }) [.ref (G.1 52), .ref (G.1 20)] σ o := by
  refine met_of (Qc := fun A => QI D (tyG G) (wC G) A o) pn_X6 (Nat.le_of_ble_eq_true rfl) (fun p e s m below meth c A ls C hr h hl => ?_)
  have C : Cx p s m _ meth c cX6_firstLie 3 RX6 D (tyG G) := C
  have hl : lv_has ls 3 [(0, .ref (G.1 52)), (1, .ref (G.1 20))] := hl
  unfold f_X6_firstLie at hf
  have hx := C.1
  have hb := C.2.1
  refine lv_iconst (v := 0) hx hb dX6_firstLie_0 (by decide) ?_
  refine lv_istore_n (lv' := [(2, .int 0), (0, .ref (G.1 52)), (1, .ref (G.1 20))]) hx hb dX6_firstLie_1 rfl hl (by decide) rfl (fun ls hl => ?_)
  exact t_X6_firstLie_2 C hr 0 σ _ _ _ h (lv_sub hl [1, 2, 0] rfl) hf
def f_X6_allTrueOf_39  (rec2 : Int32 × Int32 × St → Option (Int32 × St)) (x1 : Int32) (x2 : Int32) (σ : St) : Option (Int32 × St) := rec2 (x1, x2 + 1, σ)
set_option maxHeartbeats 4000000 in
theorem t_X6_allTrueOf_39 (C : Cx p s m args meth c cX6_allTrueOf 3 RX6 D (tyG G)) (hr : meth.sig.returnType = (some .boolean)) {o : Int32 × St}  {rec2 : Int32 × Int32 × St → Option (Int32 × St)} (IH2 : ∀ q, rec2 q = some o → ∀ (H : Heap) (locs : List Loc) (ls : Array Slot), Hs D A s.heap (wC G (q.2.2)) H locs → lv_has ls 3 [(0, .ref (G.1 52)), (1, .int (q.1)), (2, .int (q.2.1))] → W p l e ({ frames := 3, cells := 0, slots := 0, locals := 66 } : Room) s m args below meth c H locs 0 0 (MQ below (QI D (tyG G) (wC G) A o) args s 0 0 A) (F0 m 2 ls [])) : ∀ (x1 : Int32) (x2 : Int32) (σ : St) (H : Heap) (locs : List Loc) (ls : Array Slot), Hs D A s.heap (wC G σ) H locs → lv_has ls 3 [(0, .ref (G.1 52)), (1, .int x1), (2, .int x2)] → f_X6_allTrueOf_39  rec2 x1 x2 σ = some o → W p l e ({ frames := 3, cells := 0, slots := 0, locals := 66 } : Room) s m args below meth c H locs 0 0 (MQ below (QI D (tyG G) (wC G) A o) args s 0 0 A) (F0 m 39 ls []) := by
  intro x1 x2 σ H locs ls h hl hf
  unfold f_X6_allTrueOf_39 at hf
  have hx := C.1
  have hb := C.2.1
  refine lv_iinc (v := x2 + 1) (lv' := [(2, .int (x2 + 1)), (0, .ref (G.1 52)), (1, .int x1)]) hx hb dX6_allTrueOf_39 hl (k := 2) rfl rfl (by decide) rfl (fun ls hl => ?_)
  refine lv_goto (tgt := 2) hx hb dX6_allTrueOf_42 (by decide) ?_
  exact IH2 (x1, x2 + 1, σ) hf _ _ _ h (lv_sub hl [1, 2, 0] rfl)
def b_X6_allTrueOf_2   (rec2 : Int32 × Int32 × St → Option (Int32 × St)) (x1 : Int32) (x2 : Int32) (σ : St) : Option (Int32 × St) := if (σ.1 52 0) ≤ x2 then some (1, σ) else rd (σ.1 53) 40 x2 (fun v2 => if v2 = x1 then rd (σ.1 54) 40 x2 (fun v4 => bd (f_X1_mayRuleAt 55 x1 v4 σ) (fun r7 σ5 => if r7 = 0 then some (0, σ5) else f_X6_allTrueOf_39 rec2 x1 x2 σ5)) else f_X6_allTrueOf_39 rec2 x1 x2 σ)
def f_X6_allTrueOf_2   (x1 : Int32) (x2 : Int32) (σ : St) : Option (Int32 × St) := lp (fun (rec2 : Int32 × Int32 × St → Option (Int32 × St)) (q : Int32 × Int32 × St) => b_X6_allTrueOf_2   rec2 (q.1) (q.2.1) (q.2.2)) 100000 (x1, x2, σ)
set_option maxHeartbeats 4000000 in
theorem t_X6_allTrueOf_2 (C : Cx p s m args meth c cX6_allTrueOf 3 RX6 D (tyG G)) (hr : meth.sig.returnType = (some .boolean)) {o : Int32 × St}   : ∀ (x1 : Int32) (x2 : Int32) (σ : St) (H : Heap) (locs : List Loc) (ls : Array Slot), Hs D A s.heap (wC G σ) H locs → lv_has ls 3 [(0, .ref (G.1 52)), (1, .int x1), (2, .int x2)] → f_X6_allTrueOf_2   x1 x2 σ = some o → W p l e ({ frames := 3, cells := 0, slots := 0, locals := 66 } : Room) s m args below meth c H locs 0 0 (MQ below (QI D (tyG G) (wC G) A o) args s 0 0 A) (F0 m 2 ls []) := by
  intro x1 x2 σ H locs ls h hl hf
  refine lp_el (P := fun q : Int32 × Int32 × St => ∀ (H : Heap) (locs : List Loc) (ls : Array Slot), Hs D A s.heap (wC G (q.2.2)) H locs → lv_has ls 3 [(0, .ref (G.1 52)), (1, .int (q.1)), (2, .int (q.2.1))] → W p l e ({ frames := 3, cells := 0, slots := 0, locals := 66 } : Room) s m args below meth c H locs 0 0 (MQ below (QI D (tyG G) (wC G) A o) args s 0 0 A) (F0 m 2 ls [])) (fun rec2 q IH2 hf => ?_) _ (x1, x2, σ) hf H locs ls h hl
  obtain ⟨x1, x2, σ⟩ := q
  intro H locs ls h hl
  have hl : lv_has ls 3 [(0, .ref (G.1 52)), (1, .int x1), (2, .int x2)] := hl
  have h : Hs D A s.heap (wC G σ) H locs := h
  have hf : b_X6_allTrueOf_2   rec2 x1 x2 σ = some o := hf
  unfold b_X6_allTrueOf_2 at hf
  have hx := C.1
  have hb := C.2.1
  refine lv_iload_n hx hb dX6_allTrueOf_2 rfl (lv_at hl 2 rfl) ?_
  refine lv_aload_n hx hb dX6_allTrueOf_3 rfl (lv_at hl 0 rfl) ?_
  refine gf_X6_27 C h (by decide) dX6_allTrueOf_4 ?_
  refine lv_icmp_ge (tgt := 45) hx hb dX6_allTrueOf_7 (by decide) (fun c1 => ?_) (fun c1 => ?_)
  · have hf := ifT c1 hf
    refine lv_iconst (v := 1) hx hb dX6_allTrueOf_45 (by decide) ?_
    exact x_zret C hr h rfl hf dX6_allTrueOf_46
  · have hf := ifF c1 hf
    refine lv_aload_n hx hb dX6_allTrueOf_10 rfl (lv_at hl 0 rfl) ?_
    refine gf_X6_9 C h (by decide) dX6_allTrueOf_11 ?_
    refine lv_iload_n hx hb dX6_allTrueOf_14 rfl (lv_at hl 2 rfl) ?_
    refine rd_el hf (fun v2 hinv2 hv2 hf => ?_)
    refine x_iald C h 53 1 (ltA_X6_who (by decide)) ((aC_X6_who G (by decide)) _ _) rfl hinv2 hv2 dX6_allTrueOf_15 ?_
    refine lv_iload_n hx hb dX6_allTrueOf_16 rfl (lv_at hl 1 rfl) ?_
    refine lv_icmp_ne (tgt := 39) hx hb dX6_allTrueOf_17 (by decide) (fun c3 => ?_) (fun c3 => ?_)
    · have hf := ifF c3 hf
      exact t_X6_allTrueOf_39 C hr IH2 x1 x2 σ _ _ _ h (lv_sub hl [0, 1, 2] rfl) hf
    · have hf := ifT c3 hf
      refine lv_aload_n hx hb dX6_allTrueOf_20 rfl (lv_at hl 0 rfl) ?_
      refine gf_X6_23 C h (by decide) dX6_allTrueOf_21 ?_
      refine lv_iload_n hx hb dX6_allTrueOf_24 rfl (lv_at hl 1 rfl) ?_
      refine lv_aload_n hx hb dX6_allTrueOf_25 rfl (lv_at hl 0 rfl) ?_
      refine gf_X6_15 C h (by decide) dX6_allTrueOf_26 ?_
      refine lv_iload_n hx hb dX6_allTrueOf_29 rfl (lv_at hl 2 rfl) ?_
      refine rd_el hf (fun v4 hinv4 hv4 hf => ?_)
      refine x_iald C h 54 1 (ltA_X6_minutes (by decide)) ((aC_X6_minutes G (by decide)) _ _) rfl hinv4 hv4 dX6_allTrueOf_30 ?_
      refine bd_el hf (fun r7 σ5 ho6 hf => ?_)
      refine x_goi h (x_runV (As := [.int x1, .int v4]) (rest := []) C h (c_X1_mayRuleAt l D G 55 (by decide) x1 v4 σ (r7, σ5) ho6 _) lk_X6_31 rfl ⟨rfl, rfl, Nat.le_of_ble_eq_true rfl, Nat.le_of_ble_eq_true rfl⟩ (x_rcv C h 55 (lt_X1 (by decide)) ((oC_X1 G (by decide)) _ _) rfl) hl.1 rfl (Nat.le_of_ble_eq_true rfl) dX6_allTrueOf_31) (fun H locs h => ?_)
      refine lv_if_ne (tgt := 39) hx hb dX6_allTrueOf_34 (by decide) (fun c8 => ?_) (fun c8 => ?_)
      · have hf := ifF c8 hf
        exact t_X6_allTrueOf_39 C hr IH2 x1 x2 σ5 _ _ _ h (lv_sub hl [0, 1, 2] rfl) hf
      · have hf := ifT c8 hf
        refine lv_iconst (v := 0) hx hb dX6_allTrueOf_37 (by decide) ?_
        exact x_zret C hr h rfl hf dX6_allTrueOf_38
def f_X6_allTrueOf  (x1 : Int32) (σ : St) : Option (Int32 × St) := f_X6_allTrueOf_2 x1 0 σ
set_option maxHeartbeats 4000000 in
theorem c_X6_allTrueOf (l : Launch) (D : va_G) (G : Geo)   (x1 : Int32) (σ : St) (o : Int32 × St) (hf : f_X6_allTrueOf  x1 σ = some o) : CI l D (tyG G) (wC G) yX6_allTrueOf cX6_allTrueOf 3 ((some .boolean)) ({ frames := 3, cells := 0, slots := 0, locals := 66 }) [.ref (G.1 52), .int x1] σ o := by
  refine met_of (Qc := fun A => QI D (tyG G) (wC G) A o) pn_X6 (Nat.le_of_ble_eq_true rfl) (fun p e s m below meth c A ls C hr h hl => ?_)
  have C : Cx p s m _ meth c cX6_allTrueOf 3 RX6 D (tyG G) := C
  have hl : lv_has ls 3 [(0, .ref (G.1 52)), (1, .int x1)] := hl
  unfold f_X6_allTrueOf at hf
  have hx := C.1
  have hb := C.2.1
  refine lv_iconst (v := 0) hx hb dX6_allTrueOf_0 (by decide) ?_
  refine lv_istore_n (lv' := [(2, .int 0), (0, .ref (G.1 52)), (1, .int x1)]) hx hb dX6_allTrueOf_1 rfl hl (by decide) rfl (fun ls hl => ?_)
  exact t_X6_allTrueOf_2 C hr x1 0 σ _ _ _ h (lv_sub hl [1, 2, 0] rfl) hf
def f_X6_fitting_65  (rec14 : Int32 × Int32 × Int32 × Int32 × St → Option (Int32 × St)) (x2 : Int32) (x3 : Int32) (x4 : Int32) (x5 : Int32) (σ : St) : Option (Int32 × St) := rec14 (x2, x3, x4, x5 + 1, σ)
set_option maxHeartbeats 4000000 in
theorem t_X6_fitting_65 (C : Cx p s m args meth c cX6_fitting 6 RX6 D (tyG G)) (hr : meth.sig.returnType = (some .int)) {o : Int32 × St}  {rec14 : Int32 × Int32 × Int32 × Int32 × St → Option (Int32 × St)} (IH14 : ∀ q, rec14 q = some o → ∀ (H : Heap) (locs : List Loc) (ls : Array Slot), Hs D A s.heap (wC G (q.2.2.2.2)) H locs → lv_has ls 6 [(0, .ref (G.1 52)), (1, .ref (G.1 20)), (2, .int (q.1)), (3, .int (q.2.1)), (4, .int (q.2.2.1)), (5, .int (q.2.2.2.1))] → W p l e ({ frames := 4, cells := 0, slots := 0, locals := 88 } : Room) s m args below meth c H locs 0 0 (MQ below (QI D (tyG G) (wC G) A o) args s 0 0 A) (F0 m 14 ls [])) : ∀ (x2 : Int32) (x3 : Int32) (x4 : Int32) (x5 : Int32) (σ : St) (H : Heap) (locs : List Loc) (ls : Array Slot), Hs D A s.heap (wC G σ) H locs → lv_has ls 6 [(0, .ref (G.1 52)), (1, .ref (G.1 20)), (2, .int x2), (3, .int x3), (4, .int x4), (5, .int x5)] → f_X6_fitting_65  rec14 x2 x3 x4 x5 σ = some o → W p l e ({ frames := 4, cells := 0, slots := 0, locals := 88 } : Room) s m args below meth c H locs 0 0 (MQ below (QI D (tyG G) (wC G) A o) args s 0 0 A) (F0 m 65 ls []) := by
  intro x2 x3 x4 x5 σ H locs ls h hl hf
  unfold f_X6_fitting_65 at hf
  have hx := C.1
  have hb := C.2.1
  refine lv_iinc (v := x5 + 1) (lv' := [(5, .int (x5 + 1)), (0, .ref (G.1 52)), (1, .ref (G.1 20)), (2, .int x2), (3, .int x3), (4, .int x4)]) hx hb dX6_fitting_65 hl (k := 5) rfl rfl (by decide) rfl (fun ls hl => ?_)
  refine lv_goto (tgt := 14) hx hb dX6_fitting_68 (by decide) ?_
  exact IH14 (x2, x3, x4, x5 + 1, σ) hf _ _ _ h (lv_sub hl [1, 2, 3, 4, 5, 0] rfl)
def b_X6_fitting_14   (rec14 : Int32 × Int32 × Int32 × Int32 × St → Option (Int32 × St)) (x2 : Int32) (x3 : Int32) (x4 : Int32) (x5 : Int32) (σ : St) : Option (Int32 × St) := if (60 : Int32) < x5 then if x3 = ((-1)) then some (x4, σ) else some ((-1), σ) else rd (σ.1 21) 8 x2 (fun v5 => if x5 = v5 then f_X6_fitting_65 rec14 x2 x3 x4 x5 σ else bv (f_X1_shiftOne 55 x2 x5 σ) (fun σ7 => bd (f_X6_allTrueOf x2 σ7) (fun r11 σ9 => if r11 = 0 then f_X6_fitting_65 rec14 x2 x3 x4 x5 σ9 else if x4 = x3 then some (x5, σ9) else f_X6_fitting_65 rec14 x2 x3 (x4 + 1) x5 σ9)))
def f_X6_fitting_14   (x2 : Int32) (x3 : Int32) (x4 : Int32) (x5 : Int32) (σ : St) : Option (Int32 × St) := lp (fun (rec14 : Int32 × Int32 × Int32 × Int32 × St → Option (Int32 × St)) (q : Int32 × Int32 × Int32 × Int32 × St) => b_X6_fitting_14   rec14 (q.1) (q.2.1) (q.2.2.1) (q.2.2.2.1) (q.2.2.2.2)) 100000 (x2, x3, x4, x5, σ)
set_option maxHeartbeats 4000000 in
theorem t_X6_fitting_14 (C : Cx p s m args meth c cX6_fitting 6 RX6 D (tyG G)) (hr : meth.sig.returnType = (some .int)) {o : Int32 × St}   : ∀ (x2 : Int32) (x3 : Int32) (x4 : Int32) (x5 : Int32) (σ : St) (H : Heap) (locs : List Loc) (ls : Array Slot), Hs D A s.heap (wC G σ) H locs → lv_has ls 6 [(0, .ref (G.1 52)), (1, .ref (G.1 20)), (2, .int x2), (3, .int x3), (4, .int x4), (5, .int x5)] → f_X6_fitting_14   x2 x3 x4 x5 σ = some o → W p l e ({ frames := 4, cells := 0, slots := 0, locals := 88 } : Room) s m args below meth c H locs 0 0 (MQ below (QI D (tyG G) (wC G) A o) args s 0 0 A) (F0 m 14 ls []) := by
  intro x2 x3 x4 x5 σ H locs ls h hl hf
  refine lp_el (P := fun q : Int32 × Int32 × Int32 × Int32 × St => ∀ (H : Heap) (locs : List Loc) (ls : Array Slot), Hs D A s.heap (wC G (q.2.2.2.2)) H locs → lv_has ls 6 [(0, .ref (G.1 52)), (1, .ref (G.1 20)), (2, .int (q.1)), (3, .int (q.2.1)), (4, .int (q.2.2.1)), (5, .int (q.2.2.2.1))] → W p l e ({ frames := 4, cells := 0, slots := 0, locals := 88 } : Room) s m args below meth c H locs 0 0 (MQ below (QI D (tyG G) (wC G) A o) args s 0 0 A) (F0 m 14 ls [])) (fun rec14 q IH14 hf => ?_) _ (x2, x3, x4, x5, σ) hf H locs ls h hl
  obtain ⟨x2, x3, x4, x5, σ⟩ := q
  intro H locs ls h hl
  have hl : lv_has ls 6 [(0, .ref (G.1 52)), (1, .ref (G.1 20)), (2, .int x2), (3, .int x3), (4, .int x4), (5, .int x5)] := hl
  have h : Hs D A s.heap (wC G σ) H locs := h
  have hf : b_X6_fitting_14   rec14 x2 x3 x4 x5 σ = some o := hf
  unfold b_X6_fitting_14 at hf
  have hx := C.1
  have hb := C.2.1
  refine lv_iload hx hb dX6_fitting_14 (lv_at hl 5 rfl) ?_
  refine lv_bipush (v := 60) hx hb dX6_fitting_16 (by decide) ?_
  refine lv_icmp_gt (tgt := 71) hx hb dX6_fitting_18 (by decide) (fun c3 => ?_) (fun c3 => ?_)
  · have hf := ifT c3 hf
    refine lv_iload_n hx hb dX6_fitting_71 rfl (lv_at hl 3 rfl) ?_
    refine lv_iconst (v := (-1)) hx hb dX6_fitting_72 (by decide) ?_
    refine lv_icmp_ne (tgt := 81) hx hb dX6_fitting_73 (by decide) (fun c4 => ?_) (fun c4 => ?_)
    · have hf := ifF c4 hf
      refine lv_iconst (v := (-1)) hx hb dX6_fitting_81 (by decide) ?_
      exact x_iret C hr h hf dX6_fitting_82
    · have hf := ifT c4 hf
      refine lv_iload hx hb dX6_fitting_76 (lv_at hl 4 rfl) ?_
      refine lv_goto (tgt := 82) hx hb dX6_fitting_78 (by decide) ?_
      exact x_iret C hr h hf dX6_fitting_82
  · have hf := ifF c3 hf
    refine lv_iload hx hb dX6_fitting_21 (lv_at hl 5 rfl) ?_
    refine lv_aload_n hx hb dX6_fitting_23 rfl (lv_at hl 1 rfl) ?_
    refine gf_X6_39 C h (by decide) dX6_fitting_24 ?_
    refine lv_iload_n hx hb dX6_fitting_27 rfl (lv_at hl 2 rfl) ?_
    refine rd_el hf (fun v5 hinv5 hv5 hf => ?_)
    refine x_iald C h 21 1 (ltA_X1_shifted (by decide)) ((aC_X1_shifted G (by decide)) _ _) rfl hinv5 hv5 dX6_fitting_28 ?_
    refine lv_icmp_ne (tgt := 35) hx hb dX6_fitting_29 (by decide) (fun c6 => ?_) (fun c6 => ?_)
    · have hf := ifF c6 hf
      refine lv_aload_n hx hb dX6_fitting_35 rfl (lv_at hl 0 rfl) ?_
      refine gf_X6_23 C h (by decide) dX6_fitting_36 ?_
      refine lv_iload_n hx hb dX6_fitting_39 rfl (lv_at hl 2 rfl) ?_
      refine lv_iload hx hb dX6_fitting_40 (lv_at hl 5 rfl) ?_
      refine bv_el hf (fun σ7 ho8 hf => ?_)
      refine x_gov h (x_runV (As := [.int x2, .int x5]) (rest := []) C h (c_X1_shiftOne l D G 55 (by decide) x2 x5 σ σ7 ho8 _) lk_X6_42 rfl ⟨rfl, rfl, Nat.le_of_ble_eq_true rfl, Nat.le_of_ble_eq_true rfl⟩ (x_rcv C h 55 (lt_X1 (by decide)) ((oC_X1 G (by decide)) _ _) rfl) hl.1 rfl (Nat.le_of_ble_eq_true rfl) dX6_fitting_42) (fun H locs h => ?_)
      refine lv_aload_n hx hb dX6_fitting_45 rfl (lv_at hl 0 rfl) ?_
      refine lv_iload_n hx hb dX6_fitting_46 rfl (lv_at hl 2 rfl) ?_
      refine bd_el hf (fun r11 σ9 ho10 hf => ?_)
      refine x_goi h (x_runV (As := [.int x2]) (rest := []) C h (c_X6_allTrueOf l D G x2 σ7 (r11, σ9) ho10 _) lk_X6_46 rfl ⟨rfl, rfl, Nat.le_of_ble_eq_true rfl, Nat.le_of_ble_eq_true rfl⟩ (x_rcv C h 52 (lt_X6 (by decide)) ((oC_X6 G (by decide)) _ _) rfl) hl.1 rfl (Nat.le_of_ble_eq_true rfl) dX6_fitting_47) (fun H locs h => ?_)
      refine lv_if_eq (tgt := 65) hx hb dX6_fitting_50 (by decide) (fun c12 => ?_) (fun c12 => ?_)
      · have hf := ifT c12 hf
        exact t_X6_fitting_65 C hr IH14 x2 x3 x4 x5 σ9 _ _ _ h (lv_sub hl [0, 1, 2, 3, 4, 5] rfl) hf
      · have hf := ifF c12 hf
        refine lv_iload hx hb dX6_fitting_53 (lv_at hl 4 rfl) ?_
        refine lv_iload_n hx hb dX6_fitting_55 rfl (lv_at hl 3 rfl) ?_
        refine lv_icmp_ne (tgt := 62) hx hb dX6_fitting_56 (by decide) (fun c13 => ?_) (fun c13 => ?_)
        · have hf := ifF c13 hf
          refine lv_iinc (v := x4 + 1) (lv' := [(4, .int (x4 + 1)), (0, .ref (G.1 52)), (1, .ref (G.1 20)), (2, .int x2), (3, .int x3), (5, .int x5)]) hx hb dX6_fitting_62 hl (k := 4) rfl rfl (by decide) rfl (fun ls hl => ?_)
          exact t_X6_fitting_65 C hr IH14 x2 x3 (x4 + 1) x5 σ9 _ _ _ h (lv_sub hl [1, 2, 3, 4, 0, 5] rfl) hf
        · have hf := ifT c13 hf
          refine lv_iload hx hb dX6_fitting_59 (lv_at hl 5 rfl) ?_
          exact x_iret C hr h hf dX6_fitting_61
    · have hf := ifT c6 hf
      refine lv_goto (tgt := 65) hx hb dX6_fitting_32 (by decide) ?_
      exact t_X6_fitting_65 C hr IH14 x2 x3 x4 x5 σ _ _ _ h (lv_sub hl [0, 1, 2, 3, 4, 5] rfl) hf
def f_X6_fitting  (x2 : Int32) (x3 : Int32) (σ : St) : Option (Int32 × St) := bv (f_X1_copyFrom 55 20 σ) (fun σ1 => f_X6_fitting_14 x2 x3 0 0 σ1)
set_option maxHeartbeats 4000000 in
theorem c_X6_fitting (l : Launch) (D : va_G) (G : Geo)   (x2 : Int32) (x3 : Int32) (σ : St) (o : Int32 × St) (hf : f_X6_fitting  x2 x3 σ = some o) : CI l D (tyG G) (wC G) yX6_fitting cX6_fitting 6 ((some .int)) ({ frames := 4, cells := 0, slots := 0, locals := 88 }) [.ref (G.1 52), .ref (G.1 20), .int x2, .int x3] σ o := by
  refine met_of (Qc := fun A => QI D (tyG G) (wC G) A o) pn_X6 (Nat.le_of_ble_eq_true rfl) (fun p e s m below meth c A ls C hr h hl => ?_)
  have C : Cx p s m _ meth c cX6_fitting 6 RX6 D (tyG G) := C
  have hl : lv_has ls 6 [(0, .ref (G.1 52)), (1, .ref (G.1 20)), (2, .int x2), (3, .int x3)] := hl
  unfold f_X6_fitting at hf
  have hx := C.1
  have hb := C.2.1
  refine lv_aload_n hx hb dX6_fitting_0 rfl (lv_at hl 0 rfl) ?_
  refine gf_X6_23 C h (by decide) dX6_fitting_1 ?_
  refine lv_aload_n hx hb dX6_fitting_4 rfl (lv_at hl 1 rfl) ?_
  refine bv_el hf (fun σ1 ho2 hf => ?_)
  refine x_gov h (x_runV (As := [.ref (G.1 20)]) (rest := []) C h (c_X1_copyFrom l D G 55 (by decide) 20 (by decide) σ σ1 ho2 _) lk_X6_35 rfl ⟨rfl, rfl, Nat.le_of_ble_eq_true rfl, Nat.le_of_ble_eq_true rfl⟩ (x_rcv C h 55 (lt_X1 (by decide)) ((oC_X1 G (by decide)) _ _) rfl) hl.1 rfl (Nat.le_of_ble_eq_true rfl) dX6_fitting_5) (fun H locs h => ?_)
  refine lv_iconst (v := 0) hx hb dX6_fitting_8 (by decide) ?_
  refine lv_istore (lv' := [(4, .int 0), (0, .ref (G.1 52)), (1, .ref (G.1 20)), (2, .int x2), (3, .int x3)]) hx hb dX6_fitting_9 hl (by decide) rfl (fun ls hl => ?_)
  refine lv_iconst (v := 0) hx hb dX6_fitting_11 (by decide) ?_
  refine lv_istore (lv' := [(5, .int 0), (4, .int 0), (0, .ref (G.1 52)), (1, .ref (G.1 20)), (2, .int x2), (3, .int x3)]) hx hb dX6_fitting_12 hl (by decide) rfl (fun ls hl => ?_)
  exact t_X6_fitting_14 C hr x2 x3 0 0 σ1 _ _ _ h (lv_sub hl [2, 3, 4, 5, 1, 0] rfl) hf
def b_X4_append_19   (rec19 : Int64 × Int32 × St → Option (Int32 × St)) (x2 : Int64) (x4 : Int32) (σ : St) : Option (Int32 × St) := if x4 < 0 then some (1, σ) else ck (inb (σ.1 1 1) 400) (nm (sI σ 2 (σ.1 1 1 : Int32).toNatClampNeg (vp_nar .byte ((((x2.toUInt64 >>> ((8 * x4).toInt64.toUInt64 &&& Int64.toUInt64 63)).toInt64 : Int64).toInt32 : Int32).toInt8.toInt32))) (fun σ5 => nm (sI σ5 1 1 ((σ5.1 1 1) + 1)) (fun σ6 => rec19 (x2, x4 + (-1), σ6))))
def f_X4_append_19   (x2 : Int64) (x4 : Int32) (σ : St) : Option (Int32 × St) := lp (fun (rec19 : Int64 × Int32 × St → Option (Int32 × St)) (q : Int64 × Int32 × St) => b_X4_append_19   rec19 (q.1) (q.2.1) (q.2.2)) 100000 (x2, x4, σ)
set_option maxHeartbeats 4000000 in
theorem t_X4_append_19 (C : Cx p s m args meth c cX4_append 5 RX4 D (tyG G)) (hr : meth.sig.returnType = (some .boolean)) {o : Int32 × St}   : ∀ (x2 : Int64) (x4 : Int32) (σ : St) (H : Heap) (locs : List Loc) (ls : Array Slot), Hs D A s.heap (wC G σ) H locs → lv_has ls 5 [(0, .ref (G.1 1)), (2, .long x2), (4, .int x4)] → f_X4_append_19   x2 x4 σ = some o → W p l e ({ frames := 0, cells := 0, slots := 0, locals := 0 } : Room) s m args below meth c H locs 0 0 (MQ below (QI D (tyG G) (wC G) A o) args s 0 0 A) (F0 m 19 ls []) := by
  intro x2 x4 σ H locs ls h hl hf
  refine lp_el (P := fun q : Int64 × Int32 × St => ∀ (H : Heap) (locs : List Loc) (ls : Array Slot), Hs D A s.heap (wC G (q.2.2)) H locs → lv_has ls 5 [(0, .ref (G.1 1)), (2, .long (q.1)), (4, .int (q.2.1))] → W p l e ({ frames := 0, cells := 0, slots := 0, locals := 0 } : Room) s m args below meth c H locs 0 0 (MQ below (QI D (tyG G) (wC G) A o) args s 0 0 A) (F0 m 19 ls [])) (fun rec19 q IH19 hf => ?_) _ (x2, x4, σ) hf H locs ls h hl
  obtain ⟨x2, x4, σ⟩ := q
  intro H locs ls h hl
  have hl : lv_has ls 5 [(0, .ref (G.1 1)), (2, .long x2), (4, .int x4)] := hl
  have h : Hs D A s.heap (wC G σ) H locs := h
  have hf : b_X4_append_19   rec19 x2 x4 σ = some o := hf
  unfold b_X4_append_19 at hf
  have hx := C.1
  have hb := C.2.1
  refine lv_iload hx hb dX4_append_19 (lv_at hl 2 rfl) ?_
  refine lv_if_lt (tgt := 58) hx hb dX4_append_21 (by decide) (fun c3 => ?_) (fun c3 => ?_)
  · have hf := ifT c3 hf
    refine lv_iconst (v := 1) hx hb dX4_append_58 (by decide) ?_
    exact x_zret C hr h rfl hf dX4_append_59
  · have hf := ifF c3 hf
    refine lv_aload_n hx hb dX4_append_24 rfl (lv_at hl 0 rfl) ?_
    refine gf_X4_9 C h (by decide) dX4_append_25 ?_
    refine lv_aload_n hx hb dX4_append_28 rfl (lv_at hl 0 rfl) ?_
    refine gf_X4_26 C h (by decide) dX4_append_29 ?_
    refine lv_lload_n hx hb dX4_append_32 rfl (lv_at hl 1 rfl) ?_
    refine lv_bipush (v := 8) hx hb dX4_append_33 (by decide) ?_
    refine lv_iload hx hb dX4_append_35 (lv_at hl 2 rfl) ?_
    refine lv_imul hx hb dX4_append_37 ?_
    refine lv_lushr (v := (x2.toUInt64 >>> ((8 * x4).toInt64.toUInt64 &&& Int64.toUInt64 63)).toInt64) hx hb dX4_append_38 rfl ?_
    refine lv_l2i (v := ((x2.toUInt64 >>> ((8 * x4).toInt64.toUInt64 &&& Int64.toUInt64 63)).toInt64 : Int64).toInt32) hx hb dX4_append_39 rfl ?_
    refine lv_i2b (v := (((x2.toUInt64 >>> ((8 * x4).toInt64.toUInt64 &&& Int64.toUInt64 63)).toInt64 : Int64).toInt32 : Int32).toInt8.toInt32) hx hb dX4_append_40 rfl ?_
    refine ckb_el hf (fun hin4 hf => ?_)
    refine nm_el hf (fun σ5 hσ5 hf => ?_)
    refine x_bast C h 2 0 (ltA_X4_text (by decide)) (fun f => (aC_X4_text G (by decide)) f _) rfl hin4 dX4_append_41 hσ5 (fun H locs h => ?_)
    refine lv_aload_n hx hb dX4_append_42 rfl (lv_at hl 0 rfl) ?_
    refine lv_dup hx hb dX4_append_43 rfl ?_
    refine gf_X4_26 C h (by decide) dX4_append_44 ?_
    refine lv_iconst (v := 1) hx hb dX4_append_47 (by decide) ?_
    refine lv_iadd hx hb dX4_append_48 ?_
    refine nm_el hf (fun σ6 hσ6 hf => ?_)
    refine pf_X4_26 C h (by decide) dX4_append_49 hσ6 (fun H locs h => ?_)
    refine lv_iinc (v := x4 + (-1)) (lv' := [(4, .int (x4 + (-1))), (0, .ref (G.1 1)), (2, .long x2)]) hx hb dX4_append_52 hl (k := 2) rfl rfl (by decide) rfl (fun ls hl => ?_)
    refine lv_goto (tgt := 19) hx hb dX4_append_55 (by decide) ?_
    exact IH19 (x2, x4 + (-1), σ6) hf _ _ _ h (lv_sub hl [1, 2, 0] rfl)
def f_X4_append  (x1 : Int32) (x2 : Int64) (σ : St) : Option (Int32 × St) := if x1 ≤ (400 - (σ.1 1 1)) then nm (x1 - 1) (fun z2 => f_X4_append_19 x2 z2 σ) else some (0, σ)
set_option maxHeartbeats 4000000 in
theorem c_X4_append (l : Launch) (D : va_G) (G : Geo)   (x1 : Int32) (x2 : Int64) (σ : St) (o : Int32 × St) (hf : f_X4_append  x1 x2 σ = some o) : CI l D (tyG G) (wC G) yX4_append cX4_append 5 ((some .boolean)) ({ frames := 0, cells := 0, slots := 0, locals := 0 }) [.ref (G.1 1), .int x1, .long x2] σ o := by
  refine met_of (Qc := fun A => QI D (tyG G) (wC G) A o) pn_X4 (Nat.le_of_ble_eq_true rfl) (fun p e s m below meth c A ls C hr h hl => ?_)
  have C : Cx p s m _ meth c cX4_append 5 RX4 D (tyG G) := C
  have hl : lv_has ls 5 [(0, .ref (G.1 1)), (1, .int x1), (2, .long x2)] := hl
  unfold f_X4_append at hf
  have hx := C.1
  have hb := C.2.1
  refine lv_iload_n hx hb dX4_append_0 rfl (lv_at hl 1 rfl) ?_
  refine lv_sipush (v := 400) hx hb dX4_append_1 (by decide) ?_
  refine lv_aload_n hx hb dX4_append_4 rfl (lv_at hl 0 rfl) ?_
  refine gf_X4_26 C h (by decide) dX4_append_5 ?_
  refine lv_isub hx hb dX4_append_8 ?_
  refine lv_icmp_le (tgt := 14) hx hb dX4_append_9 (by decide) (fun c1 => ?_) (fun c1 => ?_)
  · have hf := ifT c1 hf
    refine lv_iload_n hx hb dX4_append_14 rfl (lv_at hl 1 rfl) ?_
    refine lv_iconst (v := 1) hx hb dX4_append_15 (by decide) ?_
    refine lv_isub hx hb dX4_append_16 ?_
    refine nm_el hf (fun z2 ez2 hf => ?_)
    refine x_topi ez2 ?_
    refine lv_istore (lv' := [(4, .int z2), (0, .ref (G.1 1)), (1, .int x1), (2, .long x2)]) hx hb dX4_append_17 hl (by decide) rfl (fun ls hl => ?_)
    exact t_X4_append_19 C hr x2 z2 σ _ _ _ h (lv_sub hl [1, 3, 0] rfl) hf
  · have hf := ifF c1 hf
    refine lv_iconst (v := 0) hx hb dX4_append_12 (by decide) ?_
    exact x_zret C hr h rfl hf dX4_append_13
def f_X4_note  (x1 : Int32) (x2 : Int32) (σ : St) : Option (St) := nm (sI σ 1 4 x1) (fun σ1 => nm (sI σ1 1 5 x2) (fun σ2 => some σ2))
set_option maxHeartbeats 4000000 in
theorem c_X4_note (l : Launch) (D : va_G) (G : Geo)   (x1 : Int32) (x2 : Int32) (σ : St) (o : St) (hf : f_X4_note  x1 x2 σ = some o) : CV l D (tyG G) (wC G) yX4_note cX4_note 3 none ({ frames := 0, cells := 0, slots := 0, locals := 0 }) [.ref (G.1 1), .int x1, .int x2] σ o := by
  refine met_of (Qc := fun A => QV D (tyG G) (wC G) A o) pn_X4 (Nat.le_of_ble_eq_true rfl) (fun p e s m below meth c A ls C hr h hl => ?_)
  have C : Cx p s m _ meth c cX4_note 3 RX4 D (tyG G) := C
  have hl : lv_has ls 3 [(0, .ref (G.1 1)), (1, .int x1), (2, .int x2)] := hl
  unfold f_X4_note at hf
  have hx := C.1
  have hb := C.2.1
  refine lv_aload_n hx hb dX4_note_0 rfl (lv_at hl 0 rfl) ?_
  refine lv_iload_n hx hb dX4_note_1 rfl (lv_at hl 1 rfl) ?_
  refine nm_el hf (fun σ1 hσ1 hf => ?_)
  refine pf_X4_38 C h (by decide) dX4_note_2 hσ1 (fun H locs h => ?_)
  refine lv_aload_n hx hb dX4_note_5 rfl (lv_at hl 0 rfl) ?_
  refine lv_iload_n hx hb dX4_note_6 rfl (lv_at hl 2 rfl) ?_
  refine nm_el hf (fun σ2 hσ2 hf => ?_)
  refine pf_X4_22 C h (by decide) dX4_note_7 hσ2 (fun H locs h => ?_)
  exact x_vret C hr h hf dX4_note_10
def b_X4_skipBlanks_0   (rec0 : St → Option (St))  (σ : St) : Option (St) := if (σ.1 1 1) ≤ (σ.1 1 3) then some σ else rd (σ.1 2) 400 (σ.1 1 3) (fun v2 => if v2 = 32 then nm (sI σ 1 3 ((σ.1 1 3) + 1)) (fun σ4 => rec0 (σ4)) else some σ)
def f_X4_skipBlanks_0    (σ : St) : Option (St) := lp (fun (rec0 : St → Option (St)) (q : St) => b_X4_skipBlanks_0   rec0 q) 100000 (σ)
set_option maxHeartbeats 4000000 in
theorem t_X4_skipBlanks_0 (C : Cx p s m args meth c cX4_skipBlanks 1 RX4 D (tyG G)) (hr : meth.sig.returnType = none) {o : St}   : ∀  (σ : St) (H : Heap) (locs : List Loc) (ls : Array Slot), Hs D A s.heap (wC G σ) H locs → lv_has ls 1 [(0, .ref (G.1 1))] → f_X4_skipBlanks_0    σ = some o → W p l e ({ frames := 0, cells := 0, slots := 0, locals := 0 } : Room) s m args below meth c H locs 0 0 (MQ below (QV D (tyG G) (wC G) A o) args s 0 0 A) (F0 m 0 ls []) := by
  intro  σ H locs ls h hl hf
  refine lp_el (P := fun q : St => ∀ (H : Heap) (locs : List Loc) (ls : Array Slot), Hs D A s.heap (wC G (q)) H locs → lv_has ls 1 [(0, .ref (G.1 1))] → W p l e ({ frames := 0, cells := 0, slots := 0, locals := 0 } : Room) s m args below meth c H locs 0 0 (MQ below (QV D (tyG G) (wC G) A o) args s 0 0 A) (F0 m 0 ls [])) (fun rec0 σ IH0 hf => ?_) _ (σ) hf H locs ls h hl
  intro H locs ls h hl
  have hl : lv_has ls 1 [(0, .ref (G.1 1))] := hl
  have h : Hs D A s.heap (wC G σ) H locs := h
  have hf : b_X4_skipBlanks_0   rec0  σ = some o := hf
  unfold b_X4_skipBlanks_0 at hf
  have hx := C.1
  have hb := C.2.1
  refine lv_aload_n hx hb dX4_skipBlanks_0 rfl (lv_at hl 0 rfl) ?_
  refine gf_X4_35 C h (by decide) dX4_skipBlanks_1 ?_
  refine lv_aload_n hx hb dX4_skipBlanks_4 rfl (lv_at hl 0 rfl) ?_
  refine gf_X4_26 C h (by decide) dX4_skipBlanks_5 ?_
  refine lv_icmp_ge (tgt := 38) hx hb dX4_skipBlanks_8 (by decide) (fun c1 => ?_) (fun c1 => ?_)
  · have hf := ifT c1 hf
    exact x_vret C hr h hf dX4_skipBlanks_38
  · have hf := ifF c1 hf
    refine lv_aload_n hx hb dX4_skipBlanks_11 rfl (lv_at hl 0 rfl) ?_
    refine gf_X4_9 C h (by decide) dX4_skipBlanks_12 ?_
    refine lv_aload_n hx hb dX4_skipBlanks_15 rfl (lv_at hl 0 rfl) ?_
    refine gf_X4_35 C h (by decide) dX4_skipBlanks_16 ?_
    refine rd_el hf (fun v2 hinv2 hv2 hf => ?_)
    refine x_bald C h 2 0 (ltA_X4_text (by decide)) ((aC_X4_text G (by decide)) _ _) rfl hinv2 hv2 dX4_skipBlanks_19 ?_
    refine lv_bipush (v := 32) hx hb dX4_skipBlanks_20 (by decide) ?_
    refine lv_icmp_ne (tgt := 38) hx hb dX4_skipBlanks_22 (by decide) (fun c3 => ?_) (fun c3 => ?_)
    · have hf := ifF c3 hf
      exact x_vret C hr h hf dX4_skipBlanks_38
    · have hf := ifT c3 hf
      refine lv_aload_n hx hb dX4_skipBlanks_25 rfl (lv_at hl 0 rfl) ?_
      refine lv_dup hx hb dX4_skipBlanks_26 rfl ?_
      refine gf_X4_35 C h (by decide) dX4_skipBlanks_27 ?_
      refine lv_iconst (v := 1) hx hb dX4_skipBlanks_30 (by decide) ?_
      refine lv_iadd hx hb dX4_skipBlanks_31 ?_
      refine nm_el hf (fun σ4 hσ4 hf => ?_)
      refine pf_X4_35 C h (by decide) dX4_skipBlanks_32 hσ4 (fun H locs h => ?_)
      refine lv_goto (tgt := 0) hx hb dX4_skipBlanks_35 (by decide) ?_
      exact IH0 (σ4) hf _ _ _ h (lv_sub hl [0] rfl)
def f_X4_skipBlanks   (σ : St) : Option (St) := f_X4_skipBlanks_0 σ
set_option maxHeartbeats 4000000 in
theorem c_X4_skipBlanks (l : Launch) (D : va_G) (G : Geo)    (σ : St) (o : St) (hf : f_X4_skipBlanks   σ = some o) : CV l D (tyG G) (wC G) yX4_skipBlanks cX4_skipBlanks 1 none ({ frames := 0, cells := 0, slots := 0, locals := 0 }) [.ref (G.1 1)] σ o := by
  refine met_of (Qc := fun A => QV D (tyG G) (wC G) A o) pn_X4 (Nat.le_of_ble_eq_true rfl) (fun p e s m below meth c A ls C hr h hl => ?_)
  have C : Cx p s m _ meth c cX4_skipBlanks 1 RX4 D (tyG G) := C
  have hl : lv_has ls 1 [(0, .ref (G.1 1))] := hl
  unfold f_X4_skipBlanks at hf
  have hx := C.1
  have hb := C.2.1
  exact t_X4_skipBlanks_0 C hr σ _ _ _ h (lv_sub hl [0] rfl) hf
def f_X4_readNumber_142   (x3 : Int32) (x4 : Int32) (σ : St) : Option (Int32 × St) := bv (f_X4_note 2 x3 σ) (fun σ20 => some (x4, σ20))
set_option maxHeartbeats 4000000 in
theorem t_X4_readNumber_142 (C : Cx p s m args meth c cX4_readNumber 5 RX4 D (tyG G)) (hr : meth.sig.returnType = (some .int)) {o : Int32 × St}   : ∀ (x3 : Int32) (x4 : Int32) (σ : St) (H : Heap) (locs : List Loc) (ls : Array Slot), Hs D A s.heap (wC G σ) H locs → lv_has ls 5 [(0, .ref (G.1 1)), (3, .int x3), (4, .int x4)] → f_X4_readNumber_142   x3 x4 σ = some o → W p l e ({ frames := 1, cells := 0, slots := 0, locals := 22 } : Room) s m args below meth c H locs 0 0 (MQ below (QI D (tyG G) (wC G) A o) args s 0 0 A) (F0 m 142 ls []) := by
  intro x3 x4 σ H locs ls h hl hf
  unfold f_X4_readNumber_142 at hf
  have hx := C.1
  have hb := C.2.1
  refine lv_aload_n hx hb dX4_readNumber_142 rfl (lv_at hl 0 rfl) ?_
  refine lv_iconst (v := 2) hx hb dX4_readNumber_143 (by decide) ?_
  refine lv_iload_n hx hb dX4_readNumber_144 rfl (lv_at hl 1 rfl) ?_
  refine bv_el hf (fun σ20 ho21 hf => ?_)
  refine x_gov h (x_runV (As := [.int 2, .int x3]) (rest := []) C h (c_X4_note l D G 2 x3 σ σ20 ho21 _) lk_X4_62 rfl ⟨rfl, rfl, Nat.le_of_ble_eq_true rfl, Nat.le_of_ble_eq_true rfl⟩ (x_rcv C h 1 (lt_X4 (by decide)) ((oC_X4 G (by decide)) _ _) rfl) hl.1 rfl (Nat.le_of_ble_eq_true rfl) dX4_readNumber_145) (fun H locs h => ?_)
  refine lv_iload hx hb dX4_readNumber_148 (lv_at hl 2 rfl) ?_
  exact x_iret C hr h hf dX4_readNumber_150
def f_X4_readNumber_103   (x1 : Int32) (x2 : Int32) (x3 : Int32) (x4 : Int32) (σ : St) : Option (Int32 × St) := if (σ.1 1 3) = x3 then bv (f_X4_note 1 x3 σ) (fun σ17 => some (x4, σ17)) else if (3 : Int32) < ((σ.1 1 3) - x3) then f_X4_readNumber_142 x3 x4 σ else if x4 < x1 then f_X4_readNumber_142 x3 x4 σ else if x4 ≤ x2 then some (x4, σ) else f_X4_readNumber_142 x3 x4 σ
set_option maxHeartbeats 4000000 in
theorem t_X4_readNumber_103 (C : Cx p s m args meth c cX4_readNumber 5 RX4 D (tyG G)) (hr : meth.sig.returnType = (some .int)) {o : Int32 × St}   : ∀ (x1 : Int32) (x2 : Int32) (x3 : Int32) (x4 : Int32) (σ : St) (H : Heap) (locs : List Loc) (ls : Array Slot), Hs D A s.heap (wC G σ) H locs → lv_has ls 5 [(0, .ref (G.1 1)), (1, .int x1), (2, .int x2), (3, .int x3), (4, .int x4)] → f_X4_readNumber_103   x1 x2 x3 x4 σ = some o → W p l e ({ frames := 1, cells := 0, slots := 0, locals := 22 } : Room) s m args below meth c H locs 0 0 (MQ below (QI D (tyG G) (wC G) A o) args s 0 0 A) (F0 m 103 ls []) := by
  intro x1 x2 x3 x4 σ H locs ls h hl hf
  unfold f_X4_readNumber_103 at hf
  have hx := C.1
  have hb := C.2.1
  refine lv_aload_n hx hb dX4_readNumber_103 rfl (lv_at hl 0 rfl) ?_
  refine gf_X4_35 C h (by decide) dX4_readNumber_104 ?_
  refine lv_iload_n hx hb dX4_readNumber_107 rfl (lv_at hl 3 rfl) ?_
  refine lv_icmp_ne (tgt := 120) hx hb dX4_readNumber_108 (by decide) (fun c13 => ?_) (fun c13 => ?_)
  · have hf := ifF c13 hf
    refine lv_aload_n hx hb dX4_readNumber_120 rfl (lv_at hl 0 rfl) ?_
    refine gf_X4_35 C h (by decide) dX4_readNumber_121 ?_
    refine lv_iload_n hx hb dX4_readNumber_124 rfl (lv_at hl 3 rfl) ?_
    refine lv_isub hx hb dX4_readNumber_125 ?_
    refine lv_iconst (v := 3) hx hb dX4_readNumber_126 (by decide) ?_
    refine lv_icmp_gt (tgt := 142) hx hb dX4_readNumber_127 (by decide) (fun c14 => ?_) (fun c14 => ?_)
    · have hf := ifT c14 hf
      exact t_X4_readNumber_142 C hr x3 x4 σ _ _ _ h (lv_sub hl [0, 3, 4] rfl) hf
    · have hf := ifF c14 hf
      refine lv_iload hx hb dX4_readNumber_130 (lv_at hl 4 rfl) ?_
      refine lv_iload_n hx hb dX4_readNumber_132 rfl (lv_at hl 1 rfl) ?_
      refine lv_icmp_lt (tgt := 142) hx hb dX4_readNumber_133 (by decide) (fun c15 => ?_) (fun c15 => ?_)
      · have hf := ifT c15 hf
        exact t_X4_readNumber_142 C hr x3 x4 σ _ _ _ h (lv_sub hl [0, 3, 4] rfl) hf
      · have hf := ifF c15 hf
        refine lv_iload hx hb dX4_readNumber_136 (lv_at hl 4 rfl) ?_
        refine lv_iload_n hx hb dX4_readNumber_138 rfl (lv_at hl 2 rfl) ?_
        refine lv_icmp_le (tgt := 148) hx hb dX4_readNumber_139 (by decide) (fun c16 => ?_) (fun c16 => ?_)
        · have hf := ifT c16 hf
          refine lv_iload hx hb dX4_readNumber_148 (lv_at hl 4 rfl) ?_
          exact x_iret C hr h hf dX4_readNumber_150
        · have hf := ifF c16 hf
          exact t_X4_readNumber_142 C hr x3 x4 σ _ _ _ h (lv_sub hl [0, 3, 4] rfl) hf
  · have hf := ifT c13 hf
    refine lv_aload_n hx hb dX4_readNumber_111 rfl (lv_at hl 0 rfl) ?_
    refine lv_iconst (v := 1) hx hb dX4_readNumber_112 (by decide) ?_
    refine lv_iload_n hx hb dX4_readNumber_113 rfl (lv_at hl 3 rfl) ?_
    refine bv_el hf (fun σ17 ho18 hf => ?_)
    refine x_gov h (x_runV (As := [.int 1, .int x3]) (rest := []) C h (c_X4_note l D G 1 x3 σ σ17 ho18 _) lk_X4_62 rfl ⟨rfl, rfl, Nat.le_of_ble_eq_true rfl, Nat.le_of_ble_eq_true rfl⟩ (x_rcv C h 1 (lt_X4 (by decide)) ((oC_X4 G (by decide)) _ _) rfl) hl.1 rfl (Nat.le_of_ble_eq_true rfl) dX4_readNumber_114) (fun H locs h => ?_)
    refine lv_goto (tgt := 148) hx hb dX4_readNumber_117 (by decide) ?_
    refine lv_iload hx hb dX4_readNumber_148 (lv_at hl 4 rfl) ?_
    exact x_iret C hr h hf dX4_readNumber_150
def f_X4_readNumber_90  (rec21 : Int32 × Int32 × Int32 × Int32 × St → Option (Int32 × St)) (x1 : Int32) (x2 : Int32) (x3 : Int32) (x4 : Int32) (σ : St) : Option (Int32 × St) := nm (sI σ 1 3 ((σ.1 1 3) + 1)) (fun σ19 => rec21 (x1, x2, x3, x4, σ19))
set_option maxHeartbeats 4000000 in
theorem t_X4_readNumber_90 (C : Cx p s m args meth c cX4_readNumber 5 RX4 D (tyG G)) (hr : meth.sig.returnType = (some .int)) {o : Int32 × St}  {rec21 : Int32 × Int32 × Int32 × Int32 × St → Option (Int32 × St)} (IH21 : ∀ q, rec21 q = some o → ∀ (H : Heap) (locs : List Loc) (ls : Array Slot), Hs D A s.heap (wC G (q.2.2.2.2)) H locs → lv_has ls 5 [(0, .ref (G.1 1)), (1, .int (q.1)), (2, .int (q.2.1)), (3, .int (q.2.2.1)), (4, .int (q.2.2.2.1))] → W p l e ({ frames := 1, cells := 0, slots := 0, locals := 22 } : Room) s m args below meth c H locs 0 0 (MQ below (QI D (tyG G) (wC G) A o) args s 0 0 A) (F0 m 21 ls [])) : ∀ (x1 : Int32) (x2 : Int32) (x3 : Int32) (x4 : Int32) (σ : St) (H : Heap) (locs : List Loc) (ls : Array Slot), Hs D A s.heap (wC G σ) H locs → lv_has ls 5 [(0, .ref (G.1 1)), (1, .int x1), (2, .int x2), (3, .int x3), (4, .int x4)] → f_X4_readNumber_90  rec21 x1 x2 x3 x4 σ = some o → W p l e ({ frames := 1, cells := 0, slots := 0, locals := 22 } : Room) s m args below meth c H locs 0 0 (MQ below (QI D (tyG G) (wC G) A o) args s 0 0 A) (F0 m 90 ls []) := by
  intro x1 x2 x3 x4 σ H locs ls h hl hf
  unfold f_X4_readNumber_90 at hf
  have hx := C.1
  have hb := C.2.1
  refine lv_aload_n hx hb dX4_readNumber_90 rfl (lv_at hl 0 rfl) ?_
  refine lv_dup hx hb dX4_readNumber_91 rfl ?_
  refine gf_X4_35 C h (by decide) dX4_readNumber_92 ?_
  refine lv_iconst (v := 1) hx hb dX4_readNumber_95 (by decide) ?_
  refine lv_iadd hx hb dX4_readNumber_96 ?_
  refine nm_el hf (fun σ19 hσ19 hf => ?_)
  refine pf_X4_35 C h (by decide) dX4_readNumber_97 hσ19 (fun H locs h => ?_)
  refine lv_goto (tgt := 21) hx hb dX4_readNumber_100 (by decide) ?_
  exact IH21 (x1, x2, x3, x4, σ19) hf _ _ _ h (lv_sub hl [0, 1, 2, 3, 4] rfl)
def b_X4_readNumber_21   (rec21 : Int32 × Int32 × Int32 × Int32 × St → Option (Int32 × St)) (x1 : Int32) (x2 : Int32) (x3 : Int32) (x4 : Int32) (σ : St) : Option (Int32 × St) := if (σ.1 1 1) ≤ (σ.1 1 3) then f_X4_readNumber_103 x1 x2 x3 x4 σ else rd (σ.1 2) 400 (σ.1 1 3) (fun v6 => if v6 < 48 then f_X4_readNumber_103 x1 x2 x3 x4 σ else rd (σ.1 2) 400 (σ.1 1 3) (fun v8 => if (57 : Int32) < v8 then f_X4_readNumber_103 x1 x2 x3 x4 σ else if (3 : Int32) ≤ ((σ.1 1 3) - x3) then f_X4_readNumber_90 rec21 x1 x2 x3 x4 σ else rd (σ.1 2) 400 (σ.1 1 3) (fun v11 => nm ((x4 * 10) + (v11 - 48)) (fun z12 => f_X4_readNumber_90 rec21 x1 x2 x3 z12 σ))))
def f_X4_readNumber_21   (x1 : Int32) (x2 : Int32) (x3 : Int32) (x4 : Int32) (σ : St) : Option (Int32 × St) := lp (fun (rec21 : Int32 × Int32 × Int32 × Int32 × St → Option (Int32 × St)) (q : Int32 × Int32 × Int32 × Int32 × St) => b_X4_readNumber_21   rec21 (q.1) (q.2.1) (q.2.2.1) (q.2.2.2.1) (q.2.2.2.2)) 100000 (x1, x2, x3, x4, σ)
set_option maxHeartbeats 4000000 in
theorem t_X4_readNumber_21 (C : Cx p s m args meth c cX4_readNumber 5 RX4 D (tyG G)) (hr : meth.sig.returnType = (some .int)) {o : Int32 × St}   : ∀ (x1 : Int32) (x2 : Int32) (x3 : Int32) (x4 : Int32) (σ : St) (H : Heap) (locs : List Loc) (ls : Array Slot), Hs D A s.heap (wC G σ) H locs → lv_has ls 5 [(0, .ref (G.1 1)), (1, .int x1), (2, .int x2), (3, .int x3), (4, .int x4)] → f_X4_readNumber_21   x1 x2 x3 x4 σ = some o → W p l e ({ frames := 1, cells := 0, slots := 0, locals := 22 } : Room) s m args below meth c H locs 0 0 (MQ below (QI D (tyG G) (wC G) A o) args s 0 0 A) (F0 m 21 ls []) := by
  intro x1 x2 x3 x4 σ H locs ls h hl hf
  refine lp_el (P := fun q : Int32 × Int32 × Int32 × Int32 × St => ∀ (H : Heap) (locs : List Loc) (ls : Array Slot), Hs D A s.heap (wC G (q.2.2.2.2)) H locs → lv_has ls 5 [(0, .ref (G.1 1)), (1, .int (q.1)), (2, .int (q.2.1)), (3, .int (q.2.2.1)), (4, .int (q.2.2.2.1))] → W p l e ({ frames := 1, cells := 0, slots := 0, locals := 22 } : Room) s m args below meth c H locs 0 0 (MQ below (QI D (tyG G) (wC G) A o) args s 0 0 A) (F0 m 21 ls [])) (fun rec21 q IH21 hf => ?_) _ (x1, x2, x3, x4, σ) hf H locs ls h hl
  obtain ⟨x1, x2, x3, x4, σ⟩ := q
  intro H locs ls h hl
  have hl : lv_has ls 5 [(0, .ref (G.1 1)), (1, .int x1), (2, .int x2), (3, .int x3), (4, .int x4)] := hl
  have h : Hs D A s.heap (wC G σ) H locs := h
  have hf : b_X4_readNumber_21   rec21 x1 x2 x3 x4 σ = some o := hf
  unfold b_X4_readNumber_21 at hf
  have hx := C.1
  have hb := C.2.1
  refine lv_aload_n hx hb dX4_readNumber_21 rfl (lv_at hl 0 rfl) ?_
  refine gf_X4_35 C h (by decide) dX4_readNumber_22 ?_
  refine lv_aload_n hx hb dX4_readNumber_25 rfl (lv_at hl 0 rfl) ?_
  refine gf_X4_26 C h (by decide) dX4_readNumber_26 ?_
  refine lv_icmp_ge (tgt := 103) hx hb dX4_readNumber_29 (by decide) (fun c5 => ?_) (fun c5 => ?_)
  · have hf := ifT c5 hf
    exact t_X4_readNumber_103 C hr x1 x2 x3 x4 σ _ _ _ h (lv_sub hl [0, 1, 2, 3, 4] rfl) hf
  · have hf := ifF c5 hf
    refine lv_aload_n hx hb dX4_readNumber_32 rfl (lv_at hl 0 rfl) ?_
    refine gf_X4_9 C h (by decide) dX4_readNumber_33 ?_
    refine lv_aload_n hx hb dX4_readNumber_36 rfl (lv_at hl 0 rfl) ?_
    refine gf_X4_35 C h (by decide) dX4_readNumber_37 ?_
    refine rd_el hf (fun v6 hinv6 hv6 hf => ?_)
    refine x_bald C h 2 0 (ltA_X4_text (by decide)) ((aC_X4_text G (by decide)) _ _) rfl hinv6 hv6 dX4_readNumber_40 ?_
    refine lv_bipush (v := 48) hx hb dX4_readNumber_41 (by decide) ?_
    refine lv_icmp_lt (tgt := 103) hx hb dX4_readNumber_43 (by decide) (fun c7 => ?_) (fun c7 => ?_)
    · have hf := ifT c7 hf
      exact t_X4_readNumber_103 C hr x1 x2 x3 x4 σ _ _ _ h (lv_sub hl [0, 1, 2, 3, 4] rfl) hf
    · have hf := ifF c7 hf
      refine lv_aload_n hx hb dX4_readNumber_46 rfl (lv_at hl 0 rfl) ?_
      refine gf_X4_9 C h (by decide) dX4_readNumber_47 ?_
      refine lv_aload_n hx hb dX4_readNumber_50 rfl (lv_at hl 0 rfl) ?_
      refine gf_X4_35 C h (by decide) dX4_readNumber_51 ?_
      refine rd_el hf (fun v8 hinv8 hv8 hf => ?_)
      refine x_bald C h 2 0 (ltA_X4_text (by decide)) ((aC_X4_text G (by decide)) _ _) rfl hinv8 hv8 dX4_readNumber_54 ?_
      refine lv_bipush (v := 57) hx hb dX4_readNumber_55 (by decide) ?_
      refine lv_icmp_gt (tgt := 103) hx hb dX4_readNumber_57 (by decide) (fun c9 => ?_) (fun c9 => ?_)
      · have hf := ifT c9 hf
        exact t_X4_readNumber_103 C hr x1 x2 x3 x4 σ _ _ _ h (lv_sub hl [0, 1, 2, 3, 4] rfl) hf
      · have hf := ifF c9 hf
        refine lv_aload_n hx hb dX4_readNumber_60 rfl (lv_at hl 0 rfl) ?_
        refine gf_X4_35 C h (by decide) dX4_readNumber_61 ?_
        refine lv_iload_n hx hb dX4_readNumber_64 rfl (lv_at hl 3 rfl) ?_
        refine lv_isub hx hb dX4_readNumber_65 ?_
        refine lv_iconst (v := 3) hx hb dX4_readNumber_66 (by decide) ?_
        refine lv_icmp_ge (tgt := 90) hx hb dX4_readNumber_67 (by decide) (fun c10 => ?_) (fun c10 => ?_)
        · have hf := ifT c10 hf
          exact t_X4_readNumber_90 C hr IH21 x1 x2 x3 x4 σ _ _ _ h (lv_sub hl [0, 1, 2, 3, 4] rfl) hf
        · have hf := ifF c10 hf
          refine lv_iload hx hb dX4_readNumber_70 (lv_at hl 4 rfl) ?_
          refine lv_bipush (v := 10) hx hb dX4_readNumber_72 (by decide) ?_
          refine lv_imul hx hb dX4_readNumber_74 ?_
          refine lv_aload_n hx hb dX4_readNumber_75 rfl (lv_at hl 0 rfl) ?_
          refine gf_X4_9 C h (by decide) dX4_readNumber_76 ?_
          refine lv_aload_n hx hb dX4_readNumber_79 rfl (lv_at hl 0 rfl) ?_
          refine gf_X4_35 C h (by decide) dX4_readNumber_80 ?_
          refine rd_el hf (fun v11 hinv11 hv11 hf => ?_)
          refine x_bald C h 2 0 (ltA_X4_text (by decide)) ((aC_X4_text G (by decide)) _ _) rfl hinv11 hv11 dX4_readNumber_83 ?_
          refine lv_bipush (v := 48) hx hb dX4_readNumber_84 (by decide) ?_
          refine lv_isub hx hb dX4_readNumber_86 ?_
          refine lv_iadd hx hb dX4_readNumber_87 ?_
          refine nm_el hf (fun z12 ez12 hf => ?_)
          refine x_topi ez12 ?_
          refine lv_istore (lv' := [(4, .int z12), (0, .ref (G.1 1)), (1, .int x1), (2, .int x2), (3, .int x3)]) hx hb dX4_readNumber_88 hl (by decide) rfl (fun ls hl => ?_)
          exact t_X4_readNumber_90 C hr IH21 x1 x2 x3 z12 σ _ _ _ h (lv_sub hl [1, 2, 3, 4, 0] rfl) hf
def f_X4_readNumber  (x1 : Int32) (x2 : Int32) (σ : St) : Option (Int32 × St) := if (σ.1 1 4) = 0 then bv (f_X4_skipBlanks σ) (fun σ2 => nm (σ2.1 1 3) (fun z4 => f_X4_readNumber_21 x1 x2 z4 0 σ2)) else some (0, σ)
set_option maxHeartbeats 4000000 in
theorem c_X4_readNumber (l : Launch) (D : va_G) (G : Geo)   (x1 : Int32) (x2 : Int32) (σ : St) (o : Int32 × St) (hf : f_X4_readNumber  x1 x2 σ = some o) : CI l D (tyG G) (wC G) yX4_readNumber cX4_readNumber 5 ((some .int)) ({ frames := 1, cells := 0, slots := 0, locals := 22 }) [.ref (G.1 1), .int x1, .int x2] σ o := by
  refine met_of (Qc := fun A => QI D (tyG G) (wC G) A o) pn_X4 (Nat.le_of_ble_eq_true rfl) (fun p e s m below meth c A ls C hr h hl => ?_)
  have C : Cx p s m _ meth c cX4_readNumber 5 RX4 D (tyG G) := C
  have hl : lv_has ls 5 [(0, .ref (G.1 1)), (1, .int x1), (2, .int x2)] := hl
  unfold f_X4_readNumber at hf
  have hx := C.1
  have hb := C.2.1
  refine lv_aload_n hx hb dX4_readNumber_0 rfl (lv_at hl 0 rfl) ?_
  refine gf_X4_38 C h (by decide) dX4_readNumber_1 ?_
  refine lv_if_eq (tgt := 9) hx hb dX4_readNumber_4 (by decide) (fun c1 => ?_) (fun c1 => ?_)
  · have hf := ifT c1 hf
    refine lv_aload_n hx hb dX4_readNumber_9 rfl (lv_at hl 0 rfl) ?_
    refine bv_el hf (fun σ2 ho3 hf => ?_)
    refine x_gov h (x_runV (As := []) (rest := []) C h (c_X4_skipBlanks l D G σ σ2 ho3 _) lk_X4_41 rfl ⟨rfl, rfl, Nat.le_of_ble_eq_true rfl, Nat.le_of_ble_eq_true rfl⟩ (x_rcv C h 1 (lt_X4 (by decide)) ((oC_X4 G (by decide)) _ _) rfl) hl.1 rfl (Nat.le_of_ble_eq_true rfl) dX4_readNumber_10) (fun H locs h => ?_)
    refine lv_aload_n hx hb dX4_readNumber_13 rfl (lv_at hl 0 rfl) ?_
    refine gf_X4_35 C h (by decide) dX4_readNumber_14 ?_
    refine nm_el hf (fun z4 ez4 hf => ?_)
    refine x_topi ez4 ?_
    refine lv_istore_n (lv' := [(3, .int z4), (0, .ref (G.1 1)), (1, .int x1), (2, .int x2)]) hx hb dX4_readNumber_17 rfl hl (by decide) rfl (fun ls hl => ?_)
    refine lv_iconst (v := 0) hx hb dX4_readNumber_18 (by decide) ?_
    refine lv_istore (lv' := [(4, .int 0), (3, .int z4), (0, .ref (G.1 1)), (1, .int x1), (2, .int x2)]) hx hb dX4_readNumber_19 hl (by decide) rfl (fun ls hl => ?_)
    exact t_X4_readNumber_21 C hr x1 x2 z4 0 σ2 _ _ _ h (lv_sub hl [2, 3, 4, 1, 0] rfl) hf
  · have hf := ifF c1 hf
    refine lv_iconst (v := 0) hx hb dX4_readNumber_7 (by decide) ?_
    exact x_iret C hr h hf dX4_readNumber_8
def f_X4_readEnd_50    (σ : St) : Option (St) := bv (f_X4_note 1 (σ.1 1 3) σ) (fun σ8 => some σ8)
set_option maxHeartbeats 4000000 in
theorem t_X4_readEnd_50 (C : Cx p s m args meth c cX4_readEnd 1 RX4 D (tyG G)) (hr : meth.sig.returnType = none) {o : St}   : ∀  (σ : St) (H : Heap) (locs : List Loc) (ls : Array Slot), Hs D A s.heap (wC G σ) H locs → lv_has ls 1 [(0, .ref (G.1 1))] → f_X4_readEnd_50    σ = some o → W p l e ({ frames := 1, cells := 0, slots := 0, locals := 22 } : Room) s m args below meth c H locs 0 0 (MQ below (QV D (tyG G) (wC G) A o) args s 0 0 A) (F0 m 50 ls []) := by
  intro  σ H locs ls h hl hf
  unfold f_X4_readEnd_50 at hf
  have hx := C.1
  have hb := C.2.1
  refine lv_aload_n hx hb dX4_readEnd_50 rfl (lv_at hl 0 rfl) ?_
  refine lv_iconst (v := 1) hx hb dX4_readEnd_51 (by decide) ?_
  refine lv_aload_n hx hb dX4_readEnd_52 rfl (lv_at hl 0 rfl) ?_
  refine gf_X4_35 C h (by decide) dX4_readEnd_53 ?_
  refine bv_el hf (fun σ8 ho9 hf => ?_)
  refine x_gov h (x_runV (As := [.int 1, .int (σ.1 1 3)]) (rest := []) C h (c_X4_note l D G 1 (σ.1 1 3) σ σ8 ho9 _) lk_X4_62 rfl ⟨rfl, rfl, Nat.le_of_ble_eq_true rfl, Nat.le_of_ble_eq_true rfl⟩ (x_rcv C h 1 (lt_X4 (by decide)) ((oC_X4 G (by decide)) _ _) rfl) hl.1 rfl (Nat.le_of_ble_eq_true rfl) dX4_readEnd_56) (fun H locs h => ?_)
  exact x_vret C hr h hf dX4_readEnd_59
def f_X4_readEnd   (σ : St) : Option (St) := if (σ.1 1 4) = 0 then bv (f_X4_skipBlanks σ) (fun σ2 => if (σ2.1 1 1) ≤ (σ2.1 1 3) then f_X4_readEnd_50 σ2 else rd (σ2.1 2) 400 (σ2.1 1 3) (fun v5 => if v5 = 59 then nm (sI σ2 1 3 ((σ2.1 1 3) + 1)) (fun σ7 => some σ7) else f_X4_readEnd_50 σ2)) else some σ
set_option maxHeartbeats 4000000 in
theorem c_X4_readEnd (l : Launch) (D : va_G) (G : Geo)    (σ : St) (o : St) (hf : f_X4_readEnd   σ = some o) : CV l D (tyG G) (wC G) yX4_readEnd cX4_readEnd 1 none ({ frames := 1, cells := 0, slots := 0, locals := 22 }) [.ref (G.1 1)] σ o := by
  refine met_of (Qc := fun A => QV D (tyG G) (wC G) A o) pn_X4 (Nat.le_of_ble_eq_true rfl) (fun p e s m below meth c A ls C hr h hl => ?_)
  have C : Cx p s m _ meth c cX4_readEnd 1 RX4 D (tyG G) := C
  have hl : lv_has ls 1 [(0, .ref (G.1 1))] := hl
  unfold f_X4_readEnd at hf
  have hx := C.1
  have hb := C.2.1
  refine lv_aload_n hx hb dX4_readEnd_0 rfl (lv_at hl 0 rfl) ?_
  refine gf_X4_38 C h (by decide) dX4_readEnd_1 ?_
  refine lv_if_eq (tgt := 8) hx hb dX4_readEnd_4 (by decide) (fun c1 => ?_) (fun c1 => ?_)
  · have hf := ifT c1 hf
    refine lv_aload_n hx hb dX4_readEnd_8 rfl (lv_at hl 0 rfl) ?_
    refine bv_el hf (fun σ2 ho3 hf => ?_)
    refine x_gov h (x_runV (As := []) (rest := []) C h (c_X4_skipBlanks l D G σ σ2 ho3 _) lk_X4_41 rfl ⟨rfl, rfl, Nat.le_of_ble_eq_true rfl, Nat.le_of_ble_eq_true rfl⟩ (x_rcv C h 1 (lt_X4 (by decide)) ((oC_X4 G (by decide)) _ _) rfl) hl.1 rfl (Nat.le_of_ble_eq_true rfl) dX4_readEnd_9) (fun H locs h => ?_)
    refine lv_aload_n hx hb dX4_readEnd_12 rfl (lv_at hl 0 rfl) ?_
    refine gf_X4_35 C h (by decide) dX4_readEnd_13 ?_
    refine lv_aload_n hx hb dX4_readEnd_16 rfl (lv_at hl 0 rfl) ?_
    refine gf_X4_26 C h (by decide) dX4_readEnd_17 ?_
    refine lv_icmp_ge (tgt := 50) hx hb dX4_readEnd_20 (by decide) (fun c4 => ?_) (fun c4 => ?_)
    · have hf := ifT c4 hf
      exact t_X4_readEnd_50 C hr σ2 _ _ _ h (lv_sub hl [0] rfl) hf
    · have hf := ifF c4 hf
      refine lv_aload_n hx hb dX4_readEnd_23 rfl (lv_at hl 0 rfl) ?_
      refine gf_X4_9 C h (by decide) dX4_readEnd_24 ?_
      refine lv_aload_n hx hb dX4_readEnd_27 rfl (lv_at hl 0 rfl) ?_
      refine gf_X4_35 C h (by decide) dX4_readEnd_28 ?_
      refine rd_el hf (fun v5 hinv5 hv5 hf => ?_)
      refine x_bald C h 2 0 (ltA_X4_text (by decide)) ((aC_X4_text G (by decide)) _ _) rfl hinv5 hv5 dX4_readEnd_31 ?_
      refine lv_bipush (v := 59) hx hb dX4_readEnd_32 (by decide) ?_
      refine lv_icmp_ne (tgt := 50) hx hb dX4_readEnd_34 (by decide) (fun c6 => ?_) (fun c6 => ?_)
      · have hf := ifF c6 hf
        exact t_X4_readEnd_50 C hr σ2 _ _ _ h (lv_sub hl [0] rfl) hf
      · have hf := ifT c6 hf
        refine lv_aload_n hx hb dX4_readEnd_37 rfl (lv_at hl 0 rfl) ?_
        refine lv_dup hx hb dX4_readEnd_38 rfl ?_
        refine gf_X4_35 C h (by decide) dX4_readEnd_39 ?_
        refine lv_iconst (v := 1) hx hb dX4_readEnd_42 (by decide) ?_
        refine lv_iadd hx hb dX4_readEnd_43 ?_
        refine nm_el hf (fun σ7 hσ7 hf => ?_)
        refine pf_X4_35 C h (by decide) dX4_readEnd_44 hσ7 (fun H locs h => ?_)
        refine lv_goto (tgt := 59) hx hb dX4_readEnd_47 (by decide) ?_
        exact x_vret C hr h hf dX4_readEnd_59
  · have hf := ifF c1 hf
    exact x_vret C hr h hf dX4_readEnd_7
def f_X4_readHouse  (x1 : Int32) (σ : St) : Option (St) := nm (σ.1 11 0) (fun z1 => if z1 < 5 then bd (f_X4_readNumber 1 7 σ) (fun r5 σ3 => ck (inb z1 5) (nm (sI σ3 12 (z1 : Int32).toNatClampNeg r5) (fun σ7 => bd (f_X4_readNumber 0 999 σ7) (fun r10 σ8 => ck (inb z1 5) (nm (sI σ8 13 (z1 : Int32).toNatClampNeg r10) (fun σ12 => bd (f_X4_readNumber 0 60 σ12) (fun r15 σ13 => ck (inb z1 5) (nm (sI σ13 14 (z1 : Int32).toNatClampNeg r15) (fun σ17 => bv (f_X4_readEnd σ17) (fun σ18 => nm (sI σ18 11 0 (z1 + 1)) (fun σ20 => some σ20))))))))))) else bv (f_X4_note 3 x1 σ) (fun σ21 => some σ21))
set_option maxHeartbeats 4000000 in
theorem c_X4_readHouse (l : Launch) (D : va_G) (G : Geo)   (x1 : Int32) (σ : St) (o : St) (hf : f_X4_readHouse  x1 σ = some o) : CV l D (tyG G) (wC G) yX4_readHouse cX4_readHouse 3 none ({ frames := 2, cells := 0, slots := 0, locals := 46 }) [.ref (G.1 1), .int x1] σ o := by
  refine met_of (Qc := fun A => QV D (tyG G) (wC G) A o) pn_X4 (Nat.le_of_ble_eq_true rfl) (fun p e s m below meth c A ls C hr h hl => ?_)
  have C : Cx p s m _ meth c cX4_readHouse 3 RX4 D (tyG G) := C
  have hl : lv_has ls 3 [(0, .ref (G.1 1)), (1, .int x1)] := hl
  unfold f_X4_readHouse at hf
  have hx := C.1
  have hb := C.2.1
  refine lv_aload_n hx hb dX4_readHouse_0 rfl (lv_at hl 0 rfl) ?_
  refine gf_X4_18 C h (by decide) dX4_readHouse_1 ?_
  refine gf_X4_29 C h (by decide) dX4_readHouse_4 ?_
  refine nm_el hf (fun z1 ez1 hf => ?_)
  refine x_topi ez1 ?_
  refine lv_istore_n (lv' := [(2, .int z1), (0, .ref (G.1 1)), (1, .int x1)]) hx hb dX4_readHouse_7 rfl hl (by decide) rfl (fun ls hl => ?_)
  refine lv_iload_n hx hb dX4_readHouse_8 rfl (lv_at hl 0 rfl) ?_
  refine lv_iconst (v := 5) hx hb dX4_readHouse_9 (by decide) ?_
  refine lv_icmp_lt (tgt := 20) hx hb dX4_readHouse_10 (by decide) (fun c2 => ?_) (fun c2 => ?_)
  · have hf := ifT c2 hf
    refine lv_aload_n hx hb dX4_readHouse_20 rfl (lv_at hl 1 rfl) ?_
    refine gf_X4_18 C h (by decide) dX4_readHouse_21 ?_
    refine gf_X4_75 C h (by decide) dX4_readHouse_24 ?_
    refine lv_iload_n hx hb dX4_readHouse_27 rfl (lv_at hl 0 rfl) ?_
    refine lv_aload_n hx hb dX4_readHouse_28 rfl (lv_at hl 1 rfl) ?_
    refine lv_iconst (v := 1) hx hb dX4_readHouse_29 (by decide) ?_
    refine lv_bipush (v := 7) hx hb dX4_readHouse_30 (by decide) ?_
    refine bd_el hf (fun r5 σ3 ho4 hf => ?_)
    refine x_goi h (x_runV (As := [.int 1, .int 7]) (rest := [.int z1, .ref (G.1 12)]) C h (c_X4_readNumber l D G 1 7 σ (r5, σ3) ho4 _) lk_X4_79 rfl ⟨rfl, rfl, Nat.le_of_ble_eq_true rfl, Nat.le_of_ble_eq_true rfl⟩ (x_rcv C h 1 (lt_X4 (by decide)) ((oC_X4 G (by decide)) _ _) rfl) hl.1 rfl (Nat.le_of_ble_eq_true rfl) dX4_readHouse_32) (fun H locs h => ?_)
    refine ckb_el hf (fun hin6 hf => ?_)
    refine nm_el hf (fun σ7 hσ7 hf => ?_)
    refine x_iast C h 12 1 (ltA_X5_need (by decide)) (fun f => (aC_X5_need G (by decide)) f _) rfl hin6 dX4_readHouse_35 hσ7 (fun H locs h => ?_)
    refine lv_aload_n hx hb dX4_readHouse_36 rfl (lv_at hl 1 rfl) ?_
    refine gf_X4_18 C h (by decide) dX4_readHouse_37 ?_
    refine gf_X4_83 C h (by decide) dX4_readHouse_40 ?_
    refine lv_iload_n hx hb dX4_readHouse_43 rfl (lv_at hl 0 rfl) ?_
    refine lv_aload_n hx hb dX4_readHouse_44 rfl (lv_at hl 1 rfl) ?_
    refine lv_iconst (v := 0) hx hb dX4_readHouse_45 (by decide) ?_
    refine lv_sipush (v := 999) hx hb dX4_readHouse_46 (by decide) ?_
    refine bd_el hf (fun r10 σ8 ho9 hf => ?_)
    refine x_goi h (x_runV (As := [.int 0, .int 999]) (rest := [.int z1, .ref (G.1 13)]) C h (c_X4_readNumber l D G 0 999 σ7 (r10, σ8) ho9 _) lk_X4_79 rfl ⟨rfl, rfl, Nat.le_of_ble_eq_true rfl, Nat.le_of_ble_eq_true rfl⟩ (x_rcv C h 1 (lt_X4 (by decide)) ((oC_X4 G (by decide)) _ _) rfl) hl.1 rfl (Nat.le_of_ble_eq_true rfl) dX4_readHouse_49) (fun H locs h => ?_)
    refine ckb_el hf (fun hin11 hf => ?_)
    refine nm_el hf (fun σ12 hσ12 hf => ?_)
    refine x_iast C h 13 1 (ltA_X5_worth (by decide)) (fun f => (aC_X5_worth G (by decide)) f _) rfl hin11 dX4_readHouse_52 hσ12 (fun H locs h => ?_)
    refine lv_aload_n hx hb dX4_readHouse_53 rfl (lv_at hl 1 rfl) ?_
    refine gf_X4_18 C h (by decide) dX4_readHouse_54 ?_
    refine gf_X4_86 C h (by decide) dX4_readHouse_57 ?_
    refine lv_iload_n hx hb dX4_readHouse_60 rfl (lv_at hl 0 rfl) ?_
    refine lv_aload_n hx hb dX4_readHouse_61 rfl (lv_at hl 1 rfl) ?_
    refine lv_iconst (v := 0) hx hb dX4_readHouse_62 (by decide) ?_
    refine lv_bipush (v := 60) hx hb dX4_readHouse_63 (by decide) ?_
    refine bd_el hf (fun r15 σ13 ho14 hf => ?_)
    refine x_goi h (x_runV (As := [.int 0, .int 60]) (rest := [.int z1, .ref (G.1 14)]) C h (c_X4_readNumber l D G 0 60 σ12 (r15, σ13) ho14 _) lk_X4_79 rfl ⟨rfl, rfl, Nat.le_of_ble_eq_true rfl, Nat.le_of_ble_eq_true rfl⟩ (x_rcv C h 1 (lt_X4 (by decide)) ((oC_X4 G (by decide)) _ _) rfl) hl.1 rfl (Nat.le_of_ble_eq_true rfl) dX4_readHouse_65) (fun H locs h => ?_)
    refine ckb_el hf (fun hin16 hf => ?_)
    refine nm_el hf (fun σ17 hσ17 hf => ?_)
    refine x_iast C h 14 1 (ltA_X5_bed (by decide)) (fun f => (aC_X5_bed G (by decide)) f _) rfl hin16 dX4_readHouse_68 hσ17 (fun H locs h => ?_)
    refine lv_aload_n hx hb dX4_readHouse_69 rfl (lv_at hl 1 rfl) ?_
    refine bv_el hf (fun σ18 ho19 hf => ?_)
    refine x_gov h (x_runV (As := []) (rest := []) C h (c_X4_readEnd l D G σ17 σ18 ho19 _) lk_X4_89 rfl ⟨rfl, rfl, Nat.le_of_ble_eq_true rfl, Nat.le_of_ble_eq_true rfl⟩ (x_rcv C h 1 (lt_X4 (by decide)) ((oC_X4 G (by decide)) _ _) rfl) hl.1 rfl (Nat.le_of_ble_eq_true rfl) dX4_readHouse_70) (fun H locs h => ?_)
    refine lv_aload_n hx hb dX4_readHouse_73 rfl (lv_at hl 1 rfl) ?_
    refine gf_X4_18 C h (by decide) dX4_readHouse_74 ?_
    refine lv_iload_n hx hb dX4_readHouse_77 rfl (lv_at hl 0 rfl) ?_
    refine lv_iconst (v := 1) hx hb dX4_readHouse_78 (by decide) ?_
    refine lv_iadd hx hb dX4_readHouse_79 ?_
    refine nm_el hf (fun σ20 hσ20 hf => ?_)
    refine pf_X4_29 C h (by decide) dX4_readHouse_80 hσ20 (fun H locs h => ?_)
    exact x_vret C hr h hf dX4_readHouse_83
  · have hf := ifF c2 hf
    refine lv_aload_n hx hb dX4_readHouse_13 rfl (lv_at hl 1 rfl) ?_
    refine lv_iconst (v := 3) hx hb dX4_readHouse_14 (by decide) ?_
    refine lv_iload_n hx hb dX4_readHouse_15 rfl (lv_at hl 2 rfl) ?_
    refine bv_el hf (fun σ21 ho22 hf => ?_)
    refine x_gov h (x_runV (As := [.int 3, .int x1]) (rest := []) C h (c_X4_note l D G 3 x1 σ σ21 ho22 _) lk_X4_62 rfl ⟨rfl, rfl, Nat.le_of_ble_eq_true rfl, Nat.le_of_ble_eq_true rfl⟩ (x_rcv C h 1 (lt_X4 (by decide)) ((oC_X4 G (by decide)) _ _) rfl) hl.1 rfl (Nat.le_of_ble_eq_true rfl) dX4_readHouse_16) (fun H locs h => ?_)
    exact x_vret C hr h hf dX4_readHouse_19
def f_X4_readSleeper  (x1 : Int32) (σ : St) : Option (St) := nm (σ.1 11 4) (fun z1 => if z1 < 8 then bd (f_X4_readNumber 0 ((σ.1 11 0) - 1) σ) (fun r5 σ3 => ck (inb z1 8) (nm (sI σ3 15 (z1 : Int32).toNatClampNeg r5) (fun σ7 => bd (f_X4_readNumber 60 600 σ7) (fun r10 σ8 => ck (inb z1 8) (nm (sI σ8 16 (z1 : Int32).toNatClampNeg r10) (fun σ12 => bd (f_X4_readNumber 0 59 σ12) (fun r15 σ13 => ck (inb z1 8) (nm (sI σ13 17 (z1 : Int32).toNatClampNeg r15) (fun σ17 => bd (f_X4_readNumber 0 9 σ17) (fun r20 σ18 => ck (inb z1 8) (nm (sI σ18 18 (z1 : Int32).toNatClampNeg r20) (fun σ22 => bv (f_X4_readEnd σ22) (fun σ23 => nm (sI σ23 11 4 (z1 + 1)) (fun σ25 => some σ25)))))))))))))) else bv (f_X4_note 3 x1 σ) (fun σ26 => some σ26))
set_option maxHeartbeats 4000000 in
theorem c_X4_readSleeper (l : Launch) (D : va_G) (G : Geo)   (x1 : Int32) (σ : St) (o : St) (hf : f_X4_readSleeper  x1 σ = some o) : CV l D (tyG G) (wC G) yX4_readSleeper cX4_readSleeper 3 none ({ frames := 2, cells := 0, slots := 0, locals := 46 }) [.ref (G.1 1), .int x1] σ o := by
  refine met_of (Qc := fun A => QV D (tyG G) (wC G) A o) pn_X4 (Nat.le_of_ble_eq_true rfl) (fun p e s m below meth c A ls C hr h hl => ?_)
  have C : Cx p s m _ meth c cX4_readSleeper 3 RX4 D (tyG G) := C
  have hl : lv_has ls 3 [(0, .ref (G.1 1)), (1, .int x1)] := hl
  unfold f_X4_readSleeper at hf
  have hx := C.1
  have hb := C.2.1
  refine lv_aload_n hx hb dX4_readSleeper_0 rfl (lv_at hl 0 rfl) ?_
  refine gf_X4_18 C h (by decide) dX4_readSleeper_1 ?_
  refine gf_X4_32 C h (by decide) dX4_readSleeper_4 ?_
  refine nm_el hf (fun z1 ez1 hf => ?_)
  refine x_topi ez1 ?_
  refine lv_istore_n (lv' := [(2, .int z1), (0, .ref (G.1 1)), (1, .int x1)]) hx hb dX4_readSleeper_7 rfl hl (by decide) rfl (fun ls hl => ?_)
  refine lv_iload_n hx hb dX4_readSleeper_8 rfl (lv_at hl 0 rfl) ?_
  refine lv_bipush (v := 8) hx hb dX4_readSleeper_9 (by decide) ?_
  refine lv_icmp_lt (tgt := 21) hx hb dX4_readSleeper_11 (by decide) (fun c2 => ?_) (fun c2 => ?_)
  · have hf := ifT c2 hf
    refine lv_aload_n hx hb dX4_readSleeper_21 rfl (lv_at hl 1 rfl) ?_
    refine gf_X4_18 C h (by decide) dX4_readSleeper_22 ?_
    refine gf_X4_92 C h (by decide) dX4_readSleeper_25 ?_
    refine lv_iload_n hx hb dX4_readSleeper_28 rfl (lv_at hl 0 rfl) ?_
    refine lv_aload_n hx hb dX4_readSleeper_29 rfl (lv_at hl 1 rfl) ?_
    refine lv_iconst (v := 0) hx hb dX4_readSleeper_30 (by decide) ?_
    refine lv_aload_n hx hb dX4_readSleeper_31 rfl (lv_at hl 1 rfl) ?_
    refine gf_X4_18 C h (by decide) dX4_readSleeper_32 ?_
    refine gf_X4_29 C h (by decide) dX4_readSleeper_35 ?_
    refine lv_iconst (v := 1) hx hb dX4_readSleeper_38 (by decide) ?_
    refine lv_isub hx hb dX4_readSleeper_39 ?_
    refine bd_el hf (fun r5 σ3 ho4 hf => ?_)
    refine x_goi h (x_runV (As := [.int 0, .int ((σ.1 11 0) - 1)]) (rest := [.int z1, .ref (G.1 15)]) C h (c_X4_readNumber l D G 0 ((σ.1 11 0) - 1) σ (r5, σ3) ho4 _) lk_X4_79 rfl ⟨rfl, rfl, Nat.le_of_ble_eq_true rfl, Nat.le_of_ble_eq_true rfl⟩ (x_rcv C h 1 (lt_X4 (by decide)) ((oC_X4 G (by decide)) _ _) rfl) hl.1 rfl (Nat.le_of_ble_eq_true rfl) dX4_readSleeper_40) (fun H locs h => ?_)
    refine ckb_el hf (fun hin6 hf => ?_)
    refine nm_el hf (fun σ7 hσ7 hf => ?_)
    refine x_iast C h 15 1 (ltA_X5_home (by decide)) (fun f => (aC_X5_home G (by decide)) f _) rfl hin6 dX4_readSleeper_43 hσ7 (fun H locs h => ?_)
    refine lv_aload_n hx hb dX4_readSleeper_44 rfl (lv_at hl 1 rfl) ?_
    refine gf_X4_18 C h (by decide) dX4_readSleeper_45 ?_
    refine gf_X4_95 C h (by decide) dX4_readSleeper_48 ?_
    refine lv_iload_n hx hb dX4_readSleeper_51 rfl (lv_at hl 0 rfl) ?_
    refine lv_aload_n hx hb dX4_readSleeper_52 rfl (lv_at hl 1 rfl) ?_
    refine lv_bipush (v := 60) hx hb dX4_readSleeper_53 (by decide) ?_
    refine lv_sipush (v := 600) hx hb dX4_readSleeper_55 (by decide) ?_
    refine bd_el hf (fun r10 σ8 ho9 hf => ?_)
    refine x_goi h (x_runV (As := [.int 60, .int 600]) (rest := [.int z1, .ref (G.1 16)]) C h (c_X4_readNumber l D G 60 600 σ7 (r10, σ8) ho9 _) lk_X4_79 rfl ⟨rfl, rfl, Nat.le_of_ble_eq_true rfl, Nat.le_of_ble_eq_true rfl⟩ (x_rcv C h 1 (lt_X4 (by decide)) ((oC_X4 G (by decide)) _ _) rfl) hl.1 rfl (Nat.le_of_ble_eq_true rfl) dX4_readSleeper_58) (fun H locs h => ?_)
    refine ckb_el hf (fun hin11 hf => ?_)
    refine nm_el hf (fun σ12 hσ12 hf => ?_)
    refine x_iast C h 16 1 (ltA_X5_wake (by decide)) (fun f => (aC_X5_wake G (by decide)) f _) rfl hin11 dX4_readSleeper_61 hσ12 (fun H locs h => ?_)
    refine lv_aload_n hx hb dX4_readSleeper_62 rfl (lv_at hl 1 rfl) ?_
    refine gf_X4_18 C h (by decide) dX4_readSleeper_63 ?_
    refine gf_X4_98 C h (by decide) dX4_readSleeper_66 ?_
    refine lv_iload_n hx hb dX4_readSleeper_69 rfl (lv_at hl 0 rfl) ?_
    refine lv_aload_n hx hb dX4_readSleeper_70 rfl (lv_at hl 1 rfl) ?_
    refine lv_iconst (v := 0) hx hb dX4_readSleeper_71 (by decide) ?_
    refine lv_bipush (v := 59) hx hb dX4_readSleeper_72 (by decide) ?_
    refine bd_el hf (fun r15 σ13 ho14 hf => ?_)
    refine x_goi h (x_runV (As := [.int 0, .int 59]) (rest := [.int z1, .ref (G.1 17)]) C h (c_X4_readNumber l D G 0 59 σ12 (r15, σ13) ho14 _) lk_X4_79 rfl ⟨rfl, rfl, Nat.le_of_ble_eq_true rfl, Nat.le_of_ble_eq_true rfl⟩ (x_rcv C h 1 (lt_X4 (by decide)) ((oC_X4 G (by decide)) _ _) rfl) hl.1 rfl (Nat.le_of_ble_eq_true rfl) dX4_readSleeper_74) (fun H locs h => ?_)
    refine ckb_el hf (fun hin16 hf => ?_)
    refine nm_el hf (fun σ17 hσ17 hf => ?_)
    refine x_iast C h 17 1 (ltA_X5_span (by decide)) (fun f => (aC_X5_span G (by decide)) f _) rfl hin16 dX4_readSleeper_77 hσ17 (fun H locs h => ?_)
    refine lv_aload_n hx hb dX4_readSleeper_78 rfl (lv_at hl 1 rfl) ?_
    refine gf_X4_18 C h (by decide) dX4_readSleeper_79 ?_
    refine gf_X4_101 C h (by decide) dX4_readSleeper_82 ?_
    refine lv_iload_n hx hb dX4_readSleeper_85 rfl (lv_at hl 0 rfl) ?_
    refine lv_aload_n hx hb dX4_readSleeper_86 rfl (lv_at hl 1 rfl) ?_
    refine lv_iconst (v := 0) hx hb dX4_readSleeper_87 (by decide) ?_
    refine lv_bipush (v := 9) hx hb dX4_readSleeper_88 (by decide) ?_
    refine bd_el hf (fun r20 σ18 ho19 hf => ?_)
    refine x_goi h (x_runV (As := [.int 0, .int 9]) (rest := [.int z1, .ref (G.1 18)]) C h (c_X4_readNumber l D G 0 9 σ17 (r20, σ18) ho19 _) lk_X4_79 rfl ⟨rfl, rfl, Nat.le_of_ble_eq_true rfl, Nat.le_of_ble_eq_true rfl⟩ (x_rcv C h 1 (lt_X4 (by decide)) ((oC_X4 G (by decide)) _ _) rfl) hl.1 rfl (Nat.le_of_ble_eq_true rfl) dX4_readSleeper_90) (fun H locs h => ?_)
    refine ckb_el hf (fun hin21 hf => ?_)
    refine nm_el hf (fun σ22 hσ22 hf => ?_)
    refine x_iast C h 18 1 (ltA_X5_light (by decide)) (fun f => (aC_X5_light G (by decide)) f _) rfl hin21 dX4_readSleeper_93 hσ22 (fun H locs h => ?_)
    refine lv_aload_n hx hb dX4_readSleeper_94 rfl (lv_at hl 1 rfl) ?_
    refine bv_el hf (fun σ23 ho24 hf => ?_)
    refine x_gov h (x_runV (As := []) (rest := []) C h (c_X4_readEnd l D G σ22 σ23 ho24 _) lk_X4_89 rfl ⟨rfl, rfl, Nat.le_of_ble_eq_true rfl, Nat.le_of_ble_eq_true rfl⟩ (x_rcv C h 1 (lt_X4 (by decide)) ((oC_X4 G (by decide)) _ _) rfl) hl.1 rfl (Nat.le_of_ble_eq_true rfl) dX4_readSleeper_95) (fun H locs h => ?_)
    refine lv_aload_n hx hb dX4_readSleeper_98 rfl (lv_at hl 1 rfl) ?_
    refine gf_X4_18 C h (by decide) dX4_readSleeper_99 ?_
    refine lv_iload_n hx hb dX4_readSleeper_102 rfl (lv_at hl 0 rfl) ?_
    refine lv_iconst (v := 1) hx hb dX4_readSleeper_103 (by decide) ?_
    refine lv_iadd hx hb dX4_readSleeper_104 ?_
    refine nm_el hf (fun σ25 hσ25 hf => ?_)
    refine pf_X4_32 C h (by decide) dX4_readSleeper_105 hσ25 (fun H locs h => ?_)
    exact x_vret C hr h hf dX4_readSleeper_108
  · have hf := ifF c2 hf
    refine lv_aload_n hx hb dX4_readSleeper_14 rfl (lv_at hl 1 rfl) ?_
    refine lv_iconst (v := 3) hx hb dX4_readSleeper_15 (by decide) ?_
    refine lv_iload_n hx hb dX4_readSleeper_16 rfl (lv_at hl 2 rfl) ?_
    refine bv_el hf (fun σ26 ho27 hf => ?_)
    refine x_gov h (x_runV (As := [.int 3, .int x1]) (rest := []) C h (c_X4_note l D G 3 x1 σ σ26 ho27 _) lk_X4_62 rfl ⟨rfl, rfl, Nat.le_of_ble_eq_true rfl, Nat.le_of_ble_eq_true rfl⟩ (x_rcv C h 1 (lt_X4 (by decide)) ((oC_X4 G (by decide)) _ _) rfl) hl.1 rfl (Nat.le_of_ble_eq_true rfl) dX4_readSleeper_17) (fun H locs h => ?_)
    exact x_vret C hr h hf dX4_readSleeper_20
