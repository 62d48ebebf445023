variable {p : Program} {l : Launch} {e : Env} {s : State} {m : MethodId} {args : Array Value} {below : List Frame} {meth : Method} {c : Code} {D : va_G} {A : Nat → Prop} {G : Geo}
theorem lk_X8_112 : LkS RX8 112 yX8_in cX8_in 6 ((some .boolean)) 3 := ⟨q171, q172, q5, q173, by decide +kernel, by decide +kernel, by decide +kernel⟩
theorem lk_X8_143 : Lk RX8 143 yX8_here cX8_here 1 ((some .int)) 0 := ⟨q328, q329, q330, q5, q331, by decide +kernel, by decide +kernel, by decide +kernel⟩
theorem lk_X8_170 : Lk RX8 170 yX8_fails cX8_fails 3 ((some .int)) 2 := ⟨q354, q355, q356, q5, q357, by decide +kernel, by decide +kernel, by decide +kernel⟩
theorem lk_X8_180 : Lk RX8 180 yX8_takeNumber cX8_takeNumber 4 ((some .int)) 2 := ⟨q367, q368, q369, q5, q370, by decide +kernel, by decide +kernel, by decide +kernel⟩
theorem lk_X8_186 : Lk RX8 186 yX8_into cX8_into 6 ((some .int)) 4 := ⟨q362, q363, q364, q5, q365, by decide +kernel, by decide +kernel, by decide +kernel⟩
theorem lk_X8_193 : Lk RX8 193 yX8_readWord cX8_readWord 2 none 0 := ⟨q338, q339, q340, q5, q341, by decide +kernel, by decide +kernel, by decide +kernel⟩
theorem lk_X8_196 : LkS RX8 196 yX8_code cX8_code 3 ((some .long)) 3 := ⟨q348, q349, q5, q350, by decide +kernel, by decide +kernel, by decide +kernel⟩
theorem lk_X8_200 : LkS RX8 200 yX8_longer cX8_longer 4 ((some .long)) 3 := ⟨q351, q352, q5, q353, by decide +kernel, by decide +kernel, by decide +kernel⟩
theorem lk_X8_207 : Lk RX8 207 yX8_takeSleeper cX8_takeSleeper 3 ((some .int)) 0 := ⟨q374, q375, q376, q5, q377, by decide +kernel, by decide +kernel, by decide +kernel⟩
theorem lk_X8_204 : Lk RX8 204 yX8_takeHouse cX8_takeHouse 3 ((some .int)) 0 := ⟨q358, q359, q360, q5, q361, by decide +kernel, by decide +kernel, by decide +kernel⟩
theorem lk_X8_210 : Lk RX8 210 yX8_takeClause cX8_takeClause 3 ((some .int)) 0 := ⟨q332, q333, q334, q5, q335, by decide +kernel, by decide +kernel, by decide +kernel⟩
theorem lk_X8_216 : Lk RX8 216 yX8_begin cX8_begin 2 none 0 := ⟨q378, q379, q380, q5, q381, by decide +kernel, by decide +kernel, by decide +kernel⟩
theorem lk_X8_219 : Lk RX8 219 yX8_isHouse cX8_isHouse 2 ((some .boolean)) 1 := ⟨q435, q436, q437, q5, q438, by decide +kernel, by decide +kernel, by decide +kernel⟩
theorem lk_X8_224 : Lk RX8 224 yX8_sleepersOf cX8_sleepersOf 4 ((some .int)) 1 := ⟨q439, q440, q441, q5, q442, by decide +kernel, by decide +kernel, by decide +kernel⟩
theorem lk_X8_228 : Lk RX8 228 yX8_isStartled cX8_isStartled 2 ((some .boolean)) 1 := ⟨q484, q485, q486, q5, q487, by decide +kernel, by decide +kernel, by decide +kernel⟩
theorem lk_X8_231 : Lk RX8 231 yX8_isSleeper cX8_isSleeper 2 ((some .boolean)) 1 := ⟨q472, q473, q474, q5, q475, by decide +kernel, by decide +kernel, by decide +kernel⟩
theorem lk_X8_234 : Lk RX8 234 yX8_firstOf cX8_firstOf 2 ((some .int)) 1 := ⟨q476, q477, q478, q5, q479, by decide +kernel, by decide +kernel, by decide +kernel⟩
theorem lk_X8_237 : Lk RX8 237 yX8_heard cX8_heard 3 ((some .int)) 2 := ⟨q480, q481, q482, q5, q483, by decide +kernel, by decide +kernel, by decide +kernel⟩
theorem lk_X8_240 : Lk RX8 240 yX8_lastOf cX8_lastOf 2 ((some .int)) 1 := ⟨q488, q489, q490, q5, q491, by decide +kernel, by decide +kernel, by decide +kernel⟩
theorem lk_X8_247 : Lk RX8 247 yX8_setNoise cX8_setNoise 4 none 3 := ⟨q519, q520, q521, q5, q522, by decide +kernel, by decide +kernel, by decide +kernel⟩
theorem lk_X8_263 : Lk RX8 263 yX8_draw cX8_draw 2 ((some .int)) 1 := ⟨q590, q591, q592, q5, q593, by decide +kernel, by decide +kernel, by decide +kernel⟩
theorem lk_X8_269 : Lk RX8 269 yX8_dawnNow cX8_dawnNow 5 ((some .int)) 0 := ⟨q586, q587, q588, q5, q589, by decide +kernel, by decide +kernel, by decide +kernel⟩
theorem lk_X8_272 : Lk RX8 272 yX8_laterRaw cX8_laterRaw 5 ((some .int)) 2 := ⟨q639, q640, q641, q5, q642, by decide +kernel, by decide +kernel, by decide +kernel⟩
theorem lk_X8_275 : Lk RX8 275 yX8_later cX8_later 3 ((some .int)) 2 := ⟨q635, q636, q637, q5, q638, by decide +kernel, by decide +kernel, by decide +kernel⟩
theorem lk_X8_280 : Lk RX8 280 yX8_lets cX8_lets 7 ((some .int)) 3 := ⟨q631, q632, q633, q5, q634, by decide +kernel, by decide +kernel, by decide +kernel⟩
theorem lk_X8_284 : Lk RX8 284 yX8_oddsOf cX8_oddsOf 9 ((some .int)) 1 := ⟨q626, q627, q628, q5, q629, by decide +kernel, by decide +kernel, by decide +kernel⟩
theorem lk_X8_287 : LkS RX8 287 yX8_has cX8_has 2 ((some .boolean)) 2 := ⟨q660, q661, q5, q662, by decide +kernel, by decide +kernel, by decide +kernel⟩
theorem lk_X8_291 : Lk RX8 291 yX8_oddsOfHouses cX8_oddsOfHouses 4 ((some .int)) 1 := ⟨q656, q657, q658, q5, q659, by decide +kernel, by decide +kernel, by decide +kernel⟩
theorem lk_X8_294 : Lk RX8 294 yX8_shiftHouse cX8_shiftHouse 4 none 2 := ⟨q698, q699, q700, q5, q701, by decide +kernel, by decide +kernel, by decide +kernel⟩
theorem lk_X8_301 : Lk RX8 301 yX8_bestShift cX8_bestShift 10 ((some .int)) 1 := ⟨q694, q695, q696, q5, q697, by decide +kernel, by decide +kernel, by decide +kernel⟩
theorem lk_X8_304 : Lk RX8 304 yX8_roundChanges cX8_roundChanges 5 ((some .boolean)) 0 := ⟨q736, q737, q738, q5, q739, by decide +kernel, by decide +kernel, by decide +kernel⟩
theorem lk_X8_308 : Lk RX8 308 yX8_leastOf cX8_leastOf 4 ((some .int)) 1 := ⟨q740, q741, q742, q5, q743, by decide +kernel, by decide +kernel, by decide +kernel⟩
theorem lk_X8_313 : Lk RX8 313 yX8_startWork cX8_startWork 3 none 1 := ⟨q788, q789, q790, q5, q791, by decide +kernel, by decide +kernel, by decide +kernel⟩
theorem lk_X8_317 : Lk RX8 317 yX8_workDay cX8_workDay 9 none 2 := ⟨q792, q793, q794, q5, q795, by decide +kernel, by decide +kernel, by decide +kernel⟩
theorem lk_X8_325 : Lk RX8 325 yX8_isLie cX8_isLie 6 ((some .boolean)) 1 := ⟨q847, q848, q849, q5, q850, by decide +kernel, by decide +kernel, by decide +kernel⟩
theorem lk_X8_328 : Lk RX8 328 yX8_isHonest cX8_isHonest 4 ((some .boolean)) 1 := ⟨q870, q871, q872, q5, q873, by decide +kernel, by decide +kernel, by decide +kernel⟩
def f_X8_in  (x0 : Int64) (x2 : Int64) (x4 : Int64) (σ : St) : Option (Int32 × St) := if (lg_cmp x0 x2) < 0 then some (0, σ) else if (0 : Int32) < (lg_cmp x0 x4) then some (0, σ) else some (1, σ)
set_option maxHeartbeats 4000000 in
theorem c_X8_in (l : Launch) (D : va_G) (G : Geo)   (x0 : Int64) (x2 : Int64) (x4 : Int64) (σ : St) (o : Int32 × St) (hf : f_X8_in  x0 x2 x4 σ = some o) : CI l D (tyG G) (wM G) yX8_in cX8_in 6 ((some .boolean)) ({ frames := 0, cells := 0, slots := 0, locals := 0 }) [.long x0, .long x2, .long x4] σ o := by
  refine met_of (Qc := fun A => QI D (tyG G) (wM G) A o) pn_X8 (Nat.le_of_ble_eq_true rfl) (fun p e s m below meth c A ls C hr h hl => ?_)
  have C : Cx p s m _ meth c cX8_in 6 RX8 D (tyG G) := C
  have hl : lv_has ls 6 [(0, .long x0), (2, .long x2), (4, .long x4)] := hl
  unfold f_X8_in at hf
  have hx := C.1
  have hb := C.2.1
  refine lv_lload_n hx hb dX8_in_0 rfl (lv_at hl 0 rfl) ?_
  refine lv_lload_n hx hb dX8_in_1 rfl (lv_at hl 1 rfl) ?_
  refine W.lcmp hx hb dX8_in_2 ?_
  refine lv_if_lt (tgt := 17) hx hb dX8_in_3 (by decide) (fun c1 => ?_) (fun c1 => ?_)
  · have hf := ifT c1 hf
    refine lv_iconst (v := 0) hx hb dX8_in_17 (by decide) ?_
    exact x_zret C hr h rfl hf dX8_in_18
  · have hf := ifF c1 hf
    refine lv_lload_n hx hb dX8_in_6 rfl (lv_at hl 0 rfl) ?_
    refine lv_lload hx hb dX8_in_7 (lv_at hl 2 rfl) ?_
    refine W.lcmp hx hb dX8_in_9 ?_
    refine lv_if_gt (tgt := 17) hx hb dX8_in_10 (by decide) (fun c2 => ?_) (fun c2 => ?_)
    · have hf := ifT c2 hf
      refine lv_iconst (v := 0) hx hb dX8_in_17 (by decide) ?_
      exact x_zret C hr h rfl hf dX8_in_18
    · have hf := ifF c2 hf
      refine lv_iconst (v := 1) hx hb dX8_in_13 (by decide) ?_
      refine lv_goto (tgt := 18) hx hb dX8_in_14 (by decide) ?_
      exact x_zret C hr h rfl hf dX8_in_18
def f_X8_has  (x0 : Int32) (x1 : Int32) (σ : St) : Option (Int32 × St) := if ((x0 >>> (x1 &&& 31)) &&& 1) = 1 then some (1, σ) else some (0, σ)
set_option maxHeartbeats 4000000 in
theorem c_X8_has (l : Launch) (D : va_G) (G : Geo)   (x0 : Int32) (x1 : Int32) (σ : St) (o : Int32 × St) (hf : f_X8_has  x0 x1 σ = some o) : CI l D (tyG G) (wM G) yX8_has cX8_has 2 ((some .boolean)) ({ frames := 0, cells := 0, slots := 0, locals := 0 }) [.int x0, .int x1] σ o := by
  refine met_of (Qc := fun A => QI D (tyG G) (wM G) A o) pn_X8 (Nat.le_of_ble_eq_true rfl) (fun p e s m below meth c A ls C hr h hl => ?_)
  have C : Cx p s m _ meth c cX8_has 2 RX8 D (tyG G) := C
  have hl : lv_has ls 2 [(0, .int x0), (1, .int x1)] := hl
  unfold f_X8_has at hf
  have hx := C.1
  have hb := C.2.1
  refine lv_iload_n hx hb dX8_has_0 rfl (lv_at hl 0 rfl) ?_
  refine lv_iload_n hx hb dX8_has_1 rfl (lv_at hl 1 rfl) ?_
  refine lv_ishr hx hb dX8_has_2 ?_
  refine lv_iconst (v := 1) hx hb dX8_has_3 (by decide) ?_
  refine lv_iand hx hb dX8_has_4 ?_
  refine lv_iconst (v := 1) hx hb dX8_has_5 (by decide) ?_
  refine lv_icmp_ne (tgt := 13) hx hb dX8_has_6 (by decide) (fun c1 => ?_) (fun c1 => ?_)
  · have hf := ifF c1 hf
    refine lv_iconst (v := 0) hx hb dX8_has_13 (by decide) ?_
    exact x_zret C hr h rfl hf dX8_has_14
  · have hf := ifT c1 hf
    refine lv_iconst (v := 1) hx hb dX8_has_9 (by decide) ?_
    refine lv_goto (tgt := 14) hx hb dX8_has_10 (by decide) ?_
    exact x_zret C hr h rfl hf dX8_has_14
def f_X8_isHouse  (x1 : Int32) (σ : St) : Option (Int32 × St) := bd (f_X8_in x1.toInt64 0 (((σ.1 0 0) - 1 : Int32).toInt64) σ) (fun r3 σ1 => ck (bz r3) (some (r3, σ1)))
set_option maxHeartbeats 4000000 in
theorem c_X8_isHouse (l : Launch) (D : va_G) (G : Geo)   (x1 : Int32) (σ : St) (o : Int32 × St) (hf : f_X8_isHouse  x1 σ = some o) : CI l D (tyG G) (wM G) yX8_isHouse cX8_isHouse 2 ((some .boolean)) ({ frames := 1, cells := 0, slots := 0, locals := 25 }) [.ref (G.1 0), .int x1] σ o := by
  refine met_of (Qc := fun A => QI D (tyG G) (wM G) A o) pn_X8 (Nat.le_of_ble_eq_true rfl) (fun p e s m below meth c A ls C hr h hl => ?_)
  have C : Cx p s m _ meth c cX8_isHouse 2 RX8 D (tyG G) := C
  have hl : lv_has ls 2 [(0, .ref (G.1 0)), (1, .int x1)] := hl
  unfold f_X8_isHouse at hf
  have hx := C.1
  have hb := C.2.1
  refine lv_iload_n hx hb dX8_isHouse_0 rfl (lv_at hl 1 rfl) ?_
  refine lv_i2l (v := x1.toInt64) hx hb dX8_isHouse_1 rfl ?_
  refine lv_lconst (v := 0) hx hb dX8_isHouse_2 (by decide) ?_
  refine lv_aload_n hx hb dX8_isHouse_3 rfl (lv_at hl 0 rfl) ?_
  refine gf_X8_109 C h dX8_isHouse_4 ?_
  refine lv_iconst (v := 1) hx hb dX8_isHouse_7 (by decide) ?_
  refine lv_isub hx hb dX8_isHouse_8 ?_
  refine lv_i2l (v := ((σ.1 0 0) - 1 : Int32).toInt64) hx hb dX8_isHouse_9 rfl ?_
  refine bd_el hf (fun r3 σ1 ho2 hf => ?_)
  refine x_goi h (x_runS (As := [.long x1.toInt64, .long 0, .long (((σ.1 0 0) - 1 : Int32).toInt64)]) (rest := []) C h (c_X8_in l D G x1.toInt64 0 (((σ.1 0 0) - 1 : Int32).toInt64) σ (r3, σ1) ho2 _) lk_X8_112 rfl ⟨rfl, rfl, Nat.le_of_ble_eq_true rfl, Nat.le_of_ble_eq_true rfl⟩ hl.1 rfl (Nat.le_of_ble_eq_true rfl) dX8_isHouse_10) (fun H locs h => ?_)
  refine ck_el hf (fun hz hf => ?_)
  exact x_zret C hr h hz hf dX8_isHouse_13
def f_X8_isSleeper  (x1 : Int32) (σ : St) : Option (Int32 × St) := bd (f_X8_in x1.toInt64 0 (((σ.1 0 4) - 1 : Int32).toInt64) σ) (fun r3 σ1 => ck (bz r3) (some (r3, σ1)))
set_option maxHeartbeats 4000000 in
theorem c_X8_isSleeper (l : Launch) (D : va_G) (G : Geo)   (x1 : Int32) (σ : St) (o : Int32 × St) (hf : f_X8_isSleeper  x1 σ = some o) : CI l D (tyG G) (wM G) yX8_isSleeper cX8_isSleeper 2 ((some .boolean)) ({ frames := 1, cells := 0, slots := 0, locals := 25 }) [.ref (G.1 0), .int x1] σ o := by
  refine met_of (Qc := fun A => QI D (tyG G) (wM G) A o) pn_X8 (Nat.le_of_ble_eq_true rfl) (fun p e s m below meth c A ls C hr h hl => ?_)
  have C : Cx p s m _ meth c cX8_isSleeper 2 RX8 D (tyG G) := C
  have hl : lv_has ls 2 [(0, .ref (G.1 0)), (1, .int x1)] := hl
  unfold f_X8_isSleeper at hf
  have hx := C.1
  have hb := C.2.1
  refine lv_iload_n hx hb dX8_isSleeper_0 rfl (lv_at hl 1 rfl) ?_
  refine lv_i2l (v := x1.toInt64) hx hb dX8_isSleeper_1 rfl ?_
  refine lv_lconst (v := 0) hx hb dX8_isSleeper_2 (by decide) ?_
  refine lv_aload_n hx hb dX8_isSleeper_3 rfl (lv_at hl 0 rfl) ?_
  refine gf_X8_116 C h dX8_isSleeper_4 ?_
  refine lv_iconst (v := 1) hx hb dX8_isSleeper_7 (by decide) ?_
  refine lv_isub hx hb dX8_isSleeper_8 ?_
  refine lv_i2l (v := ((σ.1 0 4) - 1 : Int32).toInt64) hx hb dX8_isSleeper_9 rfl ?_
  refine bd_el hf (fun r3 σ1 ho2 hf => ?_)
  refine x_goi h (x_runS (As := [.long x1.toInt64, .long 0, .long (((σ.1 0 4) - 1 : Int32).toInt64)]) (rest := []) C h (c_X8_in l D G x1.toInt64 0 (((σ.1 0 4) - 1 : Int32).toInt64) σ (r3, σ1) ho2 _) lk_X8_112 rfl ⟨rfl, rfl, Nat.le_of_ble_eq_true rfl, Nat.le_of_ble_eq_true rfl⟩ hl.1 rfl (Nat.le_of_ble_eq_true rfl) dX8_isSleeper_10) (fun H locs h => ?_)
  refine ck_el hf (fun hz hf => ?_)
  exact x_zret C hr h hz hf dX8_isSleeper_13
def b_X8_begin_48   (rec48 : Int32 × St → Option (St)) (x1 : Int32) (σ : St) : Option (St) := if (5 : Int32) ≤ x1 then nm (sI σ 0 17 0) (fun σ10 => nm (sI σ10 0 18 0) (fun σ11 => some σ11)) else ck (inb x1 5) (nm (sI σ 9 (x1 : Int32).toNatClampNeg 0) (fun σ13 => ck (inb x1 5) (nm (sI σ13 10 (x1 : Int32).toNatClampNeg 0) (fun σ15 => rec48 (x1 + 1, σ15)))))
def f_X8_begin_48   (x1 : Int32) (σ : St) : Option (St) := lp (fun (rec48 : Int32 × St → Option (St)) (q : Int32 × St) => b_X8_begin_48   rec48 (q.1) (q.2)) 100000 (x1, σ)
set_option maxHeartbeats 4000000 in
theorem t_X8_begin_48 (C : Cx p s m args meth c cX8_begin 2 RX8 D (tyG G)) (hr : meth.sig.returnType = none) {o : St}   : ∀ (x1 : Int32) (σ : St) (H : Heap) (locs : List Loc) (ls : Array Slot), Hs D A s.heap (wM G σ) H locs → lv_has ls 2 [(0, .ref (G.1 0)), (1, .int x1)] → f_X8_begin_48   x1 σ = some o → W p l e ({ frames := 0, cells := 0, slots := 0, locals := 0 } : Room) s m args below meth c H locs 0 0 (MQ below (QV D (tyG G) (wM G) A o) args s 0 0 A) (F0 m 48 ls []) := by
  intro x1 σ H locs ls h hl hf
  refine lp_el (P := fun q : Int32 × St => ∀ (H : Heap) (locs : List Loc) (ls : Array Slot), Hs D A s.heap (wM G (q.2)) H locs → lv_has ls 2 [(0, .ref (G.1 0)), (1, .int (q.1))] → W p l e ({ frames := 0, cells := 0, slots := 0, locals := 0 } : Room) s m args below meth c H locs 0 0 (MQ below (QV D (tyG G) (wM G) A o) args s 0 0 A) (F0 m 48 ls [])) (fun rec48 q IH48 hf => ?_) _ (x1, σ) hf H locs ls h hl
  obtain ⟨x1, σ⟩ := q
  intro H locs ls h hl
  have hl : lv_has ls 2 [(0, .ref (G.1 0)), (1, .int x1)] := hl
  have h : Hs D A s.heap (wM G σ) H locs := h
  have hf : b_X8_begin_48   rec48 x1 σ = some o := hf
  unfold b_X8_begin_48 at hf
  have hx := C.1
  have hb := C.2.1
  refine lv_iload_n hx hb dX8_begin_48 rfl (lv_at hl 1 rfl) ?_
  refine lv_iconst (v := 5) hx hb dX8_begin_49 (by decide) ?_
  refine lv_icmp_ge (tgt := 73) hx hb dX8_begin_50 (by decide) (fun c9 => ?_) (fun c9 => ?_)
  · have hf := ifT c9 hf
    refine lv_aload_n hx hb dX8_begin_73 rfl (lv_at hl 0 rfl) ?_
    refine lv_iconst (v := 0) hx hb dX8_begin_74 (by decide) ?_
    refine nm_el hf (fun σ10 hσ10 hf => ?_)
    refine pf_X8_125 C h dX8_begin_75 hσ10 (fun H locs h => ?_)
    refine lv_aload_n hx hb dX8_begin_78 rfl (lv_at hl 0 rfl) ?_
    refine lv_iconst (v := 0) hx hb dX8_begin_79 (by decide) ?_
    refine nm_el hf (fun σ11 hσ11 hf => ?_)
    refine pf_X8_128 C h dX8_begin_80 hσ11 (fun H locs h => ?_)
    exact x_vret C hr h hf dX8_begin_83
  · have hf := ifF c9 hf
    refine lv_aload_n hx hb dX8_begin_53 rfl (lv_at hl 0 rfl) ?_
    refine gf_X8_44 C h dX8_begin_54 ?_
    refine lv_iload_n hx hb dX8_begin_57 rfl (lv_at hl 1 rfl) ?_
    refine lv_iconst (v := 0) hx hb dX8_begin_58 (by decide) ?_
    refine ckb_el hf (fun hin12 hf => ?_)
    refine nm_el hf (fun σ13 hσ13 hf => ?_)
    refine x_iast C h 9 1 (by decide) (fun f => aM_9 G f _) rfl hin12 dX8_begin_59 hσ13 (fun H locs h => ?_)
    refine lv_aload_n hx hb dX8_begin_60 rfl (lv_at hl 0 rfl) ?_
    refine gf_X8_47 C h dX8_begin_61 ?_
    refine lv_iload_n hx hb dX8_begin_64 rfl (lv_at hl 1 rfl) ?_
    refine lv_iconst (v := 0) hx hb dX8_begin_65 (by decide) ?_
    refine ckb_el hf (fun hin14 hf => ?_)
    refine nm_el hf (fun σ15 hσ15 hf => ?_)
    refine x_iast C h 10 1 (by decide) (fun f => aM_10 G f _) rfl hin14 dX8_begin_66 hσ15 (fun H locs h => ?_)
    refine lv_iinc (v := x1 + 1) (lv' := [(1, .int (x1 + 1)), (0, .ref (G.1 0))]) hx hb dX8_begin_67 hl (k := 1) rfl rfl (by decide) rfl (fun ls hl => ?_)
    refine lv_goto (tgt := 48) hx hb dX8_begin_70 (by decide) ?_
    exact IH48 (x1 + 1, σ15) hf _ _ _ h (lv_sub hl [1, 0] rfl)
def b_X8_begin_2   (rec2 : Int32 × St → Option (St)) (x1 : Int32) (σ : St) : Option (St) := if (8 : Int32) ≤ x1 then nm (sI σ 0 10 ((-1))) (fun σ2 => nm (sI σ2 0 11 ((-1))) (fun σ3 => nm (sI σ3 0 12 ((-1))) (fun σ4 => nm (sI σ4 0 13 0) (fun σ5 => nm (sI σ5 0 14 0) (fun σ6 => f_X8_begin_48 0 σ6))))) else ck (inb x1 8) (nm (sI σ 8 (x1 : Int32).toNatClampNeg 0) (fun σ8 => rec2 (x1 + 1, σ8)))
def f_X8_begin_2   (x1 : Int32) (σ : St) : Option (St) := lp (fun (rec2 : Int32 × St → Option (St)) (q : Int32 × St) => b_X8_begin_2   rec2 (q.1) (q.2)) 100000 (x1, σ)
set_option maxHeartbeats 4000000 in
theorem t_X8_begin_2 (C : Cx p s m args meth c cX8_begin 2 RX8 D (tyG G)) (hr : meth.sig.returnType = none) {o : St}   : ∀ (x1 : Int32) (σ : St) (H : Heap) (locs : List Loc) (ls : Array Slot), Hs D A s.heap (wM G σ) H locs → lv_has ls 2 [(0, .ref (G.1 0)), (1, .int x1)] → f_X8_begin_2   x1 σ = some o → W p l e ({ frames := 0, cells := 0, slots := 0, locals := 0 } : Room) s m args below meth c H locs 0 0 (MQ below (QV D (tyG G) (wM G) A o) args s 0 0 A) (F0 m 2 ls []) := by
  intro x1 σ H locs ls h hl hf
  refine lp_el (P := fun q : Int32 × St => ∀ (H : Heap) (locs : List Loc) (ls : Array Slot), Hs D A s.heap (wM G (q.2)) H locs → lv_has ls 2 [(0, .ref (G.1 0)), (1, .int (q.1))] → W p l e ({ frames := 0, cells := 0, slots := 0, locals := 0 } : Room) s m args below meth c H locs 0 0 (MQ below (QV D (tyG G) (wM G) A o) args s 0 0 A) (F0 m 2 ls [])) (fun rec2 q IH2 hf => ?_) _ (x1, σ) hf H locs ls h hl
  obtain ⟨x1, σ⟩ := q
  intro H locs ls h hl
  have hl : lv_has ls 2 [(0, .ref (G.1 0)), (1, .int x1)] := hl
  have h : Hs D A s.heap (wM G σ) H locs := h
  have hf : b_X8_begin_2   rec2 x1 σ = some o := hf
  unfold b_X8_begin_2 at hf
  have hx := C.1
  have hb := C.2.1
  refine lv_iload_n hx hb dX8_begin_2 rfl (lv_at hl 1 rfl) ?_
  refine lv_bipush (v := 8) hx hb dX8_begin_3 (by decide) ?_
  refine lv_icmp_ge (tgt := 21) hx hb dX8_begin_5 (by decide) (fun c1 => ?_) (fun c1 => ?_)
  · have hf := ifT c1 hf
    refine lv_aload_n hx hb dX8_begin_21 rfl (lv_at hl 0 rfl) ?_
    refine lv_iconst (v := (-1)) hx hb dX8_begin_22 (by decide) ?_
    refine nm_el hf (fun σ2 hσ2 hf => ?_)
    refine pf_X8_34 C h dX8_begin_23 hσ2 (fun H locs h => ?_)
    refine lv_aload_n hx hb dX8_begin_26 rfl (lv_at hl 0 rfl) ?_
    refine lv_iconst (v := (-1)) hx hb dX8_begin_27 (by decide) ?_
    refine nm_el hf (fun σ3 hσ3 hf => ?_)
    refine pf_X8_38 C h dX8_begin_28 hσ3 (fun H locs h => ?_)
    refine lv_aload_n hx hb dX8_begin_31 rfl (lv_at hl 0 rfl) ?_
    refine lv_iconst (v := (-1)) hx hb dX8_begin_32 (by decide) ?_
    refine nm_el hf (fun σ4 hσ4 hf => ?_)
    refine pf_X8_41 C h dX8_begin_33 hσ4 (fun H locs h => ?_)
    refine lv_aload_n hx hb dX8_begin_36 rfl (lv_at hl 0 rfl) ?_
    refine lv_iconst (v := 0) hx hb dX8_begin_37 (by decide) ?_
    refine nm_el hf (fun σ5 hσ5 hf => ?_)
    refine pf_X8_119 C h dX8_begin_38 hσ5 (fun H locs h => ?_)
    refine lv_aload_n hx hb dX8_begin_41 rfl (lv_at hl 0 rfl) ?_
    refine lv_iconst (v := 0) hx hb dX8_begin_42 (by decide) ?_
    refine nm_el hf (fun σ6 hσ6 hf => ?_)
    refine pf_X8_122 C h dX8_begin_43 hσ6 (fun H locs h => ?_)
    refine lv_iconst (v := 0) hx hb dX8_begin_46 (by decide) ?_
    refine lv_istore_n (lv' := [(1, .int 0), (0, .ref (G.1 0))]) hx hb dX8_begin_47 rfl hl (by decide) rfl (fun ls hl => ?_)
    exact t_X8_begin_48 C hr 0 σ6 _ _ _ h (lv_sub hl [1, 0] rfl) hf
  · have hf := ifF c1 hf
    refine lv_aload_n hx hb dX8_begin_8 rfl (lv_at hl 0 rfl) ?_
    refine gf_X8_31 C h dX8_begin_9 ?_
    refine lv_iload_n hx hb dX8_begin_12 rfl (lv_at hl 1 rfl) ?_
    refine lv_iconst (v := 0) hx hb dX8_begin_13 (by decide) ?_
    refine ckb_el hf (fun hin7 hf => ?_)
    refine nm_el hf (fun σ8 hσ8 hf => ?_)
    refine x_iast C h 8 1 (by decide) (fun f => aM_8 G f _) rfl hin7 dX8_begin_14 hσ8 (fun H locs h => ?_)
    refine lv_iinc (v := x1 + 1) (lv' := [(1, .int (x1 + 1)), (0, .ref (G.1 0))]) hx hb dX8_begin_15 hl (k := 1) rfl rfl (by decide) rfl (fun ls hl => ?_)
    refine lv_goto (tgt := 2) hx hb dX8_begin_18 (by decide) ?_
    exact IH2 (x1 + 1, σ8) hf _ _ _ h (lv_sub hl [1, 0] rfl)
def f_X8_begin   (σ : St) : Option (St) := f_X8_begin_2 0 σ
set_option maxHeartbeats 4000000 in
theorem c_X8_begin (l : Launch) (D : va_G) (G : Geo)    (σ : St) (o : St) (hf : f_X8_begin   σ = some o) : CV l D (tyG G) (wM G) yX8_begin cX8_begin 2 none ({ frames := 0, cells := 0, slots := 0, locals := 0 }) [.ref (G.1 0)] σ o := by
  refine met_of (Qc := fun A => QV D (tyG G) (wM G) A o) pn_X8 (Nat.le_of_ble_eq_true rfl) (fun p e s m below meth c A ls C hr h hl => ?_)
  have C : Cx p s m _ meth c cX8_begin 2 RX8 D (tyG G) := C
  have hl : lv_has ls 2 [(0, .ref (G.1 0))] := hl
  unfold f_X8_begin at hf
  have hx := C.1
  have hb := C.2.1
  refine lv_iconst (v := 0) hx hb dX8_begin_0 (by decide) ?_
  refine lv_istore_n (lv' := [(1, .int 0), (0, .ref (G.1 0))]) hx hb dX8_begin_1 rfl hl (by decide) rfl (fun ls hl => ?_)
  exact t_X8_begin_2 C hr 0 σ _ _ _ h (lv_sub hl [1, 0] rfl) hf
def b_X8_feed_35   (rec35 : Int64 × Int32 × St → Option (Int32 × St)) (x2 : Int64) (x4 : Int32) (σ : St) : Option (Int32 × St) := if x4 < 0 then some (σ.1 0 23, σ) else ck (inb (σ.1 0 23) 400) (nm (sI σ 13 (σ.1 0 23 : Int32).toNatClampNeg (((x2 >>> ((8 * x4).toInt64 &&& 63)) &&& 255 : Int64).toInt32)) (fun σ9 => nm (sI σ9 0 23 ((σ9.1 0 23) + 1)) (fun σ10 => rec35 (x2, x4 + (-1), σ10))))
def f_X8_feed_35   (x2 : Int64) (x4 : Int32) (σ : St) : Option (Int32 × St) := lp (fun (rec35 : Int64 × Int32 × St → Option (Int32 × St)) (q : Int64 × Int32 × St) => b_X8_feed_35   rec35 (q.1) (q.2.1) (q.2.2)) 100000 (x2, x4, σ)
set_option maxHeartbeats 4000000 in
theorem t_X8_feed_35 (C : Cx p s m args meth c cX8_feed 5 RX8 D (tyG G)) (hr : meth.sig.returnType = (some .int)) {o : Int32 × St}   : ∀ (x2 : Int64) (x4 : Int32) (σ : St) (H : Heap) (locs : List Loc) (ls : Array Slot), Hs D A s.heap (wM G σ) H locs → lv_has ls 5 [(0, .ref (G.1 0)), (2, .long x2), (4, .int x4)] → f_X8_feed_35   x2 x4 σ = some o → W p l e ({ frames := 1, cells := 0, slots := 0, locals := 25 } : Room) s m args below meth c H locs 0 0 (MQ below (QI D (tyG G) (wM G) A o) args s 0 0 A) (F0 m 35 ls []) := by
  intro x2 x4 σ H locs ls h hl hf
  refine lp_el (P := fun q : Int64 × Int32 × St => ∀ (H : Heap) (locs : List Loc) (ls : Array Slot), Hs D A s.heap (wM G (q.2.2)) H locs → lv_has ls 5 [(0, .ref (G.1 0)), (2, .long (q.1)), (4, .int (q.2.1))] → W p l e ({ frames := 1, cells := 0, slots := 0, locals := 25 } : Room) s m args below meth c H locs 0 0 (MQ below (QI D (tyG G) (wM G) A o) args s 0 0 A) (F0 m 35 ls [])) (fun rec35 q IH35 hf => ?_) _ (x2, x4, σ) hf H locs ls h hl
  obtain ⟨x2, x4, σ⟩ := q
  intro H locs ls h hl
  have hl : lv_has ls 5 [(0, .ref (G.1 0)), (2, .long x2), (4, .int x4)] := hl
  have h : Hs D A s.heap (wM G σ) H locs := h
  have hf : b_X8_feed_35   rec35 x2 x4 σ = some o := hf
  unfold b_X8_feed_35 at hf
  have hx := C.1
  have hb := C.2.1
  refine lv_iload hx hb dX8_feed_35 (lv_at hl 2 rfl) ?_
  refine lv_if_lt (tgt := 77) hx hb dX8_feed_37 (by decide) (fun c7 => ?_) (fun c7 => ?_)
  · have hf := ifT c7 hf
    refine lv_aload_n hx hb dX8_feed_77 rfl (lv_at hl 0 rfl) ?_
    refine gf_X8_134 C h dX8_feed_78 ?_
    exact x_iret C hr h hf dX8_feed_81
  · have hf := ifF c7 hf
    refine lv_aload_n hx hb dX8_feed_40 rfl (lv_at hl 0 rfl) ?_
    refine gf_X8_56 C h dX8_feed_41 ?_
    refine lv_aload_n hx hb dX8_feed_44 rfl (lv_at hl 0 rfl) ?_
    refine gf_X8_134 C h dX8_feed_45 ?_
    refine lv_lload_n hx hb dX8_feed_48 rfl (lv_at hl 1 rfl) ?_
    refine lv_bipush (v := 8) hx hb dX8_feed_49 (by decide) ?_
    refine lv_iload hx hb dX8_feed_51 (lv_at hl 2 rfl) ?_
    refine lv_imul hx hb dX8_feed_53 ?_
    refine lv_lshr (v := x2 >>> ((8 * x4).toInt64 &&& 63)) hx hb dX8_feed_54 rfl ?_
    refine lv_ldc2 (v := 255) hx hb C.2.2.2.1 (C.2.2.2.2.1 _ q170) dX8_feed_55 ?_
    refine lv_land hx hb dX8_feed_58 ?_
    refine lv_l2i (v := ((x2 >>> ((8 * x4).toInt64 &&& 63)) &&& 255 : Int64).toInt32) hx hb dX8_feed_59 rfl ?_
    refine ckb_el hf (fun hin8 hf => ?_)
    refine nm_el hf (fun σ9 hσ9 hf => ?_)
    refine x_iast C h 13 1 (by decide) (fun f => aM_13 G f _) rfl hin8 dX8_feed_60 hσ9 (fun H locs h => ?_)
    refine lv_aload_n hx hb dX8_feed_61 rfl (lv_at hl 0 rfl) ?_
    refine lv_dup hx hb dX8_feed_62 rfl ?_
    refine gf_X8_134 C h dX8_feed_63 ?_
    refine lv_iconst (v := 1) hx hb dX8_feed_66 (by decide) ?_
    refine lv_iadd hx hb dX8_feed_67 ?_
    refine nm_el hf (fun σ10 hσ10 hf => ?_)
    refine pf_X8_134 C h dX8_feed_68 hσ10 (fun H locs h => ?_)
    refine lv_iinc (v := x4 + (-1)) (lv' := [(4, .int (x4 + (-1))), (0, .ref (G.1 0)), (2, .long x2)]) hx hb dX8_feed_71 hl (k := 2) rfl rfl (by decide) rfl (fun ls hl => ?_)
    refine lv_goto (tgt := 35) hx hb dX8_feed_74 (by decide) ?_
    exact IH35 (x2, x4 + (-1), σ10) hf _ _ _ h (lv_sub hl [1, 2, 0] rfl)
def f_X8_feed  (x1 : Int32) (x2 : Int64) (σ : St) : Option (Int32 × St) := bd (f_X8_in x1.toInt64 1 8 σ) (fun r3 σ1 => if r3 = 0 then some ((-1000000002), σ1) else if ((σ1.1 0 23) + x1) ≤ 400 then nm (x1 - 1) (fun z6 => f_X8_feed_35 x2 z6 σ1) else some ((-1000000004), σ1))
set_option maxHeartbeats 4000000 in
theorem c_X8_feed (l : Launch) (D : va_G) (G : Geo)   (x1 : Int32) (x2 : Int64) (σ : St) (o : Int32 × St) (hf : f_X8_feed  x1 x2 σ = some o) : CI l D (tyG G) (wM G) yX8_feed cX8_feed 5 ((some .int)) ({ frames := 1, cells := 0, slots := 0, locals := 25 }) [.ref (G.1 0), .int x1, .long x2] σ o := by
  refine met_of (Qc := fun A => QI D (tyG G) (wM G) A o) pn_X8 (Nat.le_of_ble_eq_true rfl) (fun p e s m below meth c A ls C hr h hl => ?_)
  have C : Cx p s m _ meth c cX8_feed 5 RX8 D (tyG G) := C
  have hl : lv_has ls 5 [(0, .ref (G.1 0)), (1, .int x1), (2, .long x2)] := hl
  unfold f_X8_feed at hf
  have hx := C.1
  have hb := C.2.1
  refine lv_iload_n hx hb dX8_feed_0 rfl (lv_at hl 1 rfl) ?_
  refine lv_i2l (v := x1.toInt64) hx hb dX8_feed_1 rfl ?_
  refine lv_lconst (v := 1) hx hb dX8_feed_2 (by decide) ?_
  refine lv_ldc2 (v := 8) hx hb C.2.2.2.1 (C.2.2.2.2.1 _ q166) dX8_feed_3 ?_
  refine bd_el hf (fun r3 σ1 ho2 hf => ?_)
  refine x_goi h (x_runS (As := [.long x1.toInt64, .long 1, .long 8]) (rest := []) C h (c_X8_in l D G x1.toInt64 1 8 σ (r3, σ1) ho2 _) lk_X8_112 rfl ⟨rfl, rfl, Nat.le_of_ble_eq_true rfl, Nat.le_of_ble_eq_true rfl⟩ hl.1 rfl (Nat.le_of_ble_eq_true rfl) dX8_feed_6) (fun H locs h => ?_)
  refine lv_if_ne (tgt := 15) hx hb dX8_feed_9 (by decide) (fun c4 => ?_) (fun c4 => ?_)
  · have hf := ifF c4 hf
    refine lv_aload_n hx hb dX8_feed_15 rfl (lv_at hl 0 rfl) ?_
    refine gf_X8_134 C h dX8_feed_16 ?_
    refine lv_iload_n hx hb dX8_feed_19 rfl (lv_at hl 1 rfl) ?_
    refine lv_iadd hx hb dX8_feed_20 ?_
    refine lv_sipush (v := 400) hx hb dX8_feed_21 (by decide) ?_
    refine lv_icmp_le (tgt := 30) hx hb dX8_feed_24 (by decide) (fun c5 => ?_) (fun c5 => ?_)
    · have hf := ifT c5 hf
      refine lv_iload_n hx hb dX8_feed_30 rfl (lv_at hl 1 rfl) ?_
      refine lv_iconst (v := 1) hx hb dX8_feed_31 (by decide) ?_
      refine lv_isub hx hb dX8_feed_32 ?_
      refine nm_el hf (fun z6 ez6 hf => ?_)
      refine x_topi ez6 ?_
      refine lv_istore (lv' := [(4, .int z6), (0, .ref (G.1 0)), (1, .int x1), (2, .long x2)]) hx hb dX8_feed_33 hl (by decide) rfl (fun ls hl => ?_)
      exact t_X8_feed_35 C hr x2 z6 σ1 _ _ _ h (lv_sub hl [1, 3, 0] rfl) hf
    · have hf := ifF c5 hf
      refine lv_ldc (v := (-1000000004)) hx hb C.2.2.2.1 (C.2.2.2.2.1 _ q169) dX8_feed_27 ?_
      exact x_iret C hr h hf dX8_feed_29
  · have hf := ifT c4 hf
    refine lv_ldc (v := (-1000000002)) hx hb C.2.2.2.1 (C.2.2.2.2.1 _ q167) dX8_feed_12 ?_
    exact x_iret C hr h hf dX8_feed_14
def f_X8_here_38    (σ : St) : Option (Int32 × St) := if (σ.1 0 23) ≤ (σ.1 0 25) then some ((-1), σ) else rd (σ.1 13) 400 (σ.1 0 25) (fun v6 => some (v6, σ))
set_option maxHeartbeats 4000000 in
theorem t_X8_here_38 (C : Cx p s m args meth c cX8_here 1 RX8 D (tyG G)) (hr : meth.sig.returnType = (some .int)) {o : Int32 × St}   : ∀  (σ : St) (H : Heap) (locs : List Loc) (ls : Array Slot), Hs D A s.heap (wM G σ) H locs → lv_has ls 1 [(0, .ref (G.1 0))] → f_X8_here_38    σ = some o → W p l e ({ frames := 0, cells := 0, slots := 0, locals := 0 } : Room) s m args below meth c H locs 0 0 (MQ below (QI D (tyG G) (wM G) A o) args s 0 0 A) (F0 m 38 ls []) := by
  intro  σ H locs ls h hl hf
  unfold f_X8_here_38 at hf
  have hx := C.1
  have hb := C.2.1
  refine lv_aload_n hx hb dX8_here_38 rfl (lv_at hl 0 rfl) ?_
  refine gf_X8_140 C h dX8_here_39 ?_
  refine lv_aload_n hx hb dX8_here_42 rfl (lv_at hl 0 rfl) ?_
  refine gf_X8_134 C h dX8_here_43 ?_
  refine lv_icmp_ge (tgt := 61) hx hb dX8_here_46 (by decide) (fun c5 => ?_) (fun c5 => ?_)
  · have hf := ifT c5 hf
    refine lv_iconst (v := (-1)) hx hb dX8_here_61 (by decide) ?_
    exact x_iret C hr h hf dX8_here_62
  · have hf := ifF c5 hf
    refine lv_aload_n hx hb dX8_here_49 rfl (lv_at hl 0 rfl) ?_
    refine gf_X8_56 C h dX8_here_50 ?_
    refine lv_aload_n hx hb dX8_here_53 rfl (lv_at hl 0 rfl) ?_
    refine gf_X8_140 C h dX8_here_54 ?_
    refine rd_el hf (fun v6 hinv6 hv6 hf => ?_)
    refine x_iald C h 13 1 (by decide) (aM_13 G _ _) rfl hinv6 hv6 dX8_here_57 ?_
    refine lv_goto (tgt := 62) hx hb dX8_here_58 (by decide) ?_
    exact x_iret C hr h hf dX8_here_62
def b_X8_here_0   (rec0 : St → Option (Int32 × St))  (σ : St) : Option (Int32 × St) := if (σ.1 0 23) ≤ (σ.1 0 25) then f_X8_here_38 σ else rd (σ.1 13) 400 (σ.1 0 25) (fun v2 => if v2 = 32 then nm (sI σ 0 25 ((σ.1 0 25) + 1)) (fun σ4 => rec0 (σ4)) else f_X8_here_38 σ)
def f_X8_here_0    (σ : St) : Option (Int32 × St) := lp (fun (rec0 : St → Option (Int32 × St)) (q : St) => b_X8_here_0   rec0 q) 100000 (σ)
set_option maxHeartbeats 4000000 in
theorem t_X8_here_0 (C : Cx p s m args meth c cX8_here 1 RX8 D (tyG G)) (hr : meth.sig.returnType = (some .int)) {o : Int32 × St}   : ∀  (σ : St) (H : Heap) (locs : List Loc) (ls : Array Slot), Hs D A s.heap (wM G σ) H locs → lv_has ls 1 [(0, .ref (G.1 0))] → f_X8_here_0    σ = some o → W p l e ({ frames := 0, cells := 0, slots := 0, locals := 0 } : Room) s m args below meth c H locs 0 0 (MQ below (QI D (tyG G) (wM G) A o) args s 0 0 A) (F0 m 0 ls []) := by
  intro  σ H locs ls h hl hf
  refine lp_el (P := fun q : St => ∀ (H : Heap) (locs : List Loc) (ls : Array Slot), Hs D A s.heap (wM G (q)) H locs → lv_has ls 1 [(0, .ref (G.1 0))] → W p l e ({ frames := 0, cells := 0, slots := 0, locals := 0 } : Room) s m args below meth c H locs 0 0 (MQ below (QI D (tyG G) (wM G) A o) args s 0 0 A) (F0 m 0 ls [])) (fun rec0 σ IH0 hf => ?_) _ (σ) hf H locs ls h hl
  intro H locs ls h hl
  have hl : lv_has ls 1 [(0, .ref (G.1 0))] := hl
  have h : Hs D A s.heap (wM G σ) H locs := h
  have hf : b_X8_here_0   rec0  σ = some o := hf
  unfold b_X8_here_0 at hf
  have hx := C.1
  have hb := C.2.1
  refine lv_aload_n hx hb dX8_here_0 rfl (lv_at hl 0 rfl) ?_
  refine gf_X8_140 C h dX8_here_1 ?_
  refine lv_aload_n hx hb dX8_here_4 rfl (lv_at hl 0 rfl) ?_
  refine gf_X8_134 C h dX8_here_5 ?_
  refine lv_icmp_ge (tgt := 38) hx hb dX8_here_8 (by decide) (fun c1 => ?_) (fun c1 => ?_)
  · have hf := ifT c1 hf
    exact t_X8_here_38 C hr σ _ _ _ h (lv_sub hl [0] rfl) hf
  · have hf := ifF c1 hf
    refine lv_aload_n hx hb dX8_here_11 rfl (lv_at hl 0 rfl) ?_
    refine gf_X8_56 C h dX8_here_12 ?_
    refine lv_aload_n hx hb dX8_here_15 rfl (lv_at hl 0 rfl) ?_
    refine gf_X8_140 C h dX8_here_16 ?_
    refine rd_el hf (fun v2 hinv2 hv2 hf => ?_)
    refine x_iald C h 13 1 (by decide) (aM_13 G _ _) rfl hinv2 hv2 dX8_here_19 ?_
    refine lv_bipush (v := 32) hx hb dX8_here_20 (by decide) ?_
    refine lv_icmp_ne (tgt := 38) hx hb dX8_here_22 (by decide) (fun c3 => ?_) (fun c3 => ?_)
    · have hf := ifF c3 hf
      exact t_X8_here_38 C hr σ _ _ _ h (lv_sub hl [0] rfl) hf
    · have hf := ifT c3 hf
      refine lv_aload_n hx hb dX8_here_25 rfl (lv_at hl 0 rfl) ?_
      refine lv_dup hx hb dX8_here_26 rfl ?_
      refine gf_X8_140 C h dX8_here_27 ?_
      refine lv_iconst (v := 1) hx hb dX8_here_30 (by decide) ?_
      refine lv_iadd hx hb dX8_here_31 ?_
      refine nm_el hf (fun σ4 hσ4 hf => ?_)
      refine pf_X8_140 C h dX8_here_32 hσ4 (fun H locs h => ?_)
      refine lv_goto (tgt := 0) hx hb dX8_here_35 (by decide) ?_
      exact IH0 (σ4) hf _ _ _ h (lv_sub hl [0] rfl)
def f_X8_here   (σ : St) : Option (Int32 × St) := f_X8_here_0 σ
set_option maxHeartbeats 4000000 in
theorem c_X8_here (l : Launch) (D : va_G) (G : Geo)    (σ : St) (o : Int32 × St) (hf : f_X8_here   σ = some o) : CI l D (tyG G) (wM G) yX8_here cX8_here 1 ((some .int)) ({ frames := 0, cells := 0, slots := 0, locals := 0 }) [.ref (G.1 0)] σ o := by
  refine met_of (Qc := fun A => QI D (tyG G) (wM G) A o) pn_X8 (Nat.le_of_ble_eq_true rfl) (fun p e s m below meth c A ls C hr h hl => ?_)
  have C : Cx p s m _ meth c cX8_here 1 RX8 D (tyG G) := C
  have hl : lv_has ls 1 [(0, .ref (G.1 0))] := hl
  unfold f_X8_here at hf
  have hx := C.1
  have hb := C.2.1
  exact t_X8_here_0 C hr σ _ _ _ h (lv_sub hl [0] rfl) hf
def f_X8_fails  (x1 : Int32) (x2 : Int32) (σ : St) : Option (Int32 × St) := nm (sI σ 0 24 x2) (fun σ1 => some (x1, σ1))
set_option maxHeartbeats 4000000 in
theorem c_X8_fails (l : Launch) (D : va_G) (G : Geo)   (x1 : Int32) (x2 : Int32) (σ : St) (o : Int32 × St) (hf : f_X8_fails  x1 x2 σ = some o) : CI l D (tyG G) (wM G) yX8_fails cX8_fails 3 ((some .int)) ({ frames := 0, cells := 0, slots := 0, locals := 0 }) [.ref (G.1 0), .int x1, .int x2] σ o := by
  refine met_of (Qc := fun A => QI D (tyG G) (wM G) A o) pn_X8 (Nat.le_of_ble_eq_true rfl) (fun p e s m below meth c A ls C hr h hl => ?_)
  have C : Cx p s m _ meth c cX8_fails 3 RX8 D (tyG G) := C
  have hl : lv_has ls 3 [(0, .ref (G.1 0)), (1, .int x1), (2, .int x2)] := hl
  unfold f_X8_fails at hf
  have hx := C.1
  have hb := C.2.1
  refine lv_aload_n hx hb dX8_fails_0 rfl (lv_at hl 0 rfl) ?_
  refine lv_iload_n hx hb dX8_fails_1 rfl (lv_at hl 2 rfl) ?_
  refine nm_el hf (fun σ1 hσ1 hf => ?_)
  refine pf_X8_59 C h dX8_fails_2 hσ1 (fun H locs h => ?_)
  refine lv_iload_n hx hb dX8_fails_5 rfl (lv_at hl 1 rfl) ?_
  exact x_iret C hr h hf dX8_fails_6
def f_X8_readWord_92  (rec18 : St → Option (St)) (y1 : Int64) (σ : St) : Option (St) := nm (sJ σ 0 26 y1) (fun σ14 => nm (sI σ14 0 27 ((σ14.1 0 27) + 1)) (fun σ15 => rec18 (σ15)))
set_option maxHeartbeats 4000000 in
theorem t_X8_readWord_92 (C : Cx p s m args meth c cX8_readWord 2 RX8 D (tyG G)) (hr : meth.sig.returnType = none) {o : St}  {rec18 : St → Option (St)} (IH18 : ∀ q, rec18 q = some o → ∀ (H : Heap) (locs : List Loc) (ls : Array Slot), Hs D A s.heap (wM G (q)) H locs → lv_has ls 2 [(0, .ref (G.1 0))] → W p l e ({ frames := 1, cells := 0, slots := 0, locals := 25 } : Room) s m args below meth c H locs 0 0 (MQ below (QV D (tyG G) (wM G) A o) args s 0 0 A) (F0 m 18 ls [])) : ∀ (y1 : Int64) (σ : St) (H : Heap) (locs : List Loc) (ls : Array Slot), Hs D A s.heap (wM G σ) H locs → lv_has ls 2 [(0, .ref (G.1 0))] → f_X8_readWord_92  rec18 y1 σ = some o → W p l e ({ frames := 1, cells := 0, slots := 0, locals := 25 } : Room) s m args below meth c H locs 0 0 (MQ below (QV D (tyG G) (wM G) A o) args s 0 0 A) (F0 m 92 ls [.long y1, .ref (G.1 0)]) := by
  intro y1 σ H locs ls h hl hf
  unfold f_X8_readWord_92 at hf
  have hx := C.1
  have hb := C.2.1
  refine nm_el hf (fun σ14 hσ14 hf => ?_)
  refine pf_X8_147 C h dX8_readWord_92 hσ14 (fun H locs h => ?_)
  refine lv_aload_n hx hb dX8_readWord_95 rfl (lv_at hl 0 rfl) ?_
  refine lv_dup hx hb dX8_readWord_96 rfl ?_
  refine gf_X8_151 C h dX8_readWord_97 ?_
  refine lv_iconst (v := 1) hx hb dX8_readWord_100 (by decide) ?_
  refine lv_iadd hx hb dX8_readWord_101 ?_
  refine nm_el hf (fun σ15 hσ15 hf => ?_)
  refine pf_X8_151 C h dX8_readWord_102 hσ15 (fun H locs h => ?_)
  refine lv_goto (tgt := 18) hx hb dX8_readWord_105 (by decide) ?_
  exact IH18 (σ15) hf _ _ _ h (lv_sub hl [0] rfl)
def b_X8_readWord_18   (rec18 : St → Option (St))  (σ : St) : Option (St) := if (σ.1 0 23) ≤ (σ.1 0 27) then some σ else rd (σ.1 13) 400 (σ.1 0 27) (fun v7 => bd (f_X8_in v7.toInt64 97 122 σ) (fun r10 σ8 => if r10 = 0 then some σ8 else if (lg_cmp (σ8.2 0 26) 1000000000000) ≤ 0 then rd (σ8.1 13) 400 (σ8.1 0 27) (fun v13 => f_X8_readWord_92 rec18 (((27 * (σ8.2 0 26)) + v13.toInt64) - 96) σ8) else f_X8_readWord_92 rec18 2000000000000 σ8))
def f_X8_readWord_18    (σ : St) : Option (St) := lp (fun (rec18 : St → Option (St)) (q : St) => b_X8_readWord_18   rec18 q) 100000 (σ)
set_option maxHeartbeats 4000000 in
theorem t_X8_readWord_18 (C : Cx p s m args meth c cX8_readWord 2 RX8 D (tyG G)) (hr : meth.sig.returnType = none) {o : St}   : ∀  (σ : St) (H : Heap) (locs : List Loc) (ls : Array Slot), Hs D A s.heap (wM G σ) H locs → lv_has ls 2 [(0, .ref (G.1 0))] → f_X8_readWord_18    σ = some o → W p l e ({ frames := 1, cells := 0, slots := 0, locals := 25 } : Room) s m args below meth c H locs 0 0 (MQ below (QV D (tyG G) (wM G) A o) args s 0 0 A) (F0 m 18 ls []) := by
  intro  σ H locs ls h hl hf
  refine lp_el (P := fun q : St => ∀ (H : Heap) (locs : List Loc) (ls : Array Slot), Hs D A s.heap (wM G (q)) H locs → lv_has ls 2 [(0, .ref (G.1 0))] → W p l e ({ frames := 1, cells := 0, slots := 0, locals := 25 } : Room) s m args below meth c H locs 0 0 (MQ below (QV D (tyG G) (wM G) A o) args s 0 0 A) (F0 m 18 ls [])) (fun rec18 σ IH18 hf => ?_) _ (σ) hf H locs ls h hl
  intro H locs ls h hl
  have hl : lv_has ls 2 [(0, .ref (G.1 0))] := hl
  have h : Hs D A s.heap (wM G σ) H locs := h
  have hf : b_X8_readWord_18   rec18  σ = some o := hf
  unfold b_X8_readWord_18 at hf
  have hx := C.1
  have hb := C.2.1
  refine lv_aload_n hx hb dX8_readWord_18 rfl (lv_at hl 0 rfl) ?_
  refine gf_X8_151 C h dX8_readWord_19 ?_
  refine lv_aload_n hx hb dX8_readWord_22 rfl (lv_at hl 0 rfl) ?_
  refine gf_X8_134 C h dX8_readWord_23 ?_
  refine lv_icmp_ge (tgt := 108) hx hb dX8_readWord_26 (by decide) (fun c6 => ?_) (fun c6 => ?_)
  · have hf := ifT c6 hf
    exact x_vret C hr h hf dX8_readWord_108
  · have hf := ifF c6 hf
    refine lv_aload_n hx hb dX8_readWord_29 rfl (lv_at hl 0 rfl) ?_
    refine gf_X8_56 C h dX8_readWord_30 ?_
    refine lv_aload_n hx hb dX8_readWord_33 rfl (lv_at hl 0 rfl) ?_
    refine gf_X8_151 C h dX8_readWord_34 ?_
    refine rd_el hf (fun v7 hinv7 hv7 hf => ?_)
    refine x_iald C h 13 1 (by decide) (aM_13 G _ _) rfl hinv7 hv7 dX8_readWord_37 ?_
    refine lv_i2l (v := v7.toInt64) hx hb dX8_readWord_38 rfl ?_
    refine lv_ldc2 (v := 97) hx hb C.2.2.2.1 (C.2.2.2.2.1 _ q342) dX8_readWord_39 ?_
    refine lv_ldc2 (v := 122) hx hb C.2.2.2.1 (C.2.2.2.2.1 _ q343) dX8_readWord_42 ?_
    refine bd_el hf (fun r10 σ8 ho9 hf => ?_)
    refine x_goi h (x_runS (As := [.long v7.toInt64, .long 97, .long 122]) (rest := []) C h (c_X8_in l D G v7.toInt64 97 122 σ (r10, σ8) ho9 _) lk_X8_112 rfl ⟨rfl, rfl, Nat.le_of_ble_eq_true rfl, Nat.le_of_ble_eq_true rfl⟩ hl.1 rfl (Nat.le_of_ble_eq_true rfl) dX8_readWord_45) (fun H locs h => ?_)
    refine lv_if_eq (tgt := 108) hx hb dX8_readWord_48 (by decide) (fun c11 => ?_) (fun c11 => ?_)
    · have hf := ifT c11 hf
      exact x_vret C hr h hf dX8_readWord_108
    · have hf := ifF c11 hf
      refine lv_aload_n hx hb dX8_readWord_51 rfl (lv_at hl 0 rfl) ?_
      refine lv_aload_n hx hb dX8_readWord_52 rfl (lv_at hl 0 rfl) ?_
      refine gf_X8_147 C h dX8_readWord_53 ?_
      refine lv_ldc2 (v := 1000000000000) hx hb C.2.2.2.1 (C.2.2.2.2.1 _ q344) dX8_readWord_56 ?_
      refine W.lcmp hx hb dX8_readWord_59 ?_
      refine lv_if_le (tgt := 69) hx hb dX8_readWord_60 (by decide) (fun c12 => ?_) (fun c12 => ?_)
      · have hf := ifT c12 hf
        refine lv_ldc2 (v := 27) hx hb C.2.2.2.1 (C.2.2.2.2.1 _ q346) dX8_readWord_69 ?_
        refine lv_aload_n hx hb dX8_readWord_72 rfl (lv_at hl 0 rfl) ?_
        refine gf_X8_147 C h dX8_readWord_73 ?_
        refine lv_lmul hx hb dX8_readWord_76 ?_
        refine lv_aload_n hx hb dX8_readWord_77 rfl (lv_at hl 0 rfl) ?_
        refine gf_X8_56 C h dX8_readWord_78 ?_
        refine lv_aload_n hx hb dX8_readWord_81 rfl (lv_at hl 0 rfl) ?_
        refine gf_X8_151 C h dX8_readWord_82 ?_
        refine rd_el hf (fun v13 hinv13 hv13 hf => ?_)
        refine x_iald C h 13 1 (by decide) (aM_13 G _ _) rfl hinv13 hv13 dX8_readWord_85 ?_
        refine lv_i2l (v := v13.toInt64) hx hb dX8_readWord_86 rfl ?_
        refine lv_ladd hx hb dX8_readWord_87 ?_
        refine lv_ldc2 (v := 96) hx hb C.2.2.2.1 (C.2.2.2.2.1 _ q347) dX8_readWord_88 ?_
        refine lv_lsub hx hb dX8_readWord_91 ?_
        exact t_X8_readWord_92 C hr IH18 (((27 * (σ8.2 0 26)) + v13.toInt64) - 96) σ8 _ _ _ h (lv_sub hl [0] rfl) hf
      · have hf := ifF c12 hf
        refine lv_ldc2 (v := 2000000000000) hx hb C.2.2.2.1 (C.2.2.2.2.1 _ q345) dX8_readWord_63 ?_
        refine lv_goto (tgt := 92) hx hb dX8_readWord_66 (by decide) ?_
        exact t_X8_readWord_92 C hr IH18 2000000000000 σ8 _ _ _ h (lv_sub hl [0] rfl) hf
def f_X8_readWord   (σ : St) : Option (St) := bd (f_X8_here σ) (fun r3 σ1 => nm (sJ σ1 0 26 0) (fun σ4 => nm (sI σ4 0 27 (σ4.1 0 25)) (fun σ5 => f_X8_readWord_18 σ5)))
set_option maxHeartbeats 4000000 in
theorem c_X8_readWord (l : Launch) (D : va_G) (G : Geo)    (σ : St) (o : St) (hf : f_X8_readWord   σ = some o) : CV l D (tyG G) (wM G) yX8_readWord cX8_readWord 2 none ({ frames := 1, cells := 0, slots := 0, locals := 25 }) [.ref (G.1 0)] σ o := by
  refine met_of (Qc := fun A => QV D (tyG G) (wM G) A o) pn_X8 (Nat.le_of_ble_eq_true rfl) (fun p e s m below meth c A ls C hr h hl => ?_)
  have C : Cx p s m _ meth c cX8_readWord 2 RX8 D (tyG G) := C
  have hl : lv_has ls 2 [(0, .ref (G.1 0))] := hl
  unfold f_X8_readWord at hf
  have hx := C.1
  have hb := C.2.1
  refine lv_aload_n hx hb dX8_readWord_0 rfl (lv_at hl 0 rfl) ?_
  refine bd_el hf (fun r3 σ1 ho2 hf => ?_)
  refine x_goi h (x_runV (As := []) (rest := []) C h (c_X8_here l D G σ (r3, σ1) ho2 _) lk_X8_143 rfl ⟨rfl, rfl, Nat.le_of_ble_eq_true rfl, Nat.le_of_ble_eq_true rfl⟩ (x_rcv C h 0 (by decide) (oM G _ _) rfl) hl.1 rfl (Nat.le_of_ble_eq_true rfl) dX8_readWord_1) (fun H locs h => ?_)
  refine lv_istore_n (lv' := [(1, .int r3), (0, .ref (G.1 0))]) hx hb dX8_readWord_4 rfl hl (by decide) rfl (fun ls hl => ?_)
  refine lv_aload_n hx hb dX8_readWord_5 rfl (lv_at hl 1 rfl) ?_
  refine lv_lconst (v := 0) hx hb dX8_readWord_6 (by decide) ?_
  refine nm_el hf (fun σ4 hσ4 hf => ?_)
  refine pf_X8_147 C h dX8_readWord_7 hσ4 (fun H locs h => ?_)
  refine lv_aload_n hx hb dX8_readWord_10 rfl (lv_at hl 1 rfl) ?_
  refine lv_aload_n hx hb dX8_readWord_11 rfl (lv_at hl 1 rfl) ?_
  refine gf_X8_140 C h dX8_readWord_12 ?_
  refine nm_el hf (fun σ5 hσ5 hf => ?_)
  refine pf_X8_151 C h dX8_readWord_15 hσ5 (fun H locs h => ?_)
  exact t_X8_readWord_18 C hr σ5 _ _ _ h (lv_sub hl [1] rfl) hf
def f_X8_code  (x0 : Int32) (x1 : Int32) (x2 : Int32) (σ : St) : Option (Int64 × St) := some (((27 * (((27 * (x0.toInt64 - 96)) + x1.toInt64) - 96)) + x2.toInt64) - 96, σ)
set_option maxHeartbeats 4000000 in
theorem c_X8_code (l : Launch) (D : va_G) (G : Geo)   (x0 : Int32) (x1 : Int32) (x2 : Int32) (σ : St) (o : Int64 × St) (hf : f_X8_code  x0 x1 x2 σ = some o) : CL l D (tyG G) (wM G) yX8_code cX8_code 3 ((some .long)) ({ frames := 0, cells := 0, slots := 0, locals := 0 }) [.int x0, .int x1, .int x2] σ o := by
  refine met_of (Qc := fun A => QL D (tyG G) (wM G) A o) pn_X8 (Nat.le_of_ble_eq_true rfl) (fun p e s m below meth c A ls C hr h hl => ?_)
  have C : Cx p s m _ meth c cX8_code 3 RX8 D (tyG G) := C
  have hl : lv_has ls 3 [(0, .int x0), (1, .int x1), (2, .int x2)] := hl
  unfold f_X8_code at hf
  have hx := C.1
  have hb := C.2.1
  refine lv_ldc2 (v := 27) hx hb C.2.2.2.1 (C.2.2.2.2.1 _ q346) dX8_code_0 ?_
  refine lv_ldc2 (v := 27) hx hb C.2.2.2.1 (C.2.2.2.2.1 _ q346) dX8_code_3 ?_
  refine lv_iload_n hx hb dX8_code_6 rfl (lv_at hl 0 rfl) ?_
  refine lv_i2l (v := x0.toInt64) hx hb dX8_code_7 rfl ?_
  refine lv_ldc2 (v := 96) hx hb C.2.2.2.1 (C.2.2.2.2.1 _ q347) dX8_code_8 ?_
  refine lv_lsub hx hb dX8_code_11 ?_
  refine lv_lmul hx hb dX8_code_12 ?_
  refine lv_iload_n hx hb dX8_code_13 rfl (lv_at hl 1 rfl) ?_
  refine lv_i2l (v := x1.toInt64) hx hb dX8_code_14 rfl ?_
  refine lv_ladd hx hb dX8_code_15 ?_
  refine lv_ldc2 (v := 96) hx hb C.2.2.2.1 (C.2.2.2.2.1 _ q347) dX8_code_16 ?_
  refine lv_lsub hx hb dX8_code_19 ?_
  refine lv_lmul hx hb dX8_code_20 ?_
  refine lv_iload_n hx hb dX8_code_21 rfl (lv_at hl 2 rfl) ?_
  refine lv_i2l (v := x2.toInt64) hx hb dX8_code_22 rfl ?_
  refine lv_ladd hx hb dX8_code_23 ?_
  refine lv_ldc2 (v := 96) hx hb C.2.2.2.1 (C.2.2.2.2.1 _ q347) dX8_code_24 ?_
  refine lv_lsub hx hb dX8_code_27 ?_
  exact x_lret C hr h hf dX8_code_28
def f_X8_longer  (x0 : Int64) (x2 : Int32) (x3 : Int32) (σ : St) : Option (Int64 × St) := some (((27 * (((27 * x0) + x2.toInt64) - 96)) + x3.toInt64) - 96, σ)
set_option maxHeartbeats 4000000 in
theorem c_X8_longer (l : Launch) (D : va_G) (G : Geo)   (x0 : Int64) (x2 : Int32) (x3 : Int32) (σ : St) (o : Int64 × St) (hf : f_X8_longer  x0 x2 x3 σ = some o) : CL l D (tyG G) (wM G) yX8_longer cX8_longer 4 ((some .long)) ({ frames := 0, cells := 0, slots := 0, locals := 0 }) [.long x0, .int x2, .int x3] σ o := by
  refine met_of (Qc := fun A => QL D (tyG G) (wM G) A o) pn_X8 (Nat.le_of_ble_eq_true rfl) (fun p e s m below meth c A ls C hr h hl => ?_)
  have C : Cx p s m _ meth c cX8_longer 4 RX8 D (tyG G) := C
  have hl : lv_has ls 4 [(0, .long x0), (2, .int x2), (3, .int x3)] := hl
  unfold f_X8_longer at hf
  have hx := C.1
  have hb := C.2.1
  refine lv_ldc2 (v := 27) hx hb C.2.2.2.1 (C.2.2.2.2.1 _ q346) dX8_longer_0 ?_
  refine lv_ldc2 (v := 27) hx hb C.2.2.2.1 (C.2.2.2.2.1 _ q346) dX8_longer_3 ?_
  refine lv_lload_n hx hb dX8_longer_6 rfl (lv_at hl 0 rfl) ?_
  refine lv_lmul hx hb dX8_longer_7 ?_
  refine lv_iload_n hx hb dX8_longer_8 rfl (lv_at hl 1 rfl) ?_
  refine lv_i2l (v := x2.toInt64) hx hb dX8_longer_9 rfl ?_
  refine lv_ladd hx hb dX8_longer_10 ?_
  refine lv_ldc2 (v := 96) hx hb C.2.2.2.1 (C.2.2.2.2.1 _ q347) dX8_longer_11 ?_
  refine lv_lsub hx hb dX8_longer_14 ?_
  refine lv_lmul hx hb dX8_longer_15 ?_
  refine lv_iload_n hx hb dX8_longer_16 rfl (lv_at hl 2 rfl) ?_
  refine lv_i2l (v := x3.toInt64) hx hb dX8_longer_17 rfl ?_
  refine lv_ladd hx hb dX8_longer_18 ?_
  refine lv_ldc2 (v := 96) hx hb C.2.2.2.1 (C.2.2.2.2.1 _ q347) dX8_longer_19 ?_
  refine lv_lsub hx hb dX8_longer_22 ?_
  exact x_lret C hr h hf dX8_longer_23
def f_X8_takeNumber_157    (σ : St) : Option (Int32 × St) := bd (f_X8_fails 2 (σ.1 0 29) σ) (fun r30 σ28 => some (r30, σ28))
set_option maxHeartbeats 4000000 in
theorem t_X8_takeNumber_157 (C : Cx p s m args meth c cX8_takeNumber 4 RX8 D (tyG G)) (hr : meth.sig.returnType = (some .int)) {o : Int32 × St}   : ∀  (σ : St) (H : Heap) (locs : List Loc) (ls : Array Slot), Hs D A s.heap (wM G σ) H locs → lv_has ls 4 [(0, .ref (G.1 0))] → f_X8_takeNumber_157    σ = some o → W p l e ({ frames := 1, cells := 0, slots := 0, locals := 25 } : Room) s m args below meth c H locs 0 0 (MQ below (QI D (tyG G) (wM G) A o) args s 0 0 A) (F0 m 157 ls []) := by
  intro  σ H locs ls h hl hf
  unfold f_X8_takeNumber_157 at hf
  have hx := C.1
  have hb := C.2.1
  refine lv_aload_n hx hb dX8_takeNumber_157 rfl (lv_at hl 0 rfl) ?_
  refine lv_iconst (v := 2) hx hb dX8_takeNumber_158 (by decide) ?_
  refine lv_aload_n hx hb dX8_takeNumber_159 rfl (lv_at hl 0 rfl) ?_
  refine gf_X8_174 C h dX8_takeNumber_160 ?_
  refine bd_el hf (fun r30 σ28 ho29 hf => ?_)
  refine x_goi h (x_runV (As := [.int 2, .int (σ.1 0 29)]) (rest := []) C h (c_X8_fails l D G 2 (σ.1 0 29) σ (r30, σ28) ho29 _) lk_X8_170 rfl ⟨rfl, rfl, Nat.le_of_ble_eq_true rfl, Nat.le_of_ble_eq_true rfl⟩ (x_rcv C h 0 (by decide) (oM G _ _) rfl) hl.1 rfl (Nat.le_of_ble_eq_true rfl) dX8_takeNumber_163) (fun H locs h => ?_)
  refine lv_goto (tgt := 170) hx hb dX8_takeNumber_166 (by decide) ?_
  exact x_iret C hr h hf dX8_takeNumber_170
def f_X8_takeNumber_129   (x1 : Int32) (x2 : Int32) (σ : St) : Option (Int32 × St) := if (3 : Int32) < ((σ.1 0 25) - (σ.1 0 29)) then f_X8_takeNumber_157 σ else bd (f_X8_in ((σ.1 0 28 : Int32).toInt64) x1.toInt64 x2.toInt64 σ) (fun r24 σ22 => if r24 = 0 then f_X8_takeNumber_157 σ22 else some (0, σ22))
set_option maxHeartbeats 4000000 in
theorem t_X8_takeNumber_129 (C : Cx p s m args meth c cX8_takeNumber 4 RX8 D (tyG G)) (hr : meth.sig.returnType = (some .int)) {o : Int32 × St}   : ∀ (x1 : Int32) (x2 : Int32) (σ : St) (H : Heap) (locs : List Loc) (ls : Array Slot), Hs D A s.heap (wM G σ) H locs → lv_has ls 4 [(0, .ref (G.1 0)), (1, .int x1), (2, .int x2)] → f_X8_takeNumber_129   x1 x2 σ = some o → W p l e ({ frames := 1, cells := 0, slots := 0, locals := 25 } : Room) s m args below meth c H locs 0 0 (MQ below (QI D (tyG G) (wM G) A o) args s 0 0 A) (F0 m 129 ls []) := by
  intro x1 x2 σ H locs ls h hl hf
  unfold f_X8_takeNumber_129 at hf
  have hx := C.1
  have hb := C.2.1
  refine lv_aload_n hx hb dX8_takeNumber_129 rfl (lv_at hl 0 rfl) ?_
  refine gf_X8_140 C h dX8_takeNumber_130 ?_
  refine lv_aload_n hx hb dX8_takeNumber_133 rfl (lv_at hl 0 rfl) ?_
  refine gf_X8_174 C h dX8_takeNumber_134 ?_
  refine lv_isub hx hb dX8_takeNumber_137 ?_
  refine lv_iconst (v := 3) hx hb dX8_takeNumber_138 (by decide) ?_
  refine lv_icmp_gt (tgt := 157) hx hb dX8_takeNumber_139 (by decide) (fun c21 => ?_) (fun c21 => ?_)
  · have hf := ifT c21 hf
    exact t_X8_takeNumber_157 C hr σ _ _ _ h (lv_sub hl [0] rfl) hf
  · have hf := ifF c21 hf
    refine lv_aload_n hx hb dX8_takeNumber_142 rfl (lv_at hl 0 rfl) ?_
    refine gf_X8_177 C h dX8_takeNumber_143 ?_
    refine lv_i2l (v := (σ.1 0 28 : Int32).toInt64) hx hb dX8_takeNumber_146 rfl ?_
    refine lv_iload_n hx hb dX8_takeNumber_147 rfl (lv_at hl 1 rfl) ?_
    refine lv_i2l (v := x1.toInt64) hx hb dX8_takeNumber_148 rfl ?_
    refine lv_iload_n hx hb dX8_takeNumber_149 rfl (lv_at hl 2 rfl) ?_
    refine lv_i2l (v := x2.toInt64) hx hb dX8_takeNumber_150 rfl ?_
    refine bd_el hf (fun r24 σ22 ho23 hf => ?_)
    refine x_goi h (x_runS (As := [.long ((σ.1 0 28 : Int32).toInt64), .long x1.toInt64, .long x2.toInt64]) (rest := []) C h (c_X8_in l D G ((σ.1 0 28 : Int32).toInt64) x1.toInt64 x2.toInt64 σ (r24, σ22) ho23 _) lk_X8_112 rfl ⟨rfl, rfl, Nat.le_of_ble_eq_true rfl, Nat.le_of_ble_eq_true rfl⟩ hl.1 rfl (Nat.le_of_ble_eq_true rfl) dX8_takeNumber_151) (fun H locs h => ?_)
    refine lv_if_ne (tgt := 169) hx hb dX8_takeNumber_154 (by decide) (fun c25 => ?_) (fun c25 => ?_)
    · have hf := ifF c25 hf
      refine lv_iconst (v := 0) hx hb dX8_takeNumber_169 (by decide) ?_
      exact x_iret C hr h hf dX8_takeNumber_170
    · have hf := ifT c25 hf
      exact t_X8_takeNumber_157 C hr σ22 _ _ _ h (lv_sub hl [0] rfl) hf
def f_X8_takeNumber_113  (rec42 : Int32 × Int32 × St → Option (Int32 × St)) (x1 : Int32) (x2 : Int32) (y1 : Int32) (σ : St) : Option (Int32 × St) := nm (sI σ 0 28 y1) (fun σ26 => nm (sI σ26 0 25 ((σ26.1 0 25) + 1)) (fun σ27 => rec42 (x1, x2, σ27)))
set_option maxHeartbeats 4000000 in
theorem t_X8_takeNumber_113 (C : Cx p s m args meth c cX8_takeNumber 4 RX8 D (tyG G)) (hr : meth.sig.returnType = (some .int)) {o : Int32 × St}  {rec42 : Int32 × Int32 × St → Option (Int32 × St)} (IH42 : ∀ q, rec42 q = some o → ∀ (H : Heap) (locs : List Loc) (ls : Array Slot), Hs D A s.heap (wM G (q.2.2)) H locs → lv_has ls 4 [(0, .ref (G.1 0)), (1, .int (q.1)), (2, .int (q.2.1))] → W p l e ({ frames := 1, cells := 0, slots := 0, locals := 25 } : Room) s m args below meth c H locs 0 0 (MQ below (QI D (tyG G) (wM G) A o) args s 0 0 A) (F0 m 42 ls [])) : ∀ (x1 : Int32) (x2 : Int32) (y1 : Int32) (σ : St) (H : Heap) (locs : List Loc) (ls : Array Slot), Hs D A s.heap (wM G σ) H locs → lv_has ls 4 [(0, .ref (G.1 0)), (1, .int x1), (2, .int x2)] → f_X8_takeNumber_113  rec42 x1 x2 y1 σ = some o → W p l e ({ frames := 1, cells := 0, slots := 0, locals := 25 } : Room) s m args below meth c H locs 0 0 (MQ below (QI D (tyG G) (wM G) A o) args s 0 0 A) (F0 m 113 ls [.int y1, .ref (G.1 0)]) := by
  intro x1 x2 y1 σ H locs ls h hl hf
  unfold f_X8_takeNumber_113 at hf
  have hx := C.1
  have hb := C.2.1
  refine nm_el hf (fun σ26 hσ26 hf => ?_)
  refine pf_X8_177 C h dX8_takeNumber_113 hσ26 (fun H locs h => ?_)
  refine lv_aload_n hx hb dX8_takeNumber_116 rfl (lv_at hl 0 rfl) ?_
  refine lv_dup hx hb dX8_takeNumber_117 rfl ?_
  refine gf_X8_140 C h dX8_takeNumber_118 ?_
  refine lv_iconst (v := 1) hx hb dX8_takeNumber_121 (by decide) ?_
  refine lv_iadd hx hb dX8_takeNumber_122 ?_
  refine nm_el hf (fun σ27 hσ27 hf => ?_)
  refine pf_X8_140 C h dX8_takeNumber_123 hσ27 (fun H locs h => ?_)
  refine lv_goto (tgt := 42) hx hb dX8_takeNumber_126 (by decide) ?_
  exact IH42 (x1, x2, σ27) hf _ _ _ h (lv_sub hl [0, 1, 2] rfl)
def b_X8_takeNumber_42   (rec42 : Int32 × Int32 × St → Option (Int32 × St)) (x1 : Int32) (x2 : Int32) (σ : St) : Option (Int32 × St) := if (σ.1 0 23) ≤ (σ.1 0 25) then f_X8_takeNumber_129 x1 x2 σ else rd (σ.1 13) 400 (σ.1 0 25) (fun v14 => bd (f_X8_in v14.toInt64 48 57 σ) (fun r17 σ15 => if r17 = 0 then f_X8_takeNumber_129 x1 x2 σ15 else if (σ15.1 0 28) ≤ 10000 then rd (σ15.1 13) 400 (σ15.1 0 25) (fun v20 => f_X8_takeNumber_113 rec42 x1 x2 (((10 * (σ15.1 0 28)) + v20) - 48) σ15) else f_X8_takeNumber_113 rec42 x1 x2 (σ15.1 0 28) σ15))
def f_X8_takeNumber_42   (x1 : Int32) (x2 : Int32) (σ : St) : Option (Int32 × St) := lp (fun (rec42 : Int32 × Int32 × St → Option (Int32 × St)) (q : Int32 × Int32 × St) => b_X8_takeNumber_42   rec42 (q.1) (q.2.1) (q.2.2)) 100000 (x1, x2, σ)
set_option maxHeartbeats 4000000 in
theorem t_X8_takeNumber_42 (C : Cx p s m args meth c cX8_takeNumber 4 RX8 D (tyG G)) (hr : meth.sig.returnType = (some .int)) {o : Int32 × St}   : ∀ (x1 : Int32) (x2 : Int32) (σ : St) (H : Heap) (locs : List Loc) (ls : Array Slot), Hs D A s.heap (wM G σ) H locs → lv_has ls 4 [(0, .ref (G.1 0)), (1, .int x1), (2, .int x2)] → f_X8_takeNumber_42   x1 x2 σ = some o → W p l e ({ frames := 1, cells := 0, slots := 0, locals := 25 } : Room) s m args below meth c H locs 0 0 (MQ below (QI D (tyG G) (wM G) A o) args s 0 0 A) (F0 m 42 ls []) := by
  intro x1 x2 σ H locs ls h hl hf
  refine lp_el (P := fun q : Int32 × Int32 × St => ∀ (H : Heap) (locs : List Loc) (ls : Array Slot), Hs D A s.heap (wM G (q.2.2)) H locs → lv_has ls 4 [(0, .ref (G.1 0)), (1, .int (q.1)), (2, .int (q.2.1))] → W p l e ({ frames := 1, cells := 0, slots := 0, locals := 25 } : Room) s m args below meth c H locs 0 0 (MQ below (QI D (tyG G) (wM G) A o) args s 0 0 A) (F0 m 42 ls [])) (fun rec42 q IH42 hf => ?_) _ (x1, x2, σ) hf H locs ls h hl
  obtain ⟨x1, x2, σ⟩ := q
  intro H locs ls h hl
  have hl : lv_has ls 4 [(0, .ref (G.1 0)), (1, .int x1), (2, .int x2)] := hl
  have h : Hs D A s.heap (wM G σ) H locs := h
  have hf : b_X8_takeNumber_42   rec42 x1 x2 σ = some o := hf
  unfold b_X8_takeNumber_42 at hf
  have hx := C.1
  have hb := C.2.1
  refine lv_aload_n hx hb dX8_takeNumber_42 rfl (lv_at hl 0 rfl) ?_
  refine gf_X8_140 C h dX8_takeNumber_43 ?_
  refine lv_aload_n hx hb dX8_takeNumber_46 rfl (lv_at hl 0 rfl) ?_
  refine gf_X8_134 C h dX8_takeNumber_47 ?_
  refine lv_icmp_ge (tgt := 129) hx hb dX8_takeNumber_50 (by decide) (fun c13 => ?_) (fun c13 => ?_)
  · have hf := ifT c13 hf
    exact t_X8_takeNumber_129 C hr x1 x2 σ _ _ _ h (lv_sub hl [0, 1, 2] rfl) hf
  · have hf := ifF c13 hf
    refine lv_aload_n hx hb dX8_takeNumber_53 rfl (lv_at hl 0 rfl) ?_
    refine gf_X8_56 C h dX8_takeNumber_54 ?_
    refine lv_aload_n hx hb dX8_takeNumber_57 rfl (lv_at hl 0 rfl) ?_
    refine gf_X8_140 C h dX8_takeNumber_58 ?_
    refine rd_el hf (fun v14 hinv14 hv14 hf => ?_)
    refine x_iald C h 13 1 (by decide) (aM_13 G _ _) rfl hinv14 hv14 dX8_takeNumber_61 ?_
    refine lv_i2l (v := v14.toInt64) hx hb dX8_takeNumber_62 rfl ?_
    refine lv_ldc2 (v := 48) hx hb C.2.2.2.1 (C.2.2.2.2.1 _ q371) dX8_takeNumber_63 ?_
    refine lv_ldc2 (v := 57) hx hb C.2.2.2.1 (C.2.2.2.2.1 _ q372) dX8_takeNumber_66 ?_
    refine bd_el hf (fun r17 σ15 ho16 hf => ?_)
    refine x_goi h (x_runS (As := [.long v14.toInt64, .long 48, .long 57]) (rest := []) C h (c_X8_in l D G v14.toInt64 48 57 σ (r17, σ15) ho16 _) lk_X8_112 rfl ⟨rfl, rfl, Nat.le_of_ble_eq_true rfl, Nat.le_of_ble_eq_true rfl⟩ hl.1 rfl (Nat.le_of_ble_eq_true rfl) dX8_takeNumber_69) (fun H locs h => ?_)
    refine lv_if_eq (tgt := 129) hx hb dX8_takeNumber_72 (by decide) (fun c18 => ?_) (fun c18 => ?_)
    · have hf := ifT c18 hf
      exact t_X8_takeNumber_129 C hr x1 x2 σ15 _ _ _ h (lv_sub hl [0, 1, 2] rfl) hf
    · have hf := ifF c18 hf
      refine lv_aload_n hx hb dX8_takeNumber_75 rfl (lv_at hl 0 rfl) ?_
      refine lv_aload_n hx hb dX8_takeNumber_76 rfl (lv_at hl 0 rfl) ?_
      refine gf_X8_177 C h dX8_takeNumber_77 ?_
      refine lv_sipush (v := 10000) hx hb dX8_takeNumber_80 (by decide) ?_
      refine lv_icmp_le (tgt := 93) hx hb dX8_takeNumber_83 (by decide) (fun c19 => ?_) (fun c19 => ?_)
      · have hf := ifT c19 hf
        refine lv_bipush (v := 10) hx hb dX8_takeNumber_93 (by decide) ?_
        refine lv_aload_n hx hb dX8_takeNumber_95 rfl (lv_at hl 0 rfl) ?_
        refine gf_X8_177 C h dX8_takeNumber_96 ?_
        refine lv_imul hx hb dX8_takeNumber_99 ?_
        refine lv_aload_n hx hb dX8_takeNumber_100 rfl (lv_at hl 0 rfl) ?_
        refine gf_X8_56 C h dX8_takeNumber_101 ?_
        refine lv_aload_n hx hb dX8_takeNumber_104 rfl (lv_at hl 0 rfl) ?_
        refine gf_X8_140 C h dX8_takeNumber_105 ?_
        refine rd_el hf (fun v20 hinv20 hv20 hf => ?_)
        refine x_iald C h 13 1 (by decide) (aM_13 G _ _) rfl hinv20 hv20 dX8_takeNumber_108 ?_
        refine lv_iadd hx hb dX8_takeNumber_109 ?_
        refine lv_bipush (v := 48) hx hb dX8_takeNumber_110 (by decide) ?_
        refine lv_isub hx hb dX8_takeNumber_112 ?_
        exact t_X8_takeNumber_113 C hr IH42 x1 x2 (((10 * (σ15.1 0 28)) + v20) - 48) σ15 _ _ _ h (lv_sub hl [0, 1, 2] rfl) hf
      · have hf := ifF c19 hf
        refine lv_aload_n hx hb dX8_takeNumber_86 rfl (lv_at hl 0 rfl) ?_
        refine gf_X8_177 C h dX8_takeNumber_87 ?_
        refine lv_goto (tgt := 113) hx hb dX8_takeNumber_90 (by decide) ?_
        exact t_X8_takeNumber_113 C hr IH42 x1 x2 (σ15.1 0 28) σ15 _ _ _ h (lv_sub hl [0, 1, 2] rfl) hf
def f_X8_takeNumber  (x1 : Int32) (x2 : Int32) (σ : St) : Option (Int32 × St) := bd (f_X8_here σ) (fun r3 σ1 => bd (f_X8_in r3.toInt64 48 57 σ1) (fun r6 σ4 => if r6 = 0 then bd (f_X8_fails 1 (σ4.1 0 25) σ4) (fun r12 σ10 => some (r12, σ10)) else nm (sI σ4 0 29 (σ4.1 0 25)) (fun σ8 => nm (sI σ8 0 28 0) (fun σ9 => f_X8_takeNumber_42 x1 x2 σ9))))
set_option maxHeartbeats 4000000 in
theorem c_X8_takeNumber (l : Launch) (D : va_G) (G : Geo)   (x1 : Int32) (x2 : Int32) (σ : St) (o : Int32 × St) (hf : f_X8_takeNumber  x1 x2 σ = some o) : CI l D (tyG G) (wM G) yX8_takeNumber cX8_takeNumber 4 ((some .int)) ({ frames := 1, cells := 0, slots := 0, locals := 25 }) [.ref (G.1 0), .int x1, .int x2] σ o := by
  refine met_of (Qc := fun A => QI D (tyG G) (wM G) A o) pn_X8 (Nat.le_of_ble_eq_true rfl) (fun p e s m below meth c A ls C hr h hl => ?_)
  have C : Cx p s m _ meth c cX8_takeNumber 4 RX8 D (tyG G) := C
  have hl : lv_has ls 4 [(0, .ref (G.1 0)), (1, .int x1), (2, .int x2)] := hl
  unfold f_X8_takeNumber at hf
  have hx := C.1
  have hb := C.2.1
  refine lv_aload_n hx hb dX8_takeNumber_0 rfl (lv_at hl 0 rfl) ?_
  refine bd_el hf (fun r3 σ1 ho2 hf => ?_)
  refine x_goi h (x_runV (As := []) (rest := []) C h (c_X8_here l D G σ (r3, σ1) ho2 _) lk_X8_143 rfl ⟨rfl, rfl, Nat.le_of_ble_eq_true rfl, Nat.le_of_ble_eq_true rfl⟩ (x_rcv C h 0 (by decide) (oM G _ _) rfl) hl.1 rfl (Nat.le_of_ble_eq_true rfl) dX8_takeNumber_1) (fun H locs h => ?_)
  refine lv_istore_n (lv' := [(3, .int r3), (0, .ref (G.1 0)), (1, .int x1), (2, .int x2)]) hx hb dX8_takeNumber_4 rfl hl (by decide) rfl (fun ls hl => ?_)
  refine lv_iload_n hx hb dX8_takeNumber_5 rfl (lv_at hl 0 rfl) ?_
  refine lv_i2l (v := r3.toInt64) hx hb dX8_takeNumber_6 rfl ?_
  refine lv_ldc2 (v := 48) hx hb C.2.2.2.1 (C.2.2.2.2.1 _ q371) dX8_takeNumber_7 ?_
  refine lv_ldc2 (v := 57) hx hb C.2.2.2.1 (C.2.2.2.2.1 _ q372) dX8_takeNumber_10 ?_
  refine bd_el hf (fun r6 σ4 ho5 hf => ?_)
  refine x_goi h (x_runS (As := [.long r3.toInt64, .long 48, .long 57]) (rest := []) C h (c_X8_in l D G r3.toInt64 48 57 σ1 (r6, σ4) ho5 _) lk_X8_112 rfl ⟨rfl, rfl, Nat.le_of_ble_eq_true rfl, Nat.le_of_ble_eq_true rfl⟩ hl.1 rfl (Nat.le_of_ble_eq_true rfl) dX8_takeNumber_13) (fun H locs h => ?_)
  refine lv_if_ne (tgt := 29) hx hb dX8_takeNumber_16 (by decide) (fun c7 => ?_) (fun c7 => ?_)
  · have hf := ifF c7 hf
    refine lv_aload_n hx hb dX8_takeNumber_29 rfl (lv_at hl 1 rfl) ?_
    refine lv_aload_n hx hb dX8_takeNumber_30 rfl (lv_at hl 1 rfl) ?_
    refine gf_X8_140 C h dX8_takeNumber_31 ?_
    refine nm_el hf (fun σ8 hσ8 hf => ?_)
    refine pf_X8_174 C h dX8_takeNumber_34 hσ8 (fun H locs h => ?_)
    refine lv_aload_n hx hb dX8_takeNumber_37 rfl (lv_at hl 1 rfl) ?_
    refine lv_iconst (v := 0) hx hb dX8_takeNumber_38 (by decide) ?_
    refine nm_el hf (fun σ9 hσ9 hf => ?_)
    refine pf_X8_177 C h dX8_takeNumber_39 hσ9 (fun H locs h => ?_)
    exact t_X8_takeNumber_42 C hr x1 x2 σ9 _ _ _ h (lv_sub hl [1, 2, 3] rfl) hf
  · have hf := ifT c7 hf
    refine lv_aload_n hx hb dX8_takeNumber_19 rfl (lv_at hl 1 rfl) ?_
    refine lv_iconst (v := 1) hx hb dX8_takeNumber_20 (by decide) ?_
    refine lv_aload_n hx hb dX8_takeNumber_21 rfl (lv_at hl 1 rfl) ?_
    refine gf_X8_140 C h dX8_takeNumber_22 ?_
    refine bd_el hf (fun r12 σ10 ho11 hf => ?_)
    refine x_goi h (x_runV (As := [.int 1, .int (σ4.1 0 25)]) (rest := []) C h (c_X8_fails l D G 1 (σ4.1 0 25) σ4 (r12, σ10) ho11 _) lk_X8_170 rfl ⟨rfl, rfl, Nat.le_of_ble_eq_true rfl, Nat.le_of_ble_eq_true rfl⟩ (x_rcv C h 0 (by decide) (oM G _ _) rfl) hl.1 rfl (Nat.le_of_ble_eq_true rfl) dX8_takeNumber_25) (fun H locs h => ?_)
    exact x_iret C hr h hf dX8_takeNumber_28
def f_X8_into (r n : Nat) (x2 : Int32) (x3 : Int32) (x4 : Int32) (σ : St) : Option (Int32 × St) := bd (f_X8_takeNumber x3 x4 σ) (fun r3 σ1 => ck (inb x2 n) (nm (sI σ1 r (x2 : Int32).toNatClampNeg (σ1.1 0 28)) (fun σ5 => some (r3, σ5))))
set_option maxHeartbeats 4000000 in
theorem c_X8_into (l : Launch) (D : va_G) (G : Geo)  (r n : Nat) (hrn : isArrM G r n) (x2 : Int32) (x3 : Int32) (x4 : Int32) (σ : St) (o : Int32 × St) (hf : f_X8_into r n x2 x3 x4 σ = some o) : CI l D (tyG G) (wM G) yX8_into cX8_into 6 ((some .int)) ({ frames := 2, cells := 0, slots := 0, locals := 48 }) [.ref (G.1 0), .ref (G.1 r), .int x2, .int x3, .int x4] σ o := by
  refine met_of (Qc := fun A => QI D (tyG G) (wM G) A o) pn_X8 (Nat.le_of_ble_eq_true rfl) (fun p e s m below meth c A ls C hr h hl => ?_)
  have C : Cx p s m _ meth c cX8_into 6 RX8 D (tyG G) := C
  have hl : lv_has ls 6 [(0, .ref (G.1 0)), (1, .ref (G.1 r)), (2, .int x2), (3, .int x3), (4, .int x4)] := hl
  unfold f_X8_into at hf
  have hx := C.1
  have hb := C.2.1
  refine lv_aload_n hx hb dX8_into_0 rfl (lv_at hl 0 rfl) ?_
  refine lv_iload_n hx hb dX8_into_1 rfl (lv_at hl 3 rfl) ?_
  refine lv_iload hx hb dX8_into_2 (lv_at hl 4 rfl) ?_
  refine bd_el hf (fun r3 σ1 ho2 hf => ?_)
  refine x_goi h (x_runV (As := [.int x3, .int x4]) (rest := []) C h (c_X8_takeNumber l D G x3 x4 σ (r3, σ1) ho2 _) lk_X8_180 rfl ⟨rfl, rfl, Nat.le_of_ble_eq_true rfl, Nat.le_of_ble_eq_true rfl⟩ (x_rcv C h 0 (by decide) (oM G _ _) rfl) hl.1 rfl (Nat.le_of_ble_eq_true rfl) dX8_into_4) (fun H locs h => ?_)
  refine lv_istore (lv' := [(5, .int r3), (0, .ref (G.1 0)), (1, .ref (G.1 r)), (2, .int x2), (3, .int x3), (4, .int x4)]) hx hb dX8_into_7 hl (by decide) rfl (fun ls hl => ?_)
  refine lv_aload_n hx hb dX8_into_9 rfl (lv_at hl 2 rfl) ?_
  refine lv_iload_n hx hb dX8_into_10 rfl (lv_at hl 3 rfl) ?_
  refine lv_aload_n hx hb dX8_into_11 rfl (lv_at hl 1 rfl) ?_
  refine gf_X8_177 C h dX8_into_12 ?_
  refine ckb_el hf (fun hin4 hf => ?_)
  refine nm_el hf (fun σ5 hσ5 hf => ?_)
  refine x_iast C h r 1 hrn.1 (fun f => hrn.2 f _) rfl hin4 dX8_into_15 hσ5 (fun H locs h => ?_)
  refine lv_iload hx hb dX8_into_16 (lv_at hl 0 rfl) ?_
  exact x_iret C hr h hf dX8_into_18
def f_X8_takeHouse_49   (x1 : Int32) (y0 : Int32) (σ : St) : Option (Int32 × St) := if y0 ≤ 0 then bd (f_X8_into 16 5 x1 0 60 σ) (fun r13 σ11 => some (r13, σ11)) else some (y0, σ)
set_option maxHeartbeats 4000000 in
theorem t_X8_takeHouse_49 (C : Cx p s m args meth c cX8_takeHouse 3 RX8 D (tyG G)) (hr : meth.sig.returnType = (some .int)) {o : Int32 × St}   : ∀ (x1 : Int32) (y0 : Int32) (σ : St) (H : Heap) (locs : List Loc) (ls : Array Slot), Hs D A s.heap (wM G σ) H locs → lv_has ls 3 [(0, .ref (G.1 0)), (1, .int x1)] → f_X8_takeHouse_49   x1 y0 σ = some o → W p l e ({ frames := 3, cells := 0, slots := 0, locals := 73 } : Room) s m args below meth c H locs 0 0 (MQ below (QI D (tyG G) (wM G) A o) args s 0 0 A) (F0 m 49 ls [.int y0]) := by
  intro x1 y0 σ H locs ls h hl hf
  unfold f_X8_takeHouse_49 at hf
  have hx := C.1
  have hb := C.2.1
  refine lv_istore_n (lv' := [(2, .int y0), (0, .ref (G.1 0)), (1, .int x1)]) hx hb dX8_takeHouse_49 rfl hl (by decide) rfl (fun ls hl => ?_)
  refine lv_iload_n hx hb dX8_takeHouse_50 rfl (lv_at hl 0 rfl) ?_
  refine lv_if_le (tgt := 58) hx hb dX8_takeHouse_51 (by decide) (fun c10 => ?_) (fun c10 => ?_)
  · have hf := ifT c10 hf
    refine lv_aload_n hx hb dX8_takeHouse_58 rfl (lv_at hl 1 rfl) ?_
    refine lv_aload_n hx hb dX8_takeHouse_59 rfl (lv_at hl 1 rfl) ?_
    refine gf_X8_68 C h dX8_takeHouse_60 ?_
    refine lv_iload_n hx hb dX8_takeHouse_63 rfl (lv_at hl 2 rfl) ?_
    refine lv_iconst (v := 0) hx hb dX8_takeHouse_64 (by decide) ?_
    refine lv_bipush (v := 60) hx hb dX8_takeHouse_65 (by decide) ?_
    refine bd_el hf (fun r13 σ11 ho12 hf => ?_)
    refine x_goi h (x_runV (As := [.ref (G.1 16), .int x1, .int 0, .int 60]) (rest := []) C h (c_X8_into l D G 16 5 ⟨(by decide), aM_16 G⟩ x1 0 60 σ (r13, σ11) ho12 _) lk_X8_186 rfl ⟨rfl, rfl, Nat.le_of_ble_eq_true rfl, Nat.le_of_ble_eq_true rfl⟩ (x_rcv C h 0 (by decide) (oM G _ _) rfl) hl.1 rfl (Nat.le_of_ble_eq_true rfl) dX8_takeHouse_67) (fun H locs h => ?_)
    exact x_iret C hr h hf dX8_takeHouse_70
  · have hf := ifF c10 hf
    refine lv_iload_n hx hb dX8_takeHouse_54 rfl (lv_at hl 0 rfl) ?_
    refine lv_goto (tgt := 70) hx hb dX8_takeHouse_55 (by decide) ?_
    exact x_iret C hr h hf dX8_takeHouse_70
def f_X8_takeHouse   (σ : St) : Option (Int32 × St) := nm (σ.1 0 30) (fun z1 => nm (sI σ 0 30 ((σ.1 0 30) + 1)) (fun σ2 => bd (f_X8_into 14 5 z1 1 7 σ2) (fun r5 σ3 => if r5 ≤ 0 then bd (f_X8_into 15 5 z1 0 999 σ3) (fun r9 σ7 => f_X8_takeHouse_49 z1 r9 σ7) else f_X8_takeHouse_49 z1 r5 σ3)))
set_option maxHeartbeats 4000000 in
theorem c_X8_takeHouse (l : Launch) (D : va_G) (G : Geo)    (σ : St) (o : Int32 × St) (hf : f_X8_takeHouse   σ = some o) : CI l D (tyG G) (wM G) yX8_takeHouse cX8_takeHouse 3 ((some .int)) ({ frames := 3, cells := 0, slots := 0, locals := 73 }) [.ref (G.1 0)] σ o := by
  refine met_of (Qc := fun A => QI D (tyG G) (wM G) A o) pn_X8 (Nat.le_of_ble_eq_true rfl) (fun p e s m below meth c A ls C hr h hl => ?_)
  have C : Cx p s m _ meth c cX8_takeHouse 3 RX8 D (tyG G) := C
  have hl : lv_has ls 3 [(0, .ref (G.1 0))] := hl
  unfold f_X8_takeHouse at hf
  have hx := C.1
  have hb := C.2.1
  refine lv_aload_n hx hb dX8_takeHouse_0 rfl (lv_at hl 0 rfl) ?_
  refine gf_X8_183 C h dX8_takeHouse_1 ?_
  refine nm_el hf (fun z1 ez1 hf => ?_)
  refine x_topi ez1 ?_
  refine lv_istore_n (lv' := [(1, .int z1), (0, .ref (G.1 0))]) hx hb dX8_takeHouse_4 rfl hl (by decide) rfl (fun ls hl => ?_)
  refine lv_aload_n hx hb dX8_takeHouse_5 rfl (lv_at hl 1 rfl) ?_
  refine lv_dup hx hb dX8_takeHouse_6 rfl ?_
  refine gf_X8_183 C h dX8_takeHouse_7 ?_
  refine lv_iconst (v := 1) hx hb dX8_takeHouse_10 (by decide) ?_
  refine lv_iadd hx hb dX8_takeHouse_11 ?_
  refine nm_el hf (fun σ2 hσ2 hf => ?_)
  refine pf_X8_183 C h dX8_takeHouse_12 hσ2 (fun H locs h => ?_)
  refine lv_aload_n hx hb dX8_takeHouse_15 rfl (lv_at hl 1 rfl) ?_
  refine lv_aload_n hx hb dX8_takeHouse_16 rfl (lv_at hl 1 rfl) ?_
  refine gf_X8_62 C h dX8_takeHouse_17 ?_
  refine lv_iload_n hx hb dX8_takeHouse_20 rfl (lv_at hl 0 rfl) ?_
  refine lv_iconst (v := 1) hx hb dX8_takeHouse_21 (by decide) ?_
  refine lv_bipush (v := 7) hx hb dX8_takeHouse_22 (by decide) ?_
  refine bd_el hf (fun r5 σ3 ho4 hf => ?_)
  refine x_goi h (x_runV (As := [.ref (G.1 14), .int z1, .int 1, .int 7]) (rest := []) C h (c_X8_into l D G 14 5 ⟨(by decide), aM_14 G⟩ z1 1 7 σ2 (r5, σ3) ho4 _) lk_X8_186 rfl ⟨rfl, rfl, Nat.le_of_ble_eq_true rfl, Nat.le_of_ble_eq_true rfl⟩ (x_rcv C h 0 (by decide) (oM G _ _) rfl) hl.1 rfl (Nat.le_of_ble_eq_true rfl) dX8_takeHouse_24) (fun H locs h => ?_)
  refine lv_istore_n (lv' := [(2, .int r5), (1, .int z1), (0, .ref (G.1 0))]) hx hb dX8_takeHouse_27 rfl hl (by decide) rfl (fun ls hl => ?_)
  refine lv_iload_n hx hb dX8_takeHouse_28 rfl (lv_at hl 0 rfl) ?_
  refine lv_if_le (tgt := 36) hx hb dX8_takeHouse_29 (by decide) (fun c6 => ?_) (fun c6 => ?_)
  · have hf := ifT c6 hf
    refine lv_aload_n hx hb dX8_takeHouse_36 rfl (lv_at hl 2 rfl) ?_
    refine lv_aload_n hx hb dX8_takeHouse_37 rfl (lv_at hl 2 rfl) ?_
    refine gf_X8_65 C h dX8_takeHouse_38 ?_
    refine lv_iload_n hx hb dX8_takeHouse_41 rfl (lv_at hl 1 rfl) ?_
    refine lv_iconst (v := 0) hx hb dX8_takeHouse_42 (by decide) ?_
    refine lv_sipush (v := 999) hx hb dX8_takeHouse_43 (by decide) ?_
    refine bd_el hf (fun r9 σ7 ho8 hf => ?_)
    refine x_goi h (x_runV (As := [.ref (G.1 15), .int z1, .int 0, .int 999]) (rest := []) C h (c_X8_into l D G 15 5 ⟨(by decide), aM_15 G⟩ z1 0 999 σ3 (r9, σ7) ho8 _) lk_X8_186 rfl ⟨rfl, rfl, Nat.le_of_ble_eq_true rfl, Nat.le_of_ble_eq_true rfl⟩ (x_rcv C h 0 (by decide) (oM G _ _) rfl) hl.1 rfl (Nat.le_of_ble_eq_true rfl) dX8_takeHouse_46) (fun H locs h => ?_)
    exact t_X8_takeHouse_49 C hr z1 r9 σ7 _ _ _ h (lv_sub hl [2, 1] rfl) hf
  · have hf := ifF c6 hf
    refine lv_iload_n hx hb dX8_takeHouse_32 rfl (lv_at hl 0 rfl) ?_
    refine lv_goto (tgt := 49) hx hb dX8_takeHouse_33 (by decide) ?_
    exact t_X8_takeHouse_49 C hr z1 r5 σ3 _ _ _ h (lv_sub hl [2, 1] rfl) hf
def f_X8_takeSleeper_75   (x1 : Int32) (y0 : Int32) (σ : St) : Option (Int32 × St) := if y0 ≤ 0 then bd (f_X8_into 20 8 x1 0 9 σ) (fun r17 σ15 => some (r17, σ15)) else some (y0, σ)
set_option maxHeartbeats 4000000 in
theorem t_X8_takeSleeper_75 (C : Cx p s m args meth c cX8_takeSleeper 3 RX8 D (tyG G)) (hr : meth.sig.returnType = (some .int)) {o : Int32 × St}   : ∀ (x1 : Int32) (y0 : Int32) (σ : St) (H : Heap) (locs : List Loc) (ls : Array Slot), Hs D A s.heap (wM G σ) H locs → lv_has ls 3 [(0, .ref (G.1 0)), (1, .int x1)] → f_X8_takeSleeper_75   x1 y0 σ = some o → W p l e ({ frames := 3, cells := 0, slots := 0, locals := 73 } : Room) s m args below meth c H locs 0 0 (MQ below (QI D (tyG G) (wM G) A o) args s 0 0 A) (F0 m 75 ls [.int y0]) := by
  intro x1 y0 σ H locs ls h hl hf
  unfold f_X8_takeSleeper_75 at hf
  have hx := C.1
  have hb := C.2.1
  refine lv_istore_n (lv' := [(2, .int y0), (0, .ref (G.1 0)), (1, .int x1)]) hx hb dX8_takeSleeper_75 rfl hl (by decide) rfl (fun ls hl => ?_)
  refine lv_iload_n hx hb dX8_takeSleeper_76 rfl (lv_at hl 0 rfl) ?_
  refine lv_if_le (tgt := 84) hx hb dX8_takeSleeper_77 (by decide) (fun c14 => ?_) (fun c14 => ?_)
  · have hf := ifT c14 hf
    refine lv_aload_n hx hb dX8_takeSleeper_84 rfl (lv_at hl 1 rfl) ?_
    refine lv_aload_n hx hb dX8_takeSleeper_85 rfl (lv_at hl 1 rfl) ?_
    refine gf_X8_80 C h dX8_takeSleeper_86 ?_
    refine lv_iload_n hx hb dX8_takeSleeper_89 rfl (lv_at hl 2 rfl) ?_
    refine lv_iconst (v := 0) hx hb dX8_takeSleeper_90 (by decide) ?_
    refine lv_bipush (v := 9) hx hb dX8_takeSleeper_91 (by decide) ?_
    refine bd_el hf (fun r17 σ15 ho16 hf => ?_)
    refine x_goi h (x_runV (As := [.ref (G.1 20), .int x1, .int 0, .int 9]) (rest := []) C h (c_X8_into l D G 20 8 ⟨(by decide), aM_20 G⟩ x1 0 9 σ (r17, σ15) ho16 _) lk_X8_186 rfl ⟨rfl, rfl, Nat.le_of_ble_eq_true rfl, Nat.le_of_ble_eq_true rfl⟩ (x_rcv C h 0 (by decide) (oM G _ _) rfl) hl.1 rfl (Nat.le_of_ble_eq_true rfl) dX8_takeSleeper_93) (fun H locs h => ?_)
    exact x_iret C hr h hf dX8_takeSleeper_96
  · have hf := ifF c14 hf
    refine lv_iload_n hx hb dX8_takeSleeper_80 rfl (lv_at hl 0 rfl) ?_
    refine lv_goto (tgt := 96) hx hb dX8_takeSleeper_81 (by decide) ?_
    exact x_iret C hr h hf dX8_takeSleeper_96
def f_X8_takeSleeper_54   (x1 : Int32) (y0 : Int32) (σ : St) : Option (Int32 × St) := if y0 ≤ 0 then bd (f_X8_into 19 8 x1 0 59 σ) (fun r13 σ11 => f_X8_takeSleeper_75 x1 r13 σ11) else f_X8_takeSleeper_75 x1 y0 σ
set_option maxHeartbeats 4000000 in
theorem t_X8_takeSleeper_54 (C : Cx p s m args meth c cX8_takeSleeper 3 RX8 D (tyG G)) (hr : meth.sig.returnType = (some .int)) {o : Int32 × St}   : ∀ (x1 : Int32) (y0 : Int32) (σ : St) (H : Heap) (locs : List Loc) (ls : Array Slot), Hs D A s.heap (wM G σ) H locs → lv_has ls 3 [(0, .ref (G.1 0)), (1, .int x1)] → f_X8_takeSleeper_54   x1 y0 σ = some o → W p l e ({ frames := 3, cells := 0, slots := 0, locals := 73 } : Room) s m args below meth c H locs 0 0 (MQ below (QI D (tyG G) (wM G) A o) args s 0 0 A) (F0 m 54 ls [.int y0]) := by
  intro x1 y0 σ H locs ls h hl hf
  unfold f_X8_takeSleeper_54 at hf
  have hx := C.1
  have hb := C.2.1
  refine lv_istore_n (lv' := [(2, .int y0), (0, .ref (G.1 0)), (1, .int x1)]) hx hb dX8_takeSleeper_54 rfl hl (by decide) rfl (fun ls hl => ?_)
  refine lv_iload_n hx hb dX8_takeSleeper_55 rfl (lv_at hl 0 rfl) ?_
  refine lv_if_le (tgt := 63) hx hb dX8_takeSleeper_56 (by decide) (fun c10 => ?_) (fun c10 => ?_)
  · have hf := ifT c10 hf
    refine lv_aload_n hx hb dX8_takeSleeper_63 rfl (lv_at hl 1 rfl) ?_
    refine lv_aload_n hx hb dX8_takeSleeper_64 rfl (lv_at hl 1 rfl) ?_
    refine gf_X8_77 C h dX8_takeSleeper_65 ?_
    refine lv_iload_n hx hb dX8_takeSleeper_68 rfl (lv_at hl 2 rfl) ?_
    refine lv_iconst (v := 0) hx hb dX8_takeSleeper_69 (by decide) ?_
    refine lv_bipush (v := 59) hx hb dX8_takeSleeper_70 (by decide) ?_
    refine bd_el hf (fun r13 σ11 ho12 hf => ?_)
    refine x_goi h (x_runV (As := [.ref (G.1 19), .int x1, .int 0, .int 59]) (rest := []) C h (c_X8_into l D G 19 8 ⟨(by decide), aM_19 G⟩ x1 0 59 σ (r13, σ11) ho12 _) lk_X8_186 rfl ⟨rfl, rfl, Nat.le_of_ble_eq_true rfl, Nat.le_of_ble_eq_true rfl⟩ (x_rcv C h 0 (by decide) (oM G _ _) rfl) hl.1 rfl (Nat.le_of_ble_eq_true rfl) dX8_takeSleeper_72) (fun H locs h => ?_)
    exact t_X8_takeSleeper_75 C hr x1 r13 σ11 _ _ _ h (lv_sub hl [1, 2] rfl) hf
  · have hf := ifF c10 hf
    refine lv_iload_n hx hb dX8_takeSleeper_59 rfl (lv_at hl 0 rfl) ?_
    refine lv_goto (tgt := 75) hx hb dX8_takeSleeper_60 (by decide) ?_
    exact t_X8_takeSleeper_75 C hr x1 y0 σ _ _ _ h (lv_sub hl [1, 2] rfl) hf
def f_X8_takeSleeper   (σ : St) : Option (Int32 × St) := nm (σ.1 0 34) (fun z1 => nm (sI σ 0 34 ((σ.1 0 34) + 1)) (fun σ2 => bd (f_X8_into 17 8 z1 0 ((σ2.1 0 30) - 1) σ2) (fun r5 σ3 => if r5 ≤ 0 then bd (f_X8_into 18 8 z1 60 600 σ3) (fun r9 σ7 => f_X8_takeSleeper_54 z1 r9 σ7) else f_X8_takeSleeper_54 z1 r5 σ3)))
set_option maxHeartbeats 4000000 in
theorem c_X8_takeSleeper (l : Launch) (D : va_G) (G : Geo)    (σ : St) (o : Int32 × St) (hf : f_X8_takeSleeper   σ = some o) : CI l D (tyG G) (wM G) yX8_takeSleeper cX8_takeSleeper 3 ((some .int)) ({ frames := 3, cells := 0, slots := 0, locals := 73 }) [.ref (G.1 0)] σ o := by
  refine met_of (Qc := fun A => QI D (tyG G) (wM G) A o) pn_X8 (Nat.le_of_ble_eq_true rfl) (fun p e s m below meth c A ls C hr h hl => ?_)
  have C : Cx p s m _ meth c cX8_takeSleeper 3 RX8 D (tyG G) := C
  have hl : lv_has ls 3 [(0, .ref (G.1 0))] := hl
  unfold f_X8_takeSleeper at hf
  have hx := C.1
  have hb := C.2.1
  refine lv_aload_n hx hb dX8_takeSleeper_0 rfl (lv_at hl 0 rfl) ?_
  refine gf_X8_190 C h dX8_takeSleeper_1 ?_
  refine nm_el hf (fun z1 ez1 hf => ?_)
  refine x_topi ez1 ?_
  refine lv_istore_n (lv' := [(1, .int z1), (0, .ref (G.1 0))]) hx hb dX8_takeSleeper_4 rfl hl (by decide) rfl (fun ls hl => ?_)
  refine lv_aload_n hx hb dX8_takeSleeper_5 rfl (lv_at hl 1 rfl) ?_
  refine lv_dup hx hb dX8_takeSleeper_6 rfl ?_
  refine gf_X8_190 C h dX8_takeSleeper_7 ?_
  refine lv_iconst (v := 1) hx hb dX8_takeSleeper_10 (by decide) ?_
  refine lv_iadd hx hb dX8_takeSleeper_11 ?_
  refine nm_el hf (fun σ2 hσ2 hf => ?_)
  refine pf_X8_190 C h dX8_takeSleeper_12 hσ2 (fun H locs h => ?_)
  refine lv_aload_n hx hb dX8_takeSleeper_15 rfl (lv_at hl 1 rfl) ?_
  refine lv_aload_n hx hb dX8_takeSleeper_16 rfl (lv_at hl 1 rfl) ?_
  refine gf_X8_71 C h dX8_takeSleeper_17 ?_
  refine lv_iload_n hx hb dX8_takeSleeper_20 rfl (lv_at hl 0 rfl) ?_
  refine lv_iconst (v := 0) hx hb dX8_takeSleeper_21 (by decide) ?_
  refine lv_aload_n hx hb dX8_takeSleeper_22 rfl (lv_at hl 1 rfl) ?_
  refine gf_X8_183 C h dX8_takeSleeper_23 ?_
  refine lv_iconst (v := 1) hx hb dX8_takeSleeper_26 (by decide) ?_
  refine lv_isub hx hb dX8_takeSleeper_27 ?_
  refine bd_el hf (fun r5 σ3 ho4 hf => ?_)
  refine x_goi h (x_runV (As := [.ref (G.1 17), .int z1, .int 0, .int ((σ2.1 0 30) - 1)]) (rest := []) C h (c_X8_into l D G 17 8 ⟨(by decide), aM_17 G⟩ z1 0 ((σ2.1 0 30) - 1) σ2 (r5, σ3) ho4 _) lk_X8_186 rfl ⟨rfl, rfl, Nat.le_of_ble_eq_true rfl, Nat.le_of_ble_eq_true rfl⟩ (x_rcv C h 0 (by decide) (oM G _ _) rfl) hl.1 rfl (Nat.le_of_ble_eq_true rfl) dX8_takeSleeper_28) (fun H locs h => ?_)
  refine lv_istore_n (lv' := [(2, .int r5), (1, .int z1), (0, .ref (G.1 0))]) hx hb dX8_takeSleeper_31 rfl hl (by decide) rfl (fun ls hl => ?_)
  refine lv_iload_n hx hb dX8_takeSleeper_32 rfl (lv_at hl 0 rfl) ?_
  refine lv_if_le (tgt := 40) hx hb dX8_takeSleeper_33 (by decide) (fun c6 => ?_) (fun c6 => ?_)
  · have hf := ifT c6 hf
    refine lv_aload_n hx hb dX8_takeSleeper_40 rfl (lv_at hl 2 rfl) ?_
    refine lv_aload_n hx hb dX8_takeSleeper_41 rfl (lv_at hl 2 rfl) ?_
    refine gf_X8_74 C h dX8_takeSleeper_42 ?_
    refine lv_iload_n hx hb dX8_takeSleeper_45 rfl (lv_at hl 1 rfl) ?_
    refine lv_bipush (v := 60) hx hb dX8_takeSleeper_46 (by decide) ?_
    refine lv_sipush (v := 600) hx hb dX8_takeSleeper_48 (by decide) ?_
    refine bd_el hf (fun r9 σ7 ho8 hf => ?_)
    refine x_goi h (x_runV (As := [.ref (G.1 18), .int z1, .int 60, .int 600]) (rest := []) C h (c_X8_into l D G 18 8 ⟨(by decide), aM_18 G⟩ z1 60 600 σ3 (r9, σ7) ho8 _) lk_X8_186 rfl ⟨rfl, rfl, Nat.le_of_ble_eq_true rfl, Nat.le_of_ble_eq_true rfl⟩ (x_rcv C h 0 (by decide) (oM G _ _) rfl) hl.1 rfl (Nat.le_of_ble_eq_true rfl) dX8_takeSleeper_51) (fun H locs h => ?_)
    exact t_X8_takeSleeper_54 C hr z1 r9 σ7 _ _ _ h (lv_sub hl [2, 1] rfl) hf
  · have hf := ifF c6 hf
    refine lv_iload_n hx hb dX8_takeSleeper_36 rfl (lv_at hl 0 rfl) ?_
    refine lv_goto (tgt := 54) hx hb dX8_takeSleeper_37 (by decide) ?_
    exact t_X8_takeSleeper_54 C hr z1 r5 σ3 _ _ _ h (lv_sub hl [2, 1] rfl) hf
def f_X8_takeClause_160   (x2 : Int32) (σ : St) : Option (Int32 × St) := nm (sI σ 0 25 ((σ.1 0 25) + 1)) (fun σ46 => some (x2, σ46))
set_option maxHeartbeats 4000000 in
theorem t_X8_takeClause_160 (C : Cx p s m args meth c cX8_takeClause 3 RX8 D (tyG G)) (hr : meth.sig.returnType = (some .int)) {o : Int32 × St}   : ∀ (x2 : Int32) (σ : St) (H : Heap) (locs : List Loc) (ls : Array Slot), Hs D A s.heap (wM G σ) H locs → lv_has ls 3 [(0, .ref (G.1 0)), (2, .int x2)] → f_X8_takeClause_160   x2 σ = some o → W p l e ({ frames := 4, cells := 0, slots := 0, locals := 95 } : Room) s m args below meth c H locs 0 0 (MQ below (QI D (tyG G) (wM G) A o) args s 0 0 A) (F0 m 160 ls []) := by
  intro x2 σ H locs ls h hl hf
  unfold f_X8_takeClause_160 at hf
  have hx := C.1
  have hb := C.2.1
  refine lv_aload_n hx hb dX8_takeClause_160 rfl (lv_at hl 0 rfl) ?_
  refine lv_dup hx hb dX8_takeClause_161 rfl ?_
  refine gf_X8_140 C h dX8_takeClause_162 ?_
  refine lv_iconst (v := 1) hx hb dX8_takeClause_165 (by decide) ?_
  refine lv_iadd hx hb dX8_takeClause_166 ?_
  refine nm_el hf (fun σ46 hσ46 hf => ?_)
  refine pf_X8_140 C h dX8_takeClause_167 hσ46 (fun H locs h => ?_)
  refine lv_iload_n hx hb dX8_takeClause_170 rfl (lv_at hl 1 rfl) ?_
  exact x_iret C hr h hf dX8_takeClause_171
def f_X8_takeClause_136   (y0 : Int32) (σ : St) : Option (Int32 × St) := if y0 = 0 then bd (f_X8_here σ) (fun r41 σ39 => if r41 = 59 then f_X8_takeClause_160 y0 σ39 else bd (f_X8_fails 1 (σ39.1 0 25) σ39) (fun r45 σ43 => some (r45, σ43))) else f_X8_takeClause_160 y0 σ
set_option maxHeartbeats 4000000 in
theorem t_X8_takeClause_136 (C : Cx p s m args meth c cX8_takeClause 3 RX8 D (tyG G)) (hr : meth.sig.returnType = (some .int)) {o : Int32 × St}   : ∀ (y0 : Int32) (σ : St) (H : Heap) (locs : List Loc) (ls : Array Slot), Hs D A s.heap (wM G σ) H locs → lv_has ls 3 [(0, .ref (G.1 0))] → f_X8_takeClause_136   y0 σ = some o → W p l e ({ frames := 4, cells := 0, slots := 0, locals := 95 } : Room) s m args below meth c H locs 0 0 (MQ below (QI D (tyG G) (wM G) A o) args s 0 0 A) (F0 m 136 ls [.int y0]) := by
  intro y0 σ H locs ls h hl hf
  unfold f_X8_takeClause_136 at hf
  have hx := C.1
  have hb := C.2.1
  refine lv_istore_n (lv' := [(2, .int y0), (0, .ref (G.1 0))]) hx hb dX8_takeClause_136 rfl hl (by decide) rfl (fun ls hl => ?_)
  refine lv_iload_n hx hb dX8_takeClause_137 rfl (lv_at hl 0 rfl) ?_
  refine lv_if_ne (tgt := 160) hx hb dX8_takeClause_138 (by decide) (fun c38 => ?_) (fun c38 => ?_)
  · have hf := ifF c38 hf
    exact t_X8_takeClause_160 C hr y0 σ _ _ _ h (lv_sub hl [1, 0] rfl) hf
  · have hf := ifT c38 hf
    refine lv_aload_n hx hb dX8_takeClause_141 rfl (lv_at hl 1 rfl) ?_
    refine bd_el hf (fun r41 σ39 ho40 hf => ?_)
    refine x_goi h (x_runV (As := []) (rest := []) C h (c_X8_here l D G σ (r41, σ39) ho40 _) lk_X8_143 rfl ⟨rfl, rfl, Nat.le_of_ble_eq_true rfl, Nat.le_of_ble_eq_true rfl⟩ (x_rcv C h 0 (by decide) (oM G _ _) rfl) hl.1 rfl (Nat.le_of_ble_eq_true rfl) dX8_takeClause_142) (fun H locs h => ?_)
    refine lv_bipush (v := 59) hx hb dX8_takeClause_145 (by decide) ?_
    refine lv_icmp_eq (tgt := 160) hx hb dX8_takeClause_147 (by decide) (fun c42 => ?_) (fun c42 => ?_)
    · have hf := ifT c42 hf
      exact t_X8_takeClause_160 C hr y0 σ39 _ _ _ h (lv_sub hl [1, 0] rfl) hf
    · have hf := ifF c42 hf
      refine lv_aload_n hx hb dX8_takeClause_150 rfl (lv_at hl 1 rfl) ?_
      refine lv_iconst (v := 1) hx hb dX8_takeClause_151 (by decide) ?_
      refine lv_aload_n hx hb dX8_takeClause_152 rfl (lv_at hl 1 rfl) ?_
      refine gf_X8_140 C h dX8_takeClause_153 ?_
      refine bd_el hf (fun r45 σ43 ho44 hf => ?_)
      refine x_goi h (x_runV (As := [.int 1, .int (σ39.1 0 25)]) (rest := []) C h (c_X8_fails l D G 1 (σ39.1 0 25) σ39 (r45, σ43) ho44 _) lk_X8_170 rfl ⟨rfl, rfl, Nat.le_of_ble_eq_true rfl, Nat.le_of_ble_eq_true rfl⟩ (x_rcv C h 0 (by decide) (oM G _ _) rfl) hl.1 rfl (Nat.le_of_ble_eq_true rfl) dX8_takeClause_156) (fun H locs h => ?_)
      exact x_iret C hr h hf dX8_takeClause_159
def f_X8_takeClause_113   (x1 : Int32) (σ : St) : Option (Int32 × St) := nm (sI σ 0 25 (σ.1 0 27)) (fun σ27 => if x1 = 0 then bd (f_X8_takeSleeper σ27) (fun r31 σ29 => f_X8_takeClause_136 r31 σ29) else bd (f_X8_takeHouse σ27) (fun r34 σ32 => f_X8_takeClause_136 r34 σ32))
set_option maxHeartbeats 4000000 in
theorem t_X8_takeClause_113 (C : Cx p s m args meth c cX8_takeClause 3 RX8 D (tyG G)) (hr : meth.sig.returnType = (some .int)) {o : Int32 × St}   : ∀ (x1 : Int32) (σ : St) (H : Heap) (locs : List Loc) (ls : Array Slot), Hs D A s.heap (wM G σ) H locs → lv_has ls 3 [(0, .ref (G.1 0)), (1, .int x1)] → f_X8_takeClause_113   x1 σ = some o → W p l e ({ frames := 4, cells := 0, slots := 0, locals := 95 } : Room) s m args below meth c H locs 0 0 (MQ below (QI D (tyG G) (wM G) A o) args s 0 0 A) (F0 m 113 ls []) := by
  intro x1 σ H locs ls h hl hf
  unfold f_X8_takeClause_113 at hf
  have hx := C.1
  have hb := C.2.1
  refine lv_aload_n hx hb dX8_takeClause_113 rfl (lv_at hl 0 rfl) ?_
  refine lv_aload_n hx hb dX8_takeClause_114 rfl (lv_at hl 0 rfl) ?_
  refine gf_X8_151 C h dX8_takeClause_115 ?_
  refine nm_el hf (fun σ27 hσ27 hf => ?_)
  refine pf_X8_140 C h dX8_takeClause_118 hσ27 (fun H locs h => ?_)
  refine lv_iload_n hx hb dX8_takeClause_121 rfl (lv_at hl 1 rfl) ?_
  refine lv_if_eq (tgt := 132) hx hb dX8_takeClause_122 (by decide) (fun c28 => ?_) (fun c28 => ?_)
  · have hf := ifT c28 hf
    refine lv_aload_n hx hb dX8_takeClause_132 rfl (lv_at hl 0 rfl) ?_
    refine bd_el hf (fun r31 σ29 ho30 hf => ?_)
    refine x_goi h (x_runV (As := []) (rest := []) C h (c_X8_takeSleeper l D G σ27 (r31, σ29) ho30 _) lk_X8_207 rfl ⟨rfl, rfl, Nat.le_of_ble_eq_true rfl, Nat.le_of_ble_eq_true rfl⟩ (x_rcv C h 0 (by decide) (oM G _ _) rfl) hl.1 rfl (Nat.le_of_ble_eq_true rfl) dX8_takeClause_133) (fun H locs h => ?_)
    exact t_X8_takeClause_136 C hr r31 σ29 _ _ _ h (lv_sub hl [0] rfl) hf
  · have hf := ifF c28 hf
    refine lv_aload_n hx hb dX8_takeClause_125 rfl (lv_at hl 0 rfl) ?_
    refine bd_el hf (fun r34 σ32 ho33 hf => ?_)
    refine x_goi h (x_runV (As := []) (rest := []) C h (c_X8_takeHouse l D G σ27 (r34, σ32) ho33 _) lk_X8_204 rfl ⟨rfl, rfl, Nat.le_of_ble_eq_true rfl, Nat.le_of_ble_eq_true rfl⟩ (x_rcv C h 0 (by decide) (oM G _ _) rfl) hl.1 rfl (Nat.le_of_ble_eq_true rfl) dX8_takeClause_126) (fun H locs h => ?_)
    refine lv_goto (tgt := 136) hx hb dX8_takeClause_129 (by decide) ?_
    exact t_X8_takeClause_136 C hr r34 σ32 _ _ _ h (lv_sub hl [0] rfl) hf
def f_X8_takeClause_103    (σ : St) : Option (Int32 × St) := bd (f_X8_fails 3 (σ.1 0 25) σ) (fun r37 σ35 => some (r37, σ35))
set_option maxHeartbeats 4000000 in
theorem t_X8_takeClause_103 (C : Cx p s m args meth c cX8_takeClause 3 RX8 D (tyG G)) (hr : meth.sig.returnType = (some .int)) {o : Int32 × St}   : ∀  (σ : St) (H : Heap) (locs : List Loc) (ls : Array Slot), Hs D A s.heap (wM G σ) H locs → lv_has ls 3 [(0, .ref (G.1 0))] → f_X8_takeClause_103    σ = some o → W p l e ({ frames := 4, cells := 0, slots := 0, locals := 95 } : Room) s m args below meth c H locs 0 0 (MQ below (QI D (tyG G) (wM G) A o) args s 0 0 A) (F0 m 103 ls []) := by
  intro  σ H locs ls h hl hf
  unfold f_X8_takeClause_103 at hf
  have hx := C.1
  have hb := C.2.1
  refine lv_aload_n hx hb dX8_takeClause_103 rfl (lv_at hl 0 rfl) ?_
  refine lv_iconst (v := 3) hx hb dX8_takeClause_104 (by decide) ?_
  refine lv_aload_n hx hb dX8_takeClause_105 rfl (lv_at hl 0 rfl) ?_
  refine gf_X8_140 C h dX8_takeClause_106 ?_
  refine bd_el hf (fun r37 σ35 ho36 hf => ?_)
  refine x_goi h (x_runV (As := [.int 3, .int (σ.1 0 25)]) (rest := []) C h (c_X8_fails l D G 3 (σ.1 0 25) σ (r37, σ35) ho36 _) lk_X8_170 rfl ⟨rfl, rfl, Nat.le_of_ble_eq_true rfl, Nat.le_of_ble_eq_true rfl⟩ (x_rcv C h 0 (by decide) (oM G _ _) rfl) hl.1 rfl (Nat.le_of_ble_eq_true rfl) dX8_takeClause_109) (fun H locs h => ?_)
  exact x_iret C hr h hf dX8_takeClause_112
def f_X8_takeClause_79   (x1 : Int32) (σ : St) : Option (Int32 × St) := if x1 = 0 then if (σ.1 0 34) = 8 then f_X8_takeClause_103 σ else f_X8_takeClause_113 x1 σ else if (σ.1 0 30) = 5 then f_X8_takeClause_103 σ else f_X8_takeClause_113 x1 σ
set_option maxHeartbeats 4000000 in
theorem t_X8_takeClause_79 (C : Cx p s m args meth c cX8_takeClause 3 RX8 D (tyG G)) (hr : meth.sig.returnType = (some .int)) {o : Int32 × St}   : ∀ (x1 : Int32) (σ : St) (H : Heap) (locs : List Loc) (ls : Array Slot), Hs D A s.heap (wM G σ) H locs → lv_has ls 3 [(0, .ref (G.1 0)), (1, .int x1)] → f_X8_takeClause_79   x1 σ = some o → W p l e ({ frames := 4, cells := 0, slots := 0, locals := 95 } : Room) s m args below meth c H locs 0 0 (MQ below (QI D (tyG G) (wM G) A o) args s 0 0 A) (F0 m 79 ls []) := by
  intro x1 σ H locs ls h hl hf
  unfold f_X8_takeClause_79 at hf
  have hx := C.1
  have hb := C.2.1
  refine lv_iload_n hx hb dX8_takeClause_79 rfl (lv_at hl 1 rfl) ?_
  refine lv_if_eq (tgt := 94) hx hb dX8_takeClause_80 (by decide) (fun c24 => ?_) (fun c24 => ?_)
  · have hf := ifT c24 hf
    refine lv_aload_n hx hb dX8_takeClause_94 rfl (lv_at hl 0 rfl) ?_
    refine gf_X8_190 C h dX8_takeClause_95 ?_
    refine lv_bipush (v := 8) hx hb dX8_takeClause_98 (by decide) ?_
    refine lv_icmp_ne (tgt := 113) hx hb dX8_takeClause_100 (by decide) (fun c25 => ?_) (fun c25 => ?_)
    · have hf := ifF c25 hf
      exact t_X8_takeClause_113 C hr x1 σ _ _ _ h (lv_sub hl [0, 1] rfl) hf
    · have hf := ifT c25 hf
      exact t_X8_takeClause_103 C hr σ _ _ _ h (lv_sub hl [0] rfl) hf
  · have hf := ifF c24 hf
    refine lv_aload_n hx hb dX8_takeClause_83 rfl (lv_at hl 0 rfl) ?_
    refine gf_X8_183 C h dX8_takeClause_84 ?_
    refine lv_iconst (v := 5) hx hb dX8_takeClause_87 (by decide) ?_
    refine lv_icmp_ne (tgt := 113) hx hb dX8_takeClause_88 (by decide) (fun c26 => ?_) (fun c26 => ?_)
    · have hf := ifF c26 hf
      exact t_X8_takeClause_113 C hr x1 σ _ _ _ h (lv_sub hl [0, 1] rfl) hf
    · have hf := ifT c26 hf
      refine lv_goto (tgt := 103) hx hb dX8_takeClause_91 (by decide) ?_
      exact t_X8_takeClause_103 C hr σ _ _ _ h (lv_sub hl [0] rfl) hf
def f_X8_takeClause_33   (y0 : Int32) (σ : St) : Option (Int32 × St) := if y0 = 0 then bd (f_X8_code 115 108 101 σ) (fun r13 σ11 => bd (f_X8_longer r13 101 112 σ11) (fun r16 σ14 => bd (f_X8_longer r16 101 114 σ14) (fun r19 σ17 => if (lg_cmp (σ.2 0 26) r19) = 0 then f_X8_takeClause_79 y0 σ17 else bd (f_X8_fails 1 (σ17.1 0 25) σ17) (fun r23 σ21 => some (r23, σ21))))) else f_X8_takeClause_79 y0 σ
set_option maxHeartbeats 4000000 in
theorem t_X8_takeClause_33 (C : Cx p s m args meth c cX8_takeClause 3 RX8 D (tyG G)) (hr : meth.sig.returnType = (some .int)) {o : Int32 × St}   : ∀ (y0 : Int32) (σ : St) (H : Heap) (locs : List Loc) (ls : Array Slot), Hs D A s.heap (wM G σ) H locs → lv_has ls 3 [(0, .ref (G.1 0))] → f_X8_takeClause_33   y0 σ = some o → W p l e ({ frames := 4, cells := 0, slots := 0, locals := 95 } : Room) s m args below meth c H locs 0 0 (MQ below (QI D (tyG G) (wM G) A o) args s 0 0 A) (F0 m 33 ls [.int y0]) := by
  intro y0 σ H locs ls h hl hf
  unfold f_X8_takeClause_33 at hf
  have hx := C.1
  have hb := C.2.1
  refine lv_istore_n (lv' := [(1, .int y0), (0, .ref (G.1 0))]) hx hb dX8_takeClause_33 rfl hl (by decide) rfl (fun ls hl => ?_)
  refine lv_iload_n hx hb dX8_takeClause_34 rfl (lv_at hl 0 rfl) ?_
  refine lv_if_ne (tgt := 79) hx hb dX8_takeClause_35 (by decide) (fun c10 => ?_) (fun c10 => ?_)
  · have hf := ifF c10 hf
    exact t_X8_takeClause_79 C hr y0 σ _ _ _ h (lv_sub hl [1, 0] rfl) hf
  · have hf := ifT c10 hf
    refine lv_aload_n hx hb dX8_takeClause_38 rfl (lv_at hl 1 rfl) ?_
    refine gf_X8_147 C h dX8_takeClause_39 ?_
    refine lv_bipush (v := 115) hx hb dX8_takeClause_42 (by decide) ?_
    refine lv_bipush (v := 108) hx hb dX8_takeClause_44 (by decide) ?_
    refine lv_bipush (v := 101) hx hb dX8_takeClause_46 (by decide) ?_
    refine bd_el hf (fun r13 σ11 ho12 hf => ?_)
    refine x_gol h (x_runS (As := [.int 115, .int 108, .int 101]) (rest := [.long (σ.2 0 26)]) C h (c_X8_code l D G 115 108 101 σ (r13, σ11) ho12 _) lk_X8_196 rfl ⟨rfl, rfl, Nat.le_of_ble_eq_true rfl, Nat.le_of_ble_eq_true rfl⟩ hl.1 rfl (Nat.le_of_ble_eq_true rfl) dX8_takeClause_48) (fun H locs h => ?_)
    refine lv_bipush (v := 101) hx hb dX8_takeClause_51 (by decide) ?_
    refine lv_bipush (v := 112) hx hb dX8_takeClause_53 (by decide) ?_
    refine bd_el hf (fun r16 σ14 ho15 hf => ?_)
    refine x_gol h (x_runS (As := [.long r13, .int 101, .int 112]) (rest := [.long (σ.2 0 26)]) C h (c_X8_longer l D G r13 101 112 σ11 (r16, σ14) ho15 _) lk_X8_200 rfl ⟨rfl, rfl, Nat.le_of_ble_eq_true rfl, Nat.le_of_ble_eq_true rfl⟩ hl.1 rfl (Nat.le_of_ble_eq_true rfl) dX8_takeClause_55) (fun H locs h => ?_)
    refine lv_bipush (v := 101) hx hb dX8_takeClause_58 (by decide) ?_
    refine lv_bipush (v := 114) hx hb dX8_takeClause_60 (by decide) ?_
    refine bd_el hf (fun r19 σ17 ho18 hf => ?_)
    refine x_gol h (x_runS (As := [.long r16, .int 101, .int 114]) (rest := [.long (σ.2 0 26)]) C h (c_X8_longer l D G r16 101 114 σ14 (r19, σ17) ho18 _) lk_X8_200 rfl ⟨rfl, rfl, Nat.le_of_ble_eq_true rfl, Nat.le_of_ble_eq_true rfl⟩ hl.1 rfl (Nat.le_of_ble_eq_true rfl) dX8_takeClause_62) (fun H locs h => ?_)
    refine W.lcmp hx hb dX8_takeClause_65 ?_
    refine lv_if_eq (tgt := 79) hx hb dX8_takeClause_66 (by decide) (fun c20 => ?_) (fun c20 => ?_)
    · have hf := ifT c20 hf
      exact t_X8_takeClause_79 C hr y0 σ17 _ _ _ h (lv_sub hl [1, 0] rfl) hf
    · have hf := ifF c20 hf
      refine lv_aload_n hx hb dX8_takeClause_69 rfl (lv_at hl 1 rfl) ?_
      refine lv_iconst (v := 1) hx hb dX8_takeClause_70 (by decide) ?_
      refine lv_aload_n hx hb dX8_takeClause_71 rfl (lv_at hl 1 rfl) ?_
      refine gf_X8_140 C h dX8_takeClause_72 ?_
      refine bd_el hf (fun r23 σ21 ho22 hf => ?_)
      refine x_goi h (x_runV (As := [.int 1, .int (σ17.1 0 25)]) (rest := []) C h (c_X8_fails l D G 1 (σ17.1 0 25) σ17 (r23, σ21) ho22 _) lk_X8_170 rfl ⟨rfl, rfl, Nat.le_of_ble_eq_true rfl, Nat.le_of_ble_eq_true rfl⟩ (x_rcv C h 0 (by decide) (oM G _ _) rfl) hl.1 rfl (Nat.le_of_ble_eq_true rfl) dX8_takeClause_75) (fun H locs h => ?_)
      exact x_iret C hr h hf dX8_takeClause_78
def f_X8_takeClause   (σ : St) : Option (Int32 × St) := bv (f_X8_readWord σ) (fun σ1 => bd (f_X8_code 104 111 117 σ1) (fun r5 σ3 => bd (f_X8_longer r5 115 101 σ3) (fun r8 σ6 => if (lg_cmp (σ1.2 0 26) r8) = 0 then f_X8_takeClause_33 1 σ6 else f_X8_takeClause_33 0 σ6)))
set_option maxHeartbeats 4000000 in
theorem c_X8_takeClause (l : Launch) (D : va_G) (G : Geo)    (σ : St) (o : Int32 × St) (hf : f_X8_takeClause   σ = some o) : CI l D (tyG G) (wM G) yX8_takeClause cX8_takeClause 3 ((some .int)) ({ frames := 4, cells := 0, slots := 0, locals := 95 }) [.ref (G.1 0)] σ o := by
  refine met_of (Qc := fun A => QI D (tyG G) (wM G) A o) pn_X8 (Nat.le_of_ble_eq_true rfl) (fun p e s m below meth c A ls C hr h hl => ?_)
  have C : Cx p s m _ meth c cX8_takeClause 3 RX8 D (tyG G) := C
  have hl : lv_has ls 3 [(0, .ref (G.1 0))] := hl
  unfold f_X8_takeClause at hf
  have hx := C.1
  have hb := C.2.1
  refine lv_aload_n hx hb dX8_takeClause_0 rfl (lv_at hl 0 rfl) ?_
  refine bv_el hf (fun σ1 ho2 hf => ?_)
  refine x_gov h (x_runV (As := []) (rest := []) C h (c_X8_readWord l D G σ σ1 ho2 _) lk_X8_193 rfl ⟨rfl, rfl, Nat.le_of_ble_eq_true rfl, Nat.le_of_ble_eq_true rfl⟩ (x_rcv C h 0 (by decide) (oM G _ _) rfl) hl.1 rfl (Nat.le_of_ble_eq_true rfl) dX8_takeClause_1) (fun H locs h => ?_)
  refine lv_aload_n hx hb dX8_takeClause_4 rfl (lv_at hl 0 rfl) ?_
  refine gf_X8_147 C h dX8_takeClause_5 ?_
  refine lv_bipush (v := 104) hx hb dX8_takeClause_8 (by decide) ?_
  refine lv_bipush (v := 111) hx hb dX8_takeClause_10 (by decide) ?_
  refine lv_bipush (v := 117) hx hb dX8_takeClause_12 (by decide) ?_
  refine bd_el hf (fun r5 σ3 ho4 hf => ?_)
  refine x_gol h (x_runS (As := [.int 104, .int 111, .int 117]) (rest := [.long (σ1.2 0 26)]) C h (c_X8_code l D G 104 111 117 σ1 (r5, σ3) ho4 _) lk_X8_196 rfl ⟨rfl, rfl, Nat.le_of_ble_eq_true rfl, Nat.le_of_ble_eq_true rfl⟩ hl.1 rfl (Nat.le_of_ble_eq_true rfl) dX8_takeClause_14) (fun H locs h => ?_)
  refine lv_bipush (v := 115) hx hb dX8_takeClause_17 (by decide) ?_
  refine lv_bipush (v := 101) hx hb dX8_takeClause_19 (by decide) ?_
  refine bd_el hf (fun r8 σ6 ho7 hf => ?_)
  refine x_gol h (x_runS (As := [.long r5, .int 115, .int 101]) (rest := [.long (σ1.2 0 26)]) C h (c_X8_longer l D G r5 115 101 σ3 (r8, σ6) ho7 _) lk_X8_200 rfl ⟨rfl, rfl, Nat.le_of_ble_eq_true rfl, Nat.le_of_ble_eq_true rfl⟩ hl.1 rfl (Nat.le_of_ble_eq_true rfl) dX8_takeClause_21) (fun H locs h => ?_)
  refine W.lcmp hx hb dX8_takeClause_24 ?_
  refine lv_if_ne (tgt := 32) hx hb dX8_takeClause_25 (by decide) (fun c9 => ?_) (fun c9 => ?_)
  · have hf := ifF c9 hf
    refine lv_iconst (v := 0) hx hb dX8_takeClause_32 (by decide) ?_
    exact t_X8_takeClause_33 C hr 0 σ6 _ _ _ h (lv_sub hl [0] rfl) hf
  · have hf := ifT c9 hf
    refine lv_iconst (v := 1) hx hb dX8_takeClause_28 (by decide) ?_
    refine lv_goto (tgt := 33) hx hb dX8_takeClause_29 (by decide) ?_
    exact t_X8_takeClause_33 C hr 1 σ6 _ _ _ h (lv_sub hl [0] rfl) hf
def b_X8_valley_122   (rec122 : Int32 × St → Option (Int32 × St)) (x2 : Int32) (σ : St) : Option (Int32 × St) := if (8 : Int32) ≤ x2 then nm (sI σ 0 44 0) (fun σ28 => ck (inb 0 2) (nm (sI σ28 28 (0 : Int32).toNatClampNeg (vp_nar .boolean 0)) (fun σ30 => ck (inb 1 2) (nm (sI σ30 28 (1 : Int32).toNatClampNeg (vp_nar .boolean 0)) (fun σ32 => bv (f_X8_begin σ32) (fun σ33 => some (σ33.1 0 4, σ33))))))) else rd (σ.1 17) 8 x2 (fun v35 => ck (inb x2 8) (nm (sI σ 4 (x2 : Int32).toNatClampNeg v35) (fun σ37 => rd (σ37.1 18) 8 x2 (fun v38 => ck (inb x2 8) (nm (sI σ37 5 (x2 : Int32).toNatClampNeg v38) (fun σ40 => rd (σ40.1 19) 8 x2 (fun v41 => ck (inb x2 8) (nm (sI σ40 6 (x2 : Int32).toNatClampNeg v41) (fun σ43 => rd (σ43.1 20) 8 x2 (fun v44 => ck (inb x2 8) (nm (sI σ43 7 (x2 : Int32).toNatClampNeg v44) (fun σ46 => rec122 (x2 + 1, σ46)))))))))))))
def f_X8_valley_122   (x2 : Int32) (σ : St) : Option (Int32 × St) := lp (fun (rec122 : Int32 × St → Option (Int32 × St)) (q : Int32 × St) => b_X8_valley_122   rec122 (q.1) (q.2)) 100000 (x2, σ)
set_option maxHeartbeats 4000000 in
theorem t_X8_valley_122 (C : Cx p s m args meth c cX8_valley 3 RX8 D (tyG G)) (hr : meth.sig.returnType = (some .int)) {o : Int32 × St}   : ∀ (x2 : Int32) (σ : St) (H : Heap) (locs : List Loc) (ls : Array Slot), Hs D A s.heap (wM G σ) H locs → lv_has ls 3 [(0, .ref (G.1 0)), (2, .int x2)] → f_X8_valley_122   x2 σ = some o → W p l e ({ frames := 5, cells := 0, slots := 0, locals := 117 } : Room) s m args below meth c H locs 0 0 (MQ below (QI D (tyG G) (wM G) A o) args s 0 0 A) (F0 m 122 ls []) := by
  intro x2 σ H locs ls h hl hf
  refine lp_el (P := fun q : Int32 × St => ∀ (H : Heap) (locs : List Loc) (ls : Array Slot), Hs D A s.heap (wM G (q.2)) H locs → lv_has ls 3 [(0, .ref (G.1 0)), (2, .int (q.1))] → W p l e ({ frames := 5, cells := 0, slots := 0, locals := 117 } : Room) s m args below meth c H locs 0 0 (MQ below (QI D (tyG G) (wM G) A o) args s 0 0 A) (F0 m 122 ls [])) (fun rec122 q IH122 hf => ?_) _ (x2, σ) hf H locs ls h hl
  obtain ⟨x2, σ⟩ := q
  intro H locs ls h hl
  have hl : lv_has ls 3 [(0, .ref (G.1 0)), (2, .int x2)] := hl
  have h : Hs D A s.heap (wM G σ) H locs := h
  have hf : b_X8_valley_122   rec122 x2 σ = some o := hf
  unfold b_X8_valley_122 at hf
  have hx := C.1
  have hb := C.2.1
  refine lv_iload_n hx hb dX8_valley_122 rfl (lv_at hl 1 rfl) ?_
  refine lv_bipush (v := 8) hx hb dX8_valley_123 (by decide) ?_
  refine lv_icmp_ge (tgt := 182) hx hb dX8_valley_125 (by decide) (fun c27 => ?_) (fun c27 => ?_)
  · have hf := ifT c27 hf
    refine lv_aload_n hx hb dX8_valley_182 rfl (lv_at hl 0 rfl) ?_
    refine lv_iconst (v := 0) hx hb dX8_valley_183 (by decide) ?_
    refine nm_el hf (fun σ28 hσ28 hf => ?_)
    refine pf_X8_213 C h dX8_valley_184 hσ28 (fun H locs h => ?_)
    refine lv_aload_n hx hb dX8_valley_187 rfl (lv_at hl 0 rfl) ?_
    refine gf_X8_105 C h dX8_valley_188 ?_
    refine lv_iconst (v := 0) hx hb dX8_valley_191 (by decide) ?_
    refine lv_iconst (v := 0) hx hb dX8_valley_192 (by decide) ?_
    refine ckb_el hf (fun hin29 hf => ?_)
    refine nm_el hf (fun σ30 hσ30 hf => ?_)
    refine x_zast C h 28 3 (by decide) (fun f => aM_28 G f _) rfl hin29 dX8_valley_193 hσ30 (fun H locs h => ?_)
    refine lv_aload_n hx hb dX8_valley_194 rfl (lv_at hl 0 rfl) ?_
    refine gf_X8_105 C h dX8_valley_195 ?_
    refine lv_iconst (v := 1) hx hb dX8_valley_198 (by decide) ?_
    refine lv_iconst (v := 0) hx hb dX8_valley_199 (by decide) ?_
    refine ckb_el hf (fun hin31 hf => ?_)
    refine nm_el hf (fun σ32 hσ32 hf => ?_)
    refine x_zast C h 28 3 (by decide) (fun f => aM_28 G f _) rfl hin31 dX8_valley_200 hσ32 (fun H locs h => ?_)
    refine lv_aload_n hx hb dX8_valley_201 rfl (lv_at hl 0 rfl) ?_
    refine bv_el hf (fun σ33 ho34 hf => ?_)
    refine x_gov h (x_runV (As := []) (rest := []) C h (c_X8_begin l D G σ32 σ33 ho34 _) lk_X8_216 rfl ⟨rfl, rfl, Nat.le_of_ble_eq_true rfl, Nat.le_of_ble_eq_true rfl⟩ (x_rcv C h 0 (by decide) (oM G _ _) rfl) hl.1 rfl (Nat.le_of_ble_eq_true rfl) dX8_valley_202) (fun H locs h => ?_)
    refine lv_aload_n hx hb dX8_valley_205 rfl (lv_at hl 0 rfl) ?_
    refine gf_X8_116 C h dX8_valley_206 ?_
    exact x_iret C hr h hf dX8_valley_209
  · have hf := ifF c27 hf
    refine lv_aload_n hx hb dX8_valley_128 rfl (lv_at hl 0 rfl) ?_
    refine gf_X8_19 C h dX8_valley_129 ?_
    refine lv_iload_n hx hb dX8_valley_132 rfl (lv_at hl 1 rfl) ?_
    refine lv_aload_n hx hb dX8_valley_133 rfl (lv_at hl 0 rfl) ?_
    refine gf_X8_71 C h dX8_valley_134 ?_
    refine lv_iload_n hx hb dX8_valley_137 rfl (lv_at hl 1 rfl) ?_
    refine rd_el hf (fun v35 hinv35 hv35 hf => ?_)
    refine x_iald C h 17 1 (by decide) (aM_17 G _ _) rfl hinv35 hv35 dX8_valley_138 ?_
    refine ckb_el hf (fun hin36 hf => ?_)
    refine nm_el hf (fun σ37 hσ37 hf => ?_)
    refine x_iast C h 4 1 (by decide) (fun f => aM_4 G f _) rfl hin36 dX8_valley_139 hσ37 (fun H locs h => ?_)
    refine lv_aload_n hx hb dX8_valley_140 rfl (lv_at hl 0 rfl) ?_
    refine gf_X8_22 C h dX8_valley_141 ?_
    refine lv_iload_n hx hb dX8_valley_144 rfl (lv_at hl 1 rfl) ?_
    refine lv_aload_n hx hb dX8_valley_145 rfl (lv_at hl 0 rfl) ?_
    refine gf_X8_74 C h dX8_valley_146 ?_
    refine lv_iload_n hx hb dX8_valley_149 rfl (lv_at hl 1 rfl) ?_
    refine rd_el hf (fun v38 hinv38 hv38 hf => ?_)
    refine x_iald C h 18 1 (by decide) (aM_18 G _ _) rfl hinv38 hv38 dX8_valley_150 ?_
    refine ckb_el hf (fun hin39 hf => ?_)
    refine nm_el hf (fun σ40 hσ40 hf => ?_)
    refine x_iast C h 5 1 (by decide) (fun f => aM_5 G f _) rfl hin39 dX8_valley_151 hσ40 (fun H locs h => ?_)
    refine lv_aload_n hx hb dX8_valley_152 rfl (lv_at hl 0 rfl) ?_
    refine gf_X8_25 C h dX8_valley_153 ?_
    refine lv_iload_n hx hb dX8_valley_156 rfl (lv_at hl 1 rfl) ?_
    refine lv_aload_n hx hb dX8_valley_157 rfl (lv_at hl 0 rfl) ?_
    refine gf_X8_77 C h dX8_valley_158 ?_
    refine lv_iload_n hx hb dX8_valley_161 rfl (lv_at hl 1 rfl) ?_
    refine rd_el hf (fun v41 hinv41 hv41 hf => ?_)
    refine x_iald C h 19 1 (by decide) (aM_19 G _ _) rfl hinv41 hv41 dX8_valley_162 ?_
    refine ckb_el hf (fun hin42 hf => ?_)
    refine nm_el hf (fun σ43 hσ43 hf => ?_)
    refine x_iast C h 6 1 (by decide) (fun f => aM_6 G f _) rfl hin42 dX8_valley_163 hσ43 (fun H locs h => ?_)
    refine lv_aload_n hx hb dX8_valley_164 rfl (lv_at hl 0 rfl) ?_
    refine gf_X8_28 C h dX8_valley_165 ?_
    refine lv_iload_n hx hb dX8_valley_168 rfl (lv_at hl 1 rfl) ?_
    refine lv_aload_n hx hb dX8_valley_169 rfl (lv_at hl 0 rfl) ?_
    refine gf_X8_80 C h dX8_valley_170 ?_
    refine lv_iload_n hx hb dX8_valley_173 rfl (lv_at hl 1 rfl) ?_
    refine rd_el hf (fun v44 hinv44 hv44 hf => ?_)
    refine x_iald C h 20 1 (by decide) (aM_20 G _ _) rfl hinv44 hv44 dX8_valley_174 ?_
    refine ckb_el hf (fun hin45 hf => ?_)
    refine nm_el hf (fun σ46 hσ46 hf => ?_)
    refine x_iast C h 7 1 (by decide) (fun f => aM_7 G f _) rfl hin45 dX8_valley_175 hσ46 (fun H locs h => ?_)
    refine lv_iinc (v := x2 + 1) (lv' := [(2, .int (x2 + 1)), (0, .ref (G.1 0))]) hx hb dX8_valley_176 hl (k := 1) rfl rfl (by decide) rfl (fun ls hl => ?_)
    refine lv_goto (tgt := 122) hx hb dX8_valley_179 (by decide) ?_
    exact IH122 (x2 + 1, σ46) hf _ _ _ h (lv_sub hl [1, 0] rfl)
def b_X8_valley_73   (rec73 : Int32 × St → Option (Int32 × St)) (x2 : Int32) (σ : St) : Option (Int32 × St) := if (5 : Int32) ≤ x2 then f_X8_valley_122 0 σ else rd (σ.1 14) 5 x2 (fun v18 => ck (inb x2 5) (nm (sI σ 1 (x2 : Int32).toNatClampNeg v18) (fun σ20 => rd (σ20.1 15) 5 x2 (fun v21 => ck (inb x2 5) (nm (sI σ20 2 (x2 : Int32).toNatClampNeg v21) (fun σ23 => rd (σ23.1 16) 5 x2 (fun v24 => ck (inb x2 5) (nm (sI σ23 3 (x2 : Int32).toNatClampNeg v24) (fun σ26 => rec73 (x2 + 1, σ26))))))))))
def f_X8_valley_73   (x2 : Int32) (σ : St) : Option (Int32 × St) := lp (fun (rec73 : Int32 × St → Option (Int32 × St)) (q : Int32 × St) => b_X8_valley_73   rec73 (q.1) (q.2)) 100000 (x2, σ)
set_option maxHeartbeats 4000000 in
theorem t_X8_valley_73 (C : Cx p s m args meth c cX8_valley 3 RX8 D (tyG G)) (hr : meth.sig.returnType = (some .int)) {o : Int32 × St}   : ∀ (x2 : Int32) (σ : St) (H : Heap) (locs : List Loc) (ls : Array Slot), Hs D A s.heap (wM G σ) H locs → lv_has ls 3 [(0, .ref (G.1 0)), (2, .int x2)] → f_X8_valley_73   x2 σ = some o → W p l e ({ frames := 5, cells := 0, slots := 0, locals := 117 } : Room) s m args below meth c H locs 0 0 (MQ below (QI D (tyG G) (wM G) A o) args s 0 0 A) (F0 m 73 ls []) := by
  intro x2 σ H locs ls h hl hf
  refine lp_el (P := fun q : Int32 × St => ∀ (H : Heap) (locs : List Loc) (ls : Array Slot), Hs D A s.heap (wM G (q.2)) H locs → lv_has ls 3 [(0, .ref (G.1 0)), (2, .int (q.1))] → W p l e ({ frames := 5, cells := 0, slots := 0, locals := 117 } : Room) s m args below meth c H locs 0 0 (MQ below (QI D (tyG G) (wM G) A o) args s 0 0 A) (F0 m 73 ls [])) (fun rec73 q IH73 hf => ?_) _ (x2, σ) hf H locs ls h hl
  obtain ⟨x2, σ⟩ := q
  intro H locs ls h hl
  have hl : lv_has ls 3 [(0, .ref (G.1 0)), (2, .int x2)] := hl
  have h : Hs D A s.heap (wM G σ) H locs := h
  have hf : b_X8_valley_73   rec73 x2 σ = some o := hf
  unfold b_X8_valley_73 at hf
  have hx := C.1
  have hb := C.2.1
  refine lv_iload_n hx hb dX8_valley_73 rfl (lv_at hl 1 rfl) ?_
  refine lv_iconst (v := 5) hx hb dX8_valley_74 (by decide) ?_
  refine lv_icmp_ge (tgt := 120) hx hb dX8_valley_75 (by decide) (fun c17 => ?_) (fun c17 => ?_)
  · have hf := ifT c17 hf
    refine lv_iconst (v := 0) hx hb dX8_valley_120 (by decide) ?_
    refine lv_istore_n (lv' := [(2, .int 0), (0, .ref (G.1 0))]) hx hb dX8_valley_121 rfl hl (by decide) rfl (fun ls hl => ?_)
    exact t_X8_valley_122 C hr 0 σ _ _ _ h (lv_sub hl [1, 0] rfl) hf
  · have hf := ifF c17 hf
    refine lv_aload_n hx hb dX8_valley_78 rfl (lv_at hl 0 rfl) ?_
    refine gf_X8_7 C h dX8_valley_79 ?_
    refine lv_iload_n hx hb dX8_valley_82 rfl (lv_at hl 1 rfl) ?_
    refine lv_aload_n hx hb dX8_valley_83 rfl (lv_at hl 0 rfl) ?_
    refine gf_X8_62 C h dX8_valley_84 ?_
    refine lv_iload_n hx hb dX8_valley_87 rfl (lv_at hl 1 rfl) ?_
    refine rd_el hf (fun v18 hinv18 hv18 hf => ?_)
    refine x_iald C h 14 1 (by decide) (aM_14 G _ _) rfl hinv18 hv18 dX8_valley_88 ?_
    refine ckb_el hf (fun hin19 hf => ?_)
    refine nm_el hf (fun σ20 hσ20 hf => ?_)
    refine x_iast C h 1 1 (by decide) (fun f => aM_1 G f _) rfl hin19 dX8_valley_89 hσ20 (fun H locs h => ?_)
    refine lv_aload_n hx hb dX8_valley_90 rfl (lv_at hl 0 rfl) ?_
    refine gf_X8_13 C h dX8_valley_91 ?_
    refine lv_iload_n hx hb dX8_valley_94 rfl (lv_at hl 1 rfl) ?_
    refine lv_aload_n hx hb dX8_valley_95 rfl (lv_at hl 0 rfl) ?_
    refine gf_X8_65 C h dX8_valley_96 ?_
    refine lv_iload_n hx hb dX8_valley_99 rfl (lv_at hl 1 rfl) ?_
    refine rd_el hf (fun v21 hinv21 hv21 hf => ?_)
    refine x_iald C h 15 1 (by decide) (aM_15 G _ _) rfl hinv21 hv21 dX8_valley_100 ?_
    refine ckb_el hf (fun hin22 hf => ?_)
    refine nm_el hf (fun σ23 hσ23 hf => ?_)
    refine x_iast C h 2 1 (by decide) (fun f => aM_2 G f _) rfl hin22 dX8_valley_101 hσ23 (fun H locs h => ?_)
    refine lv_aload_n hx hb dX8_valley_102 rfl (lv_at hl 0 rfl) ?_
    refine gf_X8_16 C h dX8_valley_103 ?_
    refine lv_iload_n hx hb dX8_valley_106 rfl (lv_at hl 1 rfl) ?_
    refine lv_aload_n hx hb dX8_valley_107 rfl (lv_at hl 0 rfl) ?_
    refine gf_X8_68 C h dX8_valley_108 ?_
    refine lv_iload_n hx hb dX8_valley_111 rfl (lv_at hl 1 rfl) ?_
    refine rd_el hf (fun v24 hinv24 hv24 hf => ?_)
    refine x_iald C h 16 1 (by decide) (aM_16 G _ _) rfl hinv24 hv24 dX8_valley_112 ?_
    refine ckb_el hf (fun hin25 hf => ?_)
    refine nm_el hf (fun σ26 hσ26 hf => ?_)
    refine x_iast C h 3 1 (by decide) (fun f => aM_3 G f _) rfl hin25 dX8_valley_113 hσ26 (fun H locs h => ?_)
    refine lv_iinc (v := x2 + 1) (lv' := [(2, .int (x2 + 1)), (0, .ref (G.1 0))]) hx hb dX8_valley_114 hl (k := 1) rfl rfl (by decide) rfl (fun ls hl => ?_)
    refine lv_goto (tgt := 73) hx hb dX8_valley_117 (by decide) ?_
    exact IH73 (x2 + 1, σ26) hf _ _ _ h (lv_sub hl [1, 0] rfl)
def f_X8_valley_41   (x1 : Int32) (σ : St) : Option (Int32 × St) := nm (sI σ 0 23 0) (fun σ13 => if x1 ≤ 0 then nm (sI σ13 0 0 (σ13.1 0 30)) (fun σ15 => nm (sI σ15 0 4 (σ15.1 0 34)) (fun σ16 => f_X8_valley_73 0 σ16)) else some (((-10)) - x1, σ13))
set_option maxHeartbeats 4000000 in
theorem t_X8_valley_41 (C : Cx p s m args meth c cX8_valley 3 RX8 D (tyG G)) (hr : meth.sig.returnType = (some .int)) {o : Int32 × St}   : ∀ (x1 : Int32) (σ : St) (H : Heap) (locs : List Loc) (ls : Array Slot), Hs D A s.heap (wM G σ) H locs → lv_has ls 3 [(0, .ref (G.1 0)), (1, .int x1)] → f_X8_valley_41   x1 σ = some o → W p l e ({ frames := 5, cells := 0, slots := 0, locals := 117 } : Room) s m args below meth c H locs 0 0 (MQ below (QI D (tyG G) (wM G) A o) args s 0 0 A) (F0 m 41 ls []) := by
  intro x1 σ H locs ls h hl hf
  unfold f_X8_valley_41 at hf
  have hx := C.1
  have hb := C.2.1
  refine lv_aload_n hx hb dX8_valley_41 rfl (lv_at hl 0 rfl) ?_
  refine lv_iconst (v := 0) hx hb dX8_valley_42 (by decide) ?_
  refine nm_el hf (fun σ13 hσ13 hf => ?_)
  refine pf_X8_134 C h dX8_valley_43 hσ13 (fun H locs h => ?_)
  refine lv_iload_n hx hb dX8_valley_46 rfl (lv_at hl 1 rfl) ?_
  refine lv_if_le (tgt := 55) hx hb dX8_valley_47 (by decide) (fun c14 => ?_) (fun c14 => ?_)
  · have hf := ifT c14 hf
    refine lv_aload_n hx hb dX8_valley_55 rfl (lv_at hl 0 rfl) ?_
    refine lv_aload_n hx hb dX8_valley_56 rfl (lv_at hl 0 rfl) ?_
    refine gf_X8_183 C h dX8_valley_57 ?_
    refine nm_el hf (fun σ15 hσ15 hf => ?_)
    refine pf_X8_109 C h dX8_valley_60 hσ15 (fun H locs h => ?_)
    refine lv_aload_n hx hb dX8_valley_63 rfl (lv_at hl 0 rfl) ?_
    refine lv_aload_n hx hb dX8_valley_64 rfl (lv_at hl 0 rfl) ?_
    refine gf_X8_190 C h dX8_valley_65 ?_
    refine nm_el hf (fun σ16 hσ16 hf => ?_)
    refine pf_X8_116 C h dX8_valley_68 hσ16 (fun H locs h => ?_)
    refine lv_iconst (v := 0) hx hb dX8_valley_71 (by decide) ?_
    refine lv_istore_n (lv' := [(2, .int 0), (0, .ref (G.1 0)), (1, .int x1)]) hx hb dX8_valley_72 rfl hl (by decide) rfl (fun ls hl => ?_)
    exact t_X8_valley_73 C hr 0 σ16 _ _ _ h (lv_sub hl [1, 0] rfl) hf
  · have hf := ifF c14 hf
    refine lv_bipush (v := (-10)) hx hb dX8_valley_50 (by decide) ?_
    refine lv_iload_n hx hb dX8_valley_52 rfl (lv_at hl 1 rfl) ?_
    refine lv_isub hx hb dX8_valley_53 ?_
    exact x_iret C hr h hf dX8_valley_54
def b_X8_valley_22   (rec22 : Int32 × St → Option (Int32 × St)) (x1 : Int32) (σ : St) : Option (Int32 × St) := if x1 = 0 then bd (f_X8_here σ) (fun r8 σ6 => if r8 < 0 then f_X8_valley_41 x1 σ6 else bd (f_X8_takeClause σ6) (fun r12 σ10 => rec22 (r12, σ10))) else f_X8_valley_41 x1 σ
def f_X8_valley_22   (x1 : Int32) (σ : St) : Option (Int32 × St) := lp (fun (rec22 : Int32 × St → Option (Int32 × St)) (q : Int32 × St) => b_X8_valley_22   rec22 (q.1) (q.2)) 100000 (x1, σ)
set_option maxHeartbeats 4000000 in
theorem t_X8_valley_22 (C : Cx p s m args meth c cX8_valley 3 RX8 D (tyG G)) (hr : meth.sig.returnType = (some .int)) {o : Int32 × St}   : ∀ (x1 : Int32) (σ : St) (H : Heap) (locs : List Loc) (ls : Array Slot), Hs D A s.heap (wM G σ) H locs → lv_has ls 3 [(0, .ref (G.1 0)), (1, .int x1)] → f_X8_valley_22   x1 σ = some o → W p l e ({ frames := 5, cells := 0, slots := 0, locals := 117 } : Room) s m args below meth c H locs 0 0 (MQ below (QI D (tyG G) (wM G) A o) args s 0 0 A) (F0 m 22 ls []) := by
  intro x1 σ H locs ls h hl hf
  refine lp_el (P := fun q : Int32 × St => ∀ (H : Heap) (locs : List Loc) (ls : Array Slot), Hs D A s.heap (wM G (q.2)) H locs → lv_has ls 3 [(0, .ref (G.1 0)), (1, .int (q.1))] → W p l e ({ frames := 5, cells := 0, slots := 0, locals := 117 } : Room) s m args below meth c H locs 0 0 (MQ below (QI D (tyG G) (wM G) A o) args s 0 0 A) (F0 m 22 ls [])) (fun rec22 q IH22 hf => ?_) _ (x1, σ) hf H locs ls h hl
  obtain ⟨x1, σ⟩ := q
  intro H locs ls h hl
  have hl : lv_has ls 3 [(0, .ref (G.1 0)), (1, .int x1)] := hl
  have h : Hs D A s.heap (wM G σ) H locs := h
  have hf : b_X8_valley_22   rec22 x1 σ = some o := hf
  unfold b_X8_valley_22 at hf
  have hx := C.1
  have hb := C.2.1
  refine lv_iload_n hx hb dX8_valley_22 rfl (lv_at hl 1 rfl) ?_
  refine lv_if_ne (tgt := 41) hx hb dX8_valley_23 (by decide) (fun c5 => ?_) (fun c5 => ?_)
  · have hf := ifF c5 hf
    exact t_X8_valley_41 C hr x1 σ _ _ _ h (lv_sub hl [0, 1] rfl) hf
  · have hf := ifT c5 hf
    refine lv_aload_n hx hb dX8_valley_26 rfl (lv_at hl 0 rfl) ?_
    refine bd_el hf (fun r8 σ6 ho7 hf => ?_)
    refine x_goi h (x_runV (As := []) (rest := []) C h (c_X8_here l D G σ (r8, σ6) ho7 _) lk_X8_143 rfl ⟨rfl, rfl, Nat.le_of_ble_eq_true rfl, Nat.le_of_ble_eq_true rfl⟩ (x_rcv C h 0 (by decide) (oM G _ _) rfl) hl.1 rfl (Nat.le_of_ble_eq_true rfl) dX8_valley_27) (fun H locs h => ?_)
    refine lv_if_lt (tgt := 41) hx hb dX8_valley_30 (by decide) (fun c9 => ?_) (fun c9 => ?_)
    · have hf := ifT c9 hf
      exact t_X8_valley_41 C hr x1 σ6 _ _ _ h (lv_sub hl [0, 1] rfl) hf
    · have hf := ifF c9 hf
      refine lv_aload_n hx hb dX8_valley_33 rfl (lv_at hl 0 rfl) ?_
      refine bd_el hf (fun r12 σ10 ho11 hf => ?_)
      refine x_goi h (x_runV (As := []) (rest := []) C h (c_X8_takeClause l D G σ6 (r12, σ10) ho11 _) lk_X8_210 rfl ⟨rfl, rfl, Nat.le_of_ble_eq_true rfl, Nat.le_of_ble_eq_true rfl⟩ (x_rcv C h 0 (by decide) (oM G _ _) rfl) hl.1 rfl (Nat.le_of_ble_eq_true rfl) dX8_valley_34) (fun H locs h => ?_)
      refine lv_istore_n (lv' := [(1, .int r12), (0, .ref (G.1 0))]) hx hb dX8_valley_37 rfl hl (by decide) rfl (fun ls hl => ?_)
      refine lv_goto (tgt := 22) hx hb dX8_valley_38 (by decide) ?_
      exact IH22 (r12, σ10) hf _ _ _ h (lv_sub hl [1, 0] rfl)
def f_X8_valley   (σ : St) : Option (Int32 × St) := nm (sI σ 0 24 ((-1))) (fun σ1 => nm (sI σ1 0 25 0) (fun σ2 => nm (sI σ2 0 30 0) (fun σ3 => nm (sI σ3 0 34 0) (fun σ4 => f_X8_valley_22 0 σ4))))
set_option maxHeartbeats 4000000 in
theorem c_X8_valley (l : Launch) (D : va_G) (G : Geo)    (σ : St) (o : Int32 × St) (hf : f_X8_valley   σ = some o) : CI l D (tyG G) (wM G) yX8_valley cX8_valley 3 ((some .int)) ({ frames := 5, cells := 0, slots := 0, locals := 117 }) [.ref (G.1 0)] σ o := by
  refine met_of (Qc := fun A => QI D (tyG G) (wM G) A o) pn_X8 (Nat.le_of_ble_eq_true rfl) (fun p e s m below meth c A ls C hr h hl => ?_)
  have C : Cx p s m _ meth c cX8_valley 3 RX8 D (tyG G) := C
  have hl : lv_has ls 3 [(0, .ref (G.1 0))] := hl
  unfold f_X8_valley at hf
  have hx := C.1
  have hb := C.2.1
  refine lv_aload_n hx hb dX8_valley_0 rfl (lv_at hl 0 rfl) ?_
  refine lv_iconst (v := (-1)) hx hb dX8_valley_1 (by decide) ?_
  refine nm_el hf (fun σ1 hσ1 hf => ?_)
  refine pf_X8_59 C h dX8_valley_2 hσ1 (fun H locs h => ?_)
  refine lv_aload_n hx hb dX8_valley_5 rfl (lv_at hl 0 rfl) ?_
  refine lv_iconst (v := 0) hx hb dX8_valley_6 (by decide) ?_
  refine nm_el hf (fun σ2 hσ2 hf => ?_)
  refine pf_X8_140 C h dX8_valley_7 hσ2 (fun H locs h => ?_)
  refine lv_aload_n hx hb dX8_valley_10 rfl (lv_at hl 0 rfl) ?_
  refine lv_iconst (v := 0) hx hb dX8_valley_11 (by decide) ?_
  refine nm_el hf (fun σ3 hσ3 hf => ?_)
  refine pf_X8_183 C h dX8_valley_12 hσ3 (fun H locs h => ?_)
  refine lv_aload_n hx hb dX8_valley_15 rfl (lv_at hl 0 rfl) ?_
  refine lv_iconst (v := 0) hx hb dX8_valley_16 (by decide) ?_
  refine nm_el hf (fun σ4 hσ4 hf => ?_)
  refine pf_X8_190 C h dX8_valley_17 hσ4 (fun H locs h => ?_)
  refine lv_iconst (v := 0) hx hb dX8_valley_20 (by decide) ?_
  refine lv_istore_n (lv' := [(1, .int 0), (0, .ref (G.1 0))]) hx hb dX8_valley_21 rfl hl (by decide) rfl (fun ls hl => ?_)
  exact t_X8_valley_22 C hr 0 σ4 _ _ _ h (lv_sub hl [1, 0] rfl) hf
def f_X8_fault   (σ : St) : Option (Int32 × St) := some (σ.1 0 24, σ)
set_option maxHeartbeats 4000000 in
theorem c_X8_fault (l : Launch) (D : va_G) (G : Geo)    (σ : St) (o : Int32 × St) (hf : f_X8_fault   σ = some o) : CI l D (tyG G) (wM G) yX8_fault cX8_fault 1 ((some .int)) ({ frames := 0, cells := 0, slots := 0, locals := 0 }) [.ref (G.1 0)] σ o := by
  refine met_of (Qc := fun A => QI D (tyG G) (wM G) A o) pn_X8 (Nat.le_of_ble_eq_true rfl) (fun p e s m below meth c A ls C hr h hl => ?_)
  have C : Cx p s m _ meth c cX8_fault 1 RX8 D (tyG G) := C
  have hl : lv_has ls 1 [(0, .ref (G.1 0))] := hl
  unfold f_X8_fault at hf
  have hx := C.1
  have hb := C.2.1
  refine lv_aload_n hx hb dX8_fault_0 rfl (lv_at hl 0 rfl) ?_
  refine gf_X8_59 C h dX8_fault_1 ?_
  exact x_iret C hr h hf dX8_fault_4
def f_X8_told  (x1 : Int32) (σ : St) : Option (Int32 × St) := if x1 = 0 then some (σ.1 0 0, σ) else if x1 = 1 then some (σ.1 0 4, σ) else if x1 = 2 then some (σ.1 0 23, σ) else if x1 = 3 then some (σ.1 0 14, σ) else if x1 = 4 then some (σ.1 0 13, σ) else if x1 = 5 then some (σ.1 0 10, σ) else if x1 = 6 then some (σ.1 0 11, σ) else if x1 = 7 then some (σ.1 0 12, σ) else if x1 = 8 then some (σ.1 0 18, σ) else if x1 = 9 then some (σ.1 0 17, σ) else if x1 = 10 then some (σ.1 0 44, σ) else some ((-1000000002), σ)
set_option maxHeartbeats 4000000 in
theorem c_X8_told (l : Launch) (D : va_G) (G : Geo)   (x1 : Int32) (σ : St) (o : Int32 × St) (hf : f_X8_told  x1 σ = some o) : CI l D (tyG G) (wM G) yX8_told cX8_told 2 ((some .int)) ({ frames := 0, cells := 0, slots := 0, locals := 0 }) [.ref (G.1 0), .int x1] σ o := by
  refine met_of (Qc := fun A => QI D (tyG G) (wM G) A o) pn_X8 (Nat.le_of_ble_eq_true rfl) (fun p e s m below meth c A ls C hr h hl => ?_)
  have C : Cx p s m _ meth c cX8_told 2 RX8 D (tyG G) := C
  have hl : lv_has ls 2 [(0, .ref (G.1 0)), (1, .int x1)] := hl
  unfold f_X8_told at hf
  have hx := C.1
  have hb := C.2.1
  refine lv_iload_n hx hb dX8_told_0 rfl (lv_at hl 1 rfl) ?_
  by_cases c1 : x1 = 0
  · have hf := ifT c1 hf
    refine lv_tableIn (off := 59) (tgt := 60) hx hb dX8_told_1 (by rw [c1]; decide) (by rw [c1]; decide) (by rw [c1]; rfl) (by decide) ?_
    refine lv_aload_n hx hb dX8_told_60 rfl (lv_at hl 0 rfl) ?_
    refine gf_X8_109 C h dX8_told_61 ?_
    exact x_iret C hr h hf dX8_told_64
  · have hf := ifF c1 hf
    by_cases c2 : x1 = 1
    · have hf := ifT c2 hf
      refine lv_tableIn (off := 64) (tgt := 65) hx hb dX8_told_1 (by rw [c2]; decide) (by rw [c2]; decide) (by rw [c2]; rfl) (by decide) ?_
      refine lv_aload_n hx hb dX8_told_65 rfl (lv_at hl 0 rfl) ?_
      refine gf_X8_116 C h dX8_told_66 ?_
      exact x_iret C hr h hf dX8_told_69
    · have hf := ifF c2 hf
      by_cases c3 : x1 = 2
      · have hf := ifT c3 hf
        refine lv_tableIn (off := 69) (tgt := 70) hx hb dX8_told_1 (by rw [c3]; decide) (by rw [c3]; decide) (by rw [c3]; rfl) (by decide) ?_
        refine lv_aload_n hx hb dX8_told_70 rfl (lv_at hl 0 rfl) ?_
        refine gf_X8_134 C h dX8_told_71 ?_
        exact x_iret C hr h hf dX8_told_74
      · have hf := ifF c3 hf
        by_cases c4 : x1 = 3
        · have hf := ifT c4 hf
          refine lv_tableIn (off := 74) (tgt := 75) hx hb dX8_told_1 (by rw [c4]; decide) (by rw [c4]; decide) (by rw [c4]; rfl) (by decide) ?_
          refine lv_aload_n hx hb dX8_told_75 rfl (lv_at hl 0 rfl) ?_
          refine gf_X8_122 C h dX8_told_76 ?_
          exact x_iret C hr h hf dX8_told_79
        · have hf := ifF c4 hf
          by_cases c5 : x1 = 4
          · have hf := ifT c5 hf
            refine lv_tableIn (off := 79) (tgt := 80) hx hb dX8_told_1 (by rw [c5]; decide) (by rw [c5]; decide) (by rw [c5]; rfl) (by decide) ?_
            refine lv_aload_n hx hb dX8_told_80 rfl (lv_at hl 0 rfl) ?_
            refine gf_X8_119 C h dX8_told_81 ?_
            exact x_iret C hr h hf dX8_told_84
          · have hf := ifF c5 hf
            by_cases c6 : x1 = 5
            · have hf := ifT c6 hf
              refine lv_tableIn (off := 84) (tgt := 85) hx hb dX8_told_1 (by rw [c6]; decide) (by rw [c6]; decide) (by rw [c6]; rfl) (by decide) ?_
              refine lv_aload_n hx hb dX8_told_85 rfl (lv_at hl 0 rfl) ?_
              refine gf_X8_34 C h dX8_told_86 ?_
              exact x_iret C hr h hf dX8_told_89
            · have hf := ifF c6 hf
              by_cases c7 : x1 = 6
              · have hf := ifT c7 hf
                refine lv_tableIn (off := 89) (tgt := 90) hx hb dX8_told_1 (by rw [c7]; decide) (by rw [c7]; decide) (by rw [c7]; rfl) (by decide) ?_
                refine lv_aload_n hx hb dX8_told_90 rfl (lv_at hl 0 rfl) ?_
                refine gf_X8_38 C h dX8_told_91 ?_
                exact x_iret C hr h hf dX8_told_94
              · have hf := ifF c7 hf
                by_cases c8 : x1 = 7
                · have hf := ifT c8 hf
                  refine lv_tableIn (off := 94) (tgt := 95) hx hb dX8_told_1 (by rw [c8]; decide) (by rw [c8]; decide) (by rw [c8]; rfl) (by decide) ?_
                  refine lv_aload_n hx hb dX8_told_95 rfl (lv_at hl 0 rfl) ?_
                  refine gf_X8_41 C h dX8_told_96 ?_
                  exact x_iret C hr h hf dX8_told_99
                · have hf := ifF c8 hf
                  by_cases c9 : x1 = 8
                  · have hf := ifT c9 hf
                    refine lv_tableIn (off := 99) (tgt := 100) hx hb dX8_told_1 (by rw [c9]; decide) (by rw [c9]; decide) (by rw [c9]; rfl) (by decide) ?_
                    refine lv_aload_n hx hb dX8_told_100 rfl (lv_at hl 0 rfl) ?_
                    refine gf_X8_128 C h dX8_told_101 ?_
                    exact x_iret C hr h hf dX8_told_104
                  · have hf := ifF c9 hf
                    by_cases c10 : x1 = 9
                    · have hf := ifT c10 hf
                      refine lv_tableIn (off := 104) (tgt := 105) hx hb dX8_told_1 (by rw [c10]; decide) (by rw [c10]; decide) (by rw [c10]; rfl) (by decide) ?_
                      refine lv_aload_n hx hb dX8_told_105 rfl (lv_at hl 0 rfl) ?_
                      refine gf_X8_125 C h dX8_told_106 ?_
                      exact x_iret C hr h hf dX8_told_109
                    · have hf := ifF c10 hf
                      by_cases c11 : x1 = 10
                      · have hf := ifT c11 hf
                        refine lv_tableIn (off := 109) (tgt := 110) hx hb dX8_told_1 (by rw [c11]; decide) (by rw [c11]; decide) (by rw [c11]; rfl) (by decide) ?_
                        refine lv_aload_n hx hb dX8_told_110 rfl (lv_at hl 0 rfl) ?_
                        refine gf_X8_213 C h dX8_told_111 ?_
                        exact x_iret C hr h hf dX8_told_114
                      · have hf := ifF c11 hf
                        have nc1 := lv_neT c1 (show (0 : Int32).toInt = 0 by decide)
                        have nc2 := lv_neT c2 (show (1 : Int32).toInt = 1 by decide)
                        have nc3 := lv_neT c3 (show (2 : Int32).toInt = 2 by decide)
                        have nc4 := lv_neT c4 (show (3 : Int32).toInt = 3 by decide)
                        have nc5 := lv_neT c5 (show (4 : Int32).toInt = 4 by decide)
                        have nc6 := lv_neT c6 (show (5 : Int32).toInt = 5 by decide)
                        have nc7 := lv_neT c7 (show (6 : Int32).toInt = 6 by decide)
                        have nc8 := lv_neT c8 (show (7 : Int32).toInt = 7 by decide)
                        have nc9 := lv_neT c9 (show (8 : Int32).toInt = 8 by decide)
                        have nc10 := lv_neT c10 (show (9 : Int32).toInt = 9 by decide)
                        have nc11 := lv_neT c11 (show (10 : Int32).toInt = 10 by decide)
                        refine lv_tableOut (tgt := 115) hx hb dX8_told_1 (by omega) (by decide) ?_
                        refine lv_ldc (v := (-1000000002)) hx hb C.2.2.2.1 (C.2.2.2.2.1 _ q167) dX8_told_115 ?_
                        exact x_iret C hr h hf dX8_told_117
def f_X8_sleepersOf_30  (rec4 : Int32 × Int32 × Int32 × St → Option (Int32 × St)) (x1 : Int32) (x3 : Int32) (y0 : Int32) (y1 : Int32) (σ : St) : Option (Int32 × St) := nm (y0 ||| y1) (fun z4 => rec4 (x1, z4, x3 + 1, σ))
set_option maxHeartbeats 4000000 in
theorem t_X8_sleepersOf_30 (C : Cx p s m args meth c cX8_sleepersOf 4 RX8 D (tyG G)) (hr : meth.sig.returnType = (some .int)) {o : Int32 × St}  {rec4 : Int32 × Int32 × Int32 × St → Option (Int32 × St)} (IH4 : ∀ q, rec4 q = some o → ∀ (H : Heap) (locs : List Loc) (ls : Array Slot), Hs D A s.heap (wM G (q.2.2.2)) H locs → lv_has ls 4 [(0, .ref (G.1 0)), (1, .int (q.1)), (2, .int (q.2.1)), (3, .int (q.2.2.1))] → W p l e ({ frames := 0, cells := 0, slots := 0, locals := 0 } : Room) s m args below meth c H locs 0 0 (MQ below (QI D (tyG G) (wM G) A o) args s 0 0 A) (F0 m 4 ls [])) : ∀ (x1 : Int32) (x3 : Int32) (y0 : Int32) (y1 : Int32) (σ : St) (H : Heap) (locs : List Loc) (ls : Array Slot), Hs D A s.heap (wM G σ) H locs → lv_has ls 4 [(0, .ref (G.1 0)), (1, .int x1), (3, .int x3)] → f_X8_sleepersOf_30  rec4 x1 x3 y0 y1 σ = some o → W p l e ({ frames := 0, cells := 0, slots := 0, locals := 0 } : Room) s m args below meth c H locs 0 0 (MQ below (QI D (tyG G) (wM G) A o) args s 0 0 A) (F0 m 30 ls [.int y1, .int y0]) := by
  intro x1 x3 y0 y1 σ H locs ls h hl hf
  unfold f_X8_sleepersOf_30 at hf
  have hx := C.1
  have hb := C.2.1
  refine lv_ior hx hb dX8_sleepersOf_30 ?_
  refine nm_el hf (fun z4 ez4 hf => ?_)
  refine x_topi ez4 ?_
  refine lv_istore_n (lv' := [(2, .int z4), (0, .ref (G.1 0)), (1, .int x1), (3, .int x3)]) hx hb dX8_sleepersOf_31 rfl hl (by decide) rfl (fun ls hl => ?_)
  refine lv_iinc (v := x3 + 1) (lv' := [(3, .int (x3 + 1)), (2, .int z4), (0, .ref (G.1 0)), (1, .int x1)]) hx hb dX8_sleepersOf_32 hl (k := 3) rfl rfl (by decide) rfl (fun ls hl => ?_)
  refine lv_goto (tgt := 4) hx hb dX8_sleepersOf_35 (by decide) ?_
  exact IH4 (x1, z4, x3 + 1, σ) hf _ _ _ h (lv_sub hl [2, 3, 1, 0] rfl)
def b_X8_sleepersOf_4   (rec4 : Int32 × Int32 × Int32 × St → Option (Int32 × St)) (x1 : Int32) (x2 : Int32) (x3 : Int32) (σ : St) : Option (Int32 × St) := if (σ.1 0 4) ≤ x3 then some (x2, σ) else rd (σ.1 4) 8 x3 (fun v2 => if v2 = x1 then f_X8_sleepersOf_30 rec4 x1 x3 x2 (1 <<< (x3 &&& 31)) σ else f_X8_sleepersOf_30 rec4 x1 x3 x2 0 σ)
def f_X8_sleepersOf_4   (x1 : Int32) (x2 : Int32) (x3 : Int32) (σ : St) : Option (Int32 × St) := lp (fun (rec4 : Int32 × Int32 × Int32 × St → Option (Int32 × St)) (q : Int32 × Int32 × Int32 × St) => b_X8_sleepersOf_4   rec4 (q.1) (q.2.1) (q.2.2.1) (q.2.2.2)) 100000 (x1, x2, x3, σ)
set_option maxHeartbeats 4000000 in
theorem t_X8_sleepersOf_4 (C : Cx p s m args meth c cX8_sleepersOf 4 RX8 D (tyG G)) (hr : meth.sig.returnType = (some .int)) {o : Int32 × St}   : ∀ (x1 : Int32) (x2 : Int32) (x3 : Int32) (σ : St) (H : Heap) (locs : List Loc) (ls : Array Slot), Hs D A s.heap (wM G σ) H locs → lv_has ls 4 [(0, .ref (G.1 0)), (1, .int x1), (2, .int x2), (3, .int x3)] → f_X8_sleepersOf_4   x1 x2 x3 σ = some o → W p l e ({ frames := 0, cells := 0, slots := 0, locals := 0 } : Room) s m args below meth c H locs 0 0 (MQ below (QI D (tyG G) (wM G) A o) args s 0 0 A) (F0 m 4 ls []) := by
  intro x1 x2 x3 σ H locs ls h hl hf
  refine lp_el (P := fun q : Int32 × Int32 × Int32 × St => ∀ (H : Heap) (locs : List Loc) (ls : Array Slot), Hs D A s.heap (wM G (q.2.2.2)) H locs → lv_has ls 4 [(0, .ref (G.1 0)), (1, .int (q.1)), (2, .int (q.2.1)), (3, .int (q.2.2.1))] → W p l e ({ frames := 0, cells := 0, slots := 0, locals := 0 } : Room) s m args below meth c H locs 0 0 (MQ below (QI D (tyG G) (wM G) A o) args s 0 0 A) (F0 m 4 ls [])) (fun rec4 q IH4 hf => ?_) _ (x1, x2, x3, σ) hf H locs ls h hl
  obtain ⟨x1, x2, x3, σ⟩ := q
  intro H locs ls h hl
  have hl : lv_has ls 4 [(0, .ref (G.1 0)), (1, .int x1), (2, .int x2), (3, .int x3)] := hl
  have h : Hs D A s.heap (wM G σ) H locs := h
  have hf : b_X8_sleepersOf_4   rec4 x1 x2 x3 σ = some o := hf
  unfold b_X8_sleepersOf_4 at hf
  have hx := C.1
  have hb := C.2.1
  refine lv_iload_n hx hb dX8_sleepersOf_4 rfl (lv_at hl 3 rfl) ?_
  refine lv_aload_n hx hb dX8_sleepersOf_5 rfl (lv_at hl 0 rfl) ?_
  refine gf_X8_116 C h dX8_sleepersOf_6 ?_
  refine lv_icmp_ge (tgt := 38) hx hb dX8_sleepersOf_9 (by decide) (fun c1 => ?_) (fun c1 => ?_)
  · have hf := ifT c1 hf
    refine lv_iload_n hx hb dX8_sleepersOf_38 rfl (lv_at hl 2 rfl) ?_
    exact x_iret C hr h hf dX8_sleepersOf_39
  · have hf := ifF c1 hf
    refine lv_iload_n hx hb dX8_sleepersOf_12 rfl (lv_at hl 2 rfl) ?_
    refine lv_aload_n hx hb dX8_sleepersOf_13 rfl (lv_at hl 0 rfl) ?_
    refine gf_X8_19 C h dX8_sleepersOf_14 ?_
    refine lv_iload_n hx hb dX8_sleepersOf_17 rfl (lv_at hl 3 rfl) ?_
    refine rd_el hf (fun v2 hinv2 hv2 hf => ?_)
    refine x_iald C h 4 1 (by decide) (aM_4 G _ _) rfl hinv2 hv2 dX8_sleepersOf_18 ?_
    refine lv_iload_n hx hb dX8_sleepersOf_19 rfl (lv_at hl 1 rfl) ?_
    refine lv_icmp_ne (tgt := 29) hx hb dX8_sleepersOf_20 (by decide) (fun c3 => ?_) (fun c3 => ?_)
    · have hf := ifF c3 hf
      refine lv_iconst (v := 0) hx hb dX8_sleepersOf_29 (by decide) ?_
      exact t_X8_sleepersOf_30 C hr IH4 x1 x3 x2 0 σ _ _ _ h (lv_sub hl [0, 1, 3] rfl) hf
    · have hf := ifT c3 hf
      refine lv_iconst (v := 1) hx hb dX8_sleepersOf_23 (by decide) ?_
      refine lv_iload_n hx hb dX8_sleepersOf_24 rfl (lv_at hl 3 rfl) ?_
      refine lv_ishl hx hb dX8_sleepersOf_25 ?_
      refine lv_goto (tgt := 30) hx hb dX8_sleepersOf_26 (by decide) ?_
      exact t_X8_sleepersOf_30 C hr IH4 x1 x3 x2 (1 <<< (x3 &&& 31)) σ _ _ _ h (lv_sub hl [0, 1, 3] rfl) hf
def f_X8_sleepersOf  (x1 : Int32) (σ : St) : Option (Int32 × St) := f_X8_sleepersOf_4 x1 0 0 σ
set_option maxHeartbeats 4000000 in
theorem c_X8_sleepersOf (l : Launch) (D : va_G) (G : Geo)   (x1 : Int32) (σ : St) (o : Int32 × St) (hf : f_X8_sleepersOf  x1 σ = some o) : CI l D (tyG G) (wM G) yX8_sleepersOf cX8_sleepersOf 4 ((some .int)) ({ frames := 0, cells := 0, slots := 0, locals := 0 }) [.ref (G.1 0), .int x1] σ o := by
  refine met_of (Qc := fun A => QI D (tyG G) (wM G) A o) pn_X8 (Nat.le_of_ble_eq_true rfl) (fun p e s m below meth c A ls C hr h hl => ?_)
  have C : Cx p s m _ meth c cX8_sleepersOf 4 RX8 D (tyG G) := C
  have hl : lv_has ls 4 [(0, .ref (G.1 0)), (1, .int x1)] := hl
  unfold f_X8_sleepersOf at hf
  have hx := C.1
  have hb := C.2.1
  refine lv_iconst (v := 0) hx hb dX8_sleepersOf_0 (by decide) ?_
  refine lv_istore_n (lv' := [(2, .int 0), (0, .ref (G.1 0)), (1, .int x1)]) hx hb dX8_sleepersOf_1 rfl hl (by decide) rfl (fun ls hl => ?_)
  refine lv_iconst (v := 0) hx hb dX8_sleepersOf_2 (by decide) ?_
  refine lv_istore_n (lv' := [(3, .int 0), (2, .int 0), (0, .ref (G.1 0)), (1, .int x1)]) hx hb dX8_sleepersOf_3 rfl hl (by decide) rfl (fun ls hl => ?_)
  exact t_X8_sleepersOf_4 C hr x1 0 0 σ _ _ _ h (lv_sub hl [2, 3, 1, 0] rfl) hf
def f_X8_house  (x1 : Int32) (x2 : Int32) (σ : St) : Option (Int32 × St) := bd (f_X8_isHouse x1 σ) (fun r3 σ1 => if r3 = 0 then some ((-1000000001), σ1) else if x2 = 0 then rd (σ1.1 1) 5 x1 (fun v6 => some (v6, σ1)) else if x2 = 1 then rd (σ1.1 2) 5 x1 (fun v8 => some (v8, σ1)) else if x2 = 2 then rd (σ1.1 3) 5 x1 (fun v10 => some (v10, σ1)) else if x2 = 3 then rd (σ1.1 9) 5 x1 (fun v12 => some (v12, σ1)) else if x2 = 4 then rd (σ1.1 10) 5 x1 (fun v14 => some (v14, σ1)) else if x2 = 5 then bd (f_X8_sleepersOf x1 σ1) (fun r18 σ16 => some (r18, σ16)) else some ((-1000000002), σ1))
set_option maxHeartbeats 4000000 in
theorem c_X8_house (l : Launch) (D : va_G) (G : Geo)   (x1 : Int32) (x2 : Int32) (σ : St) (o : Int32 × St) (hf : f_X8_house  x1 x2 σ = some o) : CI l D (tyG G) (wM G) yX8_house cX8_house 3 ((some .int)) ({ frames := 2, cells := 0, slots := 0, locals := 46 }) [.ref (G.1 0), .int x1, .int x2] σ o := by
  refine met_of (Qc := fun A => QI D (tyG G) (wM G) A o) pn_X8 (Nat.le_of_ble_eq_true rfl) (fun p e s m below meth c A ls C hr h hl => ?_)
  have C : Cx p s m _ meth c cX8_house 3 RX8 D (tyG G) := C
  have hl : lv_has ls 3 [(0, .ref (G.1 0)), (1, .int x1), (2, .int x2)] := hl
  unfold f_X8_house at hf
  have hx := C.1
  have hb := C.2.1
  refine lv_aload_n hx hb dX8_house_0 rfl (lv_at hl 0 rfl) ?_
  refine lv_iload_n hx hb dX8_house_1 rfl (lv_at hl 1 rfl) ?_
  refine bd_el hf (fun r3 σ1 ho2 hf => ?_)
  refine x_goi h (x_runV (As := [.int x1]) (rest := []) C h (c_X8_isHouse l D G x1 σ (r3, σ1) ho2 _) lk_X8_219 rfl ⟨rfl, rfl, Nat.le_of_ble_eq_true rfl, Nat.le_of_ble_eq_true rfl⟩ (x_rcv C h 0 (by decide) (oM G _ _) rfl) hl.1 rfl (Nat.le_of_ble_eq_true rfl) dX8_house_2) (fun H locs h => ?_)
  refine lv_if_ne (tgt := 11) hx hb dX8_house_5 (by decide) (fun c4 => ?_) (fun c4 => ?_)
  · have hf := ifF c4 hf
    refine lv_iload_n hx hb dX8_house_11 rfl (lv_at hl 2 rfl) ?_
    by_cases c5 : x2 = 0
    · have hf := ifT c5 hf
      refine lv_tableIn (off := 40) (tgt := 52) hx hb dX8_house_12 (by rw [c5]; decide) (by rw [c5]; decide) (by rw [c5]; rfl) (by decide) ?_
      refine lv_aload_n hx hb dX8_house_52 rfl (lv_at hl 0 rfl) ?_
      refine gf_X8_7 C h dX8_house_53 ?_
      refine lv_iload_n hx hb dX8_house_56 rfl (lv_at hl 1 rfl) ?_
      refine rd_el hf (fun v6 hinv6 hv6 hf => ?_)
      refine x_iald C h 1 1 (by decide) (aM_1 G _ _) rfl hinv6 hv6 dX8_house_57 ?_
      exact x_iret C hr h hf dX8_house_58
    · have hf := ifF c5 hf
      by_cases c7 : x2 = 1
      · have hf := ifT c7 hf
        refine lv_tableIn (off := 47) (tgt := 59) hx hb dX8_house_12 (by rw [c7]; decide) (by rw [c7]; decide) (by rw [c7]; rfl) (by decide) ?_
        refine lv_aload_n hx hb dX8_house_59 rfl (lv_at hl 0 rfl) ?_
        refine gf_X8_13 C h dX8_house_60 ?_
        refine lv_iload_n hx hb dX8_house_63 rfl (lv_at hl 1 rfl) ?_
        refine rd_el hf (fun v8 hinv8 hv8 hf => ?_)
        refine x_iald C h 2 1 (by decide) (aM_2 G _ _) rfl hinv8 hv8 dX8_house_64 ?_
        exact x_iret C hr h hf dX8_house_65
      · have hf := ifF c7 hf
        by_cases c9 : x2 = 2
        · have hf := ifT c9 hf
          refine lv_tableIn (off := 54) (tgt := 66) hx hb dX8_house_12 (by rw [c9]; decide) (by rw [c9]; decide) (by rw [c9]; rfl) (by decide) ?_
          refine lv_aload_n hx hb dX8_house_66 rfl (lv_at hl 0 rfl) ?_
          refine gf_X8_16 C h dX8_house_67 ?_
          refine lv_iload_n hx hb dX8_house_70 rfl (lv_at hl 1 rfl) ?_
          refine rd_el hf (fun v10 hinv10 hv10 hf => ?_)
          refine x_iald C h 3 1 (by decide) (aM_3 G _ _) rfl hinv10 hv10 dX8_house_71 ?_
          exact x_iret C hr h hf dX8_house_72
        · have hf := ifF c9 hf
          by_cases c11 : x2 = 3
          · have hf := ifT c11 hf
            refine lv_tableIn (off := 61) (tgt := 73) hx hb dX8_house_12 (by rw [c11]; decide) (by rw [c11]; decide) (by rw [c11]; rfl) (by decide) ?_
            refine lv_aload_n hx hb dX8_house_73 rfl (lv_at hl 0 rfl) ?_
            refine gf_X8_44 C h dX8_house_74 ?_
            refine lv_iload_n hx hb dX8_house_77 rfl (lv_at hl 1 rfl) ?_
            refine rd_el hf (fun v12 hinv12 hv12 hf => ?_)
            refine x_iald C h 9 1 (by decide) (aM_9 G _ _) rfl hinv12 hv12 dX8_house_78 ?_
            exact x_iret C hr h hf dX8_house_79
          · have hf := ifF c11 hf
            by_cases c13 : x2 = 4
            · have hf := ifT c13 hf
              refine lv_tableIn (off := 68) (tgt := 80) hx hb dX8_house_12 (by rw [c13]; decide) (by rw [c13]; decide) (by rw [c13]; rfl) (by decide) ?_
              refine lv_aload_n hx hb dX8_house_80 rfl (lv_at hl 0 rfl) ?_
              refine gf_X8_47 C h dX8_house_81 ?_
              refine lv_iload_n hx hb dX8_house_84 rfl (lv_at hl 1 rfl) ?_
              refine rd_el hf (fun v14 hinv14 hv14 hf => ?_)
              refine x_iald C h 10 1 (by decide) (aM_10 G _ _) rfl hinv14 hv14 dX8_house_85 ?_
              exact x_iret C hr h hf dX8_house_86
            · have hf := ifF c13 hf
              by_cases c15 : x2 = 5
              · have hf := ifT c15 hf
                refine lv_tableIn (off := 75) (tgt := 87) hx hb dX8_house_12 (by rw [c15]; decide) (by rw [c15]; decide) (by rw [c15]; rfl) (by decide) ?_
                refine lv_aload_n hx hb dX8_house_87 rfl (lv_at hl 0 rfl) ?_
                refine lv_iload_n hx hb dX8_house_88 rfl (lv_at hl 1 rfl) ?_
                refine bd_el hf (fun r18 σ16 ho17 hf => ?_)
                refine x_goi h (x_runV (As := [.int x1]) (rest := []) C h (c_X8_sleepersOf l D G x1 σ1 (r18, σ16) ho17 _) lk_X8_224 rfl ⟨rfl, rfl, Nat.le_of_ble_eq_true rfl, Nat.le_of_ble_eq_true rfl⟩ (x_rcv C h 0 (by decide) (oM G _ _) rfl) hl.1 rfl (Nat.le_of_ble_eq_true rfl) dX8_house_89) (fun H locs h => ?_)
                exact x_iret C hr h hf dX8_house_92
              · have hf := ifF c15 hf
                have nc5 := lv_neT c5 (show (0 : Int32).toInt = 0 by decide)
                have nc7 := lv_neT c7 (show (1 : Int32).toInt = 1 by decide)
                have nc9 := lv_neT c9 (show (2 : Int32).toInt = 2 by decide)
                have nc11 := lv_neT c11 (show (3 : Int32).toInt = 3 by decide)
                have nc13 := lv_neT c13 (show (4 : Int32).toInt = 4 by decide)
                have nc15 := lv_neT c15 (show (5 : Int32).toInt = 5 by decide)
                refine lv_tableOut (tgt := 93) hx hb dX8_house_12 (by omega) (by decide) ?_
                refine lv_ldc (v := (-1000000002)) hx hb C.2.2.2.1 (C.2.2.2.2.1 _ q167) dX8_house_93 ?_
                exact x_iret C hr h hf dX8_house_95
  · have hf := ifT c4 hf
    refine lv_ldc (v := (-1000000001)) hx hb C.2.2.2.1 (C.2.2.2.2.1 _ q434) dX8_house_8 ?_
    exact x_iret C hr h hf dX8_house_10
def f_X8_isStartled  (x1 : Int32) (σ : St) : Option (Int32 × St) := if (σ.1 0 10) < 0 then some (0, σ) else rd (σ.1 7) 8 x1 (fun v2 => if (σ.1 0 11) ≤ v2 then some (0, σ) else rd (σ.1 4) 8 x1 (fun v4 => if v4 = (σ.1 0 12) then some (0, σ) else some (1, σ)))
set_option maxHeartbeats 4000000 in
theorem c_X8_isStartled (l : Launch) (D : va_G) (G : Geo)   (x1 : Int32) (σ : St) (o : Int32 × St) (hf : f_X8_isStartled  x1 σ = some o) : CI l D (tyG G) (wM G) yX8_isStartled cX8_isStartled 2 ((some .boolean)) ({ frames := 0, cells := 0, slots := 0, locals := 0 }) [.ref (G.1 0), .int x1] σ o := by
  refine met_of (Qc := fun A => QI D (tyG G) (wM G) A o) pn_X8 (Nat.le_of_ble_eq_true rfl) (fun p e s m below meth c A ls C hr h hl => ?_)
  have C : Cx p s m _ meth c cX8_isStartled 2 RX8 D (tyG G) := C
  have hl : lv_has ls 2 [(0, .ref (G.1 0)), (1, .int x1)] := hl
  unfold f_X8_isStartled at hf
  have hx := C.1
  have hb := C.2.1
  refine lv_aload_n hx hb dX8_isStartled_0 rfl (lv_at hl 0 rfl) ?_
  refine gf_X8_34 C h dX8_isStartled_1 ?_
  refine lv_if_lt (tgt := 37) hx hb dX8_isStartled_4 (by decide) (fun c1 => ?_) (fun c1 => ?_)
  · have hf := ifT c1 hf
    refine lv_iconst (v := 0) hx hb dX8_isStartled_37 (by decide) ?_
    exact x_zret C hr h rfl hf dX8_isStartled_38
  · have hf := ifF c1 hf
    refine lv_aload_n hx hb dX8_isStartled_7 rfl (lv_at hl 0 rfl) ?_
    refine gf_X8_28 C h dX8_isStartled_8 ?_
    refine lv_iload_n hx hb dX8_isStartled_11 rfl (lv_at hl 1 rfl) ?_
    refine rd_el hf (fun v2 hinv2 hv2 hf => ?_)
    refine x_iald C h 7 1 (by decide) (aM_7 G _ _) rfl hinv2 hv2 dX8_isStartled_12 ?_
    refine lv_aload_n hx hb dX8_isStartled_13 rfl (lv_at hl 0 rfl) ?_
    refine gf_X8_38 C h dX8_isStartled_14 ?_
    refine lv_icmp_ge (tgt := 37) hx hb dX8_isStartled_17 (by decide) (fun c3 => ?_) (fun c3 => ?_)
    · have hf := ifT c3 hf
      refine lv_iconst (v := 0) hx hb dX8_isStartled_37 (by decide) ?_
      exact x_zret C hr h rfl hf dX8_isStartled_38
    · have hf := ifF c3 hf
      refine lv_aload_n hx hb dX8_isStartled_20 rfl (lv_at hl 0 rfl) ?_
      refine gf_X8_19 C h dX8_isStartled_21 ?_
      refine lv_iload_n hx hb dX8_isStartled_24 rfl (lv_at hl 1 rfl) ?_
      refine rd_el hf (fun v4 hinv4 hv4 hf => ?_)
      refine x_iald C h 4 1 (by decide) (aM_4 G _ _) rfl hinv4 hv4 dX8_isStartled_25 ?_
      refine lv_aload_n hx hb dX8_isStartled_26 rfl (lv_at hl 0 rfl) ?_
      refine gf_X8_41 C h dX8_isStartled_27 ?_
      refine lv_icmp_eq (tgt := 37) hx hb dX8_isStartled_30 (by decide) (fun c5 => ?_) (fun c5 => ?_)
      · have hf := ifT c5 hf
        refine lv_iconst (v := 0) hx hb dX8_isStartled_37 (by decide) ?_
        exact x_zret C hr h rfl hf dX8_isStartled_38
      · have hf := ifF c5 hf
        refine lv_iconst (v := 1) hx hb dX8_isStartled_33 (by decide) ?_
        refine lv_goto (tgt := 38) hx hb dX8_isStartled_34 (by decide) ?_
        exact x_zret C hr h rfl hf dX8_isStartled_38
def f_X8_heard  (x1 : Int32) (x2 : Int32) (σ : St) : Option (Int32 × St) := bd (f_X8_isStartled x1 σ) (fun r3 σ1 => if r3 = 0 then some (x2, σ1) else if x2 ≤ (σ1.1 0 10) then some (x2, σ1) else some (σ1.1 0 10, σ1))
set_option maxHeartbeats 4000000 in
theorem c_X8_heard (l : Launch) (D : va_G) (G : Geo)   (x1 : Int32) (x2 : Int32) (σ : St) (o : Int32 × St) (hf : f_X8_heard  x1 x2 σ = some o) : CI l D (tyG G) (wM G) yX8_heard cX8_heard 3 ((some .int)) ({ frames := 1, cells := 0, slots := 0, locals := 21 }) [.ref (G.1 0), .int x1, .int x2] σ o := by
  refine met_of (Qc := fun A => QI D (tyG G) (wM G) A o) pn_X8 (Nat.le_of_ble_eq_true rfl) (fun p e s m below meth c A ls C hr h hl => ?_)
  have C : Cx p s m _ meth c cX8_heard 3 RX8 D (tyG G) := C
  have hl : lv_has ls 3 [(0, .ref (G.1 0)), (1, .int x1), (2, .int x2)] := hl
  unfold f_X8_heard at hf
  have hx := C.1
  have hb := C.2.1
  refine lv_aload_n hx hb dX8_heard_0 rfl (lv_at hl 0 rfl) ?_
  refine lv_iload_n hx hb dX8_heard_1 rfl (lv_at hl 1 rfl) ?_
  refine bd_el hf (fun r3 σ1 ho2 hf => ?_)
  refine x_goi h (x_runV (As := [.int x1]) (rest := []) C h (c_X8_isStartled l D G x1 σ (r3, σ1) ho2 _) lk_X8_228 rfl ⟨rfl, rfl, Nat.le_of_ble_eq_true rfl, Nat.le_of_ble_eq_true rfl⟩ (x_rcv C h 0 (by decide) (oM G _ _) rfl) hl.1 rfl (Nat.le_of_ble_eq_true rfl) dX8_heard_2) (fun H locs h => ?_)
  refine lv_if_eq (tgt := 23) hx hb dX8_heard_5 (by decide) (fun c4 => ?_) (fun c4 => ?_)
  · have hf := ifT c4 hf
    refine lv_iload_n hx hb dX8_heard_23 rfl (lv_at hl 2 rfl) ?_
    exact x_iret C hr h hf dX8_heard_24
  · have hf := ifF c4 hf
    refine lv_iload_n hx hb dX8_heard_8 rfl (lv_at hl 2 rfl) ?_
    refine lv_aload_n hx hb dX8_heard_9 rfl (lv_at hl 0 rfl) ?_
    refine gf_X8_34 C h dX8_heard_10 ?_
    refine lv_icmp_le (tgt := 23) hx hb dX8_heard_13 (by decide) (fun c5 => ?_) (fun c5 => ?_)
    · have hf := ifT c5 hf
      refine lv_iload_n hx hb dX8_heard_23 rfl (lv_at hl 2 rfl) ?_
      exact x_iret C hr h hf dX8_heard_24
    · have hf := ifF c5 hf
      refine lv_aload_n hx hb dX8_heard_16 rfl (lv_at hl 0 rfl) ?_
      refine gf_X8_34 C h dX8_heard_17 ?_
      refine lv_goto (tgt := 24) hx hb dX8_heard_20 (by decide) ?_
      exact x_iret C hr h hf dX8_heard_24
def f_X8_firstOf  (x1 : Int32) (σ : St) : Option (Int32 × St) := rd (σ.1 5) 8 x1 (fun v1 => rd (σ.1 8) 8 x1 (fun v2 => rd (σ.1 6) 8 x1 (fun v3 => some ((v1 - v2) - v3, σ))))
set_option maxHeartbeats 4000000 in
theorem c_X8_firstOf (l : Launch) (D : va_G) (G : Geo)   (x1 : Int32) (σ : St) (o : Int32 × St) (hf : f_X8_firstOf  x1 σ = some o) : CI l D (tyG G) (wM G) yX8_firstOf cX8_firstOf 2 ((some .int)) ({ frames := 0, cells := 0, slots := 0, locals := 0 }) [.ref (G.1 0), .int x1] σ o := by
  refine met_of (Qc := fun A => QI D (tyG G) (wM G) A o) pn_X8 (Nat.le_of_ble_eq_true rfl) (fun p e s m below meth c A ls C hr h hl => ?_)
  have C : Cx p s m _ meth c cX8_firstOf 2 RX8 D (tyG G) := C
  have hl : lv_has ls 2 [(0, .ref (G.1 0)), (1, .int x1)] := hl
  unfold f_X8_firstOf at hf
  have hx := C.1
  have hb := C.2.1
  refine lv_aload_n hx hb dX8_firstOf_0 rfl (lv_at hl 0 rfl) ?_
  refine gf_X8_22 C h dX8_firstOf_1 ?_
  refine lv_iload_n hx hb dX8_firstOf_4 rfl (lv_at hl 1 rfl) ?_
  refine rd_el hf (fun v1 hinv1 hv1 hf => ?_)
  refine x_iald C h 5 1 (by decide) (aM_5 G _ _) rfl hinv1 hv1 dX8_firstOf_5 ?_
  refine lv_aload_n hx hb dX8_firstOf_6 rfl (lv_at hl 0 rfl) ?_
  refine gf_X8_31 C h dX8_firstOf_7 ?_
  refine lv_iload_n hx hb dX8_firstOf_10 rfl (lv_at hl 1 rfl) ?_
  refine rd_el hf (fun v2 hinv2 hv2 hf => ?_)
  refine x_iald C h 8 1 (by decide) (aM_8 G _ _) rfl hinv2 hv2 dX8_firstOf_11 ?_
  refine lv_isub hx hb dX8_firstOf_12 ?_
  refine lv_aload_n hx hb dX8_firstOf_13 rfl (lv_at hl 0 rfl) ?_
  refine gf_X8_25 C h dX8_firstOf_14 ?_
  refine lv_iload_n hx hb dX8_firstOf_17 rfl (lv_at hl 1 rfl) ?_
  refine rd_el hf (fun v3 hinv3 hv3 hf => ?_)
  refine x_iald C h 6 1 (by decide) (aM_6 G _ _) rfl hinv3 hv3 dX8_firstOf_18 ?_
  refine lv_isub hx hb dX8_firstOf_19 ?_
  exact x_iret C hr h hf dX8_firstOf_20
def f_X8_lastOf  (x1 : Int32) (σ : St) : Option (Int32 × St) := rd (σ.1 5) 8 x1 (fun v1 => rd (σ.1 8) 8 x1 (fun v2 => rd (σ.1 6) 8 x1 (fun v3 => some ((v1 - v2) + v3, σ))))
set_option maxHeartbeats 4000000 in
theorem c_X8_lastOf (l : Launch) (D : va_G) (G : Geo)   (x1 : Int32) (σ : St) (o : Int32 × St) (hf : f_X8_lastOf  x1 σ = some o) : CI l D (tyG G) (wM G) yX8_lastOf cX8_lastOf 2 ((some .int)) ({ frames := 0, cells := 0, slots := 0, locals := 0 }) [.ref (G.1 0), .int x1] σ o := by
  refine met_of (Qc := fun A => QI D (tyG G) (wM G) A o) pn_X8 (Nat.le_of_ble_eq_true rfl) (fun p e s m below meth c A ls C hr h hl => ?_)
  have C : Cx p s m _ meth c cX8_lastOf 2 RX8 D (tyG G) := C
  have hl : lv_has ls 2 [(0, .ref (G.1 0)), (1, .int x1)] := hl
  unfold f_X8_lastOf at hf
  have hx := C.1
  have hb := C.2.1
  refine lv_aload_n hx hb dX8_lastOf_0 rfl (lv_at hl 0 rfl) ?_
  refine gf_X8_22 C h dX8_lastOf_1 ?_
  refine lv_iload_n hx hb dX8_lastOf_4 rfl (lv_at hl 1 rfl) ?_
  refine rd_el hf (fun v1 hinv1 hv1 hf => ?_)
  refine x_iald C h 5 1 (by decide) (aM_5 G _ _) rfl hinv1 hv1 dX8_lastOf_5 ?_
  refine lv_aload_n hx hb dX8_lastOf_6 rfl (lv_at hl 0 rfl) ?_
  refine gf_X8_31 C h dX8_lastOf_7 ?_
  refine lv_iload_n hx hb dX8_lastOf_10 rfl (lv_at hl 1 rfl) ?_
  refine rd_el hf (fun v2 hinv2 hv2 hf => ?_)
  refine x_iald C h 8 1 (by decide) (aM_8 G _ _) rfl hinv2 hv2 dX8_lastOf_11 ?_
  refine lv_isub hx hb dX8_lastOf_12 ?_
  refine lv_aload_n hx hb dX8_lastOf_13 rfl (lv_at hl 0 rfl) ?_
  refine gf_X8_25 C h dX8_lastOf_14 ?_
  refine lv_iload_n hx hb dX8_lastOf_17 rfl (lv_at hl 1 rfl) ?_
  refine rd_el hf (fun v3 hinv3 hv3 hf => ?_)
  refine x_iald C h 6 1 (by decide) (aM_6 G _ _) rfl hinv3 hv3 dX8_lastOf_18 ?_
  refine lv_iadd hx hb dX8_lastOf_19 ?_
  exact x_iret C hr h hf dX8_lastOf_20
def f_X8_sleeper  (x1 : Int32) (x2 : Int32) (σ : St) : Option (Int32 × St) := bd (f_X8_isSleeper x1 σ) (fun r3 σ1 => if r3 = 0 then some ((-1000000001), σ1) else if x2 = 0 then rd (σ1.1 4) 8 x1 (fun v6 => some (v6, σ1)) else if x2 = 1 then rd (σ1.1 5) 8 x1 (fun v8 => some (v8, σ1)) else if x2 = 2 then rd (σ1.1 6) 8 x1 (fun v10 => some (v10, σ1)) else if x2 = 3 then rd (σ1.1 7) 8 x1 (fun v12 => some (v12, σ1)) else if x2 = 4 then rd (σ1.1 8) 8 x1 (fun v14 => some (v14, σ1)) else if x2 = 5 then bd (f_X8_firstOf x1 σ1) (fun r18 σ16 => bd (f_X8_heard x1 r18 σ16) (fun r21 σ19 => some (r21, σ19))) else if x2 = 6 then bd (f_X8_lastOf x1 σ1) (fun r25 σ23 => bd (f_X8_heard x1 r25 σ23) (fun r28 σ26 => some (r28, σ26))) else some ((-1000000002), σ1))
set_option maxHeartbeats 4000000 in
theorem c_X8_sleeper (l : Launch) (D : va_G) (G : Geo)   (x1 : Int32) (x2 : Int32) (σ : St) (o : Int32 × St) (hf : f_X8_sleeper  x1 x2 σ = some o) : CI l D (tyG G) (wM G) yX8_sleeper cX8_sleeper 3 ((some .int)) ({ frames := 2, cells := 0, slots := 0, locals := 46 }) [.ref (G.1 0), .int x1, .int x2] σ o := by
  refine met_of (Qc := fun A => QI D (tyG G) (wM G) A o) pn_X8 (Nat.le_of_ble_eq_true rfl) (fun p e s m below meth c A ls C hr h hl => ?_)
  have C : Cx p s m _ meth c cX8_sleeper 3 RX8 D (tyG G) := C
  have hl : lv_has ls 3 [(0, .ref (G.1 0)), (1, .int x1), (2, .int x2)] := hl
  unfold f_X8_sleeper at hf
  have hx := C.1
  have hb := C.2.1
  refine lv_aload_n hx hb dX8_sleeper_0 rfl (lv_at hl 0 rfl) ?_
  refine lv_iload_n hx hb dX8_sleeper_1 rfl (lv_at hl 1 rfl) ?_
  refine bd_el hf (fun r3 σ1 ho2 hf => ?_)
  refine x_goi h (x_runV (As := [.int x1]) (rest := []) C h (c_X8_isSleeper l D G x1 σ (r3, σ1) ho2 _) lk_X8_231 rfl ⟨rfl, rfl, Nat.le_of_ble_eq_true rfl, Nat.le_of_ble_eq_true rfl⟩ (x_rcv C h 0 (by decide) (oM G _ _) rfl) hl.1 rfl (Nat.le_of_ble_eq_true rfl) dX8_sleeper_2) (fun H locs h => ?_)
  refine lv_if_ne (tgt := 11) hx hb dX8_sleeper_5 (by decide) (fun c4 => ?_) (fun c4 => ?_)
  · have hf := ifF c4 hf
    refine lv_iload_n hx hb dX8_sleeper_11 rfl (lv_at hl 2 rfl) ?_
    by_cases c5 : x2 = 0
    · have hf := ifT c5 hf
      refine lv_tableIn (off := 44) (tgt := 56) hx hb dX8_sleeper_12 (by rw [c5]; decide) (by rw [c5]; decide) (by rw [c5]; rfl) (by decide) ?_
      refine lv_aload_n hx hb dX8_sleeper_56 rfl (lv_at hl 0 rfl) ?_
      refine gf_X8_19 C h dX8_sleeper_57 ?_
      refine lv_iload_n hx hb dX8_sleeper_60 rfl (lv_at hl 1 rfl) ?_
      refine rd_el hf (fun v6 hinv6 hv6 hf => ?_)
      refine x_iald C h 4 1 (by decide) (aM_4 G _ _) rfl hinv6 hv6 dX8_sleeper_61 ?_
      exact x_iret C hr h hf dX8_sleeper_62
    · have hf := ifF c5 hf
      by_cases c7 : x2 = 1
      · have hf := ifT c7 hf
        refine lv_tableIn (off := 51) (tgt := 63) hx hb dX8_sleeper_12 (by rw [c7]; decide) (by rw [c7]; decide) (by rw [c7]; rfl) (by decide) ?_
        refine lv_aload_n hx hb dX8_sleeper_63 rfl (lv_at hl 0 rfl) ?_
        refine gf_X8_22 C h dX8_sleeper_64 ?_
        refine lv_iload_n hx hb dX8_sleeper_67 rfl (lv_at hl 1 rfl) ?_
        refine rd_el hf (fun v8 hinv8 hv8 hf => ?_)
        refine x_iald C h 5 1 (by decide) (aM_5 G _ _) rfl hinv8 hv8 dX8_sleeper_68 ?_
        exact x_iret C hr h hf dX8_sleeper_69
      · have hf := ifF c7 hf
        by_cases c9 : x2 = 2
        · have hf := ifT c9 hf
          refine lv_tableIn (off := 58) (tgt := 70) hx hb dX8_sleeper_12 (by rw [c9]; decide) (by rw [c9]; decide) (by rw [c9]; rfl) (by decide) ?_
          refine lv_aload_n hx hb dX8_sleeper_70 rfl (lv_at hl 0 rfl) ?_
          refine gf_X8_25 C h dX8_sleeper_71 ?_
          refine lv_iload_n hx hb dX8_sleeper_74 rfl (lv_at hl 1 rfl) ?_
          refine rd_el hf (fun v10 hinv10 hv10 hf => ?_)
          refine x_iald C h 6 1 (by decide) (aM_6 G _ _) rfl hinv10 hv10 dX8_sleeper_75 ?_
          exact x_iret C hr h hf dX8_sleeper_76
        · have hf := ifF c9 hf
          by_cases c11 : x2 = 3
          · have hf := ifT c11 hf
            refine lv_tableIn (off := 65) (tgt := 77) hx hb dX8_sleeper_12 (by rw [c11]; decide) (by rw [c11]; decide) (by rw [c11]; rfl) (by decide) ?_
            refine lv_aload_n hx hb dX8_sleeper_77 rfl (lv_at hl 0 rfl) ?_
            refine gf_X8_28 C h dX8_sleeper_78 ?_
            refine lv_iload_n hx hb dX8_sleeper_81 rfl (lv_at hl 1 rfl) ?_
            refine rd_el hf (fun v12 hinv12 hv12 hf => ?_)
            refine x_iald C h 7 1 (by decide) (aM_7 G _ _) rfl hinv12 hv12 dX8_sleeper_82 ?_
            exact x_iret C hr h hf dX8_sleeper_83
          · have hf := ifF c11 hf
            by_cases c13 : x2 = 4
            · have hf := ifT c13 hf
              refine lv_tableIn (off := 72) (tgt := 84) hx hb dX8_sleeper_12 (by rw [c13]; decide) (by rw [c13]; decide) (by rw [c13]; rfl) (by decide) ?_
              refine lv_aload_n hx hb dX8_sleeper_84 rfl (lv_at hl 0 rfl) ?_
              refine gf_X8_31 C h dX8_sleeper_85 ?_
              refine lv_iload_n hx hb dX8_sleeper_88 rfl (lv_at hl 1 rfl) ?_
              refine rd_el hf (fun v14 hinv14 hv14 hf => ?_)
              refine x_iald C h 8 1 (by decide) (aM_8 G _ _) rfl hinv14 hv14 dX8_sleeper_89 ?_
              exact x_iret C hr h hf dX8_sleeper_90
            · have hf := ifF c13 hf
              by_cases c15 : x2 = 5
              · have hf := ifT c15 hf
                refine lv_tableIn (off := 79) (tgt := 91) hx hb dX8_sleeper_12 (by rw [c15]; decide) (by rw [c15]; decide) (by rw [c15]; rfl) (by decide) ?_
                refine lv_aload_n hx hb dX8_sleeper_91 rfl (lv_at hl 0 rfl) ?_
                refine lv_iload_n hx hb dX8_sleeper_92 rfl (lv_at hl 1 rfl) ?_
                refine lv_aload_n hx hb dX8_sleeper_93 rfl (lv_at hl 0 rfl) ?_
                refine lv_iload_n hx hb dX8_sleeper_94 rfl (lv_at hl 1 rfl) ?_
                refine bd_el hf (fun r18 σ16 ho17 hf => ?_)
                refine x_goi h (x_runV (As := [.int x1]) (rest := [.int x1, .ref (G.1 0)]) C h (c_X8_firstOf l D G x1 σ1 (r18, σ16) ho17 _) lk_X8_234 rfl ⟨rfl, rfl, Nat.le_of_ble_eq_true rfl, Nat.le_of_ble_eq_true rfl⟩ (x_rcv C h 0 (by decide) (oM G _ _) rfl) hl.1 rfl (Nat.le_of_ble_eq_true rfl) dX8_sleeper_95) (fun H locs h => ?_)
                refine bd_el hf (fun r21 σ19 ho20 hf => ?_)
                refine x_goi h (x_runV (As := [.int x1, .int r18]) (rest := []) C h (c_X8_heard l D G x1 r18 σ16 (r21, σ19) ho20 _) lk_X8_237 rfl ⟨rfl, rfl, Nat.le_of_ble_eq_true rfl, Nat.le_of_ble_eq_true rfl⟩ (x_rcv C h 0 (by decide) (oM G _ _) rfl) hl.1 rfl (Nat.le_of_ble_eq_true rfl) dX8_sleeper_98) (fun H locs h => ?_)
                exact x_iret C hr h hf dX8_sleeper_101
              · have hf := ifF c15 hf
                by_cases c22 : x2 = 6
                · have hf := ifT c22 hf
                  refine lv_tableIn (off := 90) (tgt := 102) hx hb dX8_sleeper_12 (by rw [c22]; decide) (by rw [c22]; decide) (by rw [c22]; rfl) (by decide) ?_
                  refine lv_aload_n hx hb dX8_sleeper_102 rfl (lv_at hl 0 rfl) ?_
                  refine lv_iload_n hx hb dX8_sleeper_103 rfl (lv_at hl 1 rfl) ?_
                  refine lv_aload_n hx hb dX8_sleeper_104 rfl (lv_at hl 0 rfl) ?_
                  refine lv_iload_n hx hb dX8_sleeper_105 rfl (lv_at hl 1 rfl) ?_
                  refine bd_el hf (fun r25 σ23 ho24 hf => ?_)
                  refine x_goi h (x_runV (As := [.int x1]) (rest := [.int x1, .ref (G.1 0)]) C h (c_X8_lastOf l D G x1 σ1 (r25, σ23) ho24 _) lk_X8_240 rfl ⟨rfl, rfl, Nat.le_of_ble_eq_true rfl, Nat.le_of_ble_eq_true rfl⟩ (x_rcv C h 0 (by decide) (oM G _ _) rfl) hl.1 rfl (Nat.le_of_ble_eq_true rfl) dX8_sleeper_106) (fun H locs h => ?_)
                  refine bd_el hf (fun r28 σ26 ho27 hf => ?_)
                  refine x_goi h (x_runV (As := [.int x1, .int r25]) (rest := []) C h (c_X8_heard l D G x1 r25 σ23 (r28, σ26) ho27 _) lk_X8_237 rfl ⟨rfl, rfl, Nat.le_of_ble_eq_true rfl, Nat.le_of_ble_eq_true rfl⟩ (x_rcv C h 0 (by decide) (oM G _ _) rfl) hl.1 rfl (Nat.le_of_ble_eq_true rfl) dX8_sleeper_109) (fun H locs h => ?_)
                  exact x_iret C hr h hf dX8_sleeper_112
                · have hf := ifF c22 hf
                  have nc5 := lv_neT c5 (show (0 : Int32).toInt = 0 by decide)
                  have nc7 := lv_neT c7 (show (1 : Int32).toInt = 1 by decide)
                  have nc9 := lv_neT c9 (show (2 : Int32).toInt = 2 by decide)
                  have nc11 := lv_neT c11 (show (3 : Int32).toInt = 3 by decide)
                  have nc13 := lv_neT c13 (show (4 : Int32).toInt = 4 by decide)
                  have nc15 := lv_neT c15 (show (5 : Int32).toInt = 5 by decide)
                  have nc22 := lv_neT c22 (show (6 : Int32).toInt = 6 by decide)
                  refine lv_tableOut (tgt := 113) hx hb dX8_sleeper_12 (by omega) (by decide) ?_
                  refine lv_ldc (v := (-1000000002)) hx hb C.2.2.2.1 (C.2.2.2.2.1 _ q167) dX8_sleeper_113 ?_
                  exact x_iret C hr h hf dX8_sleeper_115
  · have hf := ifT c4 hf
    refine lv_ldc (v := (-1000000001)) hx hb C.2.2.2.1 (C.2.2.2.2.1 _ q434) dX8_sleeper_8 ?_
    exact x_iret C hr h hf dX8_sleeper_10
def f_X8_shift  (x1 : Int32) (x2 : Int32) (σ : St) : Option (Int32 × St) := bd (f_X8_isSleeper x1 σ) (fun r3 σ1 => if r3 = 0 then some ((-1000000001), σ1) else rd (σ1.1 4) 8 x1 (fun v5 => rd (σ1.1 3) 5 v5 (fun v6 => bd (f_X8_in x2.toInt64 0 v6.toInt64 σ1) (fun r9 σ7 => if r9 = 0 then some ((-1000000002), σ7) else rd (σ7.1 8) 8 x1 (fun v11 => ck (inb x1 8) (nm (sI σ7 8 (x1 : Int32).toNatClampNeg x2) (fun σ13 => some (v11, σ13))))))))
set_option maxHeartbeats 4000000 in
theorem c_X8_shift (l : Launch) (D : va_G) (G : Geo)   (x1 : Int32) (x2 : Int32) (σ : St) (o : Int32 × St) (hf : f_X8_shift  x1 x2 σ = some o) : CI l D (tyG G) (wM G) yX8_shift cX8_shift 4 ((some .int)) ({ frames := 2, cells := 0, slots := 0, locals := 46 }) [.ref (G.1 0), .int x1, .int x2] σ o := by
  refine met_of (Qc := fun A => QI D (tyG G) (wM G) A o) pn_X8 (Nat.le_of_ble_eq_true rfl) (fun p e s m below meth c A ls C hr h hl => ?_)
  have C : Cx p s m _ meth c cX8_shift 4 RX8 D (tyG G) := C
  have hl : lv_has ls 4 [(0, .ref (G.1 0)), (1, .int x1), (2, .int x2)] := hl
  unfold f_X8_shift at hf
  have hx := C.1
  have hb := C.2.1
  refine lv_aload_n hx hb dX8_shift_0 rfl (lv_at hl 0 rfl) ?_
  refine lv_iload_n hx hb dX8_shift_1 rfl (lv_at hl 1 rfl) ?_
  refine bd_el hf (fun r3 σ1 ho2 hf => ?_)
  refine x_goi h (x_runV (As := [.int x1]) (rest := []) C h (c_X8_isSleeper l D G x1 σ (r3, σ1) ho2 _) lk_X8_231 rfl ⟨rfl, rfl, Nat.le_of_ble_eq_true rfl, Nat.le_of_ble_eq_true rfl⟩ (x_rcv C h 0 (by decide) (oM G _ _) rfl) hl.1 rfl (Nat.le_of_ble_eq_true rfl) dX8_shift_2) (fun H locs h => ?_)
  refine lv_if_ne (tgt := 11) hx hb dX8_shift_5 (by decide) (fun c4 => ?_) (fun c4 => ?_)
  · have hf := ifF c4 hf
    refine lv_iload_n hx hb dX8_shift_11 rfl (lv_at hl 2 rfl) ?_
    refine lv_i2l (v := x2.toInt64) hx hb dX8_shift_12 rfl ?_
    refine lv_lconst (v := 0) hx hb dX8_shift_13 (by decide) ?_
    refine lv_aload_n hx hb dX8_shift_14 rfl (lv_at hl 0 rfl) ?_
    refine gf_X8_16 C h dX8_shift_15 ?_
    refine lv_aload_n hx hb dX8_shift_18 rfl (lv_at hl 0 rfl) ?_
    refine gf_X8_19 C h dX8_shift_19 ?_
    refine lv_iload_n hx hb dX8_shift_22 rfl (lv_at hl 1 rfl) ?_
    refine rd_el hf (fun v5 hinv5 hv5 hf => ?_)
    refine x_iald C h 4 1 (by decide) (aM_4 G _ _) rfl hinv5 hv5 dX8_shift_23 ?_
    refine rd_el hf (fun v6 hinv6 hv6 hf => ?_)
    refine x_iald C h 3 1 (by decide) (aM_3 G _ _) rfl hinv6 hv6 dX8_shift_24 ?_
    refine lv_i2l (v := v6.toInt64) hx hb dX8_shift_25 rfl ?_
    refine bd_el hf (fun r9 σ7 ho8 hf => ?_)
    refine x_goi h (x_runS (As := [.long x2.toInt64, .long 0, .long v6.toInt64]) (rest := []) C h (c_X8_in l D G x2.toInt64 0 v6.toInt64 σ1 (r9, σ7) ho8 _) lk_X8_112 rfl ⟨rfl, rfl, Nat.le_of_ble_eq_true rfl, Nat.le_of_ble_eq_true rfl⟩ hl.1 rfl (Nat.le_of_ble_eq_true rfl) dX8_shift_26) (fun H locs h => ?_)
    refine lv_if_ne (tgt := 35) hx hb dX8_shift_29 (by decide) (fun c10 => ?_) (fun c10 => ?_)
    · have hf := ifF c10 hf
      refine lv_aload_n hx hb dX8_shift_35 rfl (lv_at hl 0 rfl) ?_
      refine gf_X8_31 C h dX8_shift_36 ?_
      refine lv_iload_n hx hb dX8_shift_39 rfl (lv_at hl 1 rfl) ?_
      refine rd_el hf (fun v11 hinv11 hv11 hf => ?_)
      refine x_iald C h 8 1 (by decide) (aM_8 G _ _) rfl hinv11 hv11 dX8_shift_40 ?_
      refine lv_istore_n (lv' := [(3, .int v11), (0, .ref (G.1 0)), (1, .int x1), (2, .int x2)]) hx hb dX8_shift_41 rfl hl (by decide) rfl (fun ls hl => ?_)
      refine lv_aload_n hx hb dX8_shift_42 rfl (lv_at hl 1 rfl) ?_
      refine gf_X8_31 C h dX8_shift_43 ?_
      refine lv_iload_n hx hb dX8_shift_46 rfl (lv_at hl 2 rfl) ?_
      refine lv_iload_n hx hb dX8_shift_47 rfl (lv_at hl 3 rfl) ?_
      refine ckb_el hf (fun hin12 hf => ?_)
      refine nm_el hf (fun σ13 hσ13 hf => ?_)
      refine x_iast C h 8 1 (by decide) (fun f => aM_8 G f _) rfl hin12 dX8_shift_48 hσ13 (fun H locs h => ?_)
      refine lv_iload_n hx hb dX8_shift_49 rfl (lv_at hl 0 rfl) ?_
      exact x_iret C hr h hf dX8_shift_50
    · have hf := ifT c10 hf
      refine lv_ldc (v := (-1000000002)) hx hb C.2.2.2.1 (C.2.2.2.2.1 _ q167) dX8_shift_32 ?_
      exact x_iret C hr h hf dX8_shift_34
  · have hf := ifT c4 hf
    refine lv_ldc (v := (-1000000001)) hx hb C.2.2.2.1 (C.2.2.2.2.1 _ q434) dX8_shift_8 ?_
    exact x_iret C hr h hf dX8_shift_10
def f_X8_setNoise  (x1 : Int32) (x2 : Int32) (x3 : Int32) (σ : St) : Option (St) := nm (sI σ 0 12 x1) (fun σ1 => nm (sI σ1 0 10 x2) (fun σ2 => nm (sI σ2 0 11 x3) (fun σ3 => some σ3)))
set_option maxHeartbeats 4000000 in
theorem c_X8_setNoise (l : Launch) (D : va_G) (G : Geo)   (x1 : Int32) (x2 : Int32) (x3 : Int32) (σ : St) (o : St) (hf : f_X8_setNoise  x1 x2 x3 σ = some o) : CV l D (tyG G) (wM G) yX8_setNoise cX8_setNoise 4 none ({ frames := 0, cells := 0, slots := 0, locals := 0 }) [.ref (G.1 0), .int x1, .int x2, .int x3] σ o := by
  refine met_of (Qc := fun A => QV D (tyG G) (wM G) A o) pn_X8 (Nat.le_of_ble_eq_true rfl) (fun p e s m below meth c A ls C hr h hl => ?_)
  have C : Cx p s m _ meth c cX8_setNoise 4 RX8 D (tyG G) := C
  have hl : lv_has ls 4 [(0, .ref (G.1 0)), (1, .int x1), (2, .int x2), (3, .int x3)] := hl
  unfold f_X8_setNoise at hf
  have hx := C.1
  have hb := C.2.1
  refine lv_aload_n hx hb dX8_setNoise_0 rfl (lv_at hl 0 rfl) ?_
  refine lv_iload_n hx hb dX8_setNoise_1 rfl (lv_at hl 1 rfl) ?_
  refine nm_el hf (fun σ1 hσ1 hf => ?_)
  refine pf_X8_41 C h dX8_setNoise_2 hσ1 (fun H locs h => ?_)
  refine lv_aload_n hx hb dX8_setNoise_5 rfl (lv_at hl 0 rfl) ?_
  refine lv_iload_n hx hb dX8_setNoise_6 rfl (lv_at hl 2 rfl) ?_
  refine nm_el hf (fun σ2 hσ2 hf => ?_)
  refine pf_X8_34 C h dX8_setNoise_7 hσ2 (fun H locs h => ?_)
  refine lv_aload_n hx hb dX8_setNoise_10 rfl (lv_at hl 0 rfl) ?_
  refine lv_iload_n hx hb dX8_setNoise_11 rfl (lv_at hl 3 rfl) ?_
  refine nm_el hf (fun σ3 hσ3 hf => ?_)
  refine pf_X8_38 C h dX8_setNoise_12 hσ3 (fun H locs h => ?_)
  exact x_vret C hr h hf dX8_setNoise_15
def f_X8_noise_50   (x1 : Int32) (x2 : Int32) (x3 : Int32) (y0 : Int32) (σ : St) : Option (Int32 × St) := bv (f_X8_setNoise x1 x2 x3 σ) (fun σ14 => some (y0, σ14))
set_option maxHeartbeats 4000000 in
theorem t_X8_noise_50 (C : Cx p s m args meth c cX8_noise 5 RX8 D (tyG G)) (hr : meth.sig.returnType = (some .int)) {o : Int32 × St}   : ∀ (x1 : Int32) (x2 : Int32) (x3 : Int32) (y0 : Int32) (σ : St) (H : Heap) (locs : List Loc) (ls : Array Slot), Hs D A s.heap (wM G σ) H locs → lv_has ls 5 [(0, .ref (G.1 0)), (1, .int x1), (2, .int x2), (3, .int x3)] → f_X8_noise_50   x1 x2 x3 y0 σ = some o → W p l e ({ frames := 2, cells := 0, slots := 0, locals := 46 } : Room) s m args below meth c H locs 0 0 (MQ below (QI D (tyG G) (wM G) A o) args s 0 0 A) (F0 m 50 ls [.int y0]) := by
  intro x1 x2 x3 y0 σ H locs ls h hl hf
  unfold f_X8_noise_50 at hf
  have hx := C.1
  have hb := C.2.1
  refine lv_istore (lv' := [(4, .int y0), (0, .ref (G.1 0)), (1, .int x1), (2, .int x2), (3, .int x3)]) hx hb dX8_noise_50 hl (by decide) rfl (fun ls hl => ?_)
  refine lv_aload_n hx hb dX8_noise_52 rfl (lv_at hl 1 rfl) ?_
  refine lv_iload_n hx hb dX8_noise_53 rfl (lv_at hl 2 rfl) ?_
  refine lv_iload_n hx hb dX8_noise_54 rfl (lv_at hl 3 rfl) ?_
  refine lv_iload_n hx hb dX8_noise_55 rfl (lv_at hl 4 rfl) ?_
  refine bv_el hf (fun σ14 ho15 hf => ?_)
  refine x_gov h (x_runV (As := [.int x1, .int x2, .int x3]) (rest := []) C h (c_X8_setNoise l D G x1 x2 x3 σ σ14 ho15 _) lk_X8_247 rfl ⟨rfl, rfl, Nat.le_of_ble_eq_true rfl, Nat.le_of_ble_eq_true rfl⟩ (x_rcv C h 0 (by decide) (oM G _ _) rfl) hl.1 rfl (Nat.le_of_ble_eq_true rfl) dX8_noise_56) (fun H locs h => ?_)
  refine lv_iload hx hb dX8_noise_59 (lv_at hl 0 rfl) ?_
  exact x_iret C hr h hf dX8_noise_61
def f_X8_noise  (x1 : Int32) (x2 : Int32) (x3 : Int32) (σ : St) : Option (Int32 × St) := bd (f_X8_isHouse x1 σ) (fun r3 σ1 => if r3 = 0 then some ((-1000000001), σ1) else bd (f_X8_in x2.toInt64 0 700 σ1) (fun r7 σ5 => if r7 = 0 then some ((-1000000002), σ5) else bd (f_X8_in x3.toInt64 0 9 σ5) (fun r11 σ9 => if r11 = 0 then some ((-1000000002), σ9) else if (0 : Int32) ≤ (σ9.1 0 10) then f_X8_noise_50 x1 x2 x3 1 σ9 else f_X8_noise_50 x1 x2 x3 0 σ9)))
set_option maxHeartbeats 4000000 in
theorem c_X8_noise (l : Launch) (D : va_G) (G : Geo)   (x1 : Int32) (x2 : Int32) (x3 : Int32) (σ : St) (o : Int32 × St) (hf : f_X8_noise  x1 x2 x3 σ = some o) : CI l D (tyG G) (wM G) yX8_noise cX8_noise 5 ((some .int)) ({ frames := 2, cells := 0, slots := 0, locals := 46 }) [.ref (G.1 0), .int x1, .int x2, .int x3] σ o := by
  refine met_of (Qc := fun A => QI D (tyG G) (wM G) A o) pn_X8 (Nat.le_of_ble_eq_true rfl) (fun p e s m below meth c A ls C hr h hl => ?_)
  have C : Cx p s m _ meth c cX8_noise 5 RX8 D (tyG G) := C
  have hl : lv_has ls 5 [(0, .ref (G.1 0)), (1, .int x1), (2, .int x2), (3, .int x3)] := hl
  unfold f_X8_noise at hf
  have hx := C.1
  have hb := C.2.1
  refine lv_aload_n hx hb dX8_noise_0 rfl (lv_at hl 0 rfl) ?_
  refine lv_iload_n hx hb dX8_noise_1 rfl (lv_at hl 1 rfl) ?_
  refine bd_el hf (fun r3 σ1 ho2 hf => ?_)
  refine x_goi h (x_runV (As := [.int x1]) (rest := []) C h (c_X8_isHouse l D G x1 σ (r3, σ1) ho2 _) lk_X8_219 rfl ⟨rfl, rfl, Nat.le_of_ble_eq_true rfl, Nat.le_of_ble_eq_true rfl⟩ (x_rcv C h 0 (by decide) (oM G _ _) rfl) hl.1 rfl (Nat.le_of_ble_eq_true rfl) dX8_noise_2) (fun H locs h => ?_)
  refine lv_if_ne (tgt := 11) hx hb dX8_noise_5 (by decide) (fun c4 => ?_) (fun c4 => ?_)
  · have hf := ifF c4 hf
    refine lv_iload_n hx hb dX8_noise_11 rfl (lv_at hl 2 rfl) ?_
    refine lv_i2l (v := x2.toInt64) hx hb dX8_noise_12 rfl ?_
    refine lv_lconst (v := 0) hx hb dX8_noise_13 (by decide) ?_
    refine lv_ldc2 (v := 700) hx hb C.2.2.2.1 (C.2.2.2.2.1 _ q517) dX8_noise_14 ?_
    refine bd_el hf (fun r7 σ5 ho6 hf => ?_)
    refine x_goi h (x_runS (As := [.long x2.toInt64, .long 0, .long 700]) (rest := []) C h (c_X8_in l D G x2.toInt64 0 700 σ1 (r7, σ5) ho6 _) lk_X8_112 rfl ⟨rfl, rfl, Nat.le_of_ble_eq_true rfl, Nat.le_of_ble_eq_true rfl⟩ hl.1 rfl (Nat.le_of_ble_eq_true rfl) dX8_noise_17) (fun H locs h => ?_)
    refine lv_if_eq (tgt := 35) hx hb dX8_noise_20 (by decide) (fun c8 => ?_) (fun c8 => ?_)
    · have hf := ifT c8 hf
      refine lv_ldc (v := (-1000000002)) hx hb C.2.2.2.1 (C.2.2.2.2.1 _ q167) dX8_noise_35 ?_
      exact x_iret C hr h hf dX8_noise_37
    · have hf := ifF c8 hf
      refine lv_iload_n hx hb dX8_noise_23 rfl (lv_at hl 3 rfl) ?_
      refine lv_i2l (v := x3.toInt64) hx hb dX8_noise_24 rfl ?_
      refine lv_lconst (v := 0) hx hb dX8_noise_25 (by decide) ?_
      refine lv_ldc2 (v := 9) hx hb C.2.2.2.1 (C.2.2.2.2.1 _ q518) dX8_noise_26 ?_
      refine bd_el hf (fun r11 σ9 ho10 hf => ?_)
      refine x_goi h (x_runS (As := [.long x3.toInt64, .long 0, .long 9]) (rest := []) C h (c_X8_in l D G x3.toInt64 0 9 σ5 (r11, σ9) ho10 _) lk_X8_112 rfl ⟨rfl, rfl, Nat.le_of_ble_eq_true rfl, Nat.le_of_ble_eq_true rfl⟩ hl.1 rfl (Nat.le_of_ble_eq_true rfl) dX8_noise_29) (fun H locs h => ?_)
      refine lv_if_ne (tgt := 38) hx hb dX8_noise_32 (by decide) (fun c12 => ?_) (fun c12 => ?_)
      · have hf := ifF c12 hf
        refine lv_aload_n hx hb dX8_noise_38 rfl (lv_at hl 0 rfl) ?_
        refine gf_X8_34 C h dX8_noise_39 ?_
        refine lv_if_ge (tgt := 49) hx hb dX8_noise_42 (by decide) (fun c13 => ?_) (fun c13 => ?_)
        · have hf := ifT c13 hf
          refine lv_iconst (v := 1) hx hb dX8_noise_49 (by decide) ?_
          exact t_X8_noise_50 C hr x1 x2 x3 1 σ9 _ _ _ h (lv_sub hl [0, 1, 2, 3] rfl) hf
        · have hf := ifF c13 hf
          refine lv_iconst (v := 0) hx hb dX8_noise_45 (by decide) ?_
          refine lv_goto (tgt := 50) hx hb dX8_noise_46 (by decide) ?_
          exact t_X8_noise_50 C hr x1 x2 x3 0 σ9 _ _ _ h (lv_sub hl [0, 1, 2, 3] rfl) hf
      · have hf := ifT c12 hf
        refine lv_ldc (v := (-1000000002)) hx hb C.2.2.2.1 (C.2.2.2.2.1 _ q167) dX8_noise_35 ?_
        exact x_iret C hr h hf dX8_noise_37
  · have hf := ifT c4 hf
    refine lv_ldc (v := (-1000000001)) hx hb C.2.2.2.1 (C.2.2.2.2.1 _ q434) dX8_noise_8 ?_
    exact x_iret C hr h hf dX8_noise_10
def f_X8_hush_12   (y0 : Int32) (σ : St) : Option (Int32 × St) := bv (f_X8_setNoise ((-1)) ((-1)) ((-1)) σ) (fun σ2 => some (y0, σ2))
set_option maxHeartbeats 4000000 in
theorem t_X8_hush_12 (C : Cx p s m args meth c cX8_hush 2 RX8 D (tyG G)) (hr : meth.sig.returnType = (some .int)) {o : Int32 × St}   : ∀ (y0 : Int32) (σ : St) (H : Heap) (locs : List Loc) (ls : Array Slot), Hs D A s.heap (wM G σ) H locs → lv_has ls 2 [(0, .ref (G.1 0))] → f_X8_hush_12   y0 σ = some o → W p l e ({ frames := 1, cells := 0, slots := 0, locals := 23 } : Room) s m args below meth c H locs 0 0 (MQ below (QI D (tyG G) (wM G) A o) args s 0 0 A) (F0 m 12 ls [.int y0]) := by
  intro y0 σ H locs ls h hl hf
  unfold f_X8_hush_12 at hf
  have hx := C.1
  have hb := C.2.1
  refine lv_istore_n (lv' := [(1, .int y0), (0, .ref (G.1 0))]) hx hb dX8_hush_12 rfl hl (by decide) rfl (fun ls hl => ?_)
  refine lv_aload_n hx hb dX8_hush_13 rfl (lv_at hl 1 rfl) ?_
  refine lv_iconst (v := (-1)) hx hb dX8_hush_14 (by decide) ?_
  refine lv_iconst (v := (-1)) hx hb dX8_hush_15 (by decide) ?_
  refine lv_iconst (v := (-1)) hx hb dX8_hush_16 (by decide) ?_
  refine bv_el hf (fun σ2 ho3 hf => ?_)
  refine x_gov h (x_runV (As := [.int ((-1)), .int ((-1)), .int ((-1))]) (rest := []) C h (c_X8_setNoise l D G ((-1)) ((-1)) ((-1)) σ σ2 ho3 _) lk_X8_247 rfl ⟨rfl, rfl, Nat.le_of_ble_eq_true rfl, Nat.le_of_ble_eq_true rfl⟩ (x_rcv C h 0 (by decide) (oM G _ _) rfl) hl.1 rfl (Nat.le_of_ble_eq_true rfl) dX8_hush_17) (fun H locs h => ?_)
  refine lv_iload_n hx hb dX8_hush_20 rfl (lv_at hl 0 rfl) ?_
  exact x_iret C hr h hf dX8_hush_21
def f_X8_hush   (σ : St) : Option (Int32 × St) := if (0 : Int32) ≤ (σ.1 0 10) then f_X8_hush_12 1 σ else f_X8_hush_12 0 σ
set_option maxHeartbeats 4000000 in
theorem c_X8_hush (l : Launch) (D : va_G) (G : Geo)    (σ : St) (o : Int32 × St) (hf : f_X8_hush   σ = some o) : CI l D (tyG G) (wM G) yX8_hush cX8_hush 2 ((some .int)) ({ frames := 1, cells := 0, slots := 0, locals := 23 }) [.ref (G.1 0)] σ o := by
  refine met_of (Qc := fun A => QI D (tyG G) (wM G) A o) pn_X8 (Nat.le_of_ble_eq_true rfl) (fun p e s m below meth c A ls C hr h hl => ?_)
  have C : Cx p s m _ meth c cX8_hush 2 RX8 D (tyG G) := C
  have hl : lv_has ls 2 [(0, .ref (G.1 0))] := hl
  unfold f_X8_hush at hf
  have hx := C.1
  have hb := C.2.1
  refine lv_aload_n hx hb dX8_hush_0 rfl (lv_at hl 0 rfl) ?_
  refine gf_X8_34 C h dX8_hush_1 ?_
  refine lv_if_ge (tgt := 11) hx hb dX8_hush_4 (by decide) (fun c1 => ?_) (fun c1 => ?_)
  · have hf := ifT c1 hf
    refine lv_iconst (v := 1) hx hb dX8_hush_11 (by decide) ?_
    exact t_X8_hush_12 C hr 1 σ _ _ _ h (lv_sub hl [0] rfl) hf
  · have hf := ifF c1 hf
    refine lv_iconst (v := 0) hx hb dX8_hush_7 (by decide) ?_
    refine lv_goto (tgt := 12) hx hb dX8_hush_8 (by decide) ?_
    exact t_X8_hush_12 C hr 0 σ _ _ _ h (lv_sub hl [0] rfl) hf
def f_X8_law  (x1 : Int32) (σ : St) : Option (Int32 × St) := bd (f_X8_in x1.toInt64 0 2 σ) (fun r3 σ1 => if r3 = 0 then some ((-1000000002), σ1) else nm (σ1.1 0 13) (fun z5 => nm (sI σ1 0 13 x1) (fun σ6 => some (z5, σ6))))
set_option maxHeartbeats 4000000 in
theorem c_X8_law (l : Launch) (D : va_G) (G : Geo)   (x1 : Int32) (σ : St) (o : Int32 × St) (hf : f_X8_law  x1 σ = some o) : CI l D (tyG G) (wM G) yX8_law cX8_law 3 ((some .int)) ({ frames := 1, cells := 0, slots := 0, locals := 25 }) [.ref (G.1 0), .int x1] σ o := by
  refine met_of (Qc := fun A => QI D (tyG G) (wM G) A o) pn_X8 (Nat.le_of_ble_eq_true rfl) (fun p e s m below meth c A ls C hr h hl => ?_)
  have C : Cx p s m _ meth c cX8_law 3 RX8 D (tyG G) := C
  have hl : lv_has ls 3 [(0, .ref (G.1 0)), (1, .int x1)] := hl
  unfold f_X8_law at hf
  have hx := C.1
  have hb := C.2.1
  refine lv_iload_n hx hb dX8_law_0 rfl (lv_at hl 1 rfl) ?_
  refine lv_i2l (v := x1.toInt64) hx hb dX8_law_1 rfl ?_
  refine lv_lconst (v := 0) hx hb dX8_law_2 (by decide) ?_
  refine lv_ldc2 (v := 2) hx hb C.2.2.2.1 (C.2.2.2.2.1 _ q539) dX8_law_3 ?_
  refine bd_el hf (fun r3 σ1 ho2 hf => ?_)
  refine x_goi h (x_runS (As := [.long x1.toInt64, .long 0, .long 2]) (rest := []) C h (c_X8_in l D G x1.toInt64 0 2 σ (r3, σ1) ho2 _) lk_X8_112 rfl ⟨rfl, rfl, Nat.le_of_ble_eq_true rfl, Nat.le_of_ble_eq_true rfl⟩ hl.1 rfl (Nat.le_of_ble_eq_true rfl) dX8_law_6) (fun H locs h => ?_)
  refine lv_if_ne (tgt := 15) hx hb dX8_law_9 (by decide) (fun c4 => ?_) (fun c4 => ?_)
  · have hf := ifF c4 hf
    refine lv_aload_n hx hb dX8_law_15 rfl (lv_at hl 0 rfl) ?_
    refine gf_X8_119 C h dX8_law_16 ?_
    refine nm_el hf (fun z5 ez5 hf => ?_)
    refine x_topi ez5 ?_
    refine lv_istore_n (lv' := [(2, .int z5), (0, .ref (G.1 0)), (1, .int x1)]) hx hb dX8_law_19 rfl hl (by decide) rfl (fun ls hl => ?_)
    refine lv_aload_n hx hb dX8_law_20 rfl (lv_at hl 1 rfl) ?_
    refine lv_iload_n hx hb dX8_law_21 rfl (lv_at hl 2 rfl) ?_
    refine nm_el hf (fun σ6 hσ6 hf => ?_)
    refine pf_X8_119 C h dX8_law_22 hσ6 (fun H locs h => ?_)
    refine lv_iload_n hx hb dX8_law_25 rfl (lv_at hl 0 rfl) ?_
    exact x_iret C hr h hf dX8_law_26
  · have hf := ifT c4 hf
    refine lv_ldc (v := (-1000000002)) hx hb C.2.2.2.1 (C.2.2.2.2.1 _ q167) dX8_law_12 ?_
    exact x_iret C hr h hf dX8_law_14
def f_X8_draw  (x1 : Int32) (σ : St) : Option (Int32 × St) := nm (sI σ 0 21 ((((((σ.1 0 21 : Int32).toInt64) * 1103515245) + 12345) - ((((σ.1 0 21 : Int32).toInt64) * 1103515245) + 12345) / 2147483648 * 2147483648 : Int64).toInt32)) (fun σ1 => ck (nz x1) (some (((σ1.1 0 21) / 65536) - ((σ1.1 0 21) / 65536) / x1 * x1, σ1)))
set_option maxHeartbeats 4000000 in
theorem c_X8_draw (l : Launch) (D : va_G) (G : Geo)   (x1 : Int32) (σ : St) (o : Int32 × St) (hf : f_X8_draw  x1 σ = some o) : CI l D (tyG G) (wM G) yX8_draw cX8_draw 2 ((some .int)) ({ frames := 0, cells := 0, slots := 0, locals := 0 }) [.ref (G.1 0), .int x1] σ o := by
  refine met_of (Qc := fun A => QI D (tyG G) (wM G) A o) pn_X8 (Nat.le_of_ble_eq_true rfl) (fun p e s m below meth c A ls C hr h hl => ?_)
  have C : Cx p s m _ meth c cX8_draw 2 RX8 D (tyG G) := C
  have hl : lv_has ls 2 [(0, .ref (G.1 0)), (1, .int x1)] := hl
  unfold f_X8_draw at hf
  have hx := C.1
  have hb := C.2.1
  refine lv_aload_n hx hb dX8_draw_0 rfl (lv_at hl 0 rfl) ?_
  refine lv_aload_n hx hb dX8_draw_1 rfl (lv_at hl 0 rfl) ?_
  refine gf_X8_253 C h dX8_draw_2 ?_
  refine lv_i2l (v := (σ.1 0 21 : Int32).toInt64) hx hb dX8_draw_5 rfl ?_
  refine lv_ldc2 (v := 1103515245) hx hb C.2.2.2.1 (C.2.2.2.2.1 _ q595) dX8_draw_6 ?_
  refine lv_lmul hx hb dX8_draw_9 ?_
  refine lv_ldc2 (v := 12345) hx hb C.2.2.2.1 (C.2.2.2.2.1 _ q596) dX8_draw_10 ?_
  refine lv_ladd hx hb dX8_draw_13 ?_
  refine lv_ldc2 (v := 2147483648) hx hb C.2.2.2.1 (C.2.2.2.2.1 _ q597) dX8_draw_14 ?_
  refine lv_lrem hx hb dX8_draw_17 (by decide) ?_
  refine lv_l2i (v := (((((σ.1 0 21 : Int32).toInt64) * 1103515245) + 12345) - ((((σ.1 0 21 : Int32).toInt64) * 1103515245) + 12345) / 2147483648 * 2147483648 : Int64).toInt32) hx hb dX8_draw_18 rfl ?_
  refine nm_el hf (fun σ1 hσ1 hf => ?_)
  refine pf_X8_253 C h dX8_draw_19 hσ1 (fun H locs h => ?_)
  refine lv_aload_n hx hb dX8_draw_22 rfl (lv_at hl 0 rfl) ?_
  refine gf_X8_253 C h dX8_draw_23 ?_
  refine lv_ldcw (v := 65536) hx hb C.2.2.2.1 (C.2.2.2.2.1 _ q598) dX8_draw_26 ?_
  refine lv_idiv hx hb dX8_draw_29 (by decide) ?_
  refine lv_iload_n hx hb dX8_draw_30 rfl (lv_at hl 1 rfl) ?_
  refine ck_el hf (fun hz2 hf => ?_)
  refine lv_irem hx hb dX8_draw_31 (of_decide_eq_true hz2) ?_
  exact x_iret C hr h hf dX8_draw_32
def f_X8_dawnNow_229  (rec199 : Int32 × Int32 × Int32 × St → Option (Int32 × St)) (x1 : Int32) (x2 : Int32) (x3 : Int32) (y1 : Int32) (y2 : Int32) (σ : St) : Option (Int32 × St) := ck (inb y1 5) (nm (sI σ 9 (y1 : Int32).toNatClampNeg y2) (fun σ49 => rec199 (x1, x2, x3 + 1, σ49)))
set_option maxHeartbeats 4000000 in
theorem t_X8_dawnNow_229 (C : Cx p s m args meth c cX8_dawnNow 5 RX8 D (tyG G)) (hr : meth.sig.returnType = (some .int)) {o : Int32 × St}  {rec199 : Int32 × Int32 × Int32 × St → Option (Int32 × St)} (IH199 : ∀ q, rec199 q = some o → ∀ (H : Heap) (locs : List Loc) (ls : Array Slot), Hs D A s.heap (wM G (q.2.2.2)) H locs → lv_has ls 5 [(0, .ref (G.1 0)), (1, .int (q.1)), (2, .int (q.2.1)), (3, .int (q.2.2.1))] → W p l e ({ frames := 2, cells := 0, slots := 0, locals := 43 } : Room) s m args below meth c H locs 0 0 (MQ below (QI D (tyG G) (wM G) A o) args s 0 0 A) (F0 m 199 ls [])) : ∀ (x1 : Int32) (x2 : Int32) (x3 : Int32) (y1 : Int32) (y2 : Int32) (σ : St) (H : Heap) (locs : List Loc) (ls : Array Slot), Hs D A s.heap (wM G σ) H locs → lv_has ls 5 [(0, .ref (G.1 0)), (1, .int x1), (2, .int x2), (3, .int x3)] → f_X8_dawnNow_229  rec199 x1 x2 x3 y1 y2 σ = some o → W p l e ({ frames := 2, cells := 0, slots := 0, locals := 43 } : Room) s m args below meth c H locs 0 0 (MQ below (QI D (tyG G) (wM G) A o) args s 0 0 A) (F0 m 229 ls [.int y2, .int y1, .ref (G.1 9)]) := by
  intro x1 x2 x3 y1 y2 σ H locs ls h hl hf
  unfold f_X8_dawnNow_229 at hf
  have hx := C.1
  have hb := C.2.1
  refine ckb_el hf (fun hin48 hf => ?_)
  refine nm_el hf (fun σ49 hσ49 hf => ?_)
  refine x_iast C h 9 1 (by decide) (fun f => aM_9 G f _) rfl hin48 dX8_dawnNow_229 hσ49 (fun H locs h => ?_)
  refine lv_iinc (v := x3 + 1) (lv' := [(3, .int (x3 + 1)), (0, .ref (G.1 0)), (1, .int x1), (2, .int x2)]) hx hb dX8_dawnNow_230 hl (k := 3) rfl rfl (by decide) rfl (fun ls hl => ?_)
  refine lv_goto (tgt := 199) hx hb dX8_dawnNow_233 (by decide) ?_
  exact IH199 (x1, x2, x3 + 1, σ49) hf _ _ _ h (lv_sub hl [1, 2, 3, 0] rfl)
def b_X8_dawnNow_199   (rec199 : Int32 × Int32 × Int32 × St → Option (Int32 × St)) (x1 : Int32) (x2 : Int32) (x3 : Int32) (σ : St) : Option (Int32 × St) := if (σ.1 0 0) ≤ x3 then rd (σ.1 9) 5 x2 (fun v36 => rd (σ.1 1) 5 x2 (fun v37 => if v36 < v37 then some (x1, σ) else ck (inb x2 5) (nm (sI σ 9 (x2 : Int32).toNatClampNeg 0) (fun σ40 => rd (σ40.1 10) 5 x2 (fun v41 => ck (inb x2 5) (nm (sI σ40 10 (x2 : Int32).toNatClampNeg (v41 + 1)) (fun σ43 => rd (σ43.1 2) 5 x2 (fun v44 => nm (sI σ43 0 17 ((σ43.1 0 17) + v44)) (fun σ45 => some (x1, σ45)))))))))) else if x3 = x2 then rd (σ.1 9) 5 x3 (fun v47 => f_X8_dawnNow_229 rec199 x1 x2 x3 x3 (v47 + 1) σ) else f_X8_dawnNow_229 rec199 x1 x2 x3 x3 0 σ
def f_X8_dawnNow_199   (x1 : Int32) (x2 : Int32) (x3 : Int32) (σ : St) : Option (Int32 × St) := lp (fun (rec199 : Int32 × Int32 × Int32 × St → Option (Int32 × St)) (q : Int32 × Int32 × Int32 × St) => b_X8_dawnNow_199   rec199 (q.1) (q.2.1) (q.2.2.1) (q.2.2.2)) 100000 (x1, x2, x3, σ)
set_option maxHeartbeats 4000000 in
theorem t_X8_dawnNow_199 (C : Cx p s m args meth c cX8_dawnNow 5 RX8 D (tyG G)) (hr : meth.sig.returnType = (some .int)) {o : Int32 × St}   : ∀ (x1 : Int32) (x2 : Int32) (x3 : Int32) (σ : St) (H : Heap) (locs : List Loc) (ls : Array Slot), Hs D A s.heap (wM G σ) H locs → lv_has ls 5 [(0, .ref (G.1 0)), (1, .int x1), (2, .int x2), (3, .int x3)] → f_X8_dawnNow_199   x1 x2 x3 σ = some o → W p l e ({ frames := 2, cells := 0, slots := 0, locals := 43 } : Room) s m args below meth c H locs 0 0 (MQ below (QI D (tyG G) (wM G) A o) args s 0 0 A) (F0 m 199 ls []) := by
  intro x1 x2 x3 σ H locs ls h hl hf
  refine lp_el (P := fun q : Int32 × Int32 × Int32 × St => ∀ (H : Heap) (locs : List Loc) (ls : Array Slot), Hs D A s.heap (wM G (q.2.2.2)) H locs → lv_has ls 5 [(0, .ref (G.1 0)), (1, .int (q.1)), (2, .int (q.2.1)), (3, .int (q.2.2.1))] → W p l e ({ frames := 2, cells := 0, slots := 0, locals := 43 } : Room) s m args below meth c H locs 0 0 (MQ below (QI D (tyG G) (wM G) A o) args s 0 0 A) (F0 m 199 ls [])) (fun rec199 q IH199 hf => ?_) _ (x1, x2, x3, σ) hf H locs ls h hl
  obtain ⟨x1, x2, x3, σ⟩ := q
  intro H locs ls h hl
  have hl : lv_has ls 5 [(0, .ref (G.1 0)), (1, .int x1), (2, .int x2), (3, .int x3)] := hl
  have h : Hs D A s.heap (wM G σ) H locs := h
  have hf : b_X8_dawnNow_199   rec199 x1 x2 x3 σ = some o := hf
  unfold b_X8_dawnNow_199 at hf
  have hx := C.1
  have hb := C.2.1
  refine lv_iload_n hx hb dX8_dawnNow_199 rfl (lv_at hl 3 rfl) ?_
  refine lv_aload_n hx hb dX8_dawnNow_200 rfl (lv_at hl 0 rfl) ?_
  refine gf_X8_109 C h dX8_dawnNow_201 ?_
  refine lv_icmp_ge (tgt := 236) hx hb dX8_dawnNow_204 (by decide) (fun c35 => ?_) (fun c35 => ?_)
  · have hf := ifT c35 hf
    refine lv_aload_n hx hb dX8_dawnNow_236 rfl (lv_at hl 0 rfl) ?_
    refine gf_X8_44 C h dX8_dawnNow_237 ?_
    refine lv_iload_n hx hb dX8_dawnNow_240 rfl (lv_at hl 2 rfl) ?_
    refine rd_el hf (fun v36 hinv36 hv36 hf => ?_)
    refine x_iald C h 9 1 (by decide) (aM_9 G _ _) rfl hinv36 hv36 dX8_dawnNow_241 ?_
    refine lv_aload_n hx hb dX8_dawnNow_242 rfl (lv_at hl 0 rfl) ?_
    refine gf_X8_7 C h dX8_dawnNow_243 ?_
    refine lv_iload_n hx hb dX8_dawnNow_246 rfl (lv_at hl 2 rfl) ?_
    refine rd_el hf (fun v37 hinv37 hv37 hf => ?_)
    refine x_iald C h 1 1 (by decide) (aM_1 G _ _) rfl hinv37 hv37 dX8_dawnNow_247 ?_
    refine lv_icmp_lt (tgt := 283) hx hb dX8_dawnNow_248 (by decide) (fun c38 => ?_) (fun c38 => ?_)
    · have hf := ifT c38 hf
      refine lv_iload_n hx hb dX8_dawnNow_283 rfl (lv_at hl 1 rfl) ?_
      exact x_iret C hr h hf dX8_dawnNow_284
    · have hf := ifF c38 hf
      refine lv_aload_n hx hb dX8_dawnNow_251 rfl (lv_at hl 0 rfl) ?_
      refine gf_X8_44 C h dX8_dawnNow_252 ?_
      refine lv_iload_n hx hb dX8_dawnNow_255 rfl (lv_at hl 2 rfl) ?_
      refine lv_iconst (v := 0) hx hb dX8_dawnNow_256 (by decide) ?_
      refine ckb_el hf (fun hin39 hf => ?_)
      refine nm_el hf (fun σ40 hσ40 hf => ?_)
      refine x_iast C h 9 1 (by decide) (fun f => aM_9 G f _) rfl hin39 dX8_dawnNow_257 hσ40 (fun H locs h => ?_)
      refine lv_aload_n hx hb dX8_dawnNow_258 rfl (lv_at hl 0 rfl) ?_
      refine gf_X8_47 C h dX8_dawnNow_259 ?_
      refine lv_iload_n hx hb dX8_dawnNow_262 rfl (lv_at hl 2 rfl) ?_
      refine lv_dup2_11 hx hb dX8_dawnNow_263 rfl rfl ?_
      refine rd_el hf (fun v41 hinv41 hv41 hf => ?_)
      refine x_iald C h 10 1 (by decide) (aM_10 G _ _) rfl hinv41 hv41 dX8_dawnNow_264 ?_
      refine lv_iconst (v := 1) hx hb dX8_dawnNow_265 (by decide) ?_
      refine lv_iadd hx hb dX8_dawnNow_266 ?_
      refine ckb_el hf (fun hin42 hf => ?_)
      refine nm_el hf (fun σ43 hσ43 hf => ?_)
      refine x_iast C h 10 1 (by decide) (fun f => aM_10 G f _) rfl hin42 dX8_dawnNow_267 hσ43 (fun H locs h => ?_)
      refine lv_aload_n hx hb dX8_dawnNow_268 rfl (lv_at hl 0 rfl) ?_
      refine lv_dup hx hb dX8_dawnNow_269 rfl ?_
      refine gf_X8_125 C h dX8_dawnNow_270 ?_
      refine lv_aload_n hx hb dX8_dawnNow_273 rfl (lv_at hl 0 rfl) ?_
      refine gf_X8_13 C h dX8_dawnNow_274 ?_
      refine lv_iload_n hx hb dX8_dawnNow_277 rfl (lv_at hl 2 rfl) ?_
      refine rd_el hf (fun v44 hinv44 hv44 hf => ?_)
      refine x_iald C h 2 1 (by decide) (aM_2 G _ _) rfl hinv44 hv44 dX8_dawnNow_278 ?_
      refine lv_iadd hx hb dX8_dawnNow_279 ?_
      refine nm_el hf (fun σ45 hσ45 hf => ?_)
      refine pf_X8_125 C h dX8_dawnNow_280 hσ45 (fun H locs h => ?_)
      refine lv_iload_n hx hb dX8_dawnNow_283 rfl (lv_at hl 1 rfl) ?_
      exact x_iret C hr h hf dX8_dawnNow_284
  · have hf := ifF c35 hf
    refine lv_aload_n hx hb dX8_dawnNow_207 rfl (lv_at hl 0 rfl) ?_
    refine gf_X8_44 C h dX8_dawnNow_208 ?_
    refine lv_iload_n hx hb dX8_dawnNow_211 rfl (lv_at hl 3 rfl) ?_
    refine lv_iload_n hx hb dX8_dawnNow_212 rfl (lv_at hl 3 rfl) ?_
    refine lv_iload_n hx hb dX8_dawnNow_213 rfl (lv_at hl 2 rfl) ?_
    refine lv_icmp_ne (tgt := 228) hx hb dX8_dawnNow_214 (by decide) (fun c46 => ?_) (fun c46 => ?_)
    · have hf := ifF c46 hf
      refine lv_iconst (v := 0) hx hb dX8_dawnNow_228 (by decide) ?_
      exact t_X8_dawnNow_229 C hr IH199 x1 x2 x3 x3 0 σ _ _ _ h (lv_sub hl [0, 1, 2, 3] rfl) hf
    · have hf := ifT c46 hf
      refine lv_aload_n hx hb dX8_dawnNow_217 rfl (lv_at hl 0 rfl) ?_
      refine gf_X8_44 C h dX8_dawnNow_218 ?_
      refine lv_iload_n hx hb dX8_dawnNow_221 rfl (lv_at hl 3 rfl) ?_
      refine rd_el hf (fun v47 hinv47 hv47 hf => ?_)
      refine x_iald C h 9 1 (by decide) (aM_9 G _ _) rfl hinv47 hv47 dX8_dawnNow_222 ?_
      refine lv_iconst (v := 1) hx hb dX8_dawnNow_223 (by decide) ?_
      refine lv_iadd hx hb dX8_dawnNow_224 ?_
      refine lv_goto (tgt := 229) hx hb dX8_dawnNow_225 (by decide) ?_
      exact t_X8_dawnNow_229 C hr IH199 x1 x2 x3 x3 (v47 + 1) σ _ _ _ h (lv_sub hl [0, 1, 2, 3] rfl) hf
def f_X8_dawnNow_180   (x1 : Int32) (σ : St) : Option (Int32 × St) := nm (sI σ 0 14 ((σ.1 0 14) + 1)) (fun σ33 => rd (σ33.1 4) 8 x1 (fun v34 => f_X8_dawnNow_199 x1 v34 0 σ33))
set_option maxHeartbeats 4000000 in
theorem t_X8_dawnNow_180 (C : Cx p s m args meth c cX8_dawnNow 5 RX8 D (tyG G)) (hr : meth.sig.returnType = (some .int)) {o : Int32 × St}   : ∀ (x1 : Int32) (σ : St) (H : Heap) (locs : List Loc) (ls : Array Slot), Hs D A s.heap (wM G σ) H locs → lv_has ls 5 [(0, .ref (G.1 0)), (1, .int x1)] → f_X8_dawnNow_180   x1 σ = some o → W p l e ({ frames := 2, cells := 0, slots := 0, locals := 43 } : Room) s m args below meth c H locs 0 0 (MQ below (QI D (tyG G) (wM G) A o) args s 0 0 A) (F0 m 180 ls []) := by
  intro x1 σ H locs ls h hl hf
  unfold f_X8_dawnNow_180 at hf
  have hx := C.1
  have hb := C.2.1
  refine lv_aload_n hx hb dX8_dawnNow_180 rfl (lv_at hl 0 rfl) ?_
  refine lv_dup hx hb dX8_dawnNow_181 rfl ?_
  refine gf_X8_122 C h dX8_dawnNow_182 ?_
  refine lv_iconst (v := 1) hx hb dX8_dawnNow_185 (by decide) ?_
  refine lv_iadd hx hb dX8_dawnNow_186 ?_
  refine nm_el hf (fun σ33 hσ33 hf => ?_)
  refine pf_X8_122 C h dX8_dawnNow_187 hσ33 (fun H locs h => ?_)
  refine lv_aload_n hx hb dX8_dawnNow_190 rfl (lv_at hl 0 rfl) ?_
  refine gf_X8_19 C h dX8_dawnNow_191 ?_
  refine lv_iload_n hx hb dX8_dawnNow_194 rfl (lv_at hl 1 rfl) ?_
  refine rd_el hf (fun v34 hinv34 hv34 hf => ?_)
  refine x_iald C h 4 1 (by decide) (aM_4 G _ _) rfl hinv34 hv34 dX8_dawnNow_195 ?_
  refine lv_istore_n (lv' := [(2, .int v34), (0, .ref (G.1 0)), (1, .int x1)]) hx hb dX8_dawnNow_196 rfl hl (by decide) rfl (fun ls hl => ?_)
  refine lv_iconst (v := 0) hx hb dX8_dawnNow_197 (by decide) ?_
  refine lv_istore_n (lv' := [(3, .int 0), (2, .int v34), (0, .ref (G.1 0)), (1, .int x1)]) hx hb dX8_dawnNow_198 rfl hl (by decide) rfl (fun ls hl => ?_)
  exact t_X8_dawnNow_199 C hr x1 v34 0 σ33 _ _ _ h (lv_sub hl [2, 3, 1, 0] rfl) hf
def f_X8_dawnNow_134   (y0 : Int32) (σ : St) : Option (Int32 × St) := if (200 : Int32) ≤ (σ.1 0 18) then f_X8_dawnNow_180 y0 σ else ck (inb (σ.1 0 18) 200) (nm (sI σ 11 (σ.1 0 18 : Int32).toNatClampNeg y0) (fun σ27 => rd (σ27.1 21) 8 y0 (fun v28 => ck (inb (σ27.1 0 18) 200) (nm (sI σ27 12 (σ27.1 0 18 : Int32).toNatClampNeg v28) (fun σ30 => nm (sI σ30 0 18 ((σ30.1 0 18) + 1)) (fun σ31 => f_X8_dawnNow_180 y0 σ31))))))
set_option maxHeartbeats 4000000 in
theorem t_X8_dawnNow_134 (C : Cx p s m args meth c cX8_dawnNow 5 RX8 D (tyG G)) (hr : meth.sig.returnType = (some .int)) {o : Int32 × St}   : ∀ (y0 : Int32) (σ : St) (H : Heap) (locs : List Loc) (ls : Array Slot), Hs D A s.heap (wM G σ) H locs → lv_has ls 5 [(0, .ref (G.1 0))] → f_X8_dawnNow_134   y0 σ = some o → W p l e ({ frames := 2, cells := 0, slots := 0, locals := 43 } : Room) s m args below meth c H locs 0 0 (MQ below (QI D (tyG G) (wM G) A o) args s 0 0 A) (F0 m 134 ls [.int y0]) := by
  intro y0 σ H locs ls h hl hf
  unfold f_X8_dawnNow_134 at hf
  have hx := C.1
  have hb := C.2.1
  refine lv_istore_n (lv' := [(1, .int y0), (0, .ref (G.1 0))]) hx hb dX8_dawnNow_134 rfl hl (by decide) rfl (fun ls hl => ?_)
  refine lv_aload_n hx hb dX8_dawnNow_135 rfl (lv_at hl 1 rfl) ?_
  refine gf_X8_128 C h dX8_dawnNow_136 ?_
  refine lv_sipush (v := 200) hx hb dX8_dawnNow_139 (by decide) ?_
  refine lv_icmp_ge (tgt := 180) hx hb dX8_dawnNow_142 (by decide) (fun c25 => ?_) (fun c25 => ?_)
  · have hf := ifT c25 hf
    exact t_X8_dawnNow_180 C hr y0 σ _ _ _ h (lv_sub hl [1, 0] rfl) hf
  · have hf := ifF c25 hf
    refine lv_aload_n hx hb dX8_dawnNow_145 rfl (lv_at hl 1 rfl) ?_
    refine gf_X8_50 C h dX8_dawnNow_146 ?_
    refine lv_aload_n hx hb dX8_dawnNow_149 rfl (lv_at hl 1 rfl) ?_
    refine gf_X8_128 C h dX8_dawnNow_150 ?_
    refine lv_iload_n hx hb dX8_dawnNow_153 rfl (lv_at hl 0 rfl) ?_
    refine ckb_el hf (fun hin26 hf => ?_)
    refine nm_el hf (fun σ27 hσ27 hf => ?_)
    refine x_iast C h 11 1 (by decide) (fun f => aM_11 G f _) rfl hin26 dX8_dawnNow_154 hσ27 (fun H locs h => ?_)
    refine lv_aload_n hx hb dX8_dawnNow_155 rfl (lv_at hl 1 rfl) ?_
    refine gf_X8_53 C h dX8_dawnNow_156 ?_
    refine lv_aload_n hx hb dX8_dawnNow_159 rfl (lv_at hl 1 rfl) ?_
    refine gf_X8_128 C h dX8_dawnNow_160 ?_
    refine lv_aload_n hx hb dX8_dawnNow_163 rfl (lv_at hl 1 rfl) ?_
    refine gf_X8_83 C h dX8_dawnNow_164 ?_
    refine lv_iload_n hx hb dX8_dawnNow_167 rfl (lv_at hl 0 rfl) ?_
    refine rd_el hf (fun v28 hinv28 hv28 hf => ?_)
    refine x_iald C h 21 1 (by decide) (aM_21 G _ _) rfl hinv28 hv28 dX8_dawnNow_168 ?_
    refine ckb_el hf (fun hin29 hf => ?_)
    refine nm_el hf (fun σ30 hσ30 hf => ?_)
    refine x_iast C h 12 1 (by decide) (fun f => aM_12 G f _) rfl hin29 dX8_dawnNow_169 hσ30 (fun H locs h => ?_)
    refine lv_aload_n hx hb dX8_dawnNow_170 rfl (lv_at hl 1 rfl) ?_
    refine lv_dup hx hb dX8_dawnNow_171 rfl ?_
    refine gf_X8_128 C h dX8_dawnNow_172 ?_
    refine lv_iconst (v := 1) hx hb dX8_dawnNow_175 (by decide) ?_
    refine lv_iadd hx hb dX8_dawnNow_176 ?_
    refine nm_el hf (fun σ31 hσ31 hf => ?_)
    refine pf_X8_128 C h dX8_dawnNow_177 hσ31 (fun H locs h => ?_)
    exact t_X8_dawnNow_180 C hr y0 σ31 _ _ _ h (lv_sub hl [1, 0] rfl) hf
def f_X8_dawnNow_107  (rec4 : Int32 × Int32 × St → Option (Int32 × St)) (x2 : Int32) (y0 : Int32) (σ : St) : Option (Int32 × St) := rec4 (y0, x2 + 1, σ)
set_option maxHeartbeats 4000000 in
theorem t_X8_dawnNow_107 (C : Cx p s m args meth c cX8_dawnNow 5 RX8 D (tyG G)) (hr : meth.sig.returnType = (some .int)) {o : Int32 × St}  {rec4 : Int32 × Int32 × St → Option (Int32 × St)} (IH4 : ∀ q, rec4 q = some o → ∀ (H : Heap) (locs : List Loc) (ls : Array Slot), Hs D A s.heap (wM G (q.2.2)) H locs → lv_has ls 5 [(0, .ref (G.1 0)), (1, .int (q.1)), (2, .int (q.2.1))] → W p l e ({ frames := 2, cells := 0, slots := 0, locals := 43 } : Room) s m args below meth c H locs 0 0 (MQ below (QI D (tyG G) (wM G) A o) args s 0 0 A) (F0 m 4 ls [])) : ∀ (x2 : Int32) (y0 : Int32) (σ : St) (H : Heap) (locs : List Loc) (ls : Array Slot), Hs D A s.heap (wM G σ) H locs → lv_has ls 5 [(0, .ref (G.1 0)), (2, .int x2)] → f_X8_dawnNow_107  rec4 x2 y0 σ = some o → W p l e ({ frames := 2, cells := 0, slots := 0, locals := 43 } : Room) s m args below meth c H locs 0 0 (MQ below (QI D (tyG G) (wM G) A o) args s 0 0 A) (F0 m 107 ls [.int y0]) := by
  intro x2 y0 σ H locs ls h hl hf
  unfold f_X8_dawnNow_107 at hf
  have hx := C.1
  have hb := C.2.1
  refine lv_istore_n (lv' := [(1, .int y0), (0, .ref (G.1 0)), (2, .int x2)]) hx hb dX8_dawnNow_107 rfl hl (by decide) rfl (fun ls hl => ?_)
  refine lv_iinc (v := x2 + 1) (lv' := [(2, .int (x2 + 1)), (1, .int y0), (0, .ref (G.1 0))]) hx hb dX8_dawnNow_108 hl (k := 2) rfl rfl (by decide) rfl (fun ls hl => ?_)
  refine lv_goto (tgt := 4) hx hb dX8_dawnNow_111 (by decide) ?_
  exact IH4 (y0, x2 + 1, σ) hf _ _ _ h (lv_sub hl [2, 1, 0] rfl)
def f_X8_dawnNow_95  (rec4 : Int32 × Int32 × St → Option (Int32 × St)) (x1 : Int32) (x2 : Int32) (y0 : Int32) (σ : St) : Option (Int32 × St) := if y0 = 0 then f_X8_dawnNow_107 rec4 x2 x1 σ else f_X8_dawnNow_107 rec4 x2 x2 σ
set_option maxHeartbeats 4000000 in
theorem t_X8_dawnNow_95 (C : Cx p s m args meth c cX8_dawnNow 5 RX8 D (tyG G)) (hr : meth.sig.returnType = (some .int)) {o : Int32 × St}  {rec4 : Int32 × Int32 × St → Option (Int32 × St)} (IH4 : ∀ q, rec4 q = some o → ∀ (H : Heap) (locs : List Loc) (ls : Array Slot), Hs D A s.heap (wM G (q.2.2)) H locs → lv_has ls 5 [(0, .ref (G.1 0)), (1, .int (q.1)), (2, .int (q.2.1))] → W p l e ({ frames := 2, cells := 0, slots := 0, locals := 43 } : Room) s m args below meth c H locs 0 0 (MQ below (QI D (tyG G) (wM G) A o) args s 0 0 A) (F0 m 4 ls [])) : ∀ (x1 : Int32) (x2 : Int32) (y0 : Int32) (σ : St) (H : Heap) (locs : List Loc) (ls : Array Slot), Hs D A s.heap (wM G σ) H locs → lv_has ls 5 [(0, .ref (G.1 0)), (1, .int x1), (2, .int x2)] → f_X8_dawnNow_95  rec4 x1 x2 y0 σ = some o → W p l e ({ frames := 2, cells := 0, slots := 0, locals := 43 } : Room) s m args below meth c H locs 0 0 (MQ below (QI D (tyG G) (wM G) A o) args s 0 0 A) (F0 m 95 ls [.int y0]) := by
  intro x1 x2 y0 σ H locs ls h hl hf
  unfold f_X8_dawnNow_95 at hf
  have hx := C.1
  have hb := C.2.1
  refine lv_istore (lv' := [(4, .int y0), (0, .ref (G.1 0)), (1, .int x1), (2, .int x2)]) hx hb dX8_dawnNow_95 hl (by decide) rfl (fun ls hl => ?_)
  refine lv_iload hx hb dX8_dawnNow_97 (lv_at hl 0 rfl) ?_
  refine lv_if_eq (tgt := 106) hx hb dX8_dawnNow_99 (by decide) (fun c32 => ?_) (fun c32 => ?_)
  · have hf := ifT c32 hf
    refine lv_iload_n hx hb dX8_dawnNow_106 rfl (lv_at hl 2 rfl) ?_
    exact t_X8_dawnNow_107 C hr IH4 x2 x1 σ _ _ _ h (lv_sub hl [1, 3] rfl) hf
  · have hf := ifF c32 hf
    refine lv_iload_n hx hb dX8_dawnNow_102 rfl (lv_at hl 3 rfl) ?_
    refine lv_goto (tgt := 107) hx hb dX8_dawnNow_103 (by decide) ?_
    exact t_X8_dawnNow_107 C hr IH4 x2 x2 σ _ _ _ h (lv_sub hl [1, 3] rfl) hf
def b_X8_dawnNow_4   (rec4 : Int32 × Int32 × St → Option (Int32 × St)) (x1 : Int32) (x2 : Int32) (σ : St) : Option (Int32 × St) := if (σ.1 0 4) ≤ x2 then if (σ.1 0 13) = 2 then bd (f_X8_draw (σ.1 0 4) σ) (fun r5 σ3 => f_X8_dawnNow_134 r5 σ3) else f_X8_dawnNow_134 x1 σ else rd (σ.1 6) 8 x2 (fun v6 => bd (f_X8_draw ((2 * v6) + 1) σ) (fun r9 σ7 => bd (f_X8_firstOf x2 σ7) (fun r12 σ10 => bd (f_X8_heard x2 (r12 + r9) σ10) (fun r15 σ13 => ck (inb x2 8) (nm (sI σ13 21 (x2 : Int32).toNatClampNeg r15) (fun σ17 => if (σ17.1 0 13) = 0 then rd (σ17.1 21) 8 x2 (fun v22 => rd (σ17.1 21) 8 x1 (fun v23 => if v23 ≤ v22 then f_X8_dawnNow_95 rec4 x1 x2 0 σ17 else f_X8_dawnNow_95 rec4 x1 x2 1 σ17)) else rd (σ17.1 21) 8 x2 (fun v19 => rd (σ17.1 21) 8 x1 (fun v20 => if v19 ≤ v20 then f_X8_dawnNow_95 rec4 x1 x2 0 σ17 else f_X8_dawnNow_95 rec4 x1 x2 1 σ17))))))))
def f_X8_dawnNow_4   (x1 : Int32) (x2 : Int32) (σ : St) : Option (Int32 × St) := lp (fun (rec4 : Int32 × Int32 × St → Option (Int32 × St)) (q : Int32 × Int32 × St) => b_X8_dawnNow_4   rec4 (q.1) (q.2.1) (q.2.2)) 100000 (x1, x2, σ)
set_option maxHeartbeats 4000000 in
theorem t_X8_dawnNow_4 (C : Cx p s m args meth c cX8_dawnNow 5 RX8 D (tyG G)) (hr : meth.sig.returnType = (some .int)) {o : Int32 × St}   : ∀ (x1 : Int32) (x2 : Int32) (σ : St) (H : Heap) (locs : List Loc) (ls : Array Slot), Hs D A s.heap (wM G σ) H locs → lv_has ls 5 [(0, .ref (G.1 0)), (1, .int x1), (2, .int x2)] → f_X8_dawnNow_4   x1 x2 σ = some o → W p l e ({ frames := 2, cells := 0, slots := 0, locals := 43 } : Room) s m args below meth c H locs 0 0 (MQ below (QI D (tyG G) (wM G) A o) args s 0 0 A) (F0 m 4 ls []) := by
  intro x1 x2 σ H locs ls h hl hf
  refine lp_el (P := fun q : Int32 × Int32 × St => ∀ (H : Heap) (locs : List Loc) (ls : Array Slot), Hs D A s.heap (wM G (q.2.2)) H locs → lv_has ls 5 [(0, .ref (G.1 0)), (1, .int (q.1)), (2, .int (q.2.1))] → W p l e ({ frames := 2, cells := 0, slots := 0, locals := 43 } : Room) s m args below meth c H locs 0 0 (MQ below (QI D (tyG G) (wM G) A o) args s 0 0 A) (F0 m 4 ls [])) (fun rec4 q IH4 hf => ?_) _ (x1, x2, σ) hf H locs ls h hl
  obtain ⟨x1, x2, σ⟩ := q
  intro H locs ls h hl
  have hl : lv_has ls 5 [(0, .ref (G.1 0)), (1, .int x1), (2, .int x2)] := hl
  have h : Hs D A s.heap (wM G σ) H locs := h
  have hf : b_X8_dawnNow_4   rec4 x1 x2 σ = some o := hf
  unfold b_X8_dawnNow_4 at hf
  have hx := C.1
  have hb := C.2.1
  refine lv_iload_n hx hb dX8_dawnNow_4 rfl (lv_at hl 2 rfl) ?_
  refine lv_aload_n hx hb dX8_dawnNow_5 rfl (lv_at hl 0 rfl) ?_
  refine gf_X8_116 C h dX8_dawnNow_6 ?_
  refine lv_icmp_ge (tgt := 114) hx hb dX8_dawnNow_9 (by decide) (fun c1 => ?_) (fun c1 => ?_)
  · have hf := ifT c1 hf
    refine lv_aload_n hx hb dX8_dawnNow_114 rfl (lv_at hl 0 rfl) ?_
    refine gf_X8_119 C h dX8_dawnNow_115 ?_
    refine lv_iconst (v := 2) hx hb dX8_dawnNow_118 (by decide) ?_
    refine lv_icmp_ne (tgt := 133) hx hb dX8_dawnNow_119 (by decide) (fun c2 => ?_) (fun c2 => ?_)
    · have hf := ifF c2 hf
      refine lv_iload_n hx hb dX8_dawnNow_133 rfl (lv_at hl 1 rfl) ?_
      exact t_X8_dawnNow_134 C hr x1 σ _ _ _ h (lv_sub hl [0] rfl) hf
    · have hf := ifT c2 hf
      refine lv_aload_n hx hb dX8_dawnNow_122 rfl (lv_at hl 0 rfl) ?_
      refine lv_aload_n hx hb dX8_dawnNow_123 rfl (lv_at hl 0 rfl) ?_
      refine gf_X8_116 C h dX8_dawnNow_124 ?_
      refine bd_el hf (fun r5 σ3 ho4 hf => ?_)
      refine x_goi h (x_runV (As := [.int (σ.1 0 4)]) (rest := []) C h (c_X8_draw l D G (σ.1 0 4) σ (r5, σ3) ho4 _) lk_X8_263 rfl ⟨rfl, rfl, Nat.le_of_ble_eq_true rfl, Nat.le_of_ble_eq_true rfl⟩ (x_rcv C h 0 (by decide) (oM G _ _) rfl) hl.1 rfl (Nat.le_of_ble_eq_true rfl) dX8_dawnNow_127) (fun H locs h => ?_)
      refine lv_goto (tgt := 134) hx hb dX8_dawnNow_130 (by decide) ?_
      exact t_X8_dawnNow_134 C hr r5 σ3 _ _ _ h (lv_sub hl [0] rfl) hf
  · have hf := ifF c1 hf
    refine lv_aload_n hx hb dX8_dawnNow_12 rfl (lv_at hl 0 rfl) ?_
    refine lv_iconst (v := 2) hx hb dX8_dawnNow_13 (by decide) ?_
    refine lv_aload_n hx hb dX8_dawnNow_14 rfl (lv_at hl 0 rfl) ?_
    refine gf_X8_25 C h dX8_dawnNow_15 ?_
    refine lv_iload_n hx hb dX8_dawnNow_18 rfl (lv_at hl 2 rfl) ?_
    refine rd_el hf (fun v6 hinv6 hv6 hf => ?_)
    refine x_iald C h 6 1 (by decide) (aM_6 G _ _) rfl hinv6 hv6 dX8_dawnNow_19 ?_
    refine lv_imul hx hb dX8_dawnNow_20 ?_
    refine lv_iconst (v := 1) hx hb dX8_dawnNow_21 (by decide) ?_
    refine lv_iadd hx hb dX8_dawnNow_22 ?_
    refine bd_el hf (fun r9 σ7 ho8 hf => ?_)
    refine x_goi h (x_runV (As := [.int ((2 * v6) + 1)]) (rest := []) C h (c_X8_draw l D G ((2 * v6) + 1) σ (r9, σ7) ho8 _) lk_X8_263 rfl ⟨rfl, rfl, Nat.le_of_ble_eq_true rfl, Nat.le_of_ble_eq_true rfl⟩ (x_rcv C h 0 (by decide) (oM G _ _) rfl) hl.1 rfl (Nat.le_of_ble_eq_true rfl) dX8_dawnNow_23) (fun H locs h => ?_)
    refine lv_istore_n (lv' := [(3, .int r9), (0, .ref (G.1 0)), (1, .int x1), (2, .int x2)]) hx hb dX8_dawnNow_26 rfl hl (by decide) rfl (fun ls hl => ?_)
    refine lv_aload_n hx hb dX8_dawnNow_27 rfl (lv_at hl 1 rfl) ?_
    refine gf_X8_83 C h dX8_dawnNow_28 ?_
    refine lv_iload_n hx hb dX8_dawnNow_31 rfl (lv_at hl 3 rfl) ?_
    refine lv_aload_n hx hb dX8_dawnNow_32 rfl (lv_at hl 1 rfl) ?_
    refine lv_iload_n hx hb dX8_dawnNow_33 rfl (lv_at hl 3 rfl) ?_
    refine lv_aload_n hx hb dX8_dawnNow_34 rfl (lv_at hl 1 rfl) ?_
    refine lv_iload_n hx hb dX8_dawnNow_35 rfl (lv_at hl 3 rfl) ?_
    refine bd_el hf (fun r12 σ10 ho11 hf => ?_)
    refine x_goi h (x_runV (As := [.int x2]) (rest := [.int x2, .ref (G.1 0), .int x2, .ref (G.1 21)]) C h (c_X8_firstOf l D G x2 σ7 (r12, σ10) ho11 _) lk_X8_234 rfl ⟨rfl, rfl, Nat.le_of_ble_eq_true rfl, Nat.le_of_ble_eq_true rfl⟩ (x_rcv C h 0 (by decide) (oM G _ _) rfl) hl.1 rfl (Nat.le_of_ble_eq_true rfl) dX8_dawnNow_36) (fun H locs h => ?_)
    refine lv_iload_n hx hb dX8_dawnNow_39 rfl (lv_at hl 0 rfl) ?_
    refine lv_iadd hx hb dX8_dawnNow_40 ?_
    refine bd_el hf (fun r15 σ13 ho14 hf => ?_)
    refine x_goi h (x_runV (As := [.int x2, .int (r12 + r9)]) (rest := [.int x2, .ref (G.1 21)]) C h (c_X8_heard l D G x2 (r12 + r9) σ10 (r15, σ13) ho14 _) lk_X8_237 rfl ⟨rfl, rfl, Nat.le_of_ble_eq_true rfl, Nat.le_of_ble_eq_true rfl⟩ (x_rcv C h 0 (by decide) (oM G _ _) rfl) hl.1 rfl (Nat.le_of_ble_eq_true rfl) dX8_dawnNow_41) (fun H locs h => ?_)
    refine ckb_el hf (fun hin16 hf => ?_)
    refine nm_el hf (fun σ17 hσ17 hf => ?_)
    refine x_iast C h 21 1 (by decide) (fun f => aM_21 G f _) rfl hin16 dX8_dawnNow_44 hσ17 (fun H locs h => ?_)
    refine lv_aload_n hx hb dX8_dawnNow_45 rfl (lv_at hl 1 rfl) ?_
    refine gf_X8_119 C h dX8_dawnNow_46 ?_
    refine lv_if_ne (tgt := 75) hx hb dX8_dawnNow_49 (by decide) (fun c18 => ?_) (fun c18 => ?_)
    · have hf := ifF c18 hf
      refine lv_aload_n hx hb dX8_dawnNow_75 rfl (lv_at hl 1 rfl) ?_
      refine gf_X8_83 C h dX8_dawnNow_76 ?_
      refine lv_iload_n hx hb dX8_dawnNow_79 rfl (lv_at hl 3 rfl) ?_
      refine rd_el hf (fun v19 hinv19 hv19 hf => ?_)
      refine x_iald C h 21 1 (by decide) (aM_21 G _ _) rfl hinv19 hv19 dX8_dawnNow_80 ?_
      refine lv_aload_n hx hb dX8_dawnNow_81 rfl (lv_at hl 1 rfl) ?_
      refine gf_X8_83 C h dX8_dawnNow_82 ?_
      refine lv_iload_n hx hb dX8_dawnNow_85 rfl (lv_at hl 2 rfl) ?_
      refine rd_el hf (fun v20 hinv20 hv20 hf => ?_)
      refine x_iald C h 21 1 (by decide) (aM_21 G _ _) rfl hinv20 hv20 dX8_dawnNow_86 ?_
      refine lv_icmp_le (tgt := 94) hx hb dX8_dawnNow_87 (by decide) (fun c21 => ?_) (fun c21 => ?_)
      · have hf := ifT c21 hf
        refine lv_iconst (v := 0) hx hb dX8_dawnNow_94 (by decide) ?_
        exact t_X8_dawnNow_95 C hr IH4 x1 x2 0 σ17 _ _ _ h (lv_sub hl [1, 2, 3] rfl) hf
      · have hf := ifF c21 hf
        refine lv_iconst (v := 1) hx hb dX8_dawnNow_90 (by decide) ?_
        refine lv_goto (tgt := 95) hx hb dX8_dawnNow_91 (by decide) ?_
        exact t_X8_dawnNow_95 C hr IH4 x1 x2 1 σ17 _ _ _ h (lv_sub hl [1, 2, 3] rfl) hf
    · have hf := ifT c18 hf
      refine lv_aload_n hx hb dX8_dawnNow_52 rfl (lv_at hl 1 rfl) ?_
      refine gf_X8_83 C h dX8_dawnNow_53 ?_
      refine lv_iload_n hx hb dX8_dawnNow_56 rfl (lv_at hl 3 rfl) ?_
      refine rd_el hf (fun v22 hinv22 hv22 hf => ?_)
      refine x_iald C h 21 1 (by decide) (aM_21 G _ _) rfl hinv22 hv22 dX8_dawnNow_57 ?_
      refine lv_aload_n hx hb dX8_dawnNow_58 rfl (lv_at hl 1 rfl) ?_
      refine gf_X8_83 C h dX8_dawnNow_59 ?_
      refine lv_iload_n hx hb dX8_dawnNow_62 rfl (lv_at hl 2 rfl) ?_
      refine rd_el hf (fun v23 hinv23 hv23 hf => ?_)
      refine x_iald C h 21 1 (by decide) (aM_21 G _ _) rfl hinv23 hv23 dX8_dawnNow_63 ?_
      refine lv_icmp_ge (tgt := 71) hx hb dX8_dawnNow_64 (by decide) (fun c24 => ?_) (fun c24 => ?_)
      · have hf := ifT c24 hf
        refine lv_iconst (v := 0) hx hb dX8_dawnNow_71 (by decide) ?_
        refine lv_goto (tgt := 95) hx hb dX8_dawnNow_72 (by decide) ?_
        exact t_X8_dawnNow_95 C hr IH4 x1 x2 0 σ17 _ _ _ h (lv_sub hl [1, 2, 3] rfl) hf
      · have hf := ifF c24 hf
        refine lv_iconst (v := 1) hx hb dX8_dawnNow_67 (by decide) ?_
        refine lv_goto (tgt := 95) hx hb dX8_dawnNow_68 (by decide) ?_
        exact t_X8_dawnNow_95 C hr IH4 x1 x2 1 σ17 _ _ _ h (lv_sub hl [1, 2, 3] rfl) hf
def f_X8_dawnNow   (σ : St) : Option (Int32 × St) := f_X8_dawnNow_4 0 0 σ
set_option maxHeartbeats 4000000 in
theorem c_X8_dawnNow (l : Launch) (D : va_G) (G : Geo)    (σ : St) (o : Int32 × St) (hf : f_X8_dawnNow   σ = some o) : CI l D (tyG G) (wM G) yX8_dawnNow cX8_dawnNow 5 ((some .int)) ({ frames := 2, cells := 0, slots := 0, locals := 43 }) [.ref (G.1 0)] σ o := by
  refine met_of (Qc := fun A => QI D (tyG G) (wM G) A o) pn_X8 (Nat.le_of_ble_eq_true rfl) (fun p e s m below meth c A ls C hr h hl => ?_)
  have C : Cx p s m _ meth c cX8_dawnNow 5 RX8 D (tyG G) := C
  have hl : lv_has ls 5 [(0, .ref (G.1 0))] := hl
  unfold f_X8_dawnNow at hf
  have hx := C.1
  have hb := C.2.1
  refine lv_iconst (v := 0) hx hb dX8_dawnNow_0 (by decide) ?_
  refine lv_istore_n (lv' := [(1, .int 0), (0, .ref (G.1 0))]) hx hb dX8_dawnNow_1 rfl hl (by decide) rfl (fun ls hl => ?_)
  refine lv_iconst (v := 0) hx hb dX8_dawnNow_2 (by decide) ?_
  refine lv_istore_n (lv' := [(2, .int 0), (1, .int 0), (0, .ref (G.1 0))]) hx hb dX8_dawnNow_3 rfl hl (by decide) rfl (fun ls hl => ?_)
  exact t_X8_dawnNow_4 C hr 0 0 σ _ _ _ h (lv_sub hl [2, 1, 0] rfl) hf
def b_X8_dawn_30   (rec30 : Int32 × Int32 × Int32 × St → Option (Int32 × St)) (x1 : Int32) (x2 : Int32) (x3 : Int32) (σ : St) : Option (Int32 × St) := if x1 ≤ x3 then some (x2, σ) else bd (f_X8_dawnNow σ) (fun r9 σ7 => rec30 (x1, r9, x3 + 1, σ7))
def f_X8_dawn_30   (x1 : Int32) (x2 : Int32) (x3 : Int32) (σ : St) : Option (Int32 × St) := lp (fun (rec30 : Int32 × Int32 × Int32 × St → Option (Int32 × St)) (q : Int32 × Int32 × Int32 × St) => b_X8_dawn_30   rec30 (q.1) (q.2.1) (q.2.2.1) (q.2.2.2)) 100000 (x1, x2, x3, σ)
set_option maxHeartbeats 4000000 in
theorem t_X8_dawn_30 (C : Cx p s m args meth c cX8_dawn 4 RX8 D (tyG G)) (hr : meth.sig.returnType = (some .int)) {o : Int32 × St}   : ∀ (x1 : Int32) (x2 : Int32) (x3 : Int32) (σ : St) (H : Heap) (locs : List Loc) (ls : Array Slot), Hs D A s.heap (wM G σ) H locs → lv_has ls 4 [(0, .ref (G.1 0)), (1, .int x1), (2, .int x2), (3, .int x3)] → f_X8_dawn_30   x1 x2 x3 σ = some o → W p l e ({ frames := 3, cells := 0, slots := 0, locals := 67 } : Room) s m args below meth c H locs 0 0 (MQ below (QI D (tyG G) (wM G) A o) args s 0 0 A) (F0 m 30 ls []) := by
  intro x1 x2 x3 σ H locs ls h hl hf
  refine lp_el (P := fun q : Int32 × Int32 × Int32 × St => ∀ (H : Heap) (locs : List Loc) (ls : Array Slot), Hs D A s.heap (wM G (q.2.2.2)) H locs → lv_has ls 4 [(0, .ref (G.1 0)), (1, .int (q.1)), (2, .int (q.2.1)), (3, .int (q.2.2.1))] → W p l e ({ frames := 3, cells := 0, slots := 0, locals := 67 } : Room) s m args below meth c H locs 0 0 (MQ below (QI D (tyG G) (wM G) A o) args s 0 0 A) (F0 m 30 ls [])) (fun rec30 q IH30 hf => ?_) _ (x1, x2, x3, σ) hf H locs ls h hl
  obtain ⟨x1, x2, x3, σ⟩ := q
  intro H locs ls h hl
  have hl : lv_has ls 4 [(0, .ref (G.1 0)), (1, .int x1), (2, .int x2), (3, .int x3)] := hl
  have h : Hs D A s.heap (wM G σ) H locs := h
  have hf : b_X8_dawn_30   rec30 x1 x2 x3 σ = some o := hf
  unfold b_X8_dawn_30 at hf
  have hx := C.1
  have hb := C.2.1
  refine lv_iload_n hx hb dX8_dawn_30 rfl (lv_at hl 3 rfl) ?_
  refine lv_iload_n hx hb dX8_dawn_31 rfl (lv_at hl 1 rfl) ?_
  refine lv_icmp_ge (tgt := 46) hx hb dX8_dawn_32 (by decide) (fun c6 => ?_) (fun c6 => ?_)
  · have hf := ifT c6 hf
    refine lv_iload_n hx hb dX8_dawn_46 rfl (lv_at hl 2 rfl) ?_
    exact x_iret C hr h hf dX8_dawn_47
  · have hf := ifF c6 hf
    refine lv_aload_n hx hb dX8_dawn_35 rfl (lv_at hl 0 rfl) ?_
    refine bd_el hf (fun r9 σ7 ho8 hf => ?_)
    refine x_goi h (x_runV (As := []) (rest := []) C h (c_X8_dawnNow l D G σ (r9, σ7) ho8 _) lk_X8_269 rfl ⟨rfl, rfl, Nat.le_of_ble_eq_true rfl, Nat.le_of_ble_eq_true rfl⟩ (x_rcv C h 0 (by decide) (oM G _ _) rfl) hl.1 rfl (Nat.le_of_ble_eq_true rfl) dX8_dawn_36) (fun H locs h => ?_)
    refine lv_istore_n (lv' := [(2, .int r9), (0, .ref (G.1 0)), (1, .int x1), (3, .int x3)]) hx hb dX8_dawn_39 rfl hl (by decide) rfl (fun ls hl => ?_)
    refine lv_iinc (v := x3 + 1) (lv' := [(3, .int (x3 + 1)), (2, .int r9), (0, .ref (G.1 0)), (1, .int x1)]) hx hb dX8_dawn_40 hl (k := 3) rfl rfl (by decide) rfl (fun ls hl => ?_)
    refine lv_goto (tgt := 30) hx hb dX8_dawn_43 (by decide) ?_
    exact IH30 (x1, r9, x3 + 1, σ7) hf _ _ _ h (lv_sub hl [2, 3, 1, 0] rfl)
def f_X8_dawn  (x1 : Int32) (σ : St) : Option (Int32 × St) := bd (f_X8_in x1.toInt64 1 99 σ) (fun r3 σ1 => if r3 = 0 then some ((-1000000002), σ1) else if (σ1.1 0 4) = 0 then some ((-1000000003), σ1) else f_X8_dawn_30 x1 ((-1)) 0 σ1)
set_option maxHeartbeats 4000000 in
theorem c_X8_dawn (l : Launch) (D : va_G) (G : Geo)   (x1 : Int32) (σ : St) (o : Int32 × St) (hf : f_X8_dawn  x1 σ = some o) : CI l D (tyG G) (wM G) yX8_dawn cX8_dawn 4 ((some .int)) ({ frames := 3, cells := 0, slots := 0, locals := 67 }) [.ref (G.1 0), .int x1] σ o := by
  refine met_of (Qc := fun A => QI D (tyG G) (wM G) A o) pn_X8 (Nat.le_of_ble_eq_true rfl) (fun p e s m below meth c A ls C hr h hl => ?_)
  have C : Cx p s m _ meth c cX8_dawn 4 RX8 D (tyG G) := C
  have hl : lv_has ls 4 [(0, .ref (G.1 0)), (1, .int x1)] := hl
  unfold f_X8_dawn at hf
  have hx := C.1
  have hb := C.2.1
  refine lv_iload_n hx hb dX8_dawn_0 rfl (lv_at hl 1 rfl) ?_
  refine lv_i2l (v := x1.toInt64) hx hb dX8_dawn_1 rfl ?_
  refine lv_lconst (v := 1) hx hb dX8_dawn_2 (by decide) ?_
  refine lv_ldc2 (v := 99) hx hb C.2.2.2.1 (C.2.2.2.2.1 _ q584) dX8_dawn_3 ?_
  refine bd_el hf (fun r3 σ1 ho2 hf => ?_)
  refine x_goi h (x_runS (As := [.long x1.toInt64, .long 1, .long 99]) (rest := []) C h (c_X8_in l D G x1.toInt64 1 99 σ (r3, σ1) ho2 _) lk_X8_112 rfl ⟨rfl, rfl, Nat.le_of_ble_eq_true rfl, Nat.le_of_ble_eq_true rfl⟩ hl.1 rfl (Nat.le_of_ble_eq_true rfl) dX8_dawn_6) (fun H locs h => ?_)
  refine lv_if_ne (tgt := 15) hx hb dX8_dawn_9 (by decide) (fun c4 => ?_) (fun c4 => ?_)
  · have hf := ifF c4 hf
    refine lv_aload_n hx hb dX8_dawn_15 rfl (lv_at hl 0 rfl) ?_
    refine gf_X8_116 C h dX8_dawn_16 ?_
    refine lv_if_ne (tgt := 26) hx hb dX8_dawn_19 (by decide) (fun c5 => ?_) (fun c5 => ?_)
    · have hf := ifF c5 hf
      refine lv_iconst (v := (-1)) hx hb dX8_dawn_26 (by decide) ?_
      refine lv_istore_n (lv' := [(2, .int ((-1))), (0, .ref (G.1 0)), (1, .int x1)]) hx hb dX8_dawn_27 rfl hl (by decide) rfl (fun ls hl => ?_)
      refine lv_iconst (v := 0) hx hb dX8_dawn_28 (by decide) ?_
      refine lv_istore_n (lv' := [(3, .int 0), (2, .int ((-1))), (0, .ref (G.1 0)), (1, .int x1)]) hx hb dX8_dawn_29 rfl hl (by decide) rfl (fun ls hl => ?_)
      exact t_X8_dawn_30 C hr x1 ((-1)) 0 σ1 _ _ _ h (lv_sub hl [2, 3, 1, 0] rfl) hf
    · have hf := ifT c5 hf
      refine lv_ldcw (v := (-1000000003)) hx hb C.2.2.2.1 (C.2.2.2.2.1 _ q585) dX8_dawn_22 ?_
      exact x_iret C hr h hf dX8_dawn_25
  · have hf := ifT c4 hf
    refine lv_ldc (v := (-1000000002)) hx hb C.2.2.2.1 (C.2.2.2.2.1 _ q167) dX8_dawn_12 ?_
    exact x_iret C hr h hf dX8_dawn_14
def f_X8_ruler  (x1 : Int32) (x2 : Int32) (σ : St) : Option (Int32 × St) := bd (f_X8_in x2.toInt64 0 1 σ) (fun r3 σ1 => if r3 = 0 then some ((-1000000002), σ1) else bd (f_X8_in x1.toInt64 0 (((σ1.1 0 18) - 1 : Int32).toInt64) σ1) (fun r7 σ5 => if r7 = 0 then some ((-1), σ5) else if x2 = 0 then rd (σ5.1 11) 200 x1 (fun v11 => some (v11, σ5)) else rd (σ5.1 12) 200 x1 (fun v10 => some (v10, σ5))))
set_option maxHeartbeats 4000000 in
theorem c_X8_ruler (l : Launch) (D : va_G) (G : Geo)   (x1 : Int32) (x2 : Int32) (σ : St) (o : Int32 × St) (hf : f_X8_ruler  x1 x2 σ = some o) : CI l D (tyG G) (wM G) yX8_ruler cX8_ruler 3 ((some .int)) ({ frames := 1, cells := 0, slots := 0, locals := 25 }) [.ref (G.1 0), .int x1, .int x2] σ o := by
  refine met_of (Qc := fun A => QI D (tyG G) (wM G) A o) pn_X8 (Nat.le_of_ble_eq_true rfl) (fun p e s m below meth c A ls C hr h hl => ?_)
  have C : Cx p s m _ meth c cX8_ruler 3 RX8 D (tyG G) := C
  have hl : lv_has ls 3 [(0, .ref (G.1 0)), (1, .int x1), (2, .int x2)] := hl
  unfold f_X8_ruler at hf
  have hx := C.1
  have hb := C.2.1
  refine lv_iload_n hx hb dX8_ruler_0 rfl (lv_at hl 2 rfl) ?_
  refine lv_i2l (v := x2.toInt64) hx hb dX8_ruler_1 rfl ?_
  refine lv_lconst (v := 0) hx hb dX8_ruler_2 (by decide) ?_
  refine lv_lconst (v := 1) hx hb dX8_ruler_3 (by decide) ?_
  refine bd_el hf (fun r3 σ1 ho2 hf => ?_)
  refine x_goi h (x_runS (As := [.long x2.toInt64, .long 0, .long 1]) (rest := []) C h (c_X8_in l D G x2.toInt64 0 1 σ (r3, σ1) ho2 _) lk_X8_112 rfl ⟨rfl, rfl, Nat.le_of_ble_eq_true rfl, Nat.le_of_ble_eq_true rfl⟩ hl.1 rfl (Nat.le_of_ble_eq_true rfl) dX8_ruler_4) (fun H locs h => ?_)
  refine lv_if_ne (tgt := 13) hx hb dX8_ruler_7 (by decide) (fun c4 => ?_) (fun c4 => ?_)
  · have hf := ifF c4 hf
    refine lv_iload_n hx hb dX8_ruler_13 rfl (lv_at hl 1 rfl) ?_
    refine lv_i2l (v := x1.toInt64) hx hb dX8_ruler_14 rfl ?_
    refine lv_lconst (v := 0) hx hb dX8_ruler_15 (by decide) ?_
    refine lv_aload_n hx hb dX8_ruler_16 rfl (lv_at hl 0 rfl) ?_
    refine gf_X8_128 C h dX8_ruler_17 ?_
    refine lv_iconst (v := 1) hx hb dX8_ruler_20 (by decide) ?_
    refine lv_isub hx hb dX8_ruler_21 ?_
    refine lv_i2l (v := ((σ1.1 0 18) - 1 : Int32).toInt64) hx hb dX8_ruler_22 rfl ?_
    refine bd_el hf (fun r7 σ5 ho6 hf => ?_)
    refine x_goi h (x_runS (As := [.long x1.toInt64, .long 0, .long (((σ1.1 0 18) - 1 : Int32).toInt64)]) (rest := []) C h (c_X8_in l D G x1.toInt64 0 (((σ1.1 0 18) - 1 : Int32).toInt64) σ1 (r7, σ5) ho6 _) lk_X8_112 rfl ⟨rfl, rfl, Nat.le_of_ble_eq_true rfl, Nat.le_of_ble_eq_true rfl⟩ hl.1 rfl (Nat.le_of_ble_eq_true rfl) dX8_ruler_23) (fun H locs h => ?_)
    refine lv_if_ne (tgt := 33) hx hb dX8_ruler_26 (by decide) (fun c8 => ?_) (fun c8 => ?_)
    · have hf := ifF c8 hf
      refine lv_iload_n hx hb dX8_ruler_33 rfl (lv_at hl 2 rfl) ?_
      refine lv_if_ne (tgt := 46) hx hb dX8_ruler_34 (by decide) (fun c9 => ?_) (fun c9 => ?_)
      · have hf := ifF c9 hf
        refine lv_aload_n hx hb dX8_ruler_46 rfl (lv_at hl 0 rfl) ?_
        refine gf_X8_53 C h dX8_ruler_47 ?_
        refine lv_iload_n hx hb dX8_ruler_50 rfl (lv_at hl 1 rfl) ?_
        refine rd_el hf (fun v10 hinv10 hv10 hf => ?_)
        refine x_iald C h 12 1 (by decide) (aM_12 G _ _) rfl hinv10 hv10 dX8_ruler_51 ?_
        exact x_iret C hr h hf dX8_ruler_52
      · have hf := ifT c9 hf
        refine lv_aload_n hx hb dX8_ruler_37 rfl (lv_at hl 0 rfl) ?_
        refine gf_X8_50 C h dX8_ruler_38 ?_
        refine lv_iload_n hx hb dX8_ruler_41 rfl (lv_at hl 1 rfl) ?_
        refine rd_el hf (fun v11 hinv11 hv11 hf => ?_)
        refine x_iald C h 11 1 (by decide) (aM_11 G _ _) rfl hinv11 hv11 dX8_ruler_42 ?_
        refine lv_goto (tgt := 52) hx hb dX8_ruler_43 (by decide) ?_
        exact x_iret C hr h hf dX8_ruler_52
    · have hf := ifT c8 hf
      refine lv_iconst (v := (-1)) hx hb dX8_ruler_29 (by decide) ?_
      refine lv_goto (tgt := 52) hx hb dX8_ruler_30 (by decide) ?_
      exact x_iret C hr h hf dX8_ruler_52
  · have hf := ifT c4 hf
    refine lv_ldc (v := (-1000000002)) hx hb C.2.2.2.1 (C.2.2.2.2.1 _ q167) dX8_ruler_10 ?_
    exact x_iret C hr h hf dX8_ruler_12
def f_X8_laterRaw  (x1 : Int32) (x2 : Int32) (σ : St) : Option (Int32 × St) := bd (f_X8_lastOf x1 σ) (fun r3 σ1 => nm (r3 - x2) (fun z4 => rd (σ1.1 6) 8 x1 (fun v5 => nm ((2 * v5) + 1) (fun z6 => if (0 : Int32) ≤ z4 then if z4 ≤ z6 then some (z4, σ1) else some (z6, σ1) else some (0, σ1)))))
set_option maxHeartbeats 4000000 in
theorem c_X8_laterRaw (l : Launch) (D : va_G) (G : Geo)   (x1 : Int32) (x2 : Int32) (σ : St) (o : Int32 × St) (hf : f_X8_laterRaw  x1 x2 σ = some o) : CI l D (tyG G) (wM G) yX8_laterRaw cX8_laterRaw 5 ((some .int)) ({ frames := 1, cells := 0, slots := 0, locals := 21 }) [.ref (G.1 0), .int x1, .int x2] σ o := by
  refine met_of (Qc := fun A => QI D (tyG G) (wM G) A o) pn_X8 (Nat.le_of_ble_eq_true rfl) (fun p e s m below meth c A ls C hr h hl => ?_)
  have C : Cx p s m _ meth c cX8_laterRaw 5 RX8 D (tyG G) := C
  have hl : lv_has ls 5 [(0, .ref (G.1 0)), (1, .int x1), (2, .int x2)] := hl
  unfold f_X8_laterRaw at hf
  have hx := C.1
  have hb := C.2.1
  refine lv_aload_n hx hb dX8_laterRaw_0 rfl (lv_at hl 0 rfl) ?_
  refine lv_iload_n hx hb dX8_laterRaw_1 rfl (lv_at hl 1 rfl) ?_
  refine bd_el hf (fun r3 σ1 ho2 hf => ?_)
  refine x_goi h (x_runV (As := [.int x1]) (rest := []) C h (c_X8_lastOf l D G x1 σ (r3, σ1) ho2 _) lk_X8_240 rfl ⟨rfl, rfl, Nat.le_of_ble_eq_true rfl, Nat.le_of_ble_eq_true rfl⟩ (x_rcv C h 0 (by decide) (oM G _ _) rfl) hl.1 rfl (Nat.le_of_ble_eq_true rfl) dX8_laterRaw_2) (fun H locs h => ?_)
  refine lv_iload_n hx hb dX8_laterRaw_5 rfl (lv_at hl 2 rfl) ?_
  refine lv_isub hx hb dX8_laterRaw_6 ?_
  refine nm_el hf (fun z4 ez4 hf => ?_)
  refine x_topi ez4 ?_
  refine lv_istore_n (lv' := [(3, .int z4), (0, .ref (G.1 0)), (1, .int x1), (2, .int x2)]) hx hb dX8_laterRaw_7 rfl hl (by decide) rfl (fun ls hl => ?_)
  refine lv_iconst (v := 2) hx hb dX8_laterRaw_8 (by decide) ?_
  refine lv_aload_n hx hb dX8_laterRaw_9 rfl (lv_at hl 1 rfl) ?_
  refine gf_X8_25 C h dX8_laterRaw_10 ?_
  refine lv_iload_n hx hb dX8_laterRaw_13 rfl (lv_at hl 2 rfl) ?_
  refine rd_el hf (fun v5 hinv5 hv5 hf => ?_)
  refine x_iald C h 6 1 (by decide) (aM_6 G _ _) rfl hinv5 hv5 dX8_laterRaw_14 ?_
  refine lv_imul hx hb dX8_laterRaw_15 ?_
  refine lv_iconst (v := 1) hx hb dX8_laterRaw_16 (by decide) ?_
  refine lv_iadd hx hb dX8_laterRaw_17 ?_
  refine nm_el hf (fun z6 ez6 hf => ?_)
  refine x_topi ez6 ?_
  refine lv_istore (lv' := [(4, .int z6), (3, .int z4), (0, .ref (G.1 0)), (1, .int x1), (2, .int x2)]) hx hb dX8_laterRaw_18 hl (by decide) rfl (fun ls hl => ?_)
  refine lv_iload_n hx hb dX8_laterRaw_20 rfl (lv_at hl 1 rfl) ?_
  refine lv_if_ge (tgt := 28) hx hb dX8_laterRaw_21 (by decide) (fun c7 => ?_) (fun c7 => ?_)
  · have hf := ifT c7 hf
    refine lv_iload_n hx hb dX8_laterRaw_28 rfl (lv_at hl 1 rfl) ?_
    refine lv_iload hx hb dX8_laterRaw_29 (lv_at hl 0 rfl) ?_
    refine lv_icmp_le (tgt := 39) hx hb dX8_laterRaw_31 (by decide) (fun c8 => ?_) (fun c8 => ?_)
    · have hf := ifT c8 hf
      refine lv_iload_n hx hb dX8_laterRaw_39 rfl (lv_at hl 1 rfl) ?_
      exact x_iret C hr h hf dX8_laterRaw_40
    · have hf := ifF c8 hf
      refine lv_iload hx hb dX8_laterRaw_34 (lv_at hl 0 rfl) ?_
      refine lv_goto (tgt := 40) hx hb dX8_laterRaw_36 (by decide) ?_
      exact x_iret C hr h hf dX8_laterRaw_40
  · have hf := ifF c7 hf
    refine lv_iconst (v := 0) hx hb dX8_laterRaw_24 (by decide) ?_
    refine lv_goto (tgt := 40) hx hb dX8_laterRaw_25 (by decide) ?_
    exact x_iret C hr h hf dX8_laterRaw_40
def f_X8_later_20   (x1 : Int32) (x2 : Int32) (σ : St) : Option (Int32 × St) := bd (f_X8_laterRaw x1 x2 σ) (fun r8 σ6 => some (r8, σ6))
set_option maxHeartbeats 4000000 in
theorem t_X8_later_20 (C : Cx p s m args meth c cX8_later 3 RX8 D (tyG G)) (hr : meth.sig.returnType = (some .int)) {o : Int32 × St}   : ∀ (x1 : Int32) (x2 : Int32) (σ : St) (H : Heap) (locs : List Loc) (ls : Array Slot), Hs D A s.heap (wM G σ) H locs → lv_has ls 3 [(0, .ref (G.1 0)), (1, .int x1), (2, .int x2)] → f_X8_later_20   x1 x2 σ = some o → W p l e ({ frames := 2, cells := 0, slots := 0, locals := 45 } : Room) s m args below meth c H locs 0 0 (MQ below (QI D (tyG G) (wM G) A o) args s 0 0 A) (F0 m 20 ls []) := by
  intro x1 x2 σ H locs ls h hl hf
  unfold f_X8_later_20 at hf
  have hx := C.1
  have hb := C.2.1
  refine lv_aload_n hx hb dX8_later_20 rfl (lv_at hl 0 rfl) ?_
  refine lv_iload_n hx hb dX8_later_21 rfl (lv_at hl 1 rfl) ?_
  refine lv_iload_n hx hb dX8_later_22 rfl (lv_at hl 2 rfl) ?_
  refine bd_el hf (fun r8 σ6 ho7 hf => ?_)
  refine x_goi h (x_runV (As := [.int x1, .int x2]) (rest := []) C h (c_X8_laterRaw l D G x1 x2 σ (r8, σ6) ho7 _) lk_X8_272 rfl ⟨rfl, rfl, Nat.le_of_ble_eq_true rfl, Nat.le_of_ble_eq_true rfl⟩ (x_rcv C h 0 (by decide) (oM G _ _) rfl) hl.1 rfl (Nat.le_of_ble_eq_true rfl) dX8_later_23) (fun H locs h => ?_)
  exact x_iret C hr h hf dX8_later_26
def f_X8_later  (x1 : Int32) (x2 : Int32) (σ : St) : Option (Int32 × St) := bd (f_X8_isStartled x1 σ) (fun r3 σ1 => if r3 = 0 then f_X8_later_20 x1 x2 σ1 else if x2 < (σ1.1 0 10) then f_X8_later_20 x1 x2 σ1 else some (0, σ1))
set_option maxHeartbeats 4000000 in
theorem c_X8_later (l : Launch) (D : va_G) (G : Geo)   (x1 : Int32) (x2 : Int32) (σ : St) (o : Int32 × St) (hf : f_X8_later  x1 x2 σ = some o) : CI l D (tyG G) (wM G) yX8_later cX8_later 3 ((some .int)) ({ frames := 2, cells := 0, slots := 0, locals := 45 }) [.ref (G.1 0), .int x1, .int x2] σ o := by
  refine met_of (Qc := fun A => QI D (tyG G) (wM G) A o) pn_X8 (Nat.le_of_ble_eq_true rfl) (fun p e s m below meth c A ls C hr h hl => ?_)
  have C : Cx p s m _ meth c cX8_later 3 RX8 D (tyG G) := C
  have hl : lv_has ls 3 [(0, .ref (G.1 0)), (1, .int x1), (2, .int x2)] := hl
  unfold f_X8_later at hf
  have hx := C.1
  have hb := C.2.1
  refine lv_aload_n hx hb dX8_later_0 rfl (lv_at hl 0 rfl) ?_
  refine lv_iload_n hx hb dX8_later_1 rfl (lv_at hl 1 rfl) ?_
  refine bd_el hf (fun r3 σ1 ho2 hf => ?_)
  refine x_goi h (x_runV (As := [.int x1]) (rest := []) C h (c_X8_isStartled l D G x1 σ (r3, σ1) ho2 _) lk_X8_228 rfl ⟨rfl, rfl, Nat.le_of_ble_eq_true rfl, Nat.le_of_ble_eq_true rfl⟩ (x_rcv C h 0 (by decide) (oM G _ _) rfl) hl.1 rfl (Nat.le_of_ble_eq_true rfl) dX8_later_2) (fun H locs h => ?_)
  refine lv_if_eq (tgt := 20) hx hb dX8_later_5 (by decide) (fun c4 => ?_) (fun c4 => ?_)
  · have hf := ifT c4 hf
    exact t_X8_later_20 C hr x1 x2 σ1 _ _ _ h (lv_sub hl [0, 1, 2] rfl) hf
  · have hf := ifF c4 hf
    refine lv_iload_n hx hb dX8_later_8 rfl (lv_at hl 2 rfl) ?_
    refine lv_aload_n hx hb dX8_later_9 rfl (lv_at hl 0 rfl) ?_
    refine gf_X8_34 C h dX8_later_10 ?_
    refine lv_icmp_lt (tgt := 20) hx hb dX8_later_13 (by decide) (fun c5 => ?_) (fun c5 => ?_)
    · have hf := ifT c5 hf
      exact t_X8_later_20 C hr x1 x2 σ1 _ _ _ h (lv_sub hl [0, 1, 2] rfl) hf
    · have hf := ifF c5 hf
      refine lv_iconst (v := 0) hx hb dX8_later_16 (by decide) ?_
      refine lv_goto (tgt := 26) hx hb dX8_later_17 (by decide) ?_
      exact x_iret C hr h hf dX8_later_26
def f_X8_lets  (x1 : Int32) (x2 : Int32) (x3 : Int32) (σ : St) : Option (Int32 × St) := bd (f_X8_later x1 x3 σ) (fun r3 σ1 => bd (f_X8_later x1 (x3 - 1) σ1) (fun r6 σ4 => if (σ4.1 0 13) = 0 then if x1 ≤ x2 then some (r3, σ4) else some (r6, σ4) else rd (σ4.1 6) 8 x1 (fun v8 => nm ((2 * v8) + 1) (fun z9 => if x1 ≤ x2 then some (z9 - r6, σ4) else some (z9 - r3, σ4)))))
set_option maxHeartbeats 4000000 in
theorem c_X8_lets (l : Launch) (D : va_G) (G : Geo)   (x1 : Int32) (x2 : Int32) (x3 : Int32) (σ : St) (o : Int32 × St) (hf : f_X8_lets  x1 x2 x3 σ = some o) : CI l D (tyG G) (wM G) yX8_lets cX8_lets 7 ((some .int)) ({ frames := 3, cells := 0, slots := 0, locals := 67 }) [.ref (G.1 0), .int x1, .int x2, .int x3] σ o := by
  refine met_of (Qc := fun A => QI D (tyG G) (wM G) A o) pn_X8 (Nat.le_of_ble_eq_true rfl) (fun p e s m below meth c A ls C hr h hl => ?_)
  have C : Cx p s m _ meth c cX8_lets 7 RX8 D (tyG G) := C
  have hl : lv_has ls 7 [(0, .ref (G.1 0)), (1, .int x1), (2, .int x2), (3, .int x3)] := hl
  unfold f_X8_lets at hf
  have hx := C.1
  have hb := C.2.1
  refine lv_aload_n hx hb dX8_lets_0 rfl (lv_at hl 0 rfl) ?_
  refine lv_iload_n hx hb dX8_lets_1 rfl (lv_at hl 1 rfl) ?_
  refine lv_iload_n hx hb dX8_lets_2 rfl (lv_at hl 3 rfl) ?_
  refine bd_el hf (fun r3 σ1 ho2 hf => ?_)
  refine x_goi h (x_runV (As := [.int x1, .int x3]) (rest := []) C h (c_X8_later l D G x1 x3 σ (r3, σ1) ho2 _) lk_X8_275 rfl ⟨rfl, rfl, Nat.le_of_ble_eq_true rfl, Nat.le_of_ble_eq_true rfl⟩ (x_rcv C h 0 (by decide) (oM G _ _) rfl) hl.1 rfl (Nat.le_of_ble_eq_true rfl) dX8_lets_3) (fun H locs h => ?_)
  refine lv_istore (lv' := [(4, .int r3), (0, .ref (G.1 0)), (1, .int x1), (2, .int x2), (3, .int x3)]) hx hb dX8_lets_6 hl (by decide) rfl (fun ls hl => ?_)
  refine lv_aload_n hx hb dX8_lets_8 rfl (lv_at hl 1 rfl) ?_
  refine lv_iload_n hx hb dX8_lets_9 rfl (lv_at hl 2 rfl) ?_
  refine lv_iload_n hx hb dX8_lets_10 rfl (lv_at hl 4 rfl) ?_
  refine lv_iconst (v := 1) hx hb dX8_lets_11 (by decide) ?_
  refine lv_isub hx hb dX8_lets_12 ?_
  refine bd_el hf (fun r6 σ4 ho5 hf => ?_)
  refine x_goi h (x_runV (As := [.int x1, .int (x3 - 1)]) (rest := []) C h (c_X8_later l D G x1 (x3 - 1) σ1 (r6, σ4) ho5 _) lk_X8_275 rfl ⟨rfl, rfl, Nat.le_of_ble_eq_true rfl, Nat.le_of_ble_eq_true rfl⟩ (x_rcv C h 0 (by decide) (oM G _ _) rfl) hl.1 rfl (Nat.le_of_ble_eq_true rfl) dX8_lets_13) (fun H locs h => ?_)
  refine lv_istore (lv' := [(5, .int r6), (4, .int r3), (0, .ref (G.1 0)), (1, .int x1), (2, .int x2), (3, .int x3)]) hx hb dX8_lets_16 hl (by decide) rfl (fun ls hl => ?_)
  refine lv_aload_n hx hb dX8_lets_18 rfl (lv_at hl 2 rfl) ?_
  refine gf_X8_119 C h dX8_lets_19 ?_
  refine lv_if_ne (tgt := 38) hx hb dX8_lets_22 (by decide) (fun c7 => ?_) (fun c7 => ?_)
  · have hf := ifF c7 hf
    refine lv_iconst (v := 2) hx hb dX8_lets_38 (by decide) ?_
    refine lv_aload_n hx hb dX8_lets_39 rfl (lv_at hl 2 rfl) ?_
    refine gf_X8_25 C h dX8_lets_40 ?_
    refine lv_iload_n hx hb dX8_lets_43 rfl (lv_at hl 3 rfl) ?_
    refine rd_el hf (fun v8 hinv8 hv8 hf => ?_)
    refine x_iald C h 6 1 (by decide) (aM_6 G _ _) rfl hinv8 hv8 dX8_lets_44 ?_
    refine lv_imul hx hb dX8_lets_45 ?_
    refine lv_iconst (v := 1) hx hb dX8_lets_46 (by decide) ?_
    refine lv_iadd hx hb dX8_lets_47 ?_
    refine nm_el hf (fun z9 ez9 hf => ?_)
    refine x_topi ez9 ?_
    refine lv_istore (lv' := [(6, .int z9), (5, .int r6), (4, .int r3), (0, .ref (G.1 0)), (1, .int x1), (2, .int x2), (3, .int x3)]) hx hb dX8_lets_48 hl (by decide) rfl (fun ls hl => ?_)
    refine lv_iload_n hx hb dX8_lets_50 rfl (lv_at hl 4 rfl) ?_
    refine lv_iload_n hx hb dX8_lets_51 rfl (lv_at hl 5 rfl) ?_
    refine lv_icmp_le (tgt := 63) hx hb dX8_lets_52 (by decide) (fun c10 => ?_) (fun c10 => ?_)
    · have hf := ifT c10 hf
      refine lv_iload hx hb dX8_lets_63 (lv_at hl 0 rfl) ?_
      refine lv_iload hx hb dX8_lets_65 (lv_at hl 1 rfl) ?_
      refine lv_isub hx hb dX8_lets_67 ?_
      exact x_iret C hr h hf dX8_lets_68
    · have hf := ifF c10 hf
      refine lv_iload hx hb dX8_lets_55 (lv_at hl 0 rfl) ?_
      refine lv_iload hx hb dX8_lets_57 (lv_at hl 2 rfl) ?_
      refine lv_isub hx hb dX8_lets_59 ?_
      refine lv_goto (tgt := 68) hx hb dX8_lets_60 (by decide) ?_
      exact x_iret C hr h hf dX8_lets_68
  · have hf := ifT c7 hf
    refine lv_iload_n hx hb dX8_lets_25 rfl (lv_at hl 3 rfl) ?_
    refine lv_iload_n hx hb dX8_lets_26 rfl (lv_at hl 4 rfl) ?_
    refine lv_icmp_le (tgt := 35) hx hb dX8_lets_27 (by decide) (fun c11 => ?_) (fun c11 => ?_)
    · have hf := ifT c11 hf
      refine lv_iload hx hb dX8_lets_35 (lv_at hl 1 rfl) ?_
      exact x_iret C hr h hf dX8_lets_37
    · have hf := ifF c11 hf
      refine lv_iload hx hb dX8_lets_30 (lv_at hl 0 rfl) ?_
      refine lv_goto (tgt := 37) hx hb dX8_lets_32 (by decide) ?_
      exact x_iret C hr h hf dX8_lets_37
def f_X8_oddsOf_113  (rec28 : Int32 × Int64 × Int32 × St → Option (Int32 × St)) (rec67 : Int32 × Int64 × Int32 × Int32 × Int64 × Int32 × St → Option (Int32 × St)) (x1 : Int32) (x2 : Int64) (x4 : Int32) (x5 : Int32) (x8 : Int32) (y0 : Int64) (σ : St) : Option (Int32 × St) := rec67 (x1, x2, x4, x5, y0, x8 + 1, σ)
set_option maxHeartbeats 4000000 in
theorem t_X8_oddsOf_113 (C : Cx p s m args meth c cX8_oddsOf 9 RX8 D (tyG G)) (hr : meth.sig.returnType = (some .int)) {o : Int32 × St}  {rec28 : Int32 × Int64 × Int32 × St → Option (Int32 × St)} (IH28 : ∀ q, rec28 q = some o → ∀ (H : Heap) (locs : List Loc) (ls : Array Slot), Hs D A s.heap (wM G (q.2.2.2)) H locs → lv_has ls 9 [(0, .ref (G.1 0)), (1, .int (q.1)), (2, .long (q.2.1)), (4, .int (q.2.2.1))] → W p l e ({ frames := 4, cells := 0, slots := 0, locals := 93 } : Room) s m args below meth c H locs 0 0 (MQ below (QI D (tyG G) (wM G) A o) args s 0 0 A) (F0 m 28 ls [])) {rec67 : Int32 × Int64 × Int32 × Int32 × Int64 × Int32 × St → Option (Int32 × St)} (IH67 : ∀ q, rec67 q = some o → ∀ (H : Heap) (locs : List Loc) (ls : Array Slot), Hs D A s.heap (wM G (q.2.2.2.2.2.2)) H locs → lv_has ls 9 [(0, .ref (G.1 0)), (1, .int (q.1)), (2, .long (q.2.1)), (4, .int (q.2.2.1)), (5, .int (q.2.2.2.1)), (6, .long (q.2.2.2.2.1)), (8, .int (q.2.2.2.2.2.1))] → W p l e ({ frames := 4, cells := 0, slots := 0, locals := 93 } : Room) s m args below meth c H locs 0 0 (MQ below (QI D (tyG G) (wM G) A o) args s 0 0 A) (F0 m 67 ls [])) : ∀ (x1 : Int32) (x2 : Int64) (x4 : Int32) (x5 : Int32) (x8 : Int32) (y0 : Int64) (σ : St) (H : Heap) (locs : List Loc) (ls : Array Slot), Hs D A s.heap (wM G σ) H locs → lv_has ls 9 [(0, .ref (G.1 0)), (1, .int x1), (2, .long x2), (4, .int x4), (5, .int x5), (8, .int x8)] → f_X8_oddsOf_113  rec28 rec67 x1 x2 x4 x5 x8 y0 σ = some o → W p l e ({ frames := 4, cells := 0, slots := 0, locals := 93 } : Room) s m args below meth c H locs 0 0 (MQ below (QI D (tyG G) (wM G) A o) args s 0 0 A) (F0 m 113 ls [.long y0]) := by
  intro x1 x2 x4 x5 x8 y0 σ H locs ls h hl hf
  unfold f_X8_oddsOf_113 at hf
  have hx := C.1
  have hb := C.2.1
  refine lv_lstore (lv' := [(6, .long y0), (0, .ref (G.1 0)), (1, .int x1), (2, .long x2), (4, .int x4), (5, .int x5), (8, .int x8)]) hx hb dX8_oddsOf_113 hl (by decide) rfl (fun ls hl => ?_)
  refine lv_iinc (v := x8 + 1) (lv' := [(8, .int (x8 + 1)), (6, .long y0), (0, .ref (G.1 0)), (1, .int x1), (2, .long x2), (4, .int x4), (5, .int x5)]) hx hb dX8_oddsOf_115 hl (k := 6) rfl rfl (by decide) rfl (fun ls hl => ?_)
  refine lv_goto (tgt := 67) hx hb dX8_oddsOf_118 (by decide) ?_
  exact IH67 (x1, x2, x4, x5, y0, x8 + 1, σ) hf _ _ _ h (lv_sub hl [2, 3, 4, 5, 6, 1, 0] rfl)
def b_X8_oddsOf_67  (rec28 : Int32 × Int64 × Int32 × St → Option (Int32 × St)) (rec67 : Int32 × Int64 × Int32 × Int32 × Int64 × Int32 × St → Option (Int32 × St)) (x1 : Int32) (x2 : Int64) (x4 : Int32) (x5 : Int32) (x6 : Int64) (x8 : Int32) (σ : St) : Option (Int32 × St) := if (σ.1 0 4) ≤ x8 then nm (x2 + x6) (fun z17 => rec28 (x1, z17, x4 + 1, σ)) else if x8 = x1 then f_X8_oddsOf_113 rec28 rec67 x1 x2 x4 x5 x8 x6 σ else bd (f_X8_lets x8 x1 x5 σ) (fun r21 σ19 => rd (σ19.1 6) 8 x8 (fun v22 => ck (nzL (((2 * v22) + 1 : Int32).toInt64)) (f_X8_oddsOf_113 rec28 rec67 x1 x2 x4 x5 x8 ((x6 * r21.toInt64) / (((2 * v22) + 1 : Int32).toInt64)) σ19)))
def f_X8_oddsOf_67  (rec28 : Int32 × Int64 × Int32 × St → Option (Int32 × St)) (x1 : Int32) (x2 : Int64) (x4 : Int32) (x5 : Int32) (x6 : Int64) (x8 : Int32) (σ : St) : Option (Int32 × St) := lp (fun (rec67 : Int32 × Int64 × Int32 × Int32 × Int64 × Int32 × St → Option (Int32 × St)) (q : Int32 × Int64 × Int32 × Int32 × Int64 × Int32 × St) => b_X8_oddsOf_67  rec28 rec67 (q.1) (q.2.1) (q.2.2.1) (q.2.2.2.1) (q.2.2.2.2.1) (q.2.2.2.2.2.1) (q.2.2.2.2.2.2)) 100000 (x1, x2, x4, x5, x6, x8, σ)
set_option maxHeartbeats 4000000 in
theorem t_X8_oddsOf_67 (C : Cx p s m args meth c cX8_oddsOf 9 RX8 D (tyG G)) (hr : meth.sig.returnType = (some .int)) {o : Int32 × St}  {rec28 : Int32 × Int64 × Int32 × St → Option (Int32 × St)} (IH28 : ∀ q, rec28 q = some o → ∀ (H : Heap) (locs : List Loc) (ls : Array Slot), Hs D A s.heap (wM G (q.2.2.2)) H locs → lv_has ls 9 [(0, .ref (G.1 0)), (1, .int (q.1)), (2, .long (q.2.1)), (4, .int (q.2.2.1))] → W p l e ({ frames := 4, cells := 0, slots := 0, locals := 93 } : Room) s m args below meth c H locs 0 0 (MQ below (QI D (tyG G) (wM G) A o) args s 0 0 A) (F0 m 28 ls [])) : ∀ (x1 : Int32) (x2 : Int64) (x4 : Int32) (x5 : Int32) (x6 : Int64) (x8 : Int32) (σ : St) (H : Heap) (locs : List Loc) (ls : Array Slot), Hs D A s.heap (wM G σ) H locs → lv_has ls 9 [(0, .ref (G.1 0)), (1, .int x1), (2, .long x2), (4, .int x4), (5, .int x5), (6, .long x6), (8, .int x8)] → f_X8_oddsOf_67  rec28 x1 x2 x4 x5 x6 x8 σ = some o → W p l e ({ frames := 4, cells := 0, slots := 0, locals := 93 } : Room) s m args below meth c H locs 0 0 (MQ below (QI D (tyG G) (wM G) A o) args s 0 0 A) (F0 m 67 ls []) := by
  intro x1 x2 x4 x5 x6 x8 σ H locs ls h hl hf
  refine lp_el (P := fun q : Int32 × Int64 × Int32 × Int32 × Int64 × Int32 × St => ∀ (H : Heap) (locs : List Loc) (ls : Array Slot), Hs D A s.heap (wM G (q.2.2.2.2.2.2)) H locs → lv_has ls 9 [(0, .ref (G.1 0)), (1, .int (q.1)), (2, .long (q.2.1)), (4, .int (q.2.2.1)), (5, .int (q.2.2.2.1)), (6, .long (q.2.2.2.2.1)), (8, .int (q.2.2.2.2.2.1))] → W p l e ({ frames := 4, cells := 0, slots := 0, locals := 93 } : Room) s m args below meth c H locs 0 0 (MQ below (QI D (tyG G) (wM G) A o) args s 0 0 A) (F0 m 67 ls [])) (fun rec67 q IH67 hf => ?_) _ (x1, x2, x4, x5, x6, x8, σ) hf H locs ls h hl
  obtain ⟨x1, x2, x4, x5, x6, x8, σ⟩ := q
  intro H locs ls h hl
  have hl : lv_has ls 9 [(0, .ref (G.1 0)), (1, .int x1), (2, .long x2), (4, .int x4), (5, .int x5), (6, .long x6), (8, .int x8)] := hl
  have h : Hs D A s.heap (wM G σ) H locs := h
  have hf : b_X8_oddsOf_67  rec28 rec67 x1 x2 x4 x5 x6 x8 σ = some o := hf
  unfold b_X8_oddsOf_67 at hf
  have hx := C.1
  have hb := C.2.1
  refine lv_iload hx hb dX8_oddsOf_67 (lv_at hl 6 rfl) ?_
  refine lv_aload_n hx hb dX8_oddsOf_69 rfl (lv_at hl 0 rfl) ?_
  refine gf_X8_116 C h dX8_oddsOf_70 ?_
  refine lv_icmp_ge (tgt := 121) hx hb dX8_oddsOf_73 (by decide) (fun c16 => ?_) (fun c16 => ?_)
  · have hf := ifT c16 hf
    refine lv_lload_n hx hb dX8_oddsOf_121 rfl (lv_at hl 2 rfl) ?_
    refine lv_lload hx hb dX8_oddsOf_122 (lv_at hl 5 rfl) ?_
    refine lv_ladd hx hb dX8_oddsOf_124 ?_
    refine nm_el hf (fun z17 ez17 hf => ?_)
    refine x_topl ez17 ?_
    refine lv_lstore_n (lv' := [(2, .long z17), (0, .ref (G.1 0)), (1, .int x1), (4, .int x4), (5, .int x5), (6, .long x6), (8, .int x8)]) hx hb dX8_oddsOf_125 rfl hl (by decide) rfl (fun ls hl => ?_)
    refine lv_iinc (v := x4 + 1) (lv' := [(4, .int (x4 + 1)), (2, .long z17), (0, .ref (G.1 0)), (1, .int x1), (5, .int x5), (6, .long x6), (8, .int x8)]) hx hb dX8_oddsOf_126 hl (k := 3) rfl rfl (by decide) rfl (fun ls hl => ?_)
    refine lv_goto (tgt := 28) hx hb dX8_oddsOf_129 (by decide) ?_
    exact IH28 (x1, z17, x4 + 1, σ) hf _ _ _ h (lv_sub hl [2, 3, 1, 0] rfl)
  · have hf := ifF c16 hf
    refine lv_iload hx hb dX8_oddsOf_76 (lv_at hl 6 rfl) ?_
    refine lv_iload_n hx hb dX8_oddsOf_78 rfl (lv_at hl 1 rfl) ?_
    refine lv_icmp_ne (tgt := 87) hx hb dX8_oddsOf_79 (by decide) (fun c18 => ?_) (fun c18 => ?_)
    · have hf := ifF c18 hf
      refine lv_lload hx hb dX8_oddsOf_87 (lv_at hl 5 rfl) ?_
      refine lv_aload_n hx hb dX8_oddsOf_89 rfl (lv_at hl 0 rfl) ?_
      refine lv_iload hx hb dX8_oddsOf_90 (lv_at hl 6 rfl) ?_
      refine lv_iload_n hx hb dX8_oddsOf_92 rfl (lv_at hl 1 rfl) ?_
      refine lv_iload hx hb dX8_oddsOf_93 (lv_at hl 4 rfl) ?_
      refine bd_el hf (fun r21 σ19 ho20 hf => ?_)
      refine x_goi h (x_runV (As := [.int x8, .int x1, .int x5]) (rest := [.long x6]) C h (c_X8_lets l D G x8 x1 x5 σ (r21, σ19) ho20 _) lk_X8_280 rfl ⟨rfl, rfl, Nat.le_of_ble_eq_true rfl, Nat.le_of_ble_eq_true rfl⟩ (x_rcv C h 0 (by decide) (oM G _ _) rfl) hl.1 rfl (Nat.le_of_ble_eq_true rfl) dX8_oddsOf_95) (fun H locs h => ?_)
      refine lv_i2l (v := r21.toInt64) hx hb dX8_oddsOf_98 rfl ?_
      refine lv_lmul hx hb dX8_oddsOf_99 ?_
      refine lv_iconst (v := 2) hx hb dX8_oddsOf_100 (by decide) ?_
      refine lv_aload_n hx hb dX8_oddsOf_101 rfl (lv_at hl 0 rfl) ?_
      refine gf_X8_25 C h dX8_oddsOf_102 ?_
      refine lv_iload hx hb dX8_oddsOf_105 (lv_at hl 6 rfl) ?_
      refine rd_el hf (fun v22 hinv22 hv22 hf => ?_)
      refine x_iald C h 6 1 (by decide) (aM_6 G _ _) rfl hinv22 hv22 dX8_oddsOf_107 ?_
      refine lv_imul hx hb dX8_oddsOf_108 ?_
      refine lv_iconst (v := 1) hx hb dX8_oddsOf_109 (by decide) ?_
      refine lv_iadd hx hb dX8_oddsOf_110 ?_
      refine lv_i2l (v := ((2 * v22) + 1 : Int32).toInt64) hx hb dX8_oddsOf_111 rfl ?_
      refine ck_el hf (fun hz23 hf => ?_)
      refine lv_ldiv hx hb dX8_oddsOf_112 (of_decide_eq_true hz23) ?_
      exact t_X8_oddsOf_113 C hr IH28 IH67 x1 x2 x4 x5 x8 ((x6 * r21.toInt64) / (((2 * v22) + 1 : Int32).toInt64)) σ19 _ _ _ h (lv_sub hl [0, 1, 2, 3, 4, 6] rfl) hf
    · have hf := ifT c18 hf
      refine lv_lload hx hb dX8_oddsOf_82 (lv_at hl 5 rfl) ?_
      refine lv_goto (tgt := 113) hx hb dX8_oddsOf_84 (by decide) ?_
      exact t_X8_oddsOf_113 C hr IH28 IH67 x1 x2 x4 x5 x8 x6 σ _ _ _ h (lv_sub hl [0, 1, 2, 3, 4, 6] rfl) hf
def b_X8_oddsOf_28   (rec28 : Int32 × Int64 × Int32 × St → Option (Int32 × St)) (x1 : Int32) (x2 : Int64) (x4 : Int32) (σ : St) : Option (Int32 × St) := bd (f_X8_lastOf x1 σ) (fun r8 σ6 => if r8 < x4 then some (x2.toInt32, σ6) else bd (f_X8_heard x1 x4 σ6) (fun r12 σ10 => rd (σ10.1 6) 8 x1 (fun v13 => ck (nzL (((2 * v13) + 1 : Int32).toInt64)) (nm (1000000000 / (((2 * v13) + 1 : Int32).toInt64)) (fun z15 => f_X8_oddsOf_67 rec28 x1 x2 x4 r12 z15 0 σ10)))))
def f_X8_oddsOf_28   (x1 : Int32) (x2 : Int64) (x4 : Int32) (σ : St) : Option (Int32 × St) := lp (fun (rec28 : Int32 × Int64 × Int32 × St → Option (Int32 × St)) (q : Int32 × Int64 × Int32 × St) => b_X8_oddsOf_28   rec28 (q.1) (q.2.1) (q.2.2.1) (q.2.2.2)) 100000 (x1, x2, x4, σ)
set_option maxHeartbeats 4000000 in
theorem t_X8_oddsOf_28 (C : Cx p s m args meth c cX8_oddsOf 9 RX8 D (tyG G)) (hr : meth.sig.returnType = (some .int)) {o : Int32 × St}   : ∀ (x1 : Int32) (x2 : Int64) (x4 : Int32) (σ : St) (H : Heap) (locs : List Loc) (ls : Array Slot), Hs D A s.heap (wM G σ) H locs → lv_has ls 9 [(0, .ref (G.1 0)), (1, .int x1), (2, .long x2), (4, .int x4)] → f_X8_oddsOf_28   x1 x2 x4 σ = some o → W p l e ({ frames := 4, cells := 0, slots := 0, locals := 93 } : Room) s m args below meth c H locs 0 0 (MQ below (QI D (tyG G) (wM G) A o) args s 0 0 A) (F0 m 28 ls []) := by
  intro x1 x2 x4 σ H locs ls h hl hf
  refine lp_el (P := fun q : Int32 × Int64 × Int32 × St => ∀ (H : Heap) (locs : List Loc) (ls : Array Slot), Hs D A s.heap (wM G (q.2.2.2)) H locs → lv_has ls 9 [(0, .ref (G.1 0)), (1, .int (q.1)), (2, .long (q.2.1)), (4, .int (q.2.2.1))] → W p l e ({ frames := 4, cells := 0, slots := 0, locals := 93 } : Room) s m args below meth c H locs 0 0 (MQ below (QI D (tyG G) (wM G) A o) args s 0 0 A) (F0 m 28 ls [])) (fun rec28 q IH28 hf => ?_) _ (x1, x2, x4, σ) hf H locs ls h hl
  obtain ⟨x1, x2, x4, σ⟩ := q
  intro H locs ls h hl
  have hl : lv_has ls 9 [(0, .ref (G.1 0)), (1, .int x1), (2, .long x2), (4, .int x4)] := hl
  have h : Hs D A s.heap (wM G σ) H locs := h
  have hf : b_X8_oddsOf_28   rec28 x1 x2 x4 σ = some o := hf
  unfold b_X8_oddsOf_28 at hf
  have hx := C.1
  have hb := C.2.1
  refine lv_iload hx hb dX8_oddsOf_28 (lv_at hl 3 rfl) ?_
  refine lv_aload_n hx hb dX8_oddsOf_30 rfl (lv_at hl 0 rfl) ?_
  refine lv_iload_n hx hb dX8_oddsOf_31 rfl (lv_at hl 1 rfl) ?_
  refine bd_el hf (fun r8 σ6 ho7 hf => ?_)
  refine x_goi h (x_runV (As := [.int x1]) (rest := [.int x4]) C h (c_X8_lastOf l D G x1 σ (r8, σ6) ho7 _) lk_X8_240 rfl ⟨rfl, rfl, Nat.le_of_ble_eq_true rfl, Nat.le_of_ble_eq_true rfl⟩ (x_rcv C h 0 (by decide) (oM G _ _) rfl) hl.1 rfl (Nat.le_of_ble_eq_true rfl) dX8_oddsOf_32) (fun H locs h => ?_)
  refine lv_icmp_gt (tgt := 132) hx hb dX8_oddsOf_35 (by decide) (fun c9 => ?_) (fun c9 => ?_)
  · have hf := ifT c9 hf
    refine lv_lload_n hx hb dX8_oddsOf_132 rfl (lv_at hl 2 rfl) ?_
    refine lv_l2i (v := x2.toInt32) hx hb dX8_oddsOf_133 rfl ?_
    exact x_iret C hr h hf dX8_oddsOf_134
  · have hf := ifF c9 hf
    refine lv_aload_n hx hb dX8_oddsOf_38 rfl (lv_at hl 0 rfl) ?_
    refine lv_iload_n hx hb dX8_oddsOf_39 rfl (lv_at hl 1 rfl) ?_
    refine lv_iload hx hb dX8_oddsOf_40 (lv_at hl 3 rfl) ?_
    refine bd_el hf (fun r12 σ10 ho11 hf => ?_)
    refine x_goi h (x_runV (As := [.int x1, .int x4]) (rest := []) C h (c_X8_heard l D G x1 x4 σ6 (r12, σ10) ho11 _) lk_X8_237 rfl ⟨rfl, rfl, Nat.le_of_ble_eq_true rfl, Nat.le_of_ble_eq_true rfl⟩ (x_rcv C h 0 (by decide) (oM G _ _) rfl) hl.1 rfl (Nat.le_of_ble_eq_true rfl) dX8_oddsOf_42) (fun H locs h => ?_)
    refine lv_istore (lv' := [(5, .int r12), (0, .ref (G.1 0)), (1, .int x1), (2, .long x2), (4, .int x4)]) hx hb dX8_oddsOf_45 hl (by decide) rfl (fun ls hl => ?_)
    refine lv_ldc2 (v := 1000000000) hx hb C.2.2.2.1 (C.2.2.2.2.1 _ q630) dX8_oddsOf_47 ?_
    refine lv_iconst (v := 2) hx hb dX8_oddsOf_50 (by decide) ?_
    refine lv_aload_n hx hb dX8_oddsOf_51 rfl (lv_at hl 1 rfl) ?_
    refine gf_X8_25 C h dX8_oddsOf_52 ?_
    refine lv_iload_n hx hb dX8_oddsOf_55 rfl (lv_at hl 2 rfl) ?_
    refine rd_el hf (fun v13 hinv13 hv13 hf => ?_)
    refine x_iald C h 6 1 (by decide) (aM_6 G _ _) rfl hinv13 hv13 dX8_oddsOf_56 ?_
    refine lv_imul hx hb dX8_oddsOf_57 ?_
    refine lv_iconst (v := 1) hx hb dX8_oddsOf_58 (by decide) ?_
    refine lv_iadd hx hb dX8_oddsOf_59 ?_
    refine lv_i2l (v := ((2 * v13) + 1 : Int32).toInt64) hx hb dX8_oddsOf_60 rfl ?_
    refine ck_el hf (fun hz14 hf => ?_)
    refine lv_ldiv hx hb dX8_oddsOf_61 (of_decide_eq_true hz14) ?_
    refine nm_el hf (fun z15 ez15 hf => ?_)
    refine x_topl ez15 ?_
    refine lv_lstore (lv' := [(6, .long z15), (5, .int r12), (0, .ref (G.1 0)), (1, .int x1), (2, .long x2), (4, .int x4)]) hx hb dX8_oddsOf_62 hl (by decide) rfl (fun ls hl => ?_)
    refine lv_iconst (v := 0) hx hb dX8_oddsOf_64 (by decide) ?_
    refine lv_istore (lv' := [(8, .int 0), (6, .long z15), (5, .int r12), (0, .ref (G.1 0)), (1, .int x1), (2, .long x2), (4, .int x4)]) hx hb dX8_oddsOf_65 hl (by decide) rfl (fun ls hl => ?_)
    exact t_X8_oddsOf_67 C hr IH28 x1 x2 x4 r12 z15 0 σ10 _ _ _ h (lv_sub hl [3, 4, 5, 6, 2, 1, 0] rfl) hf
def f_X8_oddsOf  (x1 : Int32) (σ : St) : Option (Int32 × St) := if (σ.1 0 13) = 2 then ck (nzL ((σ.1 0 4 : Int32).toInt64)) (some ((1000000000 / ((σ.1 0 4 : Int32).toInt64) : Int64).toInt32, σ)) else bd (f_X8_firstOf x1 σ) (fun r4 σ2 => f_X8_oddsOf_28 x1 0 r4 σ2)
set_option maxHeartbeats 4000000 in
theorem c_X8_oddsOf (l : Launch) (D : va_G) (G : Geo)   (x1 : Int32) (σ : St) (o : Int32 × St) (hf : f_X8_oddsOf  x1 σ = some o) : CI l D (tyG G) (wM G) yX8_oddsOf cX8_oddsOf 9 ((some .int)) ({ frames := 4, cells := 0, slots := 0, locals := 93 }) [.ref (G.1 0), .int x1] σ o := by
  refine met_of (Qc := fun A => QI D (tyG G) (wM G) A o) pn_X8 (Nat.le_of_ble_eq_true rfl) (fun p e s m below meth c A ls C hr h hl => ?_)
  have C : Cx p s m _ meth c cX8_oddsOf 9 RX8 D (tyG G) := C
  have hl : lv_has ls 9 [(0, .ref (G.1 0)), (1, .int x1)] := hl
  unfold f_X8_oddsOf at hf
  have hx := C.1
  have hb := C.2.1
  refine lv_aload_n hx hb dX8_oddsOf_0 rfl (lv_at hl 0 rfl) ?_
  refine gf_X8_119 C h dX8_oddsOf_1 ?_
  refine lv_iconst (v := 2) hx hb dX8_oddsOf_4 (by decide) ?_
  refine lv_icmp_ne (tgt := 19) hx hb dX8_oddsOf_5 (by decide) (fun c1 => ?_) (fun c1 => ?_)
  · have hf := ifF c1 hf
    refine lv_lconst (v := 0) hx hb dX8_oddsOf_19 (by decide) ?_
    refine lv_lstore_n (lv' := [(2, .long 0), (0, .ref (G.1 0)), (1, .int x1)]) hx hb dX8_oddsOf_20 rfl hl (by decide) rfl (fun ls hl => ?_)
    refine lv_aload_n hx hb dX8_oddsOf_21 rfl (lv_at hl 1 rfl) ?_
    refine lv_iload_n hx hb dX8_oddsOf_22 rfl (lv_at hl 2 rfl) ?_
    refine bd_el hf (fun r4 σ2 ho3 hf => ?_)
    refine x_goi h (x_runV (As := [.int x1]) (rest := []) C h (c_X8_firstOf l D G x1 σ (r4, σ2) ho3 _) lk_X8_234 rfl ⟨rfl, rfl, Nat.le_of_ble_eq_true rfl, Nat.le_of_ble_eq_true rfl⟩ (x_rcv C h 0 (by decide) (oM G _ _) rfl) hl.1 rfl (Nat.le_of_ble_eq_true rfl) dX8_oddsOf_23) (fun H locs h => ?_)
    refine lv_istore (lv' := [(4, .int r4), (2, .long 0), (0, .ref (G.1 0)), (1, .int x1)]) hx hb dX8_oddsOf_26 hl (by decide) rfl (fun ls hl => ?_)
    exact t_X8_oddsOf_28 C hr x1 0 r4 σ2 _ _ _ h (lv_sub hl [2, 3, 1, 0] rfl) hf
  · have hf := ifT c1 hf
    refine lv_ldc2 (v := 1000000000) hx hb C.2.2.2.1 (C.2.2.2.2.1 _ q630) dX8_oddsOf_8 ?_
    refine lv_aload_n hx hb dX8_oddsOf_11 rfl (lv_at hl 0 rfl) ?_
    refine gf_X8_116 C h dX8_oddsOf_12 ?_
    refine lv_i2l (v := (σ.1 0 4 : Int32).toInt64) hx hb dX8_oddsOf_15 rfl ?_
    refine ck_el hf (fun hz5 hf => ?_)
    refine lv_ldiv hx hb dX8_oddsOf_16 (of_decide_eq_true hz5) ?_
    refine lv_l2i (v := (1000000000 / ((σ.1 0 4 : Int32).toInt64) : Int64).toInt32) hx hb dX8_oddsOf_17 rfl ?_
    exact x_iret C hr h hf dX8_oddsOf_18
def f_X8_odds  (x1 : Int32) (σ : St) : Option (Int32 × St) := bd (f_X8_isSleeper x1 σ) (fun r3 σ1 => if r3 = 0 then some ((-1000000001), σ1) else bd (f_X8_oddsOf x1 σ1) (fun r7 σ5 => some (r7, σ5)))
set_option maxHeartbeats 4000000 in
theorem c_X8_odds (l : Launch) (D : va_G) (G : Geo)   (x1 : Int32) (σ : St) (o : Int32 × St) (hf : f_X8_odds  x1 σ = some o) : CI l D (tyG G) (wM G) yX8_odds cX8_odds 2 ((some .int)) ({ frames := 5, cells := 0, slots := 0, locals := 121 }) [.ref (G.1 0), .int x1] σ o := by
  refine met_of (Qc := fun A => QI D (tyG G) (wM G) A o) pn_X8 (Nat.le_of_ble_eq_true rfl) (fun p e s m below meth c A ls C hr h hl => ?_)
  have C : Cx p s m _ meth c cX8_odds 2 RX8 D (tyG G) := C
  have hl : lv_has ls 2 [(0, .ref (G.1 0)), (1, .int x1)] := hl
  unfold f_X8_odds at hf
  have hx := C.1
  have hb := C.2.1
  refine lv_aload_n hx hb dX8_odds_0 rfl (lv_at hl 0 rfl) ?_
  refine lv_iload_n hx hb dX8_odds_1 rfl (lv_at hl 1 rfl) ?_
  refine bd_el hf (fun r3 σ1 ho2 hf => ?_)
  refine x_goi h (x_runV (As := [.int x1]) (rest := []) C h (c_X8_isSleeper l D G x1 σ (r3, σ1) ho2 _) lk_X8_231 rfl ⟨rfl, rfl, Nat.le_of_ble_eq_true rfl, Nat.le_of_ble_eq_true rfl⟩ (x_rcv C h 0 (by decide) (oM G _ _) rfl) hl.1 rfl (Nat.le_of_ble_eq_true rfl) dX8_odds_2) (fun H locs h => ?_)
  refine lv_if_eq (tgt := 16) hx hb dX8_odds_5 (by decide) (fun c4 => ?_) (fun c4 => ?_)
  · have hf := ifT c4 hf
    refine lv_ldc (v := (-1000000001)) hx hb C.2.2.2.1 (C.2.2.2.2.1 _ q434) dX8_odds_16 ?_
    exact x_iret C hr h hf dX8_odds_18
  · have hf := ifF c4 hf
    refine lv_aload_n hx hb dX8_odds_8 rfl (lv_at hl 0 rfl) ?_
    refine lv_iload_n hx hb dX8_odds_9 rfl (lv_at hl 1 rfl) ?_
    refine bd_el hf (fun r7 σ5 ho6 hf => ?_)
    refine x_goi h (x_runV (As := [.int x1]) (rest := []) C h (c_X8_oddsOf l D G x1 σ1 (r7, σ5) ho6 _) lk_X8_284 rfl ⟨rfl, rfl, Nat.le_of_ble_eq_true rfl, Nat.le_of_ble_eq_true rfl⟩ (x_rcv C h 0 (by decide) (oM G _ _) rfl) hl.1 rfl (Nat.le_of_ble_eq_true rfl) dX8_odds_10) (fun H locs h => ?_)
    refine lv_goto (tgt := 18) hx hb dX8_odds_13 (by decide) ?_
    exact x_iret C hr h hf dX8_odds_18
def f_X8_oddsOfHouses_35  (rec4 : Int32 × Int32 × Int32 × St → Option (Int32 × St)) (x1 : Int32) (x3 : Int32) (y0 : Int32) (y1 : Int32) (σ : St) : Option (Int32 × St) := nm (y0 + y1) (fun z10 => rec4 (x1, z10, x3 + 1, σ))
set_option maxHeartbeats 4000000 in
theorem t_X8_oddsOfHouses_35 (C : Cx p s m args meth c cX8_oddsOfHouses 4 RX8 D (tyG G)) (hr : meth.sig.returnType = (some .int)) {o : Int32 × St}  {rec4 : Int32 × Int32 × Int32 × St → Option (Int32 × St)} (IH4 : ∀ q, rec4 q = some o → ∀ (H : Heap) (locs : List Loc) (ls : Array Slot), Hs D A s.heap (wM G (q.2.2.2)) H locs → lv_has ls 4 [(0, .ref (G.1 0)), (1, .int (q.1)), (2, .int (q.2.1)), (3, .int (q.2.2.1))] → W p l e ({ frames := 5, cells := 0, slots := 0, locals := 121 } : Room) s m args below meth c H locs 0 0 (MQ below (QI D (tyG G) (wM G) A o) args s 0 0 A) (F0 m 4 ls [])) : ∀ (x1 : Int32) (x3 : Int32) (y0 : Int32) (y1 : Int32) (σ : St) (H : Heap) (locs : List Loc) (ls : Array Slot), Hs D A s.heap (wM G σ) H locs → lv_has ls 4 [(0, .ref (G.1 0)), (1, .int x1), (3, .int x3)] → f_X8_oddsOfHouses_35  rec4 x1 x3 y0 y1 σ = some o → W p l e ({ frames := 5, cells := 0, slots := 0, locals := 121 } : Room) s m args below meth c H locs 0 0 (MQ below (QI D (tyG G) (wM G) A o) args s 0 0 A) (F0 m 35 ls [.int y1, .int y0]) := by
  intro x1 x3 y0 y1 σ H locs ls h hl hf
  unfold f_X8_oddsOfHouses_35 at hf
  have hx := C.1
  have hb := C.2.1
  refine lv_iadd hx hb dX8_oddsOfHouses_35 ?_
  refine nm_el hf (fun z10 ez10 hf => ?_)
  refine x_topi ez10 ?_
  refine lv_istore_n (lv' := [(2, .int z10), (0, .ref (G.1 0)), (1, .int x1), (3, .int x3)]) hx hb dX8_oddsOfHouses_36 rfl hl (by decide) rfl (fun ls hl => ?_)
  refine lv_iinc (v := x3 + 1) (lv' := [(3, .int (x3 + 1)), (2, .int z10), (0, .ref (G.1 0)), (1, .int x1)]) hx hb dX8_oddsOfHouses_37 hl (k := 3) rfl rfl (by decide) rfl (fun ls hl => ?_)
  refine lv_goto (tgt := 4) hx hb dX8_oddsOfHouses_40 (by decide) ?_
  exact IH4 (x1, z10, x3 + 1, σ) hf _ _ _ h (lv_sub hl [2, 3, 1, 0] rfl)
def b_X8_oddsOfHouses_4   (rec4 : Int32 × Int32 × Int32 × St → Option (Int32 × St)) (x1 : Int32) (x2 : Int32) (x3 : Int32) (σ : St) : Option (Int32 × St) := if (σ.1 0 4) ≤ x3 then some (x2, σ) else rd (σ.1 4) 8 x3 (fun v2 => bd (f_X8_has x1 v2 σ) (fun r5 σ3 => if r5 = 0 then f_X8_oddsOfHouses_35 rec4 x1 x3 x2 0 σ3 else bd (f_X8_oddsOf x3 σ3) (fun r9 σ7 => f_X8_oddsOfHouses_35 rec4 x1 x3 x2 r9 σ7)))
def f_X8_oddsOfHouses_4   (x1 : Int32) (x2 : Int32) (x3 : Int32) (σ : St) : Option (Int32 × St) := lp (fun (rec4 : Int32 × Int32 × Int32 × St → Option (Int32 × St)) (q : Int32 × Int32 × Int32 × St) => b_X8_oddsOfHouses_4   rec4 (q.1) (q.2.1) (q.2.2.1) (q.2.2.2)) 100000 (x1, x2, x3, σ)
set_option maxHeartbeats 4000000 in
theorem t_X8_oddsOfHouses_4 (C : Cx p s m args meth c cX8_oddsOfHouses 4 RX8 D (tyG G)) (hr : meth.sig.returnType = (some .int)) {o : Int32 × St}   : ∀ (x1 : Int32) (x2 : Int32) (x3 : Int32) (σ : St) (H : Heap) (locs : List Loc) (ls : Array Slot), Hs D A s.heap (wM G σ) H locs → lv_has ls 4 [(0, .ref (G.1 0)), (1, .int x1), (2, .int x2), (3, .int x3)] → f_X8_oddsOfHouses_4   x1 x2 x3 σ = some o → W p l e ({ frames := 5, cells := 0, slots := 0, locals := 121 } : Room) s m args below meth c H locs 0 0 (MQ below (QI D (tyG G) (wM G) A o) args s 0 0 A) (F0 m 4 ls []) := by
  intro x1 x2 x3 σ H locs ls h hl hf
  refine lp_el (P := fun q : Int32 × Int32 × Int32 × St => ∀ (H : Heap) (locs : List Loc) (ls : Array Slot), Hs D A s.heap (wM G (q.2.2.2)) H locs → lv_has ls 4 [(0, .ref (G.1 0)), (1, .int (q.1)), (2, .int (q.2.1)), (3, .int (q.2.2.1))] → W p l e ({ frames := 5, cells := 0, slots := 0, locals := 121 } : Room) s m args below meth c H locs 0 0 (MQ below (QI D (tyG G) (wM G) A o) args s 0 0 A) (F0 m 4 ls [])) (fun rec4 q IH4 hf => ?_) _ (x1, x2, x3, σ) hf H locs ls h hl
  obtain ⟨x1, x2, x3, σ⟩ := q
  intro H locs ls h hl
  have hl : lv_has ls 4 [(0, .ref (G.1 0)), (1, .int x1), (2, .int x2), (3, .int x3)] := hl
  have h : Hs D A s.heap (wM G σ) H locs := h
  have hf : b_X8_oddsOfHouses_4   rec4 x1 x2 x3 σ = some o := hf
  unfold b_X8_oddsOfHouses_4 at hf
  have hx := C.1
  have hb := C.2.1
  refine lv_iload_n hx hb dX8_oddsOfHouses_4 rfl (lv_at hl 3 rfl) ?_
  refine lv_aload_n hx hb dX8_oddsOfHouses_5 rfl (lv_at hl 0 rfl) ?_
  refine gf_X8_116 C h dX8_oddsOfHouses_6 ?_
  refine lv_icmp_ge (tgt := 43) hx hb dX8_oddsOfHouses_9 (by decide) (fun c1 => ?_) (fun c1 => ?_)
  · have hf := ifT c1 hf
    refine lv_iload_n hx hb dX8_oddsOfHouses_43 rfl (lv_at hl 2 rfl) ?_
    exact x_iret C hr h hf dX8_oddsOfHouses_44
  · have hf := ifF c1 hf
    refine lv_iload_n hx hb dX8_oddsOfHouses_12 rfl (lv_at hl 2 rfl) ?_
    refine lv_iload_n hx hb dX8_oddsOfHouses_13 rfl (lv_at hl 1 rfl) ?_
    refine lv_aload_n hx hb dX8_oddsOfHouses_14 rfl (lv_at hl 0 rfl) ?_
    refine gf_X8_19 C h dX8_oddsOfHouses_15 ?_
    refine lv_iload_n hx hb dX8_oddsOfHouses_18 rfl (lv_at hl 3 rfl) ?_
    refine rd_el hf (fun v2 hinv2 hv2 hf => ?_)
    refine x_iald C h 4 1 (by decide) (aM_4 G _ _) rfl hinv2 hv2 dX8_oddsOfHouses_19 ?_
    refine bd_el hf (fun r5 σ3 ho4 hf => ?_)
    refine x_goi h (x_runS (As := [.int x1, .int v2]) (rest := [.int x2]) C h (c_X8_has l D G x1 v2 σ (r5, σ3) ho4 _) lk_X8_287 rfl ⟨rfl, rfl, Nat.le_of_ble_eq_true rfl, Nat.le_of_ble_eq_true rfl⟩ hl.1 rfl (Nat.le_of_ble_eq_true rfl) dX8_oddsOfHouses_20) (fun H locs h => ?_)
    refine lv_if_eq (tgt := 34) hx hb dX8_oddsOfHouses_23 (by decide) (fun c6 => ?_) (fun c6 => ?_)
    · have hf := ifT c6 hf
      refine lv_iconst (v := 0) hx hb dX8_oddsOfHouses_34 (by decide) ?_
      exact t_X8_oddsOfHouses_35 C hr IH4 x1 x3 x2 0 σ3 _ _ _ h (lv_sub hl [0, 1, 3] rfl) hf
    · have hf := ifF c6 hf
      refine lv_aload_n hx hb dX8_oddsOfHouses_26 rfl (lv_at hl 0 rfl) ?_
      refine lv_iload_n hx hb dX8_oddsOfHouses_27 rfl (lv_at hl 3 rfl) ?_
      refine bd_el hf (fun r9 σ7 ho8 hf => ?_)
      refine x_goi h (x_runV (As := [.int x3]) (rest := [.int x2]) C h (c_X8_oddsOf l D G x3 σ3 (r9, σ7) ho8 _) lk_X8_284 rfl ⟨rfl, rfl, Nat.le_of_ble_eq_true rfl, Nat.le_of_ble_eq_true rfl⟩ (x_rcv C h 0 (by decide) (oM G _ _) rfl) hl.1 rfl (Nat.le_of_ble_eq_true rfl) dX8_oddsOfHouses_28) (fun H locs h => ?_)
      refine lv_goto (tgt := 35) hx hb dX8_oddsOfHouses_31 (by decide) ?_
      exact t_X8_oddsOfHouses_35 C hr IH4 x1 x3 x2 r9 σ7 _ _ _ h (lv_sub hl [0, 1, 3] rfl) hf
def f_X8_oddsOfHouses  (x1 : Int32) (σ : St) : Option (Int32 × St) := f_X8_oddsOfHouses_4 x1 0 0 σ
set_option maxHeartbeats 4000000 in
theorem c_X8_oddsOfHouses (l : Launch) (D : va_G) (G : Geo)   (x1 : Int32) (σ : St) (o : Int32 × St) (hf : f_X8_oddsOfHouses  x1 σ = some o) : CI l D (tyG G) (wM G) yX8_oddsOfHouses cX8_oddsOfHouses 4 ((some .int)) ({ frames := 5, cells := 0, slots := 0, locals := 121 }) [.ref (G.1 0), .int x1] σ o := by
  refine met_of (Qc := fun A => QI D (tyG G) (wM G) A o) pn_X8 (Nat.le_of_ble_eq_true rfl) (fun p e s m below meth c A ls C hr h hl => ?_)
  have C : Cx p s m _ meth c cX8_oddsOfHouses 4 RX8 D (tyG G) := C
  have hl : lv_has ls 4 [(0, .ref (G.1 0)), (1, .int x1)] := hl
  unfold f_X8_oddsOfHouses at hf
  have hx := C.1
  have hb := C.2.1
  refine lv_iconst (v := 0) hx hb dX8_oddsOfHouses_0 (by decide) ?_
  refine lv_istore_n (lv' := [(2, .int 0), (0, .ref (G.1 0)), (1, .int x1)]) hx hb dX8_oddsOfHouses_1 rfl hl (by decide) rfl (fun ls hl => ?_)
  refine lv_iconst (v := 0) hx hb dX8_oddsOfHouses_2 (by decide) ?_
  refine lv_istore_n (lv' := [(3, .int 0), (2, .int 0), (0, .ref (G.1 0)), (1, .int x1)]) hx hb dX8_oddsOfHouses_3 rfl hl (by decide) rfl (fun ls hl => ?_)
  exact t_X8_oddsOfHouses_4 C hr x1 0 0 σ _ _ _ h (lv_sub hl [2, 3, 1, 0] rfl) hf
def f_X8_together  (x1 : Int32) (σ : St) : Option (Int32 × St) := bd (f_X8_in x1.toInt64 0 (((1 <<< ((σ.1 0 0) &&& 31)) - 1 : Int32).toInt64) σ) (fun r3 σ1 => if r3 = 0 then some ((-1000000001), σ1) else bd (f_X8_oddsOfHouses x1 σ1) (fun r7 σ5 => some (r7, σ5)))
set_option maxHeartbeats 4000000 in
theorem c_X8_together (l : Launch) (D : va_G) (G : Geo)   (x1 : Int32) (σ : St) (o : Int32 × St) (hf : f_X8_together  x1 σ = some o) : CI l D (tyG G) (wM G) yX8_together cX8_together 2 ((some .int)) ({ frames := 6, cells := 0, slots := 0, locals := 144 }) [.ref (G.1 0), .int x1] σ o := by
  refine met_of (Qc := fun A => QI D (tyG G) (wM G) A o) pn_X8 (Nat.le_of_ble_eq_true rfl) (fun p e s m below meth c A ls C hr h hl => ?_)
  have C : Cx p s m _ meth c cX8_together 2 RX8 D (tyG G) := C
  have hl : lv_has ls 2 [(0, .ref (G.1 0)), (1, .int x1)] := hl
  unfold f_X8_together at hf
  have hx := C.1
  have hb := C.2.1
  refine lv_iload_n hx hb dX8_together_0 rfl (lv_at hl 1 rfl) ?_
  refine lv_i2l (v := x1.toInt64) hx hb dX8_together_1 rfl ?_
  refine lv_lconst (v := 0) hx hb dX8_together_2 (by decide) ?_
  refine lv_iconst (v := 1) hx hb dX8_together_3 (by decide) ?_
  refine lv_aload_n hx hb dX8_together_4 rfl (lv_at hl 0 rfl) ?_
  refine gf_X8_109 C h dX8_together_5 ?_
  refine lv_ishl hx hb dX8_together_8 ?_
  refine lv_iconst (v := 1) hx hb dX8_together_9 (by decide) ?_
  refine lv_isub hx hb dX8_together_10 ?_
  refine lv_i2l (v := ((1 <<< ((σ.1 0 0) &&& 31)) - 1 : Int32).toInt64) hx hb dX8_together_11 rfl ?_
  refine bd_el hf (fun r3 σ1 ho2 hf => ?_)
  refine x_goi h (x_runS (As := [.long x1.toInt64, .long 0, .long (((1 <<< ((σ.1 0 0) &&& 31)) - 1 : Int32).toInt64)]) (rest := []) C h (c_X8_in l D G x1.toInt64 0 (((1 <<< ((σ.1 0 0) &&& 31)) - 1 : Int32).toInt64) σ (r3, σ1) ho2 _) lk_X8_112 rfl ⟨rfl, rfl, Nat.le_of_ble_eq_true rfl, Nat.le_of_ble_eq_true rfl⟩ hl.1 rfl (Nat.le_of_ble_eq_true rfl) dX8_together_12) (fun H locs h => ?_)
  refine lv_if_eq (tgt := 26) hx hb dX8_together_15 (by decide) (fun c4 => ?_) (fun c4 => ?_)
  · have hf := ifT c4 hf
    refine lv_ldc (v := (-1000000001)) hx hb C.2.2.2.1 (C.2.2.2.2.1 _ q434) dX8_together_26 ?_
    exact x_iret C hr h hf dX8_together_28
  · have hf := ifF c4 hf
    refine lv_aload_n hx hb dX8_together_18 rfl (lv_at hl 0 rfl) ?_
    refine lv_iload_n hx hb dX8_together_19 rfl (lv_at hl 1 rfl) ?_
    refine bd_el hf (fun r7 σ5 ho6 hf => ?_)
    refine x_goi h (x_runV (As := [.int x1]) (rest := []) C h (c_X8_oddsOfHouses l D G x1 σ1 (r7, σ5) ho6 _) lk_X8_291 rfl ⟨rfl, rfl, Nat.le_of_ble_eq_true rfl, Nat.le_of_ble_eq_true rfl⟩ (x_rcv C h 0 (by decide) (oM G _ _) rfl) hl.1 rfl (Nat.le_of_ble_eq_true rfl) dX8_together_20) (fun H locs h => ?_)
    refine lv_goto (tgt := 28) hx hb dX8_together_23 (by decide) ?_
    exact x_iret C hr h hf dX8_together_28
def f_X8_shiftHouse_35  (rec2 : Int32 × Int32 × Int32 × St → Option (St)) (x1 : Int32) (x2 : Int32) (x3 : Int32) (y1 : Int32) (y2 : Int32) (σ : St) : Option (St) := ck (inb y1 8) (nm (sI σ 8 (y1 : Int32).toNatClampNeg y2) (fun σ6 => rec2 (x1, x2, x3 + 1, σ6)))
set_option maxHeartbeats 4000000 in
theorem t_X8_shiftHouse_35 (C : Cx p s m args meth c cX8_shiftHouse 4 RX8 D (tyG G)) (hr : meth.sig.returnType = none) {o : St}  {rec2 : Int32 × Int32 × Int32 × St → Option (St)} (IH2 : ∀ q, rec2 q = some o → ∀ (H : Heap) (locs : List Loc) (ls : Array Slot), Hs D A s.heap (wM G (q.2.2.2)) H locs → lv_has ls 4 [(0, .ref (G.1 0)), (1, .int (q.1)), (2, .int (q.2.1)), (3, .int (q.2.2.1))] → W p l e ({ frames := 0, cells := 0, slots := 0, locals := 0 } : Room) s m args below meth c H locs 0 0 (MQ below (QV D (tyG G) (wM G) A o) args s 0 0 A) (F0 m 2 ls [])) : ∀ (x1 : Int32) (x2 : Int32) (x3 : Int32) (y1 : Int32) (y2 : Int32) (σ : St) (H : Heap) (locs : List Loc) (ls : Array Slot), Hs D A s.heap (wM G σ) H locs → lv_has ls 4 [(0, .ref (G.1 0)), (1, .int x1), (2, .int x2), (3, .int x3)] → f_X8_shiftHouse_35  rec2 x1 x2 x3 y1 y2 σ = some o → W p l e ({ frames := 0, cells := 0, slots := 0, locals := 0 } : Room) s m args below meth c H locs 0 0 (MQ below (QV D (tyG G) (wM G) A o) args s 0 0 A) (F0 m 35 ls [.int y2, .int y1, .ref (G.1 8)]) := by
  intro x1 x2 x3 y1 y2 σ H locs ls h hl hf
  unfold f_X8_shiftHouse_35 at hf
  have hx := C.1
  have hb := C.2.1
  refine ckb_el hf (fun hin5 hf => ?_)
  refine nm_el hf (fun σ6 hσ6 hf => ?_)
  refine x_iast C h 8 1 (by decide) (fun f => aM_8 G f _) rfl hin5 dX8_shiftHouse_35 hσ6 (fun H locs h => ?_)
  refine lv_iinc (v := x3 + 1) (lv' := [(3, .int (x3 + 1)), (0, .ref (G.1 0)), (1, .int x1), (2, .int x2)]) hx hb dX8_shiftHouse_36 hl (k := 3) rfl rfl (by decide) rfl (fun ls hl => ?_)
  refine lv_goto (tgt := 2) hx hb dX8_shiftHouse_39 (by decide) ?_
  exact IH2 (x1, x2, x3 + 1, σ6) hf _ _ _ h (lv_sub hl [1, 2, 3, 0] rfl)
def b_X8_shiftHouse_2   (rec2 : Int32 × Int32 × Int32 × St → Option (St)) (x1 : Int32) (x2 : Int32) (x3 : Int32) (σ : St) : Option (St) := if (σ.1 0 4) ≤ x3 then some σ else rd (σ.1 4) 8 x3 (fun v2 => if v2 = x1 then f_X8_shiftHouse_35 rec2 x1 x2 x3 x3 x2 σ else rd (σ.1 8) 8 x3 (fun v4 => f_X8_shiftHouse_35 rec2 x1 x2 x3 x3 v4 σ))
def f_X8_shiftHouse_2   (x1 : Int32) (x2 : Int32) (x3 : Int32) (σ : St) : Option (St) := lp (fun (rec2 : Int32 × Int32 × Int32 × St → Option (St)) (q : Int32 × Int32 × Int32 × St) => b_X8_shiftHouse_2   rec2 (q.1) (q.2.1) (q.2.2.1) (q.2.2.2)) 100000 (x1, x2, x3, σ)
set_option maxHeartbeats 4000000 in
theorem t_X8_shiftHouse_2 (C : Cx p s m args meth c cX8_shiftHouse 4 RX8 D (tyG G)) (hr : meth.sig.returnType = none) {o : St}   : ∀ (x1 : Int32) (x2 : Int32) (x3 : Int32) (σ : St) (H : Heap) (locs : List Loc) (ls : Array Slot), Hs D A s.heap (wM G σ) H locs → lv_has ls 4 [(0, .ref (G.1 0)), (1, .int x1), (2, .int x2), (3, .int x3)] → f_X8_shiftHouse_2   x1 x2 x3 σ = some o → W p l e ({ frames := 0, cells := 0, slots := 0, locals := 0 } : Room) s m args below meth c H locs 0 0 (MQ below (QV D (tyG G) (wM G) A o) args s 0 0 A) (F0 m 2 ls []) := by
  intro x1 x2 x3 σ H locs ls h hl hf
  refine lp_el (P := fun q : Int32 × Int32 × Int32 × St => ∀ (H : Heap) (locs : List Loc) (ls : Array Slot), Hs D A s.heap (wM G (q.2.2.2)) H locs → lv_has ls 4 [(0, .ref (G.1 0)), (1, .int (q.1)), (2, .int (q.2.1)), (3, .int (q.2.2.1))] → W p l e ({ frames := 0, cells := 0, slots := 0, locals := 0 } : Room) s m args below meth c H locs 0 0 (MQ below (QV D (tyG G) (wM G) A o) args s 0 0 A) (F0 m 2 ls [])) (fun rec2 q IH2 hf => ?_) _ (x1, x2, x3, σ) hf H locs ls h hl
  obtain ⟨x1, x2, x3, σ⟩ := q
  intro H locs ls h hl
  have hl : lv_has ls 4 [(0, .ref (G.1 0)), (1, .int x1), (2, .int x2), (3, .int x3)] := hl
  have h : Hs D A s.heap (wM G σ) H locs := h
  have hf : b_X8_shiftHouse_2   rec2 x1 x2 x3 σ = some o := hf
  unfold b_X8_shiftHouse_2 at hf
  have hx := C.1
  have hb := C.2.1
  refine lv_iload_n hx hb dX8_shiftHouse_2 rfl (lv_at hl 3 rfl) ?_
  refine lv_aload_n hx hb dX8_shiftHouse_3 rfl (lv_at hl 0 rfl) ?_
  refine gf_X8_116 C h dX8_shiftHouse_4 ?_
  refine lv_icmp_ge (tgt := 42) hx hb dX8_shiftHouse_7 (by decide) (fun c1 => ?_) (fun c1 => ?_)
  · have hf := ifT c1 hf
    exact x_vret C hr h hf dX8_shiftHouse_42
  · have hf := ifF c1 hf
    refine lv_aload_n hx hb dX8_shiftHouse_10 rfl (lv_at hl 0 rfl) ?_
    refine gf_X8_31 C h dX8_shiftHouse_11 ?_
    refine lv_iload_n hx hb dX8_shiftHouse_14 rfl (lv_at hl 3 rfl) ?_
    refine lv_aload_n hx hb dX8_shiftHouse_15 rfl (lv_at hl 0 rfl) ?_
    refine gf_X8_19 C h dX8_shiftHouse_16 ?_
    refine lv_iload_n hx hb dX8_shiftHouse_19 rfl (lv_at hl 3 rfl) ?_
    refine rd_el hf (fun v2 hinv2 hv2 hf => ?_)
    refine x_iald C h 4 1 (by decide) (aM_4 G _ _) rfl hinv2 hv2 dX8_shiftHouse_20 ?_
    refine lv_iload_n hx hb dX8_shiftHouse_21 rfl (lv_at hl 1 rfl) ?_
    refine lv_icmp_ne (tgt := 29) hx hb dX8_shiftHouse_22 (by decide) (fun c3 => ?_) (fun c3 => ?_)
    · have hf := ifF c3 hf
      refine lv_aload_n hx hb dX8_shiftHouse_29 rfl (lv_at hl 0 rfl) ?_
      refine gf_X8_31 C h dX8_shiftHouse_30 ?_
      refine lv_iload_n hx hb dX8_shiftHouse_33 rfl (lv_at hl 3 rfl) ?_
      refine rd_el hf (fun v4 hinv4 hv4 hf => ?_)
      refine x_iald C h 8 1 (by decide) (aM_8 G _ _) rfl hinv4 hv4 dX8_shiftHouse_34 ?_
      exact t_X8_shiftHouse_35 C hr IH2 x1 x2 x3 x3 v4 σ _ _ _ h (lv_sub hl [0, 1, 2, 3] rfl) hf
    · have hf := ifT c3 hf
      refine lv_iload_n hx hb dX8_shiftHouse_25 rfl (lv_at hl 2 rfl) ?_
      refine lv_goto (tgt := 35) hx hb dX8_shiftHouse_26 (by decide) ?_
      exact t_X8_shiftHouse_35 C hr IH2 x1 x2 x3 x3 x2 σ _ _ _ h (lv_sub hl [0, 1, 2, 3] rfl) hf
def f_X8_shiftHouse  (x1 : Int32) (x2 : Int32) (σ : St) : Option (St) := f_X8_shiftHouse_2 x1 x2 0 σ
set_option maxHeartbeats 4000000 in
theorem c_X8_shiftHouse (l : Launch) (D : va_G) (G : Geo)   (x1 : Int32) (x2 : Int32) (σ : St) (o : St) (hf : f_X8_shiftHouse  x1 x2 σ = some o) : CV l D (tyG G) (wM G) yX8_shiftHouse cX8_shiftHouse 4 none ({ frames := 0, cells := 0, slots := 0, locals := 0 }) [.ref (G.1 0), .int x1, .int x2] σ o := by
  refine met_of (Qc := fun A => QV D (tyG G) (wM G) A o) pn_X8 (Nat.le_of_ble_eq_true rfl) (fun p e s m below meth c A ls C hr h hl => ?_)
  have C : Cx p s m _ meth c cX8_shiftHouse 4 RX8 D (tyG G) := C
  have hl : lv_has ls 4 [(0, .ref (G.1 0)), (1, .int x1), (2, .int x2)] := hl
  unfold f_X8_shiftHouse at hf
  have hx := C.1
  have hb := C.2.1
  refine lv_iconst (v := 0) hx hb dX8_shiftHouse_0 (by decide) ?_
  refine lv_istore_n (lv' := [(3, .int 0), (0, .ref (G.1 0)), (1, .int x1), (2, .int x2)]) hx hb dX8_shiftHouse_1 rfl hl (by decide) rfl (fun ls hl => ?_)
  exact t_X8_shiftHouse_2 C hr x1 x2 0 σ _ _ _ h (lv_sub hl [1, 2, 3, 0] rfl) hf
def b_X8_bestShift_156   (rec156 : Int32 × Int32 × St → Option (Int32 × St)) (x2 : Int32) (x5 : Int32) (σ : St) : Option (Int32 × St) := if (σ.1 0 4) ≤ x5 then some (x2, σ) else rd (σ.1 22) 8 x5 (fun v17 => ck (inb x5 8) (nm (sI σ 8 (x5 : Int32).toNatClampNeg v17) (fun σ19 => rec156 (x2, x5 + 1, σ19))))
def f_X8_bestShift_156   (x2 : Int32) (x5 : Int32) (σ : St) : Option (Int32 × St) := lp (fun (rec156 : Int32 × Int32 × St → Option (Int32 × St)) (q : Int32 × Int32 × St) => b_X8_bestShift_156   rec156 (q.1) (q.2.1) (q.2.2)) 100000 (x2, x5, σ)
set_option maxHeartbeats 4000000 in
theorem t_X8_bestShift_156 (C : Cx p s m args meth c cX8_bestShift 10 RX8 D (tyG G)) (hr : meth.sig.returnType = (some .int)) {o : Int32 × St}   : ∀ (x2 : Int32) (x5 : Int32) (σ : St) (H : Heap) (locs : List Loc) (ls : Array Slot), Hs D A s.heap (wM G σ) H locs → lv_has ls 10 [(0, .ref (G.1 0)), (2, .int x2), (5, .int x5)] → f_X8_bestShift_156   x2 x5 σ = some o → W p l e ({ frames := 6, cells := 0, slots := 0, locals := 144 } : Room) s m args below meth c H locs 0 0 (MQ below (QI D (tyG G) (wM G) A o) args s 0 0 A) (F0 m 156 ls []) := by
  intro x2 x5 σ H locs ls h hl hf
  refine lp_el (P := fun q : Int32 × Int32 × St => ∀ (H : Heap) (locs : List Loc) (ls : Array Slot), Hs D A s.heap (wM G (q.2.2)) H locs → lv_has ls 10 [(0, .ref (G.1 0)), (2, .int (q.1)), (5, .int (q.2.1))] → W p l e ({ frames := 6, cells := 0, slots := 0, locals := 144 } : Room) s m args below meth c H locs 0 0 (MQ below (QI D (tyG G) (wM G) A o) args s 0 0 A) (F0 m 156 ls [])) (fun rec156 q IH156 hf => ?_) _ (x2, x5, σ) hf H locs ls h hl
  obtain ⟨x2, x5, σ⟩ := q
  intro H locs ls h hl
  have hl : lv_has ls 10 [(0, .ref (G.1 0)), (2, .int x2), (5, .int x5)] := hl
  have h : Hs D A s.heap (wM G σ) H locs := h
  have hf : b_X8_bestShift_156   rec156 x2 x5 σ = some o := hf
  unfold b_X8_bestShift_156 at hf
  have hx := C.1
  have hb := C.2.1
  refine lv_iload hx hb dX8_bestShift_156 (lv_at hl 2 rfl) ?_
  refine lv_aload_n hx hb dX8_bestShift_158 rfl (lv_at hl 0 rfl) ?_
  refine gf_X8_116 C h dX8_bestShift_159 ?_
  refine lv_icmp_ge (tgt := 185) hx hb dX8_bestShift_162 (by decide) (fun c16 => ?_) (fun c16 => ?_)
  · have hf := ifT c16 hf
    refine lv_iload_n hx hb dX8_bestShift_185 rfl (lv_at hl 1 rfl) ?_
    exact x_iret C hr h hf dX8_bestShift_186
  · have hf := ifF c16 hf
    refine lv_aload_n hx hb dX8_bestShift_165 rfl (lv_at hl 0 rfl) ?_
    refine gf_X8_31 C h dX8_bestShift_166 ?_
    refine lv_iload hx hb dX8_bestShift_169 (lv_at hl 2 rfl) ?_
    refine lv_aload_n hx hb dX8_bestShift_171 rfl (lv_at hl 0 rfl) ?_
    refine gf_X8_86 C h dX8_bestShift_172 ?_
    refine lv_iload hx hb dX8_bestShift_175 (lv_at hl 2 rfl) ?_
    refine rd_el hf (fun v17 hinv17 hv17 hf => ?_)
    refine x_iald C h 22 1 (by decide) (aM_22 G _ _) rfl hinv17 hv17 dX8_bestShift_177 ?_
    refine ckb_el hf (fun hin18 hf => ?_)
    refine nm_el hf (fun σ19 hσ19 hf => ?_)
    refine x_iast C h 8 1 (by decide) (fun f => aM_8 G f _) rfl hin18 dX8_bestShift_178 hσ19 (fun H locs h => ?_)
    refine lv_iinc (v := x5 + 1) (lv' := [(5, .int (x5 + 1)), (0, .ref (G.1 0)), (2, .int x2)]) hx hb dX8_bestShift_179 hl (k := 2) rfl rfl (by decide) rfl (fun ls hl => ?_)
    refine lv_goto (tgt := 156) hx hb dX8_bestShift_182 (by decide) ?_
    exact IH156 (x2, x5 + 1, σ19) hf _ _ _ h (lv_sub hl [1, 2, 0] rfl)
def f_X8_bestShift_146  (rec39 : Int32 × Int32 × Int64 × Int32 × St → Option (Int32 × St)) (x1 : Int32) (x2 : Int32) (x5 : Int32) (y0 : Int64) (σ : St) : Option (Int32 × St) := rec39 (x1, x2, y0, x5 + 10, σ)
set_option maxHeartbeats 4000000 in
theorem t_X8_bestShift_146 (C : Cx p s m args meth c cX8_bestShift 10 RX8 D (tyG G)) (hr : meth.sig.returnType = (some .int)) {o : Int32 × St}  {rec39 : Int32 × Int32 × Int64 × Int32 × St → Option (Int32 × St)} (IH39 : ∀ q, rec39 q = some o → ∀ (H : Heap) (locs : List Loc) (ls : Array Slot), Hs D A s.heap (wM G (q.2.2.2.2)) H locs → lv_has ls 10 [(0, .ref (G.1 0)), (1, .int (q.1)), (2, .int (q.2.1)), (3, .long (q.2.2.1)), (5, .int (q.2.2.2.1))] → W p l e ({ frames := 6, cells := 0, slots := 0, locals := 144 } : Room) s m args below meth c H locs 0 0 (MQ below (QI D (tyG G) (wM G) A o) args s 0 0 A) (F0 m 39 ls [])) : ∀ (x1 : Int32) (x2 : Int32) (x5 : Int32) (y0 : Int64) (σ : St) (H : Heap) (locs : List Loc) (ls : Array Slot), Hs D A s.heap (wM G σ) H locs → lv_has ls 10 [(0, .ref (G.1 0)), (1, .int x1), (2, .int x2), (5, .int x5)] → f_X8_bestShift_146  rec39 x1 x2 x5 y0 σ = some o → W p l e ({ frames := 6, cells := 0, slots := 0, locals := 144 } : Room) s m args below meth c H locs 0 0 (MQ below (QI D (tyG G) (wM G) A o) args s 0 0 A) (F0 m 146 ls [.long y0]) := by
  intro x1 x2 x5 y0 σ H locs ls h hl hf
  unfold f_X8_bestShift_146 at hf
  have hx := C.1
  have hb := C.2.1
  refine lv_lstore_n (lv' := [(3, .long y0), (0, .ref (G.1 0)), (1, .int x1), (2, .int x2), (5, .int x5)]) hx hb dX8_bestShift_146 rfl hl (by decide) rfl (fun ls hl => ?_)
  refine lv_iinc (v := x5 + 10) (lv' := [(5, .int (x5 + 10)), (3, .long y0), (0, .ref (G.1 0)), (1, .int x1), (2, .int x2)]) hx hb dX8_bestShift_147 hl (k := 4) rfl rfl (by decide) rfl (fun ls hl => ?_)
  refine lv_goto (tgt := 39) hx hb dX8_bestShift_150 (by decide) ?_
  exact IH39 (x1, x2, y0, x5 + 10, σ) hf _ _ _ h (lv_sub hl [2, 3, 4, 1, 0] rfl)
def f_X8_bestShift_132  (rec39 : Int32 × Int32 × Int64 × Int32 × St → Option (Int32 × St)) (x1 : Int32) (x2 : Int32) (x3 : Int64) (x5 : Int32) (x7 : Int64) (x9 : Int32) (y1 : Int32) (σ : St) : Option (Int32 × St) := nm (sI σ 0 41 y1) (fun σ22 => if x9 = 0 then f_X8_bestShift_146 rec39 x1 x2 x5 x3 σ22 else f_X8_bestShift_146 rec39 x1 x2 x5 x7 σ22)
set_option maxHeartbeats 4000000 in
theorem t_X8_bestShift_132 (C : Cx p s m args meth c cX8_bestShift 10 RX8 D (tyG G)) (hr : meth.sig.returnType = (some .int)) {o : Int32 × St}  {rec39 : Int32 × Int32 × Int64 × Int32 × St → Option (Int32 × St)} (IH39 : ∀ q, rec39 q = some o → ∀ (H : Heap) (locs : List Loc) (ls : Array Slot), Hs D A s.heap (wM G (q.2.2.2.2)) H locs → lv_has ls 10 [(0, .ref (G.1 0)), (1, .int (q.1)), (2, .int (q.2.1)), (3, .long (q.2.2.1)), (5, .int (q.2.2.2.1))] → W p l e ({ frames := 6, cells := 0, slots := 0, locals := 144 } : Room) s m args below meth c H locs 0 0 (MQ below (QI D (tyG G) (wM G) A o) args s 0 0 A) (F0 m 39 ls [])) : ∀ (x1 : Int32) (x2 : Int32) (x3 : Int64) (x5 : Int32) (x7 : Int64) (x9 : Int32) (y1 : Int32) (σ : St) (H : Heap) (locs : List Loc) (ls : Array Slot), Hs D A s.heap (wM G σ) H locs → lv_has ls 10 [(0, .ref (G.1 0)), (1, .int x1), (2, .int x2), (3, .long x3), (5, .int x5), (7, .long x7), (9, .int x9)] → f_X8_bestShift_132  rec39 x1 x2 x3 x5 x7 x9 y1 σ = some o → W p l e ({ frames := 6, cells := 0, slots := 0, locals := 144 } : Room) s m args below meth c H locs 0 0 (MQ below (QI D (tyG G) (wM G) A o) args s 0 0 A) (F0 m 132 ls [.int y1, .ref (G.1 0)]) := by
  intro x1 x2 x3 x5 x7 x9 y1 σ H locs ls h hl hf
  unfold f_X8_bestShift_132 at hf
  have hx := C.1
  have hb := C.2.1
  refine nm_el hf (fun σ22 hσ22 hf => ?_)
  refine pf_X8_298 C h dX8_bestShift_132 hσ22 (fun H locs h => ?_)
  refine lv_iload hx hb dX8_bestShift_135 (lv_at hl 6 rfl) ?_
  refine lv_if_eq (tgt := 145) hx hb dX8_bestShift_137 (by decide) (fun c23 => ?_) (fun c23 => ?_)
  · have hf := ifT c23 hf
    refine lv_lload_n hx hb dX8_bestShift_145 rfl (lv_at hl 3 rfl) ?_
    exact t_X8_bestShift_146 C hr IH39 x1 x2 x5 x3 σ22 _ _ _ h (lv_sub hl [0, 1, 2, 4] rfl) hf
  · have hf := ifF c23 hf
    refine lv_lload hx hb dX8_bestShift_140 (lv_at hl 5 rfl) ?_
    refine lv_goto (tgt := 146) hx hb dX8_bestShift_142 (by decide) ?_
    exact t_X8_bestShift_146 C hr IH39 x1 x2 x5 x7 σ22 _ _ _ h (lv_sub hl [0, 1, 2, 4] rfl) hf
def f_X8_bestShift_116  (rec39 : Int32 × Int32 × Int64 × Int32 × St → Option (Int32 × St)) (x1 : Int32) (x3 : Int64) (x5 : Int32) (x6 : Int32) (x7 : Int64) (x9 : Int32) (y0 : Int32) (σ : St) : Option (Int32 × St) := if x9 = 0 then f_X8_bestShift_132 rec39 x1 y0 x3 x5 x7 x9 (σ.1 0 41) σ else f_X8_bestShift_132 rec39 x1 y0 x3 x5 x7 x9 x6 σ
set_option maxHeartbeats 4000000 in
theorem t_X8_bestShift_116 (C : Cx p s m args meth c cX8_bestShift 10 RX8 D (tyG G)) (hr : meth.sig.returnType = (some .int)) {o : Int32 × St}  {rec39 : Int32 × Int32 × Int64 × Int32 × St → Option (Int32 × St)} (IH39 : ∀ q, rec39 q = some o → ∀ (H : Heap) (locs : List Loc) (ls : Array Slot), Hs D A s.heap (wM G (q.2.2.2.2)) H locs → lv_has ls 10 [(0, .ref (G.1 0)), (1, .int (q.1)), (2, .int (q.2.1)), (3, .long (q.2.2.1)), (5, .int (q.2.2.2.1))] → W p l e ({ frames := 6, cells := 0, slots := 0, locals := 144 } : Room) s m args below meth c H locs 0 0 (MQ below (QI D (tyG G) (wM G) A o) args s 0 0 A) (F0 m 39 ls [])) : ∀ (x1 : Int32) (x3 : Int64) (x5 : Int32) (x6 : Int32) (x7 : Int64) (x9 : Int32) (y0 : Int32) (σ : St) (H : Heap) (locs : List Loc) (ls : Array Slot), Hs D A s.heap (wM G σ) H locs → lv_has ls 10 [(0, .ref (G.1 0)), (1, .int x1), (3, .long x3), (5, .int x5), (6, .int x6), (7, .long x7), (9, .int x9)] → f_X8_bestShift_116  rec39 x1 x3 x5 x6 x7 x9 y0 σ = some o → W p l e ({ frames := 6, cells := 0, slots := 0, locals := 144 } : Room) s m args below meth c H locs 0 0 (MQ below (QI D (tyG G) (wM G) A o) args s 0 0 A) (F0 m 116 ls [.int y0]) := by
  intro x1 x3 x5 x6 x7 x9 y0 σ H locs ls h hl hf
  unfold f_X8_bestShift_116 at hf
  have hx := C.1
  have hb := C.2.1
  refine lv_istore_n (lv' := [(2, .int y0), (0, .ref (G.1 0)), (1, .int x1), (3, .long x3), (5, .int x5), (6, .int x6), (7, .long x7), (9, .int x9)]) hx hb dX8_bestShift_116 rfl hl (by decide) rfl (fun ls hl => ?_)
  refine lv_aload_n hx hb dX8_bestShift_117 rfl (lv_at hl 1 rfl) ?_
  refine lv_iload hx hb dX8_bestShift_118 (lv_at hl 7 rfl) ?_
  refine lv_if_eq (tgt := 128) hx hb dX8_bestShift_120 (by decide) (fun c21 => ?_) (fun c21 => ?_)
  · have hf := ifT c21 hf
    refine lv_aload_n hx hb dX8_bestShift_128 rfl (lv_at hl 1 rfl) ?_
    refine gf_X8_298 C h dX8_bestShift_129 ?_
    exact t_X8_bestShift_132 C hr IH39 x1 y0 x3 x5 x7 x9 (σ.1 0 41) σ _ _ _ h (lv_sub hl [1, 2, 0, 3, 4, 6, 7] rfl) hf
  · have hf := ifF c21 hf
    refine lv_iload hx hb dX8_bestShift_123 (lv_at hl 5 rfl) ?_
    refine lv_goto (tgt := 132) hx hb dX8_bestShift_125 (by decide) ?_
    exact t_X8_bestShift_132 C hr IH39 x1 y0 x3 x5 x7 x9 x6 σ _ _ _ h (lv_sub hl [1, 2, 0, 3, 4, 6, 7] rfl) hf
def f_X8_bestShift_103  (rec39 : Int32 × Int32 × Int64 × Int32 × St → Option (Int32 × St)) (x1 : Int32) (x2 : Int32) (x3 : Int64) (x5 : Int32) (x6 : Int32) (x7 : Int64) (y0 : Int32) (σ : St) : Option (Int32 × St) := if y0 = 0 then f_X8_bestShift_116 rec39 x1 x3 x5 x6 x7 y0 x2 σ else f_X8_bestShift_116 rec39 x1 x3 x5 x6 x7 y0 x5 σ
set_option maxHeartbeats 4000000 in
theorem t_X8_bestShift_103 (C : Cx p s m args meth c cX8_bestShift 10 RX8 D (tyG G)) (hr : meth.sig.returnType = (some .int)) {o : Int32 × St}  {rec39 : Int32 × Int32 × Int64 × Int32 × St → Option (Int32 × St)} (IH39 : ∀ q, rec39 q = some o → ∀ (H : Heap) (locs : List Loc) (ls : Array Slot), Hs D A s.heap (wM G (q.2.2.2.2)) H locs → lv_has ls 10 [(0, .ref (G.1 0)), (1, .int (q.1)), (2, .int (q.2.1)), (3, .long (q.2.2.1)), (5, .int (q.2.2.2.1))] → W p l e ({ frames := 6, cells := 0, slots := 0, locals := 144 } : Room) s m args below meth c H locs 0 0 (MQ below (QI D (tyG G) (wM G) A o) args s 0 0 A) (F0 m 39 ls [])) : ∀ (x1 : Int32) (x2 : Int32) (x3 : Int64) (x5 : Int32) (x6 : Int32) (x7 : Int64) (y0 : Int32) (σ : St) (H : Heap) (locs : List Loc) (ls : Array Slot), Hs D A s.heap (wM G σ) H locs → lv_has ls 10 [(0, .ref (G.1 0)), (1, .int x1), (2, .int x2), (3, .long x3), (5, .int x5), (6, .int x6), (7, .long x7)] → f_X8_bestShift_103  rec39 x1 x2 x3 x5 x6 x7 y0 σ = some o → W p l e ({ frames := 6, cells := 0, slots := 0, locals := 144 } : Room) s m args below meth c H locs 0 0 (MQ below (QI D (tyG G) (wM G) A o) args s 0 0 A) (F0 m 103 ls [.int y0]) := by
  intro x1 x2 x3 x5 x6 x7 y0 σ H locs ls h hl hf
  unfold f_X8_bestShift_103 at hf
  have hx := C.1
  have hb := C.2.1
  refine lv_istore (lv' := [(9, .int y0), (0, .ref (G.1 0)), (1, .int x1), (2, .int x2), (3, .long x3), (5, .int x5), (6, .int x6), (7, .long x7)]) hx hb dX8_bestShift_103 hl (by decide) rfl (fun ls hl => ?_)
  refine lv_iload hx hb dX8_bestShift_105 (lv_at hl 0 rfl) ?_
  refine lv_if_eq (tgt := 115) hx hb dX8_bestShift_107 (by decide) (fun c20 => ?_) (fun c20 => ?_)
  · have hf := ifT c20 hf
    refine lv_iload_n hx hb dX8_bestShift_115 rfl (lv_at hl 3 rfl) ?_
    exact t_X8_bestShift_116 C hr IH39 x1 x3 x5 x6 x7 y0 x2 σ _ _ _ h (lv_sub hl [1, 2, 4, 5, 6, 7, 0] rfl) hf
  · have hf := ifF c20 hf
    refine lv_iload hx hb dX8_bestShift_110 (lv_at hl 5 rfl) ?_
    refine lv_goto (tgt := 116) hx hb dX8_bestShift_112 (by decide) ?_
    exact t_X8_bestShift_116 C hr IH39 x1 x3 x5 x6 x7 y0 x5 σ _ _ _ h (lv_sub hl [1, 2, 4, 5, 6, 7, 0] rfl) hf
def f_X8_bestShift_98  (rec39 : Int32 × Int32 × Int64 × Int32 × St → Option (Int32 × St)) (x1 : Int32) (x2 : Int32) (x3 : Int64) (x5 : Int32) (x6 : Int32) (x7 : Int64) (σ : St) : Option (Int32 × St) := f_X8_bestShift_103 rec39 x1 x2 x3 x5 x6 x7 1 σ
set_option maxHeartbeats 4000000 in
theorem t_X8_bestShift_98 (C : Cx p s m args meth c cX8_bestShift 10 RX8 D (tyG G)) (hr : meth.sig.returnType = (some .int)) {o : Int32 × St}  {rec39 : Int32 × Int32 × Int64 × Int32 × St → Option (Int32 × St)} (IH39 : ∀ q, rec39 q = some o → ∀ (H : Heap) (locs : List Loc) (ls : Array Slot), Hs D A s.heap (wM G (q.2.2.2.2)) H locs → lv_has ls 10 [(0, .ref (G.1 0)), (1, .int (q.1)), (2, .int (q.2.1)), (3, .long (q.2.2.1)), (5, .int (q.2.2.2.1))] → W p l e ({ frames := 6, cells := 0, slots := 0, locals := 144 } : Room) s m args below meth c H locs 0 0 (MQ below (QI D (tyG G) (wM G) A o) args s 0 0 A) (F0 m 39 ls [])) : ∀ (x1 : Int32) (x2 : Int32) (x3 : Int64) (x5 : Int32) (x6 : Int32) (x7 : Int64) (σ : St) (H : Heap) (locs : List Loc) (ls : Array Slot), Hs D A s.heap (wM G σ) H locs → lv_has ls 10 [(0, .ref (G.1 0)), (1, .int x1), (2, .int x2), (3, .long x3), (5, .int x5), (6, .int x6), (7, .long x7)] → f_X8_bestShift_98  rec39 x1 x2 x3 x5 x6 x7 σ = some o → W p l e ({ frames := 6, cells := 0, slots := 0, locals := 144 } : Room) s m args below meth c H locs 0 0 (MQ below (QI D (tyG G) (wM G) A o) args s 0 0 A) (F0 m 98 ls []) := by
  intro x1 x2 x3 x5 x6 x7 σ H locs ls h hl hf
  unfold f_X8_bestShift_98 at hf
  have hx := C.1
  have hb := C.2.1
  refine lv_iconst (v := 1) hx hb dX8_bestShift_98 (by decide) ?_
  refine lv_goto (tgt := 103) hx hb dX8_bestShift_99 (by decide) ?_
  exact t_X8_bestShift_103 C hr IH39 x1 x2 x3 x5 x6 x7 1 σ _ _ _ h (lv_sub hl [0, 1, 2, 3, 4, 5, 6] rfl) hf
def b_X8_bestShift_39   (rec39 : Int32 × Int32 × Int64 × Int32 × St → Option (Int32 × St)) (x1 : Int32) (x2 : Int32) (x3 : Int64) (x5 : Int32) (σ : St) : Option (Int32 × St) := rd (σ.1 3) 5 x1 (fun v5 => if v5 < x5 then f_X8_bestShift_156 x2 0 σ else bv (f_X8_shiftHouse x1 x5 σ) (fun σ7 => bd (f_X8_oddsOfHouses (1 <<< (x1 &&& 31)) σ7) (fun r11 σ9 => rd (σ9.1 2) 5 x1 (fun v12 => nm (((r11.toInt64 * v12.toInt64) / 1000000000) - x5.toInt64) (fun z13 => if x2 < 0 then f_X8_bestShift_98 rec39 x1 x2 x3 x5 r11 z13 σ9 else if (lg_cmp z13 x3) ≤ 0 then f_X8_bestShift_103 rec39 x1 x2 x3 x5 r11 z13 0 σ9 else f_X8_bestShift_98 rec39 x1 x2 x3 x5 r11 z13 σ9)))))
def f_X8_bestShift_39   (x1 : Int32) (x2 : Int32) (x3 : Int64) (x5 : Int32) (σ : St) : Option (Int32 × St) := lp (fun (rec39 : Int32 × Int32 × Int64 × Int32 × St → Option (Int32 × St)) (q : Int32 × Int32 × Int64 × Int32 × St) => b_X8_bestShift_39   rec39 (q.1) (q.2.1) (q.2.2.1) (q.2.2.2.1) (q.2.2.2.2)) 100000 (x1, x2, x3, x5, σ)
set_option maxHeartbeats 4000000 in
theorem t_X8_bestShift_39 (C : Cx p s m args meth c cX8_bestShift 10 RX8 D (tyG G)) (hr : meth.sig.returnType = (some .int)) {o : Int32 × St}   : ∀ (x1 : Int32) (x2 : Int32) (x3 : Int64) (x5 : Int32) (σ : St) (H : Heap) (locs : List Loc) (ls : Array Slot), Hs D A s.heap (wM G σ) H locs → lv_has ls 10 [(0, .ref (G.1 0)), (1, .int x1), (2, .int x2), (3, .long x3), (5, .int x5)] → f_X8_bestShift_39   x1 x2 x3 x5 σ = some o → W p l e ({ frames := 6, cells := 0, slots := 0, locals := 144 } : Room) s m args below meth c H locs 0 0 (MQ below (QI D (tyG G) (wM G) A o) args s 0 0 A) (F0 m 39 ls []) := by
  intro x1 x2 x3 x5 σ H locs ls h hl hf
  refine lp_el (P := fun q : Int32 × Int32 × Int64 × Int32 × St => ∀ (H : Heap) (locs : List Loc) (ls : Array Slot), Hs D A s.heap (wM G (q.2.2.2.2)) H locs → lv_has ls 10 [(0, .ref (G.1 0)), (1, .int (q.1)), (2, .int (q.2.1)), (3, .long (q.2.2.1)), (5, .int (q.2.2.2.1))] → W p l e ({ frames := 6, cells := 0, slots := 0, locals := 144 } : Room) s m args below meth c H locs 0 0 (MQ below (QI D (tyG G) (wM G) A o) args s 0 0 A) (F0 m 39 ls [])) (fun rec39 q IH39 hf => ?_) _ (x1, x2, x3, x5, σ) hf H locs ls h hl
  obtain ⟨x1, x2, x3, x5, σ⟩ := q
  intro H locs ls h hl
  have hl : lv_has ls 10 [(0, .ref (G.1 0)), (1, .int x1), (2, .int x2), (3, .long x3), (5, .int x5)] := hl
  have h : Hs D A s.heap (wM G σ) H locs := h
  have hf : b_X8_bestShift_39   rec39 x1 x2 x3 x5 σ = some o := hf
  unfold b_X8_bestShift_39 at hf
  have hx := C.1
  have hb := C.2.1
  refine lv_iload hx hb dX8_bestShift_39 (lv_at hl 4 rfl) ?_
  refine lv_aload_n hx hb dX8_bestShift_41 rfl (lv_at hl 0 rfl) ?_
  refine gf_X8_16 C h dX8_bestShift_42 ?_
  refine lv_iload_n hx hb dX8_bestShift_45 rfl (lv_at hl 1 rfl) ?_
  refine rd_el hf (fun v5 hinv5 hv5 hf => ?_)
  refine x_iald C h 3 1 (by decide) (aM_3 G _ _) rfl hinv5 hv5 dX8_bestShift_46 ?_
  refine lv_icmp_gt (tgt := 153) hx hb dX8_bestShift_47 (by decide) (fun c6 => ?_) (fun c6 => ?_)
  · have hf := ifT c6 hf
    refine lv_iconst (v := 0) hx hb dX8_bestShift_153 (by decide) ?_
    refine lv_istore (lv' := [(5, .int 0), (0, .ref (G.1 0)), (1, .int x1), (2, .int x2), (3, .long x3)]) hx hb dX8_bestShift_154 hl (by decide) rfl (fun ls hl => ?_)
    exact t_X8_bestShift_156 C hr x2 0 σ _ _ _ h (lv_sub hl [1, 3, 0] rfl) hf
  · have hf := ifF c6 hf
    refine lv_aload_n hx hb dX8_bestShift_50 rfl (lv_at hl 0 rfl) ?_
    refine lv_iload_n hx hb dX8_bestShift_51 rfl (lv_at hl 1 rfl) ?_
    refine lv_iload hx hb dX8_bestShift_52 (lv_at hl 4 rfl) ?_
    refine bv_el hf (fun σ7 ho8 hf => ?_)
    refine x_gov h (x_runV (As := [.int x1, .int x5]) (rest := []) C h (c_X8_shiftHouse l D G x1 x5 σ σ7 ho8 _) lk_X8_294 rfl ⟨rfl, rfl, Nat.le_of_ble_eq_true rfl, Nat.le_of_ble_eq_true rfl⟩ (x_rcv C h 0 (by decide) (oM G _ _) rfl) hl.1 rfl (Nat.le_of_ble_eq_true rfl) dX8_bestShift_54) (fun H locs h => ?_)
    refine lv_aload_n hx hb dX8_bestShift_57 rfl (lv_at hl 0 rfl) ?_
    refine lv_iconst (v := 1) hx hb dX8_bestShift_58 (by decide) ?_
    refine lv_iload_n hx hb dX8_bestShift_59 rfl (lv_at hl 1 rfl) ?_
    refine lv_ishl hx hb dX8_bestShift_60 ?_
    refine bd_el hf (fun r11 σ9 ho10 hf => ?_)
    refine x_goi h (x_runV (As := [.int (1 <<< (x1 &&& 31))]) (rest := []) C h (c_X8_oddsOfHouses l D G (1 <<< (x1 &&& 31)) σ7 (r11, σ9) ho10 _) lk_X8_291 rfl ⟨rfl, rfl, Nat.le_of_ble_eq_true rfl, Nat.le_of_ble_eq_true rfl⟩ (x_rcv C h 0 (by decide) (oM G _ _) rfl) hl.1 rfl (Nat.le_of_ble_eq_true rfl) dX8_bestShift_61) (fun H locs h => ?_)
    refine lv_istore (lv' := [(6, .int r11), (0, .ref (G.1 0)), (1, .int x1), (2, .int x2), (3, .long x3), (5, .int x5)]) hx hb dX8_bestShift_64 hl (by decide) rfl (fun ls hl => ?_)
    refine lv_iload hx hb dX8_bestShift_66 (lv_at hl 0 rfl) ?_
    refine lv_i2l (v := r11.toInt64) hx hb dX8_bestShift_68 rfl ?_
    refine lv_aload_n hx hb dX8_bestShift_69 rfl (lv_at hl 1 rfl) ?_
    refine gf_X8_13 C h dX8_bestShift_70 ?_
    refine lv_iload_n hx hb dX8_bestShift_73 rfl (lv_at hl 2 rfl) ?_
    refine rd_el hf (fun v12 hinv12 hv12 hf => ?_)
    refine x_iald C h 2 1 (by decide) (aM_2 G _ _) rfl hinv12 hv12 dX8_bestShift_74 ?_
    refine lv_i2l (v := v12.toInt64) hx hb dX8_bestShift_75 rfl ?_
    refine lv_lmul hx hb dX8_bestShift_76 ?_
    refine lv_ldc2 (v := 1000000000) hx hb C.2.2.2.1 (C.2.2.2.2.1 _ q630) dX8_bestShift_77 ?_
    refine lv_ldiv hx hb dX8_bestShift_80 (by decide) ?_
    refine lv_iload hx hb dX8_bestShift_81 (lv_at hl 5 rfl) ?_
    refine lv_i2l (v := x5.toInt64) hx hb dX8_bestShift_83 rfl ?_
    refine lv_lsub hx hb dX8_bestShift_84 ?_
    refine nm_el hf (fun z13 ez13 hf => ?_)
    refine x_topl ez13 ?_
    refine lv_lstore (lv' := [(7, .long z13), (6, .int r11), (0, .ref (G.1 0)), (1, .int x1), (2, .int x2), (3, .long x3), (5, .int x5)]) hx hb dX8_bestShift_85 hl (by decide) rfl (fun ls hl => ?_)
    refine lv_iload_n hx hb dX8_bestShift_87 rfl (lv_at hl 4 rfl) ?_
    refine lv_if_lt (tgt := 98) hx hb dX8_bestShift_88 (by decide) (fun c14 => ?_) (fun c14 => ?_)
    · have hf := ifT c14 hf
      exact t_X8_bestShift_98 C hr IH39 x1 x2 x3 x5 r11 z13 σ9 _ _ _ h (lv_sub hl [2, 3, 4, 5, 6, 1, 0] rfl) hf
    · have hf := ifF c14 hf
      refine lv_lload hx hb dX8_bestShift_91 (lv_at hl 0 rfl) ?_
      refine lv_lload_n hx hb dX8_bestShift_93 rfl (lv_at hl 5 rfl) ?_
      refine W.lcmp hx hb dX8_bestShift_94 ?_
      refine lv_if_le (tgt := 102) hx hb dX8_bestShift_95 (by decide) (fun c15 => ?_) (fun c15 => ?_)
      · have hf := ifT c15 hf
        refine lv_iconst (v := 0) hx hb dX8_bestShift_102 (by decide) ?_
        exact t_X8_bestShift_103 C hr IH39 x1 x2 x3 x5 r11 z13 0 σ9 _ _ _ h (lv_sub hl [2, 3, 4, 5, 6, 1, 0] rfl) hf
      · have hf := ifF c15 hf
        exact t_X8_bestShift_98 C hr IH39 x1 x2 x3 x5 r11 z13 σ9 _ _ _ h (lv_sub hl [2, 3, 4, 5, 6, 1, 0] rfl) hf
def b_X8_bestShift_7   (rec7 : Int32 × Int32 × Int64 × Int32 × St → Option (Int32 × St)) (x1 : Int32) (x2 : Int32) (x3 : Int64) (x5 : Int32) (σ : St) : Option (Int32 × St) := if (σ.1 0 4) ≤ x5 then f_X8_bestShift_39 x1 x2 x3 0 σ else rd (σ.1 8) 8 x5 (fun v2 => ck (inb x5 8) (nm (sI σ 22 (x5 : Int32).toNatClampNeg v2) (fun σ4 => rec7 (x1, x2, x3, x5 + 1, σ4))))
def f_X8_bestShift_7   (x1 : Int32) (x2 : Int32) (x3 : Int64) (x5 : Int32) (σ : St) : Option (Int32 × St) := lp (fun (rec7 : Int32 × Int32 × Int64 × Int32 × St → Option (Int32 × St)) (q : Int32 × Int32 × Int64 × Int32 × St) => b_X8_bestShift_7   rec7 (q.1) (q.2.1) (q.2.2.1) (q.2.2.2.1) (q.2.2.2.2)) 100000 (x1, x2, x3, x5, σ)
set_option maxHeartbeats 4000000 in
theorem t_X8_bestShift_7 (C : Cx p s m args meth c cX8_bestShift 10 RX8 D (tyG G)) (hr : meth.sig.returnType = (some .int)) {o : Int32 × St}   : ∀ (x1 : Int32) (x2 : Int32) (x3 : Int64) (x5 : Int32) (σ : St) (H : Heap) (locs : List Loc) (ls : Array Slot), Hs D A s.heap (wM G σ) H locs → lv_has ls 10 [(0, .ref (G.1 0)), (1, .int x1), (2, .int x2), (3, .long x3), (5, .int x5)] → f_X8_bestShift_7   x1 x2 x3 x5 σ = some o → W p l e ({ frames := 6, cells := 0, slots := 0, locals := 144 } : Room) s m args below meth c H locs 0 0 (MQ below (QI D (tyG G) (wM G) A o) args s 0 0 A) (F0 m 7 ls []) := by
  intro x1 x2 x3 x5 σ H locs ls h hl hf
  refine lp_el (P := fun q : Int32 × Int32 × Int64 × Int32 × St => ∀ (H : Heap) (locs : List Loc) (ls : Array Slot), Hs D A s.heap (wM G (q.2.2.2.2)) H locs → lv_has ls 10 [(0, .ref (G.1 0)), (1, .int (q.1)), (2, .int (q.2.1)), (3, .long (q.2.2.1)), (5, .int (q.2.2.2.1))] → W p l e ({ frames := 6, cells := 0, slots := 0, locals := 144 } : Room) s m args below meth c H locs 0 0 (MQ below (QI D (tyG G) (wM G) A o) args s 0 0 A) (F0 m 7 ls [])) (fun rec7 q IH7 hf => ?_) _ (x1, x2, x3, x5, σ) hf H locs ls h hl
  obtain ⟨x1, x2, x3, x5, σ⟩ := q
  intro H locs ls h hl
  have hl : lv_has ls 10 [(0, .ref (G.1 0)), (1, .int x1), (2, .int x2), (3, .long x3), (5, .int x5)] := hl
  have h : Hs D A s.heap (wM G σ) H locs := h
  have hf : b_X8_bestShift_7   rec7 x1 x2 x3 x5 σ = some o := hf
  unfold b_X8_bestShift_7 at hf
  have hx := C.1
  have hb := C.2.1
  refine lv_iload hx hb dX8_bestShift_7 (lv_at hl 4 rfl) ?_
  refine lv_aload_n hx hb dX8_bestShift_9 rfl (lv_at hl 0 rfl) ?_
  refine gf_X8_116 C h dX8_bestShift_10 ?_
  refine lv_icmp_ge (tgt := 36) hx hb dX8_bestShift_13 (by decide) (fun c1 => ?_) (fun c1 => ?_)
  · have hf := ifT c1 hf
    refine lv_iconst (v := 0) hx hb dX8_bestShift_36 (by decide) ?_
    refine lv_istore (lv' := [(5, .int 0), (0, .ref (G.1 0)), (1, .int x1), (2, .int x2), (3, .long x3)]) hx hb dX8_bestShift_37 hl (by decide) rfl (fun ls hl => ?_)
    exact t_X8_bestShift_39 C hr x1 x2 x3 0 σ _ _ _ h (lv_sub hl [1, 2, 3, 4, 0] rfl) hf
  · have hf := ifF c1 hf
    refine lv_aload_n hx hb dX8_bestShift_16 rfl (lv_at hl 0 rfl) ?_
    refine gf_X8_86 C h dX8_bestShift_17 ?_
    refine lv_iload hx hb dX8_bestShift_20 (lv_at hl 4 rfl) ?_
    refine lv_aload_n hx hb dX8_bestShift_22 rfl (lv_at hl 0 rfl) ?_
    refine gf_X8_31 C h dX8_bestShift_23 ?_
    refine lv_iload hx hb dX8_bestShift_26 (lv_at hl 4 rfl) ?_
    refine rd_el hf (fun v2 hinv2 hv2 hf => ?_)
    refine x_iald C h 8 1 (by decide) (aM_8 G _ _) rfl hinv2 hv2 dX8_bestShift_28 ?_
    refine ckb_el hf (fun hin3 hf => ?_)
    refine nm_el hf (fun σ4 hσ4 hf => ?_)
    refine x_iast C h 22 1 (by decide) (fun f => aM_22 G f _) rfl hin3 dX8_bestShift_29 hσ4 (fun H locs h => ?_)
    refine lv_iinc (v := x5 + 1) (lv' := [(5, .int (x5 + 1)), (0, .ref (G.1 0)), (1, .int x1), (2, .int x2), (3, .long x3)]) hx hb dX8_bestShift_30 hl (k := 4) rfl rfl (by decide) rfl (fun ls hl => ?_)
    refine lv_goto (tgt := 7) hx hb dX8_bestShift_33 (by decide) ?_
    exact IH7 (x1, x2, x3, x5 + 1, σ4) hf _ _ _ h (lv_sub hl [1, 2, 3, 4, 0] rfl)
def f_X8_bestShift  (x1 : Int32) (σ : St) : Option (Int32 × St) := f_X8_bestShift_7 x1 ((-1)) 0 0 σ
set_option maxHeartbeats 4000000 in
theorem c_X8_bestShift (l : Launch) (D : va_G) (G : Geo)   (x1 : Int32) (σ : St) (o : Int32 × St) (hf : f_X8_bestShift  x1 σ = some o) : CI l D (tyG G) (wM G) yX8_bestShift cX8_bestShift 10 ((some .int)) ({ frames := 6, cells := 0, slots := 0, locals := 144 }) [.ref (G.1 0), .int x1] σ o := by
  refine met_of (Qc := fun A => QI D (tyG G) (wM G) A o) pn_X8 (Nat.le_of_ble_eq_true rfl) (fun p e s m below meth c A ls C hr h hl => ?_)
  have C : Cx p s m _ meth c cX8_bestShift 10 RX8 D (tyG G) := C
  have hl : lv_has ls 10 [(0, .ref (G.1 0)), (1, .int x1)] := hl
  unfold f_X8_bestShift at hf
  have hx := C.1
  have hb := C.2.1
  refine lv_iconst (v := (-1)) hx hb dX8_bestShift_0 (by decide) ?_
  refine lv_istore_n (lv' := [(2, .int ((-1))), (0, .ref (G.1 0)), (1, .int x1)]) hx hb dX8_bestShift_1 rfl hl (by decide) rfl (fun ls hl => ?_)
  refine lv_lconst (v := 0) hx hb dX8_bestShift_2 (by decide) ?_
  refine lv_lstore_n (lv' := [(3, .long 0), (2, .int ((-1))), (0, .ref (G.1 0)), (1, .int x1)]) hx hb dX8_bestShift_3 rfl hl (by decide) rfl (fun ls hl => ?_)
  refine lv_iconst (v := 0) hx hb dX8_bestShift_4 (by decide) ?_
  refine lv_istore (lv' := [(5, .int 0), (3, .long 0), (2, .int ((-1))), (0, .ref (G.1 0)), (1, .int x1)]) hx hb dX8_bestShift_5 hl (by decide) rfl (fun ls hl => ?_)
  exact t_X8_bestShift_7 C hr x1 ((-1)) 0 0 σ _ _ _ h (lv_sub hl [3, 4, 2, 1, 0] rfl) hf
def f_X8_best  (x1 : Int32) (x2 : Int32) (σ : St) : Option (Int32 × St) := bd (f_X8_isHouse x1 σ) (fun r3 σ1 => if r3 = 0 then some ((-1000000001), σ1) else bd (f_X8_in x2.toInt64 0 1 σ1) (fun r7 σ5 => if r7 = 0 then some ((-1000000002), σ5) else bd (f_X8_sleepersOf x1 σ5) (fun r11 σ9 => if r11 = 0 then some ((-1000000003), σ9) else bd (f_X8_bestShift x1 σ9) (fun r15 σ13 => if x2 = 0 then some (r15, σ13) else some (σ13.1 0 41, σ13)))))
set_option maxHeartbeats 4000000 in
theorem c_X8_best (l : Launch) (D : va_G) (G : Geo)   (x1 : Int32) (x2 : Int32) (σ : St) (o : Int32 × St) (hf : f_X8_best  x1 x2 σ = some o) : CI l D (tyG G) (wM G) yX8_best cX8_best 4 ((some .int)) ({ frames := 7, cells := 0, slots := 0, locals := 173 }) [.ref (G.1 0), .int x1, .int x2] σ o := by
  refine met_of (Qc := fun A => QI D (tyG G) (wM G) A o) pn_X8 (Nat.le_of_ble_eq_true rfl) (fun p e s m below meth c A ls C hr h hl => ?_)
  have C : Cx p s m _ meth c cX8_best 4 RX8 D (tyG G) := C
  have hl : lv_has ls 4 [(0, .ref (G.1 0)), (1, .int x1), (2, .int x2)] := hl
  unfold f_X8_best at hf
  have hx := C.1
  have hb := C.2.1
  refine lv_aload_n hx hb dX8_best_0 rfl (lv_at hl 0 rfl) ?_
  refine lv_iload_n hx hb dX8_best_1 rfl (lv_at hl 1 rfl) ?_
  refine bd_el hf (fun r3 σ1 ho2 hf => ?_)
  refine x_goi h (x_runV (As := [.int x1]) (rest := []) C h (c_X8_isHouse l D G x1 σ (r3, σ1) ho2 _) lk_X8_219 rfl ⟨rfl, rfl, Nat.le_of_ble_eq_true rfl, Nat.le_of_ble_eq_true rfl⟩ (x_rcv C h 0 (by decide) (oM G _ _) rfl) hl.1 rfl (Nat.le_of_ble_eq_true rfl) dX8_best_2) (fun H locs h => ?_)
  refine lv_if_ne (tgt := 11) hx hb dX8_best_5 (by decide) (fun c4 => ?_) (fun c4 => ?_)
  · have hf := ifF c4 hf
    refine lv_iload_n hx hb dX8_best_11 rfl (lv_at hl 2 rfl) ?_
    refine lv_i2l (v := x2.toInt64) hx hb dX8_best_12 rfl ?_
    refine lv_lconst (v := 0) hx hb dX8_best_13 (by decide) ?_
    refine lv_lconst (v := 1) hx hb dX8_best_14 (by decide) ?_
    refine bd_el hf (fun r7 σ5 ho6 hf => ?_)
    refine x_goi h (x_runS (As := [.long x2.toInt64, .long 0, .long 1]) (rest := []) C h (c_X8_in l D G x2.toInt64 0 1 σ1 (r7, σ5) ho6 _) lk_X8_112 rfl ⟨rfl, rfl, Nat.le_of_ble_eq_true rfl, Nat.le_of_ble_eq_true rfl⟩ hl.1 rfl (Nat.le_of_ble_eq_true rfl) dX8_best_15) (fun H locs h => ?_)
    refine lv_if_ne (tgt := 24) hx hb dX8_best_18 (by decide) (fun c8 => ?_) (fun c8 => ?_)
    · have hf := ifF c8 hf
      refine lv_aload_n hx hb dX8_best_24 rfl (lv_at hl 0 rfl) ?_
      refine lv_iload_n hx hb dX8_best_25 rfl (lv_at hl 1 rfl) ?_
      refine bd_el hf (fun r11 σ9 ho10 hf => ?_)
      refine x_goi h (x_runV (As := [.int x1]) (rest := []) C h (c_X8_sleepersOf l D G x1 σ5 (r11, σ9) ho10 _) lk_X8_224 rfl ⟨rfl, rfl, Nat.le_of_ble_eq_true rfl, Nat.le_of_ble_eq_true rfl⟩ (x_rcv C h 0 (by decide) (oM G _ _) rfl) hl.1 rfl (Nat.le_of_ble_eq_true rfl) dX8_best_26) (fun H locs h => ?_)
      refine lv_if_ne (tgt := 36) hx hb dX8_best_29 (by decide) (fun c12 => ?_) (fun c12 => ?_)
      · have hf := ifF c12 hf
        refine lv_aload_n hx hb dX8_best_36 rfl (lv_at hl 0 rfl) ?_
        refine lv_iload_n hx hb dX8_best_37 rfl (lv_at hl 1 rfl) ?_
        refine bd_el hf (fun r15 σ13 ho14 hf => ?_)
        refine x_goi h (x_runV (As := [.int x1]) (rest := []) C h (c_X8_bestShift l D G x1 σ9 (r15, σ13) ho14 _) lk_X8_301 rfl ⟨rfl, rfl, Nat.le_of_ble_eq_true rfl, Nat.le_of_ble_eq_true rfl⟩ (x_rcv C h 0 (by decide) (oM G _ _) rfl) hl.1 rfl (Nat.le_of_ble_eq_true rfl) dX8_best_38) (fun H locs h => ?_)
        refine lv_istore_n (lv' := [(3, .int r15), (0, .ref (G.1 0)), (1, .int x1), (2, .int x2)]) hx hb dX8_best_41 rfl hl (by decide) rfl (fun ls hl => ?_)
        refine lv_iload_n hx hb dX8_best_42 rfl (lv_at hl 3 rfl) ?_
        refine lv_if_ne (tgt := 50) hx hb dX8_best_43 (by decide) (fun c16 => ?_) (fun c16 => ?_)
        · have hf := ifF c16 hf
          refine lv_aload_n hx hb dX8_best_50 rfl (lv_at hl 1 rfl) ?_
          refine gf_X8_298 C h dX8_best_51 ?_
          exact x_iret C hr h hf dX8_best_54
        · have hf := ifT c16 hf
          refine lv_iload_n hx hb dX8_best_46 rfl (lv_at hl 0 rfl) ?_
          refine lv_goto (tgt := 54) hx hb dX8_best_47 (by decide) ?_
          exact x_iret C hr h hf dX8_best_54
      · have hf := ifT c12 hf
        refine lv_ldcw (v := (-1000000003)) hx hb C.2.2.2.1 (C.2.2.2.2.1 _ q585) dX8_best_32 ?_
        exact x_iret C hr h hf dX8_best_35
    · have hf := ifT c8 hf
      refine lv_ldc (v := (-1000000002)) hx hb C.2.2.2.1 (C.2.2.2.2.1 _ q167) dX8_best_21 ?_
      exact x_iret C hr h hf dX8_best_23
  · have hf := ifT c4 hf
    refine lv_ldc (v := (-1000000001)) hx hb C.2.2.2.1 (C.2.2.2.2.1 _ q434) dX8_best_8 ?_
    exact x_iret C hr h hf dX8_best_10
def f_X8_roundChanges_82  (rec4 : Int32 × Int32 × St → Option (Int32 × St)) (x1 : Int32) (x2 : Int32) (σ : St) : Option (Int32 × St) := rec4 (x1, x2 + 1, σ)
set_option maxHeartbeats 4000000 in
theorem t_X8_roundChanges_82 (C : Cx p s m args meth c cX8_roundChanges 5 RX8 D (tyG G)) (hr : meth.sig.returnType = (some .boolean)) {o : Int32 × St}  {rec4 : Int32 × Int32 × St → Option (Int32 × St)} (IH4 : ∀ q, rec4 q = some o → ∀ (H : Heap) (locs : List Loc) (ls : Array Slot), Hs D A s.heap (wM G (q.2.2)) H locs → lv_has ls 5 [(0, .ref (G.1 0)), (1, .int (q.1)), (2, .int (q.2.1))] → W p l e ({ frames := 7, cells := 0, slots := 0, locals := 173 } : Room) s m args below meth c H locs 0 0 (MQ below (QI D (tyG G) (wM G) A o) args s 0 0 A) (F0 m 4 ls [])) : ∀ (x1 : Int32) (x2 : Int32) (σ : St) (H : Heap) (locs : List Loc) (ls : Array Slot), Hs D A s.heap (wM G σ) H locs → lv_has ls 5 [(0, .ref (G.1 0)), (1, .int x1), (2, .int x2)] → f_X8_roundChanges_82  rec4 x1 x2 σ = some o → W p l e ({ frames := 7, cells := 0, slots := 0, locals := 173 } : Room) s m args below meth c H locs 0 0 (MQ below (QI D (tyG G) (wM G) A o) args s 0 0 A) (F0 m 82 ls []) := by
  intro x1 x2 σ H locs ls h hl hf
  unfold f_X8_roundChanges_82 at hf
  have hx := C.1
  have hb := C.2.1
  refine lv_iinc (v := x2 + 1) (lv' := [(2, .int (x2 + 1)), (0, .ref (G.1 0)), (1, .int x1)]) hx hb dX8_roundChanges_82 hl (k := 2) rfl rfl (by decide) rfl (fun ls hl => ?_)
  refine lv_goto (tgt := 4) hx hb dX8_roundChanges_85 (by decide) ?_
  exact IH4 (x1, x2 + 1, σ) hf _ _ _ h (lv_sub hl [1, 2, 0] rfl)
def f_X8_roundChanges_69  (rec4 : Int32 × Int32 × St → Option (Int32 × St)) (rec29 : Int32 × Int32 × Int32 × Int32 × St → Option (Int32 × St)) (x2 : Int32) (x3 : Int32) (x4 : Int32) (y0 : Int32) (σ : St) : Option (Int32 × St) := rec29 (y0, x2, x3, x4 + 1, σ)
set_option maxHeartbeats 4000000 in
theorem t_X8_roundChanges_69 (C : Cx p s m args meth c cX8_roundChanges 5 RX8 D (tyG G)) (hr : meth.sig.returnType = (some .boolean)) {o : Int32 × St}  {rec4 : Int32 × Int32 × St → Option (Int32 × St)} (IH4 : ∀ q, rec4 q = some o → ∀ (H : Heap) (locs : List Loc) (ls : Array Slot), Hs D A s.heap (wM G (q.2.2)) H locs → lv_has ls 5 [(0, .ref (G.1 0)), (1, .int (q.1)), (2, .int (q.2.1))] → W p l e ({ frames := 7, cells := 0, slots := 0, locals := 173 } : Room) s m args below meth c H locs 0 0 (MQ below (QI D (tyG G) (wM G) A o) args s 0 0 A) (F0 m 4 ls [])) {rec29 : Int32 × Int32 × Int32 × Int32 × St → Option (Int32 × St)} (IH29 : ∀ q, rec29 q = some o → ∀ (H : Heap) (locs : List Loc) (ls : Array Slot), Hs D A s.heap (wM G (q.2.2.2.2)) H locs → lv_has ls 5 [(0, .ref (G.1 0)), (1, .int (q.1)), (2, .int (q.2.1)), (3, .int (q.2.2.1)), (4, .int (q.2.2.2.1))] → W p l e ({ frames := 7, cells := 0, slots := 0, locals := 173 } : Room) s m args below meth c H locs 0 0 (MQ below (QI D (tyG G) (wM G) A o) args s 0 0 A) (F0 m 29 ls [])) : ∀ (x2 : Int32) (x3 : Int32) (x4 : Int32) (y0 : Int32) (σ : St) (H : Heap) (locs : List Loc) (ls : Array Slot), Hs D A s.heap (wM G σ) H locs → lv_has ls 5 [(0, .ref (G.1 0)), (2, .int x2), (3, .int x3), (4, .int x4)] → f_X8_roundChanges_69  rec4 rec29 x2 x3 x4 y0 σ = some o → W p l e ({ frames := 7, cells := 0, slots := 0, locals := 173 } : Room) s m args below meth c H locs 0 0 (MQ below (QI D (tyG G) (wM G) A o) args s 0 0 A) (F0 m 69 ls [.int y0]) := by
  intro x2 x3 x4 y0 σ H locs ls h hl hf
  unfold f_X8_roundChanges_69 at hf
  have hx := C.1
  have hb := C.2.1
  refine lv_istore_n (lv' := [(1, .int y0), (0, .ref (G.1 0)), (2, .int x2), (3, .int x3), (4, .int x4)]) hx hb dX8_roundChanges_69 rfl hl (by decide) rfl (fun ls hl => ?_)
  refine lv_iinc (v := x4 + 1) (lv' := [(4, .int (x4 + 1)), (1, .int y0), (0, .ref (G.1 0)), (2, .int x2), (3, .int x3)]) hx hb dX8_roundChanges_70 hl (k := 4) rfl rfl (by decide) rfl (fun ls hl => ?_)
  refine lv_goto (tgt := 29) hx hb dX8_roundChanges_73 (by decide) ?_
  exact IH29 (y0, x2, x3, x4 + 1, σ) hf _ _ _ h (lv_sub hl [2, 1, 3, 4, 0] rfl)
def f_X8_roundChanges_68  (rec4 : Int32 × Int32 × St → Option (Int32 × St)) (rec29 : Int32 × Int32 × Int32 × Int32 × St → Option (Int32 × St)) (x2 : Int32) (x3 : Int32) (x4 : Int32) (σ : St) : Option (Int32 × St) := f_X8_roundChanges_69 rec4 rec29 x2 x3 x4 0 σ
set_option maxHeartbeats 4000000 in
theorem t_X8_roundChanges_68 (C : Cx p s m args meth c cX8_roundChanges 5 RX8 D (tyG G)) (hr : meth.sig.returnType = (some .boolean)) {o : Int32 × St}  {rec4 : Int32 × Int32 × St → Option (Int32 × St)} (IH4 : ∀ q, rec4 q = some o → ∀ (H : Heap) (locs : List Loc) (ls : Array Slot), Hs D A s.heap (wM G (q.2.2)) H locs → lv_has ls 5 [(0, .ref (G.1 0)), (1, .int (q.1)), (2, .int (q.2.1))] → W p l e ({ frames := 7, cells := 0, slots := 0, locals := 173 } : Room) s m args below meth c H locs 0 0 (MQ below (QI D (tyG G) (wM G) A o) args s 0 0 A) (F0 m 4 ls [])) {rec29 : Int32 × Int32 × Int32 × Int32 × St → Option (Int32 × St)} (IH29 : ∀ q, rec29 q = some o → ∀ (H : Heap) (locs : List Loc) (ls : Array Slot), Hs D A s.heap (wM G (q.2.2.2.2)) H locs → lv_has ls 5 [(0, .ref (G.1 0)), (1, .int (q.1)), (2, .int (q.2.1)), (3, .int (q.2.2.1)), (4, .int (q.2.2.2.1))] → W p l e ({ frames := 7, cells := 0, slots := 0, locals := 173 } : Room) s m args below meth c H locs 0 0 (MQ below (QI D (tyG G) (wM G) A o) args s 0 0 A) (F0 m 29 ls [])) : ∀ (x2 : Int32) (x3 : Int32) (x4 : Int32) (σ : St) (H : Heap) (locs : List Loc) (ls : Array Slot), Hs D A s.heap (wM G σ) H locs → lv_has ls 5 [(0, .ref (G.1 0)), (2, .int x2), (3, .int x3), (4, .int x4)] → f_X8_roundChanges_68  rec4 rec29 x2 x3 x4 σ = some o → W p l e ({ frames := 7, cells := 0, slots := 0, locals := 173 } : Room) s m args below meth c H locs 0 0 (MQ below (QI D (tyG G) (wM G) A o) args s 0 0 A) (F0 m 68 ls []) := by
  intro x2 x3 x4 σ H locs ls h hl hf
  unfold f_X8_roundChanges_68 at hf
  have hx := C.1
  have hb := C.2.1
  refine lv_iconst (v := 0) hx hb dX8_roundChanges_68 (by decide) ?_
  exact t_X8_roundChanges_69 C hr IH4 IH29 x2 x3 x4 0 σ _ _ _ h (lv_sub hl [0, 1, 2, 3] rfl) hf
def f_X8_roundChanges_64  (rec4 : Int32 × Int32 × St → Option (Int32 × St)) (rec29 : Int32 × Int32 × Int32 × Int32 × St → Option (Int32 × St)) (x2 : Int32) (x3 : Int32) (x4 : Int32) (σ : St) : Option (Int32 × St) := f_X8_roundChanges_69 rec4 rec29 x2 x3 x4 1 σ
set_option maxHeartbeats 4000000 in
theorem t_X8_roundChanges_64 (C : Cx p s m args meth c cX8_roundChanges 5 RX8 D (tyG G)) (hr : meth.sig.returnType = (some .boolean)) {o : Int32 × St}  {rec4 : Int32 × Int32 × St → Option (Int32 × St)} (IH4 : ∀ q, rec4 q = some o → ∀ (H : Heap) (locs : List Loc) (ls : Array Slot), Hs D A s.heap (wM G (q.2.2)) H locs → lv_has ls 5 [(0, .ref (G.1 0)), (1, .int (q.1)), (2, .int (q.2.1))] → W p l e ({ frames := 7, cells := 0, slots := 0, locals := 173 } : Room) s m args below meth c H locs 0 0 (MQ below (QI D (tyG G) (wM G) A o) args s 0 0 A) (F0 m 4 ls [])) {rec29 : Int32 × Int32 × Int32 × Int32 × St → Option (Int32 × St)} (IH29 : ∀ q, rec29 q = some o → ∀ (H : Heap) (locs : List Loc) (ls : Array Slot), Hs D A s.heap (wM G (q.2.2.2.2)) H locs → lv_has ls 5 [(0, .ref (G.1 0)), (1, .int (q.1)), (2, .int (q.2.1)), (3, .int (q.2.2.1)), (4, .int (q.2.2.2.1))] → W p l e ({ frames := 7, cells := 0, slots := 0, locals := 173 } : Room) s m args below meth c H locs 0 0 (MQ below (QI D (tyG G) (wM G) A o) args s 0 0 A) (F0 m 29 ls [])) : ∀ (x2 : Int32) (x3 : Int32) (x4 : Int32) (σ : St) (H : Heap) (locs : List Loc) (ls : Array Slot), Hs D A s.heap (wM G σ) H locs → lv_has ls 5 [(0, .ref (G.1 0)), (2, .int x2), (3, .int x3), (4, .int x4)] → f_X8_roundChanges_64  rec4 rec29 x2 x3 x4 σ = some o → W p l e ({ frames := 7, cells := 0, slots := 0, locals := 173 } : Room) s m args below meth c H locs 0 0 (MQ below (QI D (tyG G) (wM G) A o) args s 0 0 A) (F0 m 64 ls []) := by
  intro x2 x3 x4 σ H locs ls h hl hf
  unfold f_X8_roundChanges_64 at hf
  have hx := C.1
  have hb := C.2.1
  refine lv_iconst (v := 1) hx hb dX8_roundChanges_64 (by decide) ?_
  refine lv_goto (tgt := 69) hx hb dX8_roundChanges_65 (by decide) ?_
  exact t_X8_roundChanges_69 C hr IH4 IH29 x2 x3 x4 1 σ _ _ _ h (lv_sub hl [0, 1, 2, 3] rfl) hf
def b_X8_roundChanges_29  (rec4 : Int32 × Int32 × St → Option (Int32 × St)) (rec29 : Int32 × Int32 × Int32 × Int32 × St → Option (Int32 × St)) (x1 : Int32) (x2 : Int32) (x3 : Int32) (x4 : Int32) (σ : St) : Option (Int32 × St) := if (σ.1 0 4) ≤ x4 then bv (f_X8_shiftHouse x2 x3 σ) (fun σ10 => f_X8_roundChanges_82 rec4 x1 x2 σ10) else if x1 = 0 then rd (σ.1 4) 8 x4 (fun v13 => if v13 = x2 then rd (σ.1 8) 8 x4 (fun v15 => if v15 = x3 then f_X8_roundChanges_68 rec4 rec29 x2 x3 x4 σ else f_X8_roundChanges_64 rec4 rec29 x2 x3 x4 σ) else f_X8_roundChanges_68 rec4 rec29 x2 x3 x4 σ) else f_X8_roundChanges_64 rec4 rec29 x2 x3 x4 σ
def f_X8_roundChanges_29  (rec4 : Int32 × Int32 × St → Option (Int32 × St)) (x1 : Int32) (x2 : Int32) (x3 : Int32) (x4 : Int32) (σ : St) : Option (Int32 × St) := lp (fun (rec29 : Int32 × Int32 × Int32 × Int32 × St → Option (Int32 × St)) (q : Int32 × Int32 × Int32 × Int32 × St) => b_X8_roundChanges_29  rec4 rec29 (q.1) (q.2.1) (q.2.2.1) (q.2.2.2.1) (q.2.2.2.2)) 100000 (x1, x2, x3, x4, σ)
set_option maxHeartbeats 4000000 in
theorem t_X8_roundChanges_29 (C : Cx p s m args meth c cX8_roundChanges 5 RX8 D (tyG G)) (hr : meth.sig.returnType = (some .boolean)) {o : Int32 × St}  {rec4 : Int32 × Int32 × St → Option (Int32 × St)} (IH4 : ∀ q, rec4 q = some o → ∀ (H : Heap) (locs : List Loc) (ls : Array Slot), Hs D A s.heap (wM G (q.2.2)) H locs → lv_has ls 5 [(0, .ref (G.1 0)), (1, .int (q.1)), (2, .int (q.2.1))] → W p l e ({ frames := 7, cells := 0, slots := 0, locals := 173 } : Room) s m args below meth c H locs 0 0 (MQ below (QI D (tyG G) (wM G) A o) args s 0 0 A) (F0 m 4 ls [])) : ∀ (x1 : Int32) (x2 : Int32) (x3 : Int32) (x4 : Int32) (σ : St) (H : Heap) (locs : List Loc) (ls : Array Slot), Hs D A s.heap (wM G σ) H locs → lv_has ls 5 [(0, .ref (G.1 0)), (1, .int x1), (2, .int x2), (3, .int x3), (4, .int x4)] → f_X8_roundChanges_29  rec4 x1 x2 x3 x4 σ = some o → W p l e ({ frames := 7, cells := 0, slots := 0, locals := 173 } : Room) s m args below meth c H locs 0 0 (MQ below (QI D (tyG G) (wM G) A o) args s 0 0 A) (F0 m 29 ls []) := by
  intro x1 x2 x3 x4 σ H locs ls h hl hf
  refine lp_el (P := fun q : Int32 × Int32 × Int32 × Int32 × St => ∀ (H : Heap) (locs : List Loc) (ls : Array Slot), Hs D A s.heap (wM G (q.2.2.2.2)) H locs → lv_has ls 5 [(0, .ref (G.1 0)), (1, .int (q.1)), (2, .int (q.2.1)), (3, .int (q.2.2.1)), (4, .int (q.2.2.2.1))] → W p l e ({ frames := 7, cells := 0, slots := 0, locals := 173 } : Room) s m args below meth c H locs 0 0 (MQ below (QI D (tyG G) (wM G) A o) args s 0 0 A) (F0 m 29 ls [])) (fun rec29 q IH29 hf => ?_) _ (x1, x2, x3, x4, σ) hf H locs ls h hl
  obtain ⟨x1, x2, x3, x4, σ⟩ := q
  intro H locs ls h hl
  have hl : lv_has ls 5 [(0, .ref (G.1 0)), (1, .int x1), (2, .int x2), (3, .int x3), (4, .int x4)] := hl
  have h : Hs D A s.heap (wM G σ) H locs := h
  have hf : b_X8_roundChanges_29  rec4 rec29 x1 x2 x3 x4 σ = some o := hf
  unfold b_X8_roundChanges_29 at hf
  have hx := C.1
  have hb := C.2.1
  refine lv_iload hx hb dX8_roundChanges_29 (lv_at hl 4 rfl) ?_
  refine lv_aload_n hx hb dX8_roundChanges_31 rfl (lv_at hl 0 rfl) ?_
  refine gf_X8_116 C h dX8_roundChanges_32 ?_
  refine lv_icmp_ge (tgt := 76) hx hb dX8_roundChanges_35 (by decide) (fun c9 => ?_) (fun c9 => ?_)
  · have hf := ifT c9 hf
    refine lv_aload_n hx hb dX8_roundChanges_76 rfl (lv_at hl 0 rfl) ?_
    refine lv_iload_n hx hb dX8_roundChanges_77 rfl (lv_at hl 2 rfl) ?_
    refine lv_iload_n hx hb dX8_roundChanges_78 rfl (lv_at hl 3 rfl) ?_
    refine bv_el hf (fun σ10 ho11 hf => ?_)
    refine x_gov h (x_runV (As := [.int x2, .int x3]) (rest := []) C h (c_X8_shiftHouse l D G x2 x3 σ σ10 ho11 _) lk_X8_294 rfl ⟨rfl, rfl, Nat.le_of_ble_eq_true rfl, Nat.le_of_ble_eq_true rfl⟩ (x_rcv C h 0 (by decide) (oM G _ _) rfl) hl.1 rfl (Nat.le_of_ble_eq_true rfl) dX8_roundChanges_79) (fun H locs h => ?_)
    exact t_X8_roundChanges_82 C hr IH4 x1 x2 σ10 _ _ _ h (lv_sub hl [0, 1, 2] rfl) hf
  · have hf := ifF c9 hf
    refine lv_iload_n hx hb dX8_roundChanges_38 rfl (lv_at hl 1 rfl) ?_
    refine lv_if_ne (tgt := 64) hx hb dX8_roundChanges_39 (by decide) (fun c12 => ?_) (fun c12 => ?_)
    · have hf := ifF c12 hf
      exact t_X8_roundChanges_64 C hr IH4 IH29 x2 x3 x4 σ _ _ _ h (lv_sub hl [0, 2, 3, 4] rfl) hf
    · have hf := ifT c12 hf
      refine lv_aload_n hx hb dX8_roundChanges_42 rfl (lv_at hl 0 rfl) ?_
      refine gf_X8_19 C h dX8_roundChanges_43 ?_
      refine lv_iload hx hb dX8_roundChanges_46 (lv_at hl 4 rfl) ?_
      refine rd_el hf (fun v13 hinv13 hv13 hf => ?_)
      refine x_iald C h 4 1 (by decide) (aM_4 G _ _) rfl hinv13 hv13 dX8_roundChanges_48 ?_
      refine lv_iload_n hx hb dX8_roundChanges_49 rfl (lv_at hl 2 rfl) ?_
      refine lv_icmp_ne (tgt := 68) hx hb dX8_roundChanges_50 (by decide) (fun c14 => ?_) (fun c14 => ?_)
      · have hf := ifF c14 hf
        exact t_X8_roundChanges_68 C hr IH4 IH29 x2 x3 x4 σ _ _ _ h (lv_sub hl [0, 2, 3, 4] rfl) hf
      · have hf := ifT c14 hf
        refine lv_aload_n hx hb dX8_roundChanges_53 rfl (lv_at hl 0 rfl) ?_
        refine gf_X8_31 C h dX8_roundChanges_54 ?_
        refine lv_iload hx hb dX8_roundChanges_57 (lv_at hl 4 rfl) ?_
        refine rd_el hf (fun v15 hinv15 hv15 hf => ?_)
        refine x_iald C h 8 1 (by decide) (aM_8 G _ _) rfl hinv15 hv15 dX8_roundChanges_59 ?_
        refine lv_iload_n hx hb dX8_roundChanges_60 rfl (lv_at hl 3 rfl) ?_
        refine lv_icmp_eq (tgt := 68) hx hb dX8_roundChanges_61 (by decide) (fun c16 => ?_) (fun c16 => ?_)
        · have hf := ifT c16 hf
          exact t_X8_roundChanges_68 C hr IH4 IH29 x2 x3 x4 σ _ _ _ h (lv_sub hl [0, 2, 3, 4] rfl) hf
        · have hf := ifF c16 hf
          exact t_X8_roundChanges_64 C hr IH4 IH29 x2 x3 x4 σ _ _ _ h (lv_sub hl [0, 2, 3, 4] rfl) hf
def b_X8_roundChanges_4   (rec4 : Int32 × Int32 × St → Option (Int32 × St)) (x1 : Int32) (x2 : Int32) (σ : St) : Option (Int32 × St) := if (σ.1 0 0) ≤ x2 then ck (bz x1) (some (x1, σ)) else bd (f_X8_sleepersOf x2 σ) (fun r4 σ2 => if r4 = 0 then f_X8_roundChanges_82 rec4 x1 x2 σ2 else bd (f_X8_bestShift x2 σ2) (fun r8 σ6 => f_X8_roundChanges_29 rec4 x1 x2 r8 0 σ6))
def f_X8_roundChanges_4   (x1 : Int32) (x2 : Int32) (σ : St) : Option (Int32 × St) := lp (fun (rec4 : Int32 × Int32 × St → Option (Int32 × St)) (q : Int32 × Int32 × St) => b_X8_roundChanges_4   rec4 (q.1) (q.2.1) (q.2.2)) 100000 (x1, x2, σ)
set_option maxHeartbeats 4000000 in
theorem t_X8_roundChanges_4 (C : Cx p s m args meth c cX8_roundChanges 5 RX8 D (tyG G)) (hr : meth.sig.returnType = (some .boolean)) {o : Int32 × St}   : ∀ (x1 : Int32) (x2 : Int32) (σ : St) (H : Heap) (locs : List Loc) (ls : Array Slot), Hs D A s.heap (wM G σ) H locs → lv_has ls 5 [(0, .ref (G.1 0)), (1, .int x1), (2, .int x2)] → f_X8_roundChanges_4   x1 x2 σ = some o → W p l e ({ frames := 7, cells := 0, slots := 0, locals := 173 } : Room) s m args below meth c H locs 0 0 (MQ below (QI D (tyG G) (wM G) A o) args s 0 0 A) (F0 m 4 ls []) := by
  intro x1 x2 σ H locs ls h hl hf
  refine lp_el (P := fun q : Int32 × Int32 × St => ∀ (H : Heap) (locs : List Loc) (ls : Array Slot), Hs D A s.heap (wM G (q.2.2)) H locs → lv_has ls 5 [(0, .ref (G.1 0)), (1, .int (q.1)), (2, .int (q.2.1))] → W p l e ({ frames := 7, cells := 0, slots := 0, locals := 173 } : Room) s m args below meth c H locs 0 0 (MQ below (QI D (tyG G) (wM G) A o) args s 0 0 A) (F0 m 4 ls [])) (fun rec4 q IH4 hf => ?_) _ (x1, x2, σ) hf H locs ls h hl
  obtain ⟨x1, x2, σ⟩ := q
  intro H locs ls h hl
  have hl : lv_has ls 5 [(0, .ref (G.1 0)), (1, .int x1), (2, .int x2)] := hl
  have h : Hs D A s.heap (wM G σ) H locs := h
  have hf : b_X8_roundChanges_4   rec4 x1 x2 σ = some o := hf
  unfold b_X8_roundChanges_4 at hf
  have hx := C.1
  have hb := C.2.1
  refine lv_iload_n hx hb dX8_roundChanges_4 rfl (lv_at hl 2 rfl) ?_
  refine lv_aload_n hx hb dX8_roundChanges_5 rfl (lv_at hl 0 rfl) ?_
  refine gf_X8_109 C h dX8_roundChanges_6 ?_
  refine lv_icmp_ge (tgt := 88) hx hb dX8_roundChanges_9 (by decide) (fun c1 => ?_) (fun c1 => ?_)
  · have hf := ifT c1 hf
    refine lv_iload_n hx hb dX8_roundChanges_88 rfl (lv_at hl 1 rfl) ?_
    refine ck_el hf (fun hz hf => ?_)
    exact x_zret C hr h hz hf dX8_roundChanges_89
  · have hf := ifF c1 hf
    refine lv_aload_n hx hb dX8_roundChanges_12 rfl (lv_at hl 0 rfl) ?_
    refine lv_iload_n hx hb dX8_roundChanges_13 rfl (lv_at hl 2 rfl) ?_
    refine bd_el hf (fun r4 σ2 ho3 hf => ?_)
    refine x_goi h (x_runV (As := [.int x2]) (rest := []) C h (c_X8_sleepersOf l D G x2 σ (r4, σ2) ho3 _) lk_X8_224 rfl ⟨rfl, rfl, Nat.le_of_ble_eq_true rfl, Nat.le_of_ble_eq_true rfl⟩ (x_rcv C h 0 (by decide) (oM G _ _) rfl) hl.1 rfl (Nat.le_of_ble_eq_true rfl) dX8_roundChanges_14) (fun H locs h => ?_)
    refine lv_if_eq (tgt := 82) hx hb dX8_roundChanges_17 (by decide) (fun c5 => ?_) (fun c5 => ?_)
    · have hf := ifT c5 hf
      exact t_X8_roundChanges_82 C hr IH4 x1 x2 σ2 _ _ _ h (lv_sub hl [0, 1, 2] rfl) hf
    · have hf := ifF c5 hf
      refine lv_aload_n hx hb dX8_roundChanges_20 rfl (lv_at hl 0 rfl) ?_
      refine lv_iload_n hx hb dX8_roundChanges_21 rfl (lv_at hl 2 rfl) ?_
      refine bd_el hf (fun r8 σ6 ho7 hf => ?_)
      refine x_goi h (x_runV (As := [.int x2]) (rest := []) C h (c_X8_bestShift l D G x2 σ2 (r8, σ6) ho7 _) lk_X8_301 rfl ⟨rfl, rfl, Nat.le_of_ble_eq_true rfl, Nat.le_of_ble_eq_true rfl⟩ (x_rcv C h 0 (by decide) (oM G _ _) rfl) hl.1 rfl (Nat.le_of_ble_eq_true rfl) dX8_roundChanges_22) (fun H locs h => ?_)
      refine lv_istore_n (lv' := [(3, .int r8), (0, .ref (G.1 0)), (1, .int x1), (2, .int x2)]) hx hb dX8_roundChanges_25 rfl hl (by decide) rfl (fun ls hl => ?_)
      refine lv_iconst (v := 0) hx hb dX8_roundChanges_26 (by decide) ?_
      refine lv_istore (lv' := [(4, .int 0), (3, .int r8), (0, .ref (G.1 0)), (1, .int x1), (2, .int x2)]) hx hb dX8_roundChanges_27 hl (by decide) rfl (fun ls hl => ?_)
      exact t_X8_roundChanges_29 C hr IH4 x1 x2 r8 0 σ6 _ _ _ h (lv_sub hl [2, 3, 4, 1, 0] rfl) hf
def f_X8_roundChanges   (σ : St) : Option (Int32 × St) := f_X8_roundChanges_4 0 0 σ
set_option maxHeartbeats 4000000 in
theorem c_X8_roundChanges (l : Launch) (D : va_G) (G : Geo)    (σ : St) (o : Int32 × St) (hf : f_X8_roundChanges   σ = some o) : CI l D (tyG G) (wM G) yX8_roundChanges cX8_roundChanges 5 ((some .boolean)) ({ frames := 7, cells := 0, slots := 0, locals := 173 }) [.ref (G.1 0)] σ o := by
  refine met_of (Qc := fun A => QI D (tyG G) (wM G) A o) pn_X8 (Nat.le_of_ble_eq_true rfl) (fun p e s m below meth c A ls C hr h hl => ?_)
  have C : Cx p s m _ meth c cX8_roundChanges 5 RX8 D (tyG G) := C
  have hl : lv_has ls 5 [(0, .ref (G.1 0))] := hl
  unfold f_X8_roundChanges at hf
  have hx := C.1
  have hb := C.2.1
  refine lv_iconst (v := 0) hx hb dX8_roundChanges_0 (by decide) ?_
  refine lv_istore_n (lv' := [(1, .int 0), (0, .ref (G.1 0))]) hx hb dX8_roundChanges_1 rfl hl (by decide) rfl (fun ls hl => ?_)
  refine lv_iconst (v := 0) hx hb dX8_roundChanges_2 (by decide) ?_
  refine lv_istore_n (lv' := [(2, .int 0), (1, .int 0), (0, .ref (G.1 0))]) hx hb dX8_roundChanges_3 rfl hl (by decide) rfl (fun ls hl => ?_)
  exact t_X8_roundChanges_4 C hr 0 0 σ _ _ _ h (lv_sub hl [2, 1, 0] rfl) hf
def f_X8_leastOf_33  (rec9 : Int32 × Int32 × Int32 × St → Option (Int32 × St)) (x1 : Int32) (x3 : Int32) (y0 : Int32) (σ : St) : Option (Int32 × St) := rec9 (x1, y0, x3 + (-1), σ)
set_option maxHeartbeats 4000000 in
theorem t_X8_leastOf_33 (C : Cx p s m args meth c cX8_leastOf 4 RX8 D (tyG G)) (hr : meth.sig.returnType = (some .int)) {o : Int32 × St}  {rec9 : Int32 × Int32 × Int32 × St → Option (Int32 × St)} (IH9 : ∀ q, rec9 q = some o → ∀ (H : Heap) (locs : List Loc) (ls : Array Slot), Hs D A s.heap (wM G (q.2.2.2)) H locs → lv_has ls 4 [(0, .ref (G.1 0)), (1, .int (q.1)), (2, .int (q.2.1)), (3, .int (q.2.2.1))] → W p l e ({ frames := 0, cells := 0, slots := 0, locals := 0 } : Room) s m args below meth c H locs 0 0 (MQ below (QI D (tyG G) (wM G) A o) args s 0 0 A) (F0 m 9 ls [])) : ∀ (x1 : Int32) (x3 : Int32) (y0 : Int32) (σ : St) (H : Heap) (locs : List Loc) (ls : Array Slot), Hs D A s.heap (wM G σ) H locs → lv_has ls 4 [(0, .ref (G.1 0)), (1, .int x1), (3, .int x3)] → f_X8_leastOf_33  rec9 x1 x3 y0 σ = some o → W p l e ({ frames := 0, cells := 0, slots := 0, locals := 0 } : Room) s m args below meth c H locs 0 0 (MQ below (QI D (tyG G) (wM G) A o) args s 0 0 A) (F0 m 33 ls [.int y0]) := by
  intro x1 x3 y0 σ H locs ls h hl hf
  unfold f_X8_leastOf_33 at hf
  have hx := C.1
  have hb := C.2.1
  refine lv_istore_n (lv' := [(2, .int y0), (0, .ref (G.1 0)), (1, .int x1), (3, .int x3)]) hx hb dX8_leastOf_33 rfl hl (by decide) rfl (fun ls hl => ?_)
  refine lv_iinc (v := x3 + (-1)) (lv' := [(3, .int (x3 + (-1))), (2, .int y0), (0, .ref (G.1 0)), (1, .int x1)]) hx hb dX8_leastOf_34 hl (k := 3) rfl rfl (by decide) rfl (fun ls hl => ?_)
  refine lv_goto (tgt := 9) hx hb dX8_leastOf_37 (by decide) ?_
  exact IH9 (x1, y0, x3 + (-1), σ) hf _ _ _ h (lv_sub hl [2, 3, 1, 0] rfl)
def b_X8_leastOf_9   (rec9 : Int32 × Int32 × Int32 × St → Option (Int32 × St)) (x1 : Int32) (x2 : Int32) (x3 : Int32) (σ : St) : Option (Int32 × St) := if x3 < 0 then some (x2, σ) else rd (σ.1 4) 8 x3 (fun v3 => if v3 = x1 then rd (σ.1 8) 8 x3 (fun v5 => f_X8_leastOf_33 rec9 x1 x3 v5 σ) else f_X8_leastOf_33 rec9 x1 x3 x2 σ)
def f_X8_leastOf_9   (x1 : Int32) (x2 : Int32) (x3 : Int32) (σ : St) : Option (Int32 × St) := lp (fun (rec9 : Int32 × Int32 × Int32 × St → Option (Int32 × St)) (q : Int32 × Int32 × Int32 × St) => b_X8_leastOf_9   rec9 (q.1) (q.2.1) (q.2.2.1) (q.2.2.2)) 100000 (x1, x2, x3, σ)
set_option maxHeartbeats 4000000 in
theorem t_X8_leastOf_9 (C : Cx p s m args meth c cX8_leastOf 4 RX8 D (tyG G)) (hr : meth.sig.returnType = (some .int)) {o : Int32 × St}   : ∀ (x1 : Int32) (x2 : Int32) (x3 : Int32) (σ : St) (H : Heap) (locs : List Loc) (ls : Array Slot), Hs D A s.heap (wM G σ) H locs → lv_has ls 4 [(0, .ref (G.1 0)), (1, .int x1), (2, .int x2), (3, .int x3)] → f_X8_leastOf_9   x1 x2 x3 σ = some o → W p l e ({ frames := 0, cells := 0, slots := 0, locals := 0 } : Room) s m args below meth c H locs 0 0 (MQ below (QI D (tyG G) (wM G) A o) args s 0 0 A) (F0 m 9 ls []) := by
  intro x1 x2 x3 σ H locs ls h hl hf
  refine lp_el (P := fun q : Int32 × Int32 × Int32 × St => ∀ (H : Heap) (locs : List Loc) (ls : Array Slot), Hs D A s.heap (wM G (q.2.2.2)) H locs → lv_has ls 4 [(0, .ref (G.1 0)), (1, .int (q.1)), (2, .int (q.2.1)), (3, .int (q.2.2.1))] → W p l e ({ frames := 0, cells := 0, slots := 0, locals := 0 } : Room) s m args below meth c H locs 0 0 (MQ below (QI D (tyG G) (wM G) A o) args s 0 0 A) (F0 m 9 ls [])) (fun rec9 q IH9 hf => ?_) _ (x1, x2, x3, σ) hf H locs ls h hl
  obtain ⟨x1, x2, x3, σ⟩ := q
  intro H locs ls h hl
  have hl : lv_has ls 4 [(0, .ref (G.1 0)), (1, .int x1), (2, .int x2), (3, .int x3)] := hl
  have h : Hs D A s.heap (wM G σ) H locs := h
  have hf : b_X8_leastOf_9   rec9 x1 x2 x3 σ = some o := hf
  unfold b_X8_leastOf_9 at hf
  have hx := C.1
  have hb := C.2.1
  refine lv_iload_n hx hb dX8_leastOf_9 rfl (lv_at hl 3 rfl) ?_
  refine lv_if_lt (tgt := 40) hx hb dX8_leastOf_10 (by decide) (fun c2 => ?_) (fun c2 => ?_)
  · have hf := ifT c2 hf
    refine lv_iload_n hx hb dX8_leastOf_40 rfl (lv_at hl 2 rfl) ?_
    exact x_iret C hr h hf dX8_leastOf_41
  · have hf := ifF c2 hf
    refine lv_aload_n hx hb dX8_leastOf_13 rfl (lv_at hl 0 rfl) ?_
    refine gf_X8_19 C h dX8_leastOf_14 ?_
    refine lv_iload_n hx hb dX8_leastOf_17 rfl (lv_at hl 3 rfl) ?_
    refine rd_el hf (fun v3 hinv3 hv3 hf => ?_)
    refine x_iald C h 4 1 (by decide) (aM_4 G _ _) rfl hinv3 hv3 dX8_leastOf_18 ?_
    refine lv_iload_n hx hb dX8_leastOf_19 rfl (lv_at hl 1 rfl) ?_
    refine lv_icmp_ne (tgt := 32) hx hb dX8_leastOf_20 (by decide) (fun c4 => ?_) (fun c4 => ?_)
    · have hf := ifF c4 hf
      refine lv_iload_n hx hb dX8_leastOf_32 rfl (lv_at hl 2 rfl) ?_
      exact t_X8_leastOf_33 C hr IH9 x1 x3 x2 σ _ _ _ h (lv_sub hl [0, 1, 3] rfl) hf
    · have hf := ifT c4 hf
      refine lv_aload_n hx hb dX8_leastOf_23 rfl (lv_at hl 0 rfl) ?_
      refine gf_X8_31 C h dX8_leastOf_24 ?_
      refine lv_iload_n hx hb dX8_leastOf_27 rfl (lv_at hl 3 rfl) ?_
      refine rd_el hf (fun v5 hinv5 hv5 hf => ?_)
      refine x_iald C h 8 1 (by decide) (aM_8 G _ _) rfl hinv5 hv5 dX8_leastOf_28 ?_
      refine lv_goto (tgt := 33) hx hb dX8_leastOf_29 (by decide) ?_
      exact t_X8_leastOf_33 C hr IH9 x1 x3 v5 σ _ _ _ h (lv_sub hl [0, 1, 3] rfl) hf
def f_X8_leastOf  (x1 : Int32) (σ : St) : Option (Int32 × St) := nm ((σ.1 0 4) - 1) (fun z1 => f_X8_leastOf_9 x1 0 z1 σ)
set_option maxHeartbeats 4000000 in
theorem c_X8_leastOf (l : Launch) (D : va_G) (G : Geo)   (x1 : Int32) (σ : St) (o : Int32 × St) (hf : f_X8_leastOf  x1 σ = some o) : CI l D (tyG G) (wM G) yX8_leastOf cX8_leastOf 4 ((some .int)) ({ frames := 0, cells := 0, slots := 0, locals := 0 }) [.ref (G.1 0), .int x1] σ o := by
  refine met_of (Qc := fun A => QI D (tyG G) (wM G) A o) pn_X8 (Nat.le_of_ble_eq_true rfl) (fun p e s m below meth c A ls C hr h hl => ?_)
  have C : Cx p s m _ meth c cX8_leastOf 4 RX8 D (tyG G) := C
  have hl : lv_has ls 4 [(0, .ref (G.1 0)), (1, .int x1)] := hl
  unfold f_X8_leastOf at hf
  have hx := C.1
  have hb := C.2.1
  refine lv_iconst (v := 0) hx hb dX8_leastOf_0 (by decide) ?_
  refine lv_istore_n (lv' := [(2, .int 0), (0, .ref (G.1 0)), (1, .int x1)]) hx hb dX8_leastOf_1 rfl hl (by decide) rfl (fun ls hl => ?_)
  refine lv_aload_n hx hb dX8_leastOf_2 rfl (lv_at hl 1 rfl) ?_
  refine gf_X8_116 C h dX8_leastOf_3 ?_
  refine lv_iconst (v := 1) hx hb dX8_leastOf_6 (by decide) ?_
  refine lv_isub hx hb dX8_leastOf_7 ?_
  refine nm_el hf (fun z1 ez1 hf => ?_)
  refine x_topi ez1 ?_
  refine lv_istore_n (lv' := [(3, .int z1), (2, .int 0), (0, .ref (G.1 0)), (1, .int x1)]) hx hb dX8_leastOf_8 rfl hl (by decide) rfl (fun ls hl => ?_)
  exact t_X8_leastOf_9 C hr x1 0 z1 σ _ _ _ h (lv_sub hl [2, 3, 1, 0] rfl) hf
def b_X8_rests_83   (rec83 : Int32 × Int32 × Int32 × St → Option (Int32 × St)) (x2 : Int32) (x3 : Int32) (x4 : Int32) (σ : St) : Option (Int32 × St) := if (σ.1 0 4) ≤ x4 then if x2 = 20 then some ((-1), σ) else some (x3, σ) else rd (σ.1 23) 8 x4 (fun v21 => ck (inb x4 8) (nm (sI σ 8 (x4 : Int32).toNatClampNeg v21) (fun σ23 => rec83 (x2, x3, x4 + 1, σ23))))
def f_X8_rests_83   (x2 : Int32) (x3 : Int32) (x4 : Int32) (σ : St) : Option (Int32 × St) := lp (fun (rec83 : Int32 × Int32 × Int32 × St → Option (Int32 × St)) (q : Int32 × Int32 × Int32 × St) => b_X8_rests_83   rec83 (q.1) (q.2.1) (q.2.2.1) (q.2.2.2)) 100000 (x2, x3, x4, σ)
set_option maxHeartbeats 4000000 in
theorem t_X8_rests_83 (C : Cx p s m args meth c cX8_rests 5 RX8 D (tyG G)) (hr : meth.sig.returnType = (some .int)) {o : Int32 × St}   : ∀ (x2 : Int32) (x3 : Int32) (x4 : Int32) (σ : St) (H : Heap) (locs : List Loc) (ls : Array Slot), Hs D A s.heap (wM G σ) H locs → lv_has ls 5 [(0, .ref (G.1 0)), (2, .int x2), (3, .int x3), (4, .int x4)] → f_X8_rests_83   x2 x3 x4 σ = some o → W p l e ({ frames := 8, cells := 0, slots := 0, locals := 197 } : Room) s m args below meth c H locs 0 0 (MQ below (QI D (tyG G) (wM G) A o) args s 0 0 A) (F0 m 83 ls []) := by
  intro x2 x3 x4 σ H locs ls h hl hf
  refine lp_el (P := fun q : Int32 × Int32 × Int32 × St => ∀ (H : Heap) (locs : List Loc) (ls : Array Slot), Hs D A s.heap (wM G (q.2.2.2)) H locs → lv_has ls 5 [(0, .ref (G.1 0)), (2, .int (q.1)), (3, .int (q.2.1)), (4, .int (q.2.2.1))] → W p l e ({ frames := 8, cells := 0, slots := 0, locals := 197 } : Room) s m args below meth c H locs 0 0 (MQ below (QI D (tyG G) (wM G) A o) args s 0 0 A) (F0 m 83 ls [])) (fun rec83 q IH83 hf => ?_) _ (x2, x3, x4, σ) hf H locs ls h hl
  obtain ⟨x2, x3, x4, σ⟩ := q
  intro H locs ls h hl
  have hl : lv_has ls 5 [(0, .ref (G.1 0)), (2, .int x2), (3, .int x3), (4, .int x4)] := hl
  have h : Hs D A s.heap (wM G σ) H locs := h
  have hf : b_X8_rests_83   rec83 x2 x3 x4 σ = some o := hf
  unfold b_X8_rests_83 at hf
  have hx := C.1
  have hb := C.2.1
  refine lv_iload hx hb dX8_rests_83 (lv_at hl 3 rfl) ?_
  refine lv_aload_n hx hb dX8_rests_85 rfl (lv_at hl 0 rfl) ?_
  refine gf_X8_116 C h dX8_rests_86 ?_
  refine lv_icmp_ge (tgt := 112) hx hb dX8_rests_89 (by decide) (fun c19 => ?_) (fun c19 => ?_)
  · have hf := ifT c19 hf
    refine lv_iload_n hx hb dX8_rests_112 rfl (lv_at hl 1 rfl) ?_
    refine lv_bipush (v := 20) hx hb dX8_rests_113 (by decide) ?_
    refine lv_icmp_ne (tgt := 122) hx hb dX8_rests_115 (by decide) (fun c20 => ?_) (fun c20 => ?_)
    · have hf := ifF c20 hf
      refine lv_iload_n hx hb dX8_rests_122 rfl (lv_at hl 2 rfl) ?_
      exact x_iret C hr h hf dX8_rests_123
    · have hf := ifT c20 hf
      refine lv_iconst (v := (-1)) hx hb dX8_rests_118 (by decide) ?_
      refine lv_goto (tgt := 123) hx hb dX8_rests_119 (by decide) ?_
      exact x_iret C hr h hf dX8_rests_123
  · have hf := ifF c19 hf
    refine lv_aload_n hx hb dX8_rests_92 rfl (lv_at hl 0 rfl) ?_
    refine gf_X8_31 C h dX8_rests_93 ?_
    refine lv_iload hx hb dX8_rests_96 (lv_at hl 3 rfl) ?_
    refine lv_aload_n hx hb dX8_rests_98 rfl (lv_at hl 0 rfl) ?_
    refine gf_X8_89 C h dX8_rests_99 ?_
    refine lv_iload hx hb dX8_rests_102 (lv_at hl 3 rfl) ?_
    refine rd_el hf (fun v21 hinv21 hv21 hf => ?_)
    refine x_iald C h 23 1 (by decide) (aM_23 G _ _) rfl hinv21 hv21 dX8_rests_104 ?_
    refine ckb_el hf (fun hin22 hf => ?_)
    refine nm_el hf (fun σ23 hσ23 hf => ?_)
    refine x_iast C h 8 1 (by decide) (fun f => aM_8 G f _) rfl hin22 dX8_rests_105 hσ23 (fun H locs h => ?_)
    refine lv_iinc (v := x4 + 1) (lv' := [(4, .int (x4 + 1)), (0, .ref (G.1 0)), (2, .int x2), (3, .int x3)]) hx hb dX8_rests_106 hl (k := 3) rfl rfl (by decide) rfl (fun ls hl => ?_)
    refine lv_goto (tgt := 83) hx hb dX8_rests_109 (by decide) ?_
    exact IH83 (x2, x3, x4 + 1, σ23) hf _ _ _ h (lv_sub hl [1, 2, 3, 0] rfl)
def f_X8_rests_79   (x2 : Int32) (y0 : Int32) (σ : St) : Option (Int32 × St) := f_X8_rests_83 x2 y0 0 σ
set_option maxHeartbeats 4000000 in
theorem t_X8_rests_79 (C : Cx p s m args meth c cX8_rests 5 RX8 D (tyG G)) (hr : meth.sig.returnType = (some .int)) {o : Int32 × St}   : ∀ (x2 : Int32) (y0 : Int32) (σ : St) (H : Heap) (locs : List Loc) (ls : Array Slot), Hs D A s.heap (wM G σ) H locs → lv_has ls 5 [(0, .ref (G.1 0)), (2, .int x2)] → f_X8_rests_79   x2 y0 σ = some o → W p l e ({ frames := 8, cells := 0, slots := 0, locals := 197 } : Room) s m args below meth c H locs 0 0 (MQ below (QI D (tyG G) (wM G) A o) args s 0 0 A) (F0 m 79 ls [.int y0]) := by
  intro x2 y0 σ H locs ls h hl hf
  unfold f_X8_rests_79 at hf
  have hx := C.1
  have hb := C.2.1
  refine lv_istore_n (lv' := [(3, .int y0), (0, .ref (G.1 0)), (2, .int x2)]) hx hb dX8_rests_79 rfl hl (by decide) rfl (fun ls hl => ?_)
  refine lv_iconst (v := 0) hx hb dX8_rests_80 (by decide) ?_
  refine lv_istore (lv' := [(4, .int 0), (3, .int y0), (0, .ref (G.1 0)), (2, .int x2)]) hx hb dX8_rests_81 hl (by decide) rfl (fun ls hl => ?_)
  exact t_X8_rests_83 C hr x2 y0 0 σ _ _ _ h (lv_sub hl [2, 3, 1, 0] rfl) hf
def f_X8_rests_65   (x1 : Int32) (x2 : Int32) (σ : St) : Option (Int32 × St) := if x1 = ((-1)) then f_X8_rests_79 x2 x2 σ else bd (f_X8_leastOf x1 σ) (fun r18 σ16 => f_X8_rests_79 x2 r18 σ16)
set_option maxHeartbeats 4000000 in
theorem t_X8_rests_65 (C : Cx p s m args meth c cX8_rests 5 RX8 D (tyG G)) (hr : meth.sig.returnType = (some .int)) {o : Int32 × St}   : ∀ (x1 : Int32) (x2 : Int32) (σ : St) (H : Heap) (locs : List Loc) (ls : Array Slot), Hs D A s.heap (wM G σ) H locs → lv_has ls 5 [(0, .ref (G.1 0)), (1, .int x1), (2, .int x2)] → f_X8_rests_65   x1 x2 σ = some o → W p l e ({ frames := 8, cells := 0, slots := 0, locals := 197 } : Room) s m args below meth c H locs 0 0 (MQ below (QI D (tyG G) (wM G) A o) args s 0 0 A) (F0 m 65 ls []) := by
  intro x1 x2 σ H locs ls h hl hf
  unfold f_X8_rests_65 at hf
  have hx := C.1
  have hb := C.2.1
  refine lv_iload_n hx hb dX8_rests_65 rfl (lv_at hl 1 rfl) ?_
  refine lv_iconst (v := (-1)) hx hb dX8_rests_66 (by decide) ?_
  refine lv_icmp_ne (tgt := 74) hx hb dX8_rests_67 (by decide) (fun c15 => ?_) (fun c15 => ?_)
  · have hf := ifF c15 hf
    refine lv_aload_n hx hb dX8_rests_74 rfl (lv_at hl 0 rfl) ?_
    refine lv_iload_n hx hb dX8_rests_75 rfl (lv_at hl 1 rfl) ?_
    refine bd_el hf (fun r18 σ16 ho17 hf => ?_)
    refine x_goi h (x_runV (As := [.int x1]) (rest := []) C h (c_X8_leastOf l D G x1 σ (r18, σ16) ho17 _) lk_X8_308 rfl ⟨rfl, rfl, Nat.le_of_ble_eq_true rfl, Nat.le_of_ble_eq_true rfl⟩ (x_rcv C h 0 (by decide) (oM G _ _) rfl) hl.1 rfl (Nat.le_of_ble_eq_true rfl) dX8_rests_76) (fun H locs h => ?_)
    exact t_X8_rests_79 C hr x2 r18 σ16 _ _ _ h (lv_sub hl [0, 2] rfl) hf
  · have hf := ifT c15 hf
    refine lv_iload_n hx hb dX8_rests_70 rfl (lv_at hl 2 rfl) ?_
    refine lv_goto (tgt := 79) hx hb dX8_rests_71 (by decide) ?_
    exact t_X8_rests_79 C hr x2 x2 σ _ _ _ h (lv_sub hl [0, 2] rfl) hf
def b_X8_rests_46   (rec46 : Int32 × Int32 × St → Option (Int32 × St)) (x1 : Int32) (x2 : Int32) (σ : St) : Option (Int32 × St) := if (20 : Int32) ≤ x2 then f_X8_rests_65 x1 x2 σ else bd (f_X8_roundChanges σ) (fun r13 σ11 => if r13 = 0 then f_X8_rests_65 x1 x2 σ11 else rec46 (x1, x2 + 1, σ11))
def f_X8_rests_46   (x1 : Int32) (x2 : Int32) (σ : St) : Option (Int32 × St) := lp (fun (rec46 : Int32 × Int32 × St → Option (Int32 × St)) (q : Int32 × Int32 × St) => b_X8_rests_46   rec46 (q.1) (q.2.1) (q.2.2)) 100000 (x1, x2, σ)
set_option maxHeartbeats 4000000 in
theorem t_X8_rests_46 (C : Cx p s m args meth c cX8_rests 5 RX8 D (tyG G)) (hr : meth.sig.returnType = (some .int)) {o : Int32 × St}   : ∀ (x1 : Int32) (x2 : Int32) (σ : St) (H : Heap) (locs : List Loc) (ls : Array Slot), Hs D A s.heap (wM G σ) H locs → lv_has ls 5 [(0, .ref (G.1 0)), (1, .int x1), (2, .int x2)] → f_X8_rests_46   x1 x2 σ = some o → W p l e ({ frames := 8, cells := 0, slots := 0, locals := 197 } : Room) s m args below meth c H locs 0 0 (MQ below (QI D (tyG G) (wM G) A o) args s 0 0 A) (F0 m 46 ls []) := by
  intro x1 x2 σ H locs ls h hl hf
  refine lp_el (P := fun q : Int32 × Int32 × St => ∀ (H : Heap) (locs : List Loc) (ls : Array Slot), Hs D A s.heap (wM G (q.2.2)) H locs → lv_has ls 5 [(0, .ref (G.1 0)), (1, .int (q.1)), (2, .int (q.2.1))] → W p l e ({ frames := 8, cells := 0, slots := 0, locals := 197 } : Room) s m args below meth c H locs 0 0 (MQ below (QI D (tyG G) (wM G) A o) args s 0 0 A) (F0 m 46 ls [])) (fun rec46 q IH46 hf => ?_) _ (x1, x2, σ) hf H locs ls h hl
  obtain ⟨x1, x2, σ⟩ := q
  intro H locs ls h hl
  have hl : lv_has ls 5 [(0, .ref (G.1 0)), (1, .int x1), (2, .int x2)] := hl
  have h : Hs D A s.heap (wM G σ) H locs := h
  have hf : b_X8_rests_46   rec46 x1 x2 σ = some o := hf
  unfold b_X8_rests_46 at hf
  have hx := C.1
  have hb := C.2.1
  refine lv_iload_n hx hb dX8_rests_46 rfl (lv_at hl 2 rfl) ?_
  refine lv_bipush (v := 20) hx hb dX8_rests_47 (by decide) ?_
  refine lv_icmp_ge (tgt := 65) hx hb dX8_rests_49 (by decide) (fun c10 => ?_) (fun c10 => ?_)
  · have hf := ifT c10 hf
    exact t_X8_rests_65 C hr x1 x2 σ _ _ _ h (lv_sub hl [0, 1, 2] rfl) hf
  · have hf := ifF c10 hf
    refine lv_aload_n hx hb dX8_rests_52 rfl (lv_at hl 0 rfl) ?_
    refine bd_el hf (fun r13 σ11 ho12 hf => ?_)
    refine x_goi h (x_runV (As := []) (rest := []) C h (c_X8_roundChanges l D G σ (r13, σ11) ho12 _) lk_X8_304 rfl ⟨rfl, rfl, Nat.le_of_ble_eq_true rfl, Nat.le_of_ble_eq_true rfl⟩ (x_rcv C h 0 (by decide) (oM G _ _) rfl) hl.1 rfl (Nat.le_of_ble_eq_true rfl) dX8_rests_53) (fun H locs h => ?_)
    refine lv_if_eq (tgt := 65) hx hb dX8_rests_56 (by decide) (fun c14 => ?_) (fun c14 => ?_)
    · have hf := ifT c14 hf
      exact t_X8_rests_65 C hr x1 x2 σ11 _ _ _ h (lv_sub hl [0, 1, 2] rfl) hf
    · have hf := ifF c14 hf
      refine lv_iinc (v := x2 + 1) (lv' := [(2, .int (x2 + 1)), (0, .ref (G.1 0)), (1, .int x1)]) hx hb dX8_rests_59 hl (k := 2) rfl rfl (by decide) rfl (fun ls hl => ?_)
      refine lv_goto (tgt := 46) hx hb dX8_rests_62 (by decide) ?_
      exact IH46 (x1, x2 + 1, σ11) hf _ _ _ h (lv_sub hl [1, 2, 0] rfl)
def b_X8_rests_18   (rec18 : Int32 × Int32 × St → Option (Int32 × St)) (x1 : Int32) (x2 : Int32) (σ : St) : Option (Int32 × St) := if (σ.1 0 4) ≤ x2 then f_X8_rests_46 x1 0 σ else rd (σ.1 8) 8 x2 (fun v7 => ck (inb x2 8) (nm (sI σ 23 (x2 : Int32).toNatClampNeg v7) (fun σ9 => rec18 (x1, x2 + 1, σ9))))
def f_X8_rests_18   (x1 : Int32) (x2 : Int32) (σ : St) : Option (Int32 × St) := lp (fun (rec18 : Int32 × Int32 × St → Option (Int32 × St)) (q : Int32 × Int32 × St) => b_X8_rests_18   rec18 (q.1) (q.2.1) (q.2.2)) 100000 (x1, x2, σ)
set_option maxHeartbeats 4000000 in
theorem t_X8_rests_18 (C : Cx p s m args meth c cX8_rests 5 RX8 D (tyG G)) (hr : meth.sig.returnType = (some .int)) {o : Int32 × St}   : ∀ (x1 : Int32) (x2 : Int32) (σ : St) (H : Heap) (locs : List Loc) (ls : Array Slot), Hs D A s.heap (wM G σ) H locs → lv_has ls 5 [(0, .ref (G.1 0)), (1, .int x1), (2, .int x2)] → f_X8_rests_18   x1 x2 σ = some o → W p l e ({ frames := 8, cells := 0, slots := 0, locals := 197 } : Room) s m args below meth c H locs 0 0 (MQ below (QI D (tyG G) (wM G) A o) args s 0 0 A) (F0 m 18 ls []) := by
  intro x1 x2 σ H locs ls h hl hf
  refine lp_el (P := fun q : Int32 × Int32 × St => ∀ (H : Heap) (locs : List Loc) (ls : Array Slot), Hs D A s.heap (wM G (q.2.2)) H locs → lv_has ls 5 [(0, .ref (G.1 0)), (1, .int (q.1)), (2, .int (q.2.1))] → W p l e ({ frames := 8, cells := 0, slots := 0, locals := 197 } : Room) s m args below meth c H locs 0 0 (MQ below (QI D (tyG G) (wM G) A o) args s 0 0 A) (F0 m 18 ls [])) (fun rec18 q IH18 hf => ?_) _ (x1, x2, σ) hf H locs ls h hl
  obtain ⟨x1, x2, σ⟩ := q
  intro H locs ls h hl
  have hl : lv_has ls 5 [(0, .ref (G.1 0)), (1, .int x1), (2, .int x2)] := hl
  have h : Hs D A s.heap (wM G σ) H locs := h
  have hf : b_X8_rests_18   rec18 x1 x2 σ = some o := hf
  unfold b_X8_rests_18 at hf
  have hx := C.1
  have hb := C.2.1
  refine lv_iload_n hx hb dX8_rests_18 rfl (lv_at hl 2 rfl) ?_
  refine lv_aload_n hx hb dX8_rests_19 rfl (lv_at hl 0 rfl) ?_
  refine gf_X8_116 C h dX8_rests_20 ?_
  refine lv_icmp_ge (tgt := 44) hx hb dX8_rests_23 (by decide) (fun c6 => ?_) (fun c6 => ?_)
  · have hf := ifT c6 hf
    refine lv_iconst (v := 0) hx hb dX8_rests_44 (by decide) ?_
    refine lv_istore_n (lv' := [(2, .int 0), (0, .ref (G.1 0)), (1, .int x1)]) hx hb dX8_rests_45 rfl hl (by decide) rfl (fun ls hl => ?_)
    exact t_X8_rests_46 C hr x1 0 σ _ _ _ h (lv_sub hl [1, 2, 0] rfl) hf
  · have hf := ifF c6 hf
    refine lv_aload_n hx hb dX8_rests_26 rfl (lv_at hl 0 rfl) ?_
    refine gf_X8_89 C h dX8_rests_27 ?_
    refine lv_iload_n hx hb dX8_rests_30 rfl (lv_at hl 2 rfl) ?_
    refine lv_aload_n hx hb dX8_rests_31 rfl (lv_at hl 0 rfl) ?_
    refine gf_X8_31 C h dX8_rests_32 ?_
    refine lv_iload_n hx hb dX8_rests_35 rfl (lv_at hl 2 rfl) ?_
    refine rd_el hf (fun v7 hinv7 hv7 hf => ?_)
    refine x_iald C h 8 1 (by decide) (aM_8 G _ _) rfl hinv7 hv7 dX8_rests_36 ?_
    refine ckb_el hf (fun hin8 hf => ?_)
    refine nm_el hf (fun σ9 hσ9 hf => ?_)
    refine x_iast C h 23 1 (by decide) (fun f => aM_23 G f _) rfl hin8 dX8_rests_37 hσ9 (fun H locs h => ?_)
    refine lv_iinc (v := x2 + 1) (lv' := [(2, .int (x2 + 1)), (0, .ref (G.1 0)), (1, .int x1)]) hx hb dX8_rests_38 hl (k := 2) rfl rfl (by decide) rfl (fun ls hl => ?_)
    refine lv_goto (tgt := 18) hx hb dX8_rests_41 (by decide) ?_
    exact IH18 (x1, x2 + 1, σ9) hf _ _ _ h (lv_sub hl [1, 2, 0] rfl)
def f_X8_rests_16   (x1 : Int32) (σ : St) : Option (Int32 × St) := f_X8_rests_18 x1 0 σ
set_option maxHeartbeats 4000000 in
theorem t_X8_rests_16 (C : Cx p s m args meth c cX8_rests 5 RX8 D (tyG G)) (hr : meth.sig.returnType = (some .int)) {o : Int32 × St}   : ∀ (x1 : Int32) (σ : St) (H : Heap) (locs : List Loc) (ls : Array Slot), Hs D A s.heap (wM G σ) H locs → lv_has ls 5 [(0, .ref (G.1 0)), (1, .int x1)] → f_X8_rests_16   x1 σ = some o → W p l e ({ frames := 8, cells := 0, slots := 0, locals := 197 } : Room) s m args below meth c H locs 0 0 (MQ below (QI D (tyG G) (wM G) A o) args s 0 0 A) (F0 m 16 ls []) := by
  intro x1 σ H locs ls h hl hf
  unfold f_X8_rests_16 at hf
  have hx := C.1
  have hb := C.2.1
  refine lv_iconst (v := 0) hx hb dX8_rests_16 (by decide) ?_
  refine lv_istore_n (lv' := [(2, .int 0), (0, .ref (G.1 0)), (1, .int x1)]) hx hb dX8_rests_17 rfl hl (by decide) rfl (fun ls hl => ?_)
  exact t_X8_rests_18 C hr x1 0 σ _ _ _ h (lv_sub hl [1, 2, 0] rfl) hf
def f_X8_rests  (x1 : Int32) (σ : St) : Option (Int32 × St) := if x1 = ((-1)) then f_X8_rests_16 x1 σ else bd (f_X8_isHouse x1 σ) (fun r4 σ2 => if r4 = 0 then some ((-1000000001), σ2) else f_X8_rests_16 x1 σ2)
set_option maxHeartbeats 4000000 in
theorem c_X8_rests (l : Launch) (D : va_G) (G : Geo)   (x1 : Int32) (σ : St) (o : Int32 × St) (hf : f_X8_rests  x1 σ = some o) : CI l D (tyG G) (wM G) yX8_rests cX8_rests 5 ((some .int)) ({ frames := 8, cells := 0, slots := 0, locals := 197 }) [.ref (G.1 0), .int x1] σ o := by
  refine met_of (Qc := fun A => QI D (tyG G) (wM G) A o) pn_X8 (Nat.le_of_ble_eq_true rfl) (fun p e s m below meth c A ls C hr h hl => ?_)
  have C : Cx p s m _ meth c cX8_rests 5 RX8 D (tyG G) := C
  have hl : lv_has ls 5 [(0, .ref (G.1 0)), (1, .int x1)] := hl
  unfold f_X8_rests at hf
  have hx := C.1
  have hb := C.2.1
  refine lv_iload_n hx hb dX8_rests_0 rfl (lv_at hl 1 rfl) ?_
  refine lv_iconst (v := (-1)) hx hb dX8_rests_1 (by decide) ?_
  refine lv_icmp_eq (tgt := 16) hx hb dX8_rests_2 (by decide) (fun c1 => ?_) (fun c1 => ?_)
  · have hf := ifT c1 hf
    exact t_X8_rests_16 C hr x1 σ _ _ _ h (lv_sub hl [0, 1] rfl) hf
  · have hf := ifF c1 hf
    refine lv_aload_n hx hb dX8_rests_5 rfl (lv_at hl 0 rfl) ?_
    refine lv_iload_n hx hb dX8_rests_6 rfl (lv_at hl 1 rfl) ?_
    refine bd_el hf (fun r4 σ2 ho3 hf => ?_)
    refine x_goi h (x_runV (As := [.int x1]) (rest := []) C h (c_X8_isHouse l D G x1 σ (r4, σ2) ho3 _) lk_X8_219 rfl ⟨rfl, rfl, Nat.le_of_ble_eq_true rfl, Nat.le_of_ble_eq_true rfl⟩ (x_rcv C h 0 (by decide) (oM G _ _) rfl) hl.1 rfl (Nat.le_of_ble_eq_true rfl) dX8_rests_7) (fun H locs h => ?_)
    refine lv_if_ne (tgt := 16) hx hb dX8_rests_10 (by decide) (fun c5 => ?_) (fun c5 => ?_)
    · have hf := ifF c5 hf
      exact t_X8_rests_16 C hr x1 σ2 _ _ _ h (lv_sub hl [0, 1] rfl) hf
    · have hf := ifT c5 hf
      refine lv_ldc (v := (-1000000001)) hx hb C.2.2.2.1 (C.2.2.2.2.1 _ q434) dX8_rests_13 ?_
      exact x_iret C hr h hf dX8_rests_15
def f_X8_loud_140  (rec53 : Int32 × Int32 × Int32 × Int32 × Int32 × Int32 × Int32 × Int32 × St → Option (Int32 × St)) (rec64 : Int32 × Int32 × Int32 × Int32 × Int32 × Int32 × Int32 × Int32 × Int32 × St → Option (Int32 × St)) (x1 : Int32) (x2 : Int32) (x3 : Int32) (x4 : Int32) (x5 : Int32) (x6 : Int32) (x8 : Int32) (x9 : Int32) (y0 : Int32) (σ : St) : Option (Int32 × St) := rec64 (x1, x2, x3, x4, x5, x6, y0, x8, x9 + 1, σ)
set_option maxHeartbeats 4000000 in
theorem t_X8_loud_140 (C : Cx p s m args meth c cX8_loud 12 RX8 D (tyG G)) (hr : meth.sig.returnType = (some .int)) {o : Int32 × St}  {rec53 : Int32 × Int32 × Int32 × Int32 × Int32 × Int32 × Int32 × Int32 × St → Option (Int32 × St)} (IH53 : ∀ q, rec53 q = some o → ∀ (H : Heap) (locs : List Loc) (ls : Array Slot), Hs D A s.heap (wM G (q.2.2.2.2.2.2.2.2)) H locs → lv_has ls 12 [(0, .ref (G.1 0)), (1, .int (q.1)), (2, .int (q.2.1)), (3, .int (q.2.2.1)), (4, .int (q.2.2.2.1)), (5, .int (q.2.2.2.2.1)), (6, .int (q.2.2.2.2.2.1)), (7, .int (q.2.2.2.2.2.2.1)), (8, .int (q.2.2.2.2.2.2.2.1))] → W p l e ({ frames := 6, cells := 0, slots := 0, locals := 144 } : Room) s m args below meth c H locs 0 0 (MQ below (QI D (tyG G) (wM G) A o) args s 0 0 A) (F0 m 53 ls [])) {rec64 : Int32 × Int32 × Int32 × Int32 × Int32 × Int32 × Int32 × Int32 × Int32 × St → Option (Int32 × St)} (IH64 : ∀ q, rec64 q = some o → ∀ (H : Heap) (locs : List Loc) (ls : Array Slot), Hs D A s.heap (wM G (q.2.2.2.2.2.2.2.2.2)) H locs → lv_has ls 12 [(0, .ref (G.1 0)), (1, .int (q.1)), (2, .int (q.2.1)), (3, .int (q.2.2.1)), (4, .int (q.2.2.2.1)), (5, .int (q.2.2.2.2.1)), (6, .int (q.2.2.2.2.2.1)), (7, .int (q.2.2.2.2.2.2.1)), (8, .int (q.2.2.2.2.2.2.2.1)), (9, .int (q.2.2.2.2.2.2.2.2.1))] → W p l e ({ frames := 6, cells := 0, slots := 0, locals := 144 } : Room) s m args below meth c H locs 0 0 (MQ below (QI D (tyG G) (wM G) A o) args s 0 0 A) (F0 m 64 ls [])) : ∀ (x1 : Int32) (x2 : Int32) (x3 : Int32) (x4 : Int32) (x5 : Int32) (x6 : Int32) (x8 : Int32) (x9 : Int32) (y0 : Int32) (σ : St) (H : Heap) (locs : List Loc) (ls : Array Slot), Hs D A s.heap (wM G σ) H locs → lv_has ls 12 [(0, .ref (G.1 0)), (1, .int x1), (2, .int x2), (3, .int x3), (4, .int x4), (5, .int x5), (6, .int x6), (8, .int x8), (9, .int x9)] → f_X8_loud_140  rec53 rec64 x1 x2 x3 x4 x5 x6 x8 x9 y0 σ = some o → W p l e ({ frames := 6, cells := 0, slots := 0, locals := 144 } : Room) s m args below meth c H locs 0 0 (MQ below (QI D (tyG G) (wM G) A o) args s 0 0 A) (F0 m 140 ls [.int y0]) := by
  intro x1 x2 x3 x4 x5 x6 x8 x9 y0 σ H locs ls h hl hf
  unfold f_X8_loud_140 at hf
  have hx := C.1
  have hb := C.2.1
  refine lv_istore (lv' := [(7, .int y0), (0, .ref (G.1 0)), (1, .int x1), (2, .int x2), (3, .int x3), (4, .int x4), (5, .int x5), (6, .int x6), (8, .int x8), (9, .int x9)]) hx hb dX8_loud_140 hl (by decide) rfl (fun ls hl => ?_)
  refine lv_iinc (v := x9 + 1) (lv' := [(9, .int (x9 + 1)), (7, .int y0), (0, .ref (G.1 0)), (1, .int x1), (2, .int x2), (3, .int x3), (4, .int x4), (5, .int x5), (6, .int x6), (8, .int x8)]) hx hb dX8_loud_142 hl (k := 9) rfl rfl (by decide) rfl (fun ls hl => ?_)
  refine lv_goto (tgt := 64) hx hb dX8_loud_145 (by decide) ?_
  exact IH64 (x1, x2, x3, x4, x5, x6, y0, x8, x9 + 1, σ) hf _ _ _ h (lv_sub hl [2, 3, 4, 5, 6, 7, 8, 1, 9, 0] rfl)
def f_X8_loud_126  (rec53 : Int32 × Int32 × Int32 × Int32 × Int32 × Int32 × Int32 × Int32 × St → Option (Int32 × St)) (rec64 : Int32 × Int32 × Int32 × Int32 × Int32 × Int32 × Int32 × Int32 × Int32 × St → Option (Int32 × St)) (x1 : Int32) (x2 : Int32) (x3 : Int32) (x4 : Int32) (x5 : Int32) (x7 : Int32) (x8 : Int32) (x9 : Int32) (x10 : Int32) (x11 : Int32) (y0 : Int32) (σ : St) : Option (Int32 × St) := if x11 = 0 then f_X8_loud_140 rec53 rec64 x1 x2 x3 x4 x5 y0 x8 x9 x7 σ else f_X8_loud_140 rec53 rec64 x1 x2 x3 x4 x5 y0 x8 x9 x10 σ
set_option maxHeartbeats 4000000 in
theorem t_X8_loud_126 (C : Cx p s m args meth c cX8_loud 12 RX8 D (tyG G)) (hr : meth.sig.returnType = (some .int)) {o : Int32 × St}  {rec53 : Int32 × Int32 × Int32 × Int32 × Int32 × Int32 × Int32 × Int32 × St → Option (Int32 × St)} (IH53 : ∀ q, rec53 q = some o → ∀ (H : Heap) (locs : List Loc) (ls : Array Slot), Hs D A s.heap (wM G (q.2.2.2.2.2.2.2.2)) H locs → lv_has ls 12 [(0, .ref (G.1 0)), (1, .int (q.1)), (2, .int (q.2.1)), (3, .int (q.2.2.1)), (4, .int (q.2.2.2.1)), (5, .int (q.2.2.2.2.1)), (6, .int (q.2.2.2.2.2.1)), (7, .int (q.2.2.2.2.2.2.1)), (8, .int (q.2.2.2.2.2.2.2.1))] → W p l e ({ frames := 6, cells := 0, slots := 0, locals := 144 } : Room) s m args below meth c H locs 0 0 (MQ below (QI D (tyG G) (wM G) A o) args s 0 0 A) (F0 m 53 ls [])) {rec64 : Int32 × Int32 × Int32 × Int32 × Int32 × Int32 × Int32 × Int32 × Int32 × St → Option (Int32 × St)} (IH64 : ∀ q, rec64 q = some o → ∀ (H : Heap) (locs : List Loc) (ls : Array Slot), Hs D A s.heap (wM G (q.2.2.2.2.2.2.2.2.2)) H locs → lv_has ls 12 [(0, .ref (G.1 0)), (1, .int (q.1)), (2, .int (q.2.1)), (3, .int (q.2.2.1)), (4, .int (q.2.2.2.1)), (5, .int (q.2.2.2.2.1)), (6, .int (q.2.2.2.2.2.1)), (7, .int (q.2.2.2.2.2.2.1)), (8, .int (q.2.2.2.2.2.2.2.1)), (9, .int (q.2.2.2.2.2.2.2.2.1))] → W p l e ({ frames := 6, cells := 0, slots := 0, locals := 144 } : Room) s m args below meth c H locs 0 0 (MQ below (QI D (tyG G) (wM G) A o) args s 0 0 A) (F0 m 64 ls [])) : ∀ (x1 : Int32) (x2 : Int32) (x3 : Int32) (x4 : Int32) (x5 : Int32) (x7 : Int32) (x8 : Int32) (x9 : Int32) (x10 : Int32) (x11 : Int32) (y0 : Int32) (σ : St) (H : Heap) (locs : List Loc) (ls : Array Slot), Hs D A s.heap (wM G σ) H locs → lv_has ls 12 [(0, .ref (G.1 0)), (1, .int x1), (2, .int x2), (3, .int x3), (4, .int x4), (5, .int x5), (7, .int x7), (8, .int x8), (9, .int x9), (10, .int x10), (11, .int x11)] → f_X8_loud_126  rec53 rec64 x1 x2 x3 x4 x5 x7 x8 x9 x10 x11 y0 σ = some o → W p l e ({ frames := 6, cells := 0, slots := 0, locals := 144 } : Room) s m args below meth c H locs 0 0 (MQ below (QI D (tyG G) (wM G) A o) args s 0 0 A) (F0 m 126 ls [.int y0]) := by
  intro x1 x2 x3 x4 x5 x7 x8 x9 x10 x11 y0 σ H locs ls h hl hf
  unfold f_X8_loud_126 at hf
  have hx := C.1
  have hb := C.2.1
  refine lv_istore (lv' := [(6, .int y0), (0, .ref (G.1 0)), (1, .int x1), (2, .int x2), (3, .int x3), (4, .int x4), (5, .int x5), (7, .int x7), (8, .int x8), (9, .int x9), (10, .int x10), (11, .int x11)]) hx hb dX8_loud_126 hl (by decide) rfl (fun ls hl => ?_)
  refine lv_iload hx hb dX8_loud_128 (lv_at hl 11 rfl) ?_
  refine lv_if_eq (tgt := 138) hx hb dX8_loud_130 (by decide) (fun c26 => ?_) (fun c26 => ?_)
  · have hf := ifT c26 hf
    refine lv_iload hx hb dX8_loud_138 (lv_at hl 7 rfl) ?_
    exact t_X8_loud_140 C hr IH53 IH64 x1 x2 x3 x4 x5 y0 x8 x9 x7 σ _ _ _ h (lv_sub hl [1, 2, 3, 4, 5, 6, 0, 8, 9] rfl) hf
  · have hf := ifF c26 hf
    refine lv_iload hx hb dX8_loud_133 (lv_at hl 10 rfl) ?_
    refine lv_goto (tgt := 140) hx hb dX8_loud_135 (by decide) ?_
    exact t_X8_loud_140 C hr IH53 IH64 x1 x2 x3 x4 x5 y0 x8 x9 x10 σ _ _ _ h (lv_sub hl [1, 2, 3, 4, 5, 6, 0, 8, 9] rfl) hf
def f_X8_loud_106  (rec53 : Int32 × Int32 × Int32 × Int32 × Int32 × Int32 × Int32 × Int32 × St → Option (Int32 × St)) (rec64 : Int32 × Int32 × Int32 × Int32 × Int32 × Int32 × Int32 × Int32 × Int32 × St → Option (Int32 × St)) (x1 : Int32) (x2 : Int32) (x3 : Int32) (x4 : Int32) (x5 : Int32) (x6 : Int32) (x7 : Int32) (x8 : Int32) (x9 : Int32) (x10 : Int32) (y0 : Int32) (σ : St) : Option (Int32 × St) := if y0 = 0 then f_X8_loud_126 rec53 rec64 x1 x2 x3 x4 x5 x7 x8 x9 x10 y0 x6 σ else f_X8_loud_126 rec53 rec64 x1 x2 x3 x4 x5 x7 x8 x9 x10 y0 ((10 * x8) + x9) σ
set_option maxHeartbeats 4000000 in
theorem t_X8_loud_106 (C : Cx p s m args meth c cX8_loud 12 RX8 D (tyG G)) (hr : meth.sig.returnType = (some .int)) {o : Int32 × St}  {rec53 : Int32 × Int32 × Int32 × Int32 × Int32 × Int32 × Int32 × Int32 × St → Option (Int32 × St)} (IH53 : ∀ q, rec53 q = some o → ∀ (H : Heap) (locs : List Loc) (ls : Array Slot), Hs D A s.heap (wM G (q.2.2.2.2.2.2.2.2)) H locs → lv_has ls 12 [(0, .ref (G.1 0)), (1, .int (q.1)), (2, .int (q.2.1)), (3, .int (q.2.2.1)), (4, .int (q.2.2.2.1)), (5, .int (q.2.2.2.2.1)), (6, .int (q.2.2.2.2.2.1)), (7, .int (q.2.2.2.2.2.2.1)), (8, .int (q.2.2.2.2.2.2.2.1))] → W p l e ({ frames := 6, cells := 0, slots := 0, locals := 144 } : Room) s m args below meth c H locs 0 0 (MQ below (QI D (tyG G) (wM G) A o) args s 0 0 A) (F0 m 53 ls [])) {rec64 : Int32 × Int32 × Int32 × Int32 × Int32 × Int32 × Int32 × Int32 × Int32 × St → Option (Int32 × St)} (IH64 : ∀ q, rec64 q = some o → ∀ (H : Heap) (locs : List Loc) (ls : Array Slot), Hs D A s.heap (wM G (q.2.2.2.2.2.2.2.2.2)) H locs → lv_has ls 12 [(0, .ref (G.1 0)), (1, .int (q.1)), (2, .int (q.2.1)), (3, .int (q.2.2.1)), (4, .int (q.2.2.2.1)), (5, .int (q.2.2.2.2.1)), (6, .int (q.2.2.2.2.2.1)), (7, .int (q.2.2.2.2.2.2.1)), (8, .int (q.2.2.2.2.2.2.2.1)), (9, .int (q.2.2.2.2.2.2.2.2.1))] → W p l e ({ frames := 6, cells := 0, slots := 0, locals := 144 } : Room) s m args below meth c H locs 0 0 (MQ below (QI D (tyG G) (wM G) A o) args s 0 0 A) (F0 m 64 ls [])) : ∀ (x1 : Int32) (x2 : Int32) (x3 : Int32) (x4 : Int32) (x5 : Int32) (x6 : Int32) (x7 : Int32) (x8 : Int32) (x9 : Int32) (x10 : Int32) (y0 : Int32) (σ : St) (H : Heap) (locs : List Loc) (ls : Array Slot), Hs D A s.heap (wM G σ) H locs → lv_has ls 12 [(0, .ref (G.1 0)), (1, .int x1), (2, .int x2), (3, .int x3), (4, .int x4), (5, .int x5), (6, .int x6), (7, .int x7), (8, .int x8), (9, .int x9), (10, .int x10)] → f_X8_loud_106  rec53 rec64 x1 x2 x3 x4 x5 x6 x7 x8 x9 x10 y0 σ = some o → W p l e ({ frames := 6, cells := 0, slots := 0, locals := 144 } : Room) s m args below meth c H locs 0 0 (MQ below (QI D (tyG G) (wM G) A o) args s 0 0 A) (F0 m 106 ls [.int y0]) := by
  intro x1 x2 x3 x4 x5 x6 x7 x8 x9 x10 y0 σ H locs ls h hl hf
  unfold f_X8_loud_106 at hf
  have hx := C.1
  have hb := C.2.1
  refine lv_istore (lv' := [(11, .int y0), (0, .ref (G.1 0)), (1, .int x1), (2, .int x2), (3, .int x3), (4, .int x4), (5, .int x5), (6, .int x6), (7, .int x7), (8, .int x8), (9, .int x9), (10, .int x10)]) hx hb dX8_loud_106 hl (by decide) rfl (fun ls hl => ?_)
  refine lv_iload hx hb dX8_loud_108 (lv_at hl 0 rfl) ?_
  refine lv_if_eq (tgt := 124) hx hb dX8_loud_110 (by decide) (fun c25 => ?_) (fun c25 => ?_)
  · have hf := ifT c25 hf
    refine lv_iload hx hb dX8_loud_124 (lv_at hl 7 rfl) ?_
    exact t_X8_loud_126 C hr IH53 IH64 x1 x2 x3 x4 x5 x7 x8 x9 x10 y0 x6 σ _ _ _ h (lv_sub hl [1, 2, 3, 4, 5, 6, 8, 9, 10, 11, 0] rfl) hf
  · have hf := ifF c25 hf
    refine lv_bipush (v := 10) hx hb dX8_loud_113 (by decide) ?_
    refine lv_iload hx hb dX8_loud_115 (lv_at hl 9 rfl) ?_
    refine lv_imul hx hb dX8_loud_117 ?_
    refine lv_iload hx hb dX8_loud_118 (lv_at hl 10 rfl) ?_
    refine lv_iadd hx hb dX8_loud_120 ?_
    refine lv_goto (tgt := 126) hx hb dX8_loud_121 (by decide) ?_
    exact t_X8_loud_126 C hr IH53 IH64 x1 x2 x3 x4 x5 x7 x8 x9 x10 y0 ((10 * x8) + x9) σ _ _ _ h (lv_sub hl [1, 2, 3, 4, 5, 6, 8, 9, 10, 11, 0] rfl) hf
def f_X8_loud_101  (rec53 : Int32 × Int32 × Int32 × Int32 × Int32 × Int32 × Int32 × Int32 × St → Option (Int32 × St)) (rec64 : Int32 × Int32 × Int32 × Int32 × Int32 × Int32 × Int32 × Int32 × Int32 × St → Option (Int32 × St)) (x1 : Int32) (x2 : Int32) (x3 : Int32) (x4 : Int32) (x5 : Int32) (x6 : Int32) (x7 : Int32) (x8 : Int32) (x9 : Int32) (x10 : Int32) (σ : St) : Option (Int32 × St) := f_X8_loud_106 rec53 rec64 x1 x2 x3 x4 x5 x6 x7 x8 x9 x10 1 σ
set_option maxHeartbeats 4000000 in
theorem t_X8_loud_101 (C : Cx p s m args meth c cX8_loud 12 RX8 D (tyG G)) (hr : meth.sig.returnType = (some .int)) {o : Int32 × St}  {rec53 : Int32 × Int32 × Int32 × Int32 × Int32 × Int32 × Int32 × Int32 × St → Option (Int32 × St)} (IH53 : ∀ q, rec53 q = some o → ∀ (H : Heap) (locs : List Loc) (ls : Array Slot), Hs D A s.heap (wM G (q.2.2.2.2.2.2.2.2)) H locs → lv_has ls 12 [(0, .ref (G.1 0)), (1, .int (q.1)), (2, .int (q.2.1)), (3, .int (q.2.2.1)), (4, .int (q.2.2.2.1)), (5, .int (q.2.2.2.2.1)), (6, .int (q.2.2.2.2.2.1)), (7, .int (q.2.2.2.2.2.2.1)), (8, .int (q.2.2.2.2.2.2.2.1))] → W p l e ({ frames := 6, cells := 0, slots := 0, locals := 144 } : Room) s m args below meth c H locs 0 0 (MQ below (QI D (tyG G) (wM G) A o) args s 0 0 A) (F0 m 53 ls [])) {rec64 : Int32 × Int32 × Int32 × Int32 × Int32 × Int32 × Int32 × Int32 × Int32 × St → Option (Int32 × St)} (IH64 : ∀ q, rec64 q = some o → ∀ (H : Heap) (locs : List Loc) (ls : Array Slot), Hs D A s.heap (wM G (q.2.2.2.2.2.2.2.2.2)) H locs → lv_has ls 12 [(0, .ref (G.1 0)), (1, .int (q.1)), (2, .int (q.2.1)), (3, .int (q.2.2.1)), (4, .int (q.2.2.2.1)), (5, .int (q.2.2.2.2.1)), (6, .int (q.2.2.2.2.2.1)), (7, .int (q.2.2.2.2.2.2.1)), (8, .int (q.2.2.2.2.2.2.2.1)), (9, .int (q.2.2.2.2.2.2.2.2.1))] → W p l e ({ frames := 6, cells := 0, slots := 0, locals := 144 } : Room) s m args below meth c H locs 0 0 (MQ below (QI D (tyG G) (wM G) A o) args s 0 0 A) (F0 m 64 ls [])) : ∀ (x1 : Int32) (x2 : Int32) (x3 : Int32) (x4 : Int32) (x5 : Int32) (x6 : Int32) (x7 : Int32) (x8 : Int32) (x9 : Int32) (x10 : Int32) (σ : St) (H : Heap) (locs : List Loc) (ls : Array Slot), Hs D A s.heap (wM G σ) H locs → lv_has ls 12 [(0, .ref (G.1 0)), (1, .int x1), (2, .int x2), (3, .int x3), (4, .int x4), (5, .int x5), (6, .int x6), (7, .int x7), (8, .int x8), (9, .int x9), (10, .int x10)] → f_X8_loud_101  rec53 rec64 x1 x2 x3 x4 x5 x6 x7 x8 x9 x10 σ = some o → W p l e ({ frames := 6, cells := 0, slots := 0, locals := 144 } : Room) s m args below meth c H locs 0 0 (MQ below (QI D (tyG G) (wM G) A o) args s 0 0 A) (F0 m 101 ls []) := by
  intro x1 x2 x3 x4 x5 x6 x7 x8 x9 x10 σ H locs ls h hl hf
  unfold f_X8_loud_101 at hf
  have hx := C.1
  have hb := C.2.1
  refine lv_iconst (v := 1) hx hb dX8_loud_101 (by decide) ?_
  refine lv_goto (tgt := 106) hx hb dX8_loud_102 (by decide) ?_
  exact t_X8_loud_106 C hr IH53 IH64 x1 x2 x3 x4 x5 x6 x7 x8 x9 x10 1 σ _ _ _ h (lv_sub hl [0, 1, 2, 3, 4, 5, 6, 7, 8, 9, 10] rfl) hf
def b_X8_loud_64  (rec53 : Int32 × Int32 × Int32 × Int32 × Int32 × Int32 × Int32 × Int32 × St → Option (Int32 × St)) (rec64 : Int32 × Int32 × Int32 × Int32 × Int32 × Int32 × Int32 × Int32 × Int32 × St → Option (Int32 × St)) (x1 : Int32) (x2 : Int32) (x3 : Int32) (x4 : Int32) (x5 : Int32) (x6 : Int32) (x7 : Int32) (x8 : Int32) (x9 : Int32) (σ : St) : Option (Int32 × St) := if (10 : Int32) ≤ x9 then rec53 (x1, x2, x3, x4, x5, x6, x7, x8 + 10, σ) else bv (f_X8_setNoise x1 x8 x9 σ) (fun σ18 => bd (f_X8_oddsOfHouses (1 <<< (x1 &&& 31)) σ18) (fun r22 σ20 => if x6 < 0 then f_X8_loud_101 rec53 rec64 x1 x2 x3 x4 x5 x6 x7 x8 x9 r22 σ20 else if r22 ≤ x7 then f_X8_loud_106 rec53 rec64 x1 x2 x3 x4 x5 x6 x7 x8 x9 r22 0 σ20 else f_X8_loud_101 rec53 rec64 x1 x2 x3 x4 x5 x6 x7 x8 x9 r22 σ20))
def f_X8_loud_64  (rec53 : Int32 × Int32 × Int32 × Int32 × Int32 × Int32 × Int32 × Int32 × St → Option (Int32 × St)) (x1 : Int32) (x2 : Int32) (x3 : Int32) (x4 : Int32) (x5 : Int32) (x6 : Int32) (x7 : Int32) (x8 : Int32) (x9 : Int32) (σ : St) : Option (Int32 × St) := lp (fun (rec64 : Int32 × Int32 × Int32 × Int32 × Int32 × Int32 × Int32 × Int32 × Int32 × St → Option (Int32 × St)) (q : Int32 × Int32 × Int32 × Int32 × Int32 × Int32 × Int32 × Int32 × Int32 × St) => b_X8_loud_64  rec53 rec64 (q.1) (q.2.1) (q.2.2.1) (q.2.2.2.1) (q.2.2.2.2.1) (q.2.2.2.2.2.1) (q.2.2.2.2.2.2.1) (q.2.2.2.2.2.2.2.1) (q.2.2.2.2.2.2.2.2.1) (q.2.2.2.2.2.2.2.2.2)) 100000 (x1, x2, x3, x4, x5, x6, x7, x8, x9, σ)
set_option maxHeartbeats 4000000 in
theorem t_X8_loud_64 (C : Cx p s m args meth c cX8_loud 12 RX8 D (tyG G)) (hr : meth.sig.returnType = (some .int)) {o : Int32 × St}  {rec53 : Int32 × Int32 × Int32 × Int32 × Int32 × Int32 × Int32 × Int32 × St → Option (Int32 × St)} (IH53 : ∀ q, rec53 q = some o → ∀ (H : Heap) (locs : List Loc) (ls : Array Slot), Hs D A s.heap (wM G (q.2.2.2.2.2.2.2.2)) H locs → lv_has ls 12 [(0, .ref (G.1 0)), (1, .int (q.1)), (2, .int (q.2.1)), (3, .int (q.2.2.1)), (4, .int (q.2.2.2.1)), (5, .int (q.2.2.2.2.1)), (6, .int (q.2.2.2.2.2.1)), (7, .int (q.2.2.2.2.2.2.1)), (8, .int (q.2.2.2.2.2.2.2.1))] → W p l e ({ frames := 6, cells := 0, slots := 0, locals := 144 } : Room) s m args below meth c H locs 0 0 (MQ below (QI D (tyG G) (wM G) A o) args s 0 0 A) (F0 m 53 ls [])) : ∀ (x1 : Int32) (x2 : Int32) (x3 : Int32) (x4 : Int32) (x5 : Int32) (x6 : Int32) (x7 : Int32) (x8 : Int32) (x9 : Int32) (σ : St) (H : Heap) (locs : List Loc) (ls : Array Slot), Hs D A s.heap (wM G σ) H locs → lv_has ls 12 [(0, .ref (G.1 0)), (1, .int x1), (2, .int x2), (3, .int x3), (4, .int x4), (5, .int x5), (6, .int x6), (7, .int x7), (8, .int x8), (9, .int x9)] → f_X8_loud_64  rec53 x1 x2 x3 x4 x5 x6 x7 x8 x9 σ = some o → W p l e ({ frames := 6, cells := 0, slots := 0, locals := 144 } : Room) s m args below meth c H locs 0 0 (MQ below (QI D (tyG G) (wM G) A o) args s 0 0 A) (F0 m 64 ls []) := by
  intro x1 x2 x3 x4 x5 x6 x7 x8 x9 σ H locs ls h hl hf
  refine lp_el (P := fun q : Int32 × Int32 × Int32 × Int32 × Int32 × Int32 × Int32 × Int32 × Int32 × St => ∀ (H : Heap) (locs : List Loc) (ls : Array Slot), Hs D A s.heap (wM G (q.2.2.2.2.2.2.2.2.2)) H locs → lv_has ls 12 [(0, .ref (G.1 0)), (1, .int (q.1)), (2, .int (q.2.1)), (3, .int (q.2.2.1)), (4, .int (q.2.2.2.1)), (5, .int (q.2.2.2.2.1)), (6, .int (q.2.2.2.2.2.1)), (7, .int (q.2.2.2.2.2.2.1)), (8, .int (q.2.2.2.2.2.2.2.1)), (9, .int (q.2.2.2.2.2.2.2.2.1))] → W p l e ({ frames := 6, cells := 0, slots := 0, locals := 144 } : Room) s m args below meth c H locs 0 0 (MQ below (QI D (tyG G) (wM G) A o) args s 0 0 A) (F0 m 64 ls [])) (fun rec64 q IH64 hf => ?_) _ (x1, x2, x3, x4, x5, x6, x7, x8, x9, σ) hf H locs ls h hl
  obtain ⟨x1, x2, x3, x4, x5, x6, x7, x8, x9, σ⟩ := q
  intro H locs ls h hl
  have hl : lv_has ls 12 [(0, .ref (G.1 0)), (1, .int x1), (2, .int x2), (3, .int x3), (4, .int x4), (5, .int x5), (6, .int x6), (7, .int x7), (8, .int x8), (9, .int x9)] := hl
  have h : Hs D A s.heap (wM G σ) H locs := h
  have hf : b_X8_loud_64  rec53 rec64 x1 x2 x3 x4 x5 x6 x7 x8 x9 σ = some o := hf
  unfold b_X8_loud_64 at hf
  have hx := C.1
  have hb := C.2.1
  refine lv_iload hx hb dX8_loud_64 (lv_at hl 9 rfl) ?_
  refine lv_bipush (v := 10) hx hb dX8_loud_66 (by decide) ?_
  refine lv_icmp_ge (tgt := 148) hx hb dX8_loud_68 (by decide) (fun c17 => ?_) (fun c17 => ?_)
  · have hf := ifT c17 hf
    refine lv_iinc (v := x8 + 10) (lv' := [(8, .int (x8 + 10)), (0, .ref (G.1 0)), (1, .int x1), (2, .int x2), (3, .int x3), (4, .int x4), (5, .int x5), (6, .int x6), (7, .int x7), (9, .int x9)]) hx hb dX8_loud_148 hl (k := 8) rfl rfl (by decide) rfl (fun ls hl => ?_)
    refine lv_goto (tgt := 53) hx hb dX8_loud_151 (by decide) ?_
    exact IH53 (x1, x2, x3, x4, x5, x6, x7, x8 + 10, σ) hf _ _ _ h (lv_sub hl [1, 2, 3, 4, 5, 6, 7, 8, 0] rfl)
  · have hf := ifF c17 hf
    refine lv_aload_n hx hb dX8_loud_71 rfl (lv_at hl 0 rfl) ?_
    refine lv_iload_n hx hb dX8_loud_72 rfl (lv_at hl 1 rfl) ?_
    refine lv_iload hx hb dX8_loud_73 (lv_at hl 8 rfl) ?_
    refine lv_iload hx hb dX8_loud_75 (lv_at hl 9 rfl) ?_
    refine bv_el hf (fun σ18 ho19 hf => ?_)
    refine x_gov h (x_runV (As := [.int x1, .int x8, .int x9]) (rest := []) C h (c_X8_setNoise l D G x1 x8 x9 σ σ18 ho19 _) lk_X8_247 rfl ⟨rfl, rfl, Nat.le_of_ble_eq_true rfl, Nat.le_of_ble_eq_true rfl⟩ (x_rcv C h 0 (by decide) (oM G _ _) rfl) hl.1 rfl (Nat.le_of_ble_eq_true rfl) dX8_loud_77) (fun H locs h => ?_)
    refine lv_aload_n hx hb dX8_loud_80 rfl (lv_at hl 0 rfl) ?_
    refine lv_iconst (v := 1) hx hb dX8_loud_81 (by decide) ?_
    refine lv_iload_n hx hb dX8_loud_82 rfl (lv_at hl 1 rfl) ?_
    refine lv_ishl hx hb dX8_loud_83 ?_
    refine bd_el hf (fun r22 σ20 ho21 hf => ?_)
    refine x_goi h (x_runV (As := [.int (1 <<< (x1 &&& 31))]) (rest := []) C h (c_X8_oddsOfHouses l D G (1 <<< (x1 &&& 31)) σ18 (r22, σ20) ho21 _) lk_X8_291 rfl ⟨rfl, rfl, Nat.le_of_ble_eq_true rfl, Nat.le_of_ble_eq_true rfl⟩ (x_rcv C h 0 (by decide) (oM G _ _) rfl) hl.1 rfl (Nat.le_of_ble_eq_true rfl) dX8_loud_84) (fun H locs h => ?_)
    refine lv_istore (lv' := [(10, .int r22), (0, .ref (G.1 0)), (1, .int x1), (2, .int x2), (3, .int x3), (4, .int x4), (5, .int x5), (6, .int x6), (7, .int x7), (8, .int x8), (9, .int x9)]) hx hb dX8_loud_87 hl (by decide) rfl (fun ls hl => ?_)
    refine lv_iload hx hb dX8_loud_89 (lv_at hl 7 rfl) ?_
    refine lv_if_lt (tgt := 101) hx hb dX8_loud_91 (by decide) (fun c23 => ?_) (fun c23 => ?_)
    · have hf := ifT c23 hf
      exact t_X8_loud_101 C hr IH53 IH64 x1 x2 x3 x4 x5 x6 x7 x8 x9 r22 σ20 _ _ _ h (lv_sub hl [1, 2, 3, 4, 5, 6, 7, 8, 9, 10, 0] rfl) hf
    · have hf := ifF c23 hf
      refine lv_iload hx hb dX8_loud_94 (lv_at hl 0 rfl) ?_
      refine lv_iload hx hb dX8_loud_96 (lv_at hl 8 rfl) ?_
      refine lv_icmp_le (tgt := 105) hx hb dX8_loud_98 (by decide) (fun c24 => ?_) (fun c24 => ?_)
      · have hf := ifT c24 hf
        refine lv_iconst (v := 0) hx hb dX8_loud_105 (by decide) ?_
        exact t_X8_loud_106 C hr IH53 IH64 x1 x2 x3 x4 x5 x6 x7 x8 x9 r22 0 σ20 _ _ _ h (lv_sub hl [1, 2, 3, 4, 5, 6, 7, 8, 9, 10, 0] rfl) hf
      · have hf := ifF c24 hf
        exact t_X8_loud_101 C hr IH53 IH64 x1 x2 x3 x4 x5 x6 x7 x8 x9 r22 σ20 _ _ _ h (lv_sub hl [1, 2, 3, 4, 5, 6, 7, 8, 9, 10, 0] rfl) hf
def b_X8_loud_53   (rec53 : Int32 × Int32 × Int32 × Int32 × Int32 × Int32 × Int32 × Int32 × St → Option (Int32 × St)) (x1 : Int32) (x2 : Int32) (x3 : Int32) (x4 : Int32) (x5 : Int32) (x6 : Int32) (x7 : Int32) (x8 : Int32) (σ : St) : Option (Int32 × St) := if (600 : Int32) < x8 then bv (f_X8_setNoise x3 x4 x5 σ) (fun σ13 => if x2 = 0 then some (x6 / 10, σ13) else if x2 = 1 then some (x6 - x6 / 10 * 10, σ13) else some (x7, σ13)) else f_X8_loud_64 rec53 x1 x2 x3 x4 x5 x6 x7 x8 0 σ
def f_X8_loud_53   (x1 : Int32) (x2 : Int32) (x3 : Int32) (x4 : Int32) (x5 : Int32) (x6 : Int32) (x7 : Int32) (x8 : Int32) (σ : St) : Option (Int32 × St) := lp (fun (rec53 : Int32 × Int32 × Int32 × Int32 × Int32 × Int32 × Int32 × Int32 × St → Option (Int32 × St)) (q : Int32 × Int32 × Int32 × Int32 × Int32 × Int32 × Int32 × Int32 × St) => b_X8_loud_53   rec53 (q.1) (q.2.1) (q.2.2.1) (q.2.2.2.1) (q.2.2.2.2.1) (q.2.2.2.2.2.1) (q.2.2.2.2.2.2.1) (q.2.2.2.2.2.2.2.1) (q.2.2.2.2.2.2.2.2)) 100000 (x1, x2, x3, x4, x5, x6, x7, x8, σ)
set_option maxHeartbeats 4000000 in
theorem t_X8_loud_53 (C : Cx p s m args meth c cX8_loud 12 RX8 D (tyG G)) (hr : meth.sig.returnType = (some .int)) {o : Int32 × St}   : ∀ (x1 : Int32) (x2 : Int32) (x3 : Int32) (x4 : Int32) (x5 : Int32) (x6 : Int32) (x7 : Int32) (x8 : Int32) (σ : St) (H : Heap) (locs : List Loc) (ls : Array Slot), Hs D A s.heap (wM G σ) H locs → lv_has ls 12 [(0, .ref (G.1 0)), (1, .int x1), (2, .int x2), (3, .int x3), (4, .int x4), (5, .int x5), (6, .int x6), (7, .int x7), (8, .int x8)] → f_X8_loud_53   x1 x2 x3 x4 x5 x6 x7 x8 σ = some o → W p l e ({ frames := 6, cells := 0, slots := 0, locals := 144 } : Room) s m args below meth c H locs 0 0 (MQ below (QI D (tyG G) (wM G) A o) args s 0 0 A) (F0 m 53 ls []) := by
  intro x1 x2 x3 x4 x5 x6 x7 x8 σ H locs ls h hl hf
  refine lp_el (P := fun q : Int32 × Int32 × Int32 × Int32 × Int32 × Int32 × Int32 × Int32 × St => ∀ (H : Heap) (locs : List Loc) (ls : Array Slot), Hs D A s.heap (wM G (q.2.2.2.2.2.2.2.2)) H locs → lv_has ls 12 [(0, .ref (G.1 0)), (1, .int (q.1)), (2, .int (q.2.1)), (3, .int (q.2.2.1)), (4, .int (q.2.2.2.1)), (5, .int (q.2.2.2.2.1)), (6, .int (q.2.2.2.2.2.1)), (7, .int (q.2.2.2.2.2.2.1)), (8, .int (q.2.2.2.2.2.2.2.1))] → W p l e ({ frames := 6, cells := 0, slots := 0, locals := 144 } : Room) s m args below meth c H locs 0 0 (MQ below (QI D (tyG G) (wM G) A o) args s 0 0 A) (F0 m 53 ls [])) (fun rec53 q IH53 hf => ?_) _ (x1, x2, x3, x4, x5, x6, x7, x8, σ) hf H locs ls h hl
  obtain ⟨x1, x2, x3, x4, x5, x6, x7, x8, σ⟩ := q
  intro H locs ls h hl
  have hl : lv_has ls 12 [(0, .ref (G.1 0)), (1, .int x1), (2, .int x2), (3, .int x3), (4, .int x4), (5, .int x5), (6, .int x6), (7, .int x7), (8, .int x8)] := hl
  have h : Hs D A s.heap (wM G σ) H locs := h
  have hf : b_X8_loud_53   rec53 x1 x2 x3 x4 x5 x6 x7 x8 σ = some o := hf
  unfold b_X8_loud_53 at hf
  have hx := C.1
  have hb := C.2.1
  refine lv_iload hx hb dX8_loud_53 (lv_at hl 8 rfl) ?_
  refine lv_sipush (v := 600) hx hb dX8_loud_55 (by decide) ?_
  refine lv_icmp_gt (tgt := 154) hx hb dX8_loud_58 (by decide) (fun c12 => ?_) (fun c12 => ?_)
  · have hf := ifT c12 hf
    refine lv_aload_n hx hb dX8_loud_154 rfl (lv_at hl 0 rfl) ?_
    refine lv_iload_n hx hb dX8_loud_155 rfl (lv_at hl 3 rfl) ?_
    refine lv_iload hx hb dX8_loud_156 (lv_at hl 4 rfl) ?_
    refine lv_iload hx hb dX8_loud_158 (lv_at hl 5 rfl) ?_
    refine bv_el hf (fun σ13 ho14 hf => ?_)
    refine x_gov h (x_runV (As := [.int x3, .int x4, .int x5]) (rest := []) C h (c_X8_setNoise l D G x3 x4 x5 σ σ13 ho14 _) lk_X8_247 rfl ⟨rfl, rfl, Nat.le_of_ble_eq_true rfl, Nat.le_of_ble_eq_true rfl⟩ (x_rcv C h 0 (by decide) (oM G _ _) rfl) hl.1 rfl (Nat.le_of_ble_eq_true rfl) dX8_loud_160) (fun H locs h => ?_)
    refine lv_iload_n hx hb dX8_loud_163 rfl (lv_at hl 2 rfl) ?_
    refine lv_if_ne (tgt := 175) hx hb dX8_loud_164 (by decide) (fun c15 => ?_) (fun c15 => ?_)
    · have hf := ifF c15 hf
      refine lv_iload_n hx hb dX8_loud_175 rfl (lv_at hl 2 rfl) ?_
      refine lv_iconst (v := 1) hx hb dX8_loud_176 (by decide) ?_
      refine lv_icmp_ne (tgt := 188) hx hb dX8_loud_177 (by decide) (fun c16 => ?_) (fun c16 => ?_)
      · have hf := ifF c16 hf
        refine lv_iload hx hb dX8_loud_188 (lv_at hl 7 rfl) ?_
        exact x_iret C hr h hf dX8_loud_190
      · have hf := ifT c16 hf
        refine lv_iload hx hb dX8_loud_180 (lv_at hl 6 rfl) ?_
        refine lv_bipush (v := 10) hx hb dX8_loud_182 (by decide) ?_
        refine lv_irem hx hb dX8_loud_184 (by decide) ?_
        refine lv_goto (tgt := 190) hx hb dX8_loud_185 (by decide) ?_
        exact x_iret C hr h hf dX8_loud_190
    · have hf := ifT c15 hf
      refine lv_iload hx hb dX8_loud_167 (lv_at hl 6 rfl) ?_
      refine lv_bipush (v := 10) hx hb dX8_loud_169 (by decide) ?_
      refine lv_idiv hx hb dX8_loud_171 (by decide) ?_
      refine lv_goto (tgt := 190) hx hb dX8_loud_172 (by decide) ?_
      exact x_iret C hr h hf dX8_loud_190
  · have hf := ifF c12 hf
    refine lv_iconst (v := 0) hx hb dX8_loud_61 (by decide) ?_
    refine lv_istore (lv' := [(9, .int 0), (0, .ref (G.1 0)), (1, .int x1), (2, .int x2), (3, .int x3), (4, .int x4), (5, .int x5), (6, .int x6), (7, .int x7), (8, .int x8)]) hx hb dX8_loud_62 hl (by decide) rfl (fun ls hl => ?_)
    exact t_X8_loud_64 C hr IH53 x1 x2 x3 x4 x5 x6 x7 x8 0 σ _ _ _ h (lv_sub hl [1, 2, 3, 4, 5, 6, 7, 8, 9, 0] rfl) hf
def f_X8_loud  (x1 : Int32) (x2 : Int32) (σ : St) : Option (Int32 × St) := bd (f_X8_isHouse x1 σ) (fun r3 σ1 => if r3 = 0 then some ((-1000000001), σ1) else bd (f_X8_in x2.toInt64 0 2 σ1) (fun r7 σ5 => if r7 = 0 then some ((-1000000002), σ5) else nm (σ5.1 0 12) (fun z9 => nm (σ5.1 0 10) (fun z10 => nm (σ5.1 0 11) (fun z11 => f_X8_loud_53 x1 x2 z9 z10 z11 ((-1)) 0 60 σ5)))))
set_option maxHeartbeats 4000000 in
theorem c_X8_loud (l : Launch) (D : va_G) (G : Geo)   (x1 : Int32) (x2 : Int32) (σ : St) (o : Int32 × St) (hf : f_X8_loud  x1 x2 σ = some o) : CI l D (tyG G) (wM G) yX8_loud cX8_loud 12 ((some .int)) ({ frames := 6, cells := 0, slots := 0, locals := 144 }) [.ref (G.1 0), .int x1, .int x2] σ o := by
  refine met_of (Qc := fun A => QI D (tyG G) (wM G) A o) pn_X8 (Nat.le_of_ble_eq_true rfl) (fun p e s m below meth c A ls C hr h hl => ?_)
  have C : Cx p s m _ meth c cX8_loud 12 RX8 D (tyG G) := C
  have hl : lv_has ls 12 [(0, .ref (G.1 0)), (1, .int x1), (2, .int x2)] := hl
  unfold f_X8_loud at hf
  have hx := C.1
  have hb := C.2.1
  refine lv_aload_n hx hb dX8_loud_0 rfl (lv_at hl 0 rfl) ?_
  refine lv_iload_n hx hb dX8_loud_1 rfl (lv_at hl 1 rfl) ?_
  refine bd_el hf (fun r3 σ1 ho2 hf => ?_)
  refine x_goi h (x_runV (As := [.int x1]) (rest := []) C h (c_X8_isHouse l D G x1 σ (r3, σ1) ho2 _) lk_X8_219 rfl ⟨rfl, rfl, Nat.le_of_ble_eq_true rfl, Nat.le_of_ble_eq_true rfl⟩ (x_rcv C h 0 (by decide) (oM G _ _) rfl) hl.1 rfl (Nat.le_of_ble_eq_true rfl) dX8_loud_2) (fun H locs h => ?_)
  refine lv_if_ne (tgt := 11) hx hb dX8_loud_5 (by decide) (fun c4 => ?_) (fun c4 => ?_)
  · have hf := ifF c4 hf
    refine lv_iload_n hx hb dX8_loud_11 rfl (lv_at hl 2 rfl) ?_
    refine lv_i2l (v := x2.toInt64) hx hb dX8_loud_12 rfl ?_
    refine lv_lconst (v := 0) hx hb dX8_loud_13 (by decide) ?_
    refine lv_ldc2 (v := 2) hx hb C.2.2.2.1 (C.2.2.2.2.1 _ q539) dX8_loud_14 ?_
    refine bd_el hf (fun r7 σ5 ho6 hf => ?_)
    refine x_goi h (x_runS (As := [.long x2.toInt64, .long 0, .long 2]) (rest := []) C h (c_X8_in l D G x2.toInt64 0 2 σ1 (r7, σ5) ho6 _) lk_X8_112 rfl ⟨rfl, rfl, Nat.le_of_ble_eq_true rfl, Nat.le_of_ble_eq_true rfl⟩ hl.1 rfl (Nat.le_of_ble_eq_true rfl) dX8_loud_17) (fun H locs h => ?_)
    refine lv_if_ne (tgt := 26) hx hb dX8_loud_20 (by decide) (fun c8 => ?_) (fun c8 => ?_)
    · have hf := ifF c8 hf
      refine lv_aload_n hx hb dX8_loud_26 rfl (lv_at hl 0 rfl) ?_
      refine gf_X8_41 C h dX8_loud_27 ?_
      refine nm_el hf (fun z9 ez9 hf => ?_)
      refine x_topi ez9 ?_
      refine lv_istore_n (lv' := [(3, .int z9), (0, .ref (G.1 0)), (1, .int x1), (2, .int x2)]) hx hb dX8_loud_30 rfl hl (by decide) rfl (fun ls hl => ?_)
      refine lv_aload_n hx hb dX8_loud_31 rfl (lv_at hl 1 rfl) ?_
      refine gf_X8_34 C h dX8_loud_32 ?_
      refine nm_el hf (fun z10 ez10 hf => ?_)
      refine x_topi ez10 ?_
      refine lv_istore (lv' := [(4, .int z10), (3, .int z9), (0, .ref (G.1 0)), (1, .int x1), (2, .int x2)]) hx hb dX8_loud_35 hl (by decide) rfl (fun ls hl => ?_)
      refine lv_aload_n hx hb dX8_loud_37 rfl (lv_at hl 2 rfl) ?_
      refine gf_X8_38 C h dX8_loud_38 ?_
      refine nm_el hf (fun z11 ez11 hf => ?_)
      refine x_topi ez11 ?_
      refine lv_istore (lv' := [(5, .int z11), (4, .int z10), (3, .int z9), (0, .ref (G.1 0)), (1, .int x1), (2, .int x2)]) hx hb dX8_loud_41 hl (by decide) rfl (fun ls hl => ?_)
      refine lv_iconst (v := (-1)) hx hb dX8_loud_43 (by decide) ?_
      refine lv_istore (lv' := [(6, .int ((-1))), (5, .int z11), (4, .int z10), (3, .int z9), (0, .ref (G.1 0)), (1, .int x1), (2, .int x2)]) hx hb dX8_loud_44 hl (by decide) rfl (fun ls hl => ?_)
      refine lv_iconst (v := 0) hx hb dX8_loud_46 (by decide) ?_
      refine lv_istore (lv' := [(7, .int 0), (6, .int ((-1))), (5, .int z11), (4, .int z10), (3, .int z9), (0, .ref (G.1 0)), (1, .int x1), (2, .int x2)]) hx hb dX8_loud_47 hl (by decide) rfl (fun ls hl => ?_)
      refine lv_bipush (v := 60) hx hb dX8_loud_49 (by decide) ?_
      refine lv_istore (lv' := [(8, .int 60), (7, .int 0), (6, .int ((-1))), (5, .int z11), (4, .int z10), (3, .int z9), (0, .ref (G.1 0)), (1, .int x1), (2, .int x2)]) hx hb dX8_loud_51 hl (by decide) rfl (fun ls hl => ?_)
      exact t_X8_loud_53 C hr x1 x2 z9 z10 z11 ((-1)) 0 60 σ5 _ _ _ h (lv_sub hl [6, 7, 8, 5, 4, 3, 2, 1, 0] rfl) hf
    · have hf := ifT c8 hf
      refine lv_ldc (v := (-1000000002)) hx hb C.2.2.2.1 (C.2.2.2.2.1 _ q167) dX8_loud_23 ?_
      exact x_iret C hr h hf dX8_loud_25
  · have hf := ifT c4 hf
    refine lv_ldc (v := (-1000000001)) hx hb C.2.2.2.1 (C.2.2.2.2.1 _ q434) dX8_loud_8 ?_
    exact x_iret C hr h hf dX8_loud_10
def f_X8_startWork_30  (rec2 : Int32 × Int32 × St → Option (St)) (x1 : Int32) (x2 : Int32) (y1 : Int32) (y2 : Int64) (σ : St) : Option (St) := ck (inb y1 8) (nm (sJ σ 24 (y1 : Int32).toNatClampNeg y2) (fun σ5 => rec2 (x1, x2 + 1, σ5)))
set_option maxHeartbeats 4000000 in
theorem t_X8_startWork_30 (C : Cx p s m args meth c cX8_startWork 3 RX8 D (tyG G)) (hr : meth.sig.returnType = none) {o : St}  {rec2 : Int32 × Int32 × St → Option (St)} (IH2 : ∀ q, rec2 q = some o → ∀ (H : Heap) (locs : List Loc) (ls : Array Slot), Hs D A s.heap (wM G (q.2.2)) H locs → lv_has ls 3 [(0, .ref (G.1 0)), (1, .int (q.1)), (2, .int (q.2.1))] → W p l e ({ frames := 0, cells := 0, slots := 0, locals := 0 } : Room) s m args below meth c H locs 0 0 (MQ below (QV D (tyG G) (wM G) A o) args s 0 0 A) (F0 m 2 ls [])) : ∀ (x1 : Int32) (x2 : Int32) (y1 : Int32) (y2 : Int64) (σ : St) (H : Heap) (locs : List Loc) (ls : Array Slot), Hs D A s.heap (wM G σ) H locs → lv_has ls 3 [(0, .ref (G.1 0)), (1, .int x1), (2, .int x2)] → f_X8_startWork_30  rec2 x1 x2 y1 y2 σ = some o → W p l e ({ frames := 0, cells := 0, slots := 0, locals := 0 } : Room) s m args below meth c H locs 0 0 (MQ below (QV D (tyG G) (wM G) A o) args s 0 0 A) (F0 m 30 ls [.long y2, .int y1, .ref (G.1 24)]) := by
  intro x1 x2 y1 y2 σ H locs ls h hl hf
  unfold f_X8_startWork_30 at hf
  have hx := C.1
  have hb := C.2.1
  refine ckb_el hf (fun hin4 hf => ?_)
  refine nm_el hf (fun σ5 hσ5 hf => ?_)
  refine x_last C h 24 2 (by decide) (fun f => aM_24 G _ f) rfl hin4 dX8_startWork_30 hσ5 (fun H locs h => ?_)
  refine lv_iinc (v := x2 + 1) (lv' := [(2, .int (x2 + 1)), (0, .ref (G.1 0)), (1, .int x1)]) hx hb dX8_startWork_31 hl (k := 2) rfl rfl (by decide) rfl (fun ls hl => ?_)
  refine lv_goto (tgt := 2) hx hb dX8_startWork_34 (by decide) ?_
  exact IH2 (x1, x2 + 1, σ5) hf _ _ _ h (lv_sub hl [1, 2, 0] rfl)
def b_X8_startWork_2   (rec2 : Int32 × Int32 × St → Option (St)) (x1 : Int32) (x2 : Int32) (σ : St) : Option (St) := if (8 : Int32) ≤ x2 then some σ else rd (σ.1 9) 5 x1 (fun v2 => if x2 = v2 then f_X8_startWork_30 rec2 x1 x2 x2 1000000000 σ else f_X8_startWork_30 rec2 x1 x2 x2 0 σ)
def f_X8_startWork_2   (x1 : Int32) (x2 : Int32) (σ : St) : Option (St) := lp (fun (rec2 : Int32 × Int32 × St → Option (St)) (q : Int32 × Int32 × St) => b_X8_startWork_2   rec2 (q.1) (q.2.1) (q.2.2)) 100000 (x1, x2, σ)
set_option maxHeartbeats 4000000 in
theorem t_X8_startWork_2 (C : Cx p s m args meth c cX8_startWork 3 RX8 D (tyG G)) (hr : meth.sig.returnType = none) {o : St}   : ∀ (x1 : Int32) (x2 : Int32) (σ : St) (H : Heap) (locs : List Loc) (ls : Array Slot), Hs D A s.heap (wM G σ) H locs → lv_has ls 3 [(0, .ref (G.1 0)), (1, .int x1), (2, .int x2)] → f_X8_startWork_2   x1 x2 σ = some o → W p l e ({ frames := 0, cells := 0, slots := 0, locals := 0 } : Room) s m args below meth c H locs 0 0 (MQ below (QV D (tyG G) (wM G) A o) args s 0 0 A) (F0 m 2 ls []) := by
  intro x1 x2 σ H locs ls h hl hf
  refine lp_el (P := fun q : Int32 × Int32 × St => ∀ (H : Heap) (locs : List Loc) (ls : Array Slot), Hs D A s.heap (wM G (q.2.2)) H locs → lv_has ls 3 [(0, .ref (G.1 0)), (1, .int (q.1)), (2, .int (q.2.1))] → W p l e ({ frames := 0, cells := 0, slots := 0, locals := 0 } : Room) s m args below meth c H locs 0 0 (MQ below (QV D (tyG G) (wM G) A o) args s 0 0 A) (F0 m 2 ls [])) (fun rec2 q IH2 hf => ?_) _ (x1, x2, σ) hf H locs ls h hl
  obtain ⟨x1, x2, σ⟩ := q
  intro H locs ls h hl
  have hl : lv_has ls 3 [(0, .ref (G.1 0)), (1, .int x1), (2, .int x2)] := hl
  have h : Hs D A s.heap (wM G σ) H locs := h
  have hf : b_X8_startWork_2   rec2 x1 x2 σ = some o := hf
  unfold b_X8_startWork_2 at hf
  have hx := C.1
  have hb := C.2.1
  refine lv_iload_n hx hb dX8_startWork_2 rfl (lv_at hl 2 rfl) ?_
  refine lv_bipush (v := 8) hx hb dX8_startWork_3 (by decide) ?_
  refine lv_icmp_ge (tgt := 37) hx hb dX8_startWork_5 (by decide) (fun c1 => ?_) (fun c1 => ?_)
  · have hf := ifT c1 hf
    exact x_vret C hr h hf dX8_startWork_37
  · have hf := ifF c1 hf
    refine lv_aload_n hx hb dX8_startWork_8 rfl (lv_at hl 0 rfl) ?_
    refine gf_X8_92 C h dX8_startWork_9 ?_
    refine lv_iload_n hx hb dX8_startWork_12 rfl (lv_at hl 2 rfl) ?_
    refine lv_iload_n hx hb dX8_startWork_13 rfl (lv_at hl 2 rfl) ?_
    refine lv_aload_n hx hb dX8_startWork_14 rfl (lv_at hl 0 rfl) ?_
    refine gf_X8_44 C h dX8_startWork_15 ?_
    refine lv_iload_n hx hb dX8_startWork_18 rfl (lv_at hl 1 rfl) ?_
    refine rd_el hf (fun v2 hinv2 hv2 hf => ?_)
    refine x_iald C h 9 1 (by decide) (aM_9 G _ _) rfl hinv2 hv2 dX8_startWork_19 ?_
    refine lv_icmp_ne (tgt := 29) hx hb dX8_startWork_20 (by decide) (fun c3 => ?_) (fun c3 => ?_)
    · have hf := ifF c3 hf
      refine lv_lconst (v := 0) hx hb dX8_startWork_29 (by decide) ?_
      exact t_X8_startWork_30 C hr IH2 x1 x2 x2 0 σ _ _ _ h (lv_sub hl [0, 1, 2] rfl) hf
    · have hf := ifT c3 hf
      refine lv_ldc2 (v := 1000000000) hx hb C.2.2.2.1 (C.2.2.2.2.1 _ q630) dX8_startWork_23 ?_
      refine lv_goto (tgt := 30) hx hb dX8_startWork_26 (by decide) ?_
      exact t_X8_startWork_30 C hr IH2 x1 x2 x2 1000000000 σ _ _ _ h (lv_sub hl [0, 1, 2] rfl) hf
def f_X8_startWork  (x1 : Int32) (σ : St) : Option (St) := f_X8_startWork_2 x1 0 σ
set_option maxHeartbeats 4000000 in
theorem c_X8_startWork (l : Launch) (D : va_G) (G : Geo)   (x1 : Int32) (σ : St) (o : St) (hf : f_X8_startWork  x1 σ = some o) : CV l D (tyG G) (wM G) yX8_startWork cX8_startWork 3 none ({ frames := 0, cells := 0, slots := 0, locals := 0 }) [.ref (G.1 0), .int x1] σ o := by
  refine met_of (Qc := fun A => QV D (tyG G) (wM G) A o) pn_X8 (Nat.le_of_ble_eq_true rfl) (fun p e s m below meth c A ls C hr h hl => ?_)
  have C : Cx p s m _ meth c cX8_startWork 3 RX8 D (tyG G) := C
  have hl : lv_has ls 3 [(0, .ref (G.1 0)), (1, .int x1)] := hl
  unfold f_X8_startWork at hf
  have hx := C.1
  have hb := C.2.1
  refine lv_iconst (v := 0) hx hb dX8_startWork_0 (by decide) ?_
  refine lv_istore_n (lv' := [(2, .int 0), (0, .ref (G.1 0)), (1, .int x1)]) hx hb dX8_startWork_1 rfl hl (by decide) rfl (fun ls hl => ?_)
  exact t_X8_startWork_2 C hr x1 0 σ _ _ _ h (lv_sub hl [1, 2, 0] rfl) hf
def f_X8_workDay_86  (rec13 : Int32 × Int64 × Int64 × Int32 × St → Option (St)) (x1 : Int32) (x2 : Int64) (x4 : Int64) (x6 : Int32) (y1 : Int32) (y2 : Int64) (σ : St) : Option (St) := ck (inb y1 8) (nm (sJ σ 24 (y1 : Int32).toNatClampNeg y2) (fun σ14 => rec13 (x1, x2, x4, x6 + (-1), σ14)))
set_option maxHeartbeats 4000000 in
theorem t_X8_workDay_86 (C : Cx p s m args meth c cX8_workDay 9 RX8 D (tyG G)) (hr : meth.sig.returnType = none) {o : St}  {rec13 : Int32 × Int64 × Int64 × Int32 × St → Option (St)} (IH13 : ∀ q, rec13 q = some o → ∀ (H : Heap) (locs : List Loc) (ls : Array Slot), Hs D A s.heap (wM G (q.2.2.2.2)) H locs → lv_has ls 9 [(0, .ref (G.1 0)), (1, .int (q.1)), (2, .long (q.2.1)), (4, .long (q.2.2.1)), (6, .int (q.2.2.2.1))] → W p l e ({ frames := 0, cells := 0, slots := 0, locals := 0 } : Room) s m args below meth c H locs 0 0 (MQ below (QV D (tyG G) (wM G) A o) args s 0 0 A) (F0 m 13 ls [])) : ∀ (x1 : Int32) (x2 : Int64) (x4 : Int64) (x6 : Int32) (y1 : Int32) (y2 : Int64) (σ : St) (H : Heap) (locs : List Loc) (ls : Array Slot), Hs D A s.heap (wM G σ) H locs → lv_has ls 9 [(0, .ref (G.1 0)), (1, .int x1), (2, .long x2), (4, .long x4), (6, .int x6)] → f_X8_workDay_86  rec13 x1 x2 x4 x6 y1 y2 σ = some o → W p l e ({ frames := 0, cells := 0, slots := 0, locals := 0 } : Room) s m args below meth c H locs 0 0 (MQ below (QV D (tyG G) (wM G) A o) args s 0 0 A) (F0 m 86 ls [.long y2, .int y1, .ref (G.1 24)]) := by
  intro x1 x2 x4 x6 y1 y2 σ H locs ls h hl hf
  unfold f_X8_workDay_86 at hf
  have hx := C.1
  have hb := C.2.1
  refine ckb_el hf (fun hin13 hf => ?_)
  refine nm_el hf (fun σ14 hσ14 hf => ?_)
  refine x_last C h 24 2 (by decide) (fun f => aM_24 G _ f) rfl hin13 dX8_workDay_86 hσ14 (fun H locs h => ?_)
  refine lv_iinc (v := x6 + (-1)) (lv' := [(6, .int (x6 + (-1))), (0, .ref (G.1 0)), (1, .int x1), (2, .long x2), (4, .long x4)]) hx hb dX8_workDay_87 hl (k := 4) rfl rfl (by decide) rfl (fun ls hl => ?_)
  refine lv_goto (tgt := 13) hx hb dX8_workDay_90 (by decide) ?_
  exact IH13 (x1, x2, x4, x6 + (-1), σ14) hf _ _ _ h (lv_sub hl [1, 2, 3, 4, 0] rfl)
def b_X8_workDay_13   (rec13 : Int32 × Int64 × Int64 × Int32 × St → Option (St)) (x1 : Int32) (x2 : Int64) (x4 : Int64) (x6 : Int32) (σ : St) : Option (St) := if x6 < 0 then ck (inb 0 8) (nm (sJ σ 24 (0 : Int32).toNatClampNeg x4) (fun σ5 => some σ5)) else rdL (σ.2 24) 8 x6 (fun v6 => nm ((v6 * x2) / 1000000000) (fun z7 => rdL (σ.2 24) 8 x6 (fun v8 => nm (x4 + (v8 - z7)) (fun z9 => rd (σ.1 1) 5 x1 (fun v10 => if (x6 + 1) = v10 then rdL (σ.2 24) 8 (x6 + 1) (fun v12 => f_X8_workDay_86 rec13 x1 x2 z9 x6 (x6 + 1) (v12 + z7) σ) else f_X8_workDay_86 rec13 x1 x2 z9 x6 (x6 + 1) z7 σ)))))
def f_X8_workDay_13   (x1 : Int32) (x2 : Int64) (x4 : Int64) (x6 : Int32) (σ : St) : Option (St) := lp (fun (rec13 : Int32 × Int64 × Int64 × Int32 × St → Option (St)) (q : Int32 × Int64 × Int64 × Int32 × St) => b_X8_workDay_13   rec13 (q.1) (q.2.1) (q.2.2.1) (q.2.2.2.1) (q.2.2.2.2)) 100000 (x1, x2, x4, x6, σ)
set_option maxHeartbeats 4000000 in
theorem t_X8_workDay_13 (C : Cx p s m args meth c cX8_workDay 9 RX8 D (tyG G)) (hr : meth.sig.returnType = none) {o : St}   : ∀ (x1 : Int32) (x2 : Int64) (x4 : Int64) (x6 : Int32) (σ : St) (H : Heap) (locs : List Loc) (ls : Array Slot), Hs D A s.heap (wM G σ) H locs → lv_has ls 9 [(0, .ref (G.1 0)), (1, .int x1), (2, .long x2), (4, .long x4), (6, .int x6)] → f_X8_workDay_13   x1 x2 x4 x6 σ = some o → W p l e ({ frames := 0, cells := 0, slots := 0, locals := 0 } : Room) s m args below meth c H locs 0 0 (MQ below (QV D (tyG G) (wM G) A o) args s 0 0 A) (F0 m 13 ls []) := by
  intro x1 x2 x4 x6 σ H locs ls h hl hf
  refine lp_el (P := fun q : Int32 × Int64 × Int64 × Int32 × St => ∀ (H : Heap) (locs : List Loc) (ls : Array Slot), Hs D A s.heap (wM G (q.2.2.2.2)) H locs → lv_has ls 9 [(0, .ref (G.1 0)), (1, .int (q.1)), (2, .long (q.2.1)), (4, .long (q.2.2.1)), (6, .int (q.2.2.2.1))] → W p l e ({ frames := 0, cells := 0, slots := 0, locals := 0 } : Room) s m args below meth c H locs 0 0 (MQ below (QV D (tyG G) (wM G) A o) args s 0 0 A) (F0 m 13 ls [])) (fun rec13 q IH13 hf => ?_) _ (x1, x2, x4, x6, σ) hf H locs ls h hl
  obtain ⟨x1, x2, x4, x6, σ⟩ := q
  intro H locs ls h hl
  have hl : lv_has ls 9 [(0, .ref (G.1 0)), (1, .int x1), (2, .long x2), (4, .long x4), (6, .int x6)] := hl
  have h : Hs D A s.heap (wM G σ) H locs := h
  have hf : b_X8_workDay_13   rec13 x1 x2 x4 x6 σ = some o := hf
  unfold b_X8_workDay_13 at hf
  have hx := C.1
  have hb := C.2.1
  refine lv_iload hx hb dX8_workDay_13 (lv_at hl 4 rfl) ?_
  refine lv_if_lt (tgt := 93) hx hb dX8_workDay_15 (by decide) (fun c3 => ?_) (fun c3 => ?_)
  · have hf := ifT c3 hf
    refine lv_aload_n hx hb dX8_workDay_93 rfl (lv_at hl 0 rfl) ?_
    refine gf_X8_92 C h dX8_workDay_94 ?_
    refine lv_iconst (v := 0) hx hb dX8_workDay_97 (by decide) ?_
    refine lv_lload hx hb dX8_workDay_98 (lv_at hl 3 rfl) ?_
    refine ckb_el hf (fun hin4 hf => ?_)
    refine nm_el hf (fun σ5 hσ5 hf => ?_)
    refine x_last C h 24 2 (by decide) (fun f => aM_24 G _ f) rfl hin4 dX8_workDay_100 hσ5 (fun H locs h => ?_)
    exact x_vret C hr h hf dX8_workDay_101
  · have hf := ifF c3 hf
    refine lv_aload_n hx hb dX8_workDay_18 rfl (lv_at hl 0 rfl) ?_
    refine gf_X8_92 C h dX8_workDay_19 ?_
    refine lv_iload hx hb dX8_workDay_22 (lv_at hl 4 rfl) ?_
    refine rdL_el hf (fun v6 hinv6 hv6 hf => ?_)
    refine x_lald C h 24 2 (by decide) (aM_24 G _ _) rfl hinv6 hv6 dX8_workDay_24 ?_
    refine lv_lload_n hx hb dX8_workDay_25 rfl (lv_at hl 2 rfl) ?_
    refine lv_lmul hx hb dX8_workDay_26 ?_
    refine lv_ldc2 (v := 1000000000) hx hb C.2.2.2.1 (C.2.2.2.2.1 _ q630) dX8_workDay_27 ?_
    refine lv_ldiv hx hb dX8_workDay_30 (by decide) ?_
    refine nm_el hf (fun z7 ez7 hf => ?_)
    refine x_topl ez7 ?_
    refine lv_lstore (lv' := [(7, .long z7), (0, .ref (G.1 0)), (1, .int x1), (2, .long x2), (4, .long x4), (6, .int x6)]) hx hb dX8_workDay_31 hl (by decide) rfl (fun ls hl => ?_)
    refine lv_lload hx hb dX8_workDay_33 (lv_at hl 4 rfl) ?_
    refine lv_aload_n hx hb dX8_workDay_35 rfl (lv_at hl 1 rfl) ?_
    refine gf_X8_92 C h dX8_workDay_36 ?_
    refine lv_iload hx hb dX8_workDay_39 (lv_at hl 5 rfl) ?_
    refine rdL_el hf (fun v8 hinv8 hv8 hf => ?_)
    refine x_lald C h 24 2 (by decide) (aM_24 G _ _) rfl hinv8 hv8 dX8_workDay_41 ?_
    refine lv_lload hx hb dX8_workDay_42 (lv_at hl 0 rfl) ?_
    refine lv_lsub hx hb dX8_workDay_44 ?_
    refine lv_ladd hx hb dX8_workDay_45 ?_
    refine nm_el hf (fun z9 ez9 hf => ?_)
    refine x_topl ez9 ?_
    refine lv_lstore (lv' := [(4, .long z9), (7, .long z7), (0, .ref (G.1 0)), (1, .int x1), (2, .long x2), (6, .int x6)]) hx hb dX8_workDay_46 hl (by decide) rfl (fun ls hl => ?_)
    refine lv_aload_n hx hb dX8_workDay_48 rfl (lv_at hl 2 rfl) ?_
    refine gf_X8_92 C h dX8_workDay_49 ?_
    refine lv_iload hx hb dX8_workDay_52 (lv_at hl 5 rfl) ?_
    refine lv_iconst (v := 1) hx hb dX8_workDay_54 (by decide) ?_
    refine lv_iadd hx hb dX8_workDay_55 ?_
    refine lv_iload hx hb dX8_workDay_56 (lv_at hl 5 rfl) ?_
    refine lv_iconst (v := 1) hx hb dX8_workDay_58 (by decide) ?_
    refine lv_iadd hx hb dX8_workDay_59 ?_
    refine lv_aload_n hx hb dX8_workDay_60 rfl (lv_at hl 2 rfl) ?_
    refine gf_X8_7 C h dX8_workDay_61 ?_
    refine lv_iload_n hx hb dX8_workDay_64 rfl (lv_at hl 3 rfl) ?_
    refine rd_el hf (fun v10 hinv10 hv10 hf => ?_)
    refine x_iald C h 1 1 (by decide) (aM_1 G _ _) rfl hinv10 hv10 dX8_workDay_65 ?_
    refine lv_icmp_ne (tgt := 84) hx hb dX8_workDay_66 (by decide) (fun c11 => ?_) (fun c11 => ?_)
    · have hf := ifF c11 hf
      refine lv_lload hx hb dX8_workDay_84 (lv_at hl 1 rfl) ?_
      exact t_X8_workDay_86 C hr IH13 x1 x2 z9 x6 (x6 + 1) z7 σ _ _ _ h (lv_sub hl [2, 3, 4, 0, 5] rfl) hf
    · have hf := ifT c11 hf
      refine lv_aload_n hx hb dX8_workDay_69 rfl (lv_at hl 2 rfl) ?_
      refine gf_X8_92 C h dX8_workDay_70 ?_
      refine lv_iload hx hb dX8_workDay_73 (lv_at hl 5 rfl) ?_
      refine lv_iconst (v := 1) hx hb dX8_workDay_75 (by decide) ?_
      refine lv_iadd hx hb dX8_workDay_76 ?_
      refine rdL_el hf (fun v12 hinv12 hv12 hf => ?_)
      refine x_lald C h 24 2 (by decide) (aM_24 G _ _) rfl hinv12 hv12 dX8_workDay_77 ?_
      refine lv_lload hx hb dX8_workDay_78 (lv_at hl 1 rfl) ?_
      refine lv_ladd hx hb dX8_workDay_80 ?_
      refine lv_goto (tgt := 86) hx hb dX8_workDay_81 (by decide) ?_
      exact t_X8_workDay_86 C hr IH13 x1 x2 z9 x6 (x6 + 1) (v12 + z7) σ _ _ _ h (lv_sub hl [2, 3, 4, 0, 5] rfl) hf
def f_X8_workDay  (x1 : Int32) (x2 : Int64) (σ : St) : Option (St) := rd (σ.1 1) 5 x1 (fun v1 => nm (v1 - 1) (fun z2 => f_X8_workDay_13 x1 x2 0 z2 σ))
set_option maxHeartbeats 4000000 in
theorem c_X8_workDay (l : Launch) (D : va_G) (G : Geo)   (x1 : Int32) (x2 : Int64) (σ : St) (o : St) (hf : f_X8_workDay  x1 x2 σ = some o) : CV l D (tyG G) (wM G) yX8_workDay cX8_workDay 9 none ({ frames := 0, cells := 0, slots := 0, locals := 0 }) [.ref (G.1 0), .int x1, .long x2] σ o := by
  refine met_of (Qc := fun A => QV D (tyG G) (wM G) A o) pn_X8 (Nat.le_of_ble_eq_true rfl) (fun p e s m below meth c A ls C hr h hl => ?_)
  have C : Cx p s m _ meth c cX8_workDay 9 RX8 D (tyG G) := C
  have hl : lv_has ls 9 [(0, .ref (G.1 0)), (1, .int x1), (2, .long x2)] := hl
  unfold f_X8_workDay at hf
  have hx := C.1
  have hb := C.2.1
  refine lv_lconst (v := 0) hx hb dX8_workDay_0 (by decide) ?_
  refine lv_lstore (lv' := [(4, .long 0), (0, .ref (G.1 0)), (1, .int x1), (2, .long x2)]) hx hb dX8_workDay_1 hl (by decide) rfl (fun ls hl => ?_)
  refine lv_aload_n hx hb dX8_workDay_3 rfl (lv_at hl 1 rfl) ?_
  refine gf_X8_7 C h dX8_workDay_4 ?_
  refine lv_iload_n hx hb dX8_workDay_7 rfl (lv_at hl 2 rfl) ?_
  refine rd_el hf (fun v1 hinv1 hv1 hf => ?_)
  refine x_iald C h 1 1 (by decide) (aM_1 G _ _) rfl hinv1 hv1 dX8_workDay_8 ?_
  refine lv_iconst (v := 1) hx hb dX8_workDay_9 (by decide) ?_
  refine lv_isub hx hb dX8_workDay_10 ?_
  refine nm_el hf (fun z2 ez2 hf => ?_)
  refine x_topi ez2 ?_
  refine lv_istore (lv' := [(6, .int z2), (4, .long 0), (0, .ref (G.1 0)), (1, .int x1), (2, .long x2)]) hx hb dX8_workDay_11 hl (by decide) rfl (fun ls hl => ?_)
  exact t_X8_workDay_13 C hr x1 x2 0 z2 σ _ _ _ h (lv_sub hl [2, 3, 4, 1, 0] rfl) hf
def b_X8_work_43   (rec43 : Int32 × Int32 × Int64 × Int32 × St → Option (Int32 × St)) (x1 : Int32) (x2 : Int32) (x3 : Int64) (x5 : Int32) (σ : St) : Option (Int32 × St) := if x2 ≤ x5 then rd (σ.1 1) 5 x1 (fun v16 => rdL (σ.2 24) 8 v16 (fun v17 => some (v17.toInt32, σ))) else bv (f_X8_workDay x1 x3 σ) (fun σ18 => rec43 (x1, x2, x3, x5 + 1, σ18))
def f_X8_work_43   (x1 : Int32) (x2 : Int32) (x3 : Int64) (x5 : Int32) (σ : St) : Option (Int32 × St) := lp (fun (rec43 : Int32 × Int32 × Int64 × Int32 × St → Option (Int32 × St)) (q : Int32 × Int32 × Int64 × Int32 × St) => b_X8_work_43   rec43 (q.1) (q.2.1) (q.2.2.1) (q.2.2.2.1) (q.2.2.2.2)) 100000 (x1, x2, x3, x5, σ)
set_option maxHeartbeats 4000000 in
theorem t_X8_work_43 (C : Cx p s m args meth c cX8_work 6 RX8 D (tyG G)) (hr : meth.sig.returnType = (some .int)) {o : Int32 × St}   : ∀ (x1 : Int32) (x2 : Int32) (x3 : Int64) (x5 : Int32) (σ : St) (H : Heap) (locs : List Loc) (ls : Array Slot), Hs D A s.heap (wM G σ) H locs → lv_has ls 6 [(0, .ref (G.1 0)), (1, .int x1), (2, .int x2), (3, .long x3), (5, .int x5)] → f_X8_work_43   x1 x2 x3 x5 σ = some o → W p l e ({ frames := 6, cells := 0, slots := 0, locals := 144 } : Room) s m args below meth c H locs 0 0 (MQ below (QI D (tyG G) (wM G) A o) args s 0 0 A) (F0 m 43 ls []) := by
  intro x1 x2 x3 x5 σ H locs ls h hl hf
  refine lp_el (P := fun q : Int32 × Int32 × Int64 × Int32 × St => ∀ (H : Heap) (locs : List Loc) (ls : Array Slot), Hs D A s.heap (wM G (q.2.2.2.2)) H locs → lv_has ls 6 [(0, .ref (G.1 0)), (1, .int (q.1)), (2, .int (q.2.1)), (3, .long (q.2.2.1)), (5, .int (q.2.2.2.1))] → W p l e ({ frames := 6, cells := 0, slots := 0, locals := 144 } : Room) s m args below meth c H locs 0 0 (MQ below (QI D (tyG G) (wM G) A o) args s 0 0 A) (F0 m 43 ls [])) (fun rec43 q IH43 hf => ?_) _ (x1, x2, x3, x5, σ) hf H locs ls h hl
  obtain ⟨x1, x2, x3, x5, σ⟩ := q
  intro H locs ls h hl
  have hl : lv_has ls 6 [(0, .ref (G.1 0)), (1, .int x1), (2, .int x2), (3, .long x3), (5, .int x5)] := hl
  have h : Hs D A s.heap (wM G σ) H locs := h
  have hf : b_X8_work_43   rec43 x1 x2 x3 x5 σ = some o := hf
  unfold b_X8_work_43 at hf
  have hx := C.1
  have hb := C.2.1
  refine lv_iload hx hb dX8_work_43 (lv_at hl 4 rfl) ?_
  refine lv_iload_n hx hb dX8_work_45 rfl (lv_at hl 2 rfl) ?_
  refine lv_icmp_ge (tgt := 61) hx hb dX8_work_46 (by decide) (fun c15 => ?_) (fun c15 => ?_)
  · have hf := ifT c15 hf
    refine lv_aload_n hx hb dX8_work_61 rfl (lv_at hl 0 rfl) ?_
    refine gf_X8_92 C h dX8_work_62 ?_
    refine lv_aload_n hx hb dX8_work_65 rfl (lv_at hl 0 rfl) ?_
    refine gf_X8_7 C h dX8_work_66 ?_
    refine lv_iload_n hx hb dX8_work_69 rfl (lv_at hl 1 rfl) ?_
    refine rd_el hf (fun v16 hinv16 hv16 hf => ?_)
    refine x_iald C h 1 1 (by decide) (aM_1 G _ _) rfl hinv16 hv16 dX8_work_70 ?_
    refine rdL_el hf (fun v17 hinv17 hv17 hf => ?_)
    refine x_lald C h 24 2 (by decide) (aM_24 G _ _) rfl hinv17 hv17 dX8_work_71 ?_
    refine lv_l2i (v := v17.toInt32) hx hb dX8_work_72 rfl ?_
    exact x_iret C hr h hf dX8_work_73
  · have hf := ifF c15 hf
    refine lv_aload_n hx hb dX8_work_49 rfl (lv_at hl 0 rfl) ?_
    refine lv_iload_n hx hb dX8_work_50 rfl (lv_at hl 1 rfl) ?_
    refine lv_lload_n hx hb dX8_work_51 rfl (lv_at hl 3 rfl) ?_
    refine bv_el hf (fun σ18 ho19 hf => ?_)
    refine x_gov h (x_runV (As := [.int x1, .long x3]) (rest := []) C h (c_X8_workDay l D G x1 x3 σ σ18 ho19 _) lk_X8_317 rfl ⟨rfl, rfl, Nat.le_of_ble_eq_true rfl, Nat.le_of_ble_eq_true rfl⟩ (x_rcv C h 0 (by decide) (oM G _ _) rfl) hl.1 rfl (Nat.le_of_ble_eq_true rfl) dX8_work_52) (fun H locs h => ?_)
    refine lv_iinc (v := x5 + 1) (lv' := [(5, .int (x5 + 1)), (0, .ref (G.1 0)), (1, .int x1), (2, .int x2), (3, .long x3)]) hx hb dX8_work_55 hl (k := 4) rfl rfl (by decide) rfl (fun ls hl => ?_)
    refine lv_goto (tgt := 43) hx hb dX8_work_58 (by decide) ?_
    exact IH43 (x1, x2, x3, x5 + 1, σ18) hf _ _ _ h (lv_sub hl [1, 2, 3, 4, 0] rfl)
def f_X8_work  (x1 : Int32) (x2 : Int32) (σ : St) : Option (Int32 × St) := bd (f_X8_isHouse x1 σ) (fun r3 σ1 => if r3 = 0 then some ((-1000000001), σ1) else bd (f_X8_in x2.toInt64 1 60 σ1) (fun r7 σ5 => if r7 = 0 then some ((-1000000002), σ5) else bd (f_X8_oddsOfHouses (1 <<< (x1 &&& 31)) σ5) (fun r11 σ9 => nm r11.toInt64 (fun z12 => bv (f_X8_startWork x1 σ9) (fun σ13 => f_X8_work_43 x1 x2 z12 0 σ13)))))
set_option maxHeartbeats 4000000 in
theorem c_X8_work (l : Launch) (D : va_G) (G : Geo)   (x1 : Int32) (x2 : Int32) (σ : St) (o : Int32 × St) (hf : f_X8_work  x1 x2 σ = some o) : CI l D (tyG G) (wM G) yX8_work cX8_work 6 ((some .int)) ({ frames := 6, cells := 0, slots := 0, locals := 144 }) [.ref (G.1 0), .int x1, .int x2] σ o := by
  refine met_of (Qc := fun A => QI D (tyG G) (wM G) A o) pn_X8 (Nat.le_of_ble_eq_true rfl) (fun p e s m below meth c A ls C hr h hl => ?_)
  have C : Cx p s m _ meth c cX8_work 6 RX8 D (tyG G) := C
  have hl : lv_has ls 6 [(0, .ref (G.1 0)), (1, .int x1), (2, .int x2)] := hl
  unfold f_X8_work at hf
  have hx := C.1
  have hb := C.2.1
  refine lv_aload_n hx hb dX8_work_0 rfl (lv_at hl 0 rfl) ?_
  refine lv_iload_n hx hb dX8_work_1 rfl (lv_at hl 1 rfl) ?_
  refine bd_el hf (fun r3 σ1 ho2 hf => ?_)
  refine x_goi h (x_runV (As := [.int x1]) (rest := []) C h (c_X8_isHouse l D G x1 σ (r3, σ1) ho2 _) lk_X8_219 rfl ⟨rfl, rfl, Nat.le_of_ble_eq_true rfl, Nat.le_of_ble_eq_true rfl⟩ (x_rcv C h 0 (by decide) (oM G _ _) rfl) hl.1 rfl (Nat.le_of_ble_eq_true rfl) dX8_work_2) (fun H locs h => ?_)
  refine lv_if_ne (tgt := 11) hx hb dX8_work_5 (by decide) (fun c4 => ?_) (fun c4 => ?_)
  · have hf := ifF c4 hf
    refine lv_iload_n hx hb dX8_work_11 rfl (lv_at hl 2 rfl) ?_
    refine lv_i2l (v := x2.toInt64) hx hb dX8_work_12 rfl ?_
    refine lv_lconst (v := 1) hx hb dX8_work_13 (by decide) ?_
    refine lv_ldc2 (v := 60) hx hb C.2.2.2.1 (C.2.2.2.2.1 _ q787) dX8_work_14 ?_
    refine bd_el hf (fun r7 σ5 ho6 hf => ?_)
    refine x_goi h (x_runS (As := [.long x2.toInt64, .long 1, .long 60]) (rest := []) C h (c_X8_in l D G x2.toInt64 1 60 σ1 (r7, σ5) ho6 _) lk_X8_112 rfl ⟨rfl, rfl, Nat.le_of_ble_eq_true rfl, Nat.le_of_ble_eq_true rfl⟩ hl.1 rfl (Nat.le_of_ble_eq_true rfl) dX8_work_17) (fun H locs h => ?_)
    refine lv_if_ne (tgt := 26) hx hb dX8_work_20 (by decide) (fun c8 => ?_) (fun c8 => ?_)
    · have hf := ifF c8 hf
      refine lv_aload_n hx hb dX8_work_26 rfl (lv_at hl 0 rfl) ?_
      refine lv_iconst (v := 1) hx hb dX8_work_27 (by decide) ?_
      refine lv_iload_n hx hb dX8_work_28 rfl (lv_at hl 1 rfl) ?_
      refine lv_ishl hx hb dX8_work_29 ?_
      refine bd_el hf (fun r11 σ9 ho10 hf => ?_)
      refine x_goi h (x_runV (As := [.int (1 <<< (x1 &&& 31))]) (rest := []) C h (c_X8_oddsOfHouses l D G (1 <<< (x1 &&& 31)) σ5 (r11, σ9) ho10 _) lk_X8_291 rfl ⟨rfl, rfl, Nat.le_of_ble_eq_true rfl, Nat.le_of_ble_eq_true rfl⟩ (x_rcv C h 0 (by decide) (oM G _ _) rfl) hl.1 rfl (Nat.le_of_ble_eq_true rfl) dX8_work_30) (fun H locs h => ?_)
      refine lv_i2l (v := r11.toInt64) hx hb dX8_work_33 rfl ?_
      refine nm_el hf (fun z12 ez12 hf => ?_)
      refine x_topl ez12 ?_
      refine lv_lstore_n (lv' := [(3, .long z12), (0, .ref (G.1 0)), (1, .int x1), (2, .int x2)]) hx hb dX8_work_34 rfl hl (by decide) rfl (fun ls hl => ?_)
      refine lv_aload_n hx hb dX8_work_35 rfl (lv_at hl 1 rfl) ?_
      refine lv_iload_n hx hb dX8_work_36 rfl (lv_at hl 2 rfl) ?_
      refine bv_el hf (fun σ13 ho14 hf => ?_)
      refine x_gov h (x_runV (As := [.int x1]) (rest := []) C h (c_X8_startWork l D G x1 σ9 σ13 ho14 _) lk_X8_313 rfl ⟨rfl, rfl, Nat.le_of_ble_eq_true rfl, Nat.le_of_ble_eq_true rfl⟩ (x_rcv C h 0 (by decide) (oM G _ _) rfl) hl.1 rfl (Nat.le_of_ble_eq_true rfl) dX8_work_37) (fun H locs h => ?_)
      refine lv_iconst (v := 0) hx hb dX8_work_40 (by decide) ?_
      refine lv_istore (lv' := [(5, .int 0), (3, .long z12), (0, .ref (G.1 0)), (1, .int x1), (2, .int x2)]) hx hb dX8_work_41 hl (by decide) rfl (fun ls hl => ?_)
      exact t_X8_work_43 C hr x1 x2 z12 0 σ13 _ _ _ h (lv_sub hl [2, 3, 4, 1, 0] rfl) hf
    · have hf := ifT c8 hf
      refine lv_ldc (v := (-1000000002)) hx hb C.2.2.2.1 (C.2.2.2.2.1 _ q167) dX8_work_23 ?_
      exact x_iret C hr h hf dX8_work_25
  · have hf := ifT c4 hf
    refine lv_ldc (v := (-1000000001)) hx hb C.2.2.2.1 (C.2.2.2.2.1 _ q434) dX8_work_8 ?_
    exact x_iret C hr h hf dX8_work_10
def b_X8_likely_43   (rec43 : Int32 × Int32 × Int64 × Int32 × St → Option (Int32 × St)) (x1 : Int32) (x2 : Int32) (x3 : Int64) (x5 : Int32) (σ : St) : Option (Int32 × St) := if (60 : Int32) < x5 then some ((-1), σ) else bv (f_X8_workDay x1 x3 σ) (fun σ16 => rd (σ16.1 1) 5 x1 (fun v18 => rdL (σ16.2 24) 8 v18 (fun v19 => if (lg_cmp (v19 * 100) (x2.toInt64 * 1000000000)) < 0 then rec43 (x1, x2, x3, x5 + 1, σ16) else some (x5, σ16))))
def f_X8_likely_43   (x1 : Int32) (x2 : Int32) (x3 : Int64) (x5 : Int32) (σ : St) : Option (Int32 × St) := lp (fun (rec43 : Int32 × Int32 × Int64 × Int32 × St → Option (Int32 × St)) (q : Int32 × Int32 × Int64 × Int32 × St) => b_X8_likely_43   rec43 (q.1) (q.2.1) (q.2.2.1) (q.2.2.2.1) (q.2.2.2.2)) 100000 (x1, x2, x3, x5, σ)
set_option maxHeartbeats 4000000 in
theorem t_X8_likely_43 (C : Cx p s m args meth c cX8_likely 6 RX8 D (tyG G)) (hr : meth.sig.returnType = (some .int)) {o : Int32 × St}   : ∀ (x1 : Int32) (x2 : Int32) (x3 : Int64) (x5 : Int32) (σ : St) (H : Heap) (locs : List Loc) (ls : Array Slot), Hs D A s.heap (wM G σ) H locs → lv_has ls 6 [(0, .ref (G.1 0)), (1, .int x1), (2, .int x2), (3, .long x3), (5, .int x5)] → f_X8_likely_43   x1 x2 x3 x5 σ = some o → W p l e ({ frames := 6, cells := 0, slots := 0, locals := 144 } : Room) s m args below meth c H locs 0 0 (MQ below (QI D (tyG G) (wM G) A o) args s 0 0 A) (F0 m 43 ls []) := by
  intro x1 x2 x3 x5 σ H locs ls h hl hf
  refine lp_el (P := fun q : Int32 × Int32 × Int64 × Int32 × St => ∀ (H : Heap) (locs : List Loc) (ls : Array Slot), Hs D A s.heap (wM G (q.2.2.2.2)) H locs → lv_has ls 6 [(0, .ref (G.1 0)), (1, .int (q.1)), (2, .int (q.2.1)), (3, .long (q.2.2.1)), (5, .int (q.2.2.2.1))] → W p l e ({ frames := 6, cells := 0, slots := 0, locals := 144 } : Room) s m args below meth c H locs 0 0 (MQ below (QI D (tyG G) (wM G) A o) args s 0 0 A) (F0 m 43 ls [])) (fun rec43 q IH43 hf => ?_) _ (x1, x2, x3, x5, σ) hf H locs ls h hl
  obtain ⟨x1, x2, x3, x5, σ⟩ := q
  intro H locs ls h hl
  have hl : lv_has ls 6 [(0, .ref (G.1 0)), (1, .int x1), (2, .int x2), (3, .long x3), (5, .int x5)] := hl
  have h : Hs D A s.heap (wM G σ) H locs := h
  have hf : b_X8_likely_43   rec43 x1 x2 x3 x5 σ = some o := hf
  unfold b_X8_likely_43 at hf
  have hx := C.1
  have hb := C.2.1
  refine lv_iload hx hb dX8_likely_43 (lv_at hl 4 rfl) ?_
  refine lv_bipush (v := 60) hx hb dX8_likely_45 (by decide) ?_
  refine lv_icmp_gt (tgt := 90) hx hb dX8_likely_47 (by decide) (fun c15 => ?_) (fun c15 => ?_)
  · have hf := ifT c15 hf
    refine lv_iconst (v := (-1)) hx hb dX8_likely_90 (by decide) ?_
    exact x_iret C hr h hf dX8_likely_91
  · have hf := ifF c15 hf
    refine lv_aload_n hx hb dX8_likely_50 rfl (lv_at hl 0 rfl) ?_
    refine lv_iload_n hx hb dX8_likely_51 rfl (lv_at hl 1 rfl) ?_
    refine lv_lload_n hx hb dX8_likely_52 rfl (lv_at hl 3 rfl) ?_
    refine bv_el hf (fun σ16 ho17 hf => ?_)
    refine x_gov h (x_runV (As := [.int x1, .long x3]) (rest := []) C h (c_X8_workDay l D G x1 x3 σ σ16 ho17 _) lk_X8_317 rfl ⟨rfl, rfl, Nat.le_of_ble_eq_true rfl, Nat.le_of_ble_eq_true rfl⟩ (x_rcv C h 0 (by decide) (oM G _ _) rfl) hl.1 rfl (Nat.le_of_ble_eq_true rfl) dX8_likely_53) (fun H locs h => ?_)
    refine lv_aload_n hx hb dX8_likely_56 rfl (lv_at hl 0 rfl) ?_
    refine gf_X8_92 C h dX8_likely_57 ?_
    refine lv_aload_n hx hb dX8_likely_60 rfl (lv_at hl 0 rfl) ?_
    refine gf_X8_7 C h dX8_likely_61 ?_
    refine lv_iload_n hx hb dX8_likely_64 rfl (lv_at hl 1 rfl) ?_
    refine rd_el hf (fun v18 hinv18 hv18 hf => ?_)
    refine x_iald C h 1 1 (by decide) (aM_1 G _ _) rfl hinv18 hv18 dX8_likely_65 ?_
    refine rdL_el hf (fun v19 hinv19 hv19 hf => ?_)
    refine x_lald C h 24 2 (by decide) (aM_24 G _ _) rfl hinv19 hv19 dX8_likely_66 ?_
    refine lv_ldc2 (v := 100) hx hb C.2.2.2.1 (C.2.2.2.2.1 _ q806) dX8_likely_67 ?_
    refine lv_lmul hx hb dX8_likely_70 ?_
    refine lv_iload_n hx hb dX8_likely_71 rfl (lv_at hl 2 rfl) ?_
    refine lv_i2l (v := x2.toInt64) hx hb dX8_likely_72 rfl ?_
    refine lv_ldc2 (v := 1000000000) hx hb C.2.2.2.1 (C.2.2.2.2.1 _ q630) dX8_likely_73 ?_
    refine lv_lmul hx hb dX8_likely_76 ?_
    refine W.lcmp hx hb dX8_likely_77 ?_
    refine lv_if_lt (tgt := 84) hx hb dX8_likely_78 (by decide) (fun c20 => ?_) (fun c20 => ?_)
    · have hf := ifT c20 hf
      refine lv_iinc (v := x5 + 1) (lv' := [(5, .int (x5 + 1)), (0, .ref (G.1 0)), (1, .int x1), (2, .int x2), (3, .long x3)]) hx hb dX8_likely_84 hl (k := 4) rfl rfl (by decide) rfl (fun ls hl => ?_)
      refine lv_goto (tgt := 43) hx hb dX8_likely_87 (by decide) ?_
      exact IH43 (x1, x2, x3, x5 + 1, σ16) hf _ _ _ h (lv_sub hl [1, 2, 3, 4, 0] rfl)
    · have hf := ifF c20 hf
      refine lv_iload hx hb dX8_likely_81 (lv_at hl 4 rfl) ?_
      exact x_iret C hr h hf dX8_likely_83
def f_X8_likely  (x1 : Int32) (x2 : Int32) (σ : St) : Option (Int32 × St) := bd (f_X8_isHouse x1 σ) (fun r3 σ1 => if r3 = 0 then some ((-1000000001), σ1) else bd (f_X8_in x2.toInt64 1 100 σ1) (fun r7 σ5 => if r7 = 0 then some ((-1000000002), σ5) else bd (f_X8_oddsOfHouses (1 <<< (x1 &&& 31)) σ5) (fun r11 σ9 => nm r11.toInt64 (fun z12 => bv (f_X8_startWork x1 σ9) (fun σ13 => f_X8_likely_43 x1 x2 z12 1 σ13)))))
set_option maxHeartbeats 4000000 in
theorem c_X8_likely (l : Launch) (D : va_G) (G : Geo)   (x1 : Int32) (x2 : Int32) (σ : St) (o : Int32 × St) (hf : f_X8_likely  x1 x2 σ = some o) : CI l D (tyG G) (wM G) yX8_likely cX8_likely 6 ((some .int)) ({ frames := 6, cells := 0, slots := 0, locals := 144 }) [.ref (G.1 0), .int x1, .int x2] σ o := by
  refine met_of (Qc := fun A => QI D (tyG G) (wM G) A o) pn_X8 (Nat.le_of_ble_eq_true rfl) (fun p e s m below meth c A ls C hr h hl => ?_)
  have C : Cx p s m _ meth c cX8_likely 6 RX8 D (tyG G) := C
  have hl : lv_has ls 6 [(0, .ref (G.1 0)), (1, .int x1), (2, .int x2)] := hl
  unfold f_X8_likely at hf
  have hx := C.1
  have hb := C.2.1
  refine lv_aload_n hx hb dX8_likely_0 rfl (lv_at hl 0 rfl) ?_
  refine lv_iload_n hx hb dX8_likely_1 rfl (lv_at hl 1 rfl) ?_
  refine bd_el hf (fun r3 σ1 ho2 hf => ?_)
  refine x_goi h (x_runV (As := [.int x1]) (rest := []) C h (c_X8_isHouse l D G x1 σ (r3, σ1) ho2 _) lk_X8_219 rfl ⟨rfl, rfl, Nat.le_of_ble_eq_true rfl, Nat.le_of_ble_eq_true rfl⟩ (x_rcv C h 0 (by decide) (oM G _ _) rfl) hl.1 rfl (Nat.le_of_ble_eq_true rfl) dX8_likely_2) (fun H locs h => ?_)
  refine lv_if_ne (tgt := 11) hx hb dX8_likely_5 (by decide) (fun c4 => ?_) (fun c4 => ?_)
  · have hf := ifF c4 hf
    refine lv_iload_n hx hb dX8_likely_11 rfl (lv_at hl 2 rfl) ?_
    refine lv_i2l (v := x2.toInt64) hx hb dX8_likely_12 rfl ?_
    refine lv_lconst (v := 1) hx hb dX8_likely_13 (by decide) ?_
    refine lv_ldc2 (v := 100) hx hb C.2.2.2.1 (C.2.2.2.2.1 _ q806) dX8_likely_14 ?_
    refine bd_el hf (fun r7 σ5 ho6 hf => ?_)
    refine x_goi h (x_runS (As := [.long x2.toInt64, .long 1, .long 100]) (rest := []) C h (c_X8_in l D G x2.toInt64 1 100 σ1 (r7, σ5) ho6 _) lk_X8_112 rfl ⟨rfl, rfl, Nat.le_of_ble_eq_true rfl, Nat.le_of_ble_eq_true rfl⟩ hl.1 rfl (Nat.le_of_ble_eq_true rfl) dX8_likely_17) (fun H locs h => ?_)
    refine lv_if_ne (tgt := 26) hx hb dX8_likely_20 (by decide) (fun c8 => ?_) (fun c8 => ?_)
    · have hf := ifF c8 hf
      refine lv_aload_n hx hb dX8_likely_26 rfl (lv_at hl 0 rfl) ?_
      refine lv_iconst (v := 1) hx hb dX8_likely_27 (by decide) ?_
      refine lv_iload_n hx hb dX8_likely_28 rfl (lv_at hl 1 rfl) ?_
      refine lv_ishl hx hb dX8_likely_29 ?_
      refine bd_el hf (fun r11 σ9 ho10 hf => ?_)
      refine x_goi h (x_runV (As := [.int (1 <<< (x1 &&& 31))]) (rest := []) C h (c_X8_oddsOfHouses l D G (1 <<< (x1 &&& 31)) σ5 (r11, σ9) ho10 _) lk_X8_291 rfl ⟨rfl, rfl, Nat.le_of_ble_eq_true rfl, Nat.le_of_ble_eq_true rfl⟩ (x_rcv C h 0 (by decide) (oM G _ _) rfl) hl.1 rfl (Nat.le_of_ble_eq_true rfl) dX8_likely_30) (fun H locs h => ?_)
      refine lv_i2l (v := r11.toInt64) hx hb dX8_likely_33 rfl ?_
      refine nm_el hf (fun z12 ez12 hf => ?_)
      refine x_topl ez12 ?_
      refine lv_lstore_n (lv' := [(3, .long z12), (0, .ref (G.1 0)), (1, .int x1), (2, .int x2)]) hx hb dX8_likely_34 rfl hl (by decide) rfl (fun ls hl => ?_)
      refine lv_aload_n hx hb dX8_likely_35 rfl (lv_at hl 1 rfl) ?_
      refine lv_iload_n hx hb dX8_likely_36 rfl (lv_at hl 2 rfl) ?_
      refine bv_el hf (fun σ13 ho14 hf => ?_)
      refine x_gov h (x_runV (As := [.int x1]) (rest := []) C h (c_X8_startWork l D G x1 σ9 σ13 ho14 _) lk_X8_313 rfl ⟨rfl, rfl, Nat.le_of_ble_eq_true rfl, Nat.le_of_ble_eq_true rfl⟩ (x_rcv C h 0 (by decide) (oM G _ _) rfl) hl.1 rfl (Nat.le_of_ble_eq_true rfl) dX8_likely_37) (fun H locs h => ?_)
      refine lv_iconst (v := 1) hx hb dX8_likely_40 (by decide) ?_
      refine lv_istore (lv' := [(5, .int 1), (3, .long z12), (0, .ref (G.1 0)), (1, .int x1), (2, .int x2)]) hx hb dX8_likely_41 hl (by decide) rfl (fun ls hl => ?_)
      exact t_X8_likely_43 C hr x1 x2 z12 1 σ13 _ _ _ h (lv_sub hl [2, 3, 4, 1, 0] rfl) hf
    · have hf := ifT c8 hf
      refine lv_ldc (v := (-1000000002)) hx hb C.2.2.2.1 (C.2.2.2.2.1 _ q167) dX8_likely_23 ?_
      exact x_iret C hr h hf dX8_likely_25
  · have hf := ifT c4 hf
    refine lv_ldc (v := (-1000000001)) hx hb C.2.2.2.1 (C.2.2.2.2.1 _ q434) dX8_likely_8 ?_
    exact x_iret C hr h hf dX8_likely_10
def f_X8_tell  (x1 : Int32) (x2 : Int32) (σ : St) : Option (Int32 × St) := bd (f_X8_isSleeper x1 σ) (fun r3 σ1 => if r3 = 0 then some ((-1000000001), σ1) else bd (f_X8_in x2.toInt64 0 999 σ1) (fun r7 σ5 => if r7 = 0 then some ((-1000000002), σ5) else if (σ5.1 0 44) = 40 then some ((-1000000004), σ5) else ck (inb (σ5.1 0 44) 40) (nm (sI σ5 25 (σ5.1 0 44 : Int32).toNatClampNeg x1) (fun σ11 => ck (inb (σ11.1 0 44) 40) (nm (sI σ11 26 (σ11.1 0 44 : Int32).toNatClampNeg x2) (fun σ13 => nm (sI σ13 0 44 ((σ13.1 0 44) + 1)) (fun σ14 => some (σ14.1 0 44, σ14))))))))
set_option maxHeartbeats 4000000 in
theorem c_X8_tell (l : Launch) (D : va_G) (G : Geo)   (x1 : Int32) (x2 : Int32) (σ : St) (o : Int32 × St) (hf : f_X8_tell  x1 x2 σ = some o) : CI l D (tyG G) (wM G) yX8_tell cX8_tell 3 ((some .int)) ({ frames := 2, cells := 0, slots := 0, locals := 46 }) [.ref (G.1 0), .int x1, .int x2] σ o := by
  refine met_of (Qc := fun A => QI D (tyG G) (wM G) A o) pn_X8 (Nat.le_of_ble_eq_true rfl) (fun p e s m below meth c A ls C hr h hl => ?_)
  have C : Cx p s m _ meth c cX8_tell 3 RX8 D (tyG G) := C
  have hl : lv_has ls 3 [(0, .ref (G.1 0)), (1, .int x1), (2, .int x2)] := hl
  unfold f_X8_tell at hf
  have hx := C.1
  have hb := C.2.1
  refine lv_aload_n hx hb dX8_tell_0 rfl (lv_at hl 0 rfl) ?_
  refine lv_iload_n hx hb dX8_tell_1 rfl (lv_at hl 1 rfl) ?_
  refine bd_el hf (fun r3 σ1 ho2 hf => ?_)
  refine x_goi h (x_runV (As := [.int x1]) (rest := []) C h (c_X8_isSleeper l D G x1 σ (r3, σ1) ho2 _) lk_X8_231 rfl ⟨rfl, rfl, Nat.le_of_ble_eq_true rfl, Nat.le_of_ble_eq_true rfl⟩ (x_rcv C h 0 (by decide) (oM G _ _) rfl) hl.1 rfl (Nat.le_of_ble_eq_true rfl) dX8_tell_2) (fun H locs h => ?_)
  refine lv_if_ne (tgt := 11) hx hb dX8_tell_5 (by decide) (fun c4 => ?_) (fun c4 => ?_)
  · have hf := ifF c4 hf
    refine lv_iload_n hx hb dX8_tell_11 rfl (lv_at hl 2 rfl) ?_
    refine lv_i2l (v := x2.toInt64) hx hb dX8_tell_12 rfl ?_
    refine lv_lconst (v := 0) hx hb dX8_tell_13 (by decide) ?_
    refine lv_ldc2 (v := 999) hx hb C.2.2.2.1 (C.2.2.2.2.1 _ q820) dX8_tell_14 ?_
    refine bd_el hf (fun r7 σ5 ho6 hf => ?_)
    refine x_goi h (x_runS (As := [.long x2.toInt64, .long 0, .long 999]) (rest := []) C h (c_X8_in l D G x2.toInt64 0 999 σ1 (r7, σ5) ho6 _) lk_X8_112 rfl ⟨rfl, rfl, Nat.le_of_ble_eq_true rfl, Nat.le_of_ble_eq_true rfl⟩ hl.1 rfl (Nat.le_of_ble_eq_true rfl) dX8_tell_17) (fun H locs h => ?_)
    refine lv_if_ne (tgt := 26) hx hb dX8_tell_20 (by decide) (fun c8 => ?_) (fun c8 => ?_)
    · have hf := ifF c8 hf
      refine lv_aload_n hx hb dX8_tell_26 rfl (lv_at hl 0 rfl) ?_
      refine gf_X8_213 C h dX8_tell_27 ?_
      refine lv_bipush (v := 40) hx hb dX8_tell_30 (by decide) ?_
      refine lv_icmp_ne (tgt := 38) hx hb dX8_tell_32 (by decide) (fun c9 => ?_) (fun c9 => ?_)
      · have hf := ifF c9 hf
        refine lv_aload_n hx hb dX8_tell_38 rfl (lv_at hl 0 rfl) ?_
        refine gf_X8_96 C h dX8_tell_39 ?_
        refine lv_aload_n hx hb dX8_tell_42 rfl (lv_at hl 0 rfl) ?_
        refine gf_X8_213 C h dX8_tell_43 ?_
        refine lv_iload_n hx hb dX8_tell_46 rfl (lv_at hl 1 rfl) ?_
        refine ckb_el hf (fun hin10 hf => ?_)
        refine nm_el hf (fun σ11 hσ11 hf => ?_)
        refine x_iast C h 25 1 (by decide) (fun f => aM_25 G f _) rfl hin10 dX8_tell_47 hσ11 (fun H locs h => ?_)
        refine lv_aload_n hx hb dX8_tell_48 rfl (lv_at hl 0 rfl) ?_
        refine gf_X8_99 C h dX8_tell_49 ?_
        refine lv_aload_n hx hb dX8_tell_52 rfl (lv_at hl 0 rfl) ?_
        refine gf_X8_213 C h dX8_tell_53 ?_
        refine lv_iload_n hx hb dX8_tell_56 rfl (lv_at hl 2 rfl) ?_
        refine ckb_el hf (fun hin12 hf => ?_)
        refine nm_el hf (fun σ13 hσ13 hf => ?_)
        refine x_iast C h 26 1 (by decide) (fun f => aM_26 G f _) rfl hin12 dX8_tell_57 hσ13 (fun H locs h => ?_)
        refine lv_aload_n hx hb dX8_tell_58 rfl (lv_at hl 0 rfl) ?_
        refine lv_dup hx hb dX8_tell_59 rfl ?_
        refine gf_X8_213 C h dX8_tell_60 ?_
        refine lv_iconst (v := 1) hx hb dX8_tell_63 (by decide) ?_
        refine lv_iadd hx hb dX8_tell_64 ?_
        refine nm_el hf (fun σ14 hσ14 hf => ?_)
        refine pf_X8_213 C h dX8_tell_65 hσ14 (fun H locs h => ?_)
        refine lv_aload_n hx hb dX8_tell_68 rfl (lv_at hl 0 rfl) ?_
        refine gf_X8_213 C h dX8_tell_69 ?_
        exact x_iret C hr h hf dX8_tell_72
      · have hf := ifT c9 hf
        refine lv_ldc (v := (-1000000004)) hx hb C.2.2.2.1 (C.2.2.2.2.1 _ q169) dX8_tell_35 ?_
        exact x_iret C hr h hf dX8_tell_37
    · have hf := ifT c8 hf
      refine lv_ldc (v := (-1000000002)) hx hb C.2.2.2.1 (C.2.2.2.2.1 _ q167) dX8_tell_23 ?_
      exact x_iret C hr h hf dX8_tell_25
  · have hf := ifT c4 hf
    refine lv_ldc (v := (-1000000001)) hx hb C.2.2.2.1 (C.2.2.2.2.1 _ q434) dX8_tell_8 ?_
    exact x_iret C hr h hf dX8_tell_10
def f_X8_forget   (σ : St) : Option (Int32 × St) := nm (σ.1 0 44) (fun z1 => nm (sI σ 0 44 0) (fun σ2 => some (z1, σ2)))
set_option maxHeartbeats 4000000 in
theorem c_X8_forget (l : Launch) (D : va_G) (G : Geo)    (σ : St) (o : Int32 × St) (hf : f_X8_forget   σ = some o) : CI l D (tyG G) (wM G) yX8_forget cX8_forget 2 ((some .int)) ({ frames := 0, cells := 0, slots := 0, locals := 0 }) [.ref (G.1 0)] σ o := by
  refine met_of (Qc := fun A => QI D (tyG G) (wM G) A o) pn_X8 (Nat.le_of_ble_eq_true rfl) (fun p e s m below meth c A ls C hr h hl => ?_)
  have C : Cx p s m _ meth c cX8_forget 2 RX8 D (tyG G) := C
  have hl : lv_has ls 2 [(0, .ref (G.1 0))] := hl
  unfold f_X8_forget at hf
  have hx := C.1
  have hb := C.2.1
  refine lv_aload_n hx hb dX8_forget_0 rfl (lv_at hl 0 rfl) ?_
  refine gf_X8_213 C h dX8_forget_1 ?_
  refine nm_el hf (fun z1 ez1 hf => ?_)
  refine x_topi ez1 ?_
  refine lv_istore_n (lv' := [(1, .int z1), (0, .ref (G.1 0))]) hx hb dX8_forget_4 rfl hl (by decide) rfl (fun ls hl => ?_)
  refine lv_aload_n hx hb dX8_forget_5 rfl (lv_at hl 1 rfl) ?_
  refine lv_iconst (v := 0) hx hb dX8_forget_6 (by decide) ?_
  refine nm_el hf (fun σ2 hσ2 hf => ?_)
  refine pf_X8_213 C h dX8_forget_7 hσ2 (fun H locs h => ?_)
  refine lv_iload_n hx hb dX8_forget_10 rfl (lv_at hl 0 rfl) ?_
  exact x_iret C hr h hf dX8_forget_11
def f_X8_isLie_77  (rec41 : Int32 × Int32 × Int32 × Int32 × St → Option (Int32 × St)) (x2 : Int32) (x3 : Int32) (x5 : Int32) (y0 : Int32) (σ : St) : Option (Int32 × St) := rec41 (x2, x3, y0, x5 + 1, σ)
set_option maxHeartbeats 4000000 in
theorem t_X8_isLie_77 (C : Cx p s m args meth c cX8_isLie 6 RX8 D (tyG G)) (hr : meth.sig.returnType = (some .boolean)) {o : Int32 × St}  {rec41 : Int32 × Int32 × Int32 × Int32 × St → Option (Int32 × St)} (IH41 : ∀ q, rec41 q = some o → ∀ (H : Heap) (locs : List Loc) (ls : Array Slot), Hs D A s.heap (wM G (q.2.2.2.2)) H locs → lv_has ls 6 [(0, .ref (G.1 0)), (2, .int (q.1)), (3, .int (q.2.1)), (4, .int (q.2.2.1)), (5, .int (q.2.2.2.1))] → W p l e ({ frames := 4, cells := 0, slots := 0, locals := 93 } : Room) s m args below meth c H locs 0 0 (MQ below (QI D (tyG G) (wM G) A o) args s 0 0 A) (F0 m 41 ls [])) : ∀ (x2 : Int32) (x3 : Int32) (x5 : Int32) (y0 : Int32) (σ : St) (H : Heap) (locs : List Loc) (ls : Array Slot), Hs D A s.heap (wM G σ) H locs → lv_has ls 6 [(0, .ref (G.1 0)), (2, .int x2), (3, .int x3), (5, .int x5)] → f_X8_isLie_77  rec41 x2 x3 x5 y0 σ = some o → W p l e ({ frames := 4, cells := 0, slots := 0, locals := 93 } : Room) s m args below meth c H locs 0 0 (MQ below (QI D (tyG G) (wM G) A o) args s 0 0 A) (F0 m 77 ls [.int y0]) := by
  intro x2 x3 x5 y0 σ H locs ls h hl hf
  unfold f_X8_isLie_77 at hf
  have hx := C.1
  have hb := C.2.1
  refine lv_istore (lv' := [(4, .int y0), (0, .ref (G.1 0)), (2, .int x2), (3, .int x3), (5, .int x5)]) hx hb dX8_isLie_77 hl (by decide) rfl (fun ls hl => ?_)
  refine lv_iinc (v := x5 + 1) (lv' := [(5, .int (x5 + 1)), (4, .int y0), (0, .ref (G.1 0)), (2, .int x2), (3, .int x3)]) hx hb dX8_isLie_79 hl (k := 4) rfl rfl (by decide) rfl (fun ls hl => ?_)
  refine lv_goto (tgt := 41) hx hb dX8_isLie_82 (by decide) ?_
  exact IH41 (x2, x3, y0, x5 + 1, σ) hf _ _ _ h (lv_sub hl [2, 3, 4, 1, 0] rfl)
def f_X8_isLie_76  (rec41 : Int32 × Int32 × Int32 × Int32 × St → Option (Int32 × St)) (x2 : Int32) (x3 : Int32) (x5 : Int32) (σ : St) : Option (Int32 × St) := f_X8_isLie_77 rec41 x2 x3 x5 0 σ
set_option maxHeartbeats 4000000 in
theorem t_X8_isLie_76 (C : Cx p s m args meth c cX8_isLie 6 RX8 D (tyG G)) (hr : meth.sig.returnType = (some .boolean)) {o : Int32 × St}  {rec41 : Int32 × Int32 × Int32 × Int32 × St → Option (Int32 × St)} (IH41 : ∀ q, rec41 q = some o → ∀ (H : Heap) (locs : List Loc) (ls : Array Slot), Hs D A s.heap (wM G (q.2.2.2.2)) H locs → lv_has ls 6 [(0, .ref (G.1 0)), (2, .int (q.1)), (3, .int (q.2.1)), (4, .int (q.2.2.1)), (5, .int (q.2.2.2.1))] → W p l e ({ frames := 4, cells := 0, slots := 0, locals := 93 } : Room) s m args below meth c H locs 0 0 (MQ below (QI D (tyG G) (wM G) A o) args s 0 0 A) (F0 m 41 ls [])) : ∀ (x2 : Int32) (x3 : Int32) (x5 : Int32) (σ : St) (H : Heap) (locs : List Loc) (ls : Array Slot), Hs D A s.heap (wM G σ) H locs → lv_has ls 6 [(0, .ref (G.1 0)), (2, .int x2), (3, .int x3), (5, .int x5)] → f_X8_isLie_76  rec41 x2 x3 x5 σ = some o → W p l e ({ frames := 4, cells := 0, slots := 0, locals := 93 } : Room) s m args below meth c H locs 0 0 (MQ below (QI D (tyG G) (wM G) A o) args s 0 0 A) (F0 m 76 ls []) := by
  intro x2 x3 x5 σ H locs ls h hl hf
  unfold f_X8_isLie_76 at hf
  have hx := C.1
  have hb := C.2.1
  refine lv_iconst (v := 0) hx hb dX8_isLie_76 (by decide) ?_
  exact t_X8_isLie_77 C hr IH41 x2 x3 x5 0 σ _ _ _ h (lv_sub hl [0, 1, 2, 3] rfl) hf
def f_X8_isLie_72  (rec41 : Int32 × Int32 × Int32 × Int32 × St → Option (Int32 × St)) (x2 : Int32) (x3 : Int32) (x5 : Int32) (σ : St) : Option (Int32 × St) := f_X8_isLie_77 rec41 x2 x3 x5 1 σ
set_option maxHeartbeats 4000000 in
theorem t_X8_isLie_72 (C : Cx p s m args meth c cX8_isLie 6 RX8 D (tyG G)) (hr : meth.sig.returnType = (some .boolean)) {o : Int32 × St}  {rec41 : Int32 × Int32 × Int32 × Int32 × St → Option (Int32 × St)} (IH41 : ∀ q, rec41 q = some o → ∀ (H : Heap) (locs : List Loc) (ls : Array Slot), Hs D A s.heap (wM G (q.2.2.2.2)) H locs → lv_has ls 6 [(0, .ref (G.1 0)), (2, .int (q.1)), (3, .int (q.2.1)), (4, .int (q.2.2.1)), (5, .int (q.2.2.2.1))] → W p l e ({ frames := 4, cells := 0, slots := 0, locals := 93 } : Room) s m args below meth c H locs 0 0 (MQ below (QI D (tyG G) (wM G) A o) args s 0 0 A) (F0 m 41 ls [])) : ∀ (x2 : Int32) (x3 : Int32) (x5 : Int32) (σ : St) (H : Heap) (locs : List Loc) (ls : Array Slot), Hs D A s.heap (wM G σ) H locs → lv_has ls 6 [(0, .ref (G.1 0)), (2, .int x2), (3, .int x3), (5, .int x5)] → f_X8_isLie_72  rec41 x2 x3 x5 σ = some o → W p l e ({ frames := 4, cells := 0, slots := 0, locals := 93 } : Room) s m args below meth c H locs 0 0 (MQ below (QI D (tyG G) (wM G) A o) args s 0 0 A) (F0 m 72 ls []) := by
  intro x2 x3 x5 σ H locs ls h hl hf
  unfold f_X8_isLie_72 at hf
  have hx := C.1
  have hb := C.2.1
  refine lv_iconst (v := 1) hx hb dX8_isLie_72 (by decide) ?_
  refine lv_goto (tgt := 77) hx hb dX8_isLie_73 (by decide) ?_
  exact t_X8_isLie_77 C hr IH41 x2 x3 x5 1 σ _ _ _ h (lv_sub hl [0, 1, 2, 3] rfl) hf
def b_X8_isLie_41   (rec41 : Int32 × Int32 × Int32 × Int32 × St → Option (Int32 × St)) (x2 : Int32) (x3 : Int32) (x4 : Int32) (x5 : Int32) (σ : St) : Option (Int32 × St) := if (σ.1 0 4) ≤ x5 then ck (bz x4) (some (x4, σ)) else if x4 = 0 then if x5 = x2 then f_X8_isLie_76 rec41 x2 x3 x5 σ else bd (f_X8_lets x5 x2 x3 σ) (fun r15 σ13 => if r15 = 0 then f_X8_isLie_72 rec41 x2 x3 x5 σ13 else f_X8_isLie_76 rec41 x2 x3 x5 σ13) else f_X8_isLie_72 rec41 x2 x3 x5 σ
def f_X8_isLie_41   (x2 : Int32) (x3 : Int32) (x4 : Int32) (x5 : Int32) (σ : St) : Option (Int32 × St) := lp (fun (rec41 : Int32 × Int32 × Int32 × Int32 × St → Option (Int32 × St)) (q : Int32 × Int32 × Int32 × Int32 × St) => b_X8_isLie_41   rec41 (q.1) (q.2.1) (q.2.2.1) (q.2.2.2.1) (q.2.2.2.2)) 100000 (x2, x3, x4, x5, σ)
set_option maxHeartbeats 4000000 in
theorem t_X8_isLie_41 (C : Cx p s m args meth c cX8_isLie 6 RX8 D (tyG G)) (hr : meth.sig.returnType = (some .boolean)) {o : Int32 × St}   : ∀ (x2 : Int32) (x3 : Int32) (x4 : Int32) (x5 : Int32) (σ : St) (H : Heap) (locs : List Loc) (ls : Array Slot), Hs D A s.heap (wM G σ) H locs → lv_has ls 6 [(0, .ref (G.1 0)), (2, .int x2), (3, .int x3), (4, .int x4), (5, .int x5)] → f_X8_isLie_41   x2 x3 x4 x5 σ = some o → W p l e ({ frames := 4, cells := 0, slots := 0, locals := 93 } : Room) s m args below meth c H locs 0 0 (MQ below (QI D (tyG G) (wM G) A o) args s 0 0 A) (F0 m 41 ls []) := by
  intro x2 x3 x4 x5 σ H locs ls h hl hf
  refine lp_el (P := fun q : Int32 × Int32 × Int32 × Int32 × St => ∀ (H : Heap) (locs : List Loc) (ls : Array Slot), Hs D A s.heap (wM G (q.2.2.2.2)) H locs → lv_has ls 6 [(0, .ref (G.1 0)), (2, .int (q.1)), (3, .int (q.2.1)), (4, .int (q.2.2.1)), (5, .int (q.2.2.2.1))] → W p l e ({ frames := 4, cells := 0, slots := 0, locals := 93 } : Room) s m args below meth c H locs 0 0 (MQ below (QI D (tyG G) (wM G) A o) args s 0 0 A) (F0 m 41 ls [])) (fun rec41 q IH41 hf => ?_) _ (x2, x3, x4, x5, σ) hf H locs ls h hl
  obtain ⟨x2, x3, x4, x5, σ⟩ := q
  intro H locs ls h hl
  have hl : lv_has ls 6 [(0, .ref (G.1 0)), (2, .int x2), (3, .int x3), (4, .int x4), (5, .int x5)] := hl
  have h : Hs D A s.heap (wM G σ) H locs := h
  have hf : b_X8_isLie_41   rec41 x2 x3 x4 x5 σ = some o := hf
  unfold b_X8_isLie_41 at hf
  have hx := C.1
  have hb := C.2.1
  refine lv_iload hx hb dX8_isLie_41 (lv_at hl 4 rfl) ?_
  refine lv_aload_n hx hb dX8_isLie_43 rfl (lv_at hl 0 rfl) ?_
  refine gf_X8_116 C h dX8_isLie_44 ?_
  refine lv_icmp_ge (tgt := 85) hx hb dX8_isLie_47 (by decide) (fun c10 => ?_) (fun c10 => ?_)
  · have hf := ifT c10 hf
    refine lv_iload hx hb dX8_isLie_85 (lv_at hl 3 rfl) ?_
    refine ck_el hf (fun hz hf => ?_)
    exact x_zret C hr h hz hf dX8_isLie_87
  · have hf := ifF c10 hf
    refine lv_iload hx hb dX8_isLie_50 (lv_at hl 3 rfl) ?_
    refine lv_if_ne (tgt := 72) hx hb dX8_isLie_52 (by decide) (fun c11 => ?_) (fun c11 => ?_)
    · have hf := ifF c11 hf
      exact t_X8_isLie_72 C hr IH41 x2 x3 x5 σ _ _ _ h (lv_sub hl [0, 1, 2, 4] rfl) hf
    · have hf := ifT c11 hf
      refine lv_iload hx hb dX8_isLie_55 (lv_at hl 4 rfl) ?_
      refine lv_iload_n hx hb dX8_isLie_57 rfl (lv_at hl 1 rfl) ?_
      refine lv_icmp_eq (tgt := 76) hx hb dX8_isLie_58 (by decide) (fun c12 => ?_) (fun c12 => ?_)
      · have hf := ifT c12 hf
        exact t_X8_isLie_76 C hr IH41 x2 x3 x5 σ _ _ _ h (lv_sub hl [0, 1, 2, 4] rfl) hf
      · have hf := ifF c12 hf
        refine lv_aload_n hx hb dX8_isLie_61 rfl (lv_at hl 0 rfl) ?_
        refine lv_iload hx hb dX8_isLie_62 (lv_at hl 4 rfl) ?_
        refine lv_iload_n hx hb dX8_isLie_64 rfl (lv_at hl 1 rfl) ?_
        refine lv_iload_n hx hb dX8_isLie_65 rfl (lv_at hl 2 rfl) ?_
        refine bd_el hf (fun r15 σ13 ho14 hf => ?_)
        refine x_goi h (x_runV (As := [.int x5, .int x2, .int x3]) (rest := []) C h (c_X8_lets l D G x5 x2 x3 σ (r15, σ13) ho14 _) lk_X8_280 rfl ⟨rfl, rfl, Nat.le_of_ble_eq_true rfl, Nat.le_of_ble_eq_true rfl⟩ (x_rcv C h 0 (by decide) (oM G _ _) rfl) hl.1 rfl (Nat.le_of_ble_eq_true rfl) dX8_isLie_66) (fun H locs h => ?_)
        refine lv_if_ne (tgt := 76) hx hb dX8_isLie_69 (by decide) (fun c16 => ?_) (fun c16 => ?_)
        · have hf := ifF c16 hf
          exact t_X8_isLie_76 C hr IH41 x2 x3 x5 σ13 _ _ _ h (lv_sub hl [0, 1, 2, 4] rfl) hf
        · have hf := ifT c16 hf
          exact t_X8_isLie_72 C hr IH41 x2 x3 x5 σ13 _ _ _ h (lv_sub hl [0, 1, 2, 4] rfl) hf
def f_X8_isLie_36   (x2 : Int32) (x3 : Int32) (y0 : Int32) (σ : St) : Option (Int32 × St) := f_X8_isLie_41 x2 x3 y0 0 σ
set_option maxHeartbeats 4000000 in
theorem t_X8_isLie_36 (C : Cx p s m args meth c cX8_isLie 6 RX8 D (tyG G)) (hr : meth.sig.returnType = (some .boolean)) {o : Int32 × St}   : ∀ (x2 : Int32) (x3 : Int32) (y0 : Int32) (σ : St) (H : Heap) (locs : List Loc) (ls : Array Slot), Hs D A s.heap (wM G σ) H locs → lv_has ls 6 [(0, .ref (G.1 0)), (2, .int x2), (3, .int x3)] → f_X8_isLie_36   x2 x3 y0 σ = some o → W p l e ({ frames := 4, cells := 0, slots := 0, locals := 93 } : Room) s m args below meth c H locs 0 0 (MQ below (QI D (tyG G) (wM G) A o) args s 0 0 A) (F0 m 36 ls [.int y0]) := by
  intro x2 x3 y0 σ H locs ls h hl hf
  unfold f_X8_isLie_36 at hf
  have hx := C.1
  have hb := C.2.1
  refine lv_istore (lv' := [(4, .int y0), (0, .ref (G.1 0)), (2, .int x2), (3, .int x3)]) hx hb dX8_isLie_36 hl (by decide) rfl (fun ls hl => ?_)
  refine lv_iconst (v := 0) hx hb dX8_isLie_38 (by decide) ?_
  refine lv_istore (lv' := [(5, .int 0), (4, .int y0), (0, .ref (G.1 0)), (2, .int x2), (3, .int x3)]) hx hb dX8_isLie_39 hl (by decide) rfl (fun ls hl => ?_)
  exact t_X8_isLie_41 C hr x2 x3 y0 0 σ _ _ _ h (lv_sub hl [2, 3, 4, 1, 0] rfl) hf
def f_X8_isLie  (x1 : Int32) (σ : St) : Option (Int32 × St) := rd (σ.1 25) 40 x1 (fun v1 => rd (σ.1 26) 40 x1 (fun v2 => bd (f_X8_later v1 (v2 - 1) σ) (fun r5 σ3 => bd (f_X8_later v1 v2 σ3) (fun r8 σ6 => if r5 = r8 then f_X8_isLie_36 v1 v2 1 σ6 else f_X8_isLie_36 v1 v2 0 σ6))))
set_option maxHeartbeats 4000000 in
theorem c_X8_isLie (l : Launch) (D : va_G) (G : Geo)   (x1 : Int32) (σ : St) (o : Int32 × St) (hf : f_X8_isLie  x1 σ = some o) : CI l D (tyG G) (wM G) yX8_isLie cX8_isLie 6 ((some .boolean)) ({ frames := 4, cells := 0, slots := 0, locals := 93 }) [.ref (G.1 0), .int x1] σ o := by
  refine met_of (Qc := fun A => QI D (tyG G) (wM G) A o) pn_X8 (Nat.le_of_ble_eq_true rfl) (fun p e s m below meth c A ls C hr h hl => ?_)
  have C : Cx p s m _ meth c cX8_isLie 6 RX8 D (tyG G) := C
  have hl : lv_has ls 6 [(0, .ref (G.1 0)), (1, .int x1)] := hl
  unfold f_X8_isLie at hf
  have hx := C.1
  have hb := C.2.1
  refine lv_aload_n hx hb dX8_isLie_0 rfl (lv_at hl 0 rfl) ?_
  refine gf_X8_96 C h dX8_isLie_1 ?_
  refine lv_iload_n hx hb dX8_isLie_4 rfl (lv_at hl 1 rfl) ?_
  refine rd_el hf (fun v1 hinv1 hv1 hf => ?_)
  refine x_iald C h 25 1 (by decide) (aM_25 G _ _) rfl hinv1 hv1 dX8_isLie_5 ?_
  refine lv_istore_n (lv' := [(2, .int v1), (0, .ref (G.1 0)), (1, .int x1)]) hx hb dX8_isLie_6 rfl hl (by decide) rfl (fun ls hl => ?_)
  refine lv_aload_n hx hb dX8_isLie_7 rfl (lv_at hl 1 rfl) ?_
  refine gf_X8_99 C h dX8_isLie_8 ?_
  refine lv_iload_n hx hb dX8_isLie_11 rfl (lv_at hl 2 rfl) ?_
  refine rd_el hf (fun v2 hinv2 hv2 hf => ?_)
  refine x_iald C h 26 1 (by decide) (aM_26 G _ _) rfl hinv2 hv2 dX8_isLie_12 ?_
  refine lv_istore_n (lv' := [(3, .int v2), (2, .int v1), (0, .ref (G.1 0)), (1, .int x1)]) hx hb dX8_isLie_13 rfl hl (by decide) rfl (fun ls hl => ?_)
  refine lv_aload_n hx hb dX8_isLie_14 rfl (lv_at hl 2 rfl) ?_
  refine lv_iload_n hx hb dX8_isLie_15 rfl (lv_at hl 1 rfl) ?_
  refine lv_iload_n hx hb dX8_isLie_16 rfl (lv_at hl 0 rfl) ?_
  refine lv_iconst (v := 1) hx hb dX8_isLie_17 (by decide) ?_
  refine lv_isub hx hb dX8_isLie_18 ?_
  refine bd_el hf (fun r5 σ3 ho4 hf => ?_)
  refine x_goi h (x_runV (As := [.int v1, .int (v2 - 1)]) (rest := []) C h (c_X8_later l D G v1 (v2 - 1) σ (r5, σ3) ho4 _) lk_X8_275 rfl ⟨rfl, rfl, Nat.le_of_ble_eq_true rfl, Nat.le_of_ble_eq_true rfl⟩ (x_rcv C h 0 (by decide) (oM G _ _) rfl) hl.1 rfl (Nat.le_of_ble_eq_true rfl) dX8_isLie_19) (fun H locs h => ?_)
  refine lv_aload_n hx hb dX8_isLie_22 rfl (lv_at hl 2 rfl) ?_
  refine lv_iload_n hx hb dX8_isLie_23 rfl (lv_at hl 1 rfl) ?_
  refine lv_iload_n hx hb dX8_isLie_24 rfl (lv_at hl 0 rfl) ?_
  refine bd_el hf (fun r8 σ6 ho7 hf => ?_)
  refine x_goi h (x_runV (As := [.int v1, .int v2]) (rest := [.int r5]) C h (c_X8_later l D G v1 v2 σ3 (r8, σ6) ho7 _) lk_X8_275 rfl ⟨rfl, rfl, Nat.le_of_ble_eq_true rfl, Nat.le_of_ble_eq_true rfl⟩ (x_rcv C h 0 (by decide) (oM G _ _) rfl) hl.1 rfl (Nat.le_of_ble_eq_true rfl) dX8_isLie_25) (fun H locs h => ?_)
  refine lv_icmp_ne (tgt := 35) hx hb dX8_isLie_28 (by decide) (fun c9 => ?_) (fun c9 => ?_)
  · have hf := ifF c9 hf
    refine lv_iconst (v := 0) hx hb dX8_isLie_35 (by decide) ?_
    exact t_X8_isLie_36 C hr v1 v2 0 σ6 _ _ _ h (lv_sub hl [2, 1, 0] rfl) hf
  · have hf := ifT c9 hf
    refine lv_iconst (v := 1) hx hb dX8_isLie_31 (by decide) ?_
    refine lv_goto (tgt := 36) hx hb dX8_isLie_32 (by decide) ?_
    exact t_X8_isLie_36 C hr v1 v2 1 σ6 _ _ _ h (lv_sub hl [2, 1, 0] rfl) hf
def b_X8_lies_14   (rec14 : Int32 × St → Option (Int32 × St)) (x1 : Int32) (σ : St) : Option (Int32 × St) := if (σ.1 0 44) ≤ x1 then some ((-1), σ) else bd (f_X8_isLie x1 σ) (fun r5 σ3 => if r5 = 0 then rec14 (x1 + 1, σ3) else some (x1, σ3))
def f_X8_lies_14   (x1 : Int32) (σ : St) : Option (Int32 × St) := lp (fun (rec14 : Int32 × St → Option (Int32 × St)) (q : Int32 × St) => b_X8_lies_14   rec14 (q.1) (q.2)) 100000 (x1, σ)
set_option maxHeartbeats 4000000 in
theorem t_X8_lies_14 (C : Cx p s m args meth c cX8_lies 2 RX8 D (tyG G)) (hr : meth.sig.returnType = (some .int)) {o : Int32 × St}   : ∀ (x1 : Int32) (σ : St) (H : Heap) (locs : List Loc) (ls : Array Slot), Hs D A s.heap (wM G σ) H locs → lv_has ls 2 [(0, .ref (G.1 0)), (1, .int x1)] → f_X8_lies_14   x1 σ = some o → W p l e ({ frames := 5, cells := 0, slots := 0, locals := 118 } : Room) s m args below meth c H locs 0 0 (MQ below (QI D (tyG G) (wM G) A o) args s 0 0 A) (F0 m 14 ls []) := by
  intro x1 σ H locs ls h hl hf
  refine lp_el (P := fun q : Int32 × St => ∀ (H : Heap) (locs : List Loc) (ls : Array Slot), Hs D A s.heap (wM G (q.2)) H locs → lv_has ls 2 [(0, .ref (G.1 0)), (1, .int (q.1))] → W p l e ({ frames := 5, cells := 0, slots := 0, locals := 118 } : Room) s m args below meth c H locs 0 0 (MQ below (QI D (tyG G) (wM G) A o) args s 0 0 A) (F0 m 14 ls [])) (fun rec14 q IH14 hf => ?_) _ (x1, σ) hf H locs ls h hl
  obtain ⟨x1, σ⟩ := q
  intro H locs ls h hl
  have hl : lv_has ls 2 [(0, .ref (G.1 0)), (1, .int x1)] := hl
  have h : Hs D A s.heap (wM G σ) H locs := h
  have hf : b_X8_lies_14   rec14 x1 σ = some o := hf
  unfold b_X8_lies_14 at hf
  have hx := C.1
  have hb := C.2.1
  refine lv_iload_n hx hb dX8_lies_14 rfl (lv_at hl 1 rfl) ?_
  refine lv_aload_n hx hb dX8_lies_15 rfl (lv_at hl 0 rfl) ?_
  refine gf_X8_213 C h dX8_lies_16 ?_
  refine lv_icmp_ge (tgt := 38) hx hb dX8_lies_19 (by decide) (fun c2 => ?_) (fun c2 => ?_)
  · have hf := ifT c2 hf
    refine lv_iconst (v := (-1)) hx hb dX8_lies_38 (by decide) ?_
    exact x_iret C hr h hf dX8_lies_39
  · have hf := ifF c2 hf
    refine lv_aload_n hx hb dX8_lies_22 rfl (lv_at hl 0 rfl) ?_
    refine lv_iload_n hx hb dX8_lies_23 rfl (lv_at hl 1 rfl) ?_
    refine bd_el hf (fun r5 σ3 ho4 hf => ?_)
    refine x_goi h (x_runV (As := [.int x1]) (rest := []) C h (c_X8_isLie l D G x1 σ (r5, σ3) ho4 _) lk_X8_325 rfl ⟨rfl, rfl, Nat.le_of_ble_eq_true rfl, Nat.le_of_ble_eq_true rfl⟩ (x_rcv C h 0 (by decide) (oM G _ _) rfl) hl.1 rfl (Nat.le_of_ble_eq_true rfl) dX8_lies_24) (fun H locs h => ?_)
    refine lv_if_eq (tgt := 32) hx hb dX8_lies_27 (by decide) (fun c6 => ?_) (fun c6 => ?_)
    · have hf := ifT c6 hf
      refine lv_iinc (v := x1 + 1) (lv' := [(1, .int (x1 + 1)), (0, .ref (G.1 0))]) hx hb dX8_lies_32 hl (k := 1) rfl rfl (by decide) rfl (fun ls hl => ?_)
      refine lv_goto (tgt := 14) hx hb dX8_lies_35 (by decide) ?_
      exact IH14 (x1 + 1, σ3) hf _ _ _ h (lv_sub hl [1, 0] rfl)
    · have hf := ifF c6 hf
      refine lv_iload_n hx hb dX8_lies_30 rfl (lv_at hl 1 rfl) ?_
      exact x_iret C hr h hf dX8_lies_31
def f_X8_lies   (σ : St) : Option (Int32 × St) := if (σ.1 0 13) = 2 then some ((-1000000003), σ) else f_X8_lies_14 0 σ
set_option maxHeartbeats 4000000 in
theorem c_X8_lies (l : Launch) (D : va_G) (G : Geo)    (σ : St) (o : Int32 × St) (hf : f_X8_lies   σ = some o) : CI l D (tyG G) (wM G) yX8_lies cX8_lies 2 ((some .int)) ({ frames := 5, cells := 0, slots := 0, locals := 118 }) [.ref (G.1 0)] σ o := by
  refine met_of (Qc := fun A => QI D (tyG G) (wM G) A o) pn_X8 (Nat.le_of_ble_eq_true rfl) (fun p e s m below meth c A ls C hr h hl => ?_)
  have C : Cx p s m _ meth c cX8_lies 2 RX8 D (tyG G) := C
  have hl : lv_has ls 2 [(0, .ref (G.1 0))] := hl
  unfold f_X8_lies at hf
  have hx := C.1
  have hb := C.2.1
  refine lv_aload_n hx hb dX8_lies_0 rfl (lv_at hl 0 rfl) ?_
  refine gf_X8_119 C h dX8_lies_1 ?_
  refine lv_iconst (v := 2) hx hb dX8_lies_4 (by decide) ?_
  refine lv_icmp_ne (tgt := 12) hx hb dX8_lies_5 (by decide) (fun c1 => ?_) (fun c1 => ?_)
  · have hf := ifF c1 hf
    refine lv_iconst (v := 0) hx hb dX8_lies_12 (by decide) ?_
    refine lv_istore_n (lv' := [(1, .int 0), (0, .ref (G.1 0))]) hx hb dX8_lies_13 rfl hl (by decide) rfl (fun ls hl => ?_)
    exact t_X8_lies_14 C hr 0 σ _ _ _ h (lv_sub hl [1, 0] rfl) hf
  · have hf := ifT c1 hf
    refine lv_ldcw (v := (-1000000003)) hx hb C.2.2.2.1 (C.2.2.2.2.1 _ q585) dX8_lies_8 ?_
    exact x_iret C hr h hf dX8_lies_11
def f_X8_isHonest_39  (rec4 : Int32 × Int32 × Int32 × St → Option (Int32 × St)) (x1 : Int32) (x3 : Int32) (y0 : Int32) (σ : St) : Option (Int32 × St) := rec4 (x1, y0, x3 + 1, σ)
set_option maxHeartbeats 4000000 in
theorem t_X8_isHonest_39 (C : Cx p s m args meth c cX8_isHonest 4 RX8 D (tyG G)) (hr : meth.sig.returnType = (some .boolean)) {o : Int32 × St}  {rec4 : Int32 × Int32 × Int32 × St → Option (Int32 × St)} (IH4 : ∀ q, rec4 q = some o → ∀ (H : Heap) (locs : List Loc) (ls : Array Slot), Hs D A s.heap (wM G (q.2.2.2)) H locs → lv_has ls 4 [(0, .ref (G.1 0)), (1, .int (q.1)), (2, .int (q.2.1)), (3, .int (q.2.2.1))] → W p l e ({ frames := 5, cells := 0, slots := 0, locals := 118 } : Room) s m args below meth c H locs 0 0 (MQ below (QI D (tyG G) (wM G) A o) args s 0 0 A) (F0 m 4 ls [])) : ∀ (x1 : Int32) (x3 : Int32) (y0 : Int32) (σ : St) (H : Heap) (locs : List Loc) (ls : Array Slot), Hs D A s.heap (wM G σ) H locs → lv_has ls 4 [(0, .ref (G.1 0)), (1, .int x1), (3, .int x3)] → f_X8_isHonest_39  rec4 x1 x3 y0 σ = some o → W p l e ({ frames := 5, cells := 0, slots := 0, locals := 118 } : Room) s m args below meth c H locs 0 0 (MQ below (QI D (tyG G) (wM G) A o) args s 0 0 A) (F0 m 39 ls [.int y0]) := by
  intro x1 x3 y0 σ H locs ls h hl hf
  unfold f_X8_isHonest_39 at hf
  have hx := C.1
  have hb := C.2.1
  refine lv_istore_n (lv' := [(2, .int y0), (0, .ref (G.1 0)), (1, .int x1), (3, .int x3)]) hx hb dX8_isHonest_39 rfl hl (by decide) rfl (fun ls hl => ?_)
  refine lv_iinc (v := x3 + 1) (lv' := [(3, .int (x3 + 1)), (2, .int y0), (0, .ref (G.1 0)), (1, .int x1)]) hx hb dX8_isHonest_40 hl (k := 3) rfl rfl (by decide) rfl (fun ls hl => ?_)
  refine lv_goto (tgt := 4) hx hb dX8_isHonest_43 (by decide) ?_
  exact IH4 (x1, y0, x3 + 1, σ) hf _ _ _ h (lv_sub hl [2, 3, 1, 0] rfl)
def f_X8_isHonest_38  (rec4 : Int32 × Int32 × Int32 × St → Option (Int32 × St)) (x1 : Int32) (x3 : Int32) (σ : St) : Option (Int32 × St) := f_X8_isHonest_39 rec4 x1 x3 0 σ
set_option maxHeartbeats 4000000 in
theorem t_X8_isHonest_38 (C : Cx p s m args meth c cX8_isHonest 4 RX8 D (tyG G)) (hr : meth.sig.returnType = (some .boolean)) {o : Int32 × St}  {rec4 : Int32 × Int32 × Int32 × St → Option (Int32 × St)} (IH4 : ∀ q, rec4 q = some o → ∀ (H : Heap) (locs : List Loc) (ls : Array Slot), Hs D A s.heap (wM G (q.2.2.2)) H locs → lv_has ls 4 [(0, .ref (G.1 0)), (1, .int (q.1)), (2, .int (q.2.1)), (3, .int (q.2.2.1))] → W p l e ({ frames := 5, cells := 0, slots := 0, locals := 118 } : Room) s m args below meth c H locs 0 0 (MQ below (QI D (tyG G) (wM G) A o) args s 0 0 A) (F0 m 4 ls [])) : ∀ (x1 : Int32) (x3 : Int32) (σ : St) (H : Heap) (locs : List Loc) (ls : Array Slot), Hs D A s.heap (wM G σ) H locs → lv_has ls 4 [(0, .ref (G.1 0)), (1, .int x1), (3, .int x3)] → f_X8_isHonest_38  rec4 x1 x3 σ = some o → W p l e ({ frames := 5, cells := 0, slots := 0, locals := 118 } : Room) s m args below meth c H locs 0 0 (MQ below (QI D (tyG G) (wM G) A o) args s 0 0 A) (F0 m 38 ls []) := by
  intro x1 x3 σ H locs ls h hl hf
  unfold f_X8_isHonest_38 at hf
  have hx := C.1
  have hb := C.2.1
  refine lv_iconst (v := 0) hx hb dX8_isHonest_38 (by decide) ?_
  exact t_X8_isHonest_39 C hr IH4 x1 x3 0 σ _ _ _ h (lv_sub hl [0, 1, 2] rfl) hf
def f_X8_isHonest_34  (rec4 : Int32 × Int32 × Int32 × St → Option (Int32 × St)) (x1 : Int32) (x3 : Int32) (σ : St) : Option (Int32 × St) := f_X8_isHonest_39 rec4 x1 x3 1 σ
set_option maxHeartbeats 4000000 in
theorem t_X8_isHonest_34 (C : Cx p s m args meth c cX8_isHonest 4 RX8 D (tyG G)) (hr : meth.sig.returnType = (some .boolean)) {o : Int32 × St}  {rec4 : Int32 × Int32 × Int32 × St → Option (Int32 × St)} (IH4 : ∀ q, rec4 q = some o → ∀ (H : Heap) (locs : List Loc) (ls : Array Slot), Hs D A s.heap (wM G (q.2.2.2)) H locs → lv_has ls 4 [(0, .ref (G.1 0)), (1, .int (q.1)), (2, .int (q.2.1)), (3, .int (q.2.2.1))] → W p l e ({ frames := 5, cells := 0, slots := 0, locals := 118 } : Room) s m args below meth c H locs 0 0 (MQ below (QI D (tyG G) (wM G) A o) args s 0 0 A) (F0 m 4 ls [])) : ∀ (x1 : Int32) (x3 : Int32) (σ : St) (H : Heap) (locs : List Loc) (ls : Array Slot), Hs D A s.heap (wM G σ) H locs → lv_has ls 4 [(0, .ref (G.1 0)), (1, .int x1), (3, .int x3)] → f_X8_isHonest_34  rec4 x1 x3 σ = some o → W p l e ({ frames := 5, cells := 0, slots := 0, locals := 118 } : Room) s m args below meth c H locs 0 0 (MQ below (QI D (tyG G) (wM G) A o) args s 0 0 A) (F0 m 34 ls []) := by
  intro x1 x3 σ H locs ls h hl hf
  unfold f_X8_isHonest_34 at hf
  have hx := C.1
  have hb := C.2.1
  refine lv_iconst (v := 1) hx hb dX8_isHonest_34 (by decide) ?_
  refine lv_goto (tgt := 39) hx hb dX8_isHonest_35 (by decide) ?_
  exact t_X8_isHonest_39 C hr IH4 x1 x3 1 σ _ _ _ h (lv_sub hl [0, 1, 2] rfl) hf
def b_X8_isHonest_4   (rec4 : Int32 × Int32 × Int32 × St → Option (Int32 × St)) (x1 : Int32) (x2 : Int32) (x3 : Int32) (σ : St) : Option (Int32 × St) := if (σ.1 0 44) ≤ x3 then ck (bz x2) (some (x2, σ)) else if x2 = 0 then f_X8_isHonest_38 rec4 x1 x3 σ else rd (σ.1 25) 40 x3 (fun v3 => if v3 = x1 then bd (f_X8_isLie x3 σ) (fun r7 σ5 => if r7 = 0 then f_X8_isHonest_34 rec4 x1 x3 σ5 else f_X8_isHonest_38 rec4 x1 x3 σ5) else f_X8_isHonest_34 rec4 x1 x3 σ)
def f_X8_isHonest_4   (x1 : Int32) (x2 : Int32) (x3 : Int32) (σ : St) : Option (Int32 × St) := lp (fun (rec4 : Int32 × Int32 × Int32 × St → Option (Int32 × St)) (q : Int32 × Int32 × Int32 × St) => b_X8_isHonest_4   rec4 (q.1) (q.2.1) (q.2.2.1) (q.2.2.2)) 100000 (x1, x2, x3, σ)
set_option maxHeartbeats 4000000 in
theorem t_X8_isHonest_4 (C : Cx p s m args meth c cX8_isHonest 4 RX8 D (tyG G)) (hr : meth.sig.returnType = (some .boolean)) {o : Int32 × St}   : ∀ (x1 : Int32) (x2 : Int32) (x3 : Int32) (σ : St) (H : Heap) (locs : List Loc) (ls : Array Slot), Hs D A s.heap (wM G σ) H locs → lv_has ls 4 [(0, .ref (G.1 0)), (1, .int x1), (2, .int x2), (3, .int x3)] → f_X8_isHonest_4   x1 x2 x3 σ = some o → W p l e ({ frames := 5, cells := 0, slots := 0, locals := 118 } : Room) s m args below meth c H locs 0 0 (MQ below (QI D (tyG G) (wM G) A o) args s 0 0 A) (F0 m 4 ls []) := by
  intro x1 x2 x3 σ H locs ls h hl hf
  refine lp_el (P := fun q : Int32 × Int32 × Int32 × St => ∀ (H : Heap) (locs : List Loc) (ls : Array Slot), Hs D A s.heap (wM G (q.2.2.2)) H locs → lv_has ls 4 [(0, .ref (G.1 0)), (1, .int (q.1)), (2, .int (q.2.1)), (3, .int (q.2.2.1))] → W p l e ({ frames := 5, cells := 0, slots := 0, locals := 118 } : Room) s m args below meth c H locs 0 0 (MQ below (QI D (tyG G) (wM G) A o) args s 0 0 A) (F0 m 4 ls [])) (fun rec4 q IH4 hf => ?_) _ (x1, x2, x3, σ) hf H locs ls h hl
  obtain ⟨x1, x2, x3, σ⟩ := q
  intro H locs ls h hl
  have hl : lv_has ls 4 [(0, .ref (G.1 0)), (1, .int x1), (2, .int x2), (3, .int x3)] := hl
  have h : Hs D A s.heap (wM G σ) H locs := h
  have hf : b_X8_isHonest_4   rec4 x1 x2 x3 σ = some o := hf
  unfold b_X8_isHonest_4 at hf
  have hx := C.1
  have hb := C.2.1
  refine lv_iload_n hx hb dX8_isHonest_4 rfl (lv_at hl 3 rfl) ?_
  refine lv_aload_n hx hb dX8_isHonest_5 rfl (lv_at hl 0 rfl) ?_
  refine gf_X8_213 C h dX8_isHonest_6 ?_
  refine lv_icmp_ge (tgt := 46) hx hb dX8_isHonest_9 (by decide) (fun c1 => ?_) (fun c1 => ?_)
  · have hf := ifT c1 hf
    refine lv_iload_n hx hb dX8_isHonest_46 rfl (lv_at hl 2 rfl) ?_
    refine ck_el hf (fun hz hf => ?_)
    exact x_zret C hr h hz hf dX8_isHonest_47
  · have hf := ifF c1 hf
    refine lv_iload_n hx hb dX8_isHonest_12 rfl (lv_at hl 2 rfl) ?_
    refine lv_if_eq (tgt := 38) hx hb dX8_isHonest_13 (by decide) (fun c2 => ?_) (fun c2 => ?_)
    · have hf := ifT c2 hf
      exact t_X8_isHonest_38 C hr IH4 x1 x3 σ _ _ _ h (lv_sub hl [0, 1, 3] rfl) hf
    · have hf := ifF c2 hf
      refine lv_aload_n hx hb dX8_isHonest_16 rfl (lv_at hl 0 rfl) ?_
      refine gf_X8_96 C h dX8_isHonest_17 ?_
      refine lv_iload_n hx hb dX8_isHonest_20 rfl (lv_at hl 3 rfl) ?_
      refine rd_el hf (fun v3 hinv3 hv3 hf => ?_)
      refine x_iald C h 25 1 (by decide) (aM_25 G _ _) rfl hinv3 hv3 dX8_isHonest_21 ?_
      refine lv_iload_n hx hb dX8_isHonest_22 rfl (lv_at hl 1 rfl) ?_
      refine lv_icmp_ne (tgt := 34) hx hb dX8_isHonest_23 (by decide) (fun c4 => ?_) (fun c4 => ?_)
      · have hf := ifF c4 hf
        exact t_X8_isHonest_34 C hr IH4 x1 x3 σ _ _ _ h (lv_sub hl [0, 1, 3] rfl) hf
      · have hf := ifT c4 hf
        refine lv_aload_n hx hb dX8_isHonest_26 rfl (lv_at hl 0 rfl) ?_
        refine lv_iload_n hx hb dX8_isHonest_27 rfl (lv_at hl 3 rfl) ?_
        refine bd_el hf (fun r7 σ5 ho6 hf => ?_)
        refine x_goi h (x_runV (As := [.int x3]) (rest := []) C h (c_X8_isLie l D G x3 σ (r7, σ5) ho6 _) lk_X8_325 rfl ⟨rfl, rfl, Nat.le_of_ble_eq_true rfl, Nat.le_of_ble_eq_true rfl⟩ (x_rcv C h 0 (by decide) (oM G _ _) rfl) hl.1 rfl (Nat.le_of_ble_eq_true rfl) dX8_isHonest_28) (fun H locs h => ?_)
        refine lv_if_ne (tgt := 38) hx hb dX8_isHonest_31 (by decide) (fun c8 => ?_) (fun c8 => ?_)
        · have hf := ifF c8 hf
          exact t_X8_isHonest_38 C hr IH4 x1 x3 σ5 _ _ _ h (lv_sub hl [0, 1, 3] rfl) hf
        · have hf := ifT c8 hf
          exact t_X8_isHonest_34 C hr IH4 x1 x3 σ5 _ _ _ h (lv_sub hl [0, 1, 3] rfl) hf
def f_X8_isHonest  (x1 : Int32) (σ : St) : Option (Int32 × St) := f_X8_isHonest_4 x1 1 0 σ
set_option maxHeartbeats 4000000 in
theorem c_X8_isHonest (l : Launch) (D : va_G) (G : Geo)   (x1 : Int32) (σ : St) (o : Int32 × St) (hf : f_X8_isHonest  x1 σ = some o) : CI l D (tyG G) (wM G) yX8_isHonest cX8_isHonest 4 ((some .boolean)) ({ frames := 5, cells := 0, slots := 0, locals := 118 }) [.ref (G.1 0), .int x1] σ o := by
  refine met_of (Qc := fun A => QI D (tyG G) (wM G) A o) pn_X8 (Nat.le_of_ble_eq_true rfl) (fun p e s m below meth c A ls C hr h hl => ?_)
  have C : Cx p s m _ meth c cX8_isHonest 4 RX8 D (tyG G) := C
  have hl : lv_has ls 4 [(0, .ref (G.1 0)), (1, .int x1)] := hl
  unfold f_X8_isHonest at hf
  have hx := C.1
  have hb := C.2.1
  refine lv_iconst (v := 1) hx hb dX8_isHonest_0 (by decide) ?_
  refine lv_istore_n (lv' := [(2, .int 1), (0, .ref (G.1 0)), (1, .int x1)]) hx hb dX8_isHonest_1 rfl hl (by decide) rfl (fun ls hl => ?_)
  refine lv_iconst (v := 0) hx hb dX8_isHonest_2 (by decide) ?_
  refine lv_istore_n (lv' := [(3, .int 0), (2, .int 1), (0, .ref (G.1 0)), (1, .int x1)]) hx hb dX8_isHonest_3 rfl hl (by decide) rfl (fun ls hl => ?_)
  exact t_X8_isHonest_4 C hr x1 1 0 σ _ _ _ h (lv_sub hl [2, 3, 1, 0] rfl) hf
def f_X8_fits_86  (rec39 : Int32 × Int32 × Int32 × Int32 × Int32 × Int32 × St → Option (Int32 × St)) (x1 : Int32) (x2 : Int32) (x3 : Int32) (x4 : Int32) (x5 : Int32) (x6 : Int32) (σ : St) : Option (Int32 × St) := rec39 (x1, x2, x3, x4, x5, x6 + 1, σ)
set_option maxHeartbeats 4000000 in
theorem t_X8_fits_86 (C : Cx p s m args meth c cX8_fits 7 RX8 D (tyG G)) (hr : meth.sig.returnType = (some .int)) {o : Int32 × St}  {rec39 : Int32 × Int32 × Int32 × Int32 × Int32 × Int32 × St → Option (Int32 × St)} (IH39 : ∀ q, rec39 q = some o → ∀ (H : Heap) (locs : List Loc) (ls : Array Slot), Hs D A s.heap (wM G (q.2.2.2.2.2.2)) H locs → lv_has ls 7 [(0, .ref (G.1 0)), (1, .int (q.1)), (2, .int (q.2.1)), (3, .int (q.2.2.1)), (4, .int (q.2.2.2.1)), (5, .int (q.2.2.2.2.1)), (6, .int (q.2.2.2.2.2.1))] → W p l e ({ frames := 6, cells := 0, slots := 0, locals := 141 } : Room) s m args below meth c H locs 0 0 (MQ below (QI D (tyG G) (wM G) A o) args s 0 0 A) (F0 m 39 ls [])) : ∀ (x1 : Int32) (x2 : Int32) (x3 : Int32) (x4 : Int32) (x5 : Int32) (x6 : Int32) (σ : St) (H : Heap) (locs : List Loc) (ls : Array Slot), Hs D A s.heap (wM G σ) H locs → lv_has ls 7 [(0, .ref (G.1 0)), (1, .int x1), (2, .int x2), (3, .int x3), (4, .int x4), (5, .int x5), (6, .int x6)] → f_X8_fits_86  rec39 x1 x2 x3 x4 x5 x6 σ = some o → W p l e ({ frames := 6, cells := 0, slots := 0, locals := 141 } : Room) s m args below meth c H locs 0 0 (MQ below (QI D (tyG G) (wM G) A o) args s 0 0 A) (F0 m 86 ls []) := by
  intro x1 x2 x3 x4 x5 x6 σ H locs ls h hl hf
  unfold f_X8_fits_86 at hf
  have hx := C.1
  have hb := C.2.1
  refine lv_iinc (v := x6 + 1) (lv' := [(6, .int (x6 + 1)), (0, .ref (G.1 0)), (1, .int x1), (2, .int x2), (3, .int x3), (4, .int x4), (5, .int x5)]) hx hb dX8_fits_86 hl (k := 6) rfl rfl (by decide) rfl (fun ls hl => ?_)
  refine lv_goto (tgt := 39) hx hb dX8_fits_89 (by decide) ?_
  exact IH39 (x1, x2, x3, x4, x5, x6 + 1, σ) hf _ _ _ h (lv_sub hl [1, 2, 3, 4, 5, 6, 0] rfl)
def f_X8_fits_81  (rec39 : Int32 × Int32 × Int32 × Int32 × Int32 × Int32 × St → Option (Int32 × St)) (x1 : Int32) (x2 : Int32) (x3 : Int32) (x4 : Int32) (x6 : Int32) (y0 : Int32) (σ : St) : Option (Int32 × St) := f_X8_fits_86 rec39 x1 x2 x3 (x4 + 1) y0 x6 σ
set_option maxHeartbeats 4000000 in
theorem t_X8_fits_81 (C : Cx p s m args meth c cX8_fits 7 RX8 D (tyG G)) (hr : meth.sig.returnType = (some .int)) {o : Int32 × St}  {rec39 : Int32 × Int32 × Int32 × Int32 × Int32 × Int32 × St → Option (Int32 × St)} (IH39 : ∀ q, rec39 q = some o → ∀ (H : Heap) (locs : List Loc) (ls : Array Slot), Hs D A s.heap (wM G (q.2.2.2.2.2.2)) H locs → lv_has ls 7 [(0, .ref (G.1 0)), (1, .int (q.1)), (2, .int (q.2.1)), (3, .int (q.2.2.1)), (4, .int (q.2.2.2.1)), (5, .int (q.2.2.2.2.1)), (6, .int (q.2.2.2.2.2.1))] → W p l e ({ frames := 6, cells := 0, slots := 0, locals := 141 } : Room) s m args below meth c H locs 0 0 (MQ below (QI D (tyG G) (wM G) A o) args s 0 0 A) (F0 m 39 ls [])) : ∀ (x1 : Int32) (x2 : Int32) (x3 : Int32) (x4 : Int32) (x6 : Int32) (y0 : Int32) (σ : St) (H : Heap) (locs : List Loc) (ls : Array Slot), Hs D A s.heap (wM G σ) H locs → lv_has ls 7 [(0, .ref (G.1 0)), (1, .int x1), (2, .int x2), (3, .int x3), (4, .int x4), (6, .int x6)] → f_X8_fits_81  rec39 x1 x2 x3 x4 x6 y0 σ = some o → W p l e ({ frames := 6, cells := 0, slots := 0, locals := 141 } : Room) s m args below meth c H locs 0 0 (MQ below (QI D (tyG G) (wM G) A o) args s 0 0 A) (F0 m 81 ls [.int y0]) := by
  intro x1 x2 x3 x4 x6 y0 σ H locs ls h hl hf
  unfold f_X8_fits_81 at hf
  have hx := C.1
  have hb := C.2.1
  refine lv_istore (lv' := [(5, .int y0), (0, .ref (G.1 0)), (1, .int x1), (2, .int x2), (3, .int x3), (4, .int x4), (6, .int x6)]) hx hb dX8_fits_81 hl (by decide) rfl (fun ls hl => ?_)
  refine lv_iinc (v := x4 + 1) (lv' := [(4, .int (x4 + 1)), (5, .int y0), (0, .ref (G.1 0)), (1, .int x1), (2, .int x2), (3, .int x3), (6, .int x6)]) hx hb dX8_fits_83 hl (k := 5) rfl rfl (by decide) rfl (fun ls hl => ?_)
  exact t_X8_fits_86 C hr IH39 x1 x2 x3 (x4 + 1) y0 x6 σ _ _ _ h (lv_sub hl [2, 3, 4, 5, 0, 1, 6] rfl) hf
def b_X8_fits_39   (rec39 : Int32 × Int32 × Int32 × Int32 × Int32 × Int32 × St → Option (Int32 × St)) (x1 : Int32) (x2 : Int32) (x3 : Int32) (x4 : Int32) (x5 : Int32) (x6 : Int32) (σ : St) : Option (Int32 × St) := if (60 : Int32) < x6 then ck (inb x1 8) (nm (sI σ 8 (x1 : Int32).toNatClampNeg x3) (fun σ9 => if x2 = ((-1)) then some (x4, σ9) else some (x5, σ9))) else ck (inb x1 8) (nm (sI σ 8 (x1 : Int32).toNatClampNeg x6) (fun σ12 => if x6 = x3 then f_X8_fits_86 rec39 x1 x2 x3 x4 x5 x6 σ12 else bd (f_X8_isHonest x1 σ12) (fun r16 σ14 => if r16 = 0 then f_X8_fits_86 rec39 x1 x2 x3 x4 x5 x6 σ14 else if x4 = x2 then f_X8_fits_81 rec39 x1 x2 x3 x4 x6 x6 σ14 else f_X8_fits_81 rec39 x1 x2 x3 x4 x6 x5 σ14)))
def f_X8_fits_39   (x1 : Int32) (x2 : Int32) (x3 : Int32) (x4 : Int32) (x5 : Int32) (x6 : Int32) (σ : St) : Option (Int32 × St) := lp (fun (rec39 : Int32 × Int32 × Int32 × Int32 × Int32 × Int32 × St → Option (Int32 × St)) (q : Int32 × Int32 × Int32 × Int32 × Int32 × Int32 × St) => b_X8_fits_39   rec39 (q.1) (q.2.1) (q.2.2.1) (q.2.2.2.1) (q.2.2.2.2.1) (q.2.2.2.2.2.1) (q.2.2.2.2.2.2)) 100000 (x1, x2, x3, x4, x5, x6, σ)
set_option maxHeartbeats 4000000 in
theorem t_X8_fits_39 (C : Cx p s m args meth c cX8_fits 7 RX8 D (tyG G)) (hr : meth.sig.returnType = (some .int)) {o : Int32 × St}   : ∀ (x1 : Int32) (x2 : Int32) (x3 : Int32) (x4 : Int32) (x5 : Int32) (x6 : Int32) (σ : St) (H : Heap) (locs : List Loc) (ls : Array Slot), Hs D A s.heap (wM G σ) H locs → lv_has ls 7 [(0, .ref (G.1 0)), (1, .int x1), (2, .int x2), (3, .int x3), (4, .int x4), (5, .int x5), (6, .int x6)] → f_X8_fits_39   x1 x2 x3 x4 x5 x6 σ = some o → W p l e ({ frames := 6, cells := 0, slots := 0, locals := 141 } : Room) s m args below meth c H locs 0 0 (MQ below (QI D (tyG G) (wM G) A o) args s 0 0 A) (F0 m 39 ls []) := by
  intro x1 x2 x3 x4 x5 x6 σ H locs ls h hl hf
  refine lp_el (P := fun q : Int32 × Int32 × Int32 × Int32 × Int32 × Int32 × St => ∀ (H : Heap) (locs : List Loc) (ls : Array Slot), Hs D A s.heap (wM G (q.2.2.2.2.2.2)) H locs → lv_has ls 7 [(0, .ref (G.1 0)), (1, .int (q.1)), (2, .int (q.2.1)), (3, .int (q.2.2.1)), (4, .int (q.2.2.2.1)), (5, .int (q.2.2.2.2.1)), (6, .int (q.2.2.2.2.2.1))] → W p l e ({ frames := 6, cells := 0, slots := 0, locals := 141 } : Room) s m args below meth c H locs 0 0 (MQ below (QI D (tyG G) (wM G) A o) args s 0 0 A) (F0 m 39 ls [])) (fun rec39 q IH39 hf => ?_) _ (x1, x2, x3, x4, x5, x6, σ) hf H locs ls h hl
  obtain ⟨x1, x2, x3, x4, x5, x6, σ⟩ := q
  intro H locs ls h hl
  have hl : lv_has ls 7 [(0, .ref (G.1 0)), (1, .int x1), (2, .int x2), (3, .int x3), (4, .int x4), (5, .int x5), (6, .int x6)] := hl
  have h : Hs D A s.heap (wM G σ) H locs := h
  have hf : b_X8_fits_39   rec39 x1 x2 x3 x4 x5 x6 σ = some o := hf
  unfold b_X8_fits_39 at hf
  have hx := C.1
  have hb := C.2.1
  refine lv_iload hx hb dX8_fits_39 (lv_at hl 6 rfl) ?_
  refine lv_bipush (v := 60) hx hb dX8_fits_41 (by decide) ?_
  refine lv_icmp_gt (tgt := 92) hx hb dX8_fits_43 (by decide) (fun c7 => ?_) (fun c7 => ?_)
  · have hf := ifT c7 hf
    refine lv_aload_n hx hb dX8_fits_92 rfl (lv_at hl 0 rfl) ?_
    refine gf_X8_31 C h dX8_fits_93 ?_
    refine lv_iload_n hx hb dX8_fits_96 rfl (lv_at hl 1 rfl) ?_
    refine lv_iload_n hx hb dX8_fits_97 rfl (lv_at hl 3 rfl) ?_
    refine ckb_el hf (fun hin8 hf => ?_)
    refine nm_el hf (fun σ9 hσ9 hf => ?_)
    refine x_iast C h 8 1 (by decide) (fun f => aM_8 G f _) rfl hin8 dX8_fits_98 hσ9 (fun H locs h => ?_)
    refine lv_iload_n hx hb dX8_fits_99 rfl (lv_at hl 2 rfl) ?_
    refine lv_iconst (v := (-1)) hx hb dX8_fits_100 (by decide) ?_
    refine lv_icmp_ne (tgt := 109) hx hb dX8_fits_101 (by decide) (fun c10 => ?_) (fun c10 => ?_)
    · have hf := ifF c10 hf
      refine lv_iload hx hb dX8_fits_109 (lv_at hl 5 rfl) ?_
      exact x_iret C hr h hf dX8_fits_111
    · have hf := ifT c10 hf
      refine lv_iload hx hb dX8_fits_104 (lv_at hl 4 rfl) ?_
      refine lv_goto (tgt := 111) hx hb dX8_fits_106 (by decide) ?_
      exact x_iret C hr h hf dX8_fits_111
  · have hf := ifF c7 hf
    refine lv_aload_n hx hb dX8_fits_46 rfl (lv_at hl 0 rfl) ?_
    refine gf_X8_31 C h dX8_fits_47 ?_
    refine lv_iload_n hx hb dX8_fits_50 rfl (lv_at hl 1 rfl) ?_
    refine lv_iload hx hb dX8_fits_51 (lv_at hl 6 rfl) ?_
    refine ckb_el hf (fun hin11 hf => ?_)
    refine nm_el hf (fun σ12 hσ12 hf => ?_)
    refine x_iast C h 8 1 (by decide) (fun f => aM_8 G f _) rfl hin11 dX8_fits_53 hσ12 (fun H locs h => ?_)
    refine lv_iload hx hb dX8_fits_54 (lv_at hl 6 rfl) ?_
    refine lv_iload_n hx hb dX8_fits_56 rfl (lv_at hl 3 rfl) ?_
    refine lv_icmp_eq (tgt := 86) hx hb dX8_fits_57 (by decide) (fun c13 => ?_) (fun c13 => ?_)
    · have hf := ifT c13 hf
      exact t_X8_fits_86 C hr IH39 x1 x2 x3 x4 x5 x6 σ12 _ _ _ h (lv_sub hl [0, 1, 2, 3, 4, 5, 6] rfl) hf
    · have hf := ifF c13 hf
      refine lv_aload_n hx hb dX8_fits_60 rfl (lv_at hl 0 rfl) ?_
      refine lv_iload_n hx hb dX8_fits_61 rfl (lv_at hl 1 rfl) ?_
      refine bd_el hf (fun r16 σ14 ho15 hf => ?_)
      refine x_goi h (x_runV (As := [.int x1]) (rest := []) C h (c_X8_isHonest l D G x1 σ12 (r16, σ14) ho15 _) lk_X8_328 rfl ⟨rfl, rfl, Nat.le_of_ble_eq_true rfl, Nat.le_of_ble_eq_true rfl⟩ (x_rcv C h 0 (by decide) (oM G _ _) rfl) hl.1 rfl (Nat.le_of_ble_eq_true rfl) dX8_fits_62) (fun H locs h => ?_)
      refine lv_if_eq (tgt := 86) hx hb dX8_fits_65 (by decide) (fun c17 => ?_) (fun c17 => ?_)
      · have hf := ifT c17 hf
        exact t_X8_fits_86 C hr IH39 x1 x2 x3 x4 x5 x6 σ14 _ _ _ h (lv_sub hl [0, 1, 2, 3, 4, 5, 6] rfl) hf
      · have hf := ifF c17 hf
        refine lv_iload hx hb dX8_fits_68 (lv_at hl 4 rfl) ?_
        refine lv_iload_n hx hb dX8_fits_70 rfl (lv_at hl 2 rfl) ?_
        refine lv_icmp_ne (tgt := 79) hx hb dX8_fits_71 (by decide) (fun c18 => ?_) (fun c18 => ?_)
        · have hf := ifF c18 hf
          refine lv_iload hx hb dX8_fits_79 (lv_at hl 5 rfl) ?_
          exact t_X8_fits_81 C hr IH39 x1 x2 x3 x4 x6 x5 σ14 _ _ _ h (lv_sub hl [0, 1, 2, 3, 4, 6] rfl) hf
        · have hf := ifT c18 hf
          refine lv_iload hx hb dX8_fits_74 (lv_at hl 6 rfl) ?_
          refine lv_goto (tgt := 81) hx hb dX8_fits_76 (by decide) ?_
          exact t_X8_fits_81 C hr IH39 x1 x2 x3 x4 x6 x6 σ14 _ _ _ h (lv_sub hl [0, 1, 2, 3, 4, 6] rfl) hf
def f_X8_fits  (x1 : Int32) (x2 : Int32) (σ : St) : Option (Int32 × St) := bd (f_X8_isSleeper x1 σ) (fun r3 σ1 => if r3 = 0 then some ((-1000000001), σ1) else if (σ1.1 0 13) = 2 then some ((-1000000003), σ1) else rd (σ1.1 8) 8 x1 (fun v6 => f_X8_fits_39 x1 x2 v6 0 ((-1)) 0 σ1))
set_option maxHeartbeats 4000000 in
theorem c_X8_fits (l : Launch) (D : va_G) (G : Geo)   (x1 : Int32) (x2 : Int32) (σ : St) (o : Int32 × St) (hf : f_X8_fits  x1 x2 σ = some o) : CI l D (tyG G) (wM G) yX8_fits cX8_fits 7 ((some .int)) ({ frames := 6, cells := 0, slots := 0, locals := 141 }) [.ref (G.1 0), .int x1, .int x2] σ o := by
  refine met_of (Qc := fun A => QI D (tyG G) (wM G) A o) pn_X8 (Nat.le_of_ble_eq_true rfl) (fun p e s m below meth c A ls C hr h hl => ?_)
  have C : Cx p s m _ meth c cX8_fits 7 RX8 D (tyG G) := C
  have hl : lv_has ls 7 [(0, .ref (G.1 0)), (1, .int x1), (2, .int x2)] := hl
  unfold f_X8_fits at hf
  have hx := C.1
  have hb := C.2.1
  refine lv_aload_n hx hb dX8_fits_0 rfl (lv_at hl 0 rfl) ?_
  refine lv_iload_n hx hb dX8_fits_1 rfl (lv_at hl 1 rfl) ?_
  refine bd_el hf (fun r3 σ1 ho2 hf => ?_)
  refine x_goi h (x_runV (As := [.int x1]) (rest := []) C h (c_X8_isSleeper l D G x1 σ (r3, σ1) ho2 _) lk_X8_231 rfl ⟨rfl, rfl, Nat.le_of_ble_eq_true rfl, Nat.le_of_ble_eq_true rfl⟩ (x_rcv C h 0 (by decide) (oM G _ _) rfl) hl.1 rfl (Nat.le_of_ble_eq_true rfl) dX8_fits_2) (fun H locs h => ?_)
  refine lv_if_ne (tgt := 11) hx hb dX8_fits_5 (by decide) (fun c4 => ?_) (fun c4 => ?_)
  · have hf := ifF c4 hf
    refine lv_aload_n hx hb dX8_fits_11 rfl (lv_at hl 0 rfl) ?_
    refine gf_X8_119 C h dX8_fits_12 ?_
    refine lv_iconst (v := 2) hx hb dX8_fits_15 (by decide) ?_
    refine lv_icmp_ne (tgt := 23) hx hb dX8_fits_16 (by decide) (fun c5 => ?_) (fun c5 => ?_)
    · have hf := ifF c5 hf
      refine lv_aload_n hx hb dX8_fits_23 rfl (lv_at hl 0 rfl) ?_
      refine gf_X8_31 C h dX8_fits_24 ?_
      refine lv_iload_n hx hb dX8_fits_27 rfl (lv_at hl 1 rfl) ?_
      refine rd_el hf (fun v6 hinv6 hv6 hf => ?_)
      refine x_iald C h 8 1 (by decide) (aM_8 G _ _) rfl hinv6 hv6 dX8_fits_28 ?_
      refine lv_istore_n (lv' := [(3, .int v6), (0, .ref (G.1 0)), (1, .int x1), (2, .int x2)]) hx hb dX8_fits_29 rfl hl (by decide) rfl (fun ls hl => ?_)
      refine lv_iconst (v := 0) hx hb dX8_fits_30 (by decide) ?_
      refine lv_istore (lv' := [(4, .int 0), (3, .int v6), (0, .ref (G.1 0)), (1, .int x1), (2, .int x2)]) hx hb dX8_fits_31 hl (by decide) rfl (fun ls hl => ?_)
      refine lv_iconst (v := (-1)) hx hb dX8_fits_33 (by decide) ?_
      refine lv_istore (lv' := [(5, .int ((-1))), (4, .int 0), (3, .int v6), (0, .ref (G.1 0)), (1, .int x1), (2, .int x2)]) hx hb dX8_fits_34 hl (by decide) rfl (fun ls hl => ?_)
      refine lv_iconst (v := 0) hx hb dX8_fits_36 (by decide) ?_
      refine lv_istore (lv' := [(6, .int 0), (5, .int ((-1))), (4, .int 0), (3, .int v6), (0, .ref (G.1 0)), (1, .int x1), (2, .int x2)]) hx hb dX8_fits_37 hl (by decide) rfl (fun ls hl => ?_)
      exact t_X8_fits_39 C hr x1 x2 v6 0 ((-1)) 0 σ1 _ _ _ h (lv_sub hl [4, 5, 6, 3, 2, 1, 0] rfl) hf
    · have hf := ifT c5 hf
      refine lv_ldcw (v := (-1000000003)) hx hb C.2.2.2.1 (C.2.2.2.2.1 _ q585) dX8_fits_19 ?_
      exact x_iret C hr h hf dX8_fits_22
  · have hf := ifT c4 hf
    refine lv_ldc (v := (-1000000001)) hx hb C.2.2.2.1 (C.2.2.2.2.1 _ q434) dX8_fits_8 ?_
    exact x_iret C hr h hf dX8_fits_10
def f_X8_seed  (x1 : Int32) (σ : St) : Option (Int32 × St) := if (0 : Int32) ≤ x1 then nm (σ.1 0 21) (fun z2 => nm (sI σ 0 21 x1) (fun σ3 => some (z2, σ3))) else some ((-1000000002), σ)
set_option maxHeartbeats 4000000 in
theorem c_X8_seed (l : Launch) (D : va_G) (G : Geo)   (x1 : Int32) (σ : St) (o : Int32 × St) (hf : f_X8_seed  x1 σ = some o) : CI l D (tyG G) (wM G) yX8_seed cX8_seed 3 ((some .int)) ({ frames := 0, cells := 0, slots := 0, locals := 0 }) [.ref (G.1 0), .int x1] σ o := by
  refine met_of (Qc := fun A => QI D (tyG G) (wM G) A o) pn_X8 (Nat.le_of_ble_eq_true rfl) (fun p e s m below meth c A ls C hr h hl => ?_)
  have C : Cx p s m _ meth c cX8_seed 3 RX8 D (tyG G) := C
  have hl : lv_has ls 3 [(0, .ref (G.1 0)), (1, .int x1)] := hl
  unfold f_X8_seed at hf
  have hx := C.1
  have hb := C.2.1
  refine lv_iload_n hx hb dX8_seed_0 rfl (lv_at hl 1 rfl) ?_
  refine lv_if_ge (tgt := 7) hx hb dX8_seed_1 (by decide) (fun c1 => ?_) (fun c1 => ?_)
  · have hf := ifT c1 hf
    refine lv_aload_n hx hb dX8_seed_7 rfl (lv_at hl 0 rfl) ?_
    refine gf_X8_253 C h dX8_seed_8 ?_
    refine nm_el hf (fun z2 ez2 hf => ?_)
    refine x_topi ez2 ?_
    refine lv_istore_n (lv' := [(2, .int z2), (0, .ref (G.1 0)), (1, .int x1)]) hx hb dX8_seed_11 rfl hl (by decide) rfl (fun ls hl => ?_)
    refine lv_aload_n hx hb dX8_seed_12 rfl (lv_at hl 1 rfl) ?_
    refine lv_iload_n hx hb dX8_seed_13 rfl (lv_at hl 2 rfl) ?_
    refine nm_el hf (fun σ3 hσ3 hf => ?_)
    refine pf_X8_253 C h dX8_seed_14 hσ3 (fun H locs h => ?_)
    refine lv_iload_n hx hb dX8_seed_17 rfl (lv_at hl 0 rfl) ?_
    exact x_iret C hr h hf dX8_seed_18
  · have hf := ifF c1 hf
    refine lv_ldc (v := (-1000000002)) hx hb C.2.2.2.1 (C.2.2.2.2.1 _ q167) dX8_seed_4 ?_
    exact x_iret C hr h hf dX8_seed_6
def b_X8_keep_200   (rec200 : Int32 × Int32 × Int32 × St → Option (Int32 × St)) (x1 : Int32) (x2 : Int32) (x3 : Int32) (σ : St) : Option (Int32 × St) := if (200 : Int32) ≤ x3 then ck (inb x1 2) (nm (sI σ 28 (x1 : Int32).toNatClampNeg (vp_nar .boolean 1)) (fun σ35 => some (1, σ35))) else rd (σ.1 11) 200 x3 (fun v36 => ck (inb ((x2 + 30) + x3) 860) (nm (sI σ 27 ((x2 + 30) + x3 : Int32).toNatClampNeg v36) (fun σ38 => rd (σ38.1 12) 200 x3 (fun v39 => ck (inb ((x2 + 230) + x3) 860) (nm (sI σ38 27 ((x2 + 230) + x3 : Int32).toNatClampNeg v39) (fun σ41 => rec200 (x1, x2, x3 + 1, σ41)))))))
def f_X8_keep_200   (x1 : Int32) (x2 : Int32) (x3 : Int32) (σ : St) : Option (Int32 × St) := lp (fun (rec200 : Int32 × Int32 × Int32 × St → Option (Int32 × St)) (q : Int32 × Int32 × Int32 × St) => b_X8_keep_200   rec200 (q.1) (q.2.1) (q.2.2.1) (q.2.2.2)) 100000 (x1, x2, x3, σ)
set_option maxHeartbeats 4000000 in
theorem t_X8_keep_200 (C : Cx p s m args meth c cX8_keep 4 RX8 D (tyG G)) (hr : meth.sig.returnType = (some .int)) {o : Int32 × St}   : ∀ (x1 : Int32) (x2 : Int32) (x3 : Int32) (σ : St) (H : Heap) (locs : List Loc) (ls : Array Slot), Hs D A s.heap (wM G σ) H locs → lv_has ls 4 [(0, .ref (G.1 0)), (1, .int x1), (2, .int x2), (3, .int x3)] → f_X8_keep_200   x1 x2 x3 σ = some o → W p l e ({ frames := 1, cells := 0, slots := 0, locals := 25 } : Room) s m args below meth c H locs 0 0 (MQ below (QI D (tyG G) (wM G) A o) args s 0 0 A) (F0 m 200 ls []) := by
  intro x1 x2 x3 σ H locs ls h hl hf
  refine lp_el (P := fun q : Int32 × Int32 × Int32 × St => ∀ (H : Heap) (locs : List Loc) (ls : Array Slot), Hs D A s.heap (wM G (q.2.2.2)) H locs → lv_has ls 4 [(0, .ref (G.1 0)), (1, .int (q.1)), (2, .int (q.2.1)), (3, .int (q.2.2.1))] → W p l e ({ frames := 1, cells := 0, slots := 0, locals := 25 } : Room) s m args below meth c H locs 0 0 (MQ below (QI D (tyG G) (wM G) A o) args s 0 0 A) (F0 m 200 ls [])) (fun rec200 q IH200 hf => ?_) _ (x1, x2, x3, σ) hf H locs ls h hl
  obtain ⟨x1, x2, x3, σ⟩ := q
  intro H locs ls h hl
  have hl : lv_has ls 4 [(0, .ref (G.1 0)), (1, .int x1), (2, .int x2), (3, .int x3)] := hl
  have h : Hs D A s.heap (wM G σ) H locs := h
  have hf : b_X8_keep_200   rec200 x1 x2 x3 σ = some o := hf
  unfold b_X8_keep_200 at hf
  have hx := C.1
  have hb := C.2.1
  refine lv_iload_n hx hb dX8_keep_200 rfl (lv_at hl 3 rfl) ?_
  refine lv_sipush (v := 200) hx hb dX8_keep_201 (by decide) ?_
  refine lv_icmp_ge (tgt := 248) hx hb dX8_keep_204 (by decide) (fun c33 => ?_) (fun c33 => ?_)
  · have hf := ifT c33 hf
    refine lv_aload_n hx hb dX8_keep_248 rfl (lv_at hl 0 rfl) ?_
    refine gf_X8_105 C h dX8_keep_249 ?_
    refine lv_iload_n hx hb dX8_keep_252 rfl (lv_at hl 1 rfl) ?_
    refine lv_iconst (v := 1) hx hb dX8_keep_253 (by decide) ?_
    refine ckb_el hf (fun hin34 hf => ?_)
    refine nm_el hf (fun σ35 hσ35 hf => ?_)
    refine x_zast C h 28 3 (by decide) (fun f => aM_28 G f _) rfl hin34 dX8_keep_254 hσ35 (fun H locs h => ?_)
    refine lv_iconst (v := 1) hx hb dX8_keep_255 (by decide) ?_
    exact x_iret C hr h hf dX8_keep_256
  · have hf := ifF c33 hf
    refine lv_aload_n hx hb dX8_keep_207 rfl (lv_at hl 0 rfl) ?_
    refine gf_X8_102 C h dX8_keep_208 ?_
    refine lv_iload_n hx hb dX8_keep_211 rfl (lv_at hl 2 rfl) ?_
    refine lv_bipush (v := 30) hx hb dX8_keep_212 (by decide) ?_
    refine lv_iadd hx hb dX8_keep_214 ?_
    refine lv_iload_n hx hb dX8_keep_215 rfl (lv_at hl 3 rfl) ?_
    refine lv_iadd hx hb dX8_keep_216 ?_
    refine lv_aload_n hx hb dX8_keep_217 rfl (lv_at hl 0 rfl) ?_
    refine gf_X8_50 C h dX8_keep_218 ?_
    refine lv_iload_n hx hb dX8_keep_221 rfl (lv_at hl 3 rfl) ?_
    refine rd_el hf (fun v36 hinv36 hv36 hf => ?_)
    refine x_iald C h 11 1 (by decide) (aM_11 G _ _) rfl hinv36 hv36 dX8_keep_222 ?_
    refine ckb_el hf (fun hin37 hf => ?_)
    refine nm_el hf (fun σ38 hσ38 hf => ?_)
    refine x_iast C h 27 1 (by decide) (fun f => aM_27 G f _) rfl hin37 dX8_keep_223 hσ38 (fun H locs h => ?_)
    refine lv_aload_n hx hb dX8_keep_224 rfl (lv_at hl 0 rfl) ?_
    refine gf_X8_102 C h dX8_keep_225 ?_
    refine lv_iload_n hx hb dX8_keep_228 rfl (lv_at hl 2 rfl) ?_
    refine lv_sipush (v := 230) hx hb dX8_keep_229 (by decide) ?_
    refine lv_iadd hx hb dX8_keep_232 ?_
    refine lv_iload_n hx hb dX8_keep_233 rfl (lv_at hl 3 rfl) ?_
    refine lv_iadd hx hb dX8_keep_234 ?_
    refine lv_aload_n hx hb dX8_keep_235 rfl (lv_at hl 0 rfl) ?_
    refine gf_X8_53 C h dX8_keep_236 ?_
    refine lv_iload_n hx hb dX8_keep_239 rfl (lv_at hl 3 rfl) ?_
    refine rd_el hf (fun v39 hinv39 hv39 hf => ?_)
    refine x_iald C h 12 1 (by decide) (aM_12 G _ _) rfl hinv39 hv39 dX8_keep_240 ?_
    refine ckb_el hf (fun hin40 hf => ?_)
    refine nm_el hf (fun σ41 hσ41 hf => ?_)
    refine x_iast C h 27 1 (by decide) (fun f => aM_27 G f _) rfl hin40 dX8_keep_241 hσ41 (fun H locs h => ?_)
    refine lv_iinc (v := x3 + 1) (lv' := [(3, .int (x3 + 1)), (0, .ref (G.1 0)), (1, .int x1), (2, .int x2)]) hx hb dX8_keep_242 hl (k := 3) rfl rfl (by decide) rfl (fun ls hl => ?_)
    refine lv_goto (tgt := 200) hx hb dX8_keep_245 (by decide) ?_
    exact IH200 (x1, x2, x3 + 1, σ41) hf _ _ _ h (lv_sub hl [1, 2, 3, 0] rfl)
def b_X8_keep_49   (rec49 : Int32 × Int32 × Int32 × St → Option (Int32 × St)) (x1 : Int32) (x2 : Int32) (x3 : Int32) (σ : St) : Option (Int32 × St) := if (5 : Int32) ≤ x3 then ck (inb (x2 + 18) 860) (nm (sI σ 27 (x2 + 18 : Int32).toNatClampNeg (σ.1 0 10)) (fun σ12 => ck (inb (x2 + 19) 860) (nm (sI σ12 27 (x2 + 19 : Int32).toNatClampNeg (σ12.1 0 11)) (fun σ14 => ck (inb (x2 + 20) 860) (nm (sI σ14 27 (x2 + 20 : Int32).toNatClampNeg (σ14.1 0 12)) (fun σ16 => ck (inb (x2 + 21) 860) (nm (sI σ16 27 (x2 + 21 : Int32).toNatClampNeg (σ16.1 0 13)) (fun σ18 => ck (inb (x2 + 22) 860) (nm (sI σ18 27 (x2 + 22 : Int32).toNatClampNeg (σ18.1 0 14)) (fun σ20 => ck (inb (x2 + 23) 860) (nm (sI σ20 27 (x2 + 23 : Int32).toNatClampNeg (σ20.1 0 17)) (fun σ22 => ck (inb (x2 + 24) 860) (nm (sI σ22 27 (x2 + 24 : Int32).toNatClampNeg (σ22.1 0 18)) (fun σ24 => ck (inb (x2 + 25) 860) (nm (sI σ24 27 (x2 + 25 : Int32).toNatClampNeg (σ24.1 0 21)) (fun σ26 => f_X8_keep_200 x1 x2 0 σ26)))))))))))))))) else rd (σ.1 9) 5 x3 (fun v27 => ck (inb ((x2 + 8) + x3) 860) (nm (sI σ 27 ((x2 + 8) + x3 : Int32).toNatClampNeg v27) (fun σ29 => rd (σ29.1 10) 5 x3 (fun v30 => ck (inb ((x2 + 13) + x3) 860) (nm (sI σ29 27 ((x2 + 13) + x3 : Int32).toNatClampNeg v30) (fun σ32 => rec49 (x1, x2, x3 + 1, σ32)))))))
def f_X8_keep_49   (x1 : Int32) (x2 : Int32) (x3 : Int32) (σ : St) : Option (Int32 × St) := lp (fun (rec49 : Int32 × Int32 × Int32 × St → Option (Int32 × St)) (q : Int32 × Int32 × Int32 × St) => b_X8_keep_49   rec49 (q.1) (q.2.1) (q.2.2.1) (q.2.2.2)) 100000 (x1, x2, x3, σ)
set_option maxHeartbeats 4000000 in
theorem t_X8_keep_49 (C : Cx p s m args meth c cX8_keep 4 RX8 D (tyG G)) (hr : meth.sig.returnType = (some .int)) {o : Int32 × St}   : ∀ (x1 : Int32) (x2 : Int32) (x3 : Int32) (σ : St) (H : Heap) (locs : List Loc) (ls : Array Slot), Hs D A s.heap (wM G σ) H locs → lv_has ls 4 [(0, .ref (G.1 0)), (1, .int x1), (2, .int x2), (3, .int x3)] → f_X8_keep_49   x1 x2 x3 σ = some o → W p l e ({ frames := 1, cells := 0, slots := 0, locals := 25 } : Room) s m args below meth c H locs 0 0 (MQ below (QI D (tyG G) (wM G) A o) args s 0 0 A) (F0 m 49 ls []) := by
  intro x1 x2 x3 σ H locs ls h hl hf
  refine lp_el (P := fun q : Int32 × Int32 × Int32 × St => ∀ (H : Heap) (locs : List Loc) (ls : Array Slot), Hs D A s.heap (wM G (q.2.2.2)) H locs → lv_has ls 4 [(0, .ref (G.1 0)), (1, .int (q.1)), (2, .int (q.2.1)), (3, .int (q.2.2.1))] → W p l e ({ frames := 1, cells := 0, slots := 0, locals := 25 } : Room) s m args below meth c H locs 0 0 (MQ below (QI D (tyG G) (wM G) A o) args s 0 0 A) (F0 m 49 ls [])) (fun rec49 q IH49 hf => ?_) _ (x1, x2, x3, σ) hf H locs ls h hl
  obtain ⟨x1, x2, x3, σ⟩ := q
  intro H locs ls h hl
  have hl : lv_has ls 4 [(0, .ref (G.1 0)), (1, .int x1), (2, .int x2), (3, .int x3)] := hl
  have h : Hs D A s.heap (wM G σ) H locs := h
  have hf : b_X8_keep_49   rec49 x1 x2 x3 σ = some o := hf
  unfold b_X8_keep_49 at hf
  have hx := C.1
  have hb := C.2.1
  refine lv_iload_n hx hb dX8_keep_49 rfl (lv_at hl 3 rfl) ?_
  refine lv_iconst (v := 5) hx hb dX8_keep_50 (by decide) ?_
  refine lv_icmp_ge (tgt := 94) hx hb dX8_keep_51 (by decide) (fun c10 => ?_) (fun c10 => ?_)
  · have hf := ifT c10 hf
    refine lv_aload_n hx hb dX8_keep_94 rfl (lv_at hl 0 rfl) ?_
    refine gf_X8_102 C h dX8_keep_95 ?_
    refine lv_iload_n hx hb dX8_keep_98 rfl (lv_at hl 2 rfl) ?_
    refine lv_bipush (v := 18) hx hb dX8_keep_99 (by decide) ?_
    refine lv_iadd hx hb dX8_keep_101 ?_
    refine lv_aload_n hx hb dX8_keep_102 rfl (lv_at hl 0 rfl) ?_
    refine gf_X8_34 C h dX8_keep_103 ?_
    refine ckb_el hf (fun hin11 hf => ?_)
    refine nm_el hf (fun σ12 hσ12 hf => ?_)
    refine x_iast C h 27 1 (by decide) (fun f => aM_27 G f _) rfl hin11 dX8_keep_106 hσ12 (fun H locs h => ?_)
    refine lv_aload_n hx hb dX8_keep_107 rfl (lv_at hl 0 rfl) ?_
    refine gf_X8_102 C h dX8_keep_108 ?_
    refine lv_iload_n hx hb dX8_keep_111 rfl (lv_at hl 2 rfl) ?_
    refine lv_bipush (v := 19) hx hb dX8_keep_112 (by decide) ?_
    refine lv_iadd hx hb dX8_keep_114 ?_
    refine lv_aload_n hx hb dX8_keep_115 rfl (lv_at hl 0 rfl) ?_
    refine gf_X8_38 C h dX8_keep_116 ?_
    refine ckb_el hf (fun hin13 hf => ?_)
    refine nm_el hf (fun σ14 hσ14 hf => ?_)
    refine x_iast C h 27 1 (by decide) (fun f => aM_27 G f _) rfl hin13 dX8_keep_119 hσ14 (fun H locs h => ?_)
    refine lv_aload_n hx hb dX8_keep_120 rfl (lv_at hl 0 rfl) ?_
    refine gf_X8_102 C h dX8_keep_121 ?_
    refine lv_iload_n hx hb dX8_keep_124 rfl (lv_at hl 2 rfl) ?_
    refine lv_bipush (v := 20) hx hb dX8_keep_125 (by decide) ?_
    refine lv_iadd hx hb dX8_keep_127 ?_
    refine lv_aload_n hx hb dX8_keep_128 rfl (lv_at hl 0 rfl) ?_
    refine gf_X8_41 C h dX8_keep_129 ?_
    refine ckb_el hf (fun hin15 hf => ?_)
    refine nm_el hf (fun σ16 hσ16 hf => ?_)
    refine x_iast C h 27 1 (by decide) (fun f => aM_27 G f _) rfl hin15 dX8_keep_132 hσ16 (fun H locs h => ?_)
    refine lv_aload_n hx hb dX8_keep_133 rfl (lv_at hl 0 rfl) ?_
    refine gf_X8_102 C h dX8_keep_134 ?_
    refine lv_iload_n hx hb dX8_keep_137 rfl (lv_at hl 2 rfl) ?_
    refine lv_bipush (v := 21) hx hb dX8_keep_138 (by decide) ?_
    refine lv_iadd hx hb dX8_keep_140 ?_
    refine lv_aload_n hx hb dX8_keep_141 rfl (lv_at hl 0 rfl) ?_
    refine gf_X8_119 C h dX8_keep_142 ?_
    refine ckb_el hf (fun hin17 hf => ?_)
    refine nm_el hf (fun σ18 hσ18 hf => ?_)
    refine x_iast C h 27 1 (by decide) (fun f => aM_27 G f _) rfl hin17 dX8_keep_145 hσ18 (fun H locs h => ?_)
    refine lv_aload_n hx hb dX8_keep_146 rfl (lv_at hl 0 rfl) ?_
    refine gf_X8_102 C h dX8_keep_147 ?_
    refine lv_iload_n hx hb dX8_keep_150 rfl (lv_at hl 2 rfl) ?_
    refine lv_bipush (v := 22) hx hb dX8_keep_151 (by decide) ?_
    refine lv_iadd hx hb dX8_keep_153 ?_
    refine lv_aload_n hx hb dX8_keep_154 rfl (lv_at hl 0 rfl) ?_
    refine gf_X8_122 C h dX8_keep_155 ?_
    refine ckb_el hf (fun hin19 hf => ?_)
    refine nm_el hf (fun σ20 hσ20 hf => ?_)
    refine x_iast C h 27 1 (by decide) (fun f => aM_27 G f _) rfl hin19 dX8_keep_158 hσ20 (fun H locs h => ?_)
    refine lv_aload_n hx hb dX8_keep_159 rfl (lv_at hl 0 rfl) ?_
    refine gf_X8_102 C h dX8_keep_160 ?_
    refine lv_iload_n hx hb dX8_keep_163 rfl (lv_at hl 2 rfl) ?_
    refine lv_bipush (v := 23) hx hb dX8_keep_164 (by decide) ?_
    refine lv_iadd hx hb dX8_keep_166 ?_
    refine lv_aload_n hx hb dX8_keep_167 rfl (lv_at hl 0 rfl) ?_
    refine gf_X8_125 C h dX8_keep_168 ?_
    refine ckb_el hf (fun hin21 hf => ?_)
    refine nm_el hf (fun σ22 hσ22 hf => ?_)
    refine x_iast C h 27 1 (by decide) (fun f => aM_27 G f _) rfl hin21 dX8_keep_171 hσ22 (fun H locs h => ?_)
    refine lv_aload_n hx hb dX8_keep_172 rfl (lv_at hl 0 rfl) ?_
    refine gf_X8_102 C h dX8_keep_173 ?_
    refine lv_iload_n hx hb dX8_keep_176 rfl (lv_at hl 2 rfl) ?_
    refine lv_bipush (v := 24) hx hb dX8_keep_177 (by decide) ?_
    refine lv_iadd hx hb dX8_keep_179 ?_
    refine lv_aload_n hx hb dX8_keep_180 rfl (lv_at hl 0 rfl) ?_
    refine gf_X8_128 C h dX8_keep_181 ?_
    refine ckb_el hf (fun hin23 hf => ?_)
    refine nm_el hf (fun σ24 hσ24 hf => ?_)
    refine x_iast C h 27 1 (by decide) (fun f => aM_27 G f _) rfl hin23 dX8_keep_184 hσ24 (fun H locs h => ?_)
    refine lv_aload_n hx hb dX8_keep_185 rfl (lv_at hl 0 rfl) ?_
    refine gf_X8_102 C h dX8_keep_186 ?_
    refine lv_iload_n hx hb dX8_keep_189 rfl (lv_at hl 2 rfl) ?_
    refine lv_bipush (v := 25) hx hb dX8_keep_190 (by decide) ?_
    refine lv_iadd hx hb dX8_keep_192 ?_
    refine lv_aload_n hx hb dX8_keep_193 rfl (lv_at hl 0 rfl) ?_
    refine gf_X8_253 C h dX8_keep_194 ?_
    refine ckb_el hf (fun hin25 hf => ?_)
    refine nm_el hf (fun σ26 hσ26 hf => ?_)
    refine x_iast C h 27 1 (by decide) (fun f => aM_27 G f _) rfl hin25 dX8_keep_197 hσ26 (fun H locs h => ?_)
    refine lv_iconst (v := 0) hx hb dX8_keep_198 (by decide) ?_
    refine lv_istore_n (lv' := [(3, .int 0), (0, .ref (G.1 0)), (1, .int x1), (2, .int x2)]) hx hb dX8_keep_199 rfl hl (by decide) rfl (fun ls hl => ?_)
    exact t_X8_keep_200 C hr x1 x2 0 σ26 _ _ _ h (lv_sub hl [1, 2, 3, 0] rfl) hf
  · have hf := ifF c10 hf
    refine lv_aload_n hx hb dX8_keep_54 rfl (lv_at hl 0 rfl) ?_
    refine gf_X8_102 C h dX8_keep_55 ?_
    refine lv_iload_n hx hb dX8_keep_58 rfl (lv_at hl 2 rfl) ?_
    refine lv_bipush (v := 8) hx hb dX8_keep_59 (by decide) ?_
    refine lv_iadd hx hb dX8_keep_61 ?_
    refine lv_iload_n hx hb dX8_keep_62 rfl (lv_at hl 3 rfl) ?_
    refine lv_iadd hx hb dX8_keep_63 ?_
    refine lv_aload_n hx hb dX8_keep_64 rfl (lv_at hl 0 rfl) ?_
    refine gf_X8_44 C h dX8_keep_65 ?_
    refine lv_iload_n hx hb dX8_keep_68 rfl (lv_at hl 3 rfl) ?_
    refine rd_el hf (fun v27 hinv27 hv27 hf => ?_)
    refine x_iald C h 9 1 (by decide) (aM_9 G _ _) rfl hinv27 hv27 dX8_keep_69 ?_
    refine ckb_el hf (fun hin28 hf => ?_)
    refine nm_el hf (fun σ29 hσ29 hf => ?_)
    refine x_iast C h 27 1 (by decide) (fun f => aM_27 G f _) rfl hin28 dX8_keep_70 hσ29 (fun H locs h => ?_)
    refine lv_aload_n hx hb dX8_keep_71 rfl (lv_at hl 0 rfl) ?_
    refine gf_X8_102 C h dX8_keep_72 ?_
    refine lv_iload_n hx hb dX8_keep_75 rfl (lv_at hl 2 rfl) ?_
    refine lv_bipush (v := 13) hx hb dX8_keep_76 (by decide) ?_
    refine lv_iadd hx hb dX8_keep_78 ?_
    refine lv_iload_n hx hb dX8_keep_79 rfl (lv_at hl 3 rfl) ?_
    refine lv_iadd hx hb dX8_keep_80 ?_
    refine lv_aload_n hx hb dX8_keep_81 rfl (lv_at hl 0 rfl) ?_
    refine gf_X8_47 C h dX8_keep_82 ?_
    refine lv_iload_n hx hb dX8_keep_85 rfl (lv_at hl 3 rfl) ?_
    refine rd_el hf (fun v30 hinv30 hv30 hf => ?_)
    refine x_iald C h 10 1 (by decide) (aM_10 G _ _) rfl hinv30 hv30 dX8_keep_86 ?_
    refine ckb_el hf (fun hin31 hf => ?_)
    refine nm_el hf (fun σ32 hσ32 hf => ?_)
    refine x_iast C h 27 1 (by decide) (fun f => aM_27 G f _) rfl hin31 dX8_keep_87 hσ32 (fun H locs h => ?_)
    refine lv_iinc (v := x3 + 1) (lv' := [(3, .int (x3 + 1)), (0, .ref (G.1 0)), (1, .int x1), (2, .int x2)]) hx hb dX8_keep_88 hl (k := 3) rfl rfl (by decide) rfl (fun ls hl => ?_)
    refine lv_goto (tgt := 49) hx hb dX8_keep_91 (by decide) ?_
    exact IH49 (x1, x2, x3 + 1, σ32) hf _ _ _ h (lv_sub hl [1, 2, 3, 0] rfl)
def b_X8_keep_21   (rec21 : Int32 × Int32 × Int32 × St → Option (Int32 × St)) (x1 : Int32) (x2 : Int32) (x3 : Int32) (σ : St) : Option (Int32 × St) := if (8 : Int32) ≤ x3 then f_X8_keep_49 x1 x2 0 σ else rd (σ.1 8) 8 x3 (fun v7 => ck (inb (x2 + x3) 860) (nm (sI σ 27 (x2 + x3 : Int32).toNatClampNeg v7) (fun σ9 => rec21 (x1, x2, x3 + 1, σ9))))
def f_X8_keep_21   (x1 : Int32) (x2 : Int32) (x3 : Int32) (σ : St) : Option (Int32 × St) := lp (fun (rec21 : Int32 × Int32 × Int32 × St → Option (Int32 × St)) (q : Int32 × Int32 × Int32 × St) => b_X8_keep_21   rec21 (q.1) (q.2.1) (q.2.2.1) (q.2.2.2)) 100000 (x1, x2, x3, σ)
set_option maxHeartbeats 4000000 in
theorem t_X8_keep_21 (C : Cx p s m args meth c cX8_keep 4 RX8 D (tyG G)) (hr : meth.sig.returnType = (some .int)) {o : Int32 × St}   : ∀ (x1 : Int32) (x2 : Int32) (x3 : Int32) (σ : St) (H : Heap) (locs : List Loc) (ls : Array Slot), Hs D A s.heap (wM G σ) H locs → lv_has ls 4 [(0, .ref (G.1 0)), (1, .int x1), (2, .int x2), (3, .int x3)] → f_X8_keep_21   x1 x2 x3 σ = some o → W p l e ({ frames := 1, cells := 0, slots := 0, locals := 25 } : Room) s m args below meth c H locs 0 0 (MQ below (QI D (tyG G) (wM G) A o) args s 0 0 A) (F0 m 21 ls []) := by
  intro x1 x2 x3 σ H locs ls h hl hf
  refine lp_el (P := fun q : Int32 × Int32 × Int32 × St => ∀ (H : Heap) (locs : List Loc) (ls : Array Slot), Hs D A s.heap (wM G (q.2.2.2)) H locs → lv_has ls 4 [(0, .ref (G.1 0)), (1, .int (q.1)), (2, .int (q.2.1)), (3, .int (q.2.2.1))] → W p l e ({ frames := 1, cells := 0, slots := 0, locals := 25 } : Room) s m args below meth c H locs 0 0 (MQ below (QI D (tyG G) (wM G) A o) args s 0 0 A) (F0 m 21 ls [])) (fun rec21 q IH21 hf => ?_) _ (x1, x2, x3, σ) hf H locs ls h hl
  obtain ⟨x1, x2, x3, σ⟩ := q
  intro H locs ls h hl
  have hl : lv_has ls 4 [(0, .ref (G.1 0)), (1, .int x1), (2, .int x2), (3, .int x3)] := hl
  have h : Hs D A s.heap (wM G σ) H locs := h
  have hf : b_X8_keep_21   rec21 x1 x2 x3 σ = some o := hf
  unfold b_X8_keep_21 at hf
  have hx := C.1
  have hb := C.2.1
  refine lv_iload_n hx hb dX8_keep_21 rfl (lv_at hl 3 rfl) ?_
  refine lv_bipush (v := 8) hx hb dX8_keep_22 (by decide) ?_
  refine lv_icmp_ge (tgt := 47) hx hb dX8_keep_24 (by decide) (fun c6 => ?_) (fun c6 => ?_)
  · have hf := ifT c6 hf
    refine lv_iconst (v := 0) hx hb dX8_keep_47 (by decide) ?_
    refine lv_istore_n (lv' := [(3, .int 0), (0, .ref (G.1 0)), (1, .int x1), (2, .int x2)]) hx hb dX8_keep_48 rfl hl (by decide) rfl (fun ls hl => ?_)
    exact t_X8_keep_49 C hr x1 x2 0 σ _ _ _ h (lv_sub hl [1, 2, 3, 0] rfl) hf
  · have hf := ifF c6 hf
    refine lv_aload_n hx hb dX8_keep_27 rfl (lv_at hl 0 rfl) ?_
    refine gf_X8_102 C h dX8_keep_28 ?_
    refine lv_iload_n hx hb dX8_keep_31 rfl (lv_at hl 2 rfl) ?_
    refine lv_iload_n hx hb dX8_keep_32 rfl (lv_at hl 3 rfl) ?_
    refine lv_iadd hx hb dX8_keep_33 ?_
    refine lv_aload_n hx hb dX8_keep_34 rfl (lv_at hl 0 rfl) ?_
    refine gf_X8_31 C h dX8_keep_35 ?_
    refine lv_iload_n hx hb dX8_keep_38 rfl (lv_at hl 3 rfl) ?_
    refine rd_el hf (fun v7 hinv7 hv7 hf => ?_)
    refine x_iald C h 8 1 (by decide) (aM_8 G _ _) rfl hinv7 hv7 dX8_keep_39 ?_
    refine ckb_el hf (fun hin8 hf => ?_)
    refine nm_el hf (fun σ9 hσ9 hf => ?_)
    refine x_iast C h 27 1 (by decide) (fun f => aM_27 G f _) rfl hin8 dX8_keep_40 hσ9 (fun H locs h => ?_)
    refine lv_iinc (v := x3 + 1) (lv' := [(3, .int (x3 + 1)), (0, .ref (G.1 0)), (1, .int x1), (2, .int x2)]) hx hb dX8_keep_41 hl (k := 3) rfl rfl (by decide) rfl (fun ls hl => ?_)
    refine lv_goto (tgt := 21) hx hb dX8_keep_44 (by decide) ?_
    exact IH21 (x1, x2, x3 + 1, σ9) hf _ _ _ h (lv_sub hl [1, 2, 3, 0] rfl)
def f_X8_keep  (x1 : Int32) (σ : St) : Option (Int32 × St) := bd (f_X8_in x1.toInt64 0 1 σ) (fun r3 σ1 => if r3 = 0 then some ((-1000000001), σ1) else nm (430 * x1) (fun z5 => f_X8_keep_21 x1 z5 0 σ1))
set_option maxHeartbeats 4000000 in
theorem c_X8_keep (l : Launch) (D : va_G) (G : Geo)   (x1 : Int32) (σ : St) (o : Int32 × St) (hf : f_X8_keep  x1 σ = some o) : CI l D (tyG G) (wM G) yX8_keep cX8_keep 4 ((some .int)) ({ frames := 1, cells := 0, slots := 0, locals := 25 }) [.ref (G.1 0), .int x1] σ o := by
  refine met_of (Qc := fun A => QI D (tyG G) (wM G) A o) pn_X8 (Nat.le_of_ble_eq_true rfl) (fun p e s m below meth c A ls C hr h hl => ?_)
  have C : Cx p s m _ meth c cX8_keep 4 RX8 D (tyG G) := C
  have hl : lv_has ls 4 [(0, .ref (G.1 0)), (1, .int x1)] := hl
  unfold f_X8_keep at hf
  have hx := C.1
  have hb := C.2.1
  refine lv_iload_n hx hb dX8_keep_0 rfl (lv_at hl 1 rfl) ?_
  refine lv_i2l (v := x1.toInt64) hx hb dX8_keep_1 rfl ?_
  refine lv_lconst (v := 0) hx hb dX8_keep_2 (by decide) ?_
  refine lv_lconst (v := 1) hx hb dX8_keep_3 (by decide) ?_
  refine bd_el hf (fun r3 σ1 ho2 hf => ?_)
  refine x_goi h (x_runS (As := [.long x1.toInt64, .long 0, .long 1]) (rest := []) C h (c_X8_in l D G x1.toInt64 0 1 σ (r3, σ1) ho2 _) lk_X8_112 rfl ⟨rfl, rfl, Nat.le_of_ble_eq_true rfl, Nat.le_of_ble_eq_true rfl⟩ hl.1 rfl (Nat.le_of_ble_eq_true rfl) dX8_keep_4) (fun H locs h => ?_)
  refine lv_if_ne (tgt := 13) hx hb dX8_keep_7 (by decide) (fun c4 => ?_) (fun c4 => ?_)
  · have hf := ifF c4 hf
    refine lv_sipush (v := 430) hx hb dX8_keep_13 (by decide) ?_
    refine lv_iload_n hx hb dX8_keep_16 rfl (lv_at hl 1 rfl) ?_
    refine lv_imul hx hb dX8_keep_17 ?_
    refine nm_el hf (fun z5 ez5 hf => ?_)
    refine x_topi ez5 ?_
    refine lv_istore_n (lv' := [(2, .int z5), (0, .ref (G.1 0)), (1, .int x1)]) hx hb dX8_keep_18 rfl hl (by decide) rfl (fun ls hl => ?_)
    refine lv_iconst (v := 0) hx hb dX8_keep_19 (by decide) ?_
    refine lv_istore_n (lv' := [(3, .int 0), (2, .int z5), (0, .ref (G.1 0)), (1, .int x1)]) hx hb dX8_keep_20 rfl hl (by decide) rfl (fun ls hl => ?_)
    exact t_X8_keep_21 C hr x1 z5 0 σ1 _ _ _ h (lv_sub hl [2, 3, 1, 0] rfl) hf
  · have hf := ifT c4 hf
    refine lv_ldc (v := (-1000000001)) hx hb C.2.2.2.1 (C.2.2.2.2.1 _ q434) dX8_keep_10 ?_
    exact x_iret C hr h hf dX8_keep_12
def b_X8_goBack_213   (rec213 : Int32 × Int32 × St → Option (Int32 × St)) (x2 : Int32) (x3 : Int32) (σ : St) : Option (Int32 × St) := if (200 : Int32) ≤ x3 then some (1, σ) else rd (σ.1 27) 860 ((x2 + 30) + x3) (fun v36 => ck (inb x3 200) (nm (sI σ 11 (x3 : Int32).toNatClampNeg v36) (fun σ38 => rd (σ38.1 27) 860 ((x2 + 230) + x3) (fun v39 => ck (inb x3 200) (nm (sI σ38 12 (x3 : Int32).toNatClampNeg v39) (fun σ41 => rec213 (x2, x3 + 1, σ41)))))))
def f_X8_goBack_213   (x2 : Int32) (x3 : Int32) (σ : St) : Option (Int32 × St) := lp (fun (rec213 : Int32 × Int32 × St → Option (Int32 × St)) (q : Int32 × Int32 × St) => b_X8_goBack_213   rec213 (q.1) (q.2.1) (q.2.2)) 100000 (x2, x3, σ)
set_option maxHeartbeats 4000000 in
theorem t_X8_goBack_213 (C : Cx p s m args meth c cX8_goBack 4 RX8 D (tyG G)) (hr : meth.sig.returnType = (some .int)) {o : Int32 × St}   : ∀ (x2 : Int32) (x3 : Int32) (σ : St) (H : Heap) (locs : List Loc) (ls : Array Slot), Hs D A s.heap (wM G σ) H locs → lv_has ls 4 [(0, .ref (G.1 0)), (2, .int x2), (3, .int x3)] → f_X8_goBack_213   x2 x3 σ = some o → W p l e ({ frames := 1, cells := 0, slots := 0, locals := 25 } : Room) s m args below meth c H locs 0 0 (MQ below (QI D (tyG G) (wM G) A o) args s 0 0 A) (F0 m 213 ls []) := by
  intro x2 x3 σ H locs ls h hl hf
  refine lp_el (P := fun q : Int32 × Int32 × St => ∀ (H : Heap) (locs : List Loc) (ls : Array Slot), Hs D A s.heap (wM G (q.2.2)) H locs → lv_has ls 4 [(0, .ref (G.1 0)), (2, .int (q.1)), (3, .int (q.2.1))] → W p l e ({ frames := 1, cells := 0, slots := 0, locals := 25 } : Room) s m args below meth c H locs 0 0 (MQ below (QI D (tyG G) (wM G) A o) args s 0 0 A) (F0 m 213 ls [])) (fun rec213 q IH213 hf => ?_) _ (x2, x3, σ) hf H locs ls h hl
  obtain ⟨x2, x3, σ⟩ := q
  intro H locs ls h hl
  have hl : lv_has ls 4 [(0, .ref (G.1 0)), (2, .int x2), (3, .int x3)] := hl
  have h : Hs D A s.heap (wM G σ) H locs := h
  have hf : b_X8_goBack_213   rec213 x2 x3 σ = some o := hf
  unfold b_X8_goBack_213 at hf
  have hx := C.1
  have hb := C.2.1
  refine lv_iload_n hx hb dX8_goBack_213 rfl (lv_at hl 2 rfl) ?_
  refine lv_sipush (v := 200) hx hb dX8_goBack_214 (by decide) ?_
  refine lv_icmp_ge (tgt := 261) hx hb dX8_goBack_217 (by decide) (fun c35 => ?_) (fun c35 => ?_)
  · have hf := ifT c35 hf
    refine lv_iconst (v := 1) hx hb dX8_goBack_261 (by decide) ?_
    exact x_iret C hr h hf dX8_goBack_262
  · have hf := ifF c35 hf
    refine lv_aload_n hx hb dX8_goBack_220 rfl (lv_at hl 0 rfl) ?_
    refine gf_X8_50 C h dX8_goBack_221 ?_
    refine lv_iload_n hx hb dX8_goBack_224 rfl (lv_at hl 2 rfl) ?_
    refine lv_aload_n hx hb dX8_goBack_225 rfl (lv_at hl 0 rfl) ?_
    refine gf_X8_102 C h dX8_goBack_226 ?_
    refine lv_iload_n hx hb dX8_goBack_229 rfl (lv_at hl 1 rfl) ?_
    refine lv_bipush (v := 30) hx hb dX8_goBack_230 (by decide) ?_
    refine lv_iadd hx hb dX8_goBack_232 ?_
    refine lv_iload_n hx hb dX8_goBack_233 rfl (lv_at hl 2 rfl) ?_
    refine lv_iadd hx hb dX8_goBack_234 ?_
    refine rd_el hf (fun v36 hinv36 hv36 hf => ?_)
    refine x_iald C h 27 1 (by decide) (aM_27 G _ _) rfl hinv36 hv36 dX8_goBack_235 ?_
    refine ckb_el hf (fun hin37 hf => ?_)
    refine nm_el hf (fun σ38 hσ38 hf => ?_)
    refine x_iast C h 11 1 (by decide) (fun f => aM_11 G f _) rfl hin37 dX8_goBack_236 hσ38 (fun H locs h => ?_)
    refine lv_aload_n hx hb dX8_goBack_237 rfl (lv_at hl 0 rfl) ?_
    refine gf_X8_53 C h dX8_goBack_238 ?_
    refine lv_iload_n hx hb dX8_goBack_241 rfl (lv_at hl 2 rfl) ?_
    refine lv_aload_n hx hb dX8_goBack_242 rfl (lv_at hl 0 rfl) ?_
    refine gf_X8_102 C h dX8_goBack_243 ?_
    refine lv_iload_n hx hb dX8_goBack_246 rfl (lv_at hl 1 rfl) ?_
    refine lv_sipush (v := 230) hx hb dX8_goBack_247 (by decide) ?_
    refine lv_iadd hx hb dX8_goBack_250 ?_
    refine lv_iload_n hx hb dX8_goBack_251 rfl (lv_at hl 2 rfl) ?_
    refine lv_iadd hx hb dX8_goBack_252 ?_
    refine rd_el hf (fun v39 hinv39 hv39 hf => ?_)
    refine x_iald C h 27 1 (by decide) (aM_27 G _ _) rfl hinv39 hv39 dX8_goBack_253 ?_
    refine ckb_el hf (fun hin40 hf => ?_)
    refine nm_el hf (fun σ41 hσ41 hf => ?_)
    refine x_iast C h 12 1 (by decide) (fun f => aM_12 G f _) rfl hin40 dX8_goBack_254 hσ41 (fun H locs h => ?_)
    refine lv_iinc (v := x3 + 1) (lv' := [(3, .int (x3 + 1)), (0, .ref (G.1 0)), (2, .int x2)]) hx hb dX8_goBack_255 hl (k := 2) rfl rfl (by decide) rfl (fun ls hl => ?_)
    refine lv_goto (tgt := 213) hx hb dX8_goBack_258 (by decide) ?_
    exact IH213 (x2, x3 + 1, σ41) hf _ _ _ h (lv_sub hl [1, 2, 0] rfl)
def b_X8_goBack_62   (rec62 : Int32 × Int32 × St → Option (Int32 × St)) (x2 : Int32) (x3 : Int32) (σ : St) : Option (Int32 × St) := if (5 : Int32) ≤ x3 then rd (σ.1 27) 860 (x2 + 18) (fun v13 => nm (sI σ 0 10 v13) (fun σ14 => rd (σ14.1 27) 860 (x2 + 19) (fun v15 => nm (sI σ14 0 11 v15) (fun σ16 => rd (σ16.1 27) 860 (x2 + 20) (fun v17 => nm (sI σ16 0 12 v17) (fun σ18 => rd (σ18.1 27) 860 (x2 + 21) (fun v19 => nm (sI σ18 0 13 v19) (fun σ20 => rd (σ20.1 27) 860 (x2 + 22) (fun v21 => nm (sI σ20 0 14 v21) (fun σ22 => rd (σ22.1 27) 860 (x2 + 23) (fun v23 => nm (sI σ22 0 17 v23) (fun σ24 => rd (σ24.1 27) 860 (x2 + 24) (fun v25 => nm (sI σ24 0 18 v25) (fun σ26 => rd (σ26.1 27) 860 (x2 + 25) (fun v27 => nm (sI σ26 0 21 v27) (fun σ28 => f_X8_goBack_213 x2 0 σ28)))))))))))))))) else rd (σ.1 27) 860 ((x2 + 8) + x3) (fun v29 => ck (inb x3 5) (nm (sI σ 9 (x3 : Int32).toNatClampNeg v29) (fun σ31 => rd (σ31.1 27) 860 ((x2 + 13) + x3) (fun v32 => ck (inb x3 5) (nm (sI σ31 10 (x3 : Int32).toNatClampNeg v32) (fun σ34 => rec62 (x2, x3 + 1, σ34)))))))
def f_X8_goBack_62   (x2 : Int32) (x3 : Int32) (σ : St) : Option (Int32 × St) := lp (fun (rec62 : Int32 × Int32 × St → Option (Int32 × St)) (q : Int32 × Int32 × St) => b_X8_goBack_62   rec62 (q.1) (q.2.1) (q.2.2)) 100000 (x2, x3, σ)
set_option maxHeartbeats 4000000 in
theorem t_X8_goBack_62 (C : Cx p s m args meth c cX8_goBack 4 RX8 D (tyG G)) (hr : meth.sig.returnType = (some .int)) {o : Int32 × St}   : ∀ (x2 : Int32) (x3 : Int32) (σ : St) (H : Heap) (locs : List Loc) (ls : Array Slot), Hs D A s.heap (wM G σ) H locs → lv_has ls 4 [(0, .ref (G.1 0)), (2, .int x2), (3, .int x3)] → f_X8_goBack_62   x2 x3 σ = some o → W p l e ({ frames := 1, cells := 0, slots := 0, locals := 25 } : Room) s m args below meth c H locs 0 0 (MQ below (QI D (tyG G) (wM G) A o) args s 0 0 A) (F0 m 62 ls []) := by
  intro x2 x3 σ H locs ls h hl hf
  refine lp_el (P := fun q : Int32 × Int32 × St => ∀ (H : Heap) (locs : List Loc) (ls : Array Slot), Hs D A s.heap (wM G (q.2.2)) H locs → lv_has ls 4 [(0, .ref (G.1 0)), (2, .int (q.1)), (3, .int (q.2.1))] → W p l e ({ frames := 1, cells := 0, slots := 0, locals := 25 } : Room) s m args below meth c H locs 0 0 (MQ below (QI D (tyG G) (wM G) A o) args s 0 0 A) (F0 m 62 ls [])) (fun rec62 q IH62 hf => ?_) _ (x2, x3, σ) hf H locs ls h hl
  obtain ⟨x2, x3, σ⟩ := q
  intro H locs ls h hl
  have hl : lv_has ls 4 [(0, .ref (G.1 0)), (2, .int x2), (3, .int x3)] := hl
  have h : Hs D A s.heap (wM G σ) H locs := h
  have hf : b_X8_goBack_62   rec62 x2 x3 σ = some o := hf
  unfold b_X8_goBack_62 at hf
  have hx := C.1
  have hb := C.2.1
  refine lv_iload_n hx hb dX8_goBack_62 rfl (lv_at hl 2 rfl) ?_
  refine lv_iconst (v := 5) hx hb dX8_goBack_63 (by decide) ?_
  refine lv_icmp_ge (tgt := 107) hx hb dX8_goBack_64 (by decide) (fun c12 => ?_) (fun c12 => ?_)
  · have hf := ifT c12 hf
    refine lv_aload_n hx hb dX8_goBack_107 rfl (lv_at hl 0 rfl) ?_
    refine lv_aload_n hx hb dX8_goBack_108 rfl (lv_at hl 0 rfl) ?_
    refine gf_X8_102 C h dX8_goBack_109 ?_
    refine lv_iload_n hx hb dX8_goBack_112 rfl (lv_at hl 1 rfl) ?_
    refine lv_bipush (v := 18) hx hb dX8_goBack_113 (by decide) ?_
    refine lv_iadd hx hb dX8_goBack_115 ?_
    refine rd_el hf (fun v13 hinv13 hv13 hf => ?_)
    refine x_iald C h 27 1 (by decide) (aM_27 G _ _) rfl hinv13 hv13 dX8_goBack_116 ?_
    refine nm_el hf (fun σ14 hσ14 hf => ?_)
    refine pf_X8_34 C h dX8_goBack_117 hσ14 (fun H locs h => ?_)
    refine lv_aload_n hx hb dX8_goBack_120 rfl (lv_at hl 0 rfl) ?_
    refine lv_aload_n hx hb dX8_goBack_121 rfl (lv_at hl 0 rfl) ?_
    refine gf_X8_102 C h dX8_goBack_122 ?_
    refine lv_iload_n hx hb dX8_goBack_125 rfl (lv_at hl 1 rfl) ?_
    refine lv_bipush (v := 19) hx hb dX8_goBack_126 (by decide) ?_
    refine lv_iadd hx hb dX8_goBack_128 ?_
    refine rd_el hf (fun v15 hinv15 hv15 hf => ?_)
    refine x_iald C h 27 1 (by decide) (aM_27 G _ _) rfl hinv15 hv15 dX8_goBack_129 ?_
    refine nm_el hf (fun σ16 hσ16 hf => ?_)
    refine pf_X8_38 C h dX8_goBack_130 hσ16 (fun H locs h => ?_)
    refine lv_aload_n hx hb dX8_goBack_133 rfl (lv_at hl 0 rfl) ?_
    refine lv_aload_n hx hb dX8_goBack_134 rfl (lv_at hl 0 rfl) ?_
    refine gf_X8_102 C h dX8_goBack_135 ?_
    refine lv_iload_n hx hb dX8_goBack_138 rfl (lv_at hl 1 rfl) ?_
    refine lv_bipush (v := 20) hx hb dX8_goBack_139 (by decide) ?_
    refine lv_iadd hx hb dX8_goBack_141 ?_
    refine rd_el hf (fun v17 hinv17 hv17 hf => ?_)
    refine x_iald C h 27 1 (by decide) (aM_27 G _ _) rfl hinv17 hv17 dX8_goBack_142 ?_
    refine nm_el hf (fun σ18 hσ18 hf => ?_)
    refine pf_X8_41 C h dX8_goBack_143 hσ18 (fun H locs h => ?_)
    refine lv_aload_n hx hb dX8_goBack_146 rfl (lv_at hl 0 rfl) ?_
    refine lv_aload_n hx hb dX8_goBack_147 rfl (lv_at hl 0 rfl) ?_
    refine gf_X8_102 C h dX8_goBack_148 ?_
    refine lv_iload_n hx hb dX8_goBack_151 rfl (lv_at hl 1 rfl) ?_
    refine lv_bipush (v := 21) hx hb dX8_goBack_152 (by decide) ?_
    refine lv_iadd hx hb dX8_goBack_154 ?_
    refine rd_el hf (fun v19 hinv19 hv19 hf => ?_)
    refine x_iald C h 27 1 (by decide) (aM_27 G _ _) rfl hinv19 hv19 dX8_goBack_155 ?_
    refine nm_el hf (fun σ20 hσ20 hf => ?_)
    refine pf_X8_119 C h dX8_goBack_156 hσ20 (fun H locs h => ?_)
    refine lv_aload_n hx hb dX8_goBack_159 rfl (lv_at hl 0 rfl) ?_
    refine lv_aload_n hx hb dX8_goBack_160 rfl (lv_at hl 0 rfl) ?_
    refine gf_X8_102 C h dX8_goBack_161 ?_
    refine lv_iload_n hx hb dX8_goBack_164 rfl (lv_at hl 1 rfl) ?_
    refine lv_bipush (v := 22) hx hb dX8_goBack_165 (by decide) ?_
    refine lv_iadd hx hb dX8_goBack_167 ?_
    refine rd_el hf (fun v21 hinv21 hv21 hf => ?_)
    refine x_iald C h 27 1 (by decide) (aM_27 G _ _) rfl hinv21 hv21 dX8_goBack_168 ?_
    refine nm_el hf (fun σ22 hσ22 hf => ?_)
    refine pf_X8_122 C h dX8_goBack_169 hσ22 (fun H locs h => ?_)
    refine lv_aload_n hx hb dX8_goBack_172 rfl (lv_at hl 0 rfl) ?_
    refine lv_aload_n hx hb dX8_goBack_173 rfl (lv_at hl 0 rfl) ?_
    refine gf_X8_102 C h dX8_goBack_174 ?_
    refine lv_iload_n hx hb dX8_goBack_177 rfl (lv_at hl 1 rfl) ?_
    refine lv_bipush (v := 23) hx hb dX8_goBack_178 (by decide) ?_
    refine lv_iadd hx hb dX8_goBack_180 ?_
    refine rd_el hf (fun v23 hinv23 hv23 hf => ?_)
    refine x_iald C h 27 1 (by decide) (aM_27 G _ _) rfl hinv23 hv23 dX8_goBack_181 ?_
    refine nm_el hf (fun σ24 hσ24 hf => ?_)
    refine pf_X8_125 C h dX8_goBack_182 hσ24 (fun H locs h => ?_)
    refine lv_aload_n hx hb dX8_goBack_185 rfl (lv_at hl 0 rfl) ?_
    refine lv_aload_n hx hb dX8_goBack_186 rfl (lv_at hl 0 rfl) ?_
    refine gf_X8_102 C h dX8_goBack_187 ?_
    refine lv_iload_n hx hb dX8_goBack_190 rfl (lv_at hl 1 rfl) ?_
    refine lv_bipush (v := 24) hx hb dX8_goBack_191 (by decide) ?_
    refine lv_iadd hx hb dX8_goBack_193 ?_
    refine rd_el hf (fun v25 hinv25 hv25 hf => ?_)
    refine x_iald C h 27 1 (by decide) (aM_27 G _ _) rfl hinv25 hv25 dX8_goBack_194 ?_
    refine nm_el hf (fun σ26 hσ26 hf => ?_)
    refine pf_X8_128 C h dX8_goBack_195 hσ26 (fun H locs h => ?_)
    refine lv_aload_n hx hb dX8_goBack_198 rfl (lv_at hl 0 rfl) ?_
    refine lv_aload_n hx hb dX8_goBack_199 rfl (lv_at hl 0 rfl) ?_
    refine gf_X8_102 C h dX8_goBack_200 ?_
    refine lv_iload_n hx hb dX8_goBack_203 rfl (lv_at hl 1 rfl) ?_
    refine lv_bipush (v := 25) hx hb dX8_goBack_204 (by decide) ?_
    refine lv_iadd hx hb dX8_goBack_206 ?_
    refine rd_el hf (fun v27 hinv27 hv27 hf => ?_)
    refine x_iald C h 27 1 (by decide) (aM_27 G _ _) rfl hinv27 hv27 dX8_goBack_207 ?_
    refine nm_el hf (fun σ28 hσ28 hf => ?_)
    refine pf_X8_253 C h dX8_goBack_208 hσ28 (fun H locs h => ?_)
    refine lv_iconst (v := 0) hx hb dX8_goBack_211 (by decide) ?_
    refine lv_istore_n (lv' := [(3, .int 0), (0, .ref (G.1 0)), (2, .int x2)]) hx hb dX8_goBack_212 rfl hl (by decide) rfl (fun ls hl => ?_)
    exact t_X8_goBack_213 C hr x2 0 σ28 _ _ _ h (lv_sub hl [1, 2, 0] rfl) hf
  · have hf := ifF c12 hf
    refine lv_aload_n hx hb dX8_goBack_67 rfl (lv_at hl 0 rfl) ?_
    refine gf_X8_44 C h dX8_goBack_68 ?_
    refine lv_iload_n hx hb dX8_goBack_71 rfl (lv_at hl 2 rfl) ?_
    refine lv_aload_n hx hb dX8_goBack_72 rfl (lv_at hl 0 rfl) ?_
    refine gf_X8_102 C h dX8_goBack_73 ?_
    refine lv_iload_n hx hb dX8_goBack_76 rfl (lv_at hl 1 rfl) ?_
    refine lv_bipush (v := 8) hx hb dX8_goBack_77 (by decide) ?_
    refine lv_iadd hx hb dX8_goBack_79 ?_
    refine lv_iload_n hx hb dX8_goBack_80 rfl (lv_at hl 2 rfl) ?_
    refine lv_iadd hx hb dX8_goBack_81 ?_
    refine rd_el hf (fun v29 hinv29 hv29 hf => ?_)
    refine x_iald C h 27 1 (by decide) (aM_27 G _ _) rfl hinv29 hv29 dX8_goBack_82 ?_
    refine ckb_el hf (fun hin30 hf => ?_)
    refine nm_el hf (fun σ31 hσ31 hf => ?_)
    refine x_iast C h 9 1 (by decide) (fun f => aM_9 G f _) rfl hin30 dX8_goBack_83 hσ31 (fun H locs h => ?_)
    refine lv_aload_n hx hb dX8_goBack_84 rfl (lv_at hl 0 rfl) ?_
    refine gf_X8_47 C h dX8_goBack_85 ?_
    refine lv_iload_n hx hb dX8_goBack_88 rfl (lv_at hl 2 rfl) ?_
    refine lv_aload_n hx hb dX8_goBack_89 rfl (lv_at hl 0 rfl) ?_
    refine gf_X8_102 C h dX8_goBack_90 ?_
    refine lv_iload_n hx hb dX8_goBack_93 rfl (lv_at hl 1 rfl) ?_
    refine lv_bipush (v := 13) hx hb dX8_goBack_94 (by decide) ?_
    refine lv_iadd hx hb dX8_goBack_96 ?_
    refine lv_iload_n hx hb dX8_goBack_97 rfl (lv_at hl 2 rfl) ?_
    refine lv_iadd hx hb dX8_goBack_98 ?_
    refine rd_el hf (fun v32 hinv32 hv32 hf => ?_)
    refine x_iald C h 27 1 (by decide) (aM_27 G _ _) rfl hinv32 hv32 dX8_goBack_99 ?_
    refine ckb_el hf (fun hin33 hf => ?_)
    refine nm_el hf (fun σ34 hσ34 hf => ?_)
    refine x_iast C h 10 1 (by decide) (fun f => aM_10 G f _) rfl hin33 dX8_goBack_100 hσ34 (fun H locs h => ?_)
    refine lv_iinc (v := x3 + 1) (lv' := [(3, .int (x3 + 1)), (0, .ref (G.1 0)), (2, .int x2)]) hx hb dX8_goBack_101 hl (k := 2) rfl rfl (by decide) rfl (fun ls hl => ?_)
    refine lv_goto (tgt := 62) hx hb dX8_goBack_104 (by decide) ?_
    exact IH62 (x2, x3 + 1, σ34) hf _ _ _ h (lv_sub hl [1, 2, 0] rfl)
def b_X8_goBack_34   (rec34 : Int32 × Int32 × St → Option (Int32 × St)) (x2 : Int32) (x3 : Int32) (σ : St) : Option (Int32 × St) := if (8 : Int32) ≤ x3 then f_X8_goBack_62 x2 0 σ else rd (σ.1 27) 860 (x2 + x3) (fun v9 => ck (inb x3 8) (nm (sI σ 8 (x3 : Int32).toNatClampNeg v9) (fun σ11 => rec34 (x2, x3 + 1, σ11))))
def f_X8_goBack_34   (x2 : Int32) (x3 : Int32) (σ : St) : Option (Int32 × St) := lp (fun (rec34 : Int32 × Int32 × St → Option (Int32 × St)) (q : Int32 × Int32 × St) => b_X8_goBack_34   rec34 (q.1) (q.2.1) (q.2.2)) 100000 (x2, x3, σ)
set_option maxHeartbeats 4000000 in
theorem t_X8_goBack_34 (C : Cx p s m args meth c cX8_goBack 4 RX8 D (tyG G)) (hr : meth.sig.returnType = (some .int)) {o : Int32 × St}   : ∀ (x2 : Int32) (x3 : Int32) (σ : St) (H : Heap) (locs : List Loc) (ls : Array Slot), Hs D A s.heap (wM G σ) H locs → lv_has ls 4 [(0, .ref (G.1 0)), (2, .int x2), (3, .int x3)] → f_X8_goBack_34   x2 x3 σ = some o → W p l e ({ frames := 1, cells := 0, slots := 0, locals := 25 } : Room) s m args below meth c H locs 0 0 (MQ below (QI D (tyG G) (wM G) A o) args s 0 0 A) (F0 m 34 ls []) := by
  intro x2 x3 σ H locs ls h hl hf
  refine lp_el (P := fun q : Int32 × Int32 × St => ∀ (H : Heap) (locs : List Loc) (ls : Array Slot), Hs D A s.heap (wM G (q.2.2)) H locs → lv_has ls 4 [(0, .ref (G.1 0)), (2, .int (q.1)), (3, .int (q.2.1))] → W p l e ({ frames := 1, cells := 0, slots := 0, locals := 25 } : Room) s m args below meth c H locs 0 0 (MQ below (QI D (tyG G) (wM G) A o) args s 0 0 A) (F0 m 34 ls [])) (fun rec34 q IH34 hf => ?_) _ (x2, x3, σ) hf H locs ls h hl
  obtain ⟨x2, x3, σ⟩ := q
  intro H locs ls h hl
  have hl : lv_has ls 4 [(0, .ref (G.1 0)), (2, .int x2), (3, .int x3)] := hl
  have h : Hs D A s.heap (wM G σ) H locs := h
  have hf : b_X8_goBack_34   rec34 x2 x3 σ = some o := hf
  unfold b_X8_goBack_34 at hf
  have hx := C.1
  have hb := C.2.1
  refine lv_iload_n hx hb dX8_goBack_34 rfl (lv_at hl 2 rfl) ?_
  refine lv_bipush (v := 8) hx hb dX8_goBack_35 (by decide) ?_
  refine lv_icmp_ge (tgt := 60) hx hb dX8_goBack_37 (by decide) (fun c8 => ?_) (fun c8 => ?_)
  · have hf := ifT c8 hf
    refine lv_iconst (v := 0) hx hb dX8_goBack_60 (by decide) ?_
    refine lv_istore_n (lv' := [(3, .int 0), (0, .ref (G.1 0)), (2, .int x2)]) hx hb dX8_goBack_61 rfl hl (by decide) rfl (fun ls hl => ?_)
    exact t_X8_goBack_62 C hr x2 0 σ _ _ _ h (lv_sub hl [1, 2, 0] rfl) hf
  · have hf := ifF c8 hf
    refine lv_aload_n hx hb dX8_goBack_40 rfl (lv_at hl 0 rfl) ?_
    refine gf_X8_31 C h dX8_goBack_41 ?_
    refine lv_iload_n hx hb dX8_goBack_44 rfl (lv_at hl 2 rfl) ?_
    refine lv_aload_n hx hb dX8_goBack_45 rfl (lv_at hl 0 rfl) ?_
    refine gf_X8_102 C h dX8_goBack_46 ?_
    refine lv_iload_n hx hb dX8_goBack_49 rfl (lv_at hl 1 rfl) ?_
    refine lv_iload_n hx hb dX8_goBack_50 rfl (lv_at hl 2 rfl) ?_
    refine lv_iadd hx hb dX8_goBack_51 ?_
    refine rd_el hf (fun v9 hinv9 hv9 hf => ?_)
    refine x_iald C h 27 1 (by decide) (aM_27 G _ _) rfl hinv9 hv9 dX8_goBack_52 ?_
    refine ckb_el hf (fun hin10 hf => ?_)
    refine nm_el hf (fun σ11 hσ11 hf => ?_)
    refine x_iast C h 8 1 (by decide) (fun f => aM_8 G f _) rfl hin10 dX8_goBack_53 hσ11 (fun H locs h => ?_)
    refine lv_iinc (v := x3 + 1) (lv' := [(3, .int (x3 + 1)), (0, .ref (G.1 0)), (2, .int x2)]) hx hb dX8_goBack_54 hl (k := 2) rfl rfl (by decide) rfl (fun ls hl => ?_)
    refine lv_goto (tgt := 34) hx hb dX8_goBack_57 (by decide) ?_
    exact IH34 (x2, x3 + 1, σ11) hf _ _ _ h (lv_sub hl [1, 2, 0] rfl)
def f_X8_goBack  (x1 : Int32) (σ : St) : Option (Int32 × St) := bd (f_X8_in x1.toInt64 0 1 σ) (fun r3 σ1 => if r3 = 0 then some ((-1000000001), σ1) else rd (σ1.1 28) 2 x1 (fun v5 => if v5 = 0 then some ((-1000000003), σ1) else nm (430 * x1) (fun z7 => f_X8_goBack_34 z7 0 σ1)))
set_option maxHeartbeats 4000000 in
theorem c_X8_goBack (l : Launch) (D : va_G) (G : Geo)   (x1 : Int32) (σ : St) (o : Int32 × St) (hf : f_X8_goBack  x1 σ = some o) : CI l D (tyG G) (wM G) yX8_goBack cX8_goBack 4 ((some .int)) ({ frames := 1, cells := 0, slots := 0, locals := 25 }) [.ref (G.1 0), .int x1] σ o := by
  refine met_of (Qc := fun A => QI D (tyG G) (wM G) A o) pn_X8 (Nat.le_of_ble_eq_true rfl) (fun p e s m below meth c A ls C hr h hl => ?_)
  have C : Cx p s m _ meth c cX8_goBack 4 RX8 D (tyG G) := C
  have hl : lv_has ls 4 [(0, .ref (G.1 0)), (1, .int x1)] := hl
  unfold f_X8_goBack at hf
  have hx := C.1
  have hb := C.2.1
  refine lv_iload_n hx hb dX8_goBack_0 rfl (lv_at hl 1 rfl) ?_
  refine lv_i2l (v := x1.toInt64) hx hb dX8_goBack_1 rfl ?_
  refine lv_lconst (v := 0) hx hb dX8_goBack_2 (by decide) ?_
  refine lv_lconst (v := 1) hx hb dX8_goBack_3 (by decide) ?_
  refine bd_el hf (fun r3 σ1 ho2 hf => ?_)
  refine x_goi h (x_runS (As := [.long x1.toInt64, .long 0, .long 1]) (rest := []) C h (c_X8_in l D G x1.toInt64 0 1 σ (r3, σ1) ho2 _) lk_X8_112 rfl ⟨rfl, rfl, Nat.le_of_ble_eq_true rfl, Nat.le_of_ble_eq_true rfl⟩ hl.1 rfl (Nat.le_of_ble_eq_true rfl) dX8_goBack_4) (fun H locs h => ?_)
  refine lv_if_ne (tgt := 13) hx hb dX8_goBack_7 (by decide) (fun c4 => ?_) (fun c4 => ?_)
  · have hf := ifF c4 hf
    refine lv_aload_n hx hb dX8_goBack_13 rfl (lv_at hl 0 rfl) ?_
    refine gf_X8_105 C h dX8_goBack_14 ?_
    refine lv_iload_n hx hb dX8_goBack_17 rfl (lv_at hl 1 rfl) ?_
    refine rd_el hf (fun v5 hinv5 hv5 hf => ?_)
    refine x_zald C h 28 3 (by decide) (aM_28 G _ _) rfl hinv5 hv5 dX8_goBack_18 ?_
    refine lv_if_ne (tgt := 26) hx hb dX8_goBack_19 (by decide) (fun c6 => ?_) (fun c6 => ?_)
    · have hf := ifF c6 hf
      refine lv_sipush (v := 430) hx hb dX8_goBack_26 (by decide) ?_
      refine lv_iload_n hx hb dX8_goBack_29 rfl (lv_at hl 1 rfl) ?_
      refine lv_imul hx hb dX8_goBack_30 ?_
      refine nm_el hf (fun z7 ez7 hf => ?_)
      refine x_topi ez7 ?_
      refine lv_istore_n (lv' := [(2, .int z7), (0, .ref (G.1 0)), (1, .int x1)]) hx hb dX8_goBack_31 rfl hl (by decide) rfl (fun ls hl => ?_)
      refine lv_iconst (v := 0) hx hb dX8_goBack_32 (by decide) ?_
      refine lv_istore_n (lv' := [(3, .int 0), (2, .int z7), (0, .ref (G.1 0)), (1, .int x1)]) hx hb dX8_goBack_33 rfl hl (by decide) rfl (fun ls hl => ?_)
      exact t_X8_goBack_34 C hr z7 0 σ1 _ _ _ h (lv_sub hl [2, 1, 0] rfl) hf
    · have hf := ifT c6 hf
      refine lv_ldcw (v := (-1000000003)) hx hb C.2.2.2.1 (C.2.2.2.2.1 _ q585) dX8_goBack_22 ?_
      exact x_iret C hr h hf dX8_goBack_25
  · have hf := ifT c4 hf
    refine lv_ldc (v := (-1000000001)) hx hb C.2.2.2.1 (C.2.2.2.2.1 _ q434) dX8_goBack_10 ?_
    exact x_iret C hr h hf dX8_goBack_12
