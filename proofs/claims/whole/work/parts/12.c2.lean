variable {p : Program} {l : Launch} {e : Env} {s : State} {m : MethodId} {args : Array Value} {below : List Frame} {meth : Method} {c : Code} {D : va_G} {A : Nat → Prop} {G : Geo}
theorem lk_X7_60 : Lk RX7 60 yX4_append cX4_append 5 ((some .boolean)) 2 := ⟨q157, q158, q159, q15, q160, by decide +kernel, by decide +kernel, by decide +kernel⟩
theorem lk_X7_124 : Lk RX7 124 yX5_hasHouse cX5_hasHouse 2 ((some .boolean)) 1 := ⟨q422, q423, q424, q19, q425, by decide +kernel, by decide +kernel, by decide +kernel⟩
theorem lk_X7_145 : Lk RX7 145 yX5_sleepersOf cX5_sleepersOf 4 ((some .int)) 1 := ⟨q426, q427, q428, q19, q429, by decide +kernel, by decide +kernel, by decide +kernel⟩
theorem lk_X7_149 : Lk RX7 149 yX5_hasSleeper cX5_hasSleeper 2 ((some .boolean)) 1 := ⟨q452, q453, q454, q19, q455, by decide +kernel, by decide +kernel, by decide +kernel⟩
theorem lk_X7_167 : Lk RX7 167 yX1_firstMinute cX1_firstMinute 2 ((some .int)) 1 := ⟨q456, q457, q458, q68, q459, by decide +kernel, by decide +kernel, by decide +kernel⟩
theorem lk_X7_170 : Lk RX7 170 yX1_lastMinute cX1_lastMinute 2 ((some .int)) 1 := ⟨q464, q465, q466, q68, q467, by decide +kernel, by decide +kernel, by decide +kernel⟩
theorem lk_X7_173 : Lk RX7 173 yX1_shiftOne cX1_shiftOne 3 none 2 := ⟨q496, q497, q498, q68, q499, by decide +kernel, by decide +kernel, by decide +kernel⟩
theorem lk_X7_177 : Lk RX7 177 yX1_isNoisy cX1_isNoisy 1 ((some .boolean)) 0 := ⟨q508, q509, q510, q68, q511, by decide +kernel, by decide +kernel, by decide +kernel⟩
theorem lk_X7_181 : Lk RX7 181 yX1_makeNoise cX1_makeNoise 5 none 3 := ⟨q512, q305, q306, q68, q307, by decide +kernel, by decide +kernel, by decide +kernel⟩
theorem lk_X7_186 : Lk RX7 186 yX0_liveDay cX0_liveDay 2 ((some .int)) 0 := ⟨q545, q546, q547, q23, q548, by decide +kernel, by decide +kernel, by decide +kernel⟩
theorem lk_X7_195 : Lk RX7 195 yX1_oddsOf cX1_oddsOf 8 ((some .int)) 1 := ⟨q613, q614, q615, q68, q616, by decide +kernel, by decide +kernel, by decide +kernel⟩
theorem lk_X7_198 : Lk RX7 198 yX1_oddsOfHouses cX1_oddsOfHouses 4 ((some .int)) 1 := ⟨q647, q648, q649, q68, q650, by decide +kernel, by decide +kernel, by decide +kernel⟩
theorem lk_X7_201 : Lk RX7 201 yX2_seekShift cX2_seekShift 9 none 2 := ⟨q669, q670, q671, q33, q672, by decide +kernel, by decide +kernel, by decide +kernel⟩
theorem lk_X7_211 : Lk RX7 211 yX2_settle cX2_settle 3 ((some .int)) 1 := ⟨q706, q707, q708, q33, q709, by decide +kernel, by decide +kernel, by decide +kernel⟩
theorem lk_X7_215 : Lk RX7 215 yX2_settledShift cX2_settledShift 3 ((some .int)) 1 := ⟨q727, q728, q729, q33, q730, by decide +kernel, by decide +kernel, by decide +kernel⟩
theorem lk_X7_218 : Lk RX7 218 yX2_seekNoise cX2_seekNoise 5 none 2 := ⟨q749, q750, q751, q33, q752, by decide +kernel, by decide +kernel, by decide +kernel⟩
theorem lk_X7_238 : Lk RX7 238 yX3_begin cX3_begin 4 none 3 := ⟨q768, q769, q770, q37, q771, by decide +kernel, by decide +kernel, by decide +kernel⟩
theorem lk_X7_224 : Lk RX7 224 yX7_lookAhead cX7_lookAhead 2 none 1 := ⟨q764, q765, q766, q2, q767, by decide +kernel, by decide +kernel, by decide +kernel⟩
theorem lk_X7_228 : Lk RX7 228 yX3_goOnADay cX3_goOnADay 6 none 0 := ⟨q779, q780, q781, q37, q782, by decide +kernel, by decide +kernel, by decide +kernel⟩
theorem lk_X7_241 : Lk RX7 241 yX6_add cX6_add 3 ((some .boolean)) 2 := ⟨q811, q812, q813, q29, q814, by decide +kernel, by decide +kernel, by decide +kernel⟩
theorem lk_X7_245 : Lk RX7 245 yX6_firstLie cX6_firstLie 3 ((some .int)) 1 := ⟨q833, q834, q835, q29, q836, by decide +kernel, by decide +kernel, by decide +kernel⟩
theorem lk_X7_248 : Lk RX7 248 yX6_fitting cX6_fitting 6 ((some .int)) 3 := ⟨q855, q856, q857, q29, q858, by decide +kernel, by decide +kernel, by decide +kernel⟩
theorem lk_X7_255 : Lk RX7 255 yX7_imageAt cX7_imageAt 2 ((some (.object "FirstAwake$Course"))) 1 := ⟨q887, q888, q889, q2, q890, by decide +kernel, by decide +kernel, by decide +kernel⟩
theorem lk_X7_259 : Lk RX7 259 yX0_copyFrom cX0_copyFrom 2 none 1 := ⟨q891, q892, q893, q23, q894, by decide +kernel, by decide +kernel, by decide +kernel⟩
def f_X7_feed  (x1 : Int32) (x2 : Int64) (σ : St) : Option (Int32 × St) := if x1 < 1 then some ((-1000000002), σ) else if x1 ≤ 8 then bd (f_X4_append x1 x2 σ) (fun r5 σ3 => if r5 = 0 then some ((-1000000004), σ3) else some (σ3.1 1 1, σ3)) else some ((-1000000002), σ)
set_option maxHeartbeats 4000000 in
theorem c_X7_feed (l : Launch) (D : va_G) (G : Geo)   (x1 : Int32) (x2 : Int64) (σ : St) (o : Int32 × St) (hf : f_X7_feed  x1 x2 σ = some o) : CI l D (tyG G) (wC G) yX7_feed cX7_feed 4 ((some .int)) ({ frames := 1, cells := 0, slots := 0, locals := 24 }) [.ref (G.1 0), .int x1, .long x2] σ o := by
  refine met_of (Qc := fun A => QI D (tyG G) (wC G) A o) pn_X7 (Nat.le_of_ble_eq_true rfl) (fun p e s m below meth c A ls C hr h hl => ?_)
  have C : Cx p s m _ meth c cX7_feed 4 RX7 D (tyG G) := C
  have hl : lv_has ls 4 [(0, .ref (G.1 0)), (1, .int x1), (2, .long x2)] := hl
  unfold f_X7_feed at hf
  have hx := C.1
  have hb := C.2.1
  refine lv_iload_n hx hb dX7_feed_0 rfl (lv_at hl 1 rfl) ?_
  refine lv_iconst (v := 1) hx hb dX7_feed_1 (by decide) ?_
  refine lv_icmp_lt (tgt := 11) hx hb dX7_feed_2 (by decide) (fun c1 => ?_) (fun c1 => ?_)
  · have hf := ifT c1 hf
    refine lv_ldc (v := (-1000000002)) hx hb C.2.2.2.1 (C.2.2.2.2.1 _ q154) dX7_feed_11 ?_
    exact x_iret C hr h hf dX7_feed_13
  · have hf := ifF c1 hf
    refine lv_iload_n hx hb dX7_feed_5 rfl (lv_at hl 1 rfl) ?_
    refine lv_bipush (v := 8) hx hb dX7_feed_6 (by decide) ?_
    refine lv_icmp_le (tgt := 14) hx hb dX7_feed_8 (by decide) (fun c2 => ?_) (fun c2 => ?_)
    · have hf := ifT c2 hf
      refine lv_aload_n hx hb dX7_feed_14 rfl (lv_at hl 0 rfl) ?_
      refine gf_X7_10 C h (by decide) dX7_feed_15 ?_
      refine lv_iload_n hx hb dX7_feed_18 rfl (lv_at hl 1 rfl) ?_
      refine lv_lload_n hx hb dX7_feed_19 rfl (lv_at hl 2 rfl) ?_
      refine bd_el hf (fun r5 σ3 ho4 hf => ?_)
      refine x_goi h (x_runV (As := [.int x1, .long x2]) (rest := []) C h (c_X4_append l D G x1 x2 σ (r5, σ3) ho4 _) lk_X7_60 rfl ⟨rfl, rfl, Nat.le_of_ble_eq_true rfl, Nat.le_of_ble_eq_true rfl⟩ (x_rcv C h 1 (lt_X4 (by decide)) ((oC_X4 G (by decide)) _ _) rfl) hl.1 rfl (Nat.le_of_ble_eq_true rfl) dX7_feed_20) (fun H locs h => ?_)
      refine lv_if_eq (tgt := 36) hx hb dX7_feed_23 (by decide) (fun c6 => ?_) (fun c6 => ?_)
      · have hf := ifT c6 hf
        refine lv_ldc (v := (-1000000004)) hx hb C.2.2.2.1 (C.2.2.2.2.1 _ q156) dX7_feed_36 ?_
        exact x_iret C hr h hf dX7_feed_38
      · have hf := ifF c6 hf
        refine lv_aload_n hx hb dX7_feed_26 rfl (lv_at hl 0 rfl) ?_
        refine gf_X7_10 C h (by decide) dX7_feed_27 ?_
        refine gf_X7_64 C h (by decide) dX7_feed_30 ?_
        refine lv_goto (tgt := 38) hx hb dX7_feed_33 (by decide) ?_
        exact x_iret C hr h hf dX7_feed_38
    · have hf := ifF c2 hf
      refine lv_ldc (v := (-1000000002)) hx hb C.2.2.2.1 (C.2.2.2.2.1 _ q154) dX7_feed_11 ?_
      exact x_iret C hr h hf dX7_feed_13
def f_X7_fault   (σ : St) : Option (Int32 × St) := some (σ.1 1 5, σ)
set_option maxHeartbeats 4000000 in
theorem c_X7_fault (l : Launch) (D : va_G) (G : Geo)    (σ : St) (o : Int32 × St) (hf : f_X7_fault   σ = some o) : CI l D (tyG G) (wC G) yX7_fault cX7_fault 1 ((some .int)) ({ frames := 0, cells := 0, slots := 0, locals := 0 }) [.ref (G.1 0)] σ o := by
  refine met_of (Qc := fun A => QI D (tyG G) (wC G) A o) pn_X7 (Nat.le_of_ble_eq_true rfl) (fun p e s m below meth c A ls C hr h hl => ?_)
  have C : Cx p s m _ meth c cX7_fault 1 RX7 D (tyG G) := C
  have hl : lv_has ls 1 [(0, .ref (G.1 0))] := hl
  unfold f_X7_fault at hf
  have hx := C.1
  have hb := C.2.1
  refine lv_aload_n hx hb dX7_fault_0 rfl (lv_at hl 0 rfl) ?_
  refine gf_X7_10 C h (by decide) dX7_fault_1 ?_
  refine gf_X7_91 C h (by decide) dX7_fault_4 ?_
  exact x_iret C hr h hf dX7_fault_7
def f_X7_told  (x1 : Int32) (σ : St) : Option (Int32 × St) := if x1 = 0 then some (σ.1 3 0, σ) else if x1 = 1 then some (σ.1 3 4, σ) else if x1 = 2 then some (σ.1 1 1, σ) else if x1 = 3 then some (σ.1 19 2, σ) else if x1 = 4 then some (σ.1 20 5, σ) else if x1 = 5 then some (σ.1 20 3, σ) else if x1 = 6 then some (σ.1 20 4, σ) else if x1 = 7 then some (σ.1 20 2, σ) else if x1 = 8 then some (σ.1 19 6, σ) else if x1 = 9 then some (σ.1 19 5, σ) else if x1 = 10 then some (σ.1 52 0, σ) else some ((-1000000002), σ)
set_option maxHeartbeats 4000000 in
theorem c_X7_told (l : Launch) (D : va_G) (G : Geo)   (x1 : Int32) (σ : St) (o : Int32 × St) (hf : f_X7_told  x1 σ = some o) : CI l D (tyG G) (wC G) yX7_told cX7_told 2 ((some .int)) ({ frames := 0, cells := 0, slots := 0, locals := 0 }) [.ref (G.1 0), .int x1] σ o := by
  refine met_of (Qc := fun A => QI D (tyG G) (wC G) A o) pn_X7 (Nat.le_of_ble_eq_true rfl) (fun p e s m below meth c A ls C hr h hl => ?_)
  have C : Cx p s m _ meth c cX7_told 2 RX7 D (tyG G) := C
  have hl : lv_has ls 2 [(0, .ref (G.1 0)), (1, .int x1)] := hl
  unfold f_X7_told at hf
  have hx := C.1
  have hb := C.2.1
  refine lv_iload_n hx hb dX7_told_0 rfl (lv_at hl 1 rfl) ?_
  by_cases c1 : x1 = 0
  · have hf := ifT c1 hf
    refine lv_tableIn (off := 59) (tgt := 60) hx hb dX7_told_1 (by rw [c1]; decide) (by rw [c1]; decide) (by rw [c1]; rfl) (by decide) ?_
    refine lv_aload_n hx hb dX7_told_60 rfl (lv_at hl 0 rfl) ?_
    refine gf_X7_19 C h (by decide) dX7_told_61 ?_
    refine gf_X7_94 C h (by decide) dX7_told_64 ?_
    exact x_iret C hr h hf dX7_told_67
  · have hf := ifF c1 hf
    by_cases c2 : x1 = 1
    · have hf := ifT c2 hf
      refine lv_tableIn (off := 67) (tgt := 68) hx hb dX7_told_1 (by rw [c2]; decide) (by rw [c2]; decide) (by rw [c2]; rfl) (by decide) ?_
      refine lv_aload_n hx hb dX7_told_68 rfl (lv_at hl 0 rfl) ?_
      refine gf_X7_19 C h (by decide) dX7_told_69 ?_
      refine gf_X7_88 C h (by decide) dX7_told_72 ?_
      exact x_iret C hr h hf dX7_told_75
    · have hf := ifF c2 hf
      by_cases c3 : x1 = 2
      · have hf := ifT c3 hf
        refine lv_tableIn (off := 75) (tgt := 76) hx hb dX7_told_1 (by rw [c3]; decide) (by rw [c3]; decide) (by rw [c3]; rfl) (by decide) ?_
        refine lv_aload_n hx hb dX7_told_76 rfl (lv_at hl 0 rfl) ?_
        refine gf_X7_10 C h (by decide) dX7_told_77 ?_
        refine gf_X7_64 C h (by decide) dX7_told_80 ?_
        exact x_iret C hr h hf dX7_told_83
      · have hf := ifF c3 hf
        by_cases c4 : x1 = 3
        · have hf := ifT c4 hf
          refine lv_tableIn (off := 83) (tgt := 84) hx hb dX7_told_1 (by rw [c4]; decide) (by rw [c4]; decide) (by rw [c4]; rfl) (by decide) ?_
          refine lv_aload_n hx hb dX7_told_84 rfl (lv_at hl 0 rfl) ?_
          refine gf_X7_28 C h (by decide) dX7_told_85 ?_
          refine gf_X7_97 C h (by decide) dX7_told_88 ?_
          exact x_iret C hr h hf dX7_told_91
        · have hf := ifF c4 hf
          by_cases c5 : x1 = 4
          · have hf := ifT c5 hf
            refine lv_tableIn (off := 91) (tgt := 92) hx hb dX7_told_1 (by rw [c5]; decide) (by rw [c5]; decide) (by rw [c5]; rfl) (by decide) ?_
            refine lv_aload_n hx hb dX7_told_92 rfl (lv_at hl 0 rfl) ?_
            refine gf_X7_28 C h (by decide) dX7_told_93 ?_
            refine gf_X7_100 C h (by decide) dX7_told_96 ?_
            refine gf_X7_104 C h (by decide) dX7_told_99 ?_
            exact x_iret C hr h hf dX7_told_102
          · have hf := ifF c5 hf
            by_cases c6 : x1 = 5
            · have hf := ifT c6 hf
              refine lv_tableIn (off := 102) (tgt := 103) hx hb dX7_told_1 (by rw [c6]; decide) (by rw [c6]; decide) (by rw [c6]; rfl) (by decide) ?_
              refine lv_aload_n hx hb dX7_told_103 rfl (lv_at hl 0 rfl) ?_
              refine gf_X7_28 C h (by decide) dX7_told_104 ?_
              refine gf_X7_100 C h (by decide) dX7_told_107 ?_
              refine gf_X7_109 C h (by decide) dX7_told_110 ?_
              exact x_iret C hr h hf dX7_told_113
            · have hf := ifF c6 hf
              by_cases c7 : x1 = 6
              · have hf := ifT c7 hf
                refine lv_tableIn (off := 113) (tgt := 114) hx hb dX7_told_1 (by rw [c7]; decide) (by rw [c7]; decide) (by rw [c7]; rfl) (by decide) ?_
                refine lv_aload_n hx hb dX7_told_114 rfl (lv_at hl 0 rfl) ?_
                refine gf_X7_28 C h (by decide) dX7_told_115 ?_
                refine gf_X7_100 C h (by decide) dX7_told_118 ?_
                refine gf_X7_112 C h (by decide) dX7_told_121 ?_
                exact x_iret C hr h hf dX7_told_124
              · have hf := ifF c7 hf
                by_cases c8 : x1 = 7
                · have hf := ifT c8 hf
                  refine lv_tableIn (off := 124) (tgt := 125) hx hb dX7_told_1 (by rw [c8]; decide) (by rw [c8]; decide) (by rw [c8]; rfl) (by decide) ?_
                  refine lv_aload_n hx hb dX7_told_125 rfl (lv_at hl 0 rfl) ?_
                  refine gf_X7_28 C h (by decide) dX7_told_126 ?_
                  refine gf_X7_100 C h (by decide) dX7_told_129 ?_
                  refine gf_X7_115 C h (by decide) dX7_told_132 ?_
                  exact x_iret C hr h hf dX7_told_135
                · have hf := ifF c8 hf
                  by_cases c9 : x1 = 8
                  · have hf := ifT c9 hf
                    refine lv_tableIn (off := 135) (tgt := 136) hx hb dX7_told_1 (by rw [c9]; decide) (by rw [c9]; decide) (by rw [c9]; rfl) (by decide) ?_
                    refine lv_aload_n hx hb dX7_told_136 rfl (lv_at hl 0 rfl) ?_
                    refine gf_X7_28 C h (by decide) dX7_told_137 ?_
                    refine gf_X7_118 C h (by decide) dX7_told_140 ?_
                    exact x_iret C hr h hf dX7_told_143
                  · have hf := ifF c9 hf
                    by_cases c10 : x1 = 9
                    · have hf := ifT c10 hf
                      refine lv_tableIn (off := 143) (tgt := 144) hx hb dX7_told_1 (by rw [c10]; decide) (by rw [c10]; decide) (by rw [c10]; rfl) (by decide) ?_
                      refine lv_aload_n hx hb dX7_told_144 rfl (lv_at hl 0 rfl) ?_
                      refine gf_X7_28 C h (by decide) dX7_told_145 ?_
                      refine gf_X7_121 C h (by decide) dX7_told_148 ?_
                      exact x_iret C hr h hf dX7_told_151
                    · have hf := ifF c10 hf
                      by_cases c11 : x1 = 10
                      · have hf := ifT c11 hf
                        refine lv_tableIn (off := 151) (tgt := 152) hx hb dX7_told_1 (by rw [c11]; decide) (by rw [c11]; decide) (by rw [c11]; rfl) (by decide) ?_
                        refine lv_aload_n hx hb dX7_told_152 rfl (lv_at hl 0 rfl) ?_
                        refine gf_X7_41 C h (by decide) dX7_told_153 ?_
                        refine gf_X7_82 C h (by decide) dX7_told_156 ?_
                        exact x_iret C hr h hf dX7_told_159
                      · have hf := ifF c11 hf
                        have nc1 := lv_neT c1 (show (0 : Int32).toInt = 0 by decide)
                        have nc2 := lv_neT c2 (show (1 : Int32).toInt = 1 by decide)
                        have nc3 := lv_neT c3 (show (2 : Int32).toInt = 2 by decide)
                        have nc4 := lv_neT c4 (show (3 : Int32).toInt = 3 by decide)
                        have nc5 := lv_neT c5 (show (4 : Int32).toInt = 4 by decide)
                        have nc6 := lv_neT c6 (show (5 : Int32).toInt = 5 by decide)
                        have nc7 := lv_neT c7 (show (6 : Int32).toInt = 6 by decide)
                        have nc8 := lv_neT c8 (show (7 : Int32).toInt = 7 by decide)
                        have nc9 := lv_neT c9 (show (8 : Int32).toInt = 8 by decide)
                        have nc10 := lv_neT c10 (show (9 : Int32).toInt = 9 by decide)
                        have nc11 := lv_neT c11 (show (10 : Int32).toInt = 10 by decide)
                        refine lv_tableOut (tgt := 160) hx hb dX7_told_1 (by omega) (by decide) ?_
                        refine lv_ldc (v := (-1000000002)) hx hb C.2.2.2.1 (C.2.2.2.2.1 _ q154) dX7_told_160 ?_
                        exact x_iret C hr h hf dX7_told_162
def f_X7_house  (x1 : Int32) (x2 : Int32) (σ : St) : Option (Int32 × St) := bd (f_X5_hasHouse x1 σ) (fun r3 σ1 => if r3 = 0 then some ((-1000000001), σ1) else if x2 = 0 then rd (σ1.1 4) 5 x1 (fun v6 => some (v6, σ1)) else if x2 = 1 then rd (σ1.1 5) 5 x1 (fun v8 => some (v8, σ1)) else if x2 = 2 then rd (σ1.1 6) 5 x1 (fun v10 => some (v10, σ1)) else if x2 = 3 then rd (σ1.1 25) 5 x1 (fun v12 => some (v12, σ1)) else if x2 = 4 then rd (σ1.1 26) 5 x1 (fun v14 => some (v14, σ1)) else if x2 = 5 then bd (f_X5_sleepersOf x1 σ1) (fun r18 σ16 => some (r18, σ16)) else some ((-1000000002), σ1))
set_option maxHeartbeats 4000000 in
theorem c_X7_house (l : Launch) (D : va_G) (G : Geo)   (x1 : Int32) (x2 : Int32) (σ : St) (o : Int32 × St) (hf : f_X7_house  x1 x2 σ = some o) : CI l D (tyG G) (wC G) yX7_house cX7_house 3 ((some .int)) ({ frames := 1, cells := 0, slots := 0, locals := 23 }) [.ref (G.1 0), .int x1, .int x2] σ o := by
  refine met_of (Qc := fun A => QI D (tyG G) (wC G) A o) pn_X7 (Nat.le_of_ble_eq_true rfl) (fun p e s m below meth c A ls C hr h hl => ?_)
  have C : Cx p s m _ meth c cX7_house 3 RX7 D (tyG G) := C
  have hl : lv_has ls 3 [(0, .ref (G.1 0)), (1, .int x1), (2, .int x2)] := hl
  unfold f_X7_house at hf
  have hx := C.1
  have hb := C.2.1
  refine lv_aload_n hx hb dX7_house_0 rfl (lv_at hl 0 rfl) ?_
  refine gf_X7_19 C h (by decide) dX7_house_1 ?_
  refine lv_iload_n hx hb dX7_house_4 rfl (lv_at hl 1 rfl) ?_
  refine bd_el hf (fun r3 σ1 ho2 hf => ?_)
  refine x_goi h (x_runV (As := [.int x1]) (rest := []) C h (c_X5_hasHouse l D G x1 σ (r3, σ1) ho2 _) lk_X7_124 rfl ⟨rfl, rfl, Nat.le_of_ble_eq_true rfl, Nat.le_of_ble_eq_true rfl⟩ (x_rcv C h 3 (lt_X5 (by decide)) ((oC_X5 G (by decide)) _ _) rfl) hl.1 rfl (Nat.le_of_ble_eq_true rfl) dX7_house_5) (fun H locs h => ?_)
  refine lv_if_ne (tgt := 14) hx hb dX7_house_8 (by decide) (fun c4 => ?_) (fun c4 => ?_)
  · have hf := ifF c4 hf
    refine lv_iload_n hx hb dX7_house_14 rfl (lv_at hl 2 rfl) ?_
    by_cases c5 : x2 = 0
    · have hf := ifT c5 hf
      refine lv_tableIn (off := 37) (tgt := 52) hx hb dX7_house_15 (by rw [c5]; decide) (by rw [c5]; decide) (by rw [c5]; rfl) (by decide) ?_
      refine lv_aload_n hx hb dX7_house_52 rfl (lv_at hl 0 rfl) ?_
      refine gf_X7_19 C h (by decide) dX7_house_53 ?_
      refine gf_X7_129 C h (by decide) dX7_house_56 ?_
      refine lv_iload_n hx hb dX7_house_59 rfl (lv_at hl 1 rfl) ?_
      refine rd_el hf (fun v6 hinv6 hv6 hf => ?_)
      refine x_iald C h 4 1 (ltA_X5_need (by decide)) ((aC_X5_need G (by decide)) _ _) rfl hinv6 hv6 dX7_house_60 ?_
      exact x_iret C hr h hf dX7_house_61
    · have hf := ifF c5 hf
      by_cases c7 : x2 = 1
      · have hf := ifT c7 hf
        refine lv_tableIn (off := 47) (tgt := 62) hx hb dX7_house_15 (by rw [c7]; decide) (by rw [c7]; decide) (by rw [c7]; rfl) (by decide) ?_
        refine lv_aload_n hx hb dX7_house_62 rfl (lv_at hl 0 rfl) ?_
        refine gf_X7_19 C h (by decide) dX7_house_63 ?_
        refine gf_X7_133 C h (by decide) dX7_house_66 ?_
        refine lv_iload_n hx hb dX7_house_69 rfl (lv_at hl 1 rfl) ?_
        refine rd_el hf (fun v8 hinv8 hv8 hf => ?_)
        refine x_iald C h 5 1 (ltA_X5_worth (by decide)) ((aC_X5_worth G (by decide)) _ _) rfl hinv8 hv8 dX7_house_70 ?_
        exact x_iret C hr h hf dX7_house_71
      · have hf := ifF c7 hf
        by_cases c9 : x2 = 2
        · have hf := ifT c9 hf
          refine lv_tableIn (off := 57) (tgt := 72) hx hb dX7_house_15 (by rw [c9]; decide) (by rw [c9]; decide) (by rw [c9]; rfl) (by decide) ?_
          refine lv_aload_n hx hb dX7_house_72 rfl (lv_at hl 0 rfl) ?_
          refine gf_X7_19 C h (by decide) dX7_house_73 ?_
          refine gf_X7_136 C h (by decide) dX7_house_76 ?_
          refine lv_iload_n hx hb dX7_house_79 rfl (lv_at hl 1 rfl) ?_
          refine rd_el hf (fun v10 hinv10 hv10 hf => ?_)
          refine x_iald C h 6 1 (ltA_X5_bed (by decide)) ((aC_X5_bed G (by decide)) _ _) rfl hinv10 hv10 dX7_house_80 ?_
          exact x_iret C hr h hf dX7_house_81
        · have hf := ifF c9 hf
          by_cases c11 : x2 = 3
          · have hf := ifT c11 hf
            refine lv_tableIn (off := 67) (tgt := 82) hx hb dX7_house_15 (by rw [c11]; decide) (by rw [c11]; decide) (by rw [c11]; rfl) (by decide) ?_
            refine lv_aload_n hx hb dX7_house_82 rfl (lv_at hl 0 rfl) ?_
            refine gf_X7_28 C h (by decide) dX7_house_83 ?_
            refine gf_X7_139 C h (by decide) dX7_house_86 ?_
            refine lv_iload_n hx hb dX7_house_89 rfl (lv_at hl 1 rfl) ?_
            refine rd_el hf (fun v12 hinv12 hv12 hf => ?_)
            refine x_iald C h 25 1 (ltA_X0_onEnd (by decide)) ((aC_X0_onEnd G (by decide)) _ _) rfl hinv12 hv12 dX7_house_90 ?_
            exact x_iret C hr h hf dX7_house_91
          · have hf := ifF c11 hf
            by_cases c13 : x2 = 4
            · have hf := ifT c13 hf
              refine lv_tableIn (off := 77) (tgt := 92) hx hb dX7_house_15 (by rw [c13]; decide) (by rw [c13]; decide) (by rw [c13]; rfl) (by decide) ?_
              refine lv_aload_n hx hb dX7_house_92 rfl (lv_at hl 0 rfl) ?_
              refine gf_X7_28 C h (by decide) dX7_house_93 ?_
              refine gf_X7_142 C h (by decide) dX7_house_96 ?_
              refine lv_iload_n hx hb dX7_house_99 rfl (lv_at hl 1 rfl) ?_
              refine rd_el hf (fun v14 hinv14 hv14 hf => ?_)
              refine x_iald C h 26 1 (ltA_X0_done (by decide)) ((aC_X0_done G (by decide)) _ _) rfl hinv14 hv14 dX7_house_100 ?_
              exact x_iret C hr h hf dX7_house_101
            · have hf := ifF c13 hf
              by_cases c15 : x2 = 5
              · have hf := ifT c15 hf
                refine lv_tableIn (off := 87) (tgt := 102) hx hb dX7_house_15 (by rw [c15]; decide) (by rw [c15]; decide) (by rw [c15]; rfl) (by decide) ?_
                refine lv_aload_n hx hb dX7_house_102 rfl (lv_at hl 0 rfl) ?_
                refine gf_X7_19 C h (by decide) dX7_house_103 ?_
                refine lv_iload_n hx hb dX7_house_106 rfl (lv_at hl 1 rfl) ?_
                refine bd_el hf (fun r18 σ16 ho17 hf => ?_)
                refine x_goi h (x_runV (As := [.int x1]) (rest := []) C h (c_X5_sleepersOf l D G x1 σ1 (r18, σ16) ho17 _) lk_X7_145 rfl ⟨rfl, rfl, Nat.le_of_ble_eq_true rfl, Nat.le_of_ble_eq_true rfl⟩ (x_rcv C h 3 (lt_X5 (by decide)) ((oC_X5 G (by decide)) _ _) rfl) hl.1 rfl (Nat.le_of_ble_eq_true rfl) dX7_house_107) (fun H locs h => ?_)
                exact x_iret C hr h hf dX7_house_110
              · have hf := ifF c15 hf
                have nc5 := lv_neT c5 (show (0 : Int32).toInt = 0 by decide)
                have nc7 := lv_neT c7 (show (1 : Int32).toInt = 1 by decide)
                have nc9 := lv_neT c9 (show (2 : Int32).toInt = 2 by decide)
                have nc11 := lv_neT c11 (show (3 : Int32).toInt = 3 by decide)
                have nc13 := lv_neT c13 (show (4 : Int32).toInt = 4 by decide)
                have nc15 := lv_neT c15 (show (5 : Int32).toInt = 5 by decide)
                refine lv_tableOut (tgt := 111) hx hb dX7_house_15 (by omega) (by decide) ?_
                refine lv_ldc (v := (-1000000002)) hx hb C.2.2.2.1 (C.2.2.2.2.1 _ q154) dX7_house_111 ?_
                exact x_iret C hr h hf dX7_house_113
  · have hf := ifT c4 hf
    refine lv_ldc (v := (-1000000001)) hx hb C.2.2.2.1 (C.2.2.2.2.1 _ q416) dX7_house_11 ?_
    exact x_iret C hr h hf dX7_house_13
def f_X7_sleeper  (x1 : Int32) (x2 : Int32) (σ : St) : Option (Int32 × St) := bd (f_X5_hasSleeper x1 σ) (fun r3 σ1 => if r3 = 0 then some ((-1000000001), σ1) else if x2 = 0 then rd (σ1.1 7) 8 x1 (fun v6 => some (v6, σ1)) else if x2 = 1 then rd (σ1.1 8) 8 x1 (fun v8 => some (v8, σ1)) else if x2 = 2 then rd (σ1.1 9) 8 x1 (fun v10 => some (v10, σ1)) else if x2 = 3 then rd (σ1.1 10) 8 x1 (fun v12 => some (v12, σ1)) else if x2 = 4 then rd (σ1.1 21) 8 x1 (fun v14 => some (v14, σ1)) else if x2 = 5 then bd (f_X1_firstMinute 20 x1 σ1) (fun r18 σ16 => some (r18, σ16)) else if x2 = 6 then bd (f_X1_lastMinute 20 x1 σ1) (fun r22 σ20 => some (r22, σ20)) else some ((-1000000002), σ1))
set_option maxHeartbeats 4000000 in
theorem c_X7_sleeper (l : Launch) (D : va_G) (G : Geo)   (x1 : Int32) (x2 : Int32) (σ : St) (o : Int32 × St) (hf : f_X7_sleeper  x1 x2 σ = some o) : CI l D (tyG G) (wC G) yX7_sleeper cX7_sleeper 3 ((some .int)) ({ frames := 2, cells := 0, slots := 0, locals := 43 }) [.ref (G.1 0), .int x1, .int x2] σ o := by
  refine met_of (Qc := fun A => QI D (tyG G) (wC G) A o) pn_X7 (Nat.le_of_ble_eq_true rfl) (fun p e s m below meth c A ls C hr h hl => ?_)
  have C : Cx p s m _ meth c cX7_sleeper 3 RX7 D (tyG G) := C
  have hl : lv_has ls 3 [(0, .ref (G.1 0)), (1, .int x1), (2, .int x2)] := hl
  unfold f_X7_sleeper at hf
  have hx := C.1
  have hb := C.2.1
  refine lv_aload_n hx hb dX7_sleeper_0 rfl (lv_at hl 0 rfl) ?_
  refine gf_X7_19 C h (by decide) dX7_sleeper_1 ?_
  refine lv_iload_n hx hb dX7_sleeper_4 rfl (lv_at hl 1 rfl) ?_
  refine bd_el hf (fun r3 σ1 ho2 hf => ?_)
  refine x_goi h (x_runV (As := [.int x1]) (rest := []) C h (c_X5_hasSleeper l D G x1 σ (r3, σ1) ho2 _) lk_X7_149 rfl ⟨rfl, rfl, Nat.le_of_ble_eq_true rfl, Nat.le_of_ble_eq_true rfl⟩ (x_rcv C h 3 (lt_X5 (by decide)) ((oC_X5 G (by decide)) _ _) rfl) hl.1 rfl (Nat.le_of_ble_eq_true rfl) dX7_sleeper_5) (fun H locs h => ?_)
  refine lv_if_ne (tgt := 14) hx hb dX7_sleeper_8 (by decide) (fun c4 => ?_) (fun c4 => ?_)
  · have hf := ifF c4 hf
    refine lv_iload_n hx hb dX7_sleeper_14 rfl (lv_at hl 2 rfl) ?_
    by_cases c5 : x2 = 0
    · have hf := ifT c5 hf
      refine lv_tableIn (off := 41) (tgt := 56) hx hb dX7_sleeper_15 (by rw [c5]; decide) (by rw [c5]; decide) (by rw [c5]; rfl) (by decide) ?_
      refine lv_aload_n hx hb dX7_sleeper_56 rfl (lv_at hl 0 rfl) ?_
      refine gf_X7_19 C h (by decide) dX7_sleeper_57 ?_
      refine gf_X7_152 C h (by decide) dX7_sleeper_60 ?_
      refine lv_iload_n hx hb dX7_sleeper_63 rfl (lv_at hl 1 rfl) ?_
      refine rd_el hf (fun v6 hinv6 hv6 hf => ?_)
      refine x_iald C h 7 1 (ltA_X5_home (by decide)) ((aC_X5_home G (by decide)) _ _) rfl hinv6 hv6 dX7_sleeper_64 ?_
      exact x_iret C hr h hf dX7_sleeper_65
    · have hf := ifF c5 hf
      by_cases c7 : x2 = 1
      · have hf := ifT c7 hf
        refine lv_tableIn (off := 51) (tgt := 66) hx hb dX7_sleeper_15 (by rw [c7]; decide) (by rw [c7]; decide) (by rw [c7]; rfl) (by decide) ?_
        refine lv_aload_n hx hb dX7_sleeper_66 rfl (lv_at hl 0 rfl) ?_
        refine gf_X7_19 C h (by decide) dX7_sleeper_67 ?_
        refine gf_X7_155 C h (by decide) dX7_sleeper_70 ?_
        refine lv_iload_n hx hb dX7_sleeper_73 rfl (lv_at hl 1 rfl) ?_
        refine rd_el hf (fun v8 hinv8 hv8 hf => ?_)
        refine x_iald C h 8 1 (ltA_X5_wake (by decide)) ((aC_X5_wake G (by decide)) _ _) rfl hinv8 hv8 dX7_sleeper_74 ?_
        exact x_iret C hr h hf dX7_sleeper_75
      · have hf := ifF c7 hf
        by_cases c9 : x2 = 2
        · have hf := ifT c9 hf
          refine lv_tableIn (off := 61) (tgt := 76) hx hb dX7_sleeper_15 (by rw [c9]; decide) (by rw [c9]; decide) (by rw [c9]; rfl) (by decide) ?_
          refine lv_aload_n hx hb dX7_sleeper_76 rfl (lv_at hl 0 rfl) ?_
          refine gf_X7_19 C h (by decide) dX7_sleeper_77 ?_
          refine gf_X7_158 C h (by decide) dX7_sleeper_80 ?_
          refine lv_iload_n hx hb dX7_sleeper_83 rfl (lv_at hl 1 rfl) ?_
          refine rd_el hf (fun v10 hinv10 hv10 hf => ?_)
          refine x_iald C h 9 1 (ltA_X5_span (by decide)) ((aC_X5_span G (by decide)) _ _) rfl hinv10 hv10 dX7_sleeper_84 ?_
          exact x_iret C hr h hf dX7_sleeper_85
        · have hf := ifF c9 hf
          by_cases c11 : x2 = 3
          · have hf := ifT c11 hf
            refine lv_tableIn (off := 71) (tgt := 86) hx hb dX7_sleeper_15 (by rw [c11]; decide) (by rw [c11]; decide) (by rw [c11]; rfl) (by decide) ?_
            refine lv_aload_n hx hb dX7_sleeper_86 rfl (lv_at hl 0 rfl) ?_
            refine gf_X7_19 C h (by decide) dX7_sleeper_87 ?_
            refine gf_X7_161 C h (by decide) dX7_sleeper_90 ?_
            refine lv_iload_n hx hb dX7_sleeper_93 rfl (lv_at hl 1 rfl) ?_
            refine rd_el hf (fun v12 hinv12 hv12 hf => ?_)
            refine x_iald C h 10 1 (ltA_X5_light (by decide)) ((aC_X5_light G (by decide)) _ _) rfl hinv12 hv12 dX7_sleeper_94 ?_
            exact x_iret C hr h hf dX7_sleeper_95
          · have hf := ifF c11 hf
            by_cases c13 : x2 = 4
            · have hf := ifT c13 hf
              refine lv_tableIn (off := 81) (tgt := 96) hx hb dX7_sleeper_15 (by rw [c13]; decide) (by rw [c13]; decide) (by rw [c13]; rfl) (by decide) ?_
              refine lv_aload_n hx hb dX7_sleeper_96 rfl (lv_at hl 0 rfl) ?_
              refine gf_X7_28 C h (by decide) dX7_sleeper_97 ?_
              refine gf_X7_100 C h (by decide) dX7_sleeper_100 ?_
              refine gf_X7_164 C h (by decide) dX7_sleeper_103 ?_
              refine lv_iload_n hx hb dX7_sleeper_106 rfl (lv_at hl 1 rfl) ?_
              refine rd_el hf (fun v14 hinv14 hv14 hf => ?_)
              refine x_iald C h 21 1 (ltA_X1_shifted (by decide)) ((aC_X1_shifted G (by decide)) _ _) rfl hinv14 hv14 dX7_sleeper_107 ?_
              exact x_iret C hr h hf dX7_sleeper_108
            · have hf := ifF c13 hf
              by_cases c15 : x2 = 5
              · have hf := ifT c15 hf
                refine lv_tableIn (off := 94) (tgt := 109) hx hb dX7_sleeper_15 (by rw [c15]; decide) (by rw [c15]; decide) (by rw [c15]; rfl) (by decide) ?_
                refine lv_aload_n hx hb dX7_sleeper_109 rfl (lv_at hl 0 rfl) ?_
                refine gf_X7_28 C h (by decide) dX7_sleeper_110 ?_
                refine gf_X7_100 C h (by decide) dX7_sleeper_113 ?_
                refine lv_iload_n hx hb dX7_sleeper_116 rfl (lv_at hl 1 rfl) ?_
                refine bd_el hf (fun r18 σ16 ho17 hf => ?_)
                refine x_goi h (x_runV (As := [.int x1]) (rest := []) C h (c_X1_firstMinute l D G 20 (by decide) x1 σ1 (r18, σ16) ho17 _) lk_X7_167 rfl ⟨rfl, rfl, Nat.le_of_ble_eq_true rfl, Nat.le_of_ble_eq_true rfl⟩ (x_rcv C h 20 (lt_X1 (by decide)) ((oC_X1 G (by decide)) _ _) rfl) hl.1 rfl (Nat.le_of_ble_eq_true rfl) dX7_sleeper_117) (fun H locs h => ?_)
                exact x_iret C hr h hf dX7_sleeper_120
              · have hf := ifF c15 hf
                by_cases c19 : x2 = 6
                · have hf := ifT c19 hf
                  refine lv_tableIn (off := 106) (tgt := 121) hx hb dX7_sleeper_15 (by rw [c19]; decide) (by rw [c19]; decide) (by rw [c19]; rfl) (by decide) ?_
                  refine lv_aload_n hx hb dX7_sleeper_121 rfl (lv_at hl 0 rfl) ?_
                  refine gf_X7_28 C h (by decide) dX7_sleeper_122 ?_
                  refine gf_X7_100 C h (by decide) dX7_sleeper_125 ?_
                  refine lv_iload_n hx hb dX7_sleeper_128 rfl (lv_at hl 1 rfl) ?_
                  refine bd_el hf (fun r22 σ20 ho21 hf => ?_)
                  refine x_goi h (x_runV (As := [.int x1]) (rest := []) C h (c_X1_lastMinute l D G 20 (by decide) x1 σ1 (r22, σ20) ho21 _) lk_X7_170 rfl ⟨rfl, rfl, Nat.le_of_ble_eq_true rfl, Nat.le_of_ble_eq_true rfl⟩ (x_rcv C h 20 (lt_X1 (by decide)) ((oC_X1 G (by decide)) _ _) rfl) hl.1 rfl (Nat.le_of_ble_eq_true rfl) dX7_sleeper_129) (fun H locs h => ?_)
                  exact x_iret C hr h hf dX7_sleeper_132
                · have hf := ifF c19 hf
                  have nc5 := lv_neT c5 (show (0 : Int32).toInt = 0 by decide)
                  have nc7 := lv_neT c7 (show (1 : Int32).toInt = 1 by decide)
                  have nc9 := lv_neT c9 (show (2 : Int32).toInt = 2 by decide)
                  have nc11 := lv_neT c11 (show (3 : Int32).toInt = 3 by decide)
                  have nc13 := lv_neT c13 (show (4 : Int32).toInt = 4 by decide)
                  have nc15 := lv_neT c15 (show (5 : Int32).toInt = 5 by decide)
                  have nc19 := lv_neT c19 (show (6 : Int32).toInt = 6 by decide)
                  refine lv_tableOut (tgt := 133) hx hb dX7_sleeper_15 (by omega) (by decide) ?_
                  refine lv_ldc (v := (-1000000002)) hx hb C.2.2.2.1 (C.2.2.2.2.1 _ q154) dX7_sleeper_133 ?_
                  exact x_iret C hr h hf dX7_sleeper_135
  · have hf := ifT c4 hf
    refine lv_ldc (v := (-1000000001)) hx hb C.2.2.2.1 (C.2.2.2.2.1 _ q416) dX7_sleeper_11 ?_
    exact x_iret C hr h hf dX7_sleeper_13
def f_X7_shift  (x1 : Int32) (x2 : Int32) (σ : St) : Option (Int32 × St) := bd (f_X5_hasSleeper x1 σ) (fun r3 σ1 => if r3 = 0 then some ((-1000000001), σ1) else if x2 < 0 then some ((-1000000002), σ1) else rd (σ1.1 7) 8 x1 (fun v6 => rd (σ1.1 6) 5 v6 (fun v7 => if x2 ≤ v7 then rd (σ1.1 21) 8 x1 (fun v9 => bv (f_X1_shiftOne 20 x1 x2 σ1) (fun σ10 => some (v9, σ10))) else some ((-1000000002), σ1))))
set_option maxHeartbeats 4000000 in
theorem c_X7_shift (l : Launch) (D : va_G) (G : Geo)   (x1 : Int32) (x2 : Int32) (σ : St) (o : Int32 × St) (hf : f_X7_shift  x1 x2 σ = some o) : CI l D (tyG G) (wC G) yX7_shift cX7_shift 4 ((some .int)) ({ frames := 2, cells := 0, slots := 0, locals := 45 }) [.ref (G.1 0), .int x1, .int x2] σ o := by
  refine met_of (Qc := fun A => QI D (tyG G) (wC G) A o) pn_X7 (Nat.le_of_ble_eq_true rfl) (fun p e s m below meth c A ls C hr h hl => ?_)
  have C : Cx p s m _ meth c cX7_shift 4 RX7 D (tyG G) := C
  have hl : lv_has ls 4 [(0, .ref (G.1 0)), (1, .int x1), (2, .int x2)] := hl
  unfold f_X7_shift at hf
  have hx := C.1
  have hb := C.2.1
  refine lv_aload_n hx hb dX7_shift_0 rfl (lv_at hl 0 rfl) ?_
  refine gf_X7_19 C h (by decide) dX7_shift_1 ?_
  refine lv_iload_n hx hb dX7_shift_4 rfl (lv_at hl 1 rfl) ?_
  refine bd_el hf (fun r3 σ1 ho2 hf => ?_)
  refine x_goi h (x_runV (As := [.int x1]) (rest := []) C h (c_X5_hasSleeper l D G x1 σ (r3, σ1) ho2 _) lk_X7_149 rfl ⟨rfl, rfl, Nat.le_of_ble_eq_true rfl, Nat.le_of_ble_eq_true rfl⟩ (x_rcv C h 3 (lt_X5 (by decide)) ((oC_X5 G (by decide)) _ _) rfl) hl.1 rfl (Nat.le_of_ble_eq_true rfl) dX7_shift_5) (fun H locs h => ?_)
  refine lv_if_ne (tgt := 14) hx hb dX7_shift_8 (by decide) (fun c4 => ?_) (fun c4 => ?_)
  · have hf := ifF c4 hf
    refine lv_iload_n hx hb dX7_shift_14 rfl (lv_at hl 2 rfl) ?_
    refine lv_if_lt (tgt := 39) hx hb dX7_shift_15 (by decide) (fun c5 => ?_) (fun c5 => ?_)
    · have hf := ifT c5 hf
      refine lv_ldc (v := (-1000000002)) hx hb C.2.2.2.1 (C.2.2.2.2.1 _ q154) dX7_shift_39 ?_
      exact x_iret C hr h hf dX7_shift_41
    · have hf := ifF c5 hf
      refine lv_iload_n hx hb dX7_shift_18 rfl (lv_at hl 2 rfl) ?_
      refine lv_aload_n hx hb dX7_shift_19 rfl (lv_at hl 0 rfl) ?_
      refine gf_X7_19 C h (by decide) dX7_shift_20 ?_
      refine gf_X7_136 C h (by decide) dX7_shift_23 ?_
      refine lv_aload_n hx hb dX7_shift_26 rfl (lv_at hl 0 rfl) ?_
      refine gf_X7_19 C h (by decide) dX7_shift_27 ?_
      refine gf_X7_152 C h (by decide) dX7_shift_30 ?_
      refine lv_iload_n hx hb dX7_shift_33 rfl (lv_at hl 1 rfl) ?_
      refine rd_el hf (fun v6 hinv6 hv6 hf => ?_)
      refine x_iald C h 7 1 (ltA_X5_home (by decide)) ((aC_X5_home G (by decide)) _ _) rfl hinv6 hv6 dX7_shift_34 ?_
      refine rd_el hf (fun v7 hinv7 hv7 hf => ?_)
      refine x_iald C h 6 1 (ltA_X5_bed (by decide)) ((aC_X5_bed G (by decide)) _ _) rfl hinv7 hv7 dX7_shift_35 ?_
      refine lv_icmp_le (tgt := 42) hx hb dX7_shift_36 (by decide) (fun c8 => ?_) (fun c8 => ?_)
      · have hf := ifT c8 hf
        refine lv_aload_n hx hb dX7_shift_42 rfl (lv_at hl 0 rfl) ?_
        refine gf_X7_28 C h (by decide) dX7_shift_43 ?_
        refine gf_X7_100 C h (by decide) dX7_shift_46 ?_
        refine gf_X7_164 C h (by decide) dX7_shift_49 ?_
        refine lv_iload_n hx hb dX7_shift_52 rfl (lv_at hl 1 rfl) ?_
        refine rd_el hf (fun v9 hinv9 hv9 hf => ?_)
        refine x_iald C h 21 1 (ltA_X1_shifted (by decide)) ((aC_X1_shifted G (by decide)) _ _) rfl hinv9 hv9 dX7_shift_53 ?_
        refine lv_istore_n (lv' := [(3, .int v9), (0, .ref (G.1 0)), (1, .int x1), (2, .int x2)]) hx hb dX7_shift_54 rfl hl (by decide) rfl (fun ls hl => ?_)
        refine lv_aload_n hx hb dX7_shift_55 rfl (lv_at hl 1 rfl) ?_
        refine gf_X7_28 C h (by decide) dX7_shift_56 ?_
        refine gf_X7_100 C h (by decide) dX7_shift_59 ?_
        refine lv_iload_n hx hb dX7_shift_62 rfl (lv_at hl 2 rfl) ?_
        refine lv_iload_n hx hb dX7_shift_63 rfl (lv_at hl 3 rfl) ?_
        refine bv_el hf (fun σ10 ho11 hf => ?_)
        refine x_gov h (x_runV (As := [.int x1, .int x2]) (rest := []) C h (c_X1_shiftOne l D G 20 (by decide) x1 x2 σ1 σ10 ho11 _) lk_X7_173 rfl ⟨rfl, rfl, Nat.le_of_ble_eq_true rfl, Nat.le_of_ble_eq_true rfl⟩ (x_rcv C h 20 (lt_X1 (by decide)) ((oC_X1 G (by decide)) _ _) rfl) hl.1 rfl (Nat.le_of_ble_eq_true rfl) dX7_shift_64) (fun H locs h => ?_)
        refine lv_iload_n hx hb dX7_shift_67 rfl (lv_at hl 0 rfl) ?_
        exact x_iret C hr h hf dX7_shift_68
      · have hf := ifF c8 hf
        refine lv_ldc (v := (-1000000002)) hx hb C.2.2.2.1 (C.2.2.2.2.1 _ q154) dX7_shift_39 ?_
        exact x_iret C hr h hf dX7_shift_41
  · have hf := ifT c4 hf
    refine lv_ldc (v := (-1000000001)) hx hb C.2.2.2.1 (C.2.2.2.2.1 _ q416) dX7_shift_11 ?_
    exact x_iret C hr h hf dX7_shift_13
def f_X7_noise_56   (x1 : Int32) (x2 : Int32) (x3 : Int32) (y0 : Int32) (σ : St) : Option (Int32 × St) := bv (f_X1_makeNoise 20 x1 x2 x3 σ) (fun σ13 => some (y0, σ13))
set_option maxHeartbeats 4000000 in
theorem t_X7_noise_56 (C : Cx p s m args meth c cX7_noise 5 RX7 D (tyG G)) (hr : meth.sig.returnType = (some .int)) {o : Int32 × St}   : ∀ (x1 : Int32) (x2 : Int32) (x3 : Int32) (y0 : Int32) (σ : St) (H : Heap) (locs : List Loc) (ls : Array Slot), Hs D A s.heap (wC G σ) H locs → lv_has ls 5 [(0, .ref (G.1 0)), (1, .int x1), (2, .int x2), (3, .int x3)] → f_X7_noise_56   x1 x2 x3 y0 σ = some o → W p l e ({ frames := 2, cells := 0, slots := 0, locals := 47 } : Room) s m args below meth c H locs 0 0 (MQ below (QI D (tyG G) (wC G) A o) args s 0 0 A) (F0 m 56 ls [.int y0]) := by
  intro x1 x2 x3 y0 σ H locs ls h hl hf
  unfold f_X7_noise_56 at hf
  have hx := C.1
  have hb := C.2.1
  refine lv_istore (lv' := [(4, .int y0), (0, .ref (G.1 0)), (1, .int x1), (2, .int x2), (3, .int x3)]) hx hb dX7_noise_56 hl (by decide) rfl (fun ls hl => ?_)
  refine lv_aload_n hx hb dX7_noise_58 rfl (lv_at hl 1 rfl) ?_
  refine gf_X7_28 C h (by decide) dX7_noise_59 ?_
  refine gf_X7_100 C h (by decide) dX7_noise_62 ?_
  refine lv_iload_n hx hb dX7_noise_65 rfl (lv_at hl 2 rfl) ?_
  refine lv_iload_n hx hb dX7_noise_66 rfl (lv_at hl 3 rfl) ?_
  refine lv_iload_n hx hb dX7_noise_67 rfl (lv_at hl 4 rfl) ?_
  refine bv_el hf (fun σ13 ho14 hf => ?_)
  refine x_gov h (x_runV (As := [.int x1, .int x2, .int x3]) (rest := []) C h (c_X1_makeNoise l D G 20 (by decide) x1 x2 x3 σ σ13 ho14 _) lk_X7_181 rfl ⟨rfl, rfl, Nat.le_of_ble_eq_true rfl, Nat.le_of_ble_eq_true rfl⟩ (x_rcv C h 20 (lt_X1 (by decide)) ((oC_X1 G (by decide)) _ _) rfl) hl.1 rfl (Nat.le_of_ble_eq_true rfl) dX7_noise_68) (fun H locs h => ?_)
  refine lv_iload hx hb dX7_noise_71 (lv_at hl 0 rfl) ?_
  exact x_iret C hr h hf dX7_noise_73
def f_X7_noise  (x1 : Int32) (x2 : Int32) (x3 : Int32) (σ : St) : Option (Int32 × St) := bd (f_X5_hasHouse x1 σ) (fun r3 σ1 => if r3 = 0 then some ((-1000000001), σ1) else if x2 < 0 then some ((-1000000002), σ1) else if (700 : Int32) < x2 then some ((-1000000002), σ1) else if x3 < 0 then some ((-1000000002), σ1) else if x3 ≤ 9 then bd (f_X1_isNoisy 20 σ1) (fun r11 σ9 => if r11 = 0 then f_X7_noise_56 x1 x2 x3 0 σ9 else f_X7_noise_56 x1 x2 x3 1 σ9) else some ((-1000000002), σ1))
set_option maxHeartbeats 4000000 in
theorem c_X7_noise (l : Launch) (D : va_G) (G : Geo)   (x1 : Int32) (x2 : Int32) (x3 : Int32) (σ : St) (o : Int32 × St) (hf : f_X7_noise  x1 x2 x3 σ = some o) : CI l D (tyG G) (wC G) yX7_noise cX7_noise 5 ((some .int)) ({ frames := 2, cells := 0, slots := 0, locals := 47 }) [.ref (G.1 0), .int x1, .int x2, .int x3] σ o := by
  refine met_of (Qc := fun A => QI D (tyG G) (wC G) A o) pn_X7 (Nat.le_of_ble_eq_true rfl) (fun p e s m below meth c A ls C hr h hl => ?_)
  have C : Cx p s m _ meth c cX7_noise 5 RX7 D (tyG G) := C
  have hl : lv_has ls 5 [(0, .ref (G.1 0)), (1, .int x1), (2, .int x2), (3, .int x3)] := hl
  unfold f_X7_noise at hf
  have hx := C.1
  have hb := C.2.1
  refine lv_aload_n hx hb dX7_noise_0 rfl (lv_at hl 0 rfl) ?_
  refine gf_X7_19 C h (by decide) dX7_noise_1 ?_
  refine lv_iload_n hx hb dX7_noise_4 rfl (lv_at hl 1 rfl) ?_
  refine bd_el hf (fun r3 σ1 ho2 hf => ?_)
  refine x_goi h (x_runV (As := [.int x1]) (rest := []) C h (c_X5_hasHouse l D G x1 σ (r3, σ1) ho2 _) lk_X7_124 rfl ⟨rfl, rfl, Nat.le_of_ble_eq_true rfl, Nat.le_of_ble_eq_true rfl⟩ (x_rcv C h 3 (lt_X5 (by decide)) ((oC_X5 G (by decide)) _ _) rfl) hl.1 rfl (Nat.le_of_ble_eq_true rfl) dX7_noise_5) (fun H locs h => ?_)
  refine lv_if_ne (tgt := 14) hx hb dX7_noise_8 (by decide) (fun c4 => ?_) (fun c4 => ?_)
  · have hf := ifF c4 hf
    refine lv_iload_n hx hb dX7_noise_14 rfl (lv_at hl 2 rfl) ?_
    refine lv_if_lt (tgt := 35) hx hb dX7_noise_15 (by decide) (fun c5 => ?_) (fun c5 => ?_)
    · have hf := ifT c5 hf
      refine lv_ldc (v := (-1000000002)) hx hb C.2.2.2.1 (C.2.2.2.2.1 _ q154) dX7_noise_35 ?_
      exact x_iret C hr h hf dX7_noise_37
    · have hf := ifF c5 hf
      refine lv_iload_n hx hb dX7_noise_18 rfl (lv_at hl 2 rfl) ?_
      refine lv_sipush (v := 700) hx hb dX7_noise_19 (by decide) ?_
      refine lv_icmp_gt (tgt := 35) hx hb dX7_noise_22 (by decide) (fun c6 => ?_) (fun c6 => ?_)
      · have hf := ifT c6 hf
        refine lv_ldc (v := (-1000000002)) hx hb C.2.2.2.1 (C.2.2.2.2.1 _ q154) dX7_noise_35 ?_
        exact x_iret C hr h hf dX7_noise_37
      · have hf := ifF c6 hf
        refine lv_iload_n hx hb dX7_noise_25 rfl (lv_at hl 3 rfl) ?_
        refine lv_if_lt (tgt := 35) hx hb dX7_noise_26 (by decide) (fun c7 => ?_) (fun c7 => ?_)
        · have hf := ifT c7 hf
          refine lv_ldc (v := (-1000000002)) hx hb C.2.2.2.1 (C.2.2.2.2.1 _ q154) dX7_noise_35 ?_
          exact x_iret C hr h hf dX7_noise_37
        · have hf := ifF c7 hf
          refine lv_iload_n hx hb dX7_noise_29 rfl (lv_at hl 3 rfl) ?_
          refine lv_bipush (v := 9) hx hb dX7_noise_30 (by decide) ?_
          refine lv_icmp_le (tgt := 38) hx hb dX7_noise_32 (by decide) (fun c8 => ?_) (fun c8 => ?_)
          · have hf := ifT c8 hf
            refine lv_aload_n hx hb dX7_noise_38 rfl (lv_at hl 0 rfl) ?_
            refine gf_X7_28 C h (by decide) dX7_noise_39 ?_
            refine gf_X7_100 C h (by decide) dX7_noise_42 ?_
            refine bd_el hf (fun r11 σ9 ho10 hf => ?_)
            refine x_goi h (x_runV (As := []) (rest := []) C h (c_X1_isNoisy l D G 20 (by decide) σ1 (r11, σ9) ho10 _) lk_X7_177 rfl ⟨rfl, rfl, Nat.le_of_ble_eq_true rfl, Nat.le_of_ble_eq_true rfl⟩ (x_rcv C h 20 (lt_X1 (by decide)) ((oC_X1 G (by decide)) _ _) rfl) hl.1 rfl (Nat.le_of_ble_eq_true rfl) dX7_noise_45) (fun H locs h => ?_)
            refine lv_if_eq (tgt := 55) hx hb dX7_noise_48 (by decide) (fun c12 => ?_) (fun c12 => ?_)
            · have hf := ifT c12 hf
              refine lv_iconst (v := 0) hx hb dX7_noise_55 (by decide) ?_
              exact t_X7_noise_56 C hr x1 x2 x3 0 σ9 _ _ _ h (lv_sub hl [0, 1, 2, 3] rfl) hf
            · have hf := ifF c12 hf
              refine lv_iconst (v := 1) hx hb dX7_noise_51 (by decide) ?_
              refine lv_goto (tgt := 56) hx hb dX7_noise_52 (by decide) ?_
              exact t_X7_noise_56 C hr x1 x2 x3 1 σ9 _ _ _ h (lv_sub hl [0, 1, 2, 3] rfl) hf
          · have hf := ifF c8 hf
            refine lv_ldc (v := (-1000000002)) hx hb C.2.2.2.1 (C.2.2.2.2.1 _ q154) dX7_noise_35 ?_
            exact x_iret C hr h hf dX7_noise_37
  · have hf := ifT c4 hf
    refine lv_ldc (v := (-1000000001)) hx hb C.2.2.2.1 (C.2.2.2.2.1 _ q416) dX7_noise_11 ?_
    exact x_iret C hr h hf dX7_noise_13
def f_X7_hush_18   (y0 : Int32) (σ : St) : Option (Int32 × St) := bv (f_X1_makeNoise 20 ((-1)) ((-1)) ((-1)) σ) (fun σ5 => some (y0, σ5))
set_option maxHeartbeats 4000000 in
theorem t_X7_hush_18 (C : Cx p s m args meth c cX7_hush 2 RX7 D (tyG G)) (hr : meth.sig.returnType = (some .int)) {o : Int32 × St}   : ∀ (y0 : Int32) (σ : St) (H : Heap) (locs : List Loc) (ls : Array Slot), Hs D A s.heap (wC G σ) H locs → lv_has ls 2 [(0, .ref (G.1 0))] → f_X7_hush_18   y0 σ = some o → W p l e ({ frames := 2, cells := 0, slots := 0, locals := 47 } : Room) s m args below meth c H locs 0 0 (MQ below (QI D (tyG G) (wC G) A o) args s 0 0 A) (F0 m 18 ls [.int y0]) := by
  intro y0 σ H locs ls h hl hf
  unfold f_X7_hush_18 at hf
  have hx := C.1
  have hb := C.2.1
  refine lv_istore_n (lv' := [(1, .int y0), (0, .ref (G.1 0))]) hx hb dX7_hush_18 rfl hl (by decide) rfl (fun ls hl => ?_)
  refine lv_aload_n hx hb dX7_hush_19 rfl (lv_at hl 1 rfl) ?_
  refine gf_X7_28 C h (by decide) dX7_hush_20 ?_
  refine gf_X7_100 C h (by decide) dX7_hush_23 ?_
  refine lv_iconst (v := (-1)) hx hb dX7_hush_26 (by decide) ?_
  refine lv_iconst (v := (-1)) hx hb dX7_hush_27 (by decide) ?_
  refine lv_iconst (v := (-1)) hx hb dX7_hush_28 (by decide) ?_
  refine bv_el hf (fun σ5 ho6 hf => ?_)
  refine x_gov h (x_runV (As := [.int ((-1)), .int ((-1)), .int ((-1))]) (rest := []) C h (c_X1_makeNoise l D G 20 (by decide) ((-1)) ((-1)) ((-1)) σ σ5 ho6 _) lk_X7_181 rfl ⟨rfl, rfl, Nat.le_of_ble_eq_true rfl, Nat.le_of_ble_eq_true rfl⟩ (x_rcv C h 20 (lt_X1 (by decide)) ((oC_X1 G (by decide)) _ _) rfl) hl.1 rfl (Nat.le_of_ble_eq_true rfl) dX7_hush_29) (fun H locs h => ?_)
  refine lv_iload_n hx hb dX7_hush_32 rfl (lv_at hl 0 rfl) ?_
  exact x_iret C hr h hf dX7_hush_33
def f_X7_hush   (σ : St) : Option (Int32 × St) := bd (f_X1_isNoisy 20 σ) (fun r3 σ1 => if r3 = 0 then f_X7_hush_18 0 σ1 else f_X7_hush_18 1 σ1)
set_option maxHeartbeats 4000000 in
theorem c_X7_hush (l : Launch) (D : va_G) (G : Geo)    (σ : St) (o : Int32 × St) (hf : f_X7_hush   σ = some o) : CI l D (tyG G) (wC G) yX7_hush cX7_hush 2 ((some .int)) ({ frames := 2, cells := 0, slots := 0, locals := 47 }) [.ref (G.1 0)] σ o := by
  refine met_of (Qc := fun A => QI D (tyG G) (wC G) A o) pn_X7 (Nat.le_of_ble_eq_true rfl) (fun p e s m below meth c A ls C hr h hl => ?_)
  have C : Cx p s m _ meth c cX7_hush 2 RX7 D (tyG G) := C
  have hl : lv_has ls 2 [(0, .ref (G.1 0))] := hl
  unfold f_X7_hush at hf
  have hx := C.1
  have hb := C.2.1
  refine lv_aload_n hx hb dX7_hush_0 rfl (lv_at hl 0 rfl) ?_
  refine gf_X7_28 C h (by decide) dX7_hush_1 ?_
  refine gf_X7_100 C h (by decide) dX7_hush_4 ?_
  refine bd_el hf (fun r3 σ1 ho2 hf => ?_)
  refine x_goi h (x_runV (As := []) (rest := []) C h (c_X1_isNoisy l D G 20 (by decide) σ (r3, σ1) ho2 _) lk_X7_177 rfl ⟨rfl, rfl, Nat.le_of_ble_eq_true rfl, Nat.le_of_ble_eq_true rfl⟩ (x_rcv C h 20 (lt_X1 (by decide)) ((oC_X1 G (by decide)) _ _) rfl) hl.1 rfl (Nat.le_of_ble_eq_true rfl) dX7_hush_7) (fun H locs h => ?_)
  refine lv_if_eq (tgt := 17) hx hb dX7_hush_10 (by decide) (fun c4 => ?_) (fun c4 => ?_)
  · have hf := ifT c4 hf
    refine lv_iconst (v := 0) hx hb dX7_hush_17 (by decide) ?_
    exact t_X7_hush_18 C hr 0 σ1 _ _ _ h (lv_sub hl [0] rfl) hf
  · have hf := ifF c4 hf
    refine lv_iconst (v := 1) hx hb dX7_hush_13 (by decide) ?_
    refine lv_goto (tgt := 18) hx hb dX7_hush_14 (by decide) ?_
    exact t_X7_hush_18 C hr 1 σ1 _ _ _ h (lv_sub hl [0] rfl) hf
def f_X7_law  (x1 : Int32) (σ : St) : Option (Int32 × St) := if x1 < 0 then some ((-1000000002), σ) else if x1 ≤ 2 then nm (σ.1 20 5) (fun z3 => nm (sI σ 20 5 x1) (fun σ4 => some (z3, σ4))) else some ((-1000000002), σ)
set_option maxHeartbeats 4000000 in
theorem c_X7_law (l : Launch) (D : va_G) (G : Geo)   (x1 : Int32) (σ : St) (o : Int32 × St) (hf : f_X7_law  x1 σ = some o) : CI l D (tyG G) (wC G) yX7_law cX7_law 3 ((some .int)) ({ frames := 0, cells := 0, slots := 0, locals := 0 }) [.ref (G.1 0), .int x1] σ o := by
  refine met_of (Qc := fun A => QI D (tyG G) (wC G) A o) pn_X7 (Nat.le_of_ble_eq_true rfl) (fun p e s m below meth c A ls C hr h hl => ?_)
  have C : Cx p s m _ meth c cX7_law 3 RX7 D (tyG G) := C
  have hl : lv_has ls 3 [(0, .ref (G.1 0)), (1, .int x1)] := hl
  unfold f_X7_law at hf
  have hx := C.1
  have hb := C.2.1
  refine lv_iload_n hx hb dX7_law_0 rfl (lv_at hl 1 rfl) ?_
  refine lv_if_lt (tgt := 9) hx hb dX7_law_1 (by decide) (fun c1 => ?_) (fun c1 => ?_)
  · have hf := ifT c1 hf
    refine lv_ldc (v := (-1000000002)) hx hb C.2.2.2.1 (C.2.2.2.2.1 _ q154) dX7_law_9 ?_
    exact x_iret C hr h hf dX7_law_11
  · have hf := ifF c1 hf
    refine lv_iload_n hx hb dX7_law_4 rfl (lv_at hl 1 rfl) ?_
    refine lv_iconst (v := 2) hx hb dX7_law_5 (by decide) ?_
    refine lv_icmp_le (tgt := 12) hx hb dX7_law_6 (by decide) (fun c2 => ?_) (fun c2 => ?_)
    · have hf := ifT c2 hf
      refine lv_aload_n hx hb dX7_law_12 rfl (lv_at hl 0 rfl) ?_
      refine gf_X7_28 C h (by decide) dX7_law_13 ?_
      refine gf_X7_100 C h (by decide) dX7_law_16 ?_
      refine gf_X7_104 C h (by decide) dX7_law_19 ?_
      refine nm_el hf (fun z3 ez3 hf => ?_)
      refine x_topi ez3 ?_
      refine lv_istore_n (lv' := [(2, .int z3), (0, .ref (G.1 0)), (1, .int x1)]) hx hb dX7_law_22 rfl hl (by decide) rfl (fun ls hl => ?_)
      refine lv_aload_n hx hb dX7_law_23 rfl (lv_at hl 1 rfl) ?_
      refine gf_X7_28 C h (by decide) dX7_law_24 ?_
      refine gf_X7_100 C h (by decide) dX7_law_27 ?_
      refine lv_iload_n hx hb dX7_law_30 rfl (lv_at hl 2 rfl) ?_
      refine nm_el hf (fun σ4 hσ4 hf => ?_)
      refine pf_X7_104 C h (by decide) dX7_law_31 hσ4 (fun H locs h => ?_)
      refine lv_iload_n hx hb dX7_law_34 rfl (lv_at hl 0 rfl) ?_
      exact x_iret C hr h hf dX7_law_35
    · have hf := ifF c2 hf
      refine lv_ldc (v := (-1000000002)) hx hb C.2.2.2.1 (C.2.2.2.2.1 _ q154) dX7_law_9 ?_
      exact x_iret C hr h hf dX7_law_11
def b_X7_dawn_31   (rec31 : Int32 × Int32 × Int32 × St → Option (Int32 × St)) (x1 : Int32) (x2 : Int32) (x3 : Int32) (σ : St) : Option (Int32 × St) := if x1 ≤ x3 then some (x2, σ) else bd (f_X0_liveDay σ) (fun r7 σ5 => rec31 (x1, r7, x3 + 1, σ5))
def f_X7_dawn_31   (x1 : Int32) (x2 : Int32) (x3 : Int32) (σ : St) : Option (Int32 × St) := lp (fun (rec31 : Int32 × Int32 × Int32 × St → Option (Int32 × St)) (q : Int32 × Int32 × Int32 × St) => b_X7_dawn_31   rec31 (q.1) (q.2.1) (q.2.2.1) (q.2.2.2)) 100000 (x1, x2, x3, σ)
set_option maxHeartbeats 4000000 in
theorem t_X7_dawn_31 (C : Cx p s m args meth c cX7_dawn 4 RX7 D (tyG G)) (hr : meth.sig.returnType = (some .int)) {o : Int32 × St}   : ∀ (x1 : Int32) (x2 : Int32) (x3 : Int32) (σ : St) (H : Heap) (locs : List Loc) (ls : Array Slot), Hs D A s.heap (wC G σ) H locs → lv_has ls 4 [(0, .ref (G.1 0)), (1, .int x1), (2, .int x2), (3, .int x3)] → f_X7_dawn_31   x1 x2 x3 σ = some o → W p l e ({ frames := 3, cells := 0, slots := 0, locals := 66 } : Room) s m args below meth c H locs 0 0 (MQ below (QI D (tyG G) (wC G) A o) args s 0 0 A) (F0 m 31 ls []) := by
  intro x1 x2 x3 σ H locs ls h hl hf
  refine lp_el (P := fun q : Int32 × Int32 × Int32 × St => ∀ (H : Heap) (locs : List Loc) (ls : Array Slot), Hs D A s.heap (wC G (q.2.2.2)) H locs → lv_has ls 4 [(0, .ref (G.1 0)), (1, .int (q.1)), (2, .int (q.2.1)), (3, .int (q.2.2.1))] → W p l e ({ frames := 3, cells := 0, slots := 0, locals := 66 } : Room) s m args below meth c H locs 0 0 (MQ below (QI D (tyG G) (wC G) A o) args s 0 0 A) (F0 m 31 ls [])) (fun rec31 q IH31 hf => ?_) _ (x1, x2, x3, σ) hf H locs ls h hl
  obtain ⟨x1, x2, x3, σ⟩ := q
  intro H locs ls h hl
  have hl : lv_has ls 4 [(0, .ref (G.1 0)), (1, .int x1), (2, .int x2), (3, .int x3)] := hl
  have h : Hs D A s.heap (wC G σ) H locs := h
  have hf : b_X7_dawn_31   rec31 x1 x2 x3 σ = some o := hf
  unfold b_X7_dawn_31 at hf
  have hx := C.1
  have hb := C.2.1
  refine lv_iload_n hx hb dX7_dawn_31 rfl (lv_at hl 3 rfl) ?_
  refine lv_iload_n hx hb dX7_dawn_32 rfl (lv_at hl 1 rfl) ?_
  refine lv_icmp_ge (tgt := 50) hx hb dX7_dawn_33 (by decide) (fun c4 => ?_) (fun c4 => ?_)
  · have hf := ifT c4 hf
    refine lv_iload_n hx hb dX7_dawn_50 rfl (lv_at hl 2 rfl) ?_
    exact x_iret C hr h hf dX7_dawn_51
  · have hf := ifF c4 hf
    refine lv_aload_n hx hb dX7_dawn_36 rfl (lv_at hl 0 rfl) ?_
    refine gf_X7_28 C h (by decide) dX7_dawn_37 ?_
    refine bd_el hf (fun r7 σ5 ho6 hf => ?_)
    refine x_goi h (x_runV (As := []) (rest := []) C h (c_X0_liveDay l D G σ (r7, σ5) ho6 _) lk_X7_186 rfl ⟨rfl, rfl, Nat.le_of_ble_eq_true rfl, Nat.le_of_ble_eq_true rfl⟩ (x_rcv C h 19 (lt_X0 (by decide)) ((oC_X0 G (by decide)) _ _) rfl) hl.1 rfl (Nat.le_of_ble_eq_true rfl) dX7_dawn_40) (fun H locs h => ?_)
    refine lv_istore_n (lv' := [(2, .int r7), (0, .ref (G.1 0)), (1, .int x1), (3, .int x3)]) hx hb dX7_dawn_43 rfl hl (by decide) rfl (fun ls hl => ?_)
    refine lv_iinc (v := x3 + 1) (lv' := [(3, .int (x3 + 1)), (2, .int r7), (0, .ref (G.1 0)), (1, .int x1)]) hx hb dX7_dawn_44 hl (k := 3) rfl rfl (by decide) rfl (fun ls hl => ?_)
    refine lv_goto (tgt := 31) hx hb dX7_dawn_47 (by decide) ?_
    exact IH31 (x1, r7, x3 + 1, σ5) hf _ _ _ h (lv_sub hl [2, 3, 1, 0] rfl)
def f_X7_dawn  (x1 : Int32) (σ : St) : Option (Int32 × St) := if x1 < 1 then some ((-1000000002), σ) else if x1 ≤ 99 then if (σ.1 3 4) = 0 then some ((-1000000003), σ) else f_X7_dawn_31 x1 ((-1)) 0 σ else some ((-1000000002), σ)
set_option maxHeartbeats 4000000 in
theorem c_X7_dawn (l : Launch) (D : va_G) (G : Geo)   (x1 : Int32) (σ : St) (o : Int32 × St) (hf : f_X7_dawn  x1 σ = some o) : CI l D (tyG G) (wC G) yX7_dawn cX7_dawn 4 ((some .int)) ({ frames := 3, cells := 0, slots := 0, locals := 66 }) [.ref (G.1 0), .int x1] σ o := by
  refine met_of (Qc := fun A => QI D (tyG G) (wC G) A o) pn_X7 (Nat.le_of_ble_eq_true rfl) (fun p e s m below meth c A ls C hr h hl => ?_)
  have C : Cx p s m _ meth c cX7_dawn 4 RX7 D (tyG G) := C
  have hl : lv_has ls 4 [(0, .ref (G.1 0)), (1, .int x1)] := hl
  unfold f_X7_dawn at hf
  have hx := C.1
  have hb := C.2.1
  refine lv_iload_n hx hb dX7_dawn_0 rfl (lv_at hl 1 rfl) ?_
  refine lv_iconst (v := 1) hx hb dX7_dawn_1 (by decide) ?_
  refine lv_icmp_lt (tgt := 11) hx hb dX7_dawn_2 (by decide) (fun c1 => ?_) (fun c1 => ?_)
  · have hf := ifT c1 hf
    refine lv_ldc (v := (-1000000002)) hx hb C.2.2.2.1 (C.2.2.2.2.1 _ q154) dX7_dawn_11 ?_
    exact x_iret C hr h hf dX7_dawn_13
  · have hf := ifF c1 hf
    refine lv_iload_n hx hb dX7_dawn_5 rfl (lv_at hl 1 rfl) ?_
    refine lv_bipush (v := 99) hx hb dX7_dawn_6 (by decide) ?_
    refine lv_icmp_le (tgt := 14) hx hb dX7_dawn_8 (by decide) (fun c2 => ?_) (fun c2 => ?_)
    · have hf := ifT c2 hf
      refine lv_aload_n hx hb dX7_dawn_14 rfl (lv_at hl 0 rfl) ?_
      refine gf_X7_19 C h (by decide) dX7_dawn_15 ?_
      refine gf_X7_88 C h (by decide) dX7_dawn_18 ?_
      refine lv_if_ne (tgt := 27) hx hb dX7_dawn_21 (by decide) (fun c3 => ?_) (fun c3 => ?_)
      · have hf := ifF c3 hf
        refine lv_iconst (v := (-1)) hx hb dX7_dawn_27 (by decide) ?_
        refine lv_istore_n (lv' := [(2, .int ((-1))), (0, .ref (G.1 0)), (1, .int x1)]) hx hb dX7_dawn_28 rfl hl (by decide) rfl (fun ls hl => ?_)
        refine lv_iconst (v := 0) hx hb dX7_dawn_29 (by decide) ?_
        refine lv_istore_n (lv' := [(3, .int 0), (2, .int ((-1))), (0, .ref (G.1 0)), (1, .int x1)]) hx hb dX7_dawn_30 rfl hl (by decide) rfl (fun ls hl => ?_)
        exact t_X7_dawn_31 C hr x1 ((-1)) 0 σ _ _ _ h (lv_sub hl [2, 3, 1, 0] rfl) hf
      · have hf := ifT c3 hf
        refine lv_ldc (v := (-1000000003)) hx hb C.2.2.2.1 (C.2.2.2.2.1 _ q544) dX7_dawn_24 ?_
        exact x_iret C hr h hf dX7_dawn_26
    · have hf := ifF c2 hf
      refine lv_ldc (v := (-1000000002)) hx hb C.2.2.2.1 (C.2.2.2.2.1 _ q154) dX7_dawn_11 ?_
      exact x_iret C hr h hf dX7_dawn_13
def f_X7_ruler  (x1 : Int32) (x2 : Int32) (σ : St) : Option (Int32 × St) := if x2 < 0 then some ((-1000000002), σ) else if x2 ≤ 1 then if x1 < 0 then some ((-1), σ) else if x1 < (σ.1 19 6) then if x2 = 0 then rd (σ.1 27) 200 x1 (fun v7 => some (v7, σ)) else rd (σ.1 28) 200 x1 (fun v6 => some (v6, σ)) else some ((-1), σ) else some ((-1000000002), σ)
set_option maxHeartbeats 4000000 in
theorem c_X7_ruler (l : Launch) (D : va_G) (G : Geo)   (x1 : Int32) (x2 : Int32) (σ : St) (o : Int32 × St) (hf : f_X7_ruler  x1 x2 σ = some o) : CI l D (tyG G) (wC G) yX7_ruler cX7_ruler 3 ((some .int)) ({ frames := 0, cells := 0, slots := 0, locals := 0 }) [.ref (G.1 0), .int x1, .int x2] σ o := by
  refine met_of (Qc := fun A => QI D (tyG G) (wC G) A o) pn_X7 (Nat.le_of_ble_eq_true rfl) (fun p e s m below meth c A ls C hr h hl => ?_)
  have C : Cx p s m _ meth c cX7_ruler 3 RX7 D (tyG G) := C
  have hl : lv_has ls 3 [(0, .ref (G.1 0)), (1, .int x1), (2, .int x2)] := hl
  unfold f_X7_ruler at hf
  have hx := C.1
  have hb := C.2.1
  refine lv_iload_n hx hb dX7_ruler_0 rfl (lv_at hl 2 rfl) ?_
  refine lv_if_lt (tgt := 9) hx hb dX7_ruler_1 (by decide) (fun c1 => ?_) (fun c1 => ?_)
  · have hf := ifT c1 hf
    refine lv_ldc (v := (-1000000002)) hx hb C.2.2.2.1 (C.2.2.2.2.1 _ q154) dX7_ruler_9 ?_
    exact x_iret C hr h hf dX7_ruler_11
  · have hf := ifF c1 hf
    refine lv_iload_n hx hb dX7_ruler_4 rfl (lv_at hl 2 rfl) ?_
    refine lv_iconst (v := 1) hx hb dX7_ruler_5 (by decide) ?_
    refine lv_icmp_le (tgt := 12) hx hb dX7_ruler_6 (by decide) (fun c2 => ?_) (fun c2 => ?_)
    · have hf := ifT c2 hf
      refine lv_iload_n hx hb dX7_ruler_12 rfl (lv_at hl 1 rfl) ?_
      refine lv_if_lt (tgt := 27) hx hb dX7_ruler_13 (by decide) (fun c3 => ?_) (fun c3 => ?_)
      · have hf := ifT c3 hf
        refine lv_iconst (v := (-1)) hx hb dX7_ruler_27 (by decide) ?_
        exact x_iret C hr h hf dX7_ruler_28
      · have hf := ifF c3 hf
        refine lv_iload_n hx hb dX7_ruler_16 rfl (lv_at hl 1 rfl) ?_
        refine lv_aload_n hx hb dX7_ruler_17 rfl (lv_at hl 0 rfl) ?_
        refine gf_X7_28 C h (by decide) dX7_ruler_18 ?_
        refine gf_X7_118 C h (by decide) dX7_ruler_21 ?_
        refine lv_icmp_lt (tgt := 29) hx hb dX7_ruler_24 (by decide) (fun c4 => ?_) (fun c4 => ?_)
        · have hf := ifT c4 hf
          refine lv_iload_n hx hb dX7_ruler_29 rfl (lv_at hl 2 rfl) ?_
          refine lv_if_ne (tgt := 45) hx hb dX7_ruler_30 (by decide) (fun c5 => ?_) (fun c5 => ?_)
          · have hf := ifF c5 hf
            refine lv_aload_n hx hb dX7_ruler_45 rfl (lv_at hl 0 rfl) ?_
            refine gf_X7_28 C h (by decide) dX7_ruler_46 ?_
            refine gf_X7_192 C h (by decide) dX7_ruler_49 ?_
            refine lv_iload_n hx hb dX7_ruler_52 rfl (lv_at hl 1 rfl) ?_
            refine rd_el hf (fun v6 hinv6 hv6 hf => ?_)
            refine x_iald C h 28 1 (ltA_X0_minutes (by decide)) ((aC_X0_minutes G (by decide)) _ _) rfl hinv6 hv6 dX7_ruler_53 ?_
            exact x_iret C hr h hf dX7_ruler_54
          · have hf := ifT c5 hf
            refine lv_aload_n hx hb dX7_ruler_33 rfl (lv_at hl 0 rfl) ?_
            refine gf_X7_28 C h (by decide) dX7_ruler_34 ?_
            refine gf_X7_189 C h (by decide) dX7_ruler_37 ?_
            refine lv_iload_n hx hb dX7_ruler_40 rfl (lv_at hl 1 rfl) ?_
            refine rd_el hf (fun v7 hinv7 hv7 hf => ?_)
            refine x_iald C h 27 1 (ltA_X0_rulers (by decide)) ((aC_X0_rulers G (by decide)) _ _) rfl hinv7 hv7 dX7_ruler_41 ?_
            refine lv_goto (tgt := 54) hx hb dX7_ruler_42 (by decide) ?_
            exact x_iret C hr h hf dX7_ruler_54
        · have hf := ifF c4 hf
          refine lv_iconst (v := (-1)) hx hb dX7_ruler_27 (by decide) ?_
          exact x_iret C hr h hf dX7_ruler_28
    · have hf := ifF c2 hf
      refine lv_ldc (v := (-1000000002)) hx hb C.2.2.2.1 (C.2.2.2.2.1 _ q154) dX7_ruler_9 ?_
      exact x_iret C hr h hf dX7_ruler_11
def f_X7_odds  (x1 : Int32) (σ : St) : Option (Int32 × St) := bd (f_X5_hasSleeper x1 σ) (fun r3 σ1 => if r3 = 0 then some ((-1000000001), σ1) else bd (f_X1_oddsOf 20 x1 σ1) (fun r7 σ5 => some (r7, σ5)))
set_option maxHeartbeats 4000000 in
theorem c_X7_odds (l : Launch) (D : va_G) (G : Geo)   (x1 : Int32) (σ : St) (o : Int32 × St) (hf : f_X7_odds  x1 σ = some o) : CI l D (tyG G) (wC G) yX7_odds cX7_odds 2 ((some .int)) ({ frames := 2, cells := 0, slots := 0, locals := 53 }) [.ref (G.1 0), .int x1] σ o := by
  refine met_of (Qc := fun A => QI D (tyG G) (wC G) A o) pn_X7 (Nat.le_of_ble_eq_true rfl) (fun p e s m below meth c A ls C hr h hl => ?_)
  have C : Cx p s m _ meth c cX7_odds 2 RX7 D (tyG G) := C
  have hl : lv_has ls 2 [(0, .ref (G.1 0)), (1, .int x1)] := hl
  unfold f_X7_odds at hf
  have hx := C.1
  have hb := C.2.1
  refine lv_aload_n hx hb dX7_odds_0 rfl (lv_at hl 0 rfl) ?_
  refine gf_X7_19 C h (by decide) dX7_odds_1 ?_
  refine lv_iload_n hx hb dX7_odds_4 rfl (lv_at hl 1 rfl) ?_
  refine bd_el hf (fun r3 σ1 ho2 hf => ?_)
  refine x_goi h (x_runV (As := [.int x1]) (rest := []) C h (c_X5_hasSleeper l D G x1 σ (r3, σ1) ho2 _) lk_X7_149 rfl ⟨rfl, rfl, Nat.le_of_ble_eq_true rfl, Nat.le_of_ble_eq_true rfl⟩ (x_rcv C h 3 (lt_X5 (by decide)) ((oC_X5 G (by decide)) _ _) rfl) hl.1 rfl (Nat.le_of_ble_eq_true rfl) dX7_odds_5) (fun H locs h => ?_)
  refine lv_if_eq (tgt := 25) hx hb dX7_odds_8 (by decide) (fun c4 => ?_) (fun c4 => ?_)
  · have hf := ifT c4 hf
    refine lv_ldc (v := (-1000000001)) hx hb C.2.2.2.1 (C.2.2.2.2.1 _ q416) dX7_odds_25 ?_
    exact x_iret C hr h hf dX7_odds_27
  · have hf := ifF c4 hf
    refine lv_aload_n hx hb dX7_odds_11 rfl (lv_at hl 0 rfl) ?_
    refine gf_X7_28 C h (by decide) dX7_odds_12 ?_
    refine gf_X7_100 C h (by decide) dX7_odds_15 ?_
    refine lv_iload_n hx hb dX7_odds_18 rfl (lv_at hl 1 rfl) ?_
    refine bd_el hf (fun r7 σ5 ho6 hf => ?_)
    refine x_goi h (x_runV (As := [.int x1]) (rest := []) C h (c_X1_oddsOf l D G 20 (by decide) x1 σ1 (r7, σ5) ho6 _) lk_X7_195 rfl ⟨rfl, rfl, Nat.le_of_ble_eq_true rfl, Nat.le_of_ble_eq_true rfl⟩ (x_rcv C h 20 (lt_X1 (by decide)) ((oC_X1 G (by decide)) _ _) rfl) hl.1 rfl (Nat.le_of_ble_eq_true rfl) dX7_odds_19) (fun H locs h => ?_)
    refine lv_goto (tgt := 27) hx hb dX7_odds_22 (by decide) ?_
    exact x_iret C hr h hf dX7_odds_27
def f_X7_together_22   (x1 : Int32) (y0 : Int32) (σ : St) : Option (Int32 × St) := if y0 = 0 then some ((-1000000001), σ) else bd (f_X1_oddsOfHouses 20 x1 σ) (fun r6 σ4 => some (r6, σ4))
set_option maxHeartbeats 4000000 in
theorem t_X7_together_22 (C : Cx p s m args meth c cX7_together 3 RX7 D (tyG G)) (hr : meth.sig.returnType = (some .int)) {o : Int32 × St}   : ∀ (x1 : Int32) (y0 : Int32) (σ : St) (H : Heap) (locs : List Loc) (ls : Array Slot), Hs D A s.heap (wC G σ) H locs → lv_has ls 3 [(0, .ref (G.1 0)), (1, .int x1)] → f_X7_together_22   x1 y0 σ = some o → W p l e ({ frames := 3, cells := 0, slots := 0, locals := 76 } : Room) s m args below meth c H locs 0 0 (MQ below (QI D (tyG G) (wC G) A o) args s 0 0 A) (F0 m 22 ls [.int y0]) := by
  intro x1 y0 σ H locs ls h hl hf
  unfold f_X7_together_22 at hf
  have hx := C.1
  have hb := C.2.1
  refine lv_istore_n (lv' := [(2, .int y0), (0, .ref (G.1 0)), (1, .int x1)]) hx hb dX7_together_22 rfl hl (by decide) rfl (fun ls hl => ?_)
  refine lv_iload_n hx hb dX7_together_23 rfl (lv_at hl 0 rfl) ?_
  refine lv_if_eq (tgt := 41) hx hb dX7_together_24 (by decide) (fun c3 => ?_) (fun c3 => ?_)
  · have hf := ifT c3 hf
    refine lv_ldc (v := (-1000000001)) hx hb C.2.2.2.1 (C.2.2.2.2.1 _ q416) dX7_together_41 ?_
    exact x_iret C hr h hf dX7_together_43
  · have hf := ifF c3 hf
    refine lv_aload_n hx hb dX7_together_27 rfl (lv_at hl 1 rfl) ?_
    refine gf_X7_28 C h (by decide) dX7_together_28 ?_
    refine gf_X7_100 C h (by decide) dX7_together_31 ?_
    refine lv_iload_n hx hb dX7_together_34 rfl (lv_at hl 2 rfl) ?_
    refine bd_el hf (fun r6 σ4 ho5 hf => ?_)
    refine x_goi h (x_runV (As := [.int x1]) (rest := []) C h (c_X1_oddsOfHouses l D G 20 (by decide) x1 σ (r6, σ4) ho5 _) lk_X7_198 rfl ⟨rfl, rfl, Nat.le_of_ble_eq_true rfl, Nat.le_of_ble_eq_true rfl⟩ (x_rcv C h 20 (lt_X1 (by decide)) ((oC_X1 G (by decide)) _ _) rfl) hl.1 rfl (Nat.le_of_ble_eq_true rfl) dX7_together_35) (fun H locs h => ?_)
    refine lv_goto (tgt := 43) hx hb dX7_together_38 (by decide) ?_
    exact x_iret C hr h hf dX7_together_43
def f_X7_together_21   (x1 : Int32) (σ : St) : Option (Int32 × St) := f_X7_together_22 x1 0 σ
set_option maxHeartbeats 4000000 in
theorem t_X7_together_21 (C : Cx p s m args meth c cX7_together 3 RX7 D (tyG G)) (hr : meth.sig.returnType = (some .int)) {o : Int32 × St}   : ∀ (x1 : Int32) (σ : St) (H : Heap) (locs : List Loc) (ls : Array Slot), Hs D A s.heap (wC G σ) H locs → lv_has ls 3 [(0, .ref (G.1 0)), (1, .int x1)] → f_X7_together_21   x1 σ = some o → W p l e ({ frames := 3, cells := 0, slots := 0, locals := 76 } : Room) s m args below meth c H locs 0 0 (MQ below (QI D (tyG G) (wC G) A o) args s 0 0 A) (F0 m 21 ls []) := by
  intro x1 σ H locs ls h hl hf
  unfold f_X7_together_21 at hf
  have hx := C.1
  have hb := C.2.1
  refine lv_iconst (v := 0) hx hb dX7_together_21 (by decide) ?_
  exact t_X7_together_22 C hr x1 0 σ _ _ _ h (lv_sub hl [0, 1] rfl) hf
def f_X7_together  (x1 : Int32) (σ : St) : Option (Int32 × St) := if x1 < 0 then f_X7_together_21 x1 σ else if ((1 : Int32) <<< ((σ.1 3 0) &&& 31)) ≤ x1 then f_X7_together_21 x1 σ else f_X7_together_22 x1 1 σ
set_option maxHeartbeats 4000000 in
theorem c_X7_together (l : Launch) (D : va_G) (G : Geo)   (x1 : Int32) (σ : St) (o : Int32 × St) (hf : f_X7_together  x1 σ = some o) : CI l D (tyG G) (wC G) yX7_together cX7_together 3 ((some .int)) ({ frames := 3, cells := 0, slots := 0, locals := 76 }) [.ref (G.1 0), .int x1] σ o := by
  refine met_of (Qc := fun A => QI D (tyG G) (wC G) A o) pn_X7 (Nat.le_of_ble_eq_true rfl) (fun p e s m below meth c A ls C hr h hl => ?_)
  have C : Cx p s m _ meth c cX7_together 3 RX7 D (tyG G) := C
  have hl : lv_has ls 3 [(0, .ref (G.1 0)), (1, .int x1)] := hl
  unfold f_X7_together at hf
  have hx := C.1
  have hb := C.2.1
  refine lv_iload_n hx hb dX7_together_0 rfl (lv_at hl 1 rfl) ?_
  refine lv_if_lt (tgt := 21) hx hb dX7_together_1 (by decide) (fun c1 => ?_) (fun c1 => ?_)
  · have hf := ifT c1 hf
    exact t_X7_together_21 C hr x1 σ _ _ _ h (lv_sub hl [0, 1] rfl) hf
  · have hf := ifF c1 hf
    refine lv_iload_n hx hb dX7_together_4 rfl (lv_at hl 1 rfl) ?_
    refine lv_iconst (v := 1) hx hb dX7_together_5 (by decide) ?_
    refine lv_aload_n hx hb dX7_together_6 rfl (lv_at hl 0 rfl) ?_
    refine gf_X7_19 C h (by decide) dX7_together_7 ?_
    refine gf_X7_94 C h (by decide) dX7_together_10 ?_
    refine lv_ishl hx hb dX7_together_13 ?_
    refine lv_icmp_ge (tgt := 21) hx hb dX7_together_14 (by decide) (fun c2 => ?_) (fun c2 => ?_)
    · have hf := ifT c2 hf
      exact t_X7_together_21 C hr x1 σ _ _ _ h (lv_sub hl [0, 1] rfl) hf
    · have hf := ifF c2 hf
      refine lv_iconst (v := 1) hx hb dX7_together_17 (by decide) ?_
      refine lv_goto (tgt := 22) hx hb dX7_together_18 (by decide) ?_
      exact t_X7_together_22 C hr x1 1 σ _ _ _ h (lv_sub hl [0, 1] rfl) hf
def f_X7_best  (x1 : Int32) (x2 : Int32) (σ : St) : Option (Int32 × St) := bd (f_X5_hasHouse x1 σ) (fun r3 σ1 => if r3 = 0 then some ((-1000000001), σ1) else if x2 < 0 then some ((-1000000002), σ1) else if x2 ≤ 1 then bd (f_X5_sleepersOf x1 σ1) (fun r9 σ7 => if r9 = 0 then some ((-1000000003), σ7) else bv (f_X2_seekShift 20 x1 σ7) (fun σ11 => if x2 = 0 then some (σ11.1 60 4, σ11) else some (σ11.1 60 6, σ11))) else some ((-1000000002), σ1))
set_option maxHeartbeats 4000000 in
theorem c_X7_best (l : Launch) (D : va_G) (G : Geo)   (x1 : Int32) (x2 : Int32) (σ : St) (o : Int32 × St) (hf : f_X7_best  x1 x2 σ = some o) : CI l D (tyG G) (wC G) yX7_best cX7_best 3 ((some .int)) ({ frames := 4, cells := 0, slots := 0, locals := 104 }) [.ref (G.1 0), .int x1, .int x2] σ o := by
  refine met_of (Qc := fun A => QI D (tyG G) (wC G) A o) pn_X7 (Nat.le_of_ble_eq_true rfl) (fun p e s m below meth c A ls C hr h hl => ?_)
  have C : Cx p s m _ meth c cX7_best 3 RX7 D (tyG G) := C
  have hl : lv_has ls 3 [(0, .ref (G.1 0)), (1, .int x1), (2, .int x2)] := hl
  unfold f_X7_best at hf
  have hx := C.1
  have hb := C.2.1
  refine lv_aload_n hx hb dX7_best_0 rfl (lv_at hl 0 rfl) ?_
  refine gf_X7_19 C h (by decide) dX7_best_1 ?_
  refine lv_iload_n hx hb dX7_best_4 rfl (lv_at hl 1 rfl) ?_
  refine bd_el hf (fun r3 σ1 ho2 hf => ?_)
  refine x_goi h (x_runV (As := [.int x1]) (rest := []) C h (c_X5_hasHouse l D G x1 σ (r3, σ1) ho2 _) lk_X7_124 rfl ⟨rfl, rfl, Nat.le_of_ble_eq_true rfl, Nat.le_of_ble_eq_true rfl⟩ (x_rcv C h 3 (lt_X5 (by decide)) ((oC_X5 G (by decide)) _ _) rfl) hl.1 rfl (Nat.le_of_ble_eq_true rfl) dX7_best_5) (fun H locs h => ?_)
  refine lv_if_ne (tgt := 14) hx hb dX7_best_8 (by decide) (fun c4 => ?_) (fun c4 => ?_)
  · have hf := ifF c4 hf
    refine lv_iload_n hx hb dX7_best_14 rfl (lv_at hl 2 rfl) ?_
    refine lv_if_lt (tgt := 23) hx hb dX7_best_15 (by decide) (fun c5 => ?_) (fun c5 => ?_)
    · have hf := ifT c5 hf
      refine lv_ldc (v := (-1000000002)) hx hb C.2.2.2.1 (C.2.2.2.2.1 _ q154) dX7_best_23 ?_
      exact x_iret C hr h hf dX7_best_25
    · have hf := ifF c5 hf
      refine lv_iload_n hx hb dX7_best_18 rfl (lv_at hl 2 rfl) ?_
      refine lv_iconst (v := 1) hx hb dX7_best_19 (by decide) ?_
      refine lv_icmp_le (tgt := 26) hx hb dX7_best_20 (by decide) (fun c6 => ?_) (fun c6 => ?_)
      · have hf := ifT c6 hf
        refine lv_aload_n hx hb dX7_best_26 rfl (lv_at hl 0 rfl) ?_
        refine gf_X7_19 C h (by decide) dX7_best_27 ?_
        refine lv_iload_n hx hb dX7_best_30 rfl (lv_at hl 1 rfl) ?_
        refine bd_el hf (fun r9 σ7 ho8 hf => ?_)
        refine x_goi h (x_runV (As := [.int x1]) (rest := []) C h (c_X5_sleepersOf l D G x1 σ1 (r9, σ7) ho8 _) lk_X7_145 rfl ⟨rfl, rfl, Nat.le_of_ble_eq_true rfl, Nat.le_of_ble_eq_true rfl⟩ (x_rcv C h 3 (lt_X5 (by decide)) ((oC_X5 G (by decide)) _ _) rfl) hl.1 rfl (Nat.le_of_ble_eq_true rfl) dX7_best_31) (fun H locs h => ?_)
        refine lv_if_ne (tgt := 40) hx hb dX7_best_34 (by decide) (fun c10 => ?_) (fun c10 => ?_)
        · have hf := ifF c10 hf
          refine lv_aload_n hx hb dX7_best_40 rfl (lv_at hl 0 rfl) ?_
          refine gf_X7_48 C h (by decide) dX7_best_41 ?_
          refine lv_aload_n hx hb dX7_best_44 rfl (lv_at hl 0 rfl) ?_
          refine gf_X7_28 C h (by decide) dX7_best_45 ?_
          refine gf_X7_100 C h (by decide) dX7_best_48 ?_
          refine lv_iload_n hx hb dX7_best_51 rfl (lv_at hl 1 rfl) ?_
          refine bv_el hf (fun σ11 ho12 hf => ?_)
          refine x_gov h (x_runV (As := [.ref (G.1 20), .int x1]) (rest := []) C h (c_X2_seekShift l D G 20 (by decide) x1 σ7 σ11 ho12 _) lk_X7_201 rfl ⟨rfl, rfl, Nat.le_of_ble_eq_true rfl, Nat.le_of_ble_eq_true rfl⟩ (x_rcv C h 60 (lt_X2 (by decide)) ((oC_X2 G (by decide)) _ _) rfl) hl.1 rfl (Nat.le_of_ble_eq_true rfl) dX7_best_52) (fun H locs h => ?_)
          refine lv_iload_n hx hb dX7_best_55 rfl (lv_at hl 2 rfl) ?_
          refine lv_if_ne (tgt := 69) hx hb dX7_best_56 (by decide) (fun c13 => ?_) (fun c13 => ?_)
          · have hf := ifF c13 hf
            refine lv_aload_n hx hb dX7_best_69 rfl (lv_at hl 0 rfl) ?_
            refine gf_X7_48 C h (by decide) dX7_best_70 ?_
            refine gf_X7_208 C h (by decide) dX7_best_73 ?_
            exact x_iret C hr h hf dX7_best_76
          · have hf := ifT c13 hf
            refine lv_aload_n hx hb dX7_best_59 rfl (lv_at hl 0 rfl) ?_
            refine gf_X7_48 C h (by decide) dX7_best_60 ?_
            refine gf_X7_205 C h (by decide) dX7_best_63 ?_
            refine lv_goto (tgt := 76) hx hb dX7_best_66 (by decide) ?_
            exact x_iret C hr h hf dX7_best_76
        · have hf := ifT c10 hf
          refine lv_ldc (v := (-1000000003)) hx hb C.2.2.2.1 (C.2.2.2.2.1 _ q544) dX7_best_37 ?_
          exact x_iret C hr h hf dX7_best_39
      · have hf := ifF c6 hf
        refine lv_ldc (v := (-1000000002)) hx hb C.2.2.2.1 (C.2.2.2.2.1 _ q154) dX7_best_23 ?_
        exact x_iret C hr h hf dX7_best_25
  · have hf := ifT c4 hf
    refine lv_ldc (v := (-1000000001)) hx hb C.2.2.2.1 (C.2.2.2.2.1 _ q416) dX7_best_11 ?_
    exact x_iret C hr h hf dX7_best_13
def f_X7_rests_19   (x1 : Int32) (σ : St) : Option (Int32 × St) := bd (f_X2_settle σ) (fun r8 σ6 => if x1 = ((-1)) then some (r8, σ6) else if r8 = ((-1)) then some (r8, σ6) else bd (f_X2_settledShift x1 σ6) (fun r13 σ11 => some (r13, σ11)))
set_option maxHeartbeats 4000000 in
theorem t_X7_rests_19 (C : Cx p s m args meth c cX7_rests 3 RX7 D (tyG G)) (hr : meth.sig.returnType = (some .int)) {o : Int32 × St}   : ∀ (x1 : Int32) (σ : St) (H : Heap) (locs : List Loc) (ls : Array Slot), Hs D A s.heap (wC G σ) H locs → lv_has ls 3 [(0, .ref (G.1 0)), (1, .int x1)] → f_X7_rests_19   x1 σ = some o → W p l e ({ frames := 6, cells := 0, slots := 0, locals := 148 } : Room) s m args below meth c H locs 0 0 (MQ below (QI D (tyG G) (wC G) A o) args s 0 0 A) (F0 m 19 ls []) := by
  intro x1 σ H locs ls h hl hf
  unfold f_X7_rests_19 at hf
  have hx := C.1
  have hb := C.2.1
  refine lv_aload_n hx hb dX7_rests_19 rfl (lv_at hl 0 rfl) ?_
  refine gf_X7_48 C h (by decide) dX7_rests_20 ?_
  refine lv_aload_n hx hb dX7_rests_23 rfl (lv_at hl 0 rfl) ?_
  refine gf_X7_28 C h (by decide) dX7_rests_24 ?_
  refine gf_X7_100 C h (by decide) dX7_rests_27 ?_
  refine bd_el hf (fun r8 σ6 ho7 hf => ?_)
  refine x_goi h (x_runV (As := [.ref (G.1 20)]) (rest := []) C h (c_X2_settle l D G σ (r8, σ6) ho7 _) lk_X7_211 rfl ⟨rfl, rfl, Nat.le_of_ble_eq_true rfl, Nat.le_of_ble_eq_true rfl⟩ (x_rcv C h 60 (lt_X2 (by decide)) ((oC_X2 G (by decide)) _ _) rfl) hl.1 rfl (Nat.le_of_ble_eq_true rfl) dX7_rests_30) (fun H locs h => ?_)
  refine lv_istore_n (lv' := [(2, .int r8), (0, .ref (G.1 0)), (1, .int x1)]) hx hb dX7_rests_33 rfl hl (by decide) rfl (fun ls hl => ?_)
  refine lv_iload_n hx hb dX7_rests_34 rfl (lv_at hl 2 rfl) ?_
  refine lv_iconst (v := (-1)) hx hb dX7_rests_35 (by decide) ?_
  refine lv_icmp_eq (tgt := 44) hx hb dX7_rests_36 (by decide) (fun c9 => ?_) (fun c9 => ?_)
  · have hf := ifT c9 hf
    refine lv_iload_n hx hb dX7_rests_44 rfl (lv_at hl 0 rfl) ?_
    exact x_iret C hr h hf dX7_rests_45
  · have hf := ifF c9 hf
    refine lv_iload_n hx hb dX7_rests_39 rfl (lv_at hl 0 rfl) ?_
    refine lv_iconst (v := (-1)) hx hb dX7_rests_40 (by decide) ?_
    refine lv_icmp_ne (tgt := 46) hx hb dX7_rests_41 (by decide) (fun c10 => ?_) (fun c10 => ?_)
    · have hf := ifF c10 hf
      refine lv_aload_n hx hb dX7_rests_46 rfl (lv_at hl 1 rfl) ?_
      refine gf_X7_48 C h (by decide) dX7_rests_47 ?_
      refine lv_iload_n hx hb dX7_rests_50 rfl (lv_at hl 2 rfl) ?_
      refine bd_el hf (fun r13 σ11 ho12 hf => ?_)
      refine x_goi h (x_runV (As := [.int x1]) (rest := []) C h (c_X2_settledShift l D G x1 σ6 (r13, σ11) ho12 _) lk_X7_215 rfl ⟨rfl, rfl, Nat.le_of_ble_eq_true rfl, Nat.le_of_ble_eq_true rfl⟩ (x_rcv C h 60 (lt_X2 (by decide)) ((oC_X2 G (by decide)) _ _) rfl) hl.1 rfl (Nat.le_of_ble_eq_true rfl) dX7_rests_51) (fun H locs h => ?_)
      exact x_iret C hr h hf dX7_rests_54
    · have hf := ifT c10 hf
      refine lv_iload_n hx hb dX7_rests_44 rfl (lv_at hl 0 rfl) ?_
      exact x_iret C hr h hf dX7_rests_45
def f_X7_rests  (x1 : Int32) (σ : St) : Option (Int32 × St) := if x1 = ((-1)) then f_X7_rests_19 x1 σ else bd (f_X5_hasHouse x1 σ) (fun r4 σ2 => if r4 = 0 then some ((-1000000001), σ2) else f_X7_rests_19 x1 σ2)
set_option maxHeartbeats 4000000 in
theorem c_X7_rests (l : Launch) (D : va_G) (G : Geo)   (x1 : Int32) (σ : St) (o : Int32 × St) (hf : f_X7_rests  x1 σ = some o) : CI l D (tyG G) (wC G) yX7_rests cX7_rests 3 ((some .int)) ({ frames := 6, cells := 0, slots := 0, locals := 148 }) [.ref (G.1 0), .int x1] σ o := by
  refine met_of (Qc := fun A => QI D (tyG G) (wC G) A o) pn_X7 (Nat.le_of_ble_eq_true rfl) (fun p e s m below meth c A ls C hr h hl => ?_)
  have C : Cx p s m _ meth c cX7_rests 3 RX7 D (tyG G) := C
  have hl : lv_has ls 3 [(0, .ref (G.1 0)), (1, .int x1)] := hl
  unfold f_X7_rests at hf
  have hx := C.1
  have hb := C.2.1
  refine lv_iload_n hx hb dX7_rests_0 rfl (lv_at hl 1 rfl) ?_
  refine lv_iconst (v := (-1)) hx hb dX7_rests_1 (by decide) ?_
  refine lv_icmp_eq (tgt := 19) hx hb dX7_rests_2 (by decide) (fun c1 => ?_) (fun c1 => ?_)
  · have hf := ifT c1 hf
    exact t_X7_rests_19 C hr x1 σ _ _ _ h (lv_sub hl [0, 1] rfl) hf
  · have hf := ifF c1 hf
    refine lv_aload_n hx hb dX7_rests_5 rfl (lv_at hl 0 rfl) ?_
    refine gf_X7_19 C h (by decide) dX7_rests_6 ?_
    refine lv_iload_n hx hb dX7_rests_9 rfl (lv_at hl 1 rfl) ?_
    refine bd_el hf (fun r4 σ2 ho3 hf => ?_)
    refine x_goi h (x_runV (As := [.int x1]) (rest := []) C h (c_X5_hasHouse l D G x1 σ (r4, σ2) ho3 _) lk_X7_124 rfl ⟨rfl, rfl, Nat.le_of_ble_eq_true rfl, Nat.le_of_ble_eq_true rfl⟩ (x_rcv C h 3 (lt_X5 (by decide)) ((oC_X5 G (by decide)) _ _) rfl) hl.1 rfl (Nat.le_of_ble_eq_true rfl) dX7_rests_10) (fun H locs h => ?_)
    refine lv_if_ne (tgt := 19) hx hb dX7_rests_13 (by decide) (fun c5 => ?_) (fun c5 => ?_)
    · have hf := ifF c5 hf
      exact t_X7_rests_19 C hr x1 σ2 _ _ _ h (lv_sub hl [0, 1] rfl) hf
    · have hf := ifT c5 hf
      refine lv_ldc (v := (-1000000001)) hx hb C.2.2.2.1 (C.2.2.2.2.1 _ q416) dX7_rests_16 ?_
      exact x_iret C hr h hf dX7_rests_18
def f_X7_loud  (x1 : Int32) (x2 : Int32) (σ : St) : Option (Int32 × St) := bd (f_X5_hasHouse x1 σ) (fun r3 σ1 => if r3 = 0 then some ((-1000000001), σ1) else if x2 < 0 then some ((-1000000002), σ1) else if x2 ≤ 2 then if x2 = 0 then some (60, σ1) else bv (f_X2_seekNoise x1 σ1) (fun σ8 => if x2 = 1 then some (σ8.1 60 5, σ8) else some (σ8.1 60 6, σ8)) else some ((-1000000002), σ1))
set_option maxHeartbeats 4000000 in
theorem c_X7_loud (l : Launch) (D : va_G) (G : Geo)   (x1 : Int32) (x2 : Int32) (σ : St) (o : Int32 × St) (hf : f_X7_loud  x1 x2 σ = some o) : CI l D (tyG G) (wC G) yX7_loud cX7_loud 3 ((some .int)) ({ frames := 4, cells := 0, slots := 0, locals := 100 }) [.ref (G.1 0), .int x1, .int x2] σ o := by
  refine met_of (Qc := fun A => QI D (tyG G) (wC G) A o) pn_X7 (Nat.le_of_ble_eq_true rfl) (fun p e s m below meth c A ls C hr h hl => ?_)
  have C : Cx p s m _ meth c cX7_loud 3 RX7 D (tyG G) := C
  have hl : lv_has ls 3 [(0, .ref (G.1 0)), (1, .int x1), (2, .int x2)] := hl
  unfold f_X7_loud at hf
  have hx := C.1
  have hb := C.2.1
  refine lv_aload_n hx hb dX7_loud_0 rfl (lv_at hl 0 rfl) ?_
  refine gf_X7_19 C h (by decide) dX7_loud_1 ?_
  refine lv_iload_n hx hb dX7_loud_4 rfl (lv_at hl 1 rfl) ?_
  refine bd_el hf (fun r3 σ1 ho2 hf => ?_)
  refine x_goi h (x_runV (As := [.int x1]) (rest := []) C h (c_X5_hasHouse l D G x1 σ (r3, σ1) ho2 _) lk_X7_124 rfl ⟨rfl, rfl, Nat.le_of_ble_eq_true rfl, Nat.le_of_ble_eq_true rfl⟩ (x_rcv C h 3 (lt_X5 (by decide)) ((oC_X5 G (by decide)) _ _) rfl) hl.1 rfl (Nat.le_of_ble_eq_true rfl) dX7_loud_5) (fun H locs h => ?_)
  refine lv_if_ne (tgt := 14) hx hb dX7_loud_8 (by decide) (fun c4 => ?_) (fun c4 => ?_)
  · have hf := ifF c4 hf
    refine lv_iload_n hx hb dX7_loud_14 rfl (lv_at hl 2 rfl) ?_
    refine lv_if_lt (tgt := 23) hx hb dX7_loud_15 (by decide) (fun c5 => ?_) (fun c5 => ?_)
    · have hf := ifT c5 hf
      refine lv_ldc (v := (-1000000002)) hx hb C.2.2.2.1 (C.2.2.2.2.1 _ q154) dX7_loud_23 ?_
      exact x_iret C hr h hf dX7_loud_25
    · have hf := ifF c5 hf
      refine lv_iload_n hx hb dX7_loud_18 rfl (lv_at hl 2 rfl) ?_
      refine lv_iconst (v := 2) hx hb dX7_loud_19 (by decide) ?_
      refine lv_icmp_le (tgt := 26) hx hb dX7_loud_20 (by decide) (fun c6 => ?_) (fun c6 => ?_)
      · have hf := ifT c6 hf
        refine lv_iload_n hx hb dX7_loud_26 rfl (lv_at hl 2 rfl) ?_
        refine lv_if_ne (tgt := 33) hx hb dX7_loud_27 (by decide) (fun c7 => ?_) (fun c7 => ?_)
        · have hf := ifF c7 hf
          refine lv_aload_n hx hb dX7_loud_33 rfl (lv_at hl 0 rfl) ?_
          refine gf_X7_48 C h (by decide) dX7_loud_34 ?_
          refine lv_aload_n hx hb dX7_loud_37 rfl (lv_at hl 0 rfl) ?_
          refine gf_X7_28 C h (by decide) dX7_loud_38 ?_
          refine gf_X7_100 C h (by decide) dX7_loud_41 ?_
          refine lv_iload_n hx hb dX7_loud_44 rfl (lv_at hl 1 rfl) ?_
          refine bv_el hf (fun σ8 ho9 hf => ?_)
          refine x_gov h (x_runV (As := [.ref (G.1 20), .int x1]) (rest := []) C h (c_X2_seekNoise l D G x1 σ1 σ8 ho9 _) lk_X7_218 rfl ⟨rfl, rfl, Nat.le_of_ble_eq_true rfl, Nat.le_of_ble_eq_true rfl⟩ (x_rcv C h 60 (lt_X2 (by decide)) ((oC_X2 G (by decide)) _ _) rfl) hl.1 rfl (Nat.le_of_ble_eq_true rfl) dX7_loud_45) (fun H locs h => ?_)
          refine lv_iload_n hx hb dX7_loud_48 rfl (lv_at hl 2 rfl) ?_
          refine lv_iconst (v := 1) hx hb dX7_loud_49 (by decide) ?_
          refine lv_icmp_ne (tgt := 63) hx hb dX7_loud_50 (by decide) (fun c10 => ?_) (fun c10 => ?_)
          · have hf := ifF c10 hf
            refine lv_aload_n hx hb dX7_loud_63 rfl (lv_at hl 0 rfl) ?_
            refine gf_X7_48 C h (by decide) dX7_loud_64 ?_
            refine gf_X7_208 C h (by decide) dX7_loud_67 ?_
            exact x_iret C hr h hf dX7_loud_70
          · have hf := ifT c10 hf
            refine lv_aload_n hx hb dX7_loud_53 rfl (lv_at hl 0 rfl) ?_
            refine gf_X7_48 C h (by decide) dX7_loud_54 ?_
            refine gf_X7_221 C h (by decide) dX7_loud_57 ?_
            refine lv_goto (tgt := 70) hx hb dX7_loud_60 (by decide) ?_
            exact x_iret C hr h hf dX7_loud_70
        · have hf := ifT c7 hf
          refine lv_bipush (v := 60) hx hb dX7_loud_30 (by decide) ?_
          exact x_iret C hr h hf dX7_loud_32
      · have hf := ifF c6 hf
        refine lv_ldc (v := (-1000000002)) hx hb C.2.2.2.1 (C.2.2.2.2.1 _ q154) dX7_loud_23 ?_
        exact x_iret C hr h hf dX7_loud_25
  · have hf := ifT c4 hf
    refine lv_ldc (v := (-1000000001)) hx hb C.2.2.2.1 (C.2.2.2.2.1 _ q416) dX7_loud_11 ?_
    exact x_iret C hr h hf dX7_loud_13
def f_X7_lookAhead  (x1 : Int32) (σ : St) : Option (St) := rd (σ.1 4) 5 x1 (fun v1 => rd (σ.1 25) 5 x1 (fun v2 => bd (f_X1_oddsOfHouses 20 (1 <<< (x1 &&& 31)) σ) (fun r5 σ3 => bv (f_X3_begin v1 v2 r5 σ3) (fun σ6 => some σ6))))
set_option maxHeartbeats 4000000 in
theorem c_X7_lookAhead (l : Launch) (D : va_G) (G : Geo)   (x1 : Int32) (σ : St) (o : St) (hf : f_X7_lookAhead  x1 σ = some o) : CV l D (tyG G) (wC G) yX7_lookAhead cX7_lookAhead 2 none ({ frames := 3, cells := 0, slots := 0, locals := 76 }) [.ref (G.1 0), .int x1] σ o := by
  refine met_of (Qc := fun A => QV D (tyG G) (wC G) A o) pn_X7 (Nat.le_of_ble_eq_true rfl) (fun p e s m below meth c A ls C hr h hl => ?_)
  have C : Cx p s m _ meth c cX7_lookAhead 2 RX7 D (tyG G) := C
  have hl : lv_has ls 2 [(0, .ref (G.1 0)), (1, .int x1)] := hl
  unfold f_X7_lookAhead at hf
  have hx := C.1
  have hb := C.2.1
  refine lv_aload_n hx hb dX7_lookAhead_0 rfl (lv_at hl 0 rfl) ?_
  refine gf_X7_55 C h (by decide) dX7_lookAhead_1 ?_
  refine lv_aload_n hx hb dX7_lookAhead_4 rfl (lv_at hl 0 rfl) ?_
  refine gf_X7_19 C h (by decide) dX7_lookAhead_5 ?_
  refine gf_X7_129 C h (by decide) dX7_lookAhead_8 ?_
  refine lv_iload_n hx hb dX7_lookAhead_11 rfl (lv_at hl 1 rfl) ?_
  refine rd_el hf (fun v1 hinv1 hv1 hf => ?_)
  refine x_iald C h 4 1 (ltA_X5_need (by decide)) ((aC_X5_need G (by decide)) _ _) rfl hinv1 hv1 dX7_lookAhead_12 ?_
  refine lv_aload_n hx hb dX7_lookAhead_13 rfl (lv_at hl 0 rfl) ?_
  refine gf_X7_28 C h (by decide) dX7_lookAhead_14 ?_
  refine gf_X7_139 C h (by decide) dX7_lookAhead_17 ?_
  refine lv_iload_n hx hb dX7_lookAhead_20 rfl (lv_at hl 1 rfl) ?_
  refine rd_el hf (fun v2 hinv2 hv2 hf => ?_)
  refine x_iald C h 25 1 (ltA_X0_onEnd (by decide)) ((aC_X0_onEnd G (by decide)) _ _) rfl hinv2 hv2 dX7_lookAhead_21 ?_
  refine lv_aload_n hx hb dX7_lookAhead_22 rfl (lv_at hl 0 rfl) ?_
  refine gf_X7_28 C h (by decide) dX7_lookAhead_23 ?_
  refine gf_X7_100 C h (by decide) dX7_lookAhead_26 ?_
  refine lv_iconst (v := 1) hx hb dX7_lookAhead_29 (by decide) ?_
  refine lv_iload_n hx hb dX7_lookAhead_30 rfl (lv_at hl 1 rfl) ?_
  refine lv_ishl hx hb dX7_lookAhead_31 ?_
  refine bd_el hf (fun r5 σ3 ho4 hf => ?_)
  refine x_goi h (x_runV (As := [.int (1 <<< (x1 &&& 31))]) (rest := [.int v2, .int v1, .ref (G.1 72)]) C h (c_X1_oddsOfHouses l D G 20 (by decide) (1 <<< (x1 &&& 31)) σ (r5, σ3) ho4 _) lk_X7_198 rfl ⟨rfl, rfl, Nat.le_of_ble_eq_true rfl, Nat.le_of_ble_eq_true rfl⟩ (x_rcv C h 20 (lt_X1 (by decide)) ((oC_X1 G (by decide)) _ _) rfl) hl.1 rfl (Nat.le_of_ble_eq_true rfl) dX7_lookAhead_32) (fun H locs h => ?_)
  refine bv_el hf (fun σ6 ho7 hf => ?_)
  refine x_gov h (x_runV (As := [.int v1, .int v2, .int r5]) (rest := []) C h (c_X3_begin l D G v1 v2 r5 σ3 σ6 ho7 _) lk_X7_238 rfl ⟨rfl, rfl, Nat.le_of_ble_eq_true rfl, Nat.le_of_ble_eq_true rfl⟩ (x_rcv C h 72 (lt_X3 (by decide)) ((oC_X3 G (by decide)) _ _) rfl) hl.1 rfl (Nat.le_of_ble_eq_true rfl) dX7_lookAhead_35) (fun H locs h => ?_)
  exact x_vret C hr h hf dX7_lookAhead_38
def b_X7_work_35   (rec35 : Int32 × Int32 × St → Option (Int32 × St)) (x2 : Int32) (x3 : Int32) (σ : St) : Option (Int32 × St) := if x2 ≤ x3 then some ((σ.2 72 3 : Int64).toInt32, σ) else bv (f_X3_goOnADay σ) (fun σ10 => rec35 (x2, x3 + 1, σ10))
def f_X7_work_35   (x2 : Int32) (x3 : Int32) (σ : St) : Option (Int32 × St) := lp (fun (rec35 : Int32 × Int32 × St → Option (Int32 × St)) (q : Int32 × Int32 × St) => b_X7_work_35   rec35 (q.1) (q.2.1) (q.2.2)) 100000 (x2, x3, σ)
set_option maxHeartbeats 4000000 in
theorem t_X7_work_35 (C : Cx p s m args meth c cX7_work 4 RX7 D (tyG G)) (hr : meth.sig.returnType = (some .int)) {o : Int32 × St}   : ∀ (x2 : Int32) (x3 : Int32) (σ : St) (H : Heap) (locs : List Loc) (ls : Array Slot), Hs D A s.heap (wC G σ) H locs → lv_has ls 4 [(0, .ref (G.1 0)), (2, .int x2), (3, .int x3)] → f_X7_work_35   x2 x3 σ = some o → W p l e ({ frames := 4, cells := 0, slots := 0, locals := 97 } : Room) s m args below meth c H locs 0 0 (MQ below (QI D (tyG G) (wC G) A o) args s 0 0 A) (F0 m 35 ls []) := by
  intro x2 x3 σ H locs ls h hl hf
  refine lp_el (P := fun q : Int32 × Int32 × St => ∀ (H : Heap) (locs : List Loc) (ls : Array Slot), Hs D A s.heap (wC G (q.2.2)) H locs → lv_has ls 4 [(0, .ref (G.1 0)), (2, .int (q.1)), (3, .int (q.2.1))] → W p l e ({ frames := 4, cells := 0, slots := 0, locals := 97 } : Room) s m args below meth c H locs 0 0 (MQ below (QI D (tyG G) (wC G) A o) args s 0 0 A) (F0 m 35 ls [])) (fun rec35 q IH35 hf => ?_) _ (x2, x3, σ) hf H locs ls h hl
  obtain ⟨x2, x3, σ⟩ := q
  intro H locs ls h hl
  have hl : lv_has ls 4 [(0, .ref (G.1 0)), (2, .int x2), (3, .int x3)] := hl
  have h : Hs D A s.heap (wC G σ) H locs := h
  have hf : b_X7_work_35   rec35 x2 x3 σ = some o := hf
  unfold b_X7_work_35 at hf
  have hx := C.1
  have hb := C.2.1
  refine lv_iload_n hx hb dX7_work_35 rfl (lv_at hl 2 rfl) ?_
  refine lv_iload_n hx hb dX7_work_36 rfl (lv_at hl 1 rfl) ?_
  refine lv_icmp_ge (tgt := 53) hx hb dX7_work_37 (by decide) (fun c9 => ?_) (fun c9 => ?_)
  · have hf := ifT c9 hf
    refine lv_aload_n hx hb dX7_work_53 rfl (lv_at hl 0 rfl) ?_
    refine gf_X7_55 C h (by decide) dX7_work_54 ?_
    refine gf_X7_231 C h (by decide) dX7_work_57 ?_
    refine lv_l2i (v := (σ.2 72 3 : Int64).toInt32) hx hb dX7_work_60 rfl ?_
    exact x_iret C hr h hf dX7_work_61
  · have hf := ifF c9 hf
    refine lv_aload_n hx hb dX7_work_40 rfl (lv_at hl 0 rfl) ?_
    refine gf_X7_55 C h (by decide) dX7_work_41 ?_
    refine bv_el hf (fun σ10 ho11 hf => ?_)
    refine x_gov h (x_runV (As := []) (rest := []) C h (c_X3_goOnADay l D G σ σ10 ho11 _) lk_X7_228 rfl ⟨rfl, rfl, Nat.le_of_ble_eq_true rfl, Nat.le_of_ble_eq_true rfl⟩ (x_rcv C h 72 (lt_X3 (by decide)) ((oC_X3 G (by decide)) _ _) rfl) hl.1 rfl (Nat.le_of_ble_eq_true rfl) dX7_work_44) (fun H locs h => ?_)
    refine lv_iinc (v := x3 + 1) (lv' := [(3, .int (x3 + 1)), (0, .ref (G.1 0)), (2, .int x2)]) hx hb dX7_work_47 hl (k := 2) rfl rfl (by decide) rfl (fun ls hl => ?_)
    refine lv_goto (tgt := 35) hx hb dX7_work_50 (by decide) ?_
    exact IH35 (x2, x3 + 1, σ10) hf _ _ _ h (lv_sub hl [1, 2, 0] rfl)
def f_X7_work  (x1 : Int32) (x2 : Int32) (σ : St) : Option (Int32 × St) := bd (f_X5_hasHouse x1 σ) (fun r3 σ1 => if r3 = 0 then some ((-1000000001), σ1) else if x2 < 1 then some ((-1000000002), σ1) else if x2 ≤ 60 then bv (f_X7_lookAhead x1 σ1) (fun σ7 => f_X7_work_35 x2 0 σ7) else some ((-1000000002), σ1))
set_option maxHeartbeats 4000000 in
theorem c_X7_work (l : Launch) (D : va_G) (G : Geo)   (x1 : Int32) (x2 : Int32) (σ : St) (o : Int32 × St) (hf : f_X7_work  x1 x2 σ = some o) : CI l D (tyG G) (wC G) yX7_work cX7_work 4 ((some .int)) ({ frames := 4, cells := 0, slots := 0, locals := 97 }) [.ref (G.1 0), .int x1, .int x2] σ o := by
  refine met_of (Qc := fun A => QI D (tyG G) (wC G) A o) pn_X7 (Nat.le_of_ble_eq_true rfl) (fun p e s m below meth c A ls C hr h hl => ?_)
  have C : Cx p s m _ meth c cX7_work 4 RX7 D (tyG G) := C
  have hl : lv_has ls 4 [(0, .ref (G.1 0)), (1, .int x1), (2, .int x2)] := hl
  unfold f_X7_work at hf
  have hx := C.1
  have hb := C.2.1
  refine lv_aload_n hx hb dX7_work_0 rfl (lv_at hl 0 rfl) ?_
  refine gf_X7_19 C h (by decide) dX7_work_1 ?_
  refine lv_iload_n hx hb dX7_work_4 rfl (lv_at hl 1 rfl) ?_
  refine bd_el hf (fun r3 σ1 ho2 hf => ?_)
  refine x_goi h (x_runV (As := [.int x1]) (rest := []) C h (c_X5_hasHouse l D G x1 σ (r3, σ1) ho2 _) lk_X7_124 rfl ⟨rfl, rfl, Nat.le_of_ble_eq_true rfl, Nat.le_of_ble_eq_true rfl⟩ (x_rcv C h 3 (lt_X5 (by decide)) ((oC_X5 G (by decide)) _ _) rfl) hl.1 rfl (Nat.le_of_ble_eq_true rfl) dX7_work_5) (fun H locs h => ?_)
  refine lv_if_ne (tgt := 14) hx hb dX7_work_8 (by decide) (fun c4 => ?_) (fun c4 => ?_)
  · have hf := ifF c4 hf
    refine lv_iload_n hx hb dX7_work_14 rfl (lv_at hl 2 rfl) ?_
    refine lv_iconst (v := 1) hx hb dX7_work_15 (by decide) ?_
    refine lv_icmp_lt (tgt := 25) hx hb dX7_work_16 (by decide) (fun c5 => ?_) (fun c5 => ?_)
    · have hf := ifT c5 hf
      refine lv_ldc (v := (-1000000002)) hx hb C.2.2.2.1 (C.2.2.2.2.1 _ q154) dX7_work_25 ?_
      exact x_iret C hr h hf dX7_work_27
    · have hf := ifF c5 hf
      refine lv_iload_n hx hb dX7_work_19 rfl (lv_at hl 2 rfl) ?_
      refine lv_bipush (v := 60) hx hb dX7_work_20 (by decide) ?_
      refine lv_icmp_le (tgt := 28) hx hb dX7_work_22 (by decide) (fun c6 => ?_) (fun c6 => ?_)
      · have hf := ifT c6 hf
        refine lv_aload_n hx hb dX7_work_28 rfl (lv_at hl 0 rfl) ?_
        refine lv_iload_n hx hb dX7_work_29 rfl (lv_at hl 1 rfl) ?_
        refine bv_el hf (fun σ7 ho8 hf => ?_)
        refine x_gov h (x_runV (As := [.int x1]) (rest := []) C h (c_X7_lookAhead l D G x1 σ1 σ7 ho8 _) lk_X7_224 rfl ⟨rfl, rfl, Nat.le_of_ble_eq_true rfl, Nat.le_of_ble_eq_true rfl⟩ (x_rcv C h 0 (lt_X7 (by decide)) ((oC_X7 G (by decide)) _ _) rfl) hl.1 rfl (Nat.le_of_ble_eq_true rfl) dX7_work_30) (fun H locs h => ?_)
        refine lv_iconst (v := 0) hx hb dX7_work_33 (by decide) ?_
        refine lv_istore_n (lv' := [(3, .int 0), (0, .ref (G.1 0)), (1, .int x1), (2, .int x2)]) hx hb dX7_work_34 rfl hl (by decide) rfl (fun ls hl => ?_)
        exact t_X7_work_35 C hr x2 0 σ7 _ _ _ h (lv_sub hl [1, 3, 0] rfl) hf
      · have hf := ifF c6 hf
        refine lv_ldc (v := (-1000000002)) hx hb C.2.2.2.1 (C.2.2.2.2.1 _ q154) dX7_work_25 ?_
        exact x_iret C hr h hf dX7_work_27
  · have hf := ifT c4 hf
    refine lv_ldc (v := (-1000000001)) hx hb C.2.2.2.1 (C.2.2.2.2.1 _ q416) dX7_work_11 ?_
    exact x_iret C hr h hf dX7_work_13
def b_X7_likely_35   (rec35 : Int32 × Int32 × St → Option (Int32 × St)) (x2 : Int32) (x3 : Int32) (σ : St) : Option (Int32 × St) := if (60 : Int32) < x3 then some ((-1), σ) else bv (f_X3_goOnADay σ) (fun σ10 => if (lg_cmp ((σ10.2 72 3) * 100) (x2.toInt64 * 1000000000)) < 0 then rec35 (x2, x3 + 1, σ10) else some (x3, σ10))
def f_X7_likely_35   (x2 : Int32) (x3 : Int32) (σ : St) : Option (Int32 × St) := lp (fun (rec35 : Int32 × Int32 × St → Option (Int32 × St)) (q : Int32 × Int32 × St) => b_X7_likely_35   rec35 (q.1) (q.2.1) (q.2.2)) 100000 (x2, x3, σ)
set_option maxHeartbeats 4000000 in
theorem t_X7_likely_35 (C : Cx p s m args meth c cX7_likely 4 RX7 D (tyG G)) (hr : meth.sig.returnType = (some .int)) {o : Int32 × St}   : ∀ (x2 : Int32) (x3 : Int32) (σ : St) (H : Heap) (locs : List Loc) (ls : Array Slot), Hs D A s.heap (wC G σ) H locs → lv_has ls 4 [(0, .ref (G.1 0)), (2, .int x2), (3, .int x3)] → f_X7_likely_35   x2 x3 σ = some o → W p l e ({ frames := 4, cells := 0, slots := 0, locals := 97 } : Room) s m args below meth c H locs 0 0 (MQ below (QI D (tyG G) (wC G) A o) args s 0 0 A) (F0 m 35 ls []) := by
  intro x2 x3 σ H locs ls h hl hf
  refine lp_el (P := fun q : Int32 × Int32 × St => ∀ (H : Heap) (locs : List Loc) (ls : Array Slot), Hs D A s.heap (wC G (q.2.2)) H locs → lv_has ls 4 [(0, .ref (G.1 0)), (2, .int (q.1)), (3, .int (q.2.1))] → W p l e ({ frames := 4, cells := 0, slots := 0, locals := 97 } : Room) s m args below meth c H locs 0 0 (MQ below (QI D (tyG G) (wC G) A o) args s 0 0 A) (F0 m 35 ls [])) (fun rec35 q IH35 hf => ?_) _ (x2, x3, σ) hf H locs ls h hl
  obtain ⟨x2, x3, σ⟩ := q
  intro H locs ls h hl
  have hl : lv_has ls 4 [(0, .ref (G.1 0)), (2, .int x2), (3, .int x3)] := hl
  have h : Hs D A s.heap (wC G σ) H locs := h
  have hf : b_X7_likely_35   rec35 x2 x3 σ = some o := hf
  unfold b_X7_likely_35 at hf
  have hx := C.1
  have hb := C.2.1
  refine lv_iload_n hx hb dX7_likely_35 rfl (lv_at hl 2 rfl) ?_
  refine lv_bipush (v := 60) hx hb dX7_likely_36 (by decide) ?_
  refine lv_icmp_gt (tgt := 77) hx hb dX7_likely_38 (by decide) (fun c9 => ?_) (fun c9 => ?_)
  · have hf := ifT c9 hf
    refine lv_iconst (v := (-1)) hx hb dX7_likely_77 (by decide) ?_
    exact x_iret C hr h hf dX7_likely_78
  · have hf := ifF c9 hf
    refine lv_aload_n hx hb dX7_likely_41 rfl (lv_at hl 0 rfl) ?_
    refine gf_X7_55 C h (by decide) dX7_likely_42 ?_
    refine bv_el hf (fun σ10 ho11 hf => ?_)
    refine x_gov h (x_runV (As := []) (rest := []) C h (c_X3_goOnADay l D G σ σ10 ho11 _) lk_X7_228 rfl ⟨rfl, rfl, Nat.le_of_ble_eq_true rfl, Nat.le_of_ble_eq_true rfl⟩ (x_rcv C h 72 (lt_X3 (by decide)) ((oC_X3 G (by decide)) _ _) rfl) hl.1 rfl (Nat.le_of_ble_eq_true rfl) dX7_likely_45) (fun H locs h => ?_)
    refine lv_aload_n hx hb dX7_likely_48 rfl (lv_at hl 0 rfl) ?_
    refine gf_X7_55 C h (by decide) dX7_likely_49 ?_
    refine gf_X7_231 C h (by decide) dX7_likely_52 ?_
    refine lv_ldc2 (v := 100) hx hb C.2.2.2.1 (C.2.2.2.2.1 _ q800) dX7_likely_55 ?_
    refine lv_lmul hx hb dX7_likely_58 ?_
    refine lv_iload_n hx hb dX7_likely_59 rfl (lv_at hl 1 rfl) ?_
    refine lv_i2l (v := x2.toInt64) hx hb dX7_likely_60 rfl ?_
    refine lv_ldc2 (v := 1000000000) hx hb C.2.2.2.1 (C.2.2.2.2.1 _ q801) dX7_likely_61 ?_
    refine lv_lmul hx hb dX7_likely_64 ?_
    refine W.lcmp hx hb dX7_likely_65 ?_
    refine lv_if_lt (tgt := 71) hx hb dX7_likely_66 (by decide) (fun c12 => ?_) (fun c12 => ?_)
    · have hf := ifT c12 hf
      refine lv_iinc (v := x3 + 1) (lv' := [(3, .int (x3 + 1)), (0, .ref (G.1 0)), (2, .int x2)]) hx hb dX7_likely_71 hl (k := 2) rfl rfl (by decide) rfl (fun ls hl => ?_)
      refine lv_goto (tgt := 35) hx hb dX7_likely_74 (by decide) ?_
      exact IH35 (x2, x3 + 1, σ10) hf _ _ _ h (lv_sub hl [1, 2, 0] rfl)
    · have hf := ifF c12 hf
      refine lv_iload_n hx hb dX7_likely_69 rfl (lv_at hl 2 rfl) ?_
      exact x_iret C hr h hf dX7_likely_70
def f_X7_likely  (x1 : Int32) (x2 : Int32) (σ : St) : Option (Int32 × St) := bd (f_X5_hasHouse x1 σ) (fun r3 σ1 => if r3 = 0 then some ((-1000000001), σ1) else if x2 < 1 then some ((-1000000002), σ1) else if x2 ≤ 100 then bv (f_X7_lookAhead x1 σ1) (fun σ7 => f_X7_likely_35 x2 1 σ7) else some ((-1000000002), σ1))
set_option maxHeartbeats 4000000 in
theorem c_X7_likely (l : Launch) (D : va_G) (G : Geo)   (x1 : Int32) (x2 : Int32) (σ : St) (o : Int32 × St) (hf : f_X7_likely  x1 x2 σ = some o) : CI l D (tyG G) (wC G) yX7_likely cX7_likely 4 ((some .int)) ({ frames := 4, cells := 0, slots := 0, locals := 97 }) [.ref (G.1 0), .int x1, .int x2] σ o := by
  refine met_of (Qc := fun A => QI D (tyG G) (wC G) A o) pn_X7 (Nat.le_of_ble_eq_true rfl) (fun p e s m below meth c A ls C hr h hl => ?_)
  have C : Cx p s m _ meth c cX7_likely 4 RX7 D (tyG G) := C
  have hl : lv_has ls 4 [(0, .ref (G.1 0)), (1, .int x1), (2, .int x2)] := hl
  unfold f_X7_likely at hf
  have hx := C.1
  have hb := C.2.1
  refine lv_aload_n hx hb dX7_likely_0 rfl (lv_at hl 0 rfl) ?_
  refine gf_X7_19 C h (by decide) dX7_likely_1 ?_
  refine lv_iload_n hx hb dX7_likely_4 rfl (lv_at hl 1 rfl) ?_
  refine bd_el hf (fun r3 σ1 ho2 hf => ?_)
  refine x_goi h (x_runV (As := [.int x1]) (rest := []) C h (c_X5_hasHouse l D G x1 σ (r3, σ1) ho2 _) lk_X7_124 rfl ⟨rfl, rfl, Nat.le_of_ble_eq_true rfl, Nat.le_of_ble_eq_true rfl⟩ (x_rcv C h 3 (lt_X5 (by decide)) ((oC_X5 G (by decide)) _ _) rfl) hl.1 rfl (Nat.le_of_ble_eq_true rfl) dX7_likely_5) (fun H locs h => ?_)
  refine lv_if_ne (tgt := 14) hx hb dX7_likely_8 (by decide) (fun c4 => ?_) (fun c4 => ?_)
  · have hf := ifF c4 hf
    refine lv_iload_n hx hb dX7_likely_14 rfl (lv_at hl 2 rfl) ?_
    refine lv_iconst (v := 1) hx hb dX7_likely_15 (by decide) ?_
    refine lv_icmp_lt (tgt := 25) hx hb dX7_likely_16 (by decide) (fun c5 => ?_) (fun c5 => ?_)
    · have hf := ifT c5 hf
      refine lv_ldc (v := (-1000000002)) hx hb C.2.2.2.1 (C.2.2.2.2.1 _ q154) dX7_likely_25 ?_
      exact x_iret C hr h hf dX7_likely_27
    · have hf := ifF c5 hf
      refine lv_iload_n hx hb dX7_likely_19 rfl (lv_at hl 2 rfl) ?_
      refine lv_bipush (v := 100) hx hb dX7_likely_20 (by decide) ?_
      refine lv_icmp_le (tgt := 28) hx hb dX7_likely_22 (by decide) (fun c6 => ?_) (fun c6 => ?_)
      · have hf := ifT c6 hf
        refine lv_aload_n hx hb dX7_likely_28 rfl (lv_at hl 0 rfl) ?_
        refine lv_iload_n hx hb dX7_likely_29 rfl (lv_at hl 1 rfl) ?_
        refine bv_el hf (fun σ7 ho8 hf => ?_)
        refine x_gov h (x_runV (As := [.int x1]) (rest := []) C h (c_X7_lookAhead l D G x1 σ1 σ7 ho8 _) lk_X7_224 rfl ⟨rfl, rfl, Nat.le_of_ble_eq_true rfl, Nat.le_of_ble_eq_true rfl⟩ (x_rcv C h 0 (lt_X7 (by decide)) ((oC_X7 G (by decide)) _ _) rfl) hl.1 rfl (Nat.le_of_ble_eq_true rfl) dX7_likely_30) (fun H locs h => ?_)
        refine lv_iconst (v := 1) hx hb dX7_likely_33 (by decide) ?_
        refine lv_istore_n (lv' := [(3, .int 1), (0, .ref (G.1 0)), (1, .int x1), (2, .int x2)]) hx hb dX7_likely_34 rfl hl (by decide) rfl (fun ls hl => ?_)
        exact t_X7_likely_35 C hr x2 1 σ7 _ _ _ h (lv_sub hl [1, 3, 0] rfl) hf
      · have hf := ifF c6 hf
        refine lv_ldc (v := (-1000000002)) hx hb C.2.2.2.1 (C.2.2.2.2.1 _ q154) dX7_likely_25 ?_
        exact x_iret C hr h hf dX7_likely_27
  · have hf := ifT c4 hf
    refine lv_ldc (v := (-1000000001)) hx hb C.2.2.2.1 (C.2.2.2.2.1 _ q416) dX7_likely_11 ?_
    exact x_iret C hr h hf dX7_likely_13
def f_X7_tell  (x1 : Int32) (x2 : Int32) (σ : St) : Option (Int32 × St) := bd (f_X5_hasSleeper x1 σ) (fun r3 σ1 => if r3 = 0 then some ((-1000000001), σ1) else if x2 < 0 then some ((-1000000002), σ1) else if x2 ≤ 999 then bd (f_X6_add x1 x2 σ1) (fun r9 σ7 => if r9 = 0 then some ((-1000000004), σ7) else some (σ7.1 52 0, σ7)) else some ((-1000000002), σ1))
set_option maxHeartbeats 4000000 in
theorem c_X7_tell (l : Launch) (D : va_G) (G : Geo)   (x1 : Int32) (x2 : Int32) (σ : St) (o : Int32 × St) (hf : f_X7_tell  x1 x2 σ = some o) : CI l D (tyG G) (wC G) yX7_tell cX7_tell 3 ((some .int)) ({ frames := 1, cells := 0, slots := 0, locals := 22 }) [.ref (G.1 0), .int x1, .int x2] σ o := by
  refine met_of (Qc := fun A => QI D (tyG G) (wC G) A o) pn_X7 (Nat.le_of_ble_eq_true rfl) (fun p e s m below meth c A ls C hr h hl => ?_)
  have C : Cx p s m _ meth c cX7_tell 3 RX7 D (tyG G) := C
  have hl : lv_has ls 3 [(0, .ref (G.1 0)), (1, .int x1), (2, .int x2)] := hl
  unfold f_X7_tell at hf
  have hx := C.1
  have hb := C.2.1
  refine lv_aload_n hx hb dX7_tell_0 rfl (lv_at hl 0 rfl) ?_
  refine gf_X7_19 C h (by decide) dX7_tell_1 ?_
  refine lv_iload_n hx hb dX7_tell_4 rfl (lv_at hl 1 rfl) ?_
  refine bd_el hf (fun r3 σ1 ho2 hf => ?_)
  refine x_goi h (x_runV (As := [.int x1]) (rest := []) C h (c_X5_hasSleeper l D G x1 σ (r3, σ1) ho2 _) lk_X7_149 rfl ⟨rfl, rfl, Nat.le_of_ble_eq_true rfl, Nat.le_of_ble_eq_true rfl⟩ (x_rcv C h 3 (lt_X5 (by decide)) ((oC_X5 G (by decide)) _ _) rfl) hl.1 rfl (Nat.le_of_ble_eq_true rfl) dX7_tell_5) (fun H locs h => ?_)
  refine lv_if_ne (tgt := 14) hx hb dX7_tell_8 (by decide) (fun c4 => ?_) (fun c4 => ?_)
  · have hf := ifF c4 hf
    refine lv_iload_n hx hb dX7_tell_14 rfl (lv_at hl 2 rfl) ?_
    refine lv_if_lt (tgt := 25) hx hb dX7_tell_15 (by decide) (fun c5 => ?_) (fun c5 => ?_)
    · have hf := ifT c5 hf
      refine lv_ldc (v := (-1000000002)) hx hb C.2.2.2.1 (C.2.2.2.2.1 _ q154) dX7_tell_25 ?_
      exact x_iret C hr h hf dX7_tell_27
    · have hf := ifF c5 hf
      refine lv_iload_n hx hb dX7_tell_18 rfl (lv_at hl 2 rfl) ?_
      refine lv_sipush (v := 999) hx hb dX7_tell_19 (by decide) ?_
      refine lv_icmp_le (tgt := 28) hx hb dX7_tell_22 (by decide) (fun c6 => ?_) (fun c6 => ?_)
      · have hf := ifT c6 hf
        refine lv_aload_n hx hb dX7_tell_28 rfl (lv_at hl 0 rfl) ?_
        refine gf_X7_41 C h (by decide) dX7_tell_29 ?_
        refine lv_iload_n hx hb dX7_tell_32 rfl (lv_at hl 1 rfl) ?_
        refine lv_iload_n hx hb dX7_tell_33 rfl (lv_at hl 2 rfl) ?_
        refine bd_el hf (fun r9 σ7 ho8 hf => ?_)
        refine x_goi h (x_runV (As := [.int x1, .int x2]) (rest := []) C h (c_X6_add l D G x1 x2 σ1 (r9, σ7) ho8 _) lk_X7_241 rfl ⟨rfl, rfl, Nat.le_of_ble_eq_true rfl, Nat.le_of_ble_eq_true rfl⟩ (x_rcv C h 52 (lt_X6 (by decide)) ((oC_X6 G (by decide)) _ _) rfl) hl.1 rfl (Nat.le_of_ble_eq_true rfl) dX7_tell_34) (fun H locs h => ?_)
        refine lv_if_eq (tgt := 50) hx hb dX7_tell_37 (by decide) (fun c10 => ?_) (fun c10 => ?_)
        · have hf := ifT c10 hf
          refine lv_ldc (v := (-1000000004)) hx hb C.2.2.2.1 (C.2.2.2.2.1 _ q156) dX7_tell_50 ?_
          exact x_iret C hr h hf dX7_tell_52
        · have hf := ifF c10 hf
          refine lv_aload_n hx hb dX7_tell_40 rfl (lv_at hl 0 rfl) ?_
          refine gf_X7_41 C h (by decide) dX7_tell_41 ?_
          refine gf_X7_82 C h (by decide) dX7_tell_44 ?_
          refine lv_goto (tgt := 52) hx hb dX7_tell_47 (by decide) ?_
          exact x_iret C hr h hf dX7_tell_52
      · have hf := ifF c6 hf
        refine lv_ldc (v := (-1000000002)) hx hb C.2.2.2.1 (C.2.2.2.2.1 _ q154) dX7_tell_25 ?_
        exact x_iret C hr h hf dX7_tell_27
  · have hf := ifT c4 hf
    refine lv_ldc (v := (-1000000001)) hx hb C.2.2.2.1 (C.2.2.2.2.1 _ q416) dX7_tell_11 ?_
    exact x_iret C hr h hf dX7_tell_13
def f_X7_forget   (σ : St) : Option (Int32 × St) := nm (σ.1 52 0) (fun z1 => nm (sI σ 52 0 0) (fun σ2 => some (z1, σ2)))
set_option maxHeartbeats 4000000 in
theorem c_X7_forget (l : Launch) (D : va_G) (G : Geo)    (σ : St) (o : Int32 × St) (hf : f_X7_forget   σ = some o) : CI l D (tyG G) (wC G) yX7_forget cX7_forget 2 ((some .int)) ({ frames := 0, cells := 0, slots := 0, locals := 0 }) [.ref (G.1 0)] σ o := by
  refine met_of (Qc := fun A => QI D (tyG G) (wC G) A o) pn_X7 (Nat.le_of_ble_eq_true rfl) (fun p e s m below meth c A ls C hr h hl => ?_)
  have C : Cx p s m _ meth c cX7_forget 2 RX7 D (tyG G) := C
  have hl : lv_has ls 2 [(0, .ref (G.1 0))] := hl
  unfold f_X7_forget at hf
  have hx := C.1
  have hb := C.2.1
  refine lv_aload_n hx hb dX7_forget_0 rfl (lv_at hl 0 rfl) ?_
  refine gf_X7_41 C h (by decide) dX7_forget_1 ?_
  refine gf_X7_82 C h (by decide) dX7_forget_4 ?_
  refine nm_el hf (fun z1 ez1 hf => ?_)
  refine x_topi ez1 ?_
  refine lv_istore_n (lv' := [(1, .int z1), (0, .ref (G.1 0))]) hx hb dX7_forget_7 rfl hl (by decide) rfl (fun ls hl => ?_)
  refine lv_aload_n hx hb dX7_forget_8 rfl (lv_at hl 1 rfl) ?_
  refine gf_X7_41 C h (by decide) dX7_forget_9 ?_
  refine lv_iconst (v := 0) hx hb dX7_forget_12 (by decide) ?_
  refine nm_el hf (fun σ2 hσ2 hf => ?_)
  refine pf_X7_82 C h (by decide) dX7_forget_13 hσ2 (fun H locs h => ?_)
  refine lv_iload_n hx hb dX7_forget_16 rfl (lv_at hl 0 rfl) ?_
  exact x_iret C hr h hf dX7_forget_17
def f_X7_lies   (σ : St) : Option (Int32 × St) := if (σ.1 20 5) = 2 then some ((-1000000003), σ) else bd (f_X6_firstLie σ) (fun r4 σ2 => some (r4, σ2))
set_option maxHeartbeats 4000000 in
theorem c_X7_lies (l : Launch) (D : va_G) (G : Geo)    (σ : St) (o : Int32 × St) (hf : f_X7_lies   σ = some o) : CI l D (tyG G) (wC G) yX7_lies cX7_lies 1 ((some .int)) ({ frames := 4, cells := 0, slots := 0, locals := 88 }) [.ref (G.1 0)] σ o := by
  refine met_of (Qc := fun A => QI D (tyG G) (wC G) A o) pn_X7 (Nat.le_of_ble_eq_true rfl) (fun p e s m below meth c A ls C hr h hl => ?_)
  have C : Cx p s m _ meth c cX7_lies 1 RX7 D (tyG G) := C
  have hl : lv_has ls 1 [(0, .ref (G.1 0))] := hl
  unfold f_X7_lies at hf
  have hx := C.1
  have hb := C.2.1
  refine lv_aload_n hx hb dX7_lies_0 rfl (lv_at hl 0 rfl) ?_
  refine gf_X7_28 C h (by decide) dX7_lies_1 ?_
  refine gf_X7_100 C h (by decide) dX7_lies_4 ?_
  refine gf_X7_104 C h (by decide) dX7_lies_7 ?_
  refine lv_iconst (v := 2) hx hb dX7_lies_10 (by decide) ?_
  refine lv_icmp_ne (tgt := 19) hx hb dX7_lies_11 (by decide) (fun c1 => ?_) (fun c1 => ?_)
  · have hf := ifF c1 hf
    refine lv_aload_n hx hb dX7_lies_19 rfl (lv_at hl 0 rfl) ?_
    refine gf_X7_41 C h (by decide) dX7_lies_20 ?_
    refine lv_aload_n hx hb dX7_lies_23 rfl (lv_at hl 0 rfl) ?_
    refine gf_X7_28 C h (by decide) dX7_lies_24 ?_
    refine gf_X7_100 C h (by decide) dX7_lies_27 ?_
    refine bd_el hf (fun r4 σ2 ho3 hf => ?_)
    refine x_goi h (x_runV (As := [.ref (G.1 20)]) (rest := []) C h (c_X6_firstLie l D G σ (r4, σ2) ho3 _) lk_X7_245 rfl ⟨rfl, rfl, Nat.le_of_ble_eq_true rfl, Nat.le_of_ble_eq_true rfl⟩ (x_rcv C h 52 (lt_X6 (by decide)) ((oC_X6 G (by decide)) _ _) rfl) hl.1 rfl (Nat.le_of_ble_eq_true rfl) dX7_lies_30) (fun H locs h => ?_)
    exact x_iret C hr h hf dX7_lies_33
  · have hf := ifT c1 hf
    refine lv_ldc (v := (-1000000003)) hx hb C.2.2.2.1 (C.2.2.2.2.1 _ q544) dX7_lies_14 ?_
    refine lv_goto (tgt := 33) hx hb dX7_lies_16 (by decide) ?_
    exact x_iret C hr h hf dX7_lies_33
def f_X7_fits  (x1 : Int32) (x2 : Int32) (σ : St) : Option (Int32 × St) := bd (f_X5_hasSleeper x1 σ) (fun r3 σ1 => if r3 = 0 then some ((-1000000001), σ1) else if (σ1.1 20 5) = 2 then some ((-1000000003), σ1) else bd (f_X6_fitting x1 x2 σ1) (fun r8 σ6 => some (r8, σ6)))
set_option maxHeartbeats 4000000 in
theorem c_X7_fits (l : Launch) (D : va_G) (G : Geo)   (x1 : Int32) (x2 : Int32) (σ : St) (o : Int32 × St) (hf : f_X7_fits  x1 x2 σ = some o) : CI l D (tyG G) (wC G) yX7_fits cX7_fits 3 ((some .int)) ({ frames := 5, cells := 0, slots := 0, locals := 113 }) [.ref (G.1 0), .int x1, .int x2] σ o := by
  refine met_of (Qc := fun A => QI D (tyG G) (wC G) A o) pn_X7 (Nat.le_of_ble_eq_true rfl) (fun p e s m below meth c A ls C hr h hl => ?_)
  have C : Cx p s m _ meth c cX7_fits 3 RX7 D (tyG G) := C
  have hl : lv_has ls 3 [(0, .ref (G.1 0)), (1, .int x1), (2, .int x2)] := hl
  unfold f_X7_fits at hf
  have hx := C.1
  have hb := C.2.1
  refine lv_aload_n hx hb dX7_fits_0 rfl (lv_at hl 0 rfl) ?_
  refine gf_X7_19 C h (by decide) dX7_fits_1 ?_
  refine lv_iload_n hx hb dX7_fits_4 rfl (lv_at hl 1 rfl) ?_
  refine bd_el hf (fun r3 σ1 ho2 hf => ?_)
  refine x_goi h (x_runV (As := [.int x1]) (rest := []) C h (c_X5_hasSleeper l D G x1 σ (r3, σ1) ho2 _) lk_X7_149 rfl ⟨rfl, rfl, Nat.le_of_ble_eq_true rfl, Nat.le_of_ble_eq_true rfl⟩ (x_rcv C h 3 (lt_X5 (by decide)) ((oC_X5 G (by decide)) _ _) rfl) hl.1 rfl (Nat.le_of_ble_eq_true rfl) dX7_fits_5) (fun H locs h => ?_)
  refine lv_if_ne (tgt := 14) hx hb dX7_fits_8 (by decide) (fun c4 => ?_) (fun c4 => ?_)
  · have hf := ifF c4 hf
    refine lv_aload_n hx hb dX7_fits_14 rfl (lv_at hl 0 rfl) ?_
    refine gf_X7_28 C h (by decide) dX7_fits_15 ?_
    refine gf_X7_100 C h (by decide) dX7_fits_18 ?_
    refine gf_X7_104 C h (by decide) dX7_fits_21 ?_
    refine lv_iconst (v := 2) hx hb dX7_fits_24 (by decide) ?_
    refine lv_icmp_ne (tgt := 33) hx hb dX7_fits_25 (by decide) (fun c5 => ?_) (fun c5 => ?_)
    · have hf := ifF c5 hf
      refine lv_aload_n hx hb dX7_fits_33 rfl (lv_at hl 0 rfl) ?_
      refine gf_X7_41 C h (by decide) dX7_fits_34 ?_
      refine lv_aload_n hx hb dX7_fits_37 rfl (lv_at hl 0 rfl) ?_
      refine gf_X7_28 C h (by decide) dX7_fits_38 ?_
      refine gf_X7_100 C h (by decide) dX7_fits_41 ?_
      refine lv_iload_n hx hb dX7_fits_44 rfl (lv_at hl 1 rfl) ?_
      refine lv_iload_n hx hb dX7_fits_45 rfl (lv_at hl 2 rfl) ?_
      refine bd_el hf (fun r8 σ6 ho7 hf => ?_)
      refine x_goi h (x_runV (As := [.ref (G.1 20), .int x1, .int x2]) (rest := []) C h (c_X6_fitting l D G x1 x2 σ1 (r8, σ6) ho7 _) lk_X7_248 rfl ⟨rfl, rfl, Nat.le_of_ble_eq_true rfl, Nat.le_of_ble_eq_true rfl⟩ (x_rcv C h 52 (lt_X6 (by decide)) ((oC_X6 G (by decide)) _ _) rfl) hl.1 rfl (Nat.le_of_ble_eq_true rfl) dX7_fits_46) (fun H locs h => ?_)
      exact x_iret C hr h hf dX7_fits_49
    · have hf := ifT c5 hf
      refine lv_ldc (v := (-1000000003)) hx hb C.2.2.2.1 (C.2.2.2.2.1 _ q544) dX7_fits_28 ?_
      refine lv_goto (tgt := 49) hx hb dX7_fits_30 (by decide) ?_
      exact x_iret C hr h hf dX7_fits_49
  · have hf := ifT c4 hf
    refine lv_ldc (v := (-1000000001)) hx hb C.2.2.2.1 (C.2.2.2.2.1 _ q416) dX7_fits_11 ?_
    exact x_iret C hr h hf dX7_fits_13
def f_X7_seed  (x1 : Int32) (σ : St) : Option (Int32 × St) := if (0 : Int32) ≤ x1 then nm (σ.1 19 9) (fun z2 => nm (sI σ 19 9 x1) (fun σ3 => some (z2, σ3))) else some ((-1000000002), σ)
set_option maxHeartbeats 4000000 in
theorem c_X7_seed (l : Launch) (D : va_G) (G : Geo)   (x1 : Int32) (σ : St) (o : Int32 × St) (hf : f_X7_seed  x1 σ = some o) : CI l D (tyG G) (wC G) yX7_seed cX7_seed 3 ((some .int)) ({ frames := 0, cells := 0, slots := 0, locals := 0 }) [.ref (G.1 0), .int x1] σ o := by
  refine met_of (Qc := fun A => QI D (tyG G) (wC G) A o) pn_X7 (Nat.le_of_ble_eq_true rfl) (fun p e s m below meth c A ls C hr h hl => ?_)
  have C : Cx p s m _ meth c cX7_seed 3 RX7 D (tyG G) := C
  have hl : lv_has ls 3 [(0, .ref (G.1 0)), (1, .int x1)] := hl
  unfold f_X7_seed at hf
  have hx := C.1
  have hb := C.2.1
  refine lv_iload_n hx hb dX7_seed_0 rfl (lv_at hl 1 rfl) ?_
  refine lv_if_ge (tgt := 7) hx hb dX7_seed_1 (by decide) (fun c1 => ?_) (fun c1 => ?_)
  · have hf := ifT c1 hf
    refine lv_aload_n hx hb dX7_seed_7 rfl (lv_at hl 0 rfl) ?_
    refine gf_X7_28 C h (by decide) dX7_seed_8 ?_
    refine gf_X7_252 C h (by decide) dX7_seed_11 ?_
    refine nm_el hf (fun z2 ez2 hf => ?_)
    refine x_topi ez2 ?_
    refine lv_istore_n (lv' := [(2, .int z2), (0, .ref (G.1 0)), (1, .int x1)]) hx hb dX7_seed_14 rfl hl (by decide) rfl (fun ls hl => ?_)
    refine lv_aload_n hx hb dX7_seed_15 rfl (lv_at hl 1 rfl) ?_
    refine gf_X7_28 C h (by decide) dX7_seed_16 ?_
    refine lv_iload_n hx hb dX7_seed_19 rfl (lv_at hl 2 rfl) ?_
    refine nm_el hf (fun σ3 hσ3 hf => ?_)
    refine pf_X7_252 C h (by decide) dX7_seed_20 hσ3 (fun H locs h => ?_)
    refine lv_iload_n hx hb dX7_seed_23 rfl (lv_at hl 0 rfl) ?_
    exact x_iret C hr h hf dX7_seed_24
  · have hf := ifF c1 hf
    refine lv_ldc (v := (-1000000002)) hx hb C.2.2.2.1 (C.2.2.2.2.1 _ q154) dX7_seed_4 ?_
    exact x_iret C hr h hf dX7_seed_6
def f_X7_imageAt  (x1 : Int32) (σ : St) : Option (Nat × St) := if x1 = 0 then some (30, σ) else some (41, σ)
set_option maxHeartbeats 4000000 in
theorem c_X7_imageAt (l : Launch) (D : va_G) (G : Geo)   (x1 : Int32) (σ : St) (o : Nat × St) (hf : f_X7_imageAt  x1 σ = some o) : CA l D (tyG G) (wC G) G.1 yX7_imageAt cX7_imageAt 2 ((some (.object "FirstAwake$Course"))) ({ frames := 0, cells := 0, slots := 0, locals := 0 }) [.ref (G.1 0), .int x1] σ o := by
  refine met_of (Qc := fun A => QA D (tyG G) (wC G) G.1 A o) pn_X7 (Nat.le_of_ble_eq_true rfl) (fun p e s m below meth c A ls C hr h hl => ?_)
  have C : Cx p s m _ meth c cX7_imageAt 2 RX7 D (tyG G) := C
  have hl : lv_has ls 2 [(0, .ref (G.1 0)), (1, .int x1)] := hl
  unfold f_X7_imageAt at hf
  have hx := C.1
  have hb := C.2.1
  refine lv_iload_n hx hb dX7_imageAt_0 rfl (lv_at hl 1 rfl) ?_
  refine lv_if_ne (tgt := 11) hx hb dX7_imageAt_1 (by decide) (fun c1 => ?_) (fun c1 => ?_)
  · have hf := ifF c1 hf
    refine lv_aload_n hx hb dX7_imageAt_11 rfl (lv_at hl 0 rfl) ?_
    refine gf_X7_35 C h (by decide) dX7_imageAt_12 ?_
    exact x_aret C hr h hf dX7_imageAt_15
  · have hf := ifT c1 hf
    refine lv_aload_n hx hb dX7_imageAt_4 rfl (lv_at hl 0 rfl) ?_
    refine gf_X7_32 C h (by decide) dX7_imageAt_5 ?_
    refine lv_goto (tgt := 15) hx hb dX7_imageAt_8 (by decide) ?_
    exact x_aret C hr h hf dX7_imageAt_15
def f_X7_keep  (x1 : Int32) (σ : St) : Option (Int32 × St) := if x1 < 0 then some ((-1000000001), σ) else if x1 < 2 then bd (f_X7_imageAt x1 σ) (fun r5 σ3 => ck (decide (is_X0 r5)) (bv (f_X0_copyFrom r5 19 σ3) (fun σ7 => nm (sI σ7 0 5 ((σ7.1 0 5) ||| (1 <<< (x1 &&& 31)))) (fun σ9 => some (1, σ9))))) else some ((-1000000001), σ)
set_option maxHeartbeats 4000000 in
theorem c_X7_keep (l : Launch) (D : va_G) (G : Geo)   (x1 : Int32) (σ : St) (o : Int32 × St) (hf : f_X7_keep  x1 σ = some o) : CI l D (tyG G) (wC G) yX7_keep cX7_keep 2 ((some .int)) ({ frames := 4, cells := 0, slots := 0, locals := 89 }) [.ref (G.1 0), .int x1] σ o := by
  refine met_of (Qc := fun A => QI D (tyG G) (wC G) A o) pn_X7 (Nat.le_of_ble_eq_true rfl) (fun p e s m below meth c A ls C hr h hl => ?_)
  have C : Cx p s m _ meth c cX7_keep 2 RX7 D (tyG G) := C
  have hl : lv_has ls 2 [(0, .ref (G.1 0)), (1, .int x1)] := hl
  unfold f_X7_keep at hf
  have hx := C.1
  have hb := C.2.1
  refine lv_iload_n hx hb dX7_keep_0 rfl (lv_at hl 1 rfl) ?_
  refine lv_if_lt (tgt := 9) hx hb dX7_keep_1 (by decide) (fun c1 => ?_) (fun c1 => ?_)
  · have hf := ifT c1 hf
    refine lv_ldc (v := (-1000000001)) hx hb C.2.2.2.1 (C.2.2.2.2.1 _ q416) dX7_keep_9 ?_
    exact x_iret C hr h hf dX7_keep_11
  · have hf := ifF c1 hf
    refine lv_iload_n hx hb dX7_keep_4 rfl (lv_at hl 1 rfl) ?_
    refine lv_iconst (v := 2) hx hb dX7_keep_5 (by decide) ?_
    refine lv_icmp_lt (tgt := 12) hx hb dX7_keep_6 (by decide) (fun c2 => ?_) (fun c2 => ?_)
    · have hf := ifT c2 hf
      refine lv_aload_n hx hb dX7_keep_12 rfl (lv_at hl 0 rfl) ?_
      refine lv_iload_n hx hb dX7_keep_13 rfl (lv_at hl 1 rfl) ?_
      refine bd_el hf (fun r5 σ3 ho4 hf => ?_)
      refine x_goa h (x_runV (As := [.int x1]) (rest := []) C h (c_X7_imageAt l D G x1 σ (r5, σ3) ho4 _) lk_X7_255 rfl ⟨rfl, rfl, Nat.le_of_ble_eq_true rfl, Nat.le_of_ble_eq_true rfl⟩ (x_rcv C h 0 (lt_X7 (by decide)) ((oC_X7 G (by decide)) _ _) rfl) hl.1 rfl (Nat.le_of_ble_eq_true rfl) dX7_keep_14) (fun H locs h => ?_)
      refine ck_el hf (fun hz6 hf => ?_)
      refine lv_aload_n hx hb dX7_keep_17 rfl (lv_at hl 0 rfl) ?_
      refine gf_X7_28 C h (by decide) dX7_keep_18 ?_
      refine bv_el hf (fun σ7 ho8 hf => ?_)
      refine x_gov h (x_runV (As := [.ref (G.1 19)]) (rest := []) C h (c_X0_copyFrom l D G r5 (of_decide_eq_true hz6) 19 (by decide) σ3 σ7 ho8 _) lk_X7_259 rfl ⟨rfl, rfl, Nat.le_of_ble_eq_true rfl, Nat.le_of_ble_eq_true rfl⟩ (x_rcv C h r5 (lt_X0 (of_decide_eq_true hz6)) ((oC_X0 G (of_decide_eq_true hz6)) _ _) rfl) hl.1 rfl (Nat.le_of_ble_eq_true rfl) dX7_keep_21) (fun H locs h => ?_)
      refine lv_aload_n hx hb dX7_keep_24 rfl (lv_at hl 0 rfl) ?_
      refine lv_dup hx hb dX7_keep_25 rfl ?_
      refine gf_X7_85 C h (by decide) dX7_keep_26 ?_
      refine lv_iconst (v := 1) hx hb dX7_keep_29 (by decide) ?_
      refine lv_iload_n hx hb dX7_keep_30 rfl (lv_at hl 1 rfl) ?_
      refine lv_ishl hx hb dX7_keep_31 ?_
      refine lv_ior hx hb dX7_keep_32 ?_
      refine nm_el hf (fun σ9 hσ9 hf => ?_)
      refine pf_X7_85 C h (by decide) dX7_keep_33 hσ9 (fun H locs h => ?_)
      refine lv_iconst (v := 1) hx hb dX7_keep_36 (by decide) ?_
      exact x_iret C hr h hf dX7_keep_37
    · have hf := ifF c2 hf
      refine lv_ldc (v := (-1000000001)) hx hb C.2.2.2.1 (C.2.2.2.2.1 _ q416) dX7_keep_9 ?_
      exact x_iret C hr h hf dX7_keep_11
def f_X7_goBack  (x1 : Int32) (σ : St) : Option (Int32 × St) := if x1 < 0 then some ((-1000000001), σ) else if x1 < 2 then if (((σ.1 0 5) >>> (x1 &&& 31)) &&& 1) = 0 then some ((-1000000003), σ) else bd (f_X7_imageAt x1 σ) (fun r6 σ4 => ck (decide (is_X0 r6)) (bv (f_X0_copyFrom 19 r6 σ4) (fun σ8 => some (1, σ8)))) else some ((-1000000001), σ)
set_option maxHeartbeats 4000000 in
theorem c_X7_goBack (l : Launch) (D : va_G) (G : Geo)   (x1 : Int32) (σ : St) (o : Int32 × St) (hf : f_X7_goBack  x1 σ = some o) : CI l D (tyG G) (wC G) yX7_goBack cX7_goBack 2 ((some .int)) ({ frames := 4, cells := 0, slots := 0, locals := 89 }) [.ref (G.1 0), .int x1] σ o := by
  refine met_of (Qc := fun A => QI D (tyG G) (wC G) A o) pn_X7 (Nat.le_of_ble_eq_true rfl) (fun p e s m below meth c A ls C hr h hl => ?_)
  have C : Cx p s m _ meth c cX7_goBack 2 RX7 D (tyG G) := C
  have hl : lv_has ls 2 [(0, .ref (G.1 0)), (1, .int x1)] := hl
  unfold f_X7_goBack at hf
  have hx := C.1
  have hb := C.2.1
  refine lv_iload_n hx hb dX7_goBack_0 rfl (lv_at hl 1 rfl) ?_
  refine lv_if_lt (tgt := 9) hx hb dX7_goBack_1 (by decide) (fun c1 => ?_) (fun c1 => ?_)
  · have hf := ifT c1 hf
    refine lv_ldc (v := (-1000000001)) hx hb C.2.2.2.1 (C.2.2.2.2.1 _ q416) dX7_goBack_9 ?_
    exact x_iret C hr h hf dX7_goBack_11
  · have hf := ifF c1 hf
    refine lv_iload_n hx hb dX7_goBack_4 rfl (lv_at hl 1 rfl) ?_
    refine lv_iconst (v := 2) hx hb dX7_goBack_5 (by decide) ?_
    refine lv_icmp_lt (tgt := 12) hx hb dX7_goBack_6 (by decide) (fun c2 => ?_) (fun c2 => ?_)
    · have hf := ifT c2 hf
      refine lv_aload_n hx hb dX7_goBack_12 rfl (lv_at hl 0 rfl) ?_
      refine gf_X7_85 C h (by decide) dX7_goBack_13 ?_
      refine lv_iload_n hx hb dX7_goBack_16 rfl (lv_at hl 1 rfl) ?_
      refine lv_ishr hx hb dX7_goBack_17 ?_
      refine lv_iconst (v := 1) hx hb dX7_goBack_18 (by decide) ?_
      refine lv_iand hx hb dX7_goBack_19 ?_
      refine lv_if_ne (tgt := 26) hx hb dX7_goBack_20 (by decide) (fun c3 => ?_) (fun c3 => ?_)
      · have hf := ifF c3 hf
        refine lv_aload_n hx hb dX7_goBack_26 rfl (lv_at hl 0 rfl) ?_
        refine gf_X7_28 C h (by decide) dX7_goBack_27 ?_
        refine lv_aload_n hx hb dX7_goBack_30 rfl (lv_at hl 0 rfl) ?_
        refine lv_iload_n hx hb dX7_goBack_31 rfl (lv_at hl 1 rfl) ?_
        refine bd_el hf (fun r6 σ4 ho5 hf => ?_)
        refine x_goa h (x_runV (As := [.int x1]) (rest := [.ref (G.1 19)]) C h (c_X7_imageAt l D G x1 σ (r6, σ4) ho5 _) lk_X7_255 rfl ⟨rfl, rfl, Nat.le_of_ble_eq_true rfl, Nat.le_of_ble_eq_true rfl⟩ (x_rcv C h 0 (lt_X7 (by decide)) ((oC_X7 G (by decide)) _ _) rfl) hl.1 rfl (Nat.le_of_ble_eq_true rfl) dX7_goBack_32) (fun H locs h => ?_)
        refine ck_el hf (fun hz7 hf => ?_)
        refine bv_el hf (fun σ8 ho9 hf => ?_)
        refine x_gov h (x_runV (As := [.ref (G.1 r6)]) (rest := []) C h (c_X0_copyFrom l D G 19 (by decide) r6 (of_decide_eq_true hz7) σ4 σ8 ho9 _) lk_X7_259 rfl ⟨rfl, rfl, Nat.le_of_ble_eq_true rfl, Nat.le_of_ble_eq_true rfl⟩ (x_rcv C h 19 (lt_X0 (by decide)) ((oC_X0 G (by decide)) _ _) rfl) hl.1 rfl (Nat.le_of_ble_eq_true rfl) dX7_goBack_35) (fun H locs h => ?_)
        refine lv_iconst (v := 1) hx hb dX7_goBack_38 (by decide) ?_
        exact x_iret C hr h hf dX7_goBack_39
      · have hf := ifT c3 hf
        refine lv_ldc (v := (-1000000003)) hx hb C.2.2.2.1 (C.2.2.2.2.1 _ q544) dX7_goBack_23 ?_
        exact x_iret C hr h hf dX7_goBack_25
    · have hf := ifF c2 hf
      refine lv_ldc (v := (-1000000001)) hx hb C.2.2.2.1 (C.2.2.2.2.1 _ q416) dX7_goBack_9 ?_
      exact x_iret C hr h hf dX7_goBack_11
