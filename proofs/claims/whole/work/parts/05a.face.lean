abbrev rm_X6_count : Room := { frames := 6, cells := 1, slots := 6, locals := 90 }
def p_X6_count (a0 : Nat) (a1 : Int32) (Mi : Mem) : Option ((Int32) ⊕ String) :=
  (if (Int32.toInt a1) < 0 ∨ 11 < (Int32.toInt a1) then
   some (.inr "java/lang/IllegalArgumentException")
  else
  (if a1 = (0 : Int32) then
   (Option.bind (gR 5 3 Mi a0) fun v1 =>
   (Option.bind (gR 2 0 Mi v1) fun v2 =>
   (Option.bind (gI 4 0 Mi v2) fun v3 =>
   some (.inl v3)
   )
   )
   )
  else
  (if a1 = (1 : Int32) then
   (Option.bind (gR 5 3 Mi a0) fun v4 =>
   (Option.bind (gI 2 1 Mi v4) fun v5 =>
   some (.inl v5)
   )
   )
  else
  (if a1 = (2 : Int32) then
   (Option.bind (gR 5 3 Mi a0) fun v6 =>
   (Option.bind (gR 2 0 Mi v6) fun v7 =>
   (Option.bind (gI 4 1 Mi v7) fun v8 =>
   some (.inl v8)
   )
   )
   )
  else
  (if a1 = (3 : Int32) then
   (Option.bind (gR 5 3 Mi a0) fun v9 =>
   (Option.bind (gL 2 9 Mi v9) fun v10 =>
   (Option.bind (p_J13_bitCount_95d88 v10 Mi) fun v11 =>
   some (.inl v11)
   )
   )
   )
  else
  (if a1 = (4 : Int32) then
   (Option.bind (gR 5 3 Mi a0) fun v12 =>
   (Option.bind (isC 2 Mi v12) fun _ =>
   (Option.bind (p_X2_placedOnes v12 Mi) fun v14 =>
   (Option.bind (p_J13_bitCount_95d88 v14 Mi) fun v15 =>
   some (.inl v15)
   )
   )
   )
   )
  else
  (if a1 = (5 : Int32) then
   (Option.bind (gR 5 3 Mi a0) fun v16 =>
   (Option.bind (gL 2 8 Mi v16) fun v17 =>
   (Option.bind (p_J13_bitCount_95d88 v17 Mi) fun v18 =>
   some (.inl v18)
   )
   )
   )
  else
  (if a1 = (6 : Int32) then
   (Option.bind (gR 5 3 Mi a0) fun v19 =>
   (Option.bind (gR 2 0 Mi v19) fun v20 =>
   (Option.bind (gI 4 2 Mi v20) fun v21 =>
   some (.inl v21)
   )
   )
   )
  else
  (if a1 = (7 : Int32) then
   (Option.bind (gR 5 3 Mi a0) fun v22 =>
   (Option.bind (gI 2 3 Mi v22) fun v23 =>
   (if v23 = 0 then
    some (.inl (0 : Int32))
   else
    some (.inl (1 : Int32))
   )
   )
   )
  else
  (if a1 = (8 : Int32) then
   (Option.bind (gR 5 3 Mi a0) fun v25 =>
   (Option.bind (gI 2 4 Mi v25) fun v26 =>
   (if v26 = 0 then
    some (.inl (0 : Int32))
   else
    some (.inl (1 : Int32))
   )
   )
   )
  else
  (if a1 = (9 : Int32) then
   (Option.bind (gR 5 3 Mi a0) fun v28 =>
   (Option.bind (gI 2 5 Mi v28) fun v29 =>
   some (.inl v29)
   )
   )
  else
  (if a1 = (10 : Int32) then
   (Option.bind (gR 5 3 Mi a0) fun v30 =>
   (Option.bind (gI 2 6 Mi v30) fun v31 =>
   some (.inl v31)
   )
   )
  else
  (if a1 = (11 : Int32) then
   (Option.bind (gI 5 10 Mi a0) fun v32 =>
   some (.inl v32)
   )
  else
  none
  )
  )
  )
  )
  )
  )
  )
  )
  )
  )
  )
  )
  )
theorem yk_X6_count : yok yX6_count 1 := by decide +kernel
set_option maxHeartbeats 4000000 in
set_option maxRecDepth 100000 in
theorem w_X6_count {G : gG} (hG : GOK G) (hY : GY G) {l : Launch} (hlf : l.stackTraces = false) {a0 : Nat} {a1 : Int32} {Mi : Mem} {out : (Int32) ⊕ String} (hp : p_X6_count a0 a1 Mi = some out) : CX G l yX6_count (wT yX6_count cX6_count 2 (some FieldType.int)) rm_X6_count [.ref a0, .int a1] Mi (sm (fun r => (some (.int r), Mi)) out) 1 6 := by
  refine CX_of (own := RX6) (maxL := 2) (ret := (some FieldType.int)) hG (by decide) rfl (Nat.le_of_ble_eq_true rfl) (fun p e s m below meth c A C0 hr hlk hno hM ls hl => ?_)
  have hl : lv_has ls 2 [(0, .ref a0), (1, .int a1)] := hl
  generalize ([.ref a0, .int a1] : List Value).toArray = args at C0 ⊢
  skip
  have hx := C0.1
  have hb := C0.2.1
  have hown := C0.2.2.2.1
  have hts := C0.2.2.2.2.1
  unfold p_X6_count at hp
  refine lv_iload_n hx hb dX6_count_0 rfl (lv_at hl 1 rfl) ?_
  by_cases hd : (Int32.toInt a1) < 0 ∨ 11 < (Int32.toInt a1)
  · replace hp := oT hd hp
    refine lv_tableOut (tgt := 191) hx hb dX6_count_1 hd (by decide) ?_
    exact mx_throwS (text := "no such number of the office") (rest := []) C0 hY hlf hlk hno hM xk_134 (by decide +kernel) rfl hl.1 (by rw [← Option.some.inj hp]; rfl) dX6_count_191 dX6_count_194 dX6_count_195 dX6_count_197 dX6_count_200 ⟨⟨by decide, Nat.le_of_ble_eq_true rfl⟩, by decide, by decide⟩ (by decide) (by decide)
  replace hp := oF hd hp
  by_cases hd0 : a1 = (0 : Int32)
  · replace hp := oT hd0 hp
    refine mr_tsIn (tgt := 64) C0 (0 : Int32) hd0 dX6_count_1 (by decide) (by decide) rfl (by decide) ?_
    refine lv_aload_n hx hb dX6_count_64 rfl (lv_at hl 0 rfl) ?_
    obtain ⟨v1, hv1, hp⟩ := ob hp
    refine mr_getR C0 cbX6 hM 3 (by decide) tw_282 hv1 dX6_count_65 ?_
    obtain ⟨v2, hv2, hp⟩ := ob hp
    refine mr_getR C0 cbX2 hM 0 (by decide) tw_115 hv2 dX6_count_68 ?_
    obtain ⟨v3, hv3, hp⟩ := ob hp
    refine mr_getI C0 cbX4 hM 0 (by decide) tw_50 hv3 dX6_count_71 ?_
    exact mx_iret C0 hr hlk hM rfl (by rw [← Option.some.inj hp]; rfl) (by decide) (by decide) dX6_count_74
  replace hp := oF hd0 hp
  by_cases hd1 : a1 = (1 : Int32)
  · replace hp := oT hd1 hp
    refine mr_tsIn (tgt := 75) C0 (1 : Int32) hd1 dX6_count_1 (by decide) (by decide) rfl (by decide) ?_
    refine lv_aload_n hx hb dX6_count_75 rfl (lv_at hl 0 rfl) ?_
    obtain ⟨v4, hv4, hp⟩ := ob hp
    refine mr_getR C0 cbX6 hM 3 (by decide) tw_282 hv4 dX6_count_76 ?_
    obtain ⟨v5, hv5, hp⟩ := ob hp
    refine mr_getI C0 cbX2 hM 1 (by decide) tw_121 hv5 dX6_count_79 ?_
    exact mx_iret C0 hr hlk hM rfl (by rw [← Option.some.inj hp]; rfl) (by decide) (by decide) dX6_count_82
  replace hp := oF hd1 hp
  by_cases hd2 : a1 = (2 : Int32)
  · replace hp := oT hd2 hp
    refine mr_tsIn (tgt := 83) C0 (2 : Int32) hd2 dX6_count_1 (by decide) (by decide) rfl (by decide) ?_
    refine lv_aload_n hx hb dX6_count_83 rfl (lv_at hl 0 rfl) ?_
    obtain ⟨v6, hv6, hp⟩ := ob hp
    refine mr_getR C0 cbX6 hM 3 (by decide) tw_282 hv6 dX6_count_84 ?_
    obtain ⟨v7, hv7, hp⟩ := ob hp
    refine mr_getR C0 cbX2 hM 0 (by decide) tw_115 hv7 dX6_count_87 ?_
    obtain ⟨v8, hv8, hp⟩ := ob hp
    refine mr_getI C0 cbX4 hM 1 (by decide) tw_54 hv8 dX6_count_90 ?_
    exact mx_iret C0 hr hlk hM rfl (by rw [← Option.some.inj hp]; rfl) (by decide) (by decide) dX6_count_93
  replace hp := oF hd2 hp
  by_cases hd3 : a1 = (3 : Int32)
  · replace hp := oT hd3 hp
    refine mr_tsIn (tgt := 94) C0 (3 : Int32) hd3 dX6_count_1 (by decide) (by decide) rfl (by decide) ?_
    refine lv_aload_n hx hb dX6_count_94 rfl (lv_at hl 0 rfl) ?_
    obtain ⟨v9, hv9, hp⟩ := ob hp
    refine mr_getR C0 cbX6 hM 3 (by decide) tw_282 hv9 dX6_count_95 ?_
    obtain ⟨v10, hv10, hp⟩ := ob hp
    refine mr_getL C0 cbX2 hM 9 (by decide) tw_141 hv10 dX6_count_98 ?_
    obtain ⟨v11, hv11, hp⟩ := ob hp
    refine mg_S1 (As := [.long v10]) (rest := []) C0 hM (w_J13_bitCount_95d88 hG hv11) tw_678 tw_621 tw_15 tw_622 yk_J13_bitCount_95d88 (by decide) rfl hl.1 (Nat.le_of_ble_eq_true rfl) dX6_count_101 rfl (fun H locs hM => ?_)
    exact mx_iret C0 hr hlk hM rfl (by rw [← Option.some.inj hp]; rfl) (by decide) (by decide) dX6_count_104
  replace hp := oF hd3 hp
  by_cases hd4 : a1 = (4 : Int32)
  · replace hp := oT hd4 hp
    refine mr_tsIn (tgt := 105) C0 (4 : Int32) hd4 dX6_count_1 (by decide) (by decide) rfl (by decide) ?_
    refine lv_aload_n hx hb dX6_count_105 rfl (lv_at hl 0 rfl) ?_
    obtain ⟨v12, hv12, hp⟩ := ob hp
    refine mr_getR C0 cbX6 hM 3 (by decide) tw_282 hv12 dX6_count_106 ?_
    obtain ⟨_, h13, hp⟩ := ob hp
    obtain ⟨v14, hv14, hp⟩ := ob hp
    refine mg_V1 (As := []) (rest := []) C0 cbX2 hM h13 rfl (w_X2_placedOnes hG hv14) tw_728 tw_729 tw_730 tw_3 tw_731 yk_X2_placedOnes (by decide) rfl hl.1 (Nat.le_of_ble_eq_true rfl) dX6_count_109 rfl (fun H locs hM => ?_)
    obtain ⟨v15, hv15, hp⟩ := ob hp
    refine mg_S1 (As := [.long v14]) (rest := []) C0 hM (w_J13_bitCount_95d88 hG hv15) tw_678 tw_621 tw_15 tw_622 yk_J13_bitCount_95d88 (by decide) rfl hl.1 (Nat.le_of_ble_eq_true rfl) dX6_count_112 rfl (fun H locs hM => ?_)
    exact mx_iret C0 hr hlk hM rfl (by rw [← Option.some.inj hp]; rfl) (by decide) (by decide) dX6_count_115
  replace hp := oF hd4 hp
  by_cases hd5 : a1 = (5 : Int32)
  · replace hp := oT hd5 hp
    refine mr_tsIn (tgt := 116) C0 (5 : Int32) hd5 dX6_count_1 (by decide) (by decide) rfl (by decide) ?_
    refine lv_aload_n hx hb dX6_count_116 rfl (lv_at hl 0 rfl) ?_
    obtain ⟨v16, hv16, hp⟩ := ob hp
    refine mr_getR C0 cbX6 hM 3 (by decide) tw_282 hv16 dX6_count_117 ?_
    obtain ⟨v17, hv17, hp⟩ := ob hp
    refine mr_getL C0 cbX2 hM 8 (by decide) tw_138 hv17 dX6_count_120 ?_
    obtain ⟨v18, hv18, hp⟩ := ob hp
    refine mg_S1 (As := [.long v17]) (rest := []) C0 hM (w_J13_bitCount_95d88 hG hv18) tw_678 tw_621 tw_15 tw_622 yk_J13_bitCount_95d88 (by decide) rfl hl.1 (Nat.le_of_ble_eq_true rfl) dX6_count_123 rfl (fun H locs hM => ?_)
    exact mx_iret C0 hr hlk hM rfl (by rw [← Option.some.inj hp]; rfl) (by decide) (by decide) dX6_count_126
  replace hp := oF hd5 hp
  by_cases hd6 : a1 = (6 : Int32)
  · replace hp := oT hd6 hp
    refine mr_tsIn (tgt := 127) C0 (6 : Int32) hd6 dX6_count_1 (by decide) (by decide) rfl (by decide) ?_
    refine lv_aload_n hx hb dX6_count_127 rfl (lv_at hl 0 rfl) ?_
    obtain ⟨v19, hv19, hp⟩ := ob hp
    refine mr_getR C0 cbX6 hM 3 (by decide) tw_282 hv19 dX6_count_128 ?_
    obtain ⟨v20, hv20, hp⟩ := ob hp
    refine mr_getR C0 cbX2 hM 0 (by decide) tw_115 hv20 dX6_count_131 ?_
    obtain ⟨v21, hv21, hp⟩ := ob hp
    refine mr_getI C0 cbX4 hM 2 (by decide) tw_56 hv21 dX6_count_134 ?_
    exact mx_iret C0 hr hlk hM rfl (by rw [← Option.some.inj hp]; rfl) (by decide) (by decide) dX6_count_137
  replace hp := oF hd6 hp
  by_cases hd7 : a1 = (7 : Int32)
  · replace hp := oT hd7 hp
    refine mr_tsIn (tgt := 138) C0 (7 : Int32) hd7 dX6_count_1 (by decide) (by decide) rfl (by decide) ?_
    refine lv_aload_n hx hb dX6_count_138 rfl (lv_at hl 0 rfl) ?_
    obtain ⟨v22, hv22, hp⟩ := ob hp
    refine mr_getR C0 cbX6 hM 3 (by decide) tw_282 hv22 dX6_count_139 ?_
    obtain ⟨v23, hv23, hp⟩ := ob hp
    refine mr_getI C0 cbX2 hM 3 (by decide) tw_126 hv23 dX6_count_142 ?_
    refine lv_if_eq (tgt := 152) hx hb dX6_count_145 (by decide) (fun c24 => ?_) (fun c24 => ?_)
    · replace hp := oT c24 hp
      refine lv_iconst (v := 0) hx hb dX6_count_152 (by decide) ?_
      exact mx_iret C0 hr hlk hM rfl (by rw [← Option.some.inj hp]; rfl) (by decide) (by decide) dX6_count_153
    · replace hp := oF c24 hp
      refine lv_iconst (v := 1) hx hb dX6_count_148 (by decide) ?_
      refine lv_goto (tgt := 153) hx hb dX6_count_149 (by decide) ?_
      exact mx_iret C0 hr hlk hM rfl (by rw [← Option.some.inj hp]; rfl) (by decide) (by decide) dX6_count_153
  replace hp := oF hd7 hp
  by_cases hd8 : a1 = (8 : Int32)
  · replace hp := oT hd8 hp
    refine mr_tsIn (tgt := 154) C0 (8 : Int32) hd8 dX6_count_1 (by decide) (by decide) rfl (by decide) ?_
    refine lv_aload_n hx hb dX6_count_154 rfl (lv_at hl 0 rfl) ?_
    obtain ⟨v25, hv25, hp⟩ := ob hp
    refine mr_getR C0 cbX6 hM 3 (by decide) tw_282 hv25 dX6_count_155 ?_
    obtain ⟨v26, hv26, hp⟩ := ob hp
    refine mr_getI C0 cbX2 hM 4 (by decide) tw_129 hv26 dX6_count_158 ?_
    refine lv_if_eq (tgt := 168) hx hb dX6_count_161 (by decide) (fun c27 => ?_) (fun c27 => ?_)
    · replace hp := oT c27 hp
      refine lv_iconst (v := 0) hx hb dX6_count_168 (by decide) ?_
      exact mx_iret C0 hr hlk hM rfl (by rw [← Option.some.inj hp]; rfl) (by decide) (by decide) dX6_count_169
    · replace hp := oF c27 hp
      refine lv_iconst (v := 1) hx hb dX6_count_164 (by decide) ?_
      refine lv_goto (tgt := 169) hx hb dX6_count_165 (by decide) ?_
      exact mx_iret C0 hr hlk hM rfl (by rw [← Option.some.inj hp]; rfl) (by decide) (by decide) dX6_count_169
  replace hp := oF hd8 hp
  by_cases hd9 : a1 = (9 : Int32)
  · replace hp := oT hd9 hp
    refine mr_tsIn (tgt := 170) C0 (9 : Int32) hd9 dX6_count_1 (by decide) (by decide) rfl (by decide) ?_
    refine lv_aload_n hx hb dX6_count_170 rfl (lv_at hl 0 rfl) ?_
    obtain ⟨v28, hv28, hp⟩ := ob hp
    refine mr_getR C0 cbX6 hM 3 (by decide) tw_282 hv28 dX6_count_171 ?_
    obtain ⟨v29, hv29, hp⟩ := ob hp
    refine mr_getI C0 cbX2 hM 5 (by decide) tw_132 hv29 dX6_count_174 ?_
    exact mx_iret C0 hr hlk hM rfl (by rw [← Option.some.inj hp]; rfl) (by decide) (by decide) dX6_count_177
  replace hp := oF hd9 hp
  by_cases hd10 : a1 = (10 : Int32)
  · replace hp := oT hd10 hp
    refine mr_tsIn (tgt := 178) C0 (10 : Int32) hd10 dX6_count_1 (by decide) (by decide) rfl (by decide) ?_
    refine lv_aload_n hx hb dX6_count_178 rfl (lv_at hl 0 rfl) ?_
    obtain ⟨v30, hv30, hp⟩ := ob hp
    refine mr_getR C0 cbX6 hM 3 (by decide) tw_282 hv30 dX6_count_179 ?_
    obtain ⟨v31, hv31, hp⟩ := ob hp
    refine mr_getI C0 cbX2 hM 6 (by decide) tw_134 hv31 dX6_count_182 ?_
    exact mx_iret C0 hr hlk hM rfl (by rw [← Option.some.inj hp]; rfl) (by decide) (by decide) dX6_count_185
  replace hp := oF hd10 hp
  by_cases hd11 : a1 = (11 : Int32)
  · replace hp := oT hd11 hp
    refine mr_tsIn (tgt := 186) C0 (11 : Int32) hd11 dX6_count_1 (by decide) (by decide) rfl (by decide) ?_
    refine lv_aload_n hx hb dX6_count_186 rfl (lv_at hl 0 rfl) ?_
    obtain ⟨v32, hv32, hp⟩ := ob hp
    refine mr_getI C0 cbX6 hM 10 (by decide) tw_289 hv32 dX6_count_187 ?_
    exact mx_iret C0 hr hlk hM rfl (by rw [← Option.some.inj hp]; rfl) (by decide) (by decide) dX6_count_190
  replace hp := oF hd11 hp
  cases hp
abbrev rm_X6_needSchool : Room := { frames := 6, cells := 1, slots := 6, locals := 90 }
def p_X6_needSchool (a0 : Nat) (a1 : Int32) (Mi : Mem) : Option ((Unit) ⊕ String) :=
  (if a1 < 0 then
   some (.inr "java/lang/IndexOutOfBoundsException")
  else
   (Option.bind (gR 5 3 Mi a0) fun v2 =>
   (Option.bind (gR 2 0 Mi v2) fun v3 =>
   (Option.bind (gI 4 0 Mi v3) fun v4 =>
   (if a1 < v4 then
    some (.inl ())
   else
    some (.inr "java/lang/IndexOutOfBoundsException")
   )
   )
   )
   )
  )
theorem yk_X6_needSchool : yok yX6_needSchool 1 := by decide +kernel
set_option maxHeartbeats 4000000 in
set_option maxRecDepth 100000 in
theorem w_X6_needSchool {G : gG} (hG : GOK G) (hY : GY G) {l : Launch} (hlf : l.stackTraces = false) {a0 : Nat} {a1 : Int32} {Mi : Mem} {out : (Unit) ⊕ String} (hp : p_X6_needSchool a0 a1 Mi = some out) : CX G l yX6_needSchool (wT yX6_needSchool cX6_needSchool 2 (none)) rm_X6_needSchool [.ref a0, .int a1] Mi (sm (fun r => (none, Mi)) out) 1 6 := by
  refine CX_of (own := RX6) (maxL := 2) (ret := (none)) hG (by decide) rfl (Nat.le_of_ble_eq_true rfl) (fun p e s m below meth c A C0 hr hlk hno hM ls hl => ?_)
  have hl : lv_has ls 2 [(0, .ref a0), (1, .int a1)] := hl
  generalize ([.ref a0, .int a1] : List Value).toArray = args at C0 ⊢
  skip
  have hx := C0.1
  have hb := C0.2.1
  have hown := C0.2.2.2.1
  have hts := C0.2.2.2.2.1
  unfold p_X6_needSchool at hp
  refine lv_iload_n hx hb dX6_needSchool_0 rfl (lv_at hl 1 rfl) ?_
  refine lv_if_lt (tgt := 18) hx hb dX6_needSchool_1 (by decide) (fun c1 => ?_) (fun c1 => ?_)
  · replace hp := oT c1 hp
    exact mx_throwSW (text := "no such school") (rest := []) C0 hY hlf hlk hno hM xk_358 (by decide +kernel) rfl hl.1 (by rw [← Option.some.inj hp]; rfl) dX6_needSchool_18 dX6_needSchool_21 dX6_needSchool_22 dX6_needSchool_25 dX6_needSchool_28 ⟨⟨by decide, Nat.le_of_ble_eq_true rfl⟩, by decide, by decide⟩ (by decide) (by decide)
  · replace hp := oF c1 hp
    refine lv_iload_n hx hb dX6_needSchool_4 rfl (lv_at hl 1 rfl) ?_
    refine lv_aload_n hx hb dX6_needSchool_5 rfl (lv_at hl 0 rfl) ?_
    obtain ⟨v2, hv2, hp⟩ := ob hp
    refine mr_getR C0 cbX6 hM 3 (by decide) tw_282 hv2 dX6_needSchool_6 ?_
    obtain ⟨v3, hv3, hp⟩ := ob hp
    refine mr_getR C0 cbX2 hM 0 (by decide) tw_115 hv3 dX6_needSchool_9 ?_
    obtain ⟨v4, hv4, hp⟩ := ob hp
    refine mr_getI C0 cbX4 hM 0 (by decide) tw_50 hv4 dX6_needSchool_12 ?_
    refine lv_icmp_lt (tgt := 29) hx hb dX6_needSchool_15 (by decide) (fun c5 => ?_) (fun c5 => ?_)
    · replace hp := oT c5 hp
      exact mx_vret C0 hr hlk hM (by rw [← Option.some.inj hp]; rfl) (by decide) (by decide) dX6_needSchool_29
    · replace hp := oF c5 hp
      exact mx_throwSW (text := "no such school") (rest := []) C0 hY hlf hlk hno hM xk_358 (by decide +kernel) rfl hl.1 (by rw [← Option.some.inj hp]; rfl) dX6_needSchool_18 dX6_needSchool_21 dX6_needSchool_22 dX6_needSchool_25 dX6_needSchool_28 ⟨⟨by decide, Nat.le_of_ble_eq_true rfl⟩, by decide, by decide⟩ (by decide) (by decide)
abbrev rm_X6_school : Room := { frames := 7, cells := 2, slots := 12, locals := 111 }
def p_X6_school (a0 : Nat) (a1 : Int32) (a2 : Int32) (Mi : Mem) : Option ((Int32) ⊕ String) :=
  (Option.bind (isC 5 Mi a0) fun _ =>
  (obx (p_X6_needSchool a0 a1 Mi) fun v2 =>
  (Option.bind (gR 5 3 Mi a0) fun v4 =>
  (Option.bind (gR 2 0 Mi v4) fun v5 =>
  (if (Int32.toInt a2) < 0 ∨ 9 < (Int32.toInt a2) then
   some (.inr "java/lang/IllegalArgumentException")
  else
  (if a2 = (0 : Int32) then
   (Option.bind (gR 5 3 Mi a0) fun v6 =>
   (Option.bind (gR 2 18 Mi v6) fun v7 =>
   (Option.bind (aI 0 Mi v7 a1) fun v8 =>
   some (.inl v8)
   )
   )
   )
  else
  (if a2 = (1 : Int32) then
   (Option.bind (gR 4 4 Mi v5) fun v9 =>
   (Option.bind (aI 0 Mi v9 a1) fun v10 =>
   some (.inl v10)
   )
   )
  else
  (if a2 = (2 : Int32) then
   (Option.bind (gR 4 5 Mi v5) fun v11 =>
   (Option.bind (aI 0 Mi v11 a1) fun v12 =>
   some (.inl v12)
   )
   )
  else
  (if a2 = (3 : Int32) then
   (Option.bind (gR 4 6 Mi v5) fun v13 =>
   (Option.bind (aI 0 Mi v13 a1) fun v14 =>
   (Option.bind (p_X6_rowLength v14 Mi) fun v15 =>
   some (.inl v15)
   )
   )
   )
  else
  (if a2 = (4 : Int32) then
   (Option.bind (isC 4 Mi v5) fun _ =>
   (Option.bind (p_X4_isZoned v5 a1 Mi) fun v17 =>
   (if v17 = 0 then
    some (.inl (0 : Int32))
   else
    some (.inl (1 : Int32))
   )
   )
   )
  else
  (if a2 = (5 : Int32) then
   (Option.bind (gR 4 7 Mi v5) fun v19 =>
   (Option.bind (aI 0 Mi v19 a1) fun v20 =>
   some (.inl v20)
   )
   )
  else
  (if a2 = (6 : Int32) then
   (Option.bind (gR 5 3 Mi a0) fun v21 =>
   (Option.bind (isC 2 Mi v21) fun _ =>
   (Option.bind (p_X2_holdersOf v21 a1 Mi) fun v23 =>
   (Option.bind (p_J13_bitCount_95d88 v23 Mi) fun v24 =>
   some (.inl v24)
   )
   )
   )
   )
  else
  (if a2 = (7 : Int32) then
   (Option.bind (gR 5 3 Mi a0) fun v25 =>
   (Option.bind (isC 2 Mi v25) fun _ =>
   (Option.bind (p_X2_holdersOf v25 a1 Mi) fun v27 =>
   (Option.bind (gR 5 3 Mi a0) fun v28 =>
   (Option.bind (gL 2 10 Mi v28) fun v29 =>
   (Option.bind (p_J13_bitCount_95d88 (v27 &&& v29) Mi) fun v30 =>
   some (.inl v30)
   )
   )
   )
   )
   )
   )
  else
  (if a2 = (8 : Int32) then
   (Option.bind (gR 5 3 Mi a0) fun v31 =>
   (Option.bind (gR 2 19 Mi v31) fun v32 =>
   (Option.bind (aI 0 Mi v32 a1) fun v33 =>
   some (.inl v33)
   )
   )
   )
  else
  (if a2 = (9 : Int32) then
   (Option.bind (gR 5 3 Mi a0) fun v34 =>
   (Option.bind (isC 2 Mi v34) fun _ =>
   (Option.bind (p_X2_waitersOf v34 a1 Mi) fun v36 =>
   (Option.bind (p_J13_bitCount_95d88 v36 Mi) fun v37 =>
   some (.inl v37)
   )
   )
   )
   )
  else
  none
  )
  )
  )
  )
  )
  )
  )
  )
  )
  )
  )
  )
  )
  ))
theorem yk_X6_school : yok yX6_school 2 := by decide +kernel
set_option maxHeartbeats 4000000 in
set_option maxRecDepth 100000 in
theorem w_X6_school {G : gG} (hG : GOK G) (hY : GY G) {l : Launch} (hlf : l.stackTraces = false) {a0 : Nat} {a1 : Int32} {a2 : Int32} {Mi : Mem} {out : (Int32) ⊕ String} (hp : p_X6_school a0 a1 a2 Mi = some out) : CX G l yX6_school (wT yX6_school cX6_school 4 (some FieldType.int)) rm_X6_school [.ref a0, .int a1, .int a2] Mi (sm (fun r => (some (.int r), Mi)) out) 2 12 := by
  refine CX_of (own := RX6) (maxL := 4) (ret := (some FieldType.int)) hG (by decide) rfl (Nat.le_of_ble_eq_true rfl) (fun p e s m below meth c A C0 hr hlk hno hM ls hl => ?_)
  have hl : lv_has ls 4 [(0, .ref a0), (1, .int a1), (2, .int a2)] := hl
  generalize ([.ref a0, .int a1, .int a2] : List Value).toArray = args at C0 ⊢
  skip
  have hx := C0.1
  have hb := C0.2.1
  have hown := C0.2.2.2.1
  have hts := C0.2.2.2.2.1
  unfold p_X6_school at hp
  refine lv_aload_n hx hb dX6_school_0 rfl (lv_at hl 0 rfl) ?_
  refine lv_iload_n hx hb dX6_school_1 rfl (lv_at hl 1 rfl) ?_
  obtain ⟨_, h1, hp⟩ := ob hp
  rcases obx_at hp with ⟨E3, hv2, hp⟩ | ⟨v2, hv2, hp⟩
  · exact mx_V_x (As := [.int a1]) (rest := []) C0 hno hlk cbX6 hM h1 rfl (w_X6_needSchool hG hY hlf hv2) tw_808 tw_810 tws_2 tw_1 tw_811 yk_X6_needSchool (by decide) rfl hl.1 (Nat.le_of_ble_eq_true rfl) dX6_school_2 rfl (by rw [hp]; rfl) (by decide) (by decide)
  refine mx_V_0 (As := [.int a1]) (rest := []) C0 cbX6 hM h1 rfl (w_X6_needSchool hG hY hlf hv2) tw_808 tw_810 tws_2 tw_1 tw_811 yk_X6_needSchool (by decide) rfl hl.1 (Nat.le_of_ble_eq_true rfl) dX6_school_2 rfl (fun H locs hM => ?_)
  refine lv_aload_n hx hb dX6_school_5 rfl (lv_at hl 0 rfl) ?_
  obtain ⟨v4, hv4, hp⟩ := ob hp
  refine mr_getR C0 cbX6 hM 3 (by decide) tw_282 hv4 dX6_school_6 ?_
  obtain ⟨v5, hv5, hp⟩ := ob hp
  refine mr_getR C0 cbX2 hM 0 (by decide) tw_115 hv5 dX6_school_9 ?_
  refine lv_astore_n (lv' := [(3, .ref v5), (0, .ref a0), (1, .int a1), (2, .int a2)]) hx hb dX6_school_12 rfl hl (by decide) rfl (fun ls hl => ?_)
  refine lv_iload_n hx hb dX6_school_13 rfl (lv_at hl 3 rfl) ?_
  by_cases hd : (Int32.toInt a2) < 0 ∨ 9 < (Int32.toInt a2)
  · replace hp := oT hd hp
    refine lv_tableOut (tgt := 177) hx hb dX6_school_14 hd (by decide) ?_
    exact mx_throwS (text := "no such property of a school") (rest := []) C0 hY hlf hlk hno hM xk_134 (by decide +kernel) rfl hl.1 (by rw [← Option.some.inj hp]; rfl) dX6_school_177 dX6_school_180 dX6_school_181 dX6_school_183 dX6_school_186 ⟨⟨by decide, Nat.le_of_ble_eq_true rfl⟩, by decide, by decide⟩ (by decide) (by decide)
  replace hp := oF hd hp
  by_cases hd0 : a2 = (0 : Int32)
  · replace hp := oT hd0 hp
    refine mr_tsIn (tgt := 68) C0 (0 : Int32) hd0 dX6_school_14 (by decide) (by decide) rfl (by decide) ?_
    refine lv_aload_n hx hb dX6_school_68 rfl (lv_at hl 1 rfl) ?_
    obtain ⟨v6, hv6, hp⟩ := ob hp
    refine mr_getR C0 cbX6 hM 3 (by decide) tw_282 hv6 dX6_school_69 ?_
    obtain ⟨v7, hv7, hp⟩ := ob hp
    refine mr_getR C0 cbX2 hM 18 (by decide) tw_164 hv7 dX6_school_72 ?_
    refine lv_iload_n hx hb dX6_school_75 rfl (lv_at hl 2 rfl) ?_
    obtain ⟨v8, hv8, hp⟩ := ob hp
    refine mr_iald C0 hM hv8 dX6_school_76 ?_
    exact mx_iret C0 hr hlk hM rfl (by rw [← Option.some.inj hp]; rfl) (by decide) (by decide) dX6_school_77
  replace hp := oF hd0 hp
  by_cases hd1 : a2 = (1 : Int32)
  · replace hp := oT hd1 hp
    refine mr_tsIn (tgt := 78) C0 (1 : Int32) hd1 dX6_school_14 (by decide) (by decide) rfl (by decide) ?_
    refine lv_aload_n hx hb dX6_school_78 rfl (lv_at hl 0 rfl) ?_
    obtain ⟨v9, hv9, hp⟩ := ob hp
    refine mr_getR C0 cbX4 hM 4 (by decide) tw_63 hv9 dX6_school_79 ?_
    refine lv_iload_n hx hb dX6_school_82 rfl (lv_at hl 2 rfl) ?_
    obtain ⟨v10, hv10, hp⟩ := ob hp
    refine mr_iald C0 hM hv10 dX6_school_83 ?_
    exact mx_iret C0 hr hlk hM rfl (by rw [← Option.some.inj hp]; rfl) (by decide) (by decide) dX6_school_84
  replace hp := oF hd1 hp
  by_cases hd2 : a2 = (2 : Int32)
  · replace hp := oT hd2 hp
    refine mr_tsIn (tgt := 85) C0 (2 : Int32) hd2 dX6_school_14 (by decide) (by decide) rfl (by decide) ?_
    refine lv_aload_n hx hb dX6_school_85 rfl (lv_at hl 0 rfl) ?_
    obtain ⟨v11, hv11, hp⟩ := ob hp
    refine mr_getR C0 cbX4 hM 5 (by decide) tw_66 hv11 dX6_school_86 ?_
    refine lv_iload_n hx hb dX6_school_89 rfl (lv_at hl 2 rfl) ?_
    obtain ⟨v12, hv12, hp⟩ := ob hp
    refine mr_iald C0 hM hv12 dX6_school_90 ?_
    exact mx_iret C0 hr hlk hM rfl (by rw [← Option.some.inj hp]; rfl) (by decide) (by decide) dX6_school_91
  replace hp := oF hd2 hp
  by_cases hd3 : a2 = (3 : Int32)
  · replace hp := oT hd3 hp
    refine mr_tsIn (tgt := 92) C0 (3 : Int32) hd3 dX6_school_14 (by decide) (by decide) rfl (by decide) ?_
    refine lv_aload_n hx hb dX6_school_92 rfl (lv_at hl 0 rfl) ?_
    obtain ⟨v13, hv13, hp⟩ := ob hp
    refine mr_getR C0 cbX4 hM 6 (by decide) tw_69 hv13 dX6_school_93 ?_
    refine lv_iload_n hx hb dX6_school_96 rfl (lv_at hl 2 rfl) ?_
    obtain ⟨v14, hv14, hp⟩ := ob hp
    refine mr_iald C0 hM hv14 dX6_school_97 ?_
    obtain ⟨v15, hv15, hp⟩ := ob hp
    refine mg_S1 (As := [.int v14]) (rest := []) C0 hM (w_X6_rowLength hG hv15) tw_828 tw_829 tw_1 tw_830 yk_X6_rowLength (by decide) rfl hl.1 (Nat.le_of_ble_eq_true rfl) dX6_school_98 rfl (fun H locs hM => ?_)
    exact mx_iret C0 hr hlk hM rfl (by rw [← Option.some.inj hp]; rfl) (by decide) (by decide) dX6_school_101
  replace hp := oF hd3 hp
  by_cases hd4 : a2 = (4 : Int32)
  · replace hp := oT hd4 hp
    refine mr_tsIn (tgt := 102) C0 (4 : Int32) hd4 dX6_school_14 (by decide) (by decide) rfl (by decide) ?_
    refine lv_aload_n hx hb dX6_school_102 rfl (lv_at hl 0 rfl) ?_
    refine lv_iload_n hx hb dX6_school_103 rfl (lv_at hl 2 rfl) ?_
    obtain ⟨_, h16, hp⟩ := ob hp
    obtain ⟨v17, hv17, hp⟩ := ob hp
    refine mg_V1 (As := [.int a1]) (rest := []) C0 cbX4 hM h16 rfl (w_X4_isZoned hG hv17) tw_832 tw_462 tw_463 tw_4 tw_464 yk_X4_isZoned (by decide) rfl hl.1 (Nat.le_of_ble_eq_true rfl) dX6_school_104 rfl (fun H locs hM => ?_)
    refine lv_if_eq (tgt := 114) hx hb dX6_school_107 (by decide) (fun c18 => ?_) (fun c18 => ?_)
    · replace hp := oT c18 hp
      refine lv_iconst (v := 0) hx hb dX6_school_114 (by decide) ?_
      exact mx_iret C0 hr hlk hM rfl (by rw [← Option.some.inj hp]; rfl) (by decide) (by decide) dX6_school_115
    · replace hp := oF c18 hp
      refine lv_iconst (v := 1) hx hb dX6_school_110 (by decide) ?_
      refine lv_goto (tgt := 115) hx hb dX6_school_111 (by decide) ?_
      exact mx_iret C0 hr hlk hM rfl (by rw [← Option.some.inj hp]; rfl) (by decide) (by decide) dX6_school_115
  replace hp := oF hd4 hp
  by_cases hd5 : a2 = (5 : Int32)
  · replace hp := oT hd5 hp
    refine mr_tsIn (tgt := 116) C0 (5 : Int32) hd5 dX6_school_14 (by decide) (by decide) rfl (by decide) ?_
    refine lv_aload_n hx hb dX6_school_116 rfl (lv_at hl 0 rfl) ?_
    obtain ⟨v19, hv19, hp⟩ := ob hp
    refine mr_getR C0 cbX4 hM 7 (by decide) tw_71 hv19 dX6_school_117 ?_
    refine lv_iload_n hx hb dX6_school_120 rfl (lv_at hl 2 rfl) ?_
    obtain ⟨v20, hv20, hp⟩ := ob hp
    refine mr_iald C0 hM hv20 dX6_school_121 ?_
    exact mx_iret C0 hr hlk hM rfl (by rw [← Option.some.inj hp]; rfl) (by decide) (by decide) dX6_school_122
  replace hp := oF hd5 hp
  by_cases hd6 : a2 = (6 : Int32)
  · replace hp := oT hd6 hp
    refine mr_tsIn (tgt := 123) C0 (6 : Int32) hd6 dX6_school_14 (by decide) (by decide) rfl (by decide) ?_
    refine lv_aload_n hx hb dX6_school_123 rfl (lv_at hl 1 rfl) ?_
    obtain ⟨v21, hv21, hp⟩ := ob hp
    refine mr_getR C0 cbX6 hM 3 (by decide) tw_282 hv21 dX6_school_124 ?_
    refine lv_iload_n hx hb dX6_school_127 rfl (lv_at hl 2 rfl) ?_
    obtain ⟨_, h22, hp⟩ := ob hp
    obtain ⟨v23, hv23, hp⟩ := ob hp
    refine mg_V1 (As := [.int a1]) (rest := []) C0 cbX2 hM h22 rfl (w_X2_holdersOf hG hv23) tw_677 tw_555 tw_556 tw_3 tw_557 yk_X2_holdersOf (by decide) rfl hl.1 (Nat.le_of_ble_eq_true rfl) dX6_school_128 rfl (fun H locs hM => ?_)
    obtain ⟨v24, hv24, hp⟩ := ob hp
    refine mg_S1 (As := [.long v23]) (rest := []) C0 hM (w_J13_bitCount_95d88 hG hv24) tw_678 tw_621 tw_15 tw_622 yk_J13_bitCount_95d88 (by decide) rfl hl.1 (Nat.le_of_ble_eq_true rfl) dX6_school_131 rfl (fun H locs hM => ?_)
    exact mx_iret C0 hr hlk hM rfl (by rw [← Option.some.inj hp]; rfl) (by decide) (by decide) dX6_school_134
  replace hp := oF hd6 hp
  by_cases hd7 : a2 = (7 : Int32)
  · replace hp := oT hd7 hp
    refine mr_tsIn (tgt := 135) C0 (7 : Int32) hd7 dX6_school_14 (by decide) (by decide) rfl (by decide) ?_
    refine lv_aload_n hx hb dX6_school_135 rfl (lv_at hl 1 rfl) ?_
    obtain ⟨v25, hv25, hp⟩ := ob hp
    refine mr_getR C0 cbX6 hM 3 (by decide) tw_282 hv25 dX6_school_136 ?_
    refine lv_iload_n hx hb dX6_school_139 rfl (lv_at hl 2 rfl) ?_
    obtain ⟨_, h26, hp⟩ := ob hp
    obtain ⟨v27, hv27, hp⟩ := ob hp
    refine mg_V1 (As := [.int a1]) (rest := []) C0 cbX2 hM h26 rfl (w_X2_holdersOf hG hv27) tw_677 tw_555 tw_556 tw_3 tw_557 yk_X2_holdersOf (by decide) rfl hl.1 (Nat.le_of_ble_eq_true rfl) dX6_school_140 rfl (fun H locs hM => ?_)
    refine lv_aload_n hx hb dX6_school_143 rfl (lv_at hl 1 rfl) ?_
    obtain ⟨v28, hv28, hp⟩ := ob hp
    refine mr_getR C0 cbX6 hM 3 (by decide) tw_282 hv28 dX6_school_144 ?_
    obtain ⟨v29, hv29, hp⟩ := ob hp
    refine mr_getL C0 cbX2 hM 10 (by decide) tw_143 hv29 dX6_school_147 ?_
    refine lv_land hx hb dX6_school_150 ?_
    obtain ⟨v30, hv30, hp⟩ := ob hp
    refine mg_S1 (As := [.long (v27 &&& v29)]) (rest := []) C0 hM (w_J13_bitCount_95d88 hG hv30) tw_678 tw_621 tw_15 tw_622 yk_J13_bitCount_95d88 (by decide) rfl hl.1 (Nat.le_of_ble_eq_true rfl) dX6_school_151 rfl (fun H locs hM => ?_)
    exact mx_iret C0 hr hlk hM rfl (by rw [← Option.some.inj hp]; rfl) (by decide) (by decide) dX6_school_154
  replace hp := oF hd7 hp
  by_cases hd8 : a2 = (8 : Int32)
  · replace hp := oT hd8 hp
    refine mr_tsIn (tgt := 155) C0 (8 : Int32) hd8 dX6_school_14 (by decide) (by decide) rfl (by decide) ?_
    refine lv_aload_n hx hb dX6_school_155 rfl (lv_at hl 1 rfl) ?_
    obtain ⟨v31, hv31, hp⟩ := ob hp
    refine mr_getR C0 cbX6 hM 3 (by decide) tw_282 hv31 dX6_school_156 ?_
    obtain ⟨v32, hv32, hp⟩ := ob hp
    refine mr_getR C0 cbX2 hM 19 (by decide) tw_166 hv32 dX6_school_159 ?_
    refine lv_iload_n hx hb dX6_school_162 rfl (lv_at hl 2 rfl) ?_
    obtain ⟨v33, hv33, hp⟩ := ob hp
    refine mr_iald C0 hM hv33 dX6_school_163 ?_
    exact mx_iret C0 hr hlk hM rfl (by rw [← Option.some.inj hp]; rfl) (by decide) (by decide) dX6_school_164
  replace hp := oF hd8 hp
  by_cases hd9 : a2 = (9 : Int32)
  · replace hp := oT hd9 hp
    refine mr_tsIn (tgt := 165) C0 (9 : Int32) hd9 dX6_school_14 (by decide) (by decide) rfl (by decide) ?_
    refine lv_aload_n hx hb dX6_school_165 rfl (lv_at hl 1 rfl) ?_
    obtain ⟨v34, hv34, hp⟩ := ob hp
    refine mr_getR C0 cbX6 hM 3 (by decide) tw_282 hv34 dX6_school_166 ?_
    refine lv_iload_n hx hb dX6_school_169 rfl (lv_at hl 2 rfl) ?_
    obtain ⟨_, h35, hp⟩ := ob hp
    obtain ⟨v36, hv36, hp⟩ := ob hp
    refine mg_V1 (As := [.int a1]) (rest := []) C0 cbX2 hM h35 rfl (w_X2_waitersOf hG hv36) tw_703 tw_642 tw_643 tw_3 tw_644 yk_X2_waitersOf (by decide) rfl hl.1 (Nat.le_of_ble_eq_true rfl) dX6_school_170 rfl (fun H locs hM => ?_)
    obtain ⟨v37, hv37, hp⟩ := ob hp
    refine mg_S1 (As := [.long v36]) (rest := []) C0 hM (w_J13_bitCount_95d88 hG hv37) tw_678 tw_621 tw_15 tw_622 yk_J13_bitCount_95d88 (by decide) rfl hl.1 (Nat.le_of_ble_eq_true rfl) dX6_school_173 rfl (fun H locs hM => ?_)
    exact mx_iret C0 hr hlk hM rfl (by rw [← Option.some.inj hp]; rfl) (by decide) (by decide) dX6_school_176
  replace hp := oF hd9 hp
  cases hp
abbrev rm_X6_rule : Room := { frames := 7, cells := 2, slots := 12, locals := 111 }
def p_X6_rule (a0 : Nat) (a1 : Int32) (a2 : Int32) (Mi : Mem) : Option ((Int32) ⊕ String) :=
  (Option.bind (isC 5 Mi a0) fun _ =>
  (obx (p_X6_needSchool a0 a1 Mi) fun v2 =>
  (Option.bind (gR 5 3 Mi a0) fun v4 =>
  (Option.bind (gR 2 0 Mi v4) fun v5 =>
  (Option.bind (gR 4 6 Mi v5) fun v6 =>
  (Option.bind (aI 0 Mi v6 a1) fun v7 =>
  (Option.bind (p_X6_rowEntry v7 a2 Mi) fun v8 =>
  (if v8 = (-1 : Int32) then
   some (.inr "java/util/NoSuchElementException")
  else
   some (.inl v8)
  )
  )
  )
  )
  )
  )
  ))
theorem yk_X6_rule : yok yX6_rule 2 := by decide +kernel
set_option maxHeartbeats 4000000 in
set_option maxRecDepth 100000 in
theorem w_X6_rule {G : gG} (hG : GOK G) (hY : GY G) {l : Launch} (hlf : l.stackTraces = false) {a0 : Nat} {a1 : Int32} {a2 : Int32} {Mi : Mem} {out : (Int32) ⊕ String} (hp : p_X6_rule a0 a1 a2 Mi = some out) : CX G l yX6_rule (wT yX6_rule cX6_rule 4 (some FieldType.int)) rm_X6_rule [.ref a0, .int a1, .int a2] Mi (sm (fun r => (some (.int r), Mi)) out) 2 12 := by
  refine CX_of (own := RX6) (maxL := 4) (ret := (some FieldType.int)) hG (by decide) rfl (Nat.le_of_ble_eq_true rfl) (fun p e s m below meth c A C0 hr hlk hno hM ls hl => ?_)
  have hl : lv_has ls 4 [(0, .ref a0), (1, .int a1), (2, .int a2)] := hl
  generalize ([.ref a0, .int a1, .int a2] : List Value).toArray = args at C0 ⊢
  skip
  have hx := C0.1
  have hb := C0.2.1
  have hown := C0.2.2.2.1
  have hts := C0.2.2.2.2.1
  unfold p_X6_rule at hp
  refine lv_aload_n hx hb dX6_rule_0 rfl (lv_at hl 0 rfl) ?_
  refine lv_iload_n hx hb dX6_rule_1 rfl (lv_at hl 1 rfl) ?_
  obtain ⟨_, h1, hp⟩ := ob hp
  rcases obx_at hp with ⟨E3, hv2, hp⟩ | ⟨v2, hv2, hp⟩
  · exact mx_V_x (As := [.int a1]) (rest := []) C0 hno hlk cbX6 hM h1 rfl (w_X6_needSchool hG hY hlf hv2) tw_808 tw_810 tws_2 tw_1 tw_811 yk_X6_needSchool (by decide) rfl hl.1 (Nat.le_of_ble_eq_true rfl) dX6_rule_2 rfl (by rw [hp]; rfl) (by decide) (by decide)
  refine mx_V_0 (As := [.int a1]) (rest := []) C0 cbX6 hM h1 rfl (w_X6_needSchool hG hY hlf hv2) tw_808 tw_810 tws_2 tw_1 tw_811 yk_X6_needSchool (by decide) rfl hl.1 (Nat.le_of_ble_eq_true rfl) dX6_rule_2 rfl (fun H locs hM => ?_)
  refine lv_aload_n hx hb dX6_rule_5 rfl (lv_at hl 0 rfl) ?_
  obtain ⟨v4, hv4, hp⟩ := ob hp
  refine mr_getR C0 cbX6 hM 3 (by decide) tw_282 hv4 dX6_rule_6 ?_
  obtain ⟨v5, hv5, hp⟩ := ob hp
  refine mr_getR C0 cbX2 hM 0 (by decide) tw_115 hv5 dX6_rule_9 ?_
  obtain ⟨v6, hv6, hp⟩ := ob hp
  refine mr_getR C0 cbX4 hM 6 (by decide) tw_69 hv6 dX6_rule_12 ?_
  refine lv_iload_n hx hb dX6_rule_15 rfl (lv_at hl 1 rfl) ?_
  obtain ⟨v7, hv7, hp⟩ := ob hp
  refine mr_iald C0 hM hv7 dX6_rule_16 ?_
  refine lv_iload_n hx hb dX6_rule_17 rfl (lv_at hl 2 rfl) ?_
  obtain ⟨v8, hv8, hp⟩ := ob hp
  refine mg_S1 (As := [.int v7, .int a2]) (rest := []) C0 hM (w_X6_rowEntry hG hv8) tw_831 tw_572 tw_1 tw_573 yk_X6_rowEntry (by decide) rfl hl.1 (Nat.le_of_ble_eq_true rfl) dX6_rule_18 rfl (fun H locs hM => ?_)
  refine lv_istore_n (lv' := [(3, .int v8), (0, .ref a0), (1, .int a1), (2, .int a2)]) hx hb dX6_rule_21 rfl hl (by decide) rfl (fun ls hl => ?_)
  refine lv_iload_n hx hb dX6_rule_22 rfl (lv_at hl 0 rfl) ?_
  refine lv_iconst (v := -1) hx hb dX6_rule_23 (by decide) ?_
  refine lv_icmp_ne (tgt := 37) hx hb dX6_rule_24 (by decide) (fun c9 => ?_) (fun c9 => ?_)
  · replace hp := oF c9 hp
    refine lv_iload_n hx hb dX6_rule_37 rfl (lv_at hl 0 rfl) ?_
    exact mx_iret C0 hr hlk hM rfl (by rw [← Option.some.inj hp]; rfl) (by decide) (by decide) dX6_rule_38
  · replace hp := oT c9 hp
    exact mx_throwN (text := "no such rule") (rest := []) C0 hY hlf hlk hno hM xk_187 (by decide +kernel) rfl hl.1 (by rw [← Option.some.inj hp]; rfl) dX6_rule_27 dX6_rule_30 dX6_rule_31 dX6_rule_33 dX6_rule_36 ⟨⟨by decide, Nat.le_of_ble_eq_true rfl⟩, by decide, by decide⟩ (by decide) (by decide)
abbrev rm_X6_needChild : Room := { frames := 6, cells := 1, slots := 6, locals := 90 }
def p_X6_needChild (a0 : Nat) (a1 : Int32) (Mi : Mem) : Option ((Unit) ⊕ String) :=
  (if a1 < 0 then
   some (.inr "java/lang/IndexOutOfBoundsException")
  else
   (Option.bind (gR 5 3 Mi a0) fun v2 =>
   (Option.bind (gI 2 1 Mi v2) fun v3 =>
   (if a1 < v3 then
    some (.inl ())
   else
    some (.inr "java/lang/IndexOutOfBoundsException")
   )
   )
   )
  )
theorem yk_X6_needChild : yok yX6_needChild 1 := by decide +kernel
set_option maxHeartbeats 4000000 in
set_option maxRecDepth 100000 in
theorem w_X6_needChild {G : gG} (hG : GOK G) (hY : GY G) {l : Launch} (hlf : l.stackTraces = false) {a0 : Nat} {a1 : Int32} {Mi : Mem} {out : (Unit) ⊕ String} (hp : p_X6_needChild a0 a1 Mi = some out) : CX G l yX6_needChild (wT yX6_needChild cX6_needChild 2 (none)) rm_X6_needChild [.ref a0, .int a1] Mi (sm (fun r => (none, Mi)) out) 1 6 := by
  refine CX_of (own := RX6) (maxL := 2) (ret := (none)) hG (by decide) rfl (Nat.le_of_ble_eq_true rfl) (fun p e s m below meth c A C0 hr hlk hno hM ls hl => ?_)
  have hl : lv_has ls 2 [(0, .ref a0), (1, .int a1)] := hl
  generalize ([.ref a0, .int a1] : List Value).toArray = args at C0 ⊢
  skip
  have hx := C0.1
  have hb := C0.2.1
  have hown := C0.2.2.2.1
  have hts := C0.2.2.2.2.1
  unfold p_X6_needChild at hp
  refine lv_iload_n hx hb dX6_needChild_0 rfl (lv_at hl 1 rfl) ?_
  refine lv_if_lt (tgt := 15) hx hb dX6_needChild_1 (by decide) (fun c1 => ?_) (fun c1 => ?_)
  · replace hp := oT c1 hp
    exact mx_throwSW (text := "no such child") (rest := []) C0 hY hlf hlk hno hM xk_358 (by decide +kernel) rfl hl.1 (by rw [← Option.some.inj hp]; rfl) dX6_needChild_15 dX6_needChild_18 dX6_needChild_19 dX6_needChild_22 dX6_needChild_25 ⟨⟨by decide, Nat.le_of_ble_eq_true rfl⟩, by decide, by decide⟩ (by decide) (by decide)
  · replace hp := oF c1 hp
    refine lv_iload_n hx hb dX6_needChild_4 rfl (lv_at hl 1 rfl) ?_
    refine lv_aload_n hx hb dX6_needChild_5 rfl (lv_at hl 0 rfl) ?_
    obtain ⟨v2, hv2, hp⟩ := ob hp
    refine mr_getR C0 cbX6 hM 3 (by decide) tw_282 hv2 dX6_needChild_6 ?_
    obtain ⟨v3, hv3, hp⟩ := ob hp
    refine mr_getI C0 cbX2 hM 1 (by decide) tw_121 hv3 dX6_needChild_9 ?_
    refine lv_icmp_lt (tgt := 26) hx hb dX6_needChild_12 (by decide) (fun c4 => ?_) (fun c4 => ?_)
    · replace hp := oT c4 hp
      exact mx_vret C0 hr hlk hM (by rw [← Option.some.inj hp]; rfl) (by decide) (by decide) dX6_needChild_26
    · replace hp := oF c4 hp
      exact mx_throwSW (text := "no such child") (rest := []) C0 hY hlf hlk hno hM xk_358 (by decide +kernel) rfl hl.1 (by rw [← Option.some.inj hp]; rfl) dX6_needChild_15 dX6_needChild_18 dX6_needChild_19 dX6_needChild_22 dX6_needChild_25 ⟨⟨by decide, Nat.le_of_ble_eq_true rfl⟩, by decide, by decide⟩ (by decide) (by decide)
abbrev rm_X6_child : Room := { frames := 7, cells := 2, slots := 12, locals := 111 }
def p_X6_child (a0 : Nat) (a1 : Int32) (a2 : Int32) (Mi : Mem) : Option ((Int32) ⊕ String) :=
  (Option.bind (isC 5 Mi a0) fun _ =>
  (obx (p_X6_needChild a0 a1 Mi) fun v2 =>
  (if (Int32.toInt a2) < 0 ∨ 8 < (Int32.toInt a2) then
   some (.inr "java/lang/IllegalArgumentException")
  else
  (if a2 = (0 : Int32) then
   (Option.bind (gR 5 3 Mi a0) fun v4 =>
   (Option.bind (gR 2 11 Mi v4) fun v5 =>
   (Option.bind (aI 0 Mi v5 a1) fun v6 =>
   some (.inl v6)
   )
   )
   )
  else
  (if a2 = (1 : Int32) then
   (Option.bind (gR 5 3 Mi a0) fun v7 =>
   (Option.bind (gR 2 12 Mi v7) fun v8 =>
   (Option.bind (aI 0 Mi v8 a1) fun v9 =>
   some (.inl v9)
   )
   )
   )
  else
  (if a2 = (2 : Int32) then
   (Option.bind (gR 5 3 Mi a0) fun v10 =>
   (Option.bind (gR 2 13 Mi v10) fun v11 =>
   (Option.bind (aI 0 Mi v11 a1) fun v12 =>
   some (.inl v12)
   )
   )
   )
  else
  (if a2 = (3 : Int32) then
   (Option.bind (gR 5 3 Mi a0) fun v13 =>
   (Option.bind (gL 2 7 Mi v13) fun v14 =>
   (Option.bind (p_X6_isIn v14 a1 Mi) fun v15 =>
   (if v15 = 0 then
    some (.inl (0 : Int32))
   else
    some (.inl (1 : Int32))
   )
   )
   )
   )
  else
  (if a2 = (4 : Int32) then
   (Option.bind (gR 5 3 Mi a0) fun v17 =>
   (Option.bind (gR 2 14 Mi v17) fun v18 =>
   (Option.bind (aI 0 Mi v18 a1) fun v19 =>
   some (.inl v19)
   )
   )
   )
  else
  (if a2 = (5 : Int32) then
   (Option.bind (gR 5 3 Mi a0) fun v20 =>
   (Option.bind (gR 2 15 Mi v20) fun v21 =>
   (Option.bind (aI 0 Mi v21 a1) fun v22 =>
   (Option.bind (p_X6_rowLength v22 Mi) fun v23 =>
   some (.inl v23)
   )
   )
   )
   )
  else
  (if a2 = (6 : Int32) then
   (Option.bind (gR 5 3 Mi a0) fun v24 =>
   (Option.bind (gL 2 8 Mi v24) fun v25 =>
   (Option.bind (p_X6_isIn v25 a1 Mi) fun v26 =>
   (if v26 = 0 then
    some (.inl (0 : Int32))
   else
    some (.inl (1 : Int32))
   )
   )
   )
   )
  else
  (if a2 = (7 : Int32) then
   (Option.bind (gR 5 3 Mi a0) fun v28 =>
   (Option.bind (gL 2 9 Mi v28) fun v29 =>
   (Option.bind (p_X6_isIn v29 a1 Mi) fun v30 =>
   (if v30 = 0 then
    some (.inl (0 : Int32))
   else
    some (.inl (1 : Int32))
   )
   )
   )
   )
  else
  (if a2 = (8 : Int32) then
   (Option.bind (gR 5 3 Mi a0) fun v32 =>
   (Option.bind (gL 2 10 Mi v32) fun v33 =>
   (Option.bind (p_X6_isIn v33 a1 Mi) fun v34 =>
   (if v34 = 0 then
    some (.inl (0 : Int32))
   else
    some (.inl (1 : Int32))
   )
   )
   )
   )
  else
  none
  )
  )
  )
  )
  )
  )
  )
  )
  )
  )
  ))
theorem yk_X6_child : yok yX6_child 2 := by decide +kernel
set_option maxHeartbeats 4000000 in
set_option maxRecDepth 100000 in
theorem w_X6_child {G : gG} (hG : GOK G) (hY : GY G) {l : Launch} (hlf : l.stackTraces = false) {a0 : Nat} {a1 : Int32} {a2 : Int32} {Mi : Mem} {out : (Int32) ⊕ String} (hp : p_X6_child a0 a1 a2 Mi = some out) : CX G l yX6_child (wT yX6_child cX6_child 3 (some FieldType.int)) rm_X6_child [.ref a0, .int a1, .int a2] Mi (sm (fun r => (some (.int r), Mi)) out) 2 12 := by
  refine CX_of (own := RX6) (maxL := 3) (ret := (some FieldType.int)) hG (by decide) rfl (Nat.le_of_ble_eq_true rfl) (fun p e s m below meth c A C0 hr hlk hno hM ls hl => ?_)
  have hl : lv_has ls 3 [(0, .ref a0), (1, .int a1), (2, .int a2)] := hl
  generalize ([.ref a0, .int a1, .int a2] : List Value).toArray = args at C0 ⊢
  skip
  have hx := C0.1
  have hb := C0.2.1
  have hown := C0.2.2.2.1
  have hts := C0.2.2.2.2.1
  unfold p_X6_child at hp
  refine lv_aload_n hx hb dX6_child_0 rfl (lv_at hl 0 rfl) ?_
  refine lv_iload_n hx hb dX6_child_1 rfl (lv_at hl 1 rfl) ?_
  obtain ⟨_, h1, hp⟩ := ob hp
  rcases obx_at hp with ⟨E3, hv2, hp⟩ | ⟨v2, hv2, hp⟩
  · exact mx_V_x (As := [.int a1]) (rest := []) C0 hno hlk cbX6 hM h1 rfl (w_X6_needChild hG hY hlf hv2) tw_865 tw_867 tws_3 tw_1 tw_868 yk_X6_needChild (by decide) rfl hl.1 (Nat.le_of_ble_eq_true rfl) dX6_child_2 rfl (by rw [hp]; rfl) (by decide) (by decide)
  refine mx_V_0 (As := [.int a1]) (rest := []) C0 cbX6 hM h1 rfl (w_X6_needChild hG hY hlf hv2) tw_865 tw_867 tws_3 tw_1 tw_868 yk_X6_needChild (by decide) rfl hl.1 (Nat.le_of_ble_eq_true rfl) dX6_child_2 rfl (fun H locs hM => ?_)
  refine lv_iload_n hx hb dX6_child_5 rfl (lv_at hl 2 rfl) ?_
  by_cases hd : (Int32.toInt a2) < 0 ∨ 8 < (Int32.toInt a2)
  · replace hp := oT hd hp
    refine lv_tableOut (tgt := 189) hx hb dX6_child_6 hd (by decide) ?_
    exact mx_throwS (text := "no such property of a child") (rest := []) C0 hY hlf hlk hno hM xk_134 (by decide +kernel) rfl hl.1 (by rw [← Option.some.inj hp]; rfl) dX6_child_189 dX6_child_192 dX6_child_193 dX6_child_195 dX6_child_198 ⟨⟨by decide, Nat.le_of_ble_eq_true rfl⟩, by decide, by decide⟩ (by decide) (by decide)
  replace hp := oF hd hp
  by_cases hd0 : a2 = (0 : Int32)
  · replace hp := oT hd0 hp
    refine mr_tsIn (tgt := 56) C0 (0 : Int32) hd0 dX6_child_6 (by decide) (by decide) rfl (by decide) ?_
    refine lv_aload_n hx hb dX6_child_56 rfl (lv_at hl 0 rfl) ?_
    obtain ⟨v4, hv4, hp⟩ := ob hp
    refine mr_getR C0 cbX6 hM 3 (by decide) tw_282 hv4 dX6_child_57 ?_
    obtain ⟨v5, hv5, hp⟩ := ob hp
    refine mr_getR C0 cbX2 hM 11 (by decide) tw_145 hv5 dX6_child_60 ?_
    refine lv_iload_n hx hb dX6_child_63 rfl (lv_at hl 1 rfl) ?_
    obtain ⟨v6, hv6, hp⟩ := ob hp
    refine mr_iald C0 hM hv6 dX6_child_64 ?_
    exact mx_iret C0 hr hlk hM rfl (by rw [← Option.some.inj hp]; rfl) (by decide) (by decide) dX6_child_65
  replace hp := oF hd0 hp
  by_cases hd1 : a2 = (1 : Int32)
  · replace hp := oT hd1 hp
    refine mr_tsIn (tgt := 66) C0 (1 : Int32) hd1 dX6_child_6 (by decide) (by decide) rfl (by decide) ?_
    refine lv_aload_n hx hb dX6_child_66 rfl (lv_at hl 0 rfl) ?_
    obtain ⟨v7, hv7, hp⟩ := ob hp
    refine mr_getR C0 cbX6 hM 3 (by decide) tw_282 hv7 dX6_child_67 ?_
    obtain ⟨v8, hv8, hp⟩ := ob hp
    refine mr_getR C0 cbX2 hM 12 (by decide) tw_147 hv8 dX6_child_70 ?_
    refine lv_iload_n hx hb dX6_child_73 rfl (lv_at hl 1 rfl) ?_
    obtain ⟨v9, hv9, hp⟩ := ob hp
    refine mr_iald C0 hM hv9 dX6_child_74 ?_
    exact mx_iret C0 hr hlk hM rfl (by rw [← Option.some.inj hp]; rfl) (by decide) (by decide) dX6_child_75
  replace hp := oF hd1 hp
  by_cases hd2 : a2 = (2 : Int32)
  · replace hp := oT hd2 hp
    refine mr_tsIn (tgt := 76) C0 (2 : Int32) hd2 dX6_child_6 (by decide) (by decide) rfl (by decide) ?_
    refine lv_aload_n hx hb dX6_child_76 rfl (lv_at hl 0 rfl) ?_
    obtain ⟨v10, hv10, hp⟩ := ob hp
    refine mr_getR C0 cbX6 hM 3 (by decide) tw_282 hv10 dX6_child_77 ?_
    obtain ⟨v11, hv11, hp⟩ := ob hp
    refine mr_getR C0 cbX2 hM 13 (by decide) tw_149 hv11 dX6_child_80 ?_
    refine lv_iload_n hx hb dX6_child_83 rfl (lv_at hl 1 rfl) ?_
    obtain ⟨v12, hv12, hp⟩ := ob hp
    refine mr_iald C0 hM hv12 dX6_child_84 ?_
    exact mx_iret C0 hr hlk hM rfl (by rw [← Option.some.inj hp]; rfl) (by decide) (by decide) dX6_child_85
  replace hp := oF hd2 hp
  by_cases hd3 : a2 = (3 : Int32)
  · replace hp := oT hd3 hp
    refine mr_tsIn (tgt := 86) C0 (3 : Int32) hd3 dX6_child_6 (by decide) (by decide) rfl (by decide) ?_
    refine lv_aload_n hx hb dX6_child_86 rfl (lv_at hl 0 rfl) ?_
    obtain ⟨v13, hv13, hp⟩ := ob hp
    refine mr_getR C0 cbX6 hM 3 (by decide) tw_282 hv13 dX6_child_87 ?_
    obtain ⟨v14, hv14, hp⟩ := ob hp
    refine mr_getL C0 cbX2 hM 7 (by decide) tw_136 hv14 dX6_child_90 ?_
    refine lv_iload_n hx hb dX6_child_93 rfl (lv_at hl 1 rfl) ?_
    obtain ⟨v15, hv15, hp⟩ := ob hp
    refine mg_S1 (As := [.long v14, .int a1]) (rest := []) C0 hM (w_X6_isIn hG hv15) tw_870 tw_547 tw_1 tw_548 yk_X6_isIn (by decide) rfl hl.1 (Nat.le_of_ble_eq_true rfl) dX6_child_94 rfl (fun H locs hM => ?_)
    refine lv_if_eq (tgt := 104) hx hb dX6_child_97 (by decide) (fun c16 => ?_) (fun c16 => ?_)
    · replace hp := oT c16 hp
      refine lv_iconst (v := 0) hx hb dX6_child_104 (by decide) ?_
      exact mx_iret C0 hr hlk hM rfl (by rw [← Option.some.inj hp]; rfl) (by decide) (by decide) dX6_child_105
    · replace hp := oF c16 hp
      refine lv_iconst (v := 1) hx hb dX6_child_100 (by decide) ?_
      refine lv_goto (tgt := 105) hx hb dX6_child_101 (by decide) ?_
      exact mx_iret C0 hr hlk hM rfl (by rw [← Option.some.inj hp]; rfl) (by decide) (by decide) dX6_child_105
  replace hp := oF hd3 hp
  by_cases hd4 : a2 = (4 : Int32)
  · replace hp := oT hd4 hp
    refine mr_tsIn (tgt := 106) C0 (4 : Int32) hd4 dX6_child_6 (by decide) (by decide) rfl (by decide) ?_
    refine lv_aload_n hx hb dX6_child_106 rfl (lv_at hl 0 rfl) ?_
    obtain ⟨v17, hv17, hp⟩ := ob hp
    refine mr_getR C0 cbX6 hM 3 (by decide) tw_282 hv17 dX6_child_107 ?_
    obtain ⟨v18, hv18, hp⟩ := ob hp
    refine mr_getR C0 cbX2 hM 14 (by decide) tw_151 hv18 dX6_child_110 ?_
    refine lv_iload_n hx hb dX6_child_113 rfl (lv_at hl 1 rfl) ?_
    obtain ⟨v19, hv19, hp⟩ := ob hp
    refine mr_iald C0 hM hv19 dX6_child_114 ?_
    exact mx_iret C0 hr hlk hM rfl (by rw [← Option.some.inj hp]; rfl) (by decide) (by decide) dX6_child_115
  replace hp := oF hd4 hp
  by_cases hd5 : a2 = (5 : Int32)
  · replace hp := oT hd5 hp
    refine mr_tsIn (tgt := 116) C0 (5 : Int32) hd5 dX6_child_6 (by decide) (by decide) rfl (by decide) ?_
    refine lv_aload_n hx hb dX6_child_116 rfl (lv_at hl 0 rfl) ?_
    obtain ⟨v20, hv20, hp⟩ := ob hp
    refine mr_getR C0 cbX6 hM 3 (by decide) tw_282 hv20 dX6_child_117 ?_
    obtain ⟨v21, hv21, hp⟩ := ob hp
    refine mr_getR C0 cbX2 hM 15 (by decide) tw_154 hv21 dX6_child_120 ?_
    refine lv_iload_n hx hb dX6_child_123 rfl (lv_at hl 1 rfl) ?_
    obtain ⟨v22, hv22, hp⟩ := ob hp
    refine mr_iald C0 hM hv22 dX6_child_124 ?_
    obtain ⟨v23, hv23, hp⟩ := ob hp
    refine mg_S1 (As := [.int v22]) (rest := []) C0 hM (w_X6_rowLength hG hv23) tw_828 tw_829 tw_1 tw_830 yk_X6_rowLength (by decide) rfl hl.1 (Nat.le_of_ble_eq_true rfl) dX6_child_125 rfl (fun H locs hM => ?_)
    exact mx_iret C0 hr hlk hM rfl (by rw [← Option.some.inj hp]; rfl) (by decide) (by decide) dX6_child_128
  replace hp := oF hd5 hp
  by_cases hd6 : a2 = (6 : Int32)
  · replace hp := oT hd6 hp
    refine mr_tsIn (tgt := 129) C0 (6 : Int32) hd6 dX6_child_6 (by decide) (by decide) rfl (by decide) ?_
    refine lv_aload_n hx hb dX6_child_129 rfl (lv_at hl 0 rfl) ?_
    obtain ⟨v24, hv24, hp⟩ := ob hp
    refine mr_getR C0 cbX6 hM 3 (by decide) tw_282 hv24 dX6_child_130 ?_
    obtain ⟨v25, hv25, hp⟩ := ob hp
    refine mr_getL C0 cbX2 hM 8 (by decide) tw_138 hv25 dX6_child_133 ?_
    refine lv_iload_n hx hb dX6_child_136 rfl (lv_at hl 1 rfl) ?_
    obtain ⟨v26, hv26, hp⟩ := ob hp
    refine mg_S1 (As := [.long v25, .int a1]) (rest := []) C0 hM (w_X6_isIn hG hv26) tw_870 tw_547 tw_1 tw_548 yk_X6_isIn (by decide) rfl hl.1 (Nat.le_of_ble_eq_true rfl) dX6_child_137 rfl (fun H locs hM => ?_)
    refine lv_if_eq (tgt := 147) hx hb dX6_child_140 (by decide) (fun c27 => ?_) (fun c27 => ?_)
    · replace hp := oT c27 hp
      refine lv_iconst (v := 0) hx hb dX6_child_147 (by decide) ?_
      exact mx_iret C0 hr hlk hM rfl (by rw [← Option.some.inj hp]; rfl) (by decide) (by decide) dX6_child_148
    · replace hp := oF c27 hp
      refine lv_iconst (v := 1) hx hb dX6_child_143 (by decide) ?_
      refine lv_goto (tgt := 148) hx hb dX6_child_144 (by decide) ?_
      exact mx_iret C0 hr hlk hM rfl (by rw [← Option.some.inj hp]; rfl) (by decide) (by decide) dX6_child_148
  replace hp := oF hd6 hp
  by_cases hd7 : a2 = (7 : Int32)
  · replace hp := oT hd7 hp
    refine mr_tsIn (tgt := 149) C0 (7 : Int32) hd7 dX6_child_6 (by decide) (by decide) rfl (by decide) ?_
    refine lv_aload_n hx hb dX6_child_149 rfl (lv_at hl 0 rfl) ?_
    obtain ⟨v28, hv28, hp⟩ := ob hp
    refine mr_getR C0 cbX6 hM 3 (by decide) tw_282 hv28 dX6_child_150 ?_
    obtain ⟨v29, hv29, hp⟩ := ob hp
    refine mr_getL C0 cbX2 hM 9 (by decide) tw_141 hv29 dX6_child_153 ?_
    refine lv_iload_n hx hb dX6_child_156 rfl (lv_at hl 1 rfl) ?_
    obtain ⟨v30, hv30, hp⟩ := ob hp
    refine mg_S1 (As := [.long v29, .int a1]) (rest := []) C0 hM (w_X6_isIn hG hv30) tw_870 tw_547 tw_1 tw_548 yk_X6_isIn (by decide) rfl hl.1 (Nat.le_of_ble_eq_true rfl) dX6_child_157 rfl (fun H locs hM => ?_)
    refine lv_if_eq (tgt := 167) hx hb dX6_child_160 (by decide) (fun c31 => ?_) (fun c31 => ?_)
    · replace hp := oT c31 hp
      refine lv_iconst (v := 0) hx hb dX6_child_167 (by decide) ?_
      exact mx_iret C0 hr hlk hM rfl (by rw [← Option.some.inj hp]; rfl) (by decide) (by decide) dX6_child_168
    · replace hp := oF c31 hp
      refine lv_iconst (v := 1) hx hb dX6_child_163 (by decide) ?_
      refine lv_goto (tgt := 168) hx hb dX6_child_164 (by decide) ?_
      exact mx_iret C0 hr hlk hM rfl (by rw [← Option.some.inj hp]; rfl) (by decide) (by decide) dX6_child_168
  replace hp := oF hd7 hp
  by_cases hd8 : a2 = (8 : Int32)
  · replace hp := oT hd8 hp
    refine mr_tsIn (tgt := 169) C0 (8 : Int32) hd8 dX6_child_6 (by decide) (by decide) rfl (by decide) ?_
    refine lv_aload_n hx hb dX6_child_169 rfl (lv_at hl 0 rfl) ?_
    obtain ⟨v32, hv32, hp⟩ := ob hp
    refine mr_getR C0 cbX6 hM 3 (by decide) tw_282 hv32 dX6_child_170 ?_
    obtain ⟨v33, hv33, hp⟩ := ob hp
    refine mr_getL C0 cbX2 hM 10 (by decide) tw_143 hv33 dX6_child_173 ?_
    refine lv_iload_n hx hb dX6_child_176 rfl (lv_at hl 1 rfl) ?_
    obtain ⟨v34, hv34, hp⟩ := ob hp
    refine mg_S1 (As := [.long v33, .int a1]) (rest := []) C0 hM (w_X6_isIn hG hv34) tw_870 tw_547 tw_1 tw_548 yk_X6_isIn (by decide) rfl hl.1 (Nat.le_of_ble_eq_true rfl) dX6_child_177 rfl (fun H locs hM => ?_)
    refine lv_if_eq (tgt := 187) hx hb dX6_child_180 (by decide) (fun c35 => ?_) (fun c35 => ?_)
    · replace hp := oT c35 hp
      refine lv_iconst (v := 0) hx hb dX6_child_187 (by decide) ?_
      exact mx_iret C0 hr hlk hM rfl (by rw [← Option.some.inj hp]; rfl) (by decide) (by decide) dX6_child_188
    · replace hp := oF c35 hp
      refine lv_iconst (v := 1) hx hb dX6_child_183 (by decide) ?_
      refine lv_goto (tgt := 188) hx hb dX6_child_184 (by decide) ?_
      exact mx_iret C0 hr hlk hM rfl (by rw [← Option.some.inj hp]; rfl) (by decide) (by decide) dX6_child_188
  replace hp := oF hd8 hp
  cases hp
abbrev rm_X6_preference : Room := { frames := 7, cells := 2, slots := 12, locals := 111 }
def p_X6_preference (a0 : Nat) (a1 : Int32) (a2 : Int32) (Mi : Mem) : Option ((Int32) ⊕ String) :=
  (Option.bind (isC 5 Mi a0) fun _ =>
  (obx (p_X6_needChild a0 a1 Mi) fun v2 =>
  (Option.bind (gR 5 3 Mi a0) fun v4 =>
  (Option.bind (gR 2 15 Mi v4) fun v5 =>
  (Option.bind (aI 0 Mi v5 a1) fun v6 =>
  (Option.bind (p_X6_rowEntry v6 a2 Mi) fun v7 =>
  (if v7 = (-1 : Int32) then
   some (.inr "java/util/NoSuchElementException")
  else
   some (.inl v7)
  )
  )
  )
  )
  )
  ))
theorem yk_X6_preference : yok yX6_preference 2 := by decide +kernel
set_option maxHeartbeats 4000000 in
set_option maxRecDepth 100000 in
theorem w_X6_preference {G : gG} (hG : GOK G) (hY : GY G) {l : Launch} (hlf : l.stackTraces = false) {a0 : Nat} {a1 : Int32} {a2 : Int32} {Mi : Mem} {out : (Int32) ⊕ String} (hp : p_X6_preference a0 a1 a2 Mi = some out) : CX G l yX6_preference (wT yX6_preference cX6_preference 4 (some FieldType.int)) rm_X6_preference [.ref a0, .int a1, .int a2] Mi (sm (fun r => (some (.int r), Mi)) out) 2 12 := by
  refine CX_of (own := RX6) (maxL := 4) (ret := (some FieldType.int)) hG (by decide) rfl (Nat.le_of_ble_eq_true rfl) (fun p e s m below meth c A C0 hr hlk hno hM ls hl => ?_)
  have hl : lv_has ls 4 [(0, .ref a0), (1, .int a1), (2, .int a2)] := hl
  generalize ([.ref a0, .int a1, .int a2] : List Value).toArray = args at C0 ⊢
  skip
  have hx := C0.1
  have hb := C0.2.1
  have hown := C0.2.2.2.1
  have hts := C0.2.2.2.2.1
  unfold p_X6_preference at hp
  refine lv_aload_n hx hb dX6_preference_0 rfl (lv_at hl 0 rfl) ?_
  refine lv_iload_n hx hb dX6_preference_1 rfl (lv_at hl 1 rfl) ?_
  obtain ⟨_, h1, hp⟩ := ob hp
  rcases obx_at hp with ⟨E3, hv2, hp⟩ | ⟨v2, hv2, hp⟩
  · exact mx_V_x (As := [.int a1]) (rest := []) C0 hno hlk cbX6 hM h1 rfl (w_X6_needChild hG hY hlf hv2) tw_865 tw_867 tws_3 tw_1 tw_868 yk_X6_needChild (by decide) rfl hl.1 (Nat.le_of_ble_eq_true rfl) dX6_preference_2 rfl (by rw [hp]; rfl) (by decide) (by decide)
  refine mx_V_0 (As := [.int a1]) (rest := []) C0 cbX6 hM h1 rfl (w_X6_needChild hG hY hlf hv2) tw_865 tw_867 tws_3 tw_1 tw_868 yk_X6_needChild (by decide) rfl hl.1 (Nat.le_of_ble_eq_true rfl) dX6_preference_2 rfl (fun H locs hM => ?_)
  refine lv_aload_n hx hb dX6_preference_5 rfl (lv_at hl 0 rfl) ?_
  obtain ⟨v4, hv4, hp⟩ := ob hp
  refine mr_getR C0 cbX6 hM 3 (by decide) tw_282 hv4 dX6_preference_6 ?_
  obtain ⟨v5, hv5, hp⟩ := ob hp
  refine mr_getR C0 cbX2 hM 15 (by decide) tw_154 hv5 dX6_preference_9 ?_
  refine lv_iload_n hx hb dX6_preference_12 rfl (lv_at hl 1 rfl) ?_
  obtain ⟨v6, hv6, hp⟩ := ob hp
  refine mr_iald C0 hM hv6 dX6_preference_13 ?_
  refine lv_iload_n hx hb dX6_preference_14 rfl (lv_at hl 2 rfl) ?_
  obtain ⟨v7, hv7, hp⟩ := ob hp
  refine mg_S1 (As := [.int v6, .int a2]) (rest := []) C0 hM (w_X6_rowEntry hG hv7) tw_831 tw_572 tw_1 tw_573 yk_X6_rowEntry (by decide) rfl hl.1 (Nat.le_of_ble_eq_true rfl) dX6_preference_15 rfl (fun H locs hM => ?_)
  refine lv_istore_n (lv' := [(3, .int v7), (0, .ref a0), (1, .int a1), (2, .int a2)]) hx hb dX6_preference_18 rfl hl (by decide) rfl (fun ls hl => ?_)
  refine lv_iload_n hx hb dX6_preference_19 rfl (lv_at hl 0 rfl) ?_
  refine lv_iconst (v := -1) hx hb dX6_preference_20 (by decide) ?_
  refine lv_icmp_ne (tgt := 34) hx hb dX6_preference_21 (by decide) (fun c8 => ?_) (fun c8 => ?_)
  · replace hp := oF c8 hp
    refine lv_iload_n hx hb dX6_preference_34 rfl (lv_at hl 0 rfl) ?_
    exact mx_iret C0 hr hlk hM rfl (by rw [← Option.some.inj hp]; rfl) (by decide) (by decide) dX6_preference_35
  · replace hp := oT c8 hp
    exact mx_throwN (text := "no such preference") (rest := []) C0 hY hlf hlk hno hM xk_187 (by decide +kernel) rfl hl.1 (by rw [← Option.some.inj hp]; rfl) dX6_preference_24 dX6_preference_27 dX6_preference_28 dX6_preference_30 dX6_preference_33 ⟨⟨by decide, Nat.le_of_ble_eq_true rfl⟩, by decide, by decide⟩ (by decide) (by decide)
abbrev rm_X6_placeOf : Room := { frames := 7, cells := 1, slots := 6, locals := 111 }
def p_X6_placeOf (a0 : Nat) (a1 : Int32) (Mi : Mem) : Option ((Int32) ⊕ String) :=
  (Option.bind (isC 5 Mi a0) fun _ =>
  (obx (p_X6_needChild a0 a1 Mi) fun v2 =>
  (Option.bind (gR 5 3 Mi a0) fun v4 =>
  (Option.bind (gR 2 16 Mi v4) fun v5 =>
  (Option.bind (aI 0 Mi v5 a1) fun v6 =>
  some (.inl v6)
  )
  )
  )
  ))
theorem yk_X6_placeOf : yok yX6_placeOf 1 := by decide +kernel
set_option maxHeartbeats 4000000 in
set_option maxRecDepth 100000 in
theorem w_X6_placeOf {G : gG} (hG : GOK G) (hY : GY G) {l : Launch} (hlf : l.stackTraces = false) {a0 : Nat} {a1 : Int32} {Mi : Mem} {out : (Int32) ⊕ String} (hp : p_X6_placeOf a0 a1 Mi = some out) : CX G l yX6_placeOf (wT yX6_placeOf cX6_placeOf 2 (some FieldType.int)) rm_X6_placeOf [.ref a0, .int a1] Mi (sm (fun r => (some (.int r), Mi)) out) 1 6 := by
  refine CX_of (own := RX6) (maxL := 2) (ret := (some FieldType.int)) hG (by decide) rfl (Nat.le_of_ble_eq_true rfl) (fun p e s m below meth c A C0 hr hlk hno hM ls hl => ?_)
  have hl : lv_has ls 2 [(0, .ref a0), (1, .int a1)] := hl
  generalize ([.ref a0, .int a1] : List Value).toArray = args at C0 ⊢
  skip
  have hx := C0.1
  have hb := C0.2.1
  have hown := C0.2.2.2.1
  have hts := C0.2.2.2.2.1
  unfold p_X6_placeOf at hp
  refine lv_aload_n hx hb dX6_placeOf_0 rfl (lv_at hl 0 rfl) ?_
  refine lv_iload_n hx hb dX6_placeOf_1 rfl (lv_at hl 1 rfl) ?_
  obtain ⟨_, h1, hp⟩ := ob hp
  rcases obx_at hp with ⟨E3, hv2, hp⟩ | ⟨v2, hv2, hp⟩
  · exact mx_V_x (As := [.int a1]) (rest := []) C0 hno hlk cbX6 hM h1 rfl (w_X6_needChild hG hY hlf hv2) tw_865 tw_867 tws_3 tw_1 tw_868 yk_X6_needChild (by decide) rfl hl.1 (Nat.le_of_ble_eq_true rfl) dX6_placeOf_2 rfl (by rw [hp]; rfl) (by decide) (by decide)
  refine mx_V_0 (As := [.int a1]) (rest := []) C0 cbX6 hM h1 rfl (w_X6_needChild hG hY hlf hv2) tw_865 tw_867 tws_3 tw_1 tw_868 yk_X6_needChild (by decide) rfl hl.1 (Nat.le_of_ble_eq_true rfl) dX6_placeOf_2 rfl (fun H locs hM => ?_)
  refine lv_aload_n hx hb dX6_placeOf_5 rfl (lv_at hl 0 rfl) ?_
  obtain ⟨v4, hv4, hp⟩ := ob hp
  refine mr_getR C0 cbX6 hM 3 (by decide) tw_282 hv4 dX6_placeOf_6 ?_
  obtain ⟨v5, hv5, hp⟩ := ob hp
  refine mr_getR C0 cbX2 hM 16 (by decide) tw_157 hv5 dX6_placeOf_9 ?_
  refine lv_iload_n hx hb dX6_placeOf_12 rfl (lv_at hl 1 rfl) ?_
  obtain ⟨v6, hv6, hp⟩ := ob hp
  refine mr_iald C0 hM hv6 dX6_placeOf_13 ?_
  exact mx_iret C0 hr hlk hM rfl (by rw [← Option.some.inj hp]; rfl) (by decide) (by decide) dX6_placeOf_14
abbrev rm_X6_gotPreference : Room := { frames := 7, cells := 1, slots := 6, locals := 111 }
def p_X6_gotPreference (a0 : Nat) (a1 : Int32) (Mi : Mem) : Option ((Int32) ⊕ String) :=
  (Option.bind (isC 5 Mi a0) fun _ =>
  (obx (p_X6_needChild a0 a1 Mi) fun v2 =>
  (Option.bind (gR 5 3 Mi a0) fun v4 =>
  (Option.bind (isC 2 Mi v4) fun _ =>
  (Option.bind (p_X2_gotWish v4 a1 Mi) fun v6 =>
  some (.inl v6)
  )
  )
  )
  ))
theorem yk_X6_gotPreference : yok yX6_gotPreference 1 := by decide +kernel
set_option maxHeartbeats 4000000 in
set_option maxRecDepth 100000 in
theorem w_X6_gotPreference {G : gG} (hG : GOK G) (hY : GY G) {l : Launch} (hlf : l.stackTraces = false) {a0 : Nat} {a1 : Int32} {Mi : Mem} {out : (Int32) ⊕ String} (hp : p_X6_gotPreference a0 a1 Mi = some out) : CX G l yX6_gotPreference (wT yX6_gotPreference cX6_gotPreference 2 (some FieldType.int)) rm_X6_gotPreference [.ref a0, .int a1] Mi (sm (fun r => (some (.int r), Mi)) out) 1 6 := by
  refine CX_of (own := RX6) (maxL := 2) (ret := (some FieldType.int)) hG (by decide) rfl (Nat.le_of_ble_eq_true rfl) (fun p e s m below meth c A C0 hr hlk hno hM ls hl => ?_)
  have hl : lv_has ls 2 [(0, .ref a0), (1, .int a1)] := hl
  generalize ([.ref a0, .int a1] : List Value).toArray = args at C0 ⊢
  skip
  have hx := C0.1
  have hb := C0.2.1
  have hown := C0.2.2.2.1
  have hts := C0.2.2.2.2.1
  unfold p_X6_gotPreference at hp
  refine lv_aload_n hx hb dX6_gotPreference_0 rfl (lv_at hl 0 rfl) ?_
  refine lv_iload_n hx hb dX6_gotPreference_1 rfl (lv_at hl 1 rfl) ?_
  obtain ⟨_, h1, hp⟩ := ob hp
  rcases obx_at hp with ⟨E3, hv2, hp⟩ | ⟨v2, hv2, hp⟩
  · exact mx_V_x (As := [.int a1]) (rest := []) C0 hno hlk cbX6 hM h1 rfl (w_X6_needChild hG hY hlf hv2) tw_865 tw_867 tws_3 tw_1 tw_868 yk_X6_needChild (by decide) rfl hl.1 (Nat.le_of_ble_eq_true rfl) dX6_gotPreference_2 rfl (by rw [hp]; rfl) (by decide) (by decide)
  refine mx_V_0 (As := [.int a1]) (rest := []) C0 cbX6 hM h1 rfl (w_X6_needChild hG hY hlf hv2) tw_865 tw_867 tws_3 tw_1 tw_868 yk_X6_needChild (by decide) rfl hl.1 (Nat.le_of_ble_eq_true rfl) dX6_gotPreference_2 rfl (fun H locs hM => ?_)
  refine lv_aload_n hx hb dX6_gotPreference_5 rfl (lv_at hl 0 rfl) ?_
  obtain ⟨v4, hv4, hp⟩ := ob hp
  refine mr_getR C0 cbX6 hM 3 (by decide) tw_282 hv4 dX6_gotPreference_6 ?_
  refine lv_iload_n hx hb dX6_gotPreference_9 rfl (lv_at hl 1 rfl) ?_
  obtain ⟨_, h5, hp⟩ := ob hp
  obtain ⟨v6, hv6, hp⟩ := ob hp
  refine mg_V1 (As := [.int a1]) (rest := []) C0 cbX2 hM h5 rfl (w_X2_gotWish hG hv6) tw_657 tw_658 tw_659 tw_3 tw_660 yk_X2_gotWish (by decide) rfl hl.1 (Nat.le_of_ble_eq_true rfl) dX6_gotPreference_10 rfl (fun H locs hM => ?_)
  exact mx_iret C0 hr hlk hM rfl (by rw [← Option.some.inj hp]; rfl) (by decide) (by decide) dX6_gotPreference_13
abbrev rm_X6_meets : Room := { frames := 7, cells := 3, slots := 18, locals := 111 }
def p_X6_meets (a0 : Nat) (a1 : Int32) (a2 : Int32) (a3 : Int32) (Mi : Mem) : Option ((Int32) ⊕ String) :=
  (Option.bind (isC 5 Mi a0) fun _ =>
  (obx (p_X6_needChild a0 a1 Mi) fun v2 =>
  (Option.bind (isC 5 Mi a0) fun _ =>
  (obx (p_X6_needSchool a0 a2 Mi) fun v5 =>
  (if a3 < 0 then
   some (.inr "java/lang/IllegalArgumentException")
  else
   (if a3 < (3 : Int32) then
    (Option.bind (gR 5 3 Mi a0) fun v9 =>
    (Option.bind (isC 2 Mi v9) fun _ =>
    (Option.bind (p_X2_fits v9 a1 a2 a3 Mi) fun v11 =>
    (if v11 = 0 ∨ v11 = 1 then some (.inl v11) else none)
    )
    )
    )
   else
    some (.inr "java/lang/IllegalArgumentException")
   )
  )
  ))
  ))
theorem yk_X6_meets : yok yX6_meets 3 := by decide +kernel
set_option maxHeartbeats 4000000 in
set_option maxRecDepth 100000 in
theorem w_X6_meets {G : gG} (hG : GOK G) (hY : GY G) {l : Launch} (hlf : l.stackTraces = false) {a0 : Nat} {a1 : Int32} {a2 : Int32} {a3 : Int32} {Mi : Mem} {out : (Int32) ⊕ String} (hp : p_X6_meets a0 a1 a2 a3 Mi = some out) : CX G l yX6_meets (wT yX6_meets cX6_meets 4 (some FieldType.boolean)) rm_X6_meets [.ref a0, .int a1, .int a2, .int a3] Mi (sm (fun r => (some (.int r), Mi)) out) 3 18 := by
  refine CX_of (own := RX6) (maxL := 4) (ret := (some FieldType.boolean)) hG (by decide) rfl (Nat.le_of_ble_eq_true rfl) (fun p e s m below meth c A C0 hr hlk hno hM ls hl => ?_)
  have hl : lv_has ls 4 [(0, .ref a0), (1, .int a1), (2, .int a2), (3, .int a3)] := hl
  generalize ([.ref a0, .int a1, .int a2, .int a3] : List Value).toArray = args at C0 ⊢
  skip
  have hx := C0.1
  have hb := C0.2.1
  have hown := C0.2.2.2.1
  have hts := C0.2.2.2.2.1
  unfold p_X6_meets at hp
  refine lv_aload_n hx hb dX6_meets_0 rfl (lv_at hl 0 rfl) ?_
  refine lv_iload_n hx hb dX6_meets_1 rfl (lv_at hl 1 rfl) ?_
  obtain ⟨_, h1, hp⟩ := ob hp
  rcases obx_at hp with ⟨E3, hv2, hp⟩ | ⟨v2, hv2, hp⟩
  · exact mx_V_x (As := [.int a1]) (rest := []) C0 hno hlk cbX6 hM h1 rfl (w_X6_needChild hG hY hlf hv2) tw_865 tw_867 tws_3 tw_1 tw_868 yk_X6_needChild (by decide) rfl hl.1 (Nat.le_of_ble_eq_true rfl) dX6_meets_2 rfl (by rw [hp]; rfl) (by decide) (by decide)
  refine mx_V_0 (As := [.int a1]) (rest := []) C0 cbX6 hM h1 rfl (w_X6_needChild hG hY hlf hv2) tw_865 tw_867 tws_3 tw_1 tw_868 yk_X6_needChild (by decide) rfl hl.1 (Nat.le_of_ble_eq_true rfl) dX6_meets_2 rfl (fun H locs hM => ?_)
  refine lv_aload_n hx hb dX6_meets_5 rfl (lv_at hl 0 rfl) ?_
  refine lv_iload_n hx hb dX6_meets_6 rfl (lv_at hl 2 rfl) ?_
  obtain ⟨_, h4, hp⟩ := ob hp
  rcases obx_at hp with ⟨E6, hv5, hp⟩ | ⟨v5, hv5, hp⟩
  · exact mx_V_x (As := [.int a2]) (rest := []) C0 hno hlk cbX6 hM h4 rfl (w_X6_needSchool hG hY hlf hv5) tw_808 tw_810 tws_2 tw_1 tw_811 yk_X6_needSchool (by decide) rfl hl.1 (Nat.le_of_ble_eq_true rfl) dX6_meets_7 rfl (by rw [hp]; rfl) (by decide) (by decide)
  refine mx_V_0 (As := [.int a2]) (rest := []) C0 cbX6 hM h4 rfl (w_X6_needSchool hG hY hlf hv5) tw_808 tw_810 tws_2 tw_1 tw_811 yk_X6_needSchool (by decide) rfl hl.1 (Nat.le_of_ble_eq_true rfl) dX6_meets_7 rfl (fun H locs hM => ?_)
  refine lv_iload_n hx hb dX6_meets_10 rfl (lv_at hl 3 rfl) ?_
  refine lv_if_lt (tgt := 19) hx hb dX6_meets_11 (by decide) (fun c7 => ?_) (fun c7 => ?_)
  · replace hp := oT c7 hp
    exact mx_throwS (text := "no such rule") (rest := []) C0 hY hlf hlk hno hM xk_134 (by decide +kernel) rfl hl.1 (by rw [← Option.some.inj hp]; rfl) dX6_meets_19 dX6_meets_22 dX6_meets_23 dX6_meets_25 dX6_meets_28 ⟨⟨by decide, Nat.le_of_ble_eq_true rfl⟩, by decide, by decide⟩ (by decide) (by decide)
  · replace hp := oF c7 hp
    refine lv_iload_n hx hb dX6_meets_14 rfl (lv_at hl 3 rfl) ?_
    refine lv_iconst (v := 3) hx hb dX6_meets_15 (by decide) ?_
    refine lv_icmp_lt (tgt := 29) hx hb dX6_meets_16 (by decide) (fun c8 => ?_) (fun c8 => ?_)
    · replace hp := oT c8 hp
      refine lv_aload_n hx hb dX6_meets_29 rfl (lv_at hl 0 rfl) ?_
      obtain ⟨v9, hv9, hp⟩ := ob hp
      refine mr_getR C0 cbX6 hM 3 (by decide) tw_282 hv9 dX6_meets_30 ?_
      refine lv_iload_n hx hb dX6_meets_33 rfl (lv_at hl 1 rfl) ?_
      refine lv_iload_n hx hb dX6_meets_34 rfl (lv_at hl 2 rfl) ?_
      refine lv_iload_n hx hb dX6_meets_35 rfl (lv_at hl 3 rfl) ?_
      obtain ⟨_, h10, hp⟩ := ob hp
      obtain ⟨v11, hv11, hp⟩ := ob hp
      refine mg_V1 (As := [.int a1, .int a2, .int a3]) (rest := []) C0 cbX2 hM h10 rfl (w_X2_fits hG hv11) tw_901 tw_575 tw_576 tw_3 tw_577 yk_X2_fits (by decide) rfl hl.1 (Nat.le_of_ble_eq_true rfl) dX6_meets_36 rfl (fun H locs hM => ?_)
      obtain ⟨hz, hp⟩ := oG hp
      exact mx_iret C0 hr hlk hM (zn hz) (by rw [← Option.some.inj hp]; rfl) (by decide) (by decide) dX6_meets_39
    · replace hp := oF c8 hp
      exact mx_throwS (text := "no such rule") (rest := []) C0 hY hlf hlk hno hM xk_134 (by decide +kernel) rfl hl.1 (by rw [← Option.some.inj hp]; rfl) dX6_meets_19 dX6_meets_22 dX6_meets_23 dX6_meets_25 dX6_meets_28 ⟨⟨by decide, Nat.le_of_ble_eq_true rfl⟩, by decide, by decide⟩ (by decide) (by decide)
abbrev rm_X6_classOf : Room := { frames := 7, cells := 2, slots := 12, locals := 111 }
def p_X6_classOf (a0 : Nat) (a1 : Int32) (a2 : Int32) (Mi : Mem) : Option ((Int32) ⊕ String) :=
  (Option.bind (isC 5 Mi a0) fun _ =>
  (obx (p_X6_needChild a0 a1 Mi) fun v2 =>
  (Option.bind (isC 5 Mi a0) fun _ =>
  (obx (p_X6_needSchool a0 a2 Mi) fun v5 =>
  (Option.bind (gR 5 3 Mi a0) fun v7 =>
  (Option.bind (isC 2 Mi v7) fun _ =>
  (Option.bind (p_X2_rankClass v7 a1 a2 Mi) fun v9 =>
  some (.inl v9)
  )
  )
  )
  ))
  ))
theorem yk_X6_classOf : yok yX6_classOf 2 := by decide +kernel
set_option maxHeartbeats 4000000 in
set_option maxRecDepth 100000 in
theorem w_X6_classOf {G : gG} (hG : GOK G) (hY : GY G) {l : Launch} (hlf : l.stackTraces = false) {a0 : Nat} {a1 : Int32} {a2 : Int32} {Mi : Mem} {out : (Int32) ⊕ String} (hp : p_X6_classOf a0 a1 a2 Mi = some out) : CX G l yX6_classOf (wT yX6_classOf cX6_classOf 3 (some FieldType.int)) rm_X6_classOf [.ref a0, .int a1, .int a2] Mi (sm (fun r => (some (.int r), Mi)) out) 2 12 := by
  refine CX_of (own := RX6) (maxL := 3) (ret := (some FieldType.int)) hG (by decide) rfl (Nat.le_of_ble_eq_true rfl) (fun p e s m below meth c A C0 hr hlk hno hM ls hl => ?_)
  have hl : lv_has ls 3 [(0, .ref a0), (1, .int a1), (2, .int a2)] := hl
  generalize ([.ref a0, .int a1, .int a2] : List Value).toArray = args at C0 ⊢
  skip
  have hx := C0.1
  have hb := C0.2.1
  have hown := C0.2.2.2.1
  have hts := C0.2.2.2.2.1
  unfold p_X6_classOf at hp
  refine lv_aload_n hx hb dX6_classOf_0 rfl (lv_at hl 0 rfl) ?_
  refine lv_iload_n hx hb dX6_classOf_1 rfl (lv_at hl 1 rfl) ?_
  obtain ⟨_, h1, hp⟩ := ob hp
  rcases obx_at hp with ⟨E3, hv2, hp⟩ | ⟨v2, hv2, hp⟩
  · exact mx_V_x (As := [.int a1]) (rest := []) C0 hno hlk cbX6 hM h1 rfl (w_X6_needChild hG hY hlf hv2) tw_865 tw_867 tws_3 tw_1 tw_868 yk_X6_needChild (by decide) rfl hl.1 (Nat.le_of_ble_eq_true rfl) dX6_classOf_2 rfl (by rw [hp]; rfl) (by decide) (by decide)
  refine mx_V_0 (As := [.int a1]) (rest := []) C0 cbX6 hM h1 rfl (w_X6_needChild hG hY hlf hv2) tw_865 tw_867 tws_3 tw_1 tw_868 yk_X6_needChild (by decide) rfl hl.1 (Nat.le_of_ble_eq_true rfl) dX6_classOf_2 rfl (fun H locs hM => ?_)
  refine lv_aload_n hx hb dX6_classOf_5 rfl (lv_at hl 0 rfl) ?_
  refine lv_iload_n hx hb dX6_classOf_6 rfl (lv_at hl 2 rfl) ?_
  obtain ⟨_, h4, hp⟩ := ob hp
  rcases obx_at hp with ⟨E6, hv5, hp⟩ | ⟨v5, hv5, hp⟩
  · exact mx_V_x (As := [.int a2]) (rest := []) C0 hno hlk cbX6 hM h4 rfl (w_X6_needSchool hG hY hlf hv5) tw_808 tw_810 tws_2 tw_1 tw_811 yk_X6_needSchool (by decide) rfl hl.1 (Nat.le_of_ble_eq_true rfl) dX6_classOf_7 rfl (by rw [hp]; rfl) (by decide) (by decide)
  refine mx_V_0 (As := [.int a2]) (rest := []) C0 cbX6 hM h4 rfl (w_X6_needSchool hG hY hlf hv5) tw_808 tw_810 tws_2 tw_1 tw_811 yk_X6_needSchool (by decide) rfl hl.1 (Nat.le_of_ble_eq_true rfl) dX6_classOf_7 rfl (fun H locs hM => ?_)
  refine lv_aload_n hx hb dX6_classOf_10 rfl (lv_at hl 0 rfl) ?_
  obtain ⟨v7, hv7, hp⟩ := ob hp
  refine mr_getR C0 cbX6 hM 3 (by decide) tw_282 hv7 dX6_classOf_11 ?_
  refine lv_iload_n hx hb dX6_classOf_14 rfl (lv_at hl 1 rfl) ?_
  refine lv_iload_n hx hb dX6_classOf_15 rfl (lv_at hl 2 rfl) ?_
  obtain ⟨_, h8, hp⟩ := ob hp
  obtain ⟨v9, hv9, hp⟩ := ob hp
  refine mg_V1 (As := [.int a1, .int a2]) (rest := []) C0 cbX2 hM h8 rfl (w_X2_rankClass hG hv9) tw_909 tw_568 tw_569 tw_3 tw_570 yk_X2_rankClass (by decide) rfl hl.1 (Nat.le_of_ble_eq_true rfl) dX6_classOf_16 rfl (fun H locs hM => ?_)
  exact mx_iret C0 hr hlk hM rfl (by rw [← Option.some.inj hp]; rfl) (by decide) (by decide) dX6_classOf_19
abbrev rm_X6_distance : Room := { frames := 7, cells := 2, slots := 12, locals := 111 }
def p_X6_distance (a0 : Nat) (a1 : Int32) (a2 : Int32) (Mi : Mem) : Option ((Int32) ⊕ String) :=
  (Option.bind (isC 5 Mi a0) fun _ =>
  (obx (p_X6_needChild a0 a1 Mi) fun v2 =>
  (Option.bind (isC 5 Mi a0) fun _ =>
  (obx (p_X6_needSchool a0 a2 Mi) fun v5 =>
  (Option.bind (gR 5 3 Mi a0) fun v7 =>
  (Option.bind (isC 2 Mi v7) fun _ =>
  (Option.bind (p_X2_squareWay v7 a1 a2 Mi) fun v9 =>
  some (.inl v9)
  )
  )
  )
  ))
  ))
theorem yk_X6_distance : yok yX6_distance 2 := by decide +kernel
set_option maxHeartbeats 4000000 in
set_option maxRecDepth 100000 in
theorem w_X6_distance {G : gG} (hG : GOK G) (hY : GY G) {l : Launch} (hlf : l.stackTraces = false) {a0 : Nat} {a1 : Int32} {a2 : Int32} {Mi : Mem} {out : (Int32) ⊕ String} (hp : p_X6_distance a0 a1 a2 Mi = some out) : CX G l yX6_distance (wT yX6_distance cX6_distance 3 (some FieldType.int)) rm_X6_distance [.ref a0, .int a1, .int a2] Mi (sm (fun r => (some (.int r), Mi)) out) 2 12 := by
  refine CX_of (own := RX6) (maxL := 3) (ret := (some FieldType.int)) hG (by decide) rfl (Nat.le_of_ble_eq_true rfl) (fun p e s m below meth c A C0 hr hlk hno hM ls hl => ?_)
  have hl : lv_has ls 3 [(0, .ref a0), (1, .int a1), (2, .int a2)] := hl
  generalize ([.ref a0, .int a1, .int a2] : List Value).toArray = args at C0 ⊢
  skip
  have hx := C0.1
  have hb := C0.2.1
  have hown := C0.2.2.2.1
  have hts := C0.2.2.2.2.1
  unfold p_X6_distance at hp
  refine lv_aload_n hx hb dX6_distance_0 rfl (lv_at hl 0 rfl) ?_
  refine lv_iload_n hx hb dX6_distance_1 rfl (lv_at hl 1 rfl) ?_
  obtain ⟨_, h1, hp⟩ := ob hp
  rcases obx_at hp with ⟨E3, hv2, hp⟩ | ⟨v2, hv2, hp⟩
  · exact mx_V_x (As := [.int a1]) (rest := []) C0 hno hlk cbX6 hM h1 rfl (w_X6_needChild hG hY hlf hv2) tw_865 tw_867 tws_3 tw_1 tw_868 yk_X6_needChild (by decide) rfl hl.1 (Nat.le_of_ble_eq_true rfl) dX6_distance_2 rfl (by rw [hp]; rfl) (by decide) (by decide)
  refine mx_V_0 (As := [.int a1]) (rest := []) C0 cbX6 hM h1 rfl (w_X6_needChild hG hY hlf hv2) tw_865 tw_867 tws_3 tw_1 tw_868 yk_X6_needChild (by decide) rfl hl.1 (Nat.le_of_ble_eq_true rfl) dX6_distance_2 rfl (fun H locs hM => ?_)
  refine lv_aload_n hx hb dX6_distance_5 rfl (lv_at hl 0 rfl) ?_
  refine lv_iload_n hx hb dX6_distance_6 rfl (lv_at hl 2 rfl) ?_
  obtain ⟨_, h4, hp⟩ := ob hp
  rcases obx_at hp with ⟨E6, hv5, hp⟩ | ⟨v5, hv5, hp⟩
  · exact mx_V_x (As := [.int a2]) (rest := []) C0 hno hlk cbX6 hM h4 rfl (w_X6_needSchool hG hY hlf hv5) tw_808 tw_810 tws_2 tw_1 tw_811 yk_X6_needSchool (by decide) rfl hl.1 (Nat.le_of_ble_eq_true rfl) dX6_distance_7 rfl (by rw [hp]; rfl) (by decide) (by decide)
  refine mx_V_0 (As := [.int a2]) (rest := []) C0 cbX6 hM h4 rfl (w_X6_needSchool hG hY hlf hv5) tw_808 tw_810 tws_2 tw_1 tw_811 yk_X6_needSchool (by decide) rfl hl.1 (Nat.le_of_ble_eq_true rfl) dX6_distance_7 rfl (fun H locs hM => ?_)
  refine lv_aload_n hx hb dX6_distance_10 rfl (lv_at hl 0 rfl) ?_
  obtain ⟨v7, hv7, hp⟩ := ob hp
  refine mr_getR C0 cbX6 hM 3 (by decide) tw_282 hv7 dX6_distance_11 ?_
  refine lv_iload_n hx hb dX6_distance_14 rfl (lv_at hl 1 rfl) ?_
  refine lv_iload_n hx hb dX6_distance_15 rfl (lv_at hl 2 rfl) ?_
  obtain ⟨_, h8, hp⟩ := ob hp
  obtain ⟨v9, hv9, hp⟩ := ob hp
  refine mg_V1 (As := [.int a1, .int a2]) (rest := []) C0 cbX2 hM h8 rfl (w_X2_squareWay hG hv9) tw_694 tw_579 tw_580 tw_3 tw_581 yk_X2_squareWay (by decide) rfl hl.1 (Nat.le_of_ble_eq_true rfl) dX6_distance_16 rfl (fun H locs hM => ?_)
  exact mx_iret C0 hr hlk hM rfl (by rw [← Option.some.inj hp]; rfl) (by decide) (by decide) dX6_distance_19
abbrev rm_X6_comesFirst : Room := { frames := 7, cells := 3, slots := 18, locals := 111 }
def p_X6_comesFirst (a0 : Nat) (a1 : Int32) (a2 : Int32) (a3 : Int32) (Mi : Mem) : Option ((Int32) ⊕ String) :=
  (Option.bind (isC 5 Mi a0) fun _ =>
  (obx (p_X6_needSchool a0 a1 Mi) fun v2 =>
  (Option.bind (isC 5 Mi a0) fun _ =>
  (obx (p_X6_needChild a0 a2 Mi) fun v5 =>
  (Option.bind (isC 5 Mi a0) fun _ =>
  (obx (p_X6_needChild a0 a3 Mi) fun v8 =>
  (Option.bind (gR 5 3 Mi a0) fun v10 =>
  (Option.bind (isC 2 Mi v10) fun _ =>
  (Option.bind (p_X2_standing v10 a2 a1 Mi) fun v12 =>
  (Option.bind (gR 5 3 Mi a0) fun v13 =>
  (Option.bind (isC 2 Mi v13) fun _ =>
  (Option.bind (p_X2_standing v13 a3 a1 Mi) fun v15 =>
  (if 0 ≤ (lg_cmp v12 v15) then
   some (.inl (0 : Int32))
  else
   some (.inl (1 : Int32))
  )
  )
  )
  )
  )
  )
  )
  ))
  ))
  ))
theorem yk_X6_comesFirst : yok yX6_comesFirst 3 := by decide +kernel
set_option maxHeartbeats 4000000 in
set_option maxRecDepth 100000 in
theorem w_X6_comesFirst {G : gG} (hG : GOK G) (hY : GY G) {l : Launch} (hlf : l.stackTraces = false) {a0 : Nat} {a1 : Int32} {a2 : Int32} {a3 : Int32} {Mi : Mem} {out : (Int32) ⊕ String} (hp : p_X6_comesFirst a0 a1 a2 a3 Mi = some out) : CX G l yX6_comesFirst (wT yX6_comesFirst cX6_comesFirst 4 (some FieldType.boolean)) rm_X6_comesFirst [.ref a0, .int a1, .int a2, .int a3] Mi (sm (fun r => (some (.int r), Mi)) out) 3 18 := by
  refine CX_of (own := RX6) (maxL := 4) (ret := (some FieldType.boolean)) hG (by decide) rfl (Nat.le_of_ble_eq_true rfl) (fun p e s m below meth c A C0 hr hlk hno hM ls hl => ?_)
  have hl : lv_has ls 4 [(0, .ref a0), (1, .int a1), (2, .int a2), (3, .int a3)] := hl
  generalize ([.ref a0, .int a1, .int a2, .int a3] : List Value).toArray = args at C0 ⊢
  skip
  have hx := C0.1
  have hb := C0.2.1
  have hown := C0.2.2.2.1
  have hts := C0.2.2.2.2.1
  unfold p_X6_comesFirst at hp
  refine lv_aload_n hx hb dX6_comesFirst_0 rfl (lv_at hl 0 rfl) ?_
  refine lv_iload_n hx hb dX6_comesFirst_1 rfl (lv_at hl 1 rfl) ?_
  obtain ⟨_, h1, hp⟩ := ob hp
  rcases obx_at hp with ⟨E3, hv2, hp⟩ | ⟨v2, hv2, hp⟩
  · exact mx_V_x (As := [.int a1]) (rest := []) C0 hno hlk cbX6 hM h1 rfl (w_X6_needSchool hG hY hlf hv2) tw_808 tw_810 tws_2 tw_1 tw_811 yk_X6_needSchool (by decide) rfl hl.1 (Nat.le_of_ble_eq_true rfl) dX6_comesFirst_2 rfl (by rw [hp]; rfl) (by decide) (by decide)
  refine mx_V_0 (As := [.int a1]) (rest := []) C0 cbX6 hM h1 rfl (w_X6_needSchool hG hY hlf hv2) tw_808 tw_810 tws_2 tw_1 tw_811 yk_X6_needSchool (by decide) rfl hl.1 (Nat.le_of_ble_eq_true rfl) dX6_comesFirst_2 rfl (fun H locs hM => ?_)
  refine lv_aload_n hx hb dX6_comesFirst_5 rfl (lv_at hl 0 rfl) ?_
  refine lv_iload_n hx hb dX6_comesFirst_6 rfl (lv_at hl 2 rfl) ?_
  obtain ⟨_, h4, hp⟩ := ob hp
  rcases obx_at hp with ⟨E6, hv5, hp⟩ | ⟨v5, hv5, hp⟩
  · exact mx_V_x (As := [.int a2]) (rest := []) C0 hno hlk cbX6 hM h4 rfl (w_X6_needChild hG hY hlf hv5) tw_865 tw_867 tws_3 tw_1 tw_868 yk_X6_needChild (by decide) rfl hl.1 (Nat.le_of_ble_eq_true rfl) dX6_comesFirst_7 rfl (by rw [hp]; rfl) (by decide) (by decide)
  refine mx_V_0 (As := [.int a2]) (rest := []) C0 cbX6 hM h4 rfl (w_X6_needChild hG hY hlf hv5) tw_865 tw_867 tws_3 tw_1 tw_868 yk_X6_needChild (by decide) rfl hl.1 (Nat.le_of_ble_eq_true rfl) dX6_comesFirst_7 rfl (fun H locs hM => ?_)
  refine lv_aload_n hx hb dX6_comesFirst_10 rfl (lv_at hl 0 rfl) ?_
  refine lv_iload_n hx hb dX6_comesFirst_11 rfl (lv_at hl 3 rfl) ?_
  obtain ⟨_, h7, hp⟩ := ob hp
  rcases obx_at hp with ⟨E9, hv8, hp⟩ | ⟨v8, hv8, hp⟩
  · exact mx_V_x (As := [.int a3]) (rest := []) C0 hno hlk cbX6 hM h7 rfl (w_X6_needChild hG hY hlf hv8) tw_865 tw_867 tws_3 tw_1 tw_868 yk_X6_needChild (by decide) rfl hl.1 (Nat.le_of_ble_eq_true rfl) dX6_comesFirst_12 rfl (by rw [hp]; rfl) (by decide) (by decide)
  refine mx_V_0 (As := [.int a3]) (rest := []) C0 cbX6 hM h7 rfl (w_X6_needChild hG hY hlf hv8) tw_865 tw_867 tws_3 tw_1 tw_868 yk_X6_needChild (by decide) rfl hl.1 (Nat.le_of_ble_eq_true rfl) dX6_comesFirst_12 rfl (fun H locs hM => ?_)
  refine lv_aload_n hx hb dX6_comesFirst_15 rfl (lv_at hl 0 rfl) ?_
  obtain ⟨v10, hv10, hp⟩ := ob hp
  refine mr_getR C0 cbX6 hM 3 (by decide) tw_282 hv10 dX6_comesFirst_16 ?_
  refine lv_iload_n hx hb dX6_comesFirst_19 rfl (lv_at hl 2 rfl) ?_
  refine lv_iload_n hx hb dX6_comesFirst_20 rfl (lv_at hl 1 rfl) ?_
  obtain ⟨_, h11, hp⟩ := ob hp
  obtain ⟨v12, hv12, hp⟩ := ob hp
  refine mg_V1 (As := [.int a2, .int a1]) (rest := []) C0 cbX2 hM h11 rfl (w_X2_standing hG hv12) tw_924 tw_564 tw_565 tw_3 tw_566 yk_X2_standing (by decide) rfl hl.1 (Nat.le_of_ble_eq_true rfl) dX6_comesFirst_21 rfl (fun H locs hM => ?_)
  refine lv_aload_n hx hb dX6_comesFirst_24 rfl (lv_at hl 0 rfl) ?_
  obtain ⟨v13, hv13, hp⟩ := ob hp
  refine mr_getR C0 cbX6 hM 3 (by decide) tw_282 hv13 dX6_comesFirst_25 ?_
  refine lv_iload_n hx hb dX6_comesFirst_28 rfl (lv_at hl 3 rfl) ?_
  refine lv_iload_n hx hb dX6_comesFirst_29 rfl (lv_at hl 1 rfl) ?_
  obtain ⟨_, h14, hp⟩ := ob hp
  obtain ⟨v15, hv15, hp⟩ := ob hp
  refine mg_V1 (As := [.int a3, .int a1]) (rest := [.long v12]) C0 cbX2 hM h14 rfl (w_X2_standing hG hv15) tw_924 tw_564 tw_565 tw_3 tw_566 yk_X2_standing (by decide) rfl hl.1 (Nat.le_of_ble_eq_true rfl) dX6_comesFirst_30 rfl (fun H locs hM => ?_)
  refine W.lcmp hx hb dX6_comesFirst_33 ?_
  refine lv_if_ge (tgt := 41) hx hb dX6_comesFirst_34 (by decide) (fun c16 => ?_) (fun c16 => ?_)
  · replace hp := oT c16 hp
    refine lv_iconst (v := 0) hx hb dX6_comesFirst_41 (by decide) ?_
    exact mx_iret C0 hr hlk hM rfl (by rw [← Option.some.inj hp]; rfl) (by decide) (by decide) dX6_comesFirst_42
  · replace hp := oF c16 hp
    refine lv_iconst (v := 1) hx hb dX6_comesFirst_37 (by decide) ?_
    refine lv_goto (tgt := 42) hx hb dX6_comesFirst_38 (by decide) ?_
    exact mx_iret C0 hr hlk hM rfl (by rw [← Option.some.inj hp]; rfl) (by decide) (by decide) dX6_comesFirst_42
abbrev rm_X6_holder : Room := { frames := 7, cells := 2, slots := 12, locals := 125 }
def p_X6_holder (a0 : Nat) (a1 : Int32) (a2 : Int32) (Mi : Mem) : Option ((Int32) ⊕ String) :=
  (Option.bind (isC 5 Mi a0) fun _ =>
  (obx (p_X6_needSchool a0 a1 Mi) fun v2 =>
  (Option.bind (gR 5 3 Mi a0) fun v4 =>
  (Option.bind (gR 5 3 Mi a0) fun v5 =>
  (Option.bind (isC 2 Mi v5) fun _ =>
  (Option.bind (p_X2_holdersOf v5 a1 Mi) fun v7 =>
  (Option.bind (isC 2 Mi v4) fun _ =>
  (Option.bind (p_X2_orderedOf v4 v7 a1 a2 Mi) fun v9 =>
  (if v9 = (-1 : Int32) then
   some (.inr "java/util/NoSuchElementException")
  else
   some (.inl v9)
  )
  )
  )
  )
  )
  )
  )
  ))
theorem yk_X6_holder : yok yX6_holder 2 := by decide +kernel
set_option maxHeartbeats 4000000 in
set_option maxRecDepth 100000 in
theorem w_X6_holder {G : gG} (hG : GOK G) (hY : GY G) {l : Launch} (hlf : l.stackTraces = false) {a0 : Nat} {a1 : Int32} {a2 : Int32} {Mi : Mem} {out : (Int32) ⊕ String} (hp : p_X6_holder a0 a1 a2 Mi = some out) : CX G l yX6_holder (wT yX6_holder cX6_holder 4 (some FieldType.int)) rm_X6_holder [.ref a0, .int a1, .int a2] Mi (sm (fun r => (some (.int r), Mi)) out) 2 12 := by
  refine CX_of (own := RX6) (maxL := 4) (ret := (some FieldType.int)) hG (by decide) rfl (Nat.le_of_ble_eq_true rfl) (fun p e s m below meth c A C0 hr hlk hno hM ls hl => ?_)
  have hl : lv_has ls 4 [(0, .ref a0), (1, .int a1), (2, .int a2)] := hl
  generalize ([.ref a0, .int a1, .int a2] : List Value).toArray = args at C0 ⊢
  skip
  have hx := C0.1
  have hb := C0.2.1
  have hown := C0.2.2.2.1
  have hts := C0.2.2.2.2.1
  unfold p_X6_holder at hp
  refine lv_aload_n hx hb dX6_holder_0 rfl (lv_at hl 0 rfl) ?_
  refine lv_iload_n hx hb dX6_holder_1 rfl (lv_at hl 1 rfl) ?_
  obtain ⟨_, h1, hp⟩ := ob hp
  rcases obx_at hp with ⟨E3, hv2, hp⟩ | ⟨v2, hv2, hp⟩
  · exact mx_V_x (As := [.int a1]) (rest := []) C0 hno hlk cbX6 hM h1 rfl (w_X6_needSchool hG hY hlf hv2) tw_808 tw_810 tws_2 tw_1 tw_811 yk_X6_needSchool (by decide) rfl hl.1 (Nat.le_of_ble_eq_true rfl) dX6_holder_2 rfl (by rw [hp]; rfl) (by decide) (by decide)
  refine mx_V_0 (As := [.int a1]) (rest := []) C0 cbX6 hM h1 rfl (w_X6_needSchool hG hY hlf hv2) tw_808 tw_810 tws_2 tw_1 tw_811 yk_X6_needSchool (by decide) rfl hl.1 (Nat.le_of_ble_eq_true rfl) dX6_holder_2 rfl (fun H locs hM => ?_)
  refine lv_aload_n hx hb dX6_holder_5 rfl (lv_at hl 0 rfl) ?_
  obtain ⟨v4, hv4, hp⟩ := ob hp
  refine mr_getR C0 cbX6 hM 3 (by decide) tw_282 hv4 dX6_holder_6 ?_
  refine lv_aload_n hx hb dX6_holder_9 rfl (lv_at hl 0 rfl) ?_
  obtain ⟨v5, hv5, hp⟩ := ob hp
  refine mr_getR C0 cbX6 hM 3 (by decide) tw_282 hv5 dX6_holder_10 ?_
  refine lv_iload_n hx hb dX6_holder_13 rfl (lv_at hl 1 rfl) ?_
  obtain ⟨_, h6, hp⟩ := ob hp
  obtain ⟨v7, hv7, hp⟩ := ob hp
  refine mg_V1 (As := [.int a1]) (rest := [.ref v4]) C0 cbX2 hM h6 rfl (w_X2_holdersOf hG hv7) tw_677 tw_555 tw_556 tw_3 tw_557 yk_X2_holdersOf (by decide) rfl hl.1 (Nat.le_of_ble_eq_true rfl) dX6_holder_14 rfl (fun H locs hM => ?_)
  refine lv_iload_n hx hb dX6_holder_17 rfl (lv_at hl 1 rfl) ?_
  refine lv_iload_n hx hb dX6_holder_18 rfl (lv_at hl 2 rfl) ?_
  obtain ⟨_, h8, hp⟩ := ob hp
  obtain ⟨v9, hv9, hp⟩ := ob hp
  refine mg_V1 (As := [.long v7, .int a1, .int a2]) (rest := []) C0 cbX2 hM h8 rfl (w_X2_orderedOf hG hv9) tw_932 tw_933 tw_934 tw_3 tw_935 yk_X2_orderedOf (by decide) rfl hl.1 (Nat.le_of_ble_eq_true rfl) dX6_holder_19 rfl (fun H locs hM => ?_)
  refine lv_istore_n (lv' := [(3, .int v9), (0, .ref a0), (1, .int a1), (2, .int a2)]) hx hb dX6_holder_22 rfl hl (by decide) rfl (fun ls hl => ?_)
  refine lv_iload_n hx hb dX6_holder_23 rfl (lv_at hl 0 rfl) ?_
  refine lv_iconst (v := -1) hx hb dX6_holder_24 (by decide) ?_
  refine lv_icmp_ne (tgt := 38) hx hb dX6_holder_25 (by decide) (fun c10 => ?_) (fun c10 => ?_)
  · replace hp := oF c10 hp
    refine lv_iload_n hx hb dX6_holder_38 rfl (lv_at hl 0 rfl) ?_
    exact mx_iret C0 hr hlk hM rfl (by rw [← Option.some.inj hp]; rfl) (by decide) (by decide) dX6_holder_39
  · replace hp := oT c10 hp
    exact mx_throwN (text := "no such holder") (rest := []) C0 hY hlf hlk hno hM xk_187 (by decide +kernel) rfl hl.1 (by rw [← Option.some.inj hp]; rfl) dX6_holder_28 dX6_holder_31 dX6_holder_32 dX6_holder_34 dX6_holder_37 ⟨⟨by decide, Nat.le_of_ble_eq_true rfl⟩, by decide, by decide⟩ (by decide) (by decide)
abbrev rm_X6_waiting : Room := { frames := 7, cells := 2, slots := 12, locals := 125 }
def p_X6_waiting (a0 : Nat) (a1 : Int32) (a2 : Int32) (Mi : Mem) : Option ((Int32) ⊕ String) :=
  (Option.bind (isC 5 Mi a0) fun _ =>
  (obx (p_X6_needSchool a0 a1 Mi) fun v2 =>
  (Option.bind (gR 5 3 Mi a0) fun v4 =>
  (Option.bind (gR 5 3 Mi a0) fun v5 =>
  (Option.bind (isC 2 Mi v5) fun _ =>
  (Option.bind (p_X2_waitersOf v5 a1 Mi) fun v7 =>
  (Option.bind (isC 2 Mi v4) fun _ =>
  (Option.bind (p_X2_orderedOf v4 v7 a1 a2 Mi) fun v9 =>
  (if v9 = (-1 : Int32) then
   some (.inr "java/util/NoSuchElementException")
  else
   some (.inl v9)
  )
  )
  )
  )
  )
  )
  )
  ))
theorem yk_X6_waiting : yok yX6_waiting 2 := by decide +kernel
set_option maxHeartbeats 4000000 in
set_option maxRecDepth 100000 in
theorem w_X6_waiting {G : gG} (hG : GOK G) (hY : GY G) {l : Launch} (hlf : l.stackTraces = false) {a0 : Nat} {a1 : Int32} {a2 : Int32} {Mi : Mem} {out : (Int32) ⊕ String} (hp : p_X6_waiting a0 a1 a2 Mi = some out) : CX G l yX6_waiting (wT yX6_waiting cX6_waiting 4 (some FieldType.int)) rm_X6_waiting [.ref a0, .int a1, .int a2] Mi (sm (fun r => (some (.int r), Mi)) out) 2 12 := by
  refine CX_of (own := RX6) (maxL := 4) (ret := (some FieldType.int)) hG (by decide) rfl (Nat.le_of_ble_eq_true rfl) (fun p e s m below meth c A C0 hr hlk hno hM ls hl => ?_)
  have hl : lv_has ls 4 [(0, .ref a0), (1, .int a1), (2, .int a2)] := hl
  generalize ([.ref a0, .int a1, .int a2] : List Value).toArray = args at C0 ⊢
  skip
  have hx := C0.1
  have hb := C0.2.1
  have hown := C0.2.2.2.1
  have hts := C0.2.2.2.2.1
  unfold p_X6_waiting at hp
  refine lv_aload_n hx hb dX6_waiting_0 rfl (lv_at hl 0 rfl) ?_
  refine lv_iload_n hx hb dX6_waiting_1 rfl (lv_at hl 1 rfl) ?_
  obtain ⟨_, h1, hp⟩ := ob hp
  rcases obx_at hp with ⟨E3, hv2, hp⟩ | ⟨v2, hv2, hp⟩
  · exact mx_V_x (As := [.int a1]) (rest := []) C0 hno hlk cbX6 hM h1 rfl (w_X6_needSchool hG hY hlf hv2) tw_808 tw_810 tws_2 tw_1 tw_811 yk_X6_needSchool (by decide) rfl hl.1 (Nat.le_of_ble_eq_true rfl) dX6_waiting_2 rfl (by rw [hp]; rfl) (by decide) (by decide)
  refine mx_V_0 (As := [.int a1]) (rest := []) C0 cbX6 hM h1 rfl (w_X6_needSchool hG hY hlf hv2) tw_808 tw_810 tws_2 tw_1 tw_811 yk_X6_needSchool (by decide) rfl hl.1 (Nat.le_of_ble_eq_true rfl) dX6_waiting_2 rfl (fun H locs hM => ?_)
  refine lv_aload_n hx hb dX6_waiting_5 rfl (lv_at hl 0 rfl) ?_
  obtain ⟨v4, hv4, hp⟩ := ob hp
  refine mr_getR C0 cbX6 hM 3 (by decide) tw_282 hv4 dX6_waiting_6 ?_
  refine lv_aload_n hx hb dX6_waiting_9 rfl (lv_at hl 0 rfl) ?_
  obtain ⟨v5, hv5, hp⟩ := ob hp
  refine mr_getR C0 cbX6 hM 3 (by decide) tw_282 hv5 dX6_waiting_10 ?_
  refine lv_iload_n hx hb dX6_waiting_13 rfl (lv_at hl 1 rfl) ?_
  obtain ⟨_, h6, hp⟩ := ob hp
  obtain ⟨v7, hv7, hp⟩ := ob hp
  refine mg_V1 (As := [.int a1]) (rest := [.ref v4]) C0 cbX2 hM h6 rfl (w_X2_waitersOf hG hv7) tw_703 tw_642 tw_643 tw_3 tw_644 yk_X2_waitersOf (by decide) rfl hl.1 (Nat.le_of_ble_eq_true rfl) dX6_waiting_14 rfl (fun H locs hM => ?_)
  refine lv_iload_n hx hb dX6_waiting_17 rfl (lv_at hl 1 rfl) ?_
  refine lv_iload_n hx hb dX6_waiting_18 rfl (lv_at hl 2 rfl) ?_
  obtain ⟨_, h8, hp⟩ := ob hp
  obtain ⟨v9, hv9, hp⟩ := ob hp
  refine mg_V1 (As := [.long v7, .int a1, .int a2]) (rest := []) C0 cbX2 hM h8 rfl (w_X2_orderedOf hG hv9) tw_932 tw_933 tw_934 tw_3 tw_935 yk_X2_orderedOf (by decide) rfl hl.1 (Nat.le_of_ble_eq_true rfl) dX6_waiting_19 rfl (fun H locs hM => ?_)
  refine lv_istore_n (lv' := [(3, .int v9), (0, .ref a0), (1, .int a1), (2, .int a2)]) hx hb dX6_waiting_22 rfl hl (by decide) rfl (fun ls hl => ?_)
  refine lv_iload_n hx hb dX6_waiting_23 rfl (lv_at hl 0 rfl) ?_
  refine lv_iconst (v := -1) hx hb dX6_waiting_24 (by decide) ?_
  refine lv_icmp_ne (tgt := 38) hx hb dX6_waiting_25 (by decide) (fun c10 => ?_) (fun c10 => ?_)
  · replace hp := oF c10 hp
    refine lv_iload_n hx hb dX6_waiting_38 rfl (lv_at hl 0 rfl) ?_
    exact mx_iret C0 hr hlk hM rfl (by rw [← Option.some.inj hp]; rfl) (by decide) (by decide) dX6_waiting_39
  · replace hp := oT c10 hp
    exact mx_throwN (text := "no such place on the waiting list") (rest := []) C0 hY hlf hlk hno hM xk_187 (by decide +kernel) rfl hl.1 (by rw [← Option.some.inj hp]; rfl) dX6_waiting_28 dX6_waiting_31 dX6_waiting_32 dX6_waiting_34 dX6_waiting_37 ⟨⟨by decide, Nat.le_of_ble_eq_true rfl⟩, by decide, by decide⟩ (by decide) (by decide)
abbrev rm_X6_waitingPlace : Room := { frames := 7, cells := 2, slots := 12, locals := 111 }
def p_X6_waitingPlace (a0 : Nat) (a1 : Int32) (a2 : Int32) (Mi : Mem) : Option ((Int32) ⊕ String) :=
  (Option.bind (isC 5 Mi a0) fun _ =>
  (obx (p_X6_needChild a0 a1 Mi) fun v2 =>
  (Option.bind (isC 5 Mi a0) fun _ =>
  (obx (p_X6_needSchool a0 a2 Mi) fun v5 =>
  (Option.bind (gR 5 3 Mi a0) fun v7 =>
  (Option.bind (isC 2 Mi v7) fun _ =>
  (Option.bind (p_X2_waits v7 a1 a2 Mi) fun v9 =>
  (if v9 = 0 then
   some (.inl (-1 : Int32))
  else
   (Option.bind (gR 5 3 Mi a0) fun v11 =>
   (Option.bind (gR 5 3 Mi a0) fun v12 =>
   (Option.bind (isC 2 Mi v12) fun _ =>
   (Option.bind (p_X2_waitersOf v12 a2 Mi) fun v14 =>
   (Option.bind (isC 2 Mi v11) fun _ =>
   (Option.bind (p_X2_aheadOf v11 a1 v14 a2 Mi) fun v16 =>
   some (.inl v16)
   )
   )
   )
   )
   )
   )
  )
  )
  )
  )
  ))
  ))
theorem yk_X6_waitingPlace : yok yX6_waitingPlace 2 := by decide +kernel
set_option maxHeartbeats 4000000 in
set_option maxRecDepth 100000 in
theorem w_X6_waitingPlace {G : gG} (hG : GOK G) (hY : GY G) {l : Launch} (hlf : l.stackTraces = false) {a0 : Nat} {a1 : Int32} {a2 : Int32} {Mi : Mem} {out : (Int32) ⊕ String} (hp : p_X6_waitingPlace a0 a1 a2 Mi = some out) : CX G l yX6_waitingPlace (wT yX6_waitingPlace cX6_waitingPlace 3 (some FieldType.int)) rm_X6_waitingPlace [.ref a0, .int a1, .int a2] Mi (sm (fun r => (some (.int r), Mi)) out) 2 12 := by
  refine CX_of (own := RX6) (maxL := 3) (ret := (some FieldType.int)) hG (by decide) rfl (Nat.le_of_ble_eq_true rfl) (fun p e s m below meth c A C0 hr hlk hno hM ls hl => ?_)
  have hl : lv_has ls 3 [(0, .ref a0), (1, .int a1), (2, .int a2)] := hl
  generalize ([.ref a0, .int a1, .int a2] : List Value).toArray = args at C0 ⊢
  skip
  have hx := C0.1
  have hb := C0.2.1
  have hown := C0.2.2.2.1
  have hts := C0.2.2.2.2.1
  unfold p_X6_waitingPlace at hp
  refine lv_aload_n hx hb dX6_waitingPlace_0 rfl (lv_at hl 0 rfl) ?_
  refine lv_iload_n hx hb dX6_waitingPlace_1 rfl (lv_at hl 1 rfl) ?_
  obtain ⟨_, h1, hp⟩ := ob hp
  rcases obx_at hp with ⟨E3, hv2, hp⟩ | ⟨v2, hv2, hp⟩
  · exact mx_V_x (As := [.int a1]) (rest := []) C0 hno hlk cbX6 hM h1 rfl (w_X6_needChild hG hY hlf hv2) tw_865 tw_867 tws_3 tw_1 tw_868 yk_X6_needChild (by decide) rfl hl.1 (Nat.le_of_ble_eq_true rfl) dX6_waitingPlace_2 rfl (by rw [hp]; rfl) (by decide) (by decide)
  refine mx_V_0 (As := [.int a1]) (rest := []) C0 cbX6 hM h1 rfl (w_X6_needChild hG hY hlf hv2) tw_865 tw_867 tws_3 tw_1 tw_868 yk_X6_needChild (by decide) rfl hl.1 (Nat.le_of_ble_eq_true rfl) dX6_waitingPlace_2 rfl (fun H locs hM => ?_)
  refine lv_aload_n hx hb dX6_waitingPlace_5 rfl (lv_at hl 0 rfl) ?_
  refine lv_iload_n hx hb dX6_waitingPlace_6 rfl (lv_at hl 2 rfl) ?_
  obtain ⟨_, h4, hp⟩ := ob hp
  rcases obx_at hp with ⟨E6, hv5, hp⟩ | ⟨v5, hv5, hp⟩
  · exact mx_V_x (As := [.int a2]) (rest := []) C0 hno hlk cbX6 hM h4 rfl (w_X6_needSchool hG hY hlf hv5) tw_808 tw_810 tws_2 tw_1 tw_811 yk_X6_needSchool (by decide) rfl hl.1 (Nat.le_of_ble_eq_true rfl) dX6_waitingPlace_7 rfl (by rw [hp]; rfl) (by decide) (by decide)
  refine mx_V_0 (As := [.int a2]) (rest := []) C0 cbX6 hM h4 rfl (w_X6_needSchool hG hY hlf hv5) tw_808 tw_810 tws_2 tw_1 tw_811 yk_X6_needSchool (by decide) rfl hl.1 (Nat.le_of_ble_eq_true rfl) dX6_waitingPlace_7 rfl (fun H locs hM => ?_)
  refine lv_aload_n hx hb dX6_waitingPlace_10 rfl (lv_at hl 0 rfl) ?_
  obtain ⟨v7, hv7, hp⟩ := ob hp
  refine mr_getR C0 cbX6 hM 3 (by decide) tw_282 hv7 dX6_waitingPlace_11 ?_
  refine lv_iload_n hx hb dX6_waitingPlace_14 rfl (lv_at hl 1 rfl) ?_
  refine lv_iload_n hx hb dX6_waitingPlace_15 rfl (lv_at hl 2 rfl) ?_
  obtain ⟨_, h8, hp⟩ := ob hp
  obtain ⟨v9, hv9, hp⟩ := ob hp
  refine mg_V1 (As := [.int a1, .int a2]) (rest := []) C0 cbX2 hM h8 rfl (w_X2_waits hG hv9) tw_956 tw_543 tw_544 tw_3 tw_545 yk_X2_waits (by decide) rfl hl.1 (Nat.le_of_ble_eq_true rfl) dX6_waitingPlace_16 rfl (fun H locs hM => ?_)
  refine lv_if_ne (tgt := 24) hx hb dX6_waitingPlace_19 (by decide) (fun c10 => ?_) (fun c10 => ?_)
  · replace hp := oF c10 hp
    refine lv_aload_n hx hb dX6_waitingPlace_24 rfl (lv_at hl 0 rfl) ?_
    obtain ⟨v11, hv11, hp⟩ := ob hp
    refine mr_getR C0 cbX6 hM 3 (by decide) tw_282 hv11 dX6_waitingPlace_25 ?_
    refine lv_iload_n hx hb dX6_waitingPlace_28 rfl (lv_at hl 1 rfl) ?_
    refine lv_aload_n hx hb dX6_waitingPlace_29 rfl (lv_at hl 0 rfl) ?_
    obtain ⟨v12, hv12, hp⟩ := ob hp
    refine mr_getR C0 cbX6 hM 3 (by decide) tw_282 hv12 dX6_waitingPlace_30 ?_
    refine lv_iload_n hx hb dX6_waitingPlace_33 rfl (lv_at hl 2 rfl) ?_
    obtain ⟨_, h13, hp⟩ := ob hp
    obtain ⟨v14, hv14, hp⟩ := ob hp
    refine mg_V1 (As := [.int a2]) (rest := [.int a1, .ref v11]) C0 cbX2 hM h13 rfl (w_X2_waitersOf hG hv14) tw_703 tw_642 tw_643 tw_3 tw_644 yk_X2_waitersOf (by decide) rfl hl.1 (Nat.le_of_ble_eq_true rfl) dX6_waitingPlace_34 rfl (fun H locs hM => ?_)
    refine lv_iload_n hx hb dX6_waitingPlace_37 rfl (lv_at hl 2 rfl) ?_
    obtain ⟨_, h15, hp⟩ := ob hp
    obtain ⟨v16, hv16, hp⟩ := ob hp
    refine mg_V1 (As := [.int a1, .long v14, .int a2]) (rest := []) C0 cbX2 hM h15 rfl (w_X2_aheadOf hG hv16) tw_957 tw_937 tw_938 tw_3 tw_939 yk_X2_aheadOf (by decide) rfl hl.1 (Nat.le_of_ble_eq_true rfl) dX6_waitingPlace_38 rfl (fun H locs hM => ?_)
    exact mx_iret C0 hr hlk hM rfl (by rw [← Option.some.inj hp]; rfl) (by decide) (by decide) dX6_waitingPlace_41
  · replace hp := oT c10 hp
    refine lv_iconst (v := -1) hx hb dX6_waitingPlace_22 (by decide) ?_
    exact mx_iret C0 hr hlk hM rfl (by rw [← Option.some.inj hp]; rfl) (by decide) (by decide) dX6_waitingPlace_23
abbrev rm_X6_hasClaim : Room := { frames := 7, cells := 2, slots := 12, locals := 124 }
def p_X6_hasClaim (a0 : Nat) (a1 : Int32) (a2 : Int32) (Mi : Mem) : Option ((Int32) ⊕ String) :=
  (Option.bind (isC 5 Mi a0) fun _ =>
  (obx (p_X6_needChild a0 a1 Mi) fun v2 =>
  (Option.bind (isC 5 Mi a0) fun _ =>
  (obx (p_X6_needSchool a0 a2 Mi) fun v5 =>
  (Option.bind (gR 5 3 Mi a0) fun v7 =>
  (Option.bind (isC 2 Mi v7) fun _ =>
  (Option.bind (p_X2_claimStands v7 a1 a2 Mi) fun v9 =>
  (if v9 = 0 ∨ v9 = 1 then some (.inl v9) else none)
  )
  )
  )
  ))
  ))
theorem yk_X6_hasClaim : yok yX6_hasClaim 2 := by decide +kernel
set_option maxHeartbeats 4000000 in
set_option maxRecDepth 100000 in
theorem w_X6_hasClaim {G : gG} (hG : GOK G) (hY : GY G) {l : Launch} (hlf : l.stackTraces = false) {a0 : Nat} {a1 : Int32} {a2 : Int32} {Mi : Mem} {out : (Int32) ⊕ String} (hp : p_X6_hasClaim a0 a1 a2 Mi = some out) : CX G l yX6_hasClaim (wT yX6_hasClaim cX6_hasClaim 3 (some FieldType.boolean)) rm_X6_hasClaim [.ref a0, .int a1, .int a2] Mi (sm (fun r => (some (.int r), Mi)) out) 2 12 := by
  refine CX_of (own := RX6) (maxL := 3) (ret := (some FieldType.boolean)) hG (by decide) rfl (Nat.le_of_ble_eq_true rfl) (fun p e s m below meth c A C0 hr hlk hno hM ls hl => ?_)
  have hl : lv_has ls 3 [(0, .ref a0), (1, .int a1), (2, .int a2)] := hl
  generalize ([.ref a0, .int a1, .int a2] : List Value).toArray = args at C0 ⊢
  skip
  have hx := C0.1
  have hb := C0.2.1
  have hown := C0.2.2.2.1
  have hts := C0.2.2.2.2.1
  unfold p_X6_hasClaim at hp
  refine lv_aload_n hx hb dX6_hasClaim_0 rfl (lv_at hl 0 rfl) ?_
  refine lv_iload_n hx hb dX6_hasClaim_1 rfl (lv_at hl 1 rfl) ?_
  obtain ⟨_, h1, hp⟩ := ob hp
  rcases obx_at hp with ⟨E3, hv2, hp⟩ | ⟨v2, hv2, hp⟩
  · exact mx_V_x (As := [.int a1]) (rest := []) C0 hno hlk cbX6 hM h1 rfl (w_X6_needChild hG hY hlf hv2) tw_865 tw_867 tws_3 tw_1 tw_868 yk_X6_needChild (by decide) rfl hl.1 (Nat.le_of_ble_eq_true rfl) dX6_hasClaim_2 rfl (by rw [hp]; rfl) (by decide) (by decide)
  refine mx_V_0 (As := [.int a1]) (rest := []) C0 cbX6 hM h1 rfl (w_X6_needChild hG hY hlf hv2) tw_865 tw_867 tws_3 tw_1 tw_868 yk_X6_needChild (by decide) rfl hl.1 (Nat.le_of_ble_eq_true rfl) dX6_hasClaim_2 rfl (fun H locs hM => ?_)
  refine lv_aload_n hx hb dX6_hasClaim_5 rfl (lv_at hl 0 rfl) ?_
  refine lv_iload_n hx hb dX6_hasClaim_6 rfl (lv_at hl 2 rfl) ?_
  obtain ⟨_, h4, hp⟩ := ob hp
  rcases obx_at hp with ⟨E6, hv5, hp⟩ | ⟨v5, hv5, hp⟩
  · exact mx_V_x (As := [.int a2]) (rest := []) C0 hno hlk cbX6 hM h4 rfl (w_X6_needSchool hG hY hlf hv5) tw_808 tw_810 tws_2 tw_1 tw_811 yk_X6_needSchool (by decide) rfl hl.1 (Nat.le_of_ble_eq_true rfl) dX6_hasClaim_7 rfl (by rw [hp]; rfl) (by decide) (by decide)
  refine mx_V_0 (As := [.int a2]) (rest := []) C0 cbX6 hM h4 rfl (w_X6_needSchool hG hY hlf hv5) tw_808 tw_810 tws_2 tw_1 tw_811 yk_X6_needSchool (by decide) rfl hl.1 (Nat.le_of_ble_eq_true rfl) dX6_hasClaim_7 rfl (fun H locs hM => ?_)
  refine lv_aload_n hx hb dX6_hasClaim_10 rfl (lv_at hl 0 rfl) ?_
  obtain ⟨v7, hv7, hp⟩ := ob hp
  refine mr_getR C0 cbX6 hM 3 (by decide) tw_282 hv7 dX6_hasClaim_11 ?_
  refine lv_iload_n hx hb dX6_hasClaim_14 rfl (lv_at hl 1 rfl) ?_
  refine lv_iload_n hx hb dX6_hasClaim_15 rfl (lv_at hl 2 rfl) ?_
  obtain ⟨_, h8, hp⟩ := ob hp
  obtain ⟨v9, hv9, hp⟩ := ob hp
  refine mg_V1 (As := [.int a1, .int a2]) (rest := []) C0 cbX2 hM h8 rfl (w_X2_claimStands hG hv9) tw_538 tw_539 tw_540 tw_3 tw_541 yk_X2_claimStands (by decide) rfl hl.1 (Nat.le_of_ble_eq_true rfl) dX6_hasClaim_16 rfl (fun H locs hM => ?_)
  obtain ⟨hz, hp⟩ := oG hp
  exact mx_iret C0 hr hlk hM (zn hz) (by rw [← Option.some.inj hp]; rfl) (by decide) (by decide) dX6_hasClaim_19
abbrev rm_X6_roundOf : Room := { frames := 7, cells := 1, slots := 6, locals := 111 }
def p_X6_roundOf (a0 : Nat) (a1 : Int32) (Mi : Mem) : Option ((Int32) ⊕ String) :=
  (Option.bind (isC 5 Mi a0) fun _ =>
  (obx (p_X6_needChild a0 a1 Mi) fun v2 =>
  (Option.bind (gR 5 3 Mi a0) fun v4 =>
  (Option.bind (gR 2 17 Mi v4) fun v5 =>
  (Option.bind (aI 0 Mi v5 a1) fun v6 =>
  some (.inl v6)
  )
  )
  )
  ))
theorem yk_X6_roundOf : yok yX6_roundOf 1 := by decide +kernel
set_option maxHeartbeats 4000000 in
set_option maxRecDepth 100000 in
theorem w_X6_roundOf {G : gG} (hG : GOK G) (hY : GY G) {l : Launch} (hlf : l.stackTraces = false) {a0 : Nat} {a1 : Int32} {Mi : Mem} {out : (Int32) ⊕ String} (hp : p_X6_roundOf a0 a1 Mi = some out) : CX G l yX6_roundOf (wT yX6_roundOf cX6_roundOf 2 (some FieldType.int)) rm_X6_roundOf [.ref a0, .int a1] Mi (sm (fun r => (some (.int r), Mi)) out) 1 6 := by
  refine CX_of (own := RX6) (maxL := 2) (ret := (some FieldType.int)) hG (by decide) rfl (Nat.le_of_ble_eq_true rfl) (fun p e s m below meth c A C0 hr hlk hno hM ls hl => ?_)
  have hl : lv_has ls 2 [(0, .ref a0), (1, .int a1)] := hl
  generalize ([.ref a0, .int a1] : List Value).toArray = args at C0 ⊢
  skip
  have hx := C0.1
  have hb := C0.2.1
  have hown := C0.2.2.2.1
  have hts := C0.2.2.2.2.1
  unfold p_X6_roundOf at hp
  refine lv_aload_n hx hb dX6_roundOf_0 rfl (lv_at hl 0 rfl) ?_
  refine lv_iload_n hx hb dX6_roundOf_1 rfl (lv_at hl 1 rfl) ?_
  obtain ⟨_, h1, hp⟩ := ob hp
  rcases obx_at hp with ⟨E3, hv2, hp⟩ | ⟨v2, hv2, hp⟩
  · exact mx_V_x (As := [.int a1]) (rest := []) C0 hno hlk cbX6 hM h1 rfl (w_X6_needChild hG hY hlf hv2) tw_865 tw_867 tws_3 tw_1 tw_868 yk_X6_needChild (by decide) rfl hl.1 (Nat.le_of_ble_eq_true rfl) dX6_roundOf_2 rfl (by rw [hp]; rfl) (by decide) (by decide)
  refine mx_V_0 (As := [.int a1]) (rest := []) C0 cbX6 hM h1 rfl (w_X6_needChild hG hY hlf hv2) tw_865 tw_867 tws_3 tw_1 tw_868 yk_X6_needChild (by decide) rfl hl.1 (Nat.le_of_ble_eq_true rfl) dX6_roundOf_2 rfl (fun H locs hM => ?_)
  refine lv_aload_n hx hb dX6_roundOf_5 rfl (lv_at hl 0 rfl) ?_
  obtain ⟨v4, hv4, hp⟩ := ob hp
  refine mr_getR C0 cbX6 hM 3 (by decide) tw_282 hv4 dX6_roundOf_6 ?_
  obtain ⟨v5, hv5, hp⟩ := ob hp
  refine mr_getR C0 cbX2 hM 17 (by decide) tw_160 hv5 dX6_roundOf_9 ?_
  refine lv_iload_n hx hb dX6_roundOf_12 rfl (lv_at hl 1 rfl) ?_
  obtain ⟨v6, hv6, hp⟩ := ob hp
  refine mr_iald C0 hM hv6 dX6_roundOf_13 ?_
  exact mx_iret C0 hr hlk hM rfl (by rw [← Option.some.inj hp]; rfl) (by decide) (by decide) dX6_roundOf_14
abbrev rm_X6_needHome : Room := { frames := 6, cells := 1, slots := 6, locals := 90 }
def p_X6_needHome (a0 : Int32) (a1 : Int32) (Mi : Mem) : Option ((Unit) ⊕ String) :=
  (if a0 < 0 then
   some (.inr "java/lang/IllegalArgumentException")
  else
   (if (99 : Int32) < a0 then
    some (.inr "java/lang/IllegalArgumentException")
   else
    (if a1 < 0 then
     some (.inr "java/lang/IllegalArgumentException")
    else
     (if a1 ≤ (99 : Int32) then
      some (.inl ())
     else
      some (.inr "java/lang/IllegalArgumentException")
     )
    )
   )
  )
theorem yk_X6_needHome : yok yX6_needHome 2 := by decide +kernel
set_option maxHeartbeats 4000000 in
set_option maxRecDepth 100000 in
theorem w_X6_needHome {G : gG} (hG : GOK G) (hY : GY G) {l : Launch} (hlf : l.stackTraces = false) {a0 : Int32} {a1 : Int32} {Mi : Mem} {out : (Unit) ⊕ String} (hp : p_X6_needHome a0 a1 Mi = some out) : CX G l yX6_needHome (wT yX6_needHome cX6_needHome 2 (none)) rm_X6_needHome [.int a0, .int a1] Mi (sm (fun r => (none, Mi)) out) 1 6 := by
  refine CX_of (own := RX6) (maxL := 2) (ret := (none)) hG (by decide) rfl (Nat.le_of_ble_eq_true rfl) (fun p e s m below meth c A C0 hr hlk hno hM ls hl => ?_)
  have hl : lv_has ls 2 [(0, .int a0), (1, .int a1)] := hl
  generalize ([.int a0, .int a1] : List Value).toArray = args at C0 ⊢
  skip
  have hx := C0.1
  have hb := C0.2.1
  have hown := C0.2.2.2.1
  have hts := C0.2.2.2.2.1
  unfold p_X6_needHome at hp
  refine lv_iload_n hx hb dX6_needHome_0 rfl (lv_at hl 0 rfl) ?_
  refine lv_if_lt (tgt := 20) hx hb dX6_needHome_1 (by decide) (fun c1 => ?_) (fun c1 => ?_)
  · replace hp := oT c1 hp
    exact mx_throwSW (text := "no such place") (rest := []) C0 hY hlf hlk hno hM xk_134 (by decide +kernel) rfl hl.1 (by rw [← Option.some.inj hp]; rfl) dX6_needHome_20 dX6_needHome_23 dX6_needHome_24 dX6_needHome_27 dX6_needHome_30 ⟨⟨by decide, Nat.le_of_ble_eq_true rfl⟩, by decide, by decide⟩ (by decide) (by decide)
  · replace hp := oF c1 hp
    refine lv_iload_n hx hb dX6_needHome_4 rfl (lv_at hl 0 rfl) ?_
    refine lv_bipush (v := 99) hx hb dX6_needHome_5 (by decide) ?_
    refine lv_icmp_gt (tgt := 20) hx hb dX6_needHome_7 (by decide) (fun c2 => ?_) (fun c2 => ?_)
    · replace hp := oT c2 hp
      exact mx_throwSW (text := "no such place") (rest := []) C0 hY hlf hlk hno hM xk_134 (by decide +kernel) rfl hl.1 (by rw [← Option.some.inj hp]; rfl) dX6_needHome_20 dX6_needHome_23 dX6_needHome_24 dX6_needHome_27 dX6_needHome_30 ⟨⟨by decide, Nat.le_of_ble_eq_true rfl⟩, by decide, by decide⟩ (by decide) (by decide)
    · replace hp := oF c2 hp
      refine lv_iload_n hx hb dX6_needHome_10 rfl (lv_at hl 1 rfl) ?_
      refine lv_if_lt (tgt := 20) hx hb dX6_needHome_11 (by decide) (fun c3 => ?_) (fun c3 => ?_)
      · replace hp := oT c3 hp
        exact mx_throwSW (text := "no such place") (rest := []) C0 hY hlf hlk hno hM xk_134 (by decide +kernel) rfl hl.1 (by rw [← Option.some.inj hp]; rfl) dX6_needHome_20 dX6_needHome_23 dX6_needHome_24 dX6_needHome_27 dX6_needHome_30 ⟨⟨by decide, Nat.le_of_ble_eq_true rfl⟩, by decide, by decide⟩ (by decide) (by decide)
      · replace hp := oF c3 hp
        refine lv_iload_n hx hb dX6_needHome_14 rfl (lv_at hl 1 rfl) ?_
        refine lv_bipush (v := 99) hx hb dX6_needHome_15 (by decide) ?_
        refine lv_icmp_le (tgt := 31) hx hb dX6_needHome_17 (by decide) (fun c4 => ?_) (fun c4 => ?_)
        · replace hp := oT c4 hp
          exact mx_vret C0 hr hlk hM (by rw [← Option.some.inj hp]; rfl) (by decide) (by decide) dX6_needHome_31
        · replace hp := oF c4 hp
          exact mx_throwSW (text := "no such place") (rest := []) C0 hY hlf hlk hno hM xk_134 (by decide +kernel) rfl hl.1 (by rw [← Option.some.inj hp]; rfl) dX6_needHome_20 dX6_needHome_23 dX6_needHome_24 dX6_needHome_27 dX6_needHome_30 ⟨⟨by decide, Nat.le_of_ble_eq_true rfl⟩, by decide, by decide⟩ (by decide) (by decide)
abbrev rm_X6_addChild : Room := { frames := 7, cells := 2, slots := 12, locals := 144 }
def p_X6_addChild (a0 : Nat) (a1 : Int32) (a2 : Int32) (a3 : Int32) (a4 : Int32) (a5 : Int32) (Mi : Mem) : Option ((Int32 × Mem) ⊕ String) :=
  (obx (p_X6_needHome a1 a2 Mi) fun v2 =>
  (if a3 < 0 then
   some (.inr "java/lang/IllegalArgumentException")
  else
   (if a3 ≤ (99 : Int32) then
    (Option.bind (isC 5 Mi a0) fun _ =>
    (Option.bind (p_X6_wishRow a0 a5 Mi) fun v7 =>
    (if v7 = (-1 : Int32) then
     some (.inr "java/lang/IllegalArgumentException")
    else
     (Option.bind (gR 5 3 Mi a0) fun v9 =>
     (Option.bind (gI 2 1 Mi v9) fun v10 =>
     (if v10 < (40 : Int32) then
      (Option.bind (isC 5 Mi a0) fun _ =>
      (Option.bind (p_X6_remember a0 Mi) fun M13 =>
      (Option.bind (gR 5 3 M13 a0) fun v14 =>
      (Option.bind (isC 2 M13 v14) fun _ =>
      (ob2 (p_X2_enrol v14 a1 a2 a3 a4 v7 M13) fun v16 M17 =>
      (Option.bind (gR 5 3 M17 a0) fun v18 =>
      (Option.bind (isC 2 M17 v18) fun _ =>
      (Option.bind (p_X2_fillPlaces v18 M17) fun M20 =>
      some (.inl (v16, M20))
      )
      )
      )
      )
      )
      )
      )
      )
     else
      some (.inr "java/lang/IllegalStateException")
     )
     )
     )
    )
    )
    )
   else
    some (.inr "java/lang/IllegalArgumentException")
   )
  )
  )
theorem yk_X6_addChild : yok yX6_addChild 5 := by decide +kernel
set_option maxHeartbeats 4000000 in
set_option maxRecDepth 100000 in
theorem w_X6_addChild {G : gG} (hG : GOK G) (hY : GY G) {l : Launch} (hlf : l.stackTraces = false) {a0 : Nat} {a1 : Int32} {a2 : Int32} {a3 : Int32} {a4 : Int32} {a5 : Int32} {Mi : Mem} {out : (Int32 × Mem) ⊕ String} (hp : p_X6_addChild a0 a1 a2 a3 a4 a5 Mi = some out) : CX G l yX6_addChild (wT yX6_addChild cX6_addChild 8 (some FieldType.int)) rm_X6_addChild [.ref a0, .int a1, .int a2, .int a3, .int a4, .int a5] Mi (sm (fun r => (some (.int r.1), r.2)) out) 2 12 := by
  refine CX_of (own := RX6) (maxL := 8) (ret := (some FieldType.int)) hG (by decide) rfl (Nat.le_of_ble_eq_true rfl) (fun p e s m below meth c A C0 hr hlk hno hM ls hl => ?_)
  have hl : lv_has ls 8 [(0, .ref a0), (1, .int a1), (2, .int a2), (3, .int a3), (4, .int a4), (5, .int a5)] := hl
  generalize ([.ref a0, .int a1, .int a2, .int a3, .int a4, .int a5] : List Value).toArray = args at C0 ⊢
  skip
  have hx := C0.1
  have hb := C0.2.1
  have hown := C0.2.2.2.1
  have hts := C0.2.2.2.2.1
  unfold p_X6_addChild at hp
  refine lv_iload_n hx hb dX6_addChild_0 rfl (lv_at hl 1 rfl) ?_
  refine lv_iload_n hx hb dX6_addChild_1 rfl (lv_at hl 2 rfl) ?_
  rcases obx_at hp with ⟨E3, hv2, hp⟩ | ⟨v2, hv2, hp⟩
  · exact mx_S_x (As := [.int a1, .int a2]) (rest := []) C0 hno hlk hM (w_X6_needHome hG hY hlf hv2) tw_980 tw_981 tw_1 tw_982 yk_X6_needHome (by decide) rfl hl.1 (Nat.le_of_ble_eq_true rfl) dX6_addChild_2 rfl (by rw [hp]; rfl) (by decide) (by decide)
  refine mx_S_0 (As := [.int a1, .int a2]) (rest := []) C0 hM (w_X6_needHome hG hY hlf hv2) tw_980 tw_981 tw_1 tw_982 yk_X6_needHome (by decide) rfl hl.1 (Nat.le_of_ble_eq_true rfl) dX6_addChild_2 rfl (fun H locs hM => ?_)
  refine lv_iload_n hx hb dX6_addChild_5 rfl (lv_at hl 3 rfl) ?_
  refine lv_if_lt (tgt := 15) hx hb dX6_addChild_6 (by decide) (fun c4 => ?_) (fun c4 => ?_)
  · replace hp := oT c4 hp
    exact mx_throwSW (text := "no such family") (rest := []) C0 hY hlf hlk hno hM xk_134 (by decide +kernel) rfl hl.1 (by rw [← Option.some.inj hp]; rfl) dX6_addChild_15 dX6_addChild_18 dX6_addChild_19 dX6_addChild_22 dX6_addChild_25 ⟨⟨by decide, Nat.le_of_ble_eq_true rfl⟩, by decide, by decide⟩ (by decide) (by decide)
  · replace hp := oF c4 hp
    refine lv_iload_n hx hb dX6_addChild_9 rfl (lv_at hl 3 rfl) ?_
    refine lv_bipush (v := 99) hx hb dX6_addChild_10 (by decide) ?_
    refine lv_icmp_le (tgt := 26) hx hb dX6_addChild_12 (by decide) (fun c5 => ?_) (fun c5 => ?_)
    · replace hp := oT c5 hp
      refine lv_aload_n hx hb dX6_addChild_26 rfl (lv_at hl 0 rfl) ?_
      refine lv_iload hx hb dX6_addChild_27 (lv_at hl 5 rfl) ?_
      obtain ⟨_, h6, hp⟩ := ob hp
      obtain ⟨v7, hv7, hp⟩ := ob hp
      refine mg_V1 (As := [.int a5]) (rest := []) C0 cbX6 hM h6 rfl (w_X6_wishRow hG hv7) tw_985 tw_987 tws_4 tw_1 tw_988 yk_X6_wishRow (by decide) rfl hl.1 (Nat.le_of_ble_eq_true rfl) dX6_addChild_29 rfl (fun H locs hM => ?_)
      refine lv_istore (lv' := [(6, .int v7), (0, .ref a0), (1, .int a1), (2, .int a2), (3, .int a3), (4, .int a4), (5, .int a5)]) hx hb dX6_addChild_32 hl (by decide) rfl (fun ls hl => ?_)
      refine lv_iload hx hb dX6_addChild_34 (lv_at hl 0 rfl) ?_
      refine lv_iconst (v := -1) hx hb dX6_addChild_36 (by decide) ?_
      refine lv_icmp_ne (tgt := 51) hx hb dX6_addChild_37 (by decide) (fun c8 => ?_) (fun c8 => ?_)
      · replace hp := oF c8 hp
        refine lv_aload_n hx hb dX6_addChild_51 rfl (lv_at hl 1 rfl) ?_
        obtain ⟨v9, hv9, hp⟩ := ob hp
        refine mr_getR C0 cbX6 hM 3 (by decide) tw_282 hv9 dX6_addChild_52 ?_
        obtain ⟨v10, hv10, hp⟩ := ob hp
        refine mr_getI C0 cbX2 hM 1 (by decide) tw_121 hv10 dX6_addChild_55 ?_
        refine lv_bipush (v := 40) hx hb dX6_addChild_58 (by decide) ?_
        refine lv_icmp_lt (tgt := 74) hx hb dX6_addChild_60 (by decide) (fun c11 => ?_) (fun c11 => ?_)
        · replace hp := oT c11 hp
          refine lv_aload_n hx hb dX6_addChild_74 rfl (lv_at hl 1 rfl) ?_
          obtain ⟨_, h12, hp⟩ := ob hp
          obtain ⟨M13, hM13, hp⟩ := ob hp
          refine mg_V0 (As := []) (rest := []) C0 cbX6 hM h12 rfl (w_X6_remember hG hM13) tw_586 tw_588 tws_0 tw_1 tw_589 yk_X6_remember (by decide) rfl hl.1 (Nat.le_of_ble_eq_true rfl) dX6_addChild_75 rfl (fun H locs hM => ?_)
          refine lv_aload_n hx hb dX6_addChild_78 rfl (lv_at hl 1 rfl) ?_
          obtain ⟨v14, hv14, hp⟩ := ob hp
          refine mr_getR C0 cbX6 hM 3 (by decide) tw_282 hv14 dX6_addChild_79 ?_
          refine lv_iload_n hx hb dX6_addChild_82 rfl (lv_at hl 2 rfl) ?_
          refine lv_iload_n hx hb dX6_addChild_83 rfl (lv_at hl 3 rfl) ?_
          refine lv_iload_n hx hb dX6_addChild_84 rfl (lv_at hl 4 rfl) ?_
          refine lv_iload hx hb dX6_addChild_85 (lv_at hl 5 rfl) ?_
          refine lv_iload hx hb dX6_addChild_87 (lv_at hl 0 rfl) ?_
          obtain ⟨_, h15, hp⟩ := ob hp
          obtain ⟨v16, M17, hv16, hp⟩ := ob3 hp
          refine mg_V1 (As := [.int a1, .int a2, .int a3, .int a4, .int v7]) (rest := []) C0 cbX2 hM h15 rfl (w_X2_enrol hG hv16) tw_1007 tw_498 tw_499 tw_3 tw_500 yk_X2_enrol (by decide) rfl hl.1 (Nat.le_of_ble_eq_true rfl) dX6_addChild_89 rfl (fun H locs hM => ?_)
          refine lv_istore (lv' := [(7, .int v16), (6, .int v7), (0, .ref a0), (1, .int a1), (2, .int a2), (3, .int a3), (4, .int a4), (5, .int a5)]) hx hb dX6_addChild_92 hl (by decide) rfl (fun ls hl => ?_)
          refine lv_aload_n hx hb dX6_addChild_94 rfl (lv_at hl 2 rfl) ?_
          obtain ⟨v18, hv18, hp⟩ := ob hp
          refine mr_getR C0 cbX6 hM 3 (by decide) tw_282 hv18 dX6_addChild_95 ?_
          obtain ⟨_, h19, hp⟩ := ob hp
          obtain ⟨M20, hM20, hp⟩ := ob hp
          refine mg_V0 (As := []) (rest := []) C0 cbX2 hM h19 rfl (w_X2_fillPlaces hG hM20) tw_632 tw_633 tw_634 tw_3 tw_635 yk_X2_fillPlaces (by decide) rfl hl.1 (Nat.le_of_ble_eq_true rfl) dX6_addChild_98 rfl (fun H locs hM => ?_)
          refine lv_iload hx hb dX6_addChild_101 (lv_at hl 0 rfl) ?_
          exact mx_iret C0 hr hlk hM rfl (by rw [← Option.some.inj hp]; rfl) (by decide) (by decide) dX6_addChild_103
        · replace hp := oF c11 hp
          exact mx_throwSW (text := "there are too many children") (rest := []) C0 hY hlf hlk hno hM xk_277 (by decide +kernel) rfl hl.1 (by rw [← Option.some.inj hp]; rfl) dX6_addChild_63 dX6_addChild_66 dX6_addChild_67 dX6_addChild_70 dX6_addChild_73 ⟨⟨by decide, Nat.le_of_ble_eq_true rfl⟩, by decide, by decide⟩ (by decide) (by decide)
      · replace hp := oT c8 hp
        exact mx_throwSW (text := "these are no preferences") (rest := []) C0 hY hlf hlk hno hM xk_134 (by decide +kernel) rfl hl.1 (by rw [← Option.some.inj hp]; rfl) dX6_addChild_40 dX6_addChild_43 dX6_addChild_44 dX6_addChild_47 dX6_addChild_50 ⟨⟨by decide, Nat.le_of_ble_eq_true rfl⟩, by decide, by decide⟩ (by decide) (by decide)
    · replace hp := oF c5 hp
      exact mx_throwSW (text := "no such family") (rest := []) C0 hY hlf hlk hno hM xk_134 (by decide +kernel) rfl hl.1 (by rw [← Option.some.inj hp]; rfl) dX6_addChild_15 dX6_addChild_18 dX6_addChild_19 dX6_addChild_22 dX6_addChild_25 ⟨⟨by decide, Nat.le_of_ble_eq_true rfl⟩, by decide, by decide⟩ (by decide) (by decide)
abbrev rm_X6_withdraw : Room := { frames := 7, cells := 2, slots := 12, locals := 144 }
def p_X6_withdraw (a0 : Nat) (a1 : Int32) (Mi : Mem) : Option ((Int32 × Mem) ⊕ String) :=
  (Option.bind (isC 5 Mi a0) fun _ =>
  (obx (p_X6_needChild a0 a1 Mi) fun v2 =>
  (Option.bind (gR 5 3 Mi a0) fun v4 =>
  (Option.bind (gL 2 9 Mi v4) fun v5 =>
  (Option.bind (p_X6_isIn v5 a1 Mi) fun v6 =>
  (if v6 = 0 then
   (Option.bind (isC 5 Mi a0) fun _ =>
   (Option.bind (p_X6_remember a0 Mi) fun M9 =>
   (Option.bind (gR 5 3 M9 a0) fun v10 =>
   (Option.bind (gR 2 16 M9 v10) fun v11 =>
   (Option.bind (aI 0 M9 v11 a1) fun v12 =>
   (Option.bind (gR 5 3 M9 a0) fun v13 =>
   (Option.bind (isC 2 M9 v13) fun _ =>
   (Option.bind (p_X2_takeOut v13 a1 M9) fun M15 =>
   (Option.bind (gR 5 3 M15 a0) fun v16 =>
   (Option.bind (isC 2 M15 v16) fun _ =>
   (Option.bind (p_X2_fillPlaces v16 M15) fun M18 =>
   some (.inl (v12, M18))
   )
   )
   )
   )
   )
   )
   )
   )
   )
   )
   )
  else
   some (.inr "java/lang/IllegalStateException")
  )
  )
  )
  )
  ))
theorem yk_X6_withdraw : yok yX6_withdraw 1 := by decide +kernel
set_option maxHeartbeats 4000000 in
set_option maxRecDepth 100000 in
theorem w_X6_withdraw {G : gG} (hG : GOK G) (hY : GY G) {l : Launch} (hlf : l.stackTraces = false) {a0 : Nat} {a1 : Int32} {Mi : Mem} {out : (Int32 × Mem) ⊕ String} (hp : p_X6_withdraw a0 a1 Mi = some out) : CX G l yX6_withdraw (wT yX6_withdraw cX6_withdraw 3 (some FieldType.int)) rm_X6_withdraw [.ref a0, .int a1] Mi (sm (fun r => (some (.int r.1), r.2)) out) 2 12 := by
  refine CX_of (own := RX6) (maxL := 3) (ret := (some FieldType.int)) hG (by decide) rfl (Nat.le_of_ble_eq_true rfl) (fun p e s m below meth c A C0 hr hlk hno hM ls hl => ?_)
  have hl : lv_has ls 3 [(0, .ref a0), (1, .int a1)] := hl
  generalize ([.ref a0, .int a1] : List Value).toArray = args at C0 ⊢
  skip
  have hx := C0.1
  have hb := C0.2.1
  have hown := C0.2.2.2.1
  have hts := C0.2.2.2.2.1
  unfold p_X6_withdraw at hp
  refine lv_aload_n hx hb dX6_withdraw_0 rfl (lv_at hl 0 rfl) ?_
  refine lv_iload_n hx hb dX6_withdraw_1 rfl (lv_at hl 1 rfl) ?_
  obtain ⟨_, h1, hp⟩ := ob hp
  rcases obx_at hp with ⟨E3, hv2, hp⟩ | ⟨v2, hv2, hp⟩
  · exact mx_V_x (As := [.int a1]) (rest := []) C0 hno hlk cbX6 hM h1 rfl (w_X6_needChild hG hY hlf hv2) tw_865 tw_867 tws_3 tw_1 tw_868 yk_X6_needChild (by decide) rfl hl.1 (Nat.le_of_ble_eq_true rfl) dX6_withdraw_2 rfl (by rw [hp]; rfl) (by decide) (by decide)
  refine mx_V_0 (As := [.int a1]) (rest := []) C0 cbX6 hM h1 rfl (w_X6_needChild hG hY hlf hv2) tw_865 tw_867 tws_3 tw_1 tw_868 yk_X6_needChild (by decide) rfl hl.1 (Nat.le_of_ble_eq_true rfl) dX6_withdraw_2 rfl (fun H locs hM => ?_)
  refine lv_aload_n hx hb dX6_withdraw_5 rfl (lv_at hl 0 rfl) ?_
  obtain ⟨v4, hv4, hp⟩ := ob hp
  refine mr_getR C0 cbX6 hM 3 (by decide) tw_282 hv4 dX6_withdraw_6 ?_
  obtain ⟨v5, hv5, hp⟩ := ob hp
  refine mr_getL C0 cbX2 hM 9 (by decide) tw_141 hv5 dX6_withdraw_9 ?_
  refine lv_iload_n hx hb dX6_withdraw_12 rfl (lv_at hl 1 rfl) ?_
  obtain ⟨v6, hv6, hp⟩ := ob hp
  refine mg_S1 (As := [.long v5, .int a1]) (rest := []) C0 hM (w_X6_isIn hG hv6) tw_870 tw_547 tw_1 tw_548 yk_X6_isIn (by decide) rfl hl.1 (Nat.le_of_ble_eq_true rfl) dX6_withdraw_13 rfl (fun H locs hM => ?_)
  refine lv_if_eq (tgt := 30) hx hb dX6_withdraw_16 (by decide) (fun c7 => ?_) (fun c7 => ?_)
  · replace hp := oT c7 hp
    refine lv_aload_n hx hb dX6_withdraw_30 rfl (lv_at hl 0 rfl) ?_
    obtain ⟨_, h8, hp⟩ := ob hp
    obtain ⟨M9, hM9, hp⟩ := ob hp
    refine mg_V0 (As := []) (rest := []) C0 cbX6 hM h8 rfl (w_X6_remember hG hM9) tw_586 tw_588 tws_0 tw_1 tw_589 yk_X6_remember (by decide) rfl hl.1 (Nat.le_of_ble_eq_true rfl) dX6_withdraw_31 rfl (fun H locs hM => ?_)
    refine lv_aload_n hx hb dX6_withdraw_34 rfl (lv_at hl 0 rfl) ?_
    obtain ⟨v10, hv10, hp⟩ := ob hp
    refine mr_getR C0 cbX6 hM 3 (by decide) tw_282 hv10 dX6_withdraw_35 ?_
    obtain ⟨v11, hv11, hp⟩ := ob hp
    refine mr_getR C0 cbX2 hM 16 (by decide) tw_157 hv11 dX6_withdraw_38 ?_
    refine lv_iload_n hx hb dX6_withdraw_41 rfl (lv_at hl 1 rfl) ?_
    obtain ⟨v12, hv12, hp⟩ := ob hp
    refine mr_iald C0 hM hv12 dX6_withdraw_42 ?_
    refine lv_istore_n (lv' := [(2, .int v12), (0, .ref a0), (1, .int a1)]) hx hb dX6_withdraw_43 rfl hl (by decide) rfl (fun ls hl => ?_)
    refine lv_aload_n hx hb dX6_withdraw_44 rfl (lv_at hl 1 rfl) ?_
    obtain ⟨v13, hv13, hp⟩ := ob hp
    refine mr_getR C0 cbX6 hM 3 (by decide) tw_282 hv13 dX6_withdraw_45 ?_
    refine lv_iload_n hx hb dX6_withdraw_48 rfl (lv_at hl 2 rfl) ?_
    obtain ⟨_, h14, hp⟩ := ob hp
    obtain ⟨M15, hM15, hp⟩ := ob hp
    refine mg_V0 (As := [.int a1]) (rest := []) C0 cbX2 hM h14 rfl (w_X2_takeOut hG hM15) tw_1016 tw_1017 tw_1018 tw_3 tw_1019 yk_X2_takeOut (by decide) rfl hl.1 (Nat.le_of_ble_eq_true rfl) dX6_withdraw_49 rfl (fun H locs hM => ?_)
    refine lv_aload_n hx hb dX6_withdraw_52 rfl (lv_at hl 1 rfl) ?_
    obtain ⟨v16, hv16, hp⟩ := ob hp
    refine mr_getR C0 cbX6 hM 3 (by decide) tw_282 hv16 dX6_withdraw_53 ?_
    obtain ⟨_, h17, hp⟩ := ob hp
    obtain ⟨M18, hM18, hp⟩ := ob hp
    refine mg_V0 (As := []) (rest := []) C0 cbX2 hM h17 rfl (w_X2_fillPlaces hG hM18) tw_632 tw_633 tw_634 tw_3 tw_635 yk_X2_fillPlaces (by decide) rfl hl.1 (Nat.le_of_ble_eq_true rfl) dX6_withdraw_56 rfl (fun H locs hM => ?_)
    refine lv_iload_n hx hb dX6_withdraw_59 rfl (lv_at hl 0 rfl) ?_
    exact mx_iret C0 hr hlk hM rfl (by rw [← Option.some.inj hp]; rfl) (by decide) (by decide) dX6_withdraw_60
  · replace hp := oF c7 hp
    exact mx_throwSW (text := "the child was withdrawn before") (rest := []) C0 hY hlf hlk hno hM xk_277 (by decide +kernel) rfl hl.1 (by rw [← Option.some.inj hp]; rfl) dX6_withdraw_19 dX6_withdraw_22 dX6_withdraw_23 dX6_withdraw_26 dX6_withdraw_29 ⟨⟨by decide, Nat.le_of_ble_eq_true rfl⟩, by decide, by decide⟩ (by decide) (by decide)
abbrev rm_X6_giveBack : Room := { frames := 7, cells := 2, slots := 12, locals := 144 }
def p_X6_giveBack (a0 : Nat) (a1 : Int32) (Mi : Mem) : Option ((Int32 × Mem) ⊕ String) :=
  (Option.bind (isC 5 Mi a0) fun _ =>
  (obx (p_X6_needChild a0 a1 Mi) fun v2 =>
  (Option.bind (gR 5 3 Mi a0) fun v4 =>
  (Option.bind (gR 2 16 Mi v4) fun v5 =>
  (Option.bind (aI 0 Mi v5 a1) fun v6 =>
  (if v6 = (-1 : Int32) then
   some (.inr "java/lang/IllegalStateException")
  else
   (Option.bind (isC 5 Mi a0) fun _ =>
   (Option.bind (p_X6_remember a0 Mi) fun M9 =>
   (Option.bind (gR 5 3 M9 a0) fun v10 =>
   (Option.bind (isC 2 M9 v10) fun _ =>
   (Option.bind (p_X2_handBack v10 a1 M9) fun M12 =>
   (Option.bind (gR 5 3 M12 a0) fun v13 =>
   (Option.bind (isC 2 M12 v13) fun _ =>
   (Option.bind (p_X2_fillPlaces v13 M12) fun M15 =>
   some (.inl (v6, M15))
   )
   )
   )
   )
   )
   )
   )
   )
  )
  )
  )
  )
  ))
theorem yk_X6_giveBack : yok yX6_giveBack 1 := by decide +kernel
set_option maxHeartbeats 4000000 in
set_option maxRecDepth 100000 in
theorem w_X6_giveBack {G : gG} (hG : GOK G) (hY : GY G) {l : Launch} (hlf : l.stackTraces = false) {a0 : Nat} {a1 : Int32} {Mi : Mem} {out : (Int32 × Mem) ⊕ String} (hp : p_X6_giveBack a0 a1 Mi = some out) : CX G l yX6_giveBack (wT yX6_giveBack cX6_giveBack 3 (some FieldType.int)) rm_X6_giveBack [.ref a0, .int a1] Mi (sm (fun r => (some (.int r.1), r.2)) out) 2 12 := by
  refine CX_of (own := RX6) (maxL := 3) (ret := (some FieldType.int)) hG (by decide) rfl (Nat.le_of_ble_eq_true rfl) (fun p e s m below meth c A C0 hr hlk hno hM ls hl => ?_)
  have hl : lv_has ls 3 [(0, .ref a0), (1, .int a1)] := hl
  generalize ([.ref a0, .int a1] : List Value).toArray = args at C0 ⊢
  skip
  have hx := C0.1
  have hb := C0.2.1
  have hown := C0.2.2.2.1
  have hts := C0.2.2.2.2.1
  unfold p_X6_giveBack at hp
  refine lv_aload_n hx hb dX6_giveBack_0 rfl (lv_at hl 0 rfl) ?_
  refine lv_iload_n hx hb dX6_giveBack_1 rfl (lv_at hl 1 rfl) ?_
  obtain ⟨_, h1, hp⟩ := ob hp
  rcases obx_at hp with ⟨E3, hv2, hp⟩ | ⟨v2, hv2, hp⟩
  · exact mx_V_x (As := [.int a1]) (rest := []) C0 hno hlk cbX6 hM h1 rfl (w_X6_needChild hG hY hlf hv2) tw_865 tw_867 tws_3 tw_1 tw_868 yk_X6_needChild (by decide) rfl hl.1 (Nat.le_of_ble_eq_true rfl) dX6_giveBack_2 rfl (by rw [hp]; rfl) (by decide) (by decide)
  refine mx_V_0 (As := [.int a1]) (rest := []) C0 cbX6 hM h1 rfl (w_X6_needChild hG hY hlf hv2) tw_865 tw_867 tws_3 tw_1 tw_868 yk_X6_needChild (by decide) rfl hl.1 (Nat.le_of_ble_eq_true rfl) dX6_giveBack_2 rfl (fun H locs hM => ?_)
  refine lv_aload_n hx hb dX6_giveBack_5 rfl (lv_at hl 0 rfl) ?_
  obtain ⟨v4, hv4, hp⟩ := ob hp
  refine mr_getR C0 cbX6 hM 3 (by decide) tw_282 hv4 dX6_giveBack_6 ?_
  obtain ⟨v5, hv5, hp⟩ := ob hp
  refine mr_getR C0 cbX2 hM 16 (by decide) tw_157 hv5 dX6_giveBack_9 ?_
  refine lv_iload_n hx hb dX6_giveBack_12 rfl (lv_at hl 1 rfl) ?_
  obtain ⟨v6, hv6, hp⟩ := ob hp
  refine mr_iald C0 hM hv6 dX6_giveBack_13 ?_
  refine lv_istore_n (lv' := [(2, .int v6), (0, .ref a0), (1, .int a1)]) hx hb dX6_giveBack_14 rfl hl (by decide) rfl (fun ls hl => ?_)
  refine lv_iload_n hx hb dX6_giveBack_15 rfl (lv_at hl 0 rfl) ?_
  refine lv_iconst (v := -1) hx hb dX6_giveBack_16 (by decide) ?_
  refine lv_icmp_ne (tgt := 31) hx hb dX6_giveBack_17 (by decide) (fun c7 => ?_) (fun c7 => ?_)
  · replace hp := oF c7 hp
    refine lv_aload_n hx hb dX6_giveBack_31 rfl (lv_at hl 1 rfl) ?_
    obtain ⟨_, h8, hp⟩ := ob hp
    obtain ⟨M9, hM9, hp⟩ := ob hp
    refine mg_V0 (As := []) (rest := []) C0 cbX6 hM h8 rfl (w_X6_remember hG hM9) tw_586 tw_588 tws_0 tw_1 tw_589 yk_X6_remember (by decide) rfl hl.1 (Nat.le_of_ble_eq_true rfl) dX6_giveBack_32 rfl (fun H locs hM => ?_)
    refine lv_aload_n hx hb dX6_giveBack_35 rfl (lv_at hl 1 rfl) ?_
    obtain ⟨v10, hv10, hp⟩ := ob hp
    refine mr_getR C0 cbX6 hM 3 (by decide) tw_282 hv10 dX6_giveBack_36 ?_
    refine lv_iload_n hx hb dX6_giveBack_39 rfl (lv_at hl 2 rfl) ?_
    obtain ⟨_, h11, hp⟩ := ob hp
    obtain ⟨M12, hM12, hp⟩ := ob hp
    refine mg_V0 (As := [.int a1]) (rest := []) C0 cbX2 hM h11 rfl (w_X2_handBack hG hM12) tw_1028 tw_1029 tw_1030 tw_3 tw_1031 yk_X2_handBack (by decide) rfl hl.1 (Nat.le_of_ble_eq_true rfl) dX6_giveBack_40 rfl (fun H locs hM => ?_)
    refine lv_aload_n hx hb dX6_giveBack_43 rfl (lv_at hl 1 rfl) ?_
    obtain ⟨v13, hv13, hp⟩ := ob hp
    refine mr_getR C0 cbX6 hM 3 (by decide) tw_282 hv13 dX6_giveBack_44 ?_
    obtain ⟨_, h14, hp⟩ := ob hp
    obtain ⟨M15, hM15, hp⟩ := ob hp
    refine mg_V0 (As := []) (rest := []) C0 cbX2 hM h14 rfl (w_X2_fillPlaces hG hM15) tw_632 tw_633 tw_634 tw_3 tw_635 yk_X2_fillPlaces (by decide) rfl hl.1 (Nat.le_of_ble_eq_true rfl) dX6_giveBack_47 rfl (fun H locs hM => ?_)
    refine lv_iload_n hx hb dX6_giveBack_50 rfl (lv_at hl 0 rfl) ?_
    exact mx_iret C0 hr hlk hM rfl (by rw [← Option.some.inj hp]; rfl) (by decide) (by decide) dX6_giveBack_51
  · replace hp := oT c7 hp
    exact mx_throwSW (text := "the child has no place") (rest := []) C0 hY hlf hlk hno hM xk_277 (by decide +kernel) rfl hl.1 (by rw [← Option.some.inj hp]; rfl) dX6_giveBack_20 dX6_giveBack_23 dX6_giveBack_24 dX6_giveBack_27 dX6_giveBack_30 ⟨⟨by decide, Nat.le_of_ble_eq_true rfl⟩, by decide, by decide⟩ (by decide) (by decide)
abbrev rm_X6_moveHome : Room := { frames := 7, cells := 2, slots := 12, locals := 144 }
def pl_X6_moveHome_51 (k1 : Int32 → Option ((Int32 × Mem) ⊕ String)) (f0 : Nat) (f1 : Int32) (M : Mem) : Nat → Int32 → Int32 → Option ((Int32 × Mem) ⊕ String)
  | 0, _, _ => none
  | n + 1, y4, y5 =>
    (if (4 : Int32) ≤ y5 then
     (k1 y4)
    else
     (Option.bind (gR 5 3 M f0) fun v20 =>
     (Option.bind (gR 2 15 M v20) fun v21 =>
     (Option.bind (aI 0 M v21 f1) fun v22 =>
     (Option.bind (p_X6_rowEntry v22 y5 M) fun v23 =>
     (if v23 = (-1 : Int32) then
      (pl_X6_moveHome_51 k1 f0 f1 M n y4 (y5 + (1 : Int32)))
     else
      (Option.bind (gR 5 3 M f0) fun v25 =>
      (Option.bind (isC 2 M v25) fun _ =>
      (Option.bind (p_X2_rankClass v25 f1 v23 M) fun v27 =>
      (Option.bind (gR 5 4 M f0) fun v28 =>
      (Option.bind (isC 2 M v28) fun _ =>
      (Option.bind (p_X2_rankClass v28 f1 v23 M) fun v30 =>
      (if v27 = v30 then
       (pl_X6_moveHome_51 k1 f0 f1 M n y4 (y5 + (1 : Int32)))
      else
       (pl_X6_moveHome_51 k1 f0 f1 M n (y4 + (1 : Int32)) (y5 + (1 : Int32)))
      )
      )
      )
      )
      )
      )
      )
     )
     )
     )
     )
     )
    )
set_option maxHeartbeats 4000000 in
set_option maxRecDepth 100000 in
theorem wl_X6_moveHome_51 {G : gG} {p : Program} {l : Launch} {e : Env} {s : State} {m : MethodId} {args : Array Value} {below : List Frame} {meth : Method} {c : Code} {A : Nat → Prop} {Mi : Mem} {out : (Int32 × Mem) ⊕ String} {k1 : Int32 → Option ((Int32 × Mem) ⊕ String)} {f0 : Nat} {f1 : Int32} {M : Mem} (C0 : cx G p s m args c cX6_moveHome RX6 7 A) (hr : meth.sig.returnType = (some FieldType.int)) (hlk : meth.locks = false) (hG : GOK G) (hY : GY G) (hlf : l.stackTraces = false) (hno : ∀ x ∈ c.exceptionTable.toList, False) (hk1 : ∀ (z4 : Int32) (H : Heap) (locs : List Loc) (ls : Array Slot), mm G A s M H locs → lv_has ls 7 [(0, .ref f0), (4, .int z4)] → k1 z4 = some out → W p l e rm_X6_moveHome s m args below meth c H locs 2 12 (vx_MQ below (XQ G Mi A (sm (fun r => (some (.int r.1), r.2)) out)) (XX G Mi A (sm (fun r => (some (.int r.1), r.2)) out)) args s 2 12 A) (F0 m 111 ls [])) : ∀ (n : Nat) (y4 : Int32) (y5 : Int32) (H : Heap) (locs : List Loc) (ls : Array Slot), mm G A s M H locs → lv_has ls 7 [(0, .ref f0), (1, .int f1), (4, .int y4), (5, .int y5)] → pl_X6_moveHome_51 k1 f0 f1 M n y4 y5 = some out → W p l e rm_X6_moveHome s m args below meth c H locs 2 12 (vx_MQ below (XQ G Mi A (sm (fun r => (some (.int r.1), r.2)) out)) (XX G Mi A (sm (fun r => (some (.int r.1), r.2)) out)) args s 2 12 A) (F0 m 51 ls []) := by
  have hx := C0.1
  have hb := C0.2.1
  have hown := C0.2.2.2.1
  have hts := C0.2.2.2.2.1
  intro n
  induction n with
  | zero => intro y4 y5 H locs ls hM hl hp; rw [pl_X6_moveHome_51] at hp; cases hp
  | succ n ih =>
    intro y4 y5 H locs ls hM hl hp
    rw [pl_X6_moveHome_51] at hp
    refine lv_iload hx hb dX6_moveHome_51 (lv_at hl 3 rfl) ?_
    refine lv_iconst (v := 4) hx hb dX6_moveHome_53 (by decide) ?_
    refine lv_icmp_ge (tgt := 111) hx hb dX6_moveHome_54 (by decide) (fun c19 => ?_) (fun c19 => ?_)
    · replace hp := oT c19 hp
      exact hk1 _ _ _ _ hM (lv_sub hl [0, 2] rfl) hp
    · replace hp := oF c19 hp
      refine lv_aload_n hx hb dX6_moveHome_57 rfl (lv_at hl 0 rfl) ?_
      obtain ⟨v20, hv20, hp⟩ := ob hp
      refine mr_getR C0 cbX6 hM 3 (by decide) tw_282 hv20 dX6_moveHome_58 ?_
      obtain ⟨v21, hv21, hp⟩ := ob hp
      refine mr_getR C0 cbX2 hM 15 (by decide) tw_154 hv21 dX6_moveHome_61 ?_
      refine lv_iload_n hx hb dX6_moveHome_64 rfl (lv_at hl 1 rfl) ?_
      obtain ⟨v22, hv22, hp⟩ := ob hp
      refine mr_iald C0 hM hv22 dX6_moveHome_65 ?_
      refine lv_iload hx hb dX6_moveHome_66 (lv_at hl 3 rfl) ?_
      obtain ⟨v23, hv23, hp⟩ := ob hp
      refine mg_S1 (As := [.int v22, .int y5]) (rest := []) C0 hM (w_X6_rowEntry hG hv23) tw_831 tw_572 tw_1 tw_573 yk_X6_rowEntry (by decide) rfl hl.1 (Nat.le_of_ble_eq_true rfl) dX6_moveHome_68 rfl (fun H locs hM => ?_)
      refine lv_istore (lv' := [(6, .int v23), (0, .ref f0), (1, .int f1), (4, .int y4), (5, .int y5)]) hx hb dX6_moveHome_71 hl (by decide) rfl (fun ls hl => ?_)
      refine lv_iload hx hb dX6_moveHome_73 (lv_at hl 0 rfl) ?_
      refine lv_iconst (v := -1) hx hb dX6_moveHome_75 (by decide) ?_
      refine lv_icmp_eq (tgt := 105) hx hb dX6_moveHome_76 (by decide) (fun c24 => ?_) (fun c24 => ?_)
      · replace hp := oT c24 hp
        refine lv_iinc (v := (y5 + (1 : Int32))) (lv' := [(5, .int (y5 + (1 : Int32))), (6, .int v23), (0, .ref f0), (1, .int f1), (4, .int y4)]) hx hb dX6_moveHome_105 hl (k := 4) rfl rfl (by decide) rfl (fun ls hl => ?_)
        refine lv_goto (tgt := 51) hx hb dX6_moveHome_108 (by decide) ?_
        exact ih _ _ _ _ _ hM (lv_sub hl [2, 3, 4, 0] rfl) hp
      · replace hp := oF c24 hp
        refine lv_aload_n hx hb dX6_moveHome_79 rfl (lv_at hl 1 rfl) ?_
        obtain ⟨v25, hv25, hp⟩ := ob hp
        refine mr_getR C0 cbX6 hM 3 (by decide) tw_282 hv25 dX6_moveHome_80 ?_
        refine lv_iload_n hx hb dX6_moveHome_83 rfl (lv_at hl 2 rfl) ?_
        refine lv_iload hx hb dX6_moveHome_84 (lv_at hl 0 rfl) ?_
        obtain ⟨_, h26, hp⟩ := ob hp
        obtain ⟨v27, hv27, hp⟩ := ob hp
        refine mg_V1 (As := [.int f1, .int v23]) (rest := []) C0 cbX2 hM h26 rfl (w_X2_rankClass hG hv27) tw_909 tw_568 tw_569 tw_3 tw_570 yk_X2_rankClass (by decide) rfl hl.1 (Nat.le_of_ble_eq_true rfl) dX6_moveHome_86 rfl (fun H locs hM => ?_)
        refine lv_aload_n hx hb dX6_moveHome_89 rfl (lv_at hl 1 rfl) ?_
        obtain ⟨v28, hv28, hp⟩ := ob hp
        refine mr_getR C0 cbX6 hM 4 (by decide) tw_283 hv28 dX6_moveHome_90 ?_
        refine lv_iload_n hx hb dX6_moveHome_93 rfl (lv_at hl 2 rfl) ?_
        refine lv_iload hx hb dX6_moveHome_94 (lv_at hl 0 rfl) ?_
        obtain ⟨_, h29, hp⟩ := ob hp
        obtain ⟨v30, hv30, hp⟩ := ob hp
        refine mg_V1 (As := [.int f1, .int v23]) (rest := [.int v27]) C0 cbX2 hM h29 rfl (w_X2_rankClass hG hv30) tw_909 tw_568 tw_569 tw_3 tw_570 yk_X2_rankClass (by decide) rfl hl.1 (Nat.le_of_ble_eq_true rfl) dX6_moveHome_96 rfl (fun H locs hM => ?_)
        refine lv_icmp_eq (tgt := 105) hx hb dX6_moveHome_99 (by decide) (fun c31 => ?_) (fun c31 => ?_)
        · replace hp := oT c31 hp
          refine lv_iinc (v := (y5 + (1 : Int32))) (lv' := [(5, .int (y5 + (1 : Int32))), (6, .int v23), (0, .ref f0), (1, .int f1), (4, .int y4)]) hx hb dX6_moveHome_105 hl (k := 4) rfl rfl (by decide) rfl (fun ls hl => ?_)
          refine lv_goto (tgt := 51) hx hb dX6_moveHome_108 (by decide) ?_
          exact ih _ _ _ _ _ hM (lv_sub hl [2, 3, 4, 0] rfl) hp
        · replace hp := oF c31 hp
          refine lv_iinc (v := (y4 + (1 : Int32))) (lv' := [(4, .int (y4 + (1 : Int32))), (6, .int v23), (0, .ref f0), (1, .int f1), (5, .int y5)]) hx hb dX6_moveHome_102 hl (k := 3) rfl rfl (by decide) rfl (fun ls hl => ?_)
          refine lv_iinc (v := (y5 + (1 : Int32))) (lv' := [(5, .int (y5 + (1 : Int32))), (4, .int (y4 + (1 : Int32))), (6, .int v23), (0, .ref f0), (1, .int f1)]) hx hb dX6_moveHome_105 hl (k := 4) rfl rfl (by decide) rfl (fun ls hl => ?_)
          refine lv_goto (tgt := 51) hx hb dX6_moveHome_108 (by decide) ?_
          exact ih _ _ _ _ _ hM (lv_sub hl [3, 4, 1, 0] rfl) hp
def p_X6_moveHome (a0 : Nat) (a1 : Int32) (a2 : Int32) (a3 : Int32) (Mi : Mem) : Option ((Int32 × Mem) ⊕ String) :=
  (Option.bind (isC 5 Mi a0) fun _ =>
  (obx (p_X6_needChild a0 a1 Mi) fun v2 =>
  (obx (p_X6_needHome a2 a3 Mi) fun v5 =>
  (Option.bind (isC 5 Mi a0) fun _ =>
  (Option.bind (p_X6_remember a0 Mi) fun M8 =>
  (Option.bind (gR 5 4 M8 a0) fun v9 =>
  (Option.bind (gR 5 3 M8 a0) fun v10 =>
  (Option.bind (isC 2 M8 v9) fun _ =>
  (Option.bind (p_X2_copyFrom v9 v10 M8) fun M12 =>
  (Option.bind (gR 5 3 M12 a0) fun v13 =>
  (Option.bind (gR 2 11 M12 v13) fun v14 =>
  (Option.bind (aIs M12 v14 a1 a2) fun M15 =>
  (Option.bind (gR 5 3 M15 a0) fun v16 =>
  (Option.bind (gR 2 12 M15 v16) fun v17 =>
  (Option.bind (aIs M15 v17 a1 a3) fun M18 =>
  (pl_X6_moveHome_51
   (fun (z32 : Int32) =>
    (Option.bind (gR 5 3 M18 a0) fun v33 =>
    (Option.bind (isC 2 M18 v33) fun _ =>
    (Option.bind (p_X2_fillPlaces v33 M18) fun M35 =>
    some (.inl (z32, M35))
    )
    )
    )
   )
   a0 a1 M18 FU (0 : Int32) (0 : Int32))
  )
  )
  )
  )
  )
  )
  )
  )
  )
  )
  )
  )
  )
  ))
theorem yk_X6_moveHome : yok yX6_moveHome 3 := by decide +kernel
set_option maxHeartbeats 4000000 in
set_option maxRecDepth 100000 in
theorem w_X6_moveHome {G : gG} (hG : GOK G) (hY : GY G) {l : Launch} (hlf : l.stackTraces = false) {a0 : Nat} {a1 : Int32} {a2 : Int32} {a3 : Int32} {Mi : Mem} {out : (Int32 × Mem) ⊕ String} (hp : p_X6_moveHome a0 a1 a2 a3 Mi = some out) : CX G l yX6_moveHome (wT yX6_moveHome cX6_moveHome 7 (some FieldType.int)) rm_X6_moveHome [.ref a0, .int a1, .int a2, .int a3] Mi (sm (fun r => (some (.int r.1), r.2)) out) 2 12 := by
  refine CX_of (own := RX6) (maxL := 7) (ret := (some FieldType.int)) hG (by decide) rfl (Nat.le_of_ble_eq_true rfl) (fun p e s m below meth c A C0 hr hlk hno hM ls hl => ?_)
  have hl : lv_has ls 7 [(0, .ref a0), (1, .int a1), (2, .int a2), (3, .int a3)] := hl
  generalize ([.ref a0, .int a1, .int a2, .int a3] : List Value).toArray = args at C0 ⊢
  skip
  have hx := C0.1
  have hb := C0.2.1
  have hown := C0.2.2.2.1
  have hts := C0.2.2.2.2.1
  unfold p_X6_moveHome at hp
  refine lv_aload_n hx hb dX6_moveHome_0 rfl (lv_at hl 0 rfl) ?_
  refine lv_iload_n hx hb dX6_moveHome_1 rfl (lv_at hl 1 rfl) ?_
  obtain ⟨_, h1, hp⟩ := ob hp
  rcases obx_at hp with ⟨E3, hv2, hp⟩ | ⟨v2, hv2, hp⟩
  · exact mx_V_x (As := [.int a1]) (rest := []) C0 hno hlk cbX6 hM h1 rfl (w_X6_needChild hG hY hlf hv2) tw_865 tw_867 tws_3 tw_1 tw_868 yk_X6_needChild (by decide) rfl hl.1 (Nat.le_of_ble_eq_true rfl) dX6_moveHome_2 rfl (by rw [hp]; rfl) (by decide) (by decide)
  refine mx_V_0 (As := [.int a1]) (rest := []) C0 cbX6 hM h1 rfl (w_X6_needChild hG hY hlf hv2) tw_865 tw_867 tws_3 tw_1 tw_868 yk_X6_needChild (by decide) rfl hl.1 (Nat.le_of_ble_eq_true rfl) dX6_moveHome_2 rfl (fun H locs hM => ?_)
  refine lv_iload_n hx hb dX6_moveHome_5 rfl (lv_at hl 2 rfl) ?_
  refine lv_iload_n hx hb dX6_moveHome_6 rfl (lv_at hl 3 rfl) ?_
  rcases obx_at hp with ⟨E6, hv5, hp⟩ | ⟨v5, hv5, hp⟩
  · exact mx_S_x (As := [.int a2, .int a3]) (rest := []) C0 hno hlk hM (w_X6_needHome hG hY hlf hv5) tw_980 tw_981 tw_1 tw_982 yk_X6_needHome (by decide) rfl hl.1 (Nat.le_of_ble_eq_true rfl) dX6_moveHome_7 rfl (by rw [hp]; rfl) (by decide) (by decide)
  refine mx_S_0 (As := [.int a2, .int a3]) (rest := []) C0 hM (w_X6_needHome hG hY hlf hv5) tw_980 tw_981 tw_1 tw_982 yk_X6_needHome (by decide) rfl hl.1 (Nat.le_of_ble_eq_true rfl) dX6_moveHome_7 rfl (fun H locs hM => ?_)
  refine lv_aload_n hx hb dX6_moveHome_10 rfl (lv_at hl 0 rfl) ?_
  obtain ⟨_, h7, hp⟩ := ob hp
  obtain ⟨M8, hM8, hp⟩ := ob hp
  refine mg_V0 (As := []) (rest := []) C0 cbX6 hM h7 rfl (w_X6_remember hG hM8) tw_586 tw_588 tws_0 tw_1 tw_589 yk_X6_remember (by decide) rfl hl.1 (Nat.le_of_ble_eq_true rfl) dX6_moveHome_11 rfl (fun H locs hM => ?_)
  refine lv_aload_n hx hb dX6_moveHome_14 rfl (lv_at hl 0 rfl) ?_
  obtain ⟨v9, hv9, hp⟩ := ob hp
  refine mr_getR C0 cbX6 hM 4 (by decide) tw_283 hv9 dX6_moveHome_15 ?_
  refine lv_aload_n hx hb dX6_moveHome_18 rfl (lv_at hl 0 rfl) ?_
  obtain ⟨v10, hv10, hp⟩ := ob hp
  refine mr_getR C0 cbX6 hM 3 (by decide) tw_282 hv10 dX6_moveHome_19 ?_
  obtain ⟨_, h11, hp⟩ := ob hp
  obtain ⟨M12, hM12, hp⟩ := ob hp
  refine mg_V0 (As := [.ref v10]) (rest := []) C0 cbX2 hM h11 rfl (w_X2_copyFrom hG hM12) tw_590 tw_591 tw_592 tw_3 tw_593 yk_X2_copyFrom (by decide) rfl hl.1 (Nat.le_of_ble_eq_true rfl) dX6_moveHome_22 rfl (fun H locs hM => ?_)
  refine lv_aload_n hx hb dX6_moveHome_25 rfl (lv_at hl 0 rfl) ?_
  obtain ⟨v13, hv13, hp⟩ := ob hp
  refine mr_getR C0 cbX6 hM 3 (by decide) tw_282 hv13 dX6_moveHome_26 ?_
  obtain ⟨v14, hv14, hp⟩ := ob hp
  refine mr_getR C0 cbX2 hM 11 (by decide) tw_145 hv14 dX6_moveHome_29 ?_
  refine lv_iload_n hx hb dX6_moveHome_32 rfl (lv_at hl 1 rfl) ?_
  refine lv_iload_n hx hb dX6_moveHome_33 rfl (lv_at hl 2 rfl) ?_
  obtain ⟨M15, hM15, hp⟩ := ob hp
  refine mr_iast C0 hM hM15 dX6_moveHome_34 (fun H locs hM => ?_)
  refine lv_aload_n hx hb dX6_moveHome_35 rfl (lv_at hl 0 rfl) ?_
  obtain ⟨v16, hv16, hp⟩ := ob hp
  refine mr_getR C0 cbX6 hM 3 (by decide) tw_282 hv16 dX6_moveHome_36 ?_
  obtain ⟨v17, hv17, hp⟩ := ob hp
  refine mr_getR C0 cbX2 hM 12 (by decide) tw_147 hv17 dX6_moveHome_39 ?_
  refine lv_iload_n hx hb dX6_moveHome_42 rfl (lv_at hl 1 rfl) ?_
  refine lv_iload_n hx hb dX6_moveHome_43 rfl (lv_at hl 3 rfl) ?_
  obtain ⟨M18, hM18, hp⟩ := ob hp
  refine mr_iast C0 hM hM18 dX6_moveHome_44 (fun H locs hM => ?_)
  refine lv_iconst (v := 0) hx hb dX6_moveHome_45 (by decide) ?_
  refine lv_istore (lv' := [(4, .int (0 : Int32)), (0, .ref a0), (1, .int a1), (2, .int a2), (3, .int a3)]) hx hb dX6_moveHome_46 hl (by decide) rfl (fun ls hl => ?_)
  refine lv_iconst (v := 0) hx hb dX6_moveHome_48 (by decide) ?_
  refine lv_istore (lv' := [(5, .int (0 : Int32)), (4, .int (0 : Int32)), (0, .ref a0), (1, .int a1), (2, .int a2), (3, .int a3)]) hx hb dX6_moveHome_49 hl (by decide) rfl (fun ls hl => ?_)
  refine wl_X6_moveHome_51 C0 hr hlk hG hY hlf hno (fun z32 H locs ls hM hl hp => ?_) FU _ _ _ _ _ hM (lv_sub hl [2, 3, 1, 0] rfl) hp
  refine lv_aload_n hx hb dX6_moveHome_111 rfl (lv_at hl 0 rfl) ?_
  obtain ⟨v33, hv33, hp⟩ := ob hp
  refine mr_getR C0 cbX6 hM 3 (by decide) tw_282 hv33 dX6_moveHome_112 ?_
  obtain ⟨_, h34, hp⟩ := ob hp
  obtain ⟨M35, hM35, hp⟩ := ob hp
  refine mg_V0 (As := []) (rest := []) C0 cbX2 hM h34 rfl (w_X2_fillPlaces hG hM35) tw_632 tw_633 tw_634 tw_3 tw_635 yk_X2_fillPlaces (by decide) rfl hl.1 (Nat.le_of_ble_eq_true rfl) dX6_moveHome_115 rfl (fun H locs hM => ?_)
  refine lv_iload hx hb dX6_moveHome_118 (lv_at hl 1 rfl) ?_
  exact mx_iret C0 hr hlk hM rfl (by rw [← Option.some.inj hp]; rfl) (by decide) (by decide) dX6_moveHome_120
abbrev rm_X6_needCapacity : Room := { frames := 6, cells := 1, slots := 6, locals := 90 }
def p_X6_needCapacity (a0 : Int32) (Mi : Mem) : Option ((Unit) ⊕ String) :=
  (if a0 < 0 then
   some (.inr "java/lang/IllegalArgumentException")
  else
   (if a0 ≤ (40 : Int32) then
    some (.inl ())
   else
    some (.inr "java/lang/IllegalArgumentException")
   )
  )
theorem yk_X6_needCapacity : yok yX6_needCapacity 1 := by decide +kernel
set_option maxHeartbeats 4000000 in
set_option maxRecDepth 100000 in
theorem w_X6_needCapacity {G : gG} (hG : GOK G) (hY : GY G) {l : Launch} (hlf : l.stackTraces = false) {a0 : Int32} {Mi : Mem} {out : (Unit) ⊕ String} (hp : p_X6_needCapacity a0 Mi = some out) : CX G l yX6_needCapacity (wT yX6_needCapacity cX6_needCapacity 1 (none)) rm_X6_needCapacity [.int a0] Mi (sm (fun r => (none, Mi)) out) 1 6 := by
  refine CX_of (own := RX6) (maxL := 1) (ret := (none)) hG (by decide) rfl (Nat.le_of_ble_eq_true rfl) (fun p e s m below meth c A C0 hr hlk hno hM ls hl => ?_)
  have hl : lv_has ls 1 [(0, .int a0)] := hl
  generalize ([.int a0] : List Value).toArray = args at C0 ⊢
  skip
  have hx := C0.1
  have hb := C0.2.1
  have hown := C0.2.2.2.1
  have hts := C0.2.2.2.2.1
  unfold p_X6_needCapacity at hp
  refine lv_iload_n hx hb dX6_needCapacity_0 rfl (lv_at hl 0 rfl) ?_
  refine lv_if_lt (tgt := 10) hx hb dX6_needCapacity_1 (by decide) (fun c1 => ?_) (fun c1 => ?_)
  · replace hp := oT c1 hp
    exact mx_throwSW (text := "no such capacity") (rest := []) C0 hY hlf hlk hno hM xk_134 (by decide +kernel) rfl hl.1 (by rw [← Option.some.inj hp]; rfl) dX6_needCapacity_10 dX6_needCapacity_13 dX6_needCapacity_14 dX6_needCapacity_17 dX6_needCapacity_20 ⟨⟨by decide, Nat.le_of_ble_eq_true rfl⟩, by decide, by decide⟩ (by decide) (by decide)
  · replace hp := oF c1 hp
    refine lv_iload_n hx hb dX6_needCapacity_4 rfl (lv_at hl 0 rfl) ?_
    refine lv_bipush (v := 40) hx hb dX6_needCapacity_5 (by decide) ?_
    refine lv_icmp_le (tgt := 21) hx hb dX6_needCapacity_7 (by decide) (fun c2 => ?_) (fun c2 => ?_)
    · replace hp := oT c2 hp
      exact mx_vret C0 hr hlk hM (by rw [← Option.some.inj hp]; rfl) (by decide) (by decide) dX6_needCapacity_21
    · replace hp := oF c2 hp
      exact mx_throwSW (text := "no such capacity") (rest := []) C0 hY hlf hlk hno hM xk_134 (by decide +kernel) rfl hl.1 (by rw [← Option.some.inj hp]; rfl) dX6_needCapacity_10 dX6_needCapacity_13 dX6_needCapacity_14 dX6_needCapacity_17 dX6_needCapacity_20 ⟨⟨by decide, Nat.le_of_ble_eq_true rfl⟩, by decide, by decide⟩ (by decide) (by decide)
abbrev rm_X6_setCapacity : Room := { frames := 7, cells := 2, slots := 12, locals := 144 }
def p_X6_setCapacity (a0 : Nat) (a1 : Int32) (a2 : Int32) (Mi : Mem) : Option ((Int32 × Mem) ⊕ String) :=
  (Option.bind (isC 5 Mi a0) fun _ =>
  (obx (p_X6_needSchool a0 a1 Mi) fun v2 =>
  (obx (p_X6_needCapacity a2 Mi) fun v5 =>
  (Option.bind (isC 5 Mi a0) fun _ =>
  (Option.bind (p_X6_remember a0 Mi) fun M8 =>
  (Option.bind (gR 5 3 M8 a0) fun v9 =>
  (Option.bind (gR 2 18 M8 v9) fun v10 =>
  (Option.bind (aI 0 M8 v10 a1) fun v11 =>
  (Option.bind (gR 5 3 M8 a0) fun v12 =>
  (Option.bind (gR 2 18 M8 v12) fun v13 =>
  (Option.bind (aIs M8 v13 a1 a2) fun M14 =>
  (Option.bind (gR 5 3 M14 a0) fun v15 =>
  (Option.bind (isC 2 M14 v15) fun _ =>
  (Option.bind (p_X2_fillPlaces v15 M14) fun M17 =>
  some (.inl (v11, M17))
  )
  )
  )
  )
  )
  )
  )
  )
  )
  )
  )
  )
  ))
theorem yk_X6_setCapacity : yok yX6_setCapacity 2 := by decide +kernel
set_option maxHeartbeats 4000000 in
set_option maxRecDepth 100000 in
theorem w_X6_setCapacity {G : gG} (hG : GOK G) (hY : GY G) {l : Launch} (hlf : l.stackTraces = false) {a0 : Nat} {a1 : Int32} {a2 : Int32} {Mi : Mem} {out : (Int32 × Mem) ⊕ String} (hp : p_X6_setCapacity a0 a1 a2 Mi = some out) : CX G l yX6_setCapacity (wT yX6_setCapacity cX6_setCapacity 4 (some FieldType.int)) rm_X6_setCapacity [.ref a0, .int a1, .int a2] Mi (sm (fun r => (some (.int r.1), r.2)) out) 2 12 := by
  refine CX_of (own := RX6) (maxL := 4) (ret := (some FieldType.int)) hG (by decide) rfl (Nat.le_of_ble_eq_true rfl) (fun p e s m below meth c A C0 hr hlk hno hM ls hl => ?_)
  have hl : lv_has ls 4 [(0, .ref a0), (1, .int a1), (2, .int a2)] := hl
  generalize ([.ref a0, .int a1, .int a2] : List Value).toArray = args at C0 ⊢
  skip
  have hx := C0.1
  have hb := C0.2.1
  have hown := C0.2.2.2.1
  have hts := C0.2.2.2.2.1
  unfold p_X6_setCapacity at hp
  refine lv_aload_n hx hb dX6_setCapacity_0 rfl (lv_at hl 0 rfl) ?_
  refine lv_iload_n hx hb dX6_setCapacity_1 rfl (lv_at hl 1 rfl) ?_
  obtain ⟨_, h1, hp⟩ := ob hp
  rcases obx_at hp with ⟨E3, hv2, hp⟩ | ⟨v2, hv2, hp⟩
  · exact mx_V_x (As := [.int a1]) (rest := []) C0 hno hlk cbX6 hM h1 rfl (w_X6_needSchool hG hY hlf hv2) tw_808 tw_810 tws_2 tw_1 tw_811 yk_X6_needSchool (by decide) rfl hl.1 (Nat.le_of_ble_eq_true rfl) dX6_setCapacity_2 rfl (by rw [hp]; rfl) (by decide) (by decide)
  refine mx_V_0 (As := [.int a1]) (rest := []) C0 cbX6 hM h1 rfl (w_X6_needSchool hG hY hlf hv2) tw_808 tw_810 tws_2 tw_1 tw_811 yk_X6_needSchool (by decide) rfl hl.1 (Nat.le_of_ble_eq_true rfl) dX6_setCapacity_2 rfl (fun H locs hM => ?_)
  refine lv_iload_n hx hb dX6_setCapacity_5 rfl (lv_at hl 2 rfl) ?_
  rcases obx_at hp with ⟨E6, hv5, hp⟩ | ⟨v5, hv5, hp⟩
  · exact mx_S_x (As := [.int a2]) (rest := []) C0 hno hlk hM (w_X6_needCapacity hG hY hlf hv5) tw_1048 tw_1049 tw_1 tw_1050 yk_X6_needCapacity (by decide) rfl hl.1 (Nat.le_of_ble_eq_true rfl) dX6_setCapacity_6 rfl (by rw [hp]; rfl) (by decide) (by decide)
  refine mx_S_0 (As := [.int a2]) (rest := []) C0 hM (w_X6_needCapacity hG hY hlf hv5) tw_1048 tw_1049 tw_1 tw_1050 yk_X6_needCapacity (by decide) rfl hl.1 (Nat.le_of_ble_eq_true rfl) dX6_setCapacity_6 rfl (fun H locs hM => ?_)
  refine lv_aload_n hx hb dX6_setCapacity_9 rfl (lv_at hl 0 rfl) ?_
  obtain ⟨_, h7, hp⟩ := ob hp
  obtain ⟨M8, hM8, hp⟩ := ob hp
  refine mg_V0 (As := []) (rest := []) C0 cbX6 hM h7 rfl (w_X6_remember hG hM8) tw_586 tw_588 tws_0 tw_1 tw_589 yk_X6_remember (by decide) rfl hl.1 (Nat.le_of_ble_eq_true rfl) dX6_setCapacity_10 rfl (fun H locs hM => ?_)
  refine lv_aload_n hx hb dX6_setCapacity_13 rfl (lv_at hl 0 rfl) ?_
  obtain ⟨v9, hv9, hp⟩ := ob hp
  refine mr_getR C0 cbX6 hM 3 (by decide) tw_282 hv9 dX6_setCapacity_14 ?_
  obtain ⟨v10, hv10, hp⟩ := ob hp
  refine mr_getR C0 cbX2 hM 18 (by decide) tw_164 hv10 dX6_setCapacity_17 ?_
  refine lv_iload_n hx hb dX6_setCapacity_20 rfl (lv_at hl 1 rfl) ?_
  obtain ⟨v11, hv11, hp⟩ := ob hp
  refine mr_iald C0 hM hv11 dX6_setCapacity_21 ?_
  refine lv_istore_n (lv' := [(3, .int v11), (0, .ref a0), (1, .int a1), (2, .int a2)]) hx hb dX6_setCapacity_22 rfl hl (by decide) rfl (fun ls hl => ?_)
  refine lv_aload_n hx hb dX6_setCapacity_23 rfl (lv_at hl 1 rfl) ?_
  obtain ⟨v12, hv12, hp⟩ := ob hp
  refine mr_getR C0 cbX6 hM 3 (by decide) tw_282 hv12 dX6_setCapacity_24 ?_
  obtain ⟨v13, hv13, hp⟩ := ob hp
  refine mr_getR C0 cbX2 hM 18 (by decide) tw_164 hv13 dX6_setCapacity_27 ?_
  refine lv_iload_n hx hb dX6_setCapacity_30 rfl (lv_at hl 2 rfl) ?_
  refine lv_iload_n hx hb dX6_setCapacity_31 rfl (lv_at hl 3 rfl) ?_
  obtain ⟨M14, hM14, hp⟩ := ob hp
  refine mr_iast C0 hM hM14 dX6_setCapacity_32 (fun H locs hM => ?_)
  refine lv_aload_n hx hb dX6_setCapacity_33 rfl (lv_at hl 1 rfl) ?_
  obtain ⟨v15, hv15, hp⟩ := ob hp
  refine mr_getR C0 cbX6 hM 3 (by decide) tw_282 hv15 dX6_setCapacity_34 ?_
  obtain ⟨_, h16, hp⟩ := ob hp
  obtain ⟨M17, hM17, hp⟩ := ob hp
  refine mg_V0 (As := []) (rest := []) C0 cbX2 hM h16 rfl (w_X2_fillPlaces hG hM17) tw_632 tw_633 tw_634 tw_3 tw_635 yk_X2_fillPlaces (by decide) rfl hl.1 (Nat.le_of_ble_eq_true rfl) dX6_setCapacity_37 rfl (fun H locs hM => ?_)
  refine lv_iload_n hx hb dX6_setCapacity_40 rfl (lv_at hl 0 rfl) ?_
  exact mx_iret C0 hr hlk hM rfl (by rw [← Option.some.inj hp]; rfl) (by decide) (by decide) dX6_setCapacity_41
abbrev rm_X6_appeal : Room := { frames := 7, cells := 3, slots := 18, locals := 147 }
def p_X6_appeal (a0 : Nat) (a1 : Int32) (a2 : Int32) (Mi : Mem) : Option ((Int32 × Mem) ⊕ String) :=
  (Option.bind (isC 5 Mi a0) fun _ =>
  (obx (p_X6_needChild a0 a1 Mi) fun v2 =>
  (Option.bind (isC 5 Mi a0) fun _ =>
  (obx (p_X6_needSchool a0 a2 Mi) fun v5 =>
  (Option.bind (gR 5 3 Mi a0) fun v7 =>
  (Option.bind (isC 2 Mi v7) fun _ =>
  (Option.bind (p_X2_waits v7 a1 a2 Mi) fun v9 =>
  (if v9 = 0 then
   some (.inr "java/lang/IllegalStateException")
  else
   (Option.bind (isC 5 Mi a0) fun _ =>
   (Option.bind (p_X6_remember a0 Mi) fun M12 =>
   (Option.bind (gR 5 3 M12 a0) fun v13 =>
   (Option.bind (isC 2 M12 v13) fun _ =>
   (ob2 (p_X2_hearAppeal v13 a1 a2 M12) fun v15 M16 =>
   (Option.bind (gR 5 3 M16 a0) fun v17 =>
   (Option.bind (isC 2 M16 v17) fun _ =>
   (Option.bind (p_X2_fillPlaces v17 M16) fun M19 =>
   some (.inl (v15, M19))
   )
   )
   )
   )
   )
   )
   )
   )
  )
  )
  )
  )
  ))
  ))
theorem yk_X6_appeal : yok yX6_appeal 2 := by decide +kernel
set_option maxHeartbeats 4000000 in
set_option maxRecDepth 100000 in
theorem w_X6_appeal {G : gG} (hG : GOK G) (hY : GY G) {l : Launch} (hlf : l.stackTraces = false) {a0 : Nat} {a1 : Int32} {a2 : Int32} {Mi : Mem} {out : (Int32 × Mem) ⊕ String} (hp : p_X6_appeal a0 a1 a2 Mi = some out) : CX G l yX6_appeal (wT yX6_appeal cX6_appeal 4 (some FieldType.int)) rm_X6_appeal [.ref a0, .int a1, .int a2] Mi (sm (fun r => (some (.int r.1), r.2)) out) 3 18 := by
  refine CX_of (own := RX6) (maxL := 4) (ret := (some FieldType.int)) hG (by decide) rfl (Nat.le_of_ble_eq_true rfl) (fun p e s m below meth c A C0 hr hlk hno hM ls hl => ?_)
  have hl : lv_has ls 4 [(0, .ref a0), (1, .int a1), (2, .int a2)] := hl
  generalize ([.ref a0, .int a1, .int a2] : List Value).toArray = args at C0 ⊢
  skip
  have hx := C0.1
  have hb := C0.2.1
  have hown := C0.2.2.2.1
  have hts := C0.2.2.2.2.1
  unfold p_X6_appeal at hp
  refine lv_aload_n hx hb dX6_appeal_0 rfl (lv_at hl 0 rfl) ?_
  refine lv_iload_n hx hb dX6_appeal_1 rfl (lv_at hl 1 rfl) ?_
  obtain ⟨_, h1, hp⟩ := ob hp
  rcases obx_at hp with ⟨E3, hv2, hp⟩ | ⟨v2, hv2, hp⟩
  · exact mx_V_x (As := [.int a1]) (rest := []) C0 hno hlk cbX6 hM h1 rfl (w_X6_needChild hG hY hlf hv2) tw_865 tw_867 tws_3 tw_1 tw_868 yk_X6_needChild (by decide) rfl hl.1 (Nat.le_of_ble_eq_true rfl) dX6_appeal_2 rfl (by rw [hp]; rfl) (by decide) (by decide)
  refine mx_V_0 (As := [.int a1]) (rest := []) C0 cbX6 hM h1 rfl (w_X6_needChild hG hY hlf hv2) tw_865 tw_867 tws_3 tw_1 tw_868 yk_X6_needChild (by decide) rfl hl.1 (Nat.le_of_ble_eq_true rfl) dX6_appeal_2 rfl (fun H locs hM => ?_)
  refine lv_aload_n hx hb dX6_appeal_5 rfl (lv_at hl 0 rfl) ?_
  refine lv_iload_n hx hb dX6_appeal_6 rfl (lv_at hl 2 rfl) ?_
  obtain ⟨_, h4, hp⟩ := ob hp
  rcases obx_at hp with ⟨E6, hv5, hp⟩ | ⟨v5, hv5, hp⟩
  · exact mx_V_x (As := [.int a2]) (rest := []) C0 hno hlk cbX6 hM h4 rfl (w_X6_needSchool hG hY hlf hv5) tw_808 tw_810 tws_2 tw_1 tw_811 yk_X6_needSchool (by decide) rfl hl.1 (Nat.le_of_ble_eq_true rfl) dX6_appeal_7 rfl (by rw [hp]; rfl) (by decide) (by decide)
  refine mx_V_0 (As := [.int a2]) (rest := []) C0 cbX6 hM h4 rfl (w_X6_needSchool hG hY hlf hv5) tw_808 tw_810 tws_2 tw_1 tw_811 yk_X6_needSchool (by decide) rfl hl.1 (Nat.le_of_ble_eq_true rfl) dX6_appeal_7 rfl (fun H locs hM => ?_)
  refine lv_aload_n hx hb dX6_appeal_10 rfl (lv_at hl 0 rfl) ?_
  obtain ⟨v7, hv7, hp⟩ := ob hp
  refine mr_getR C0 cbX6 hM 3 (by decide) tw_282 hv7 dX6_appeal_11 ?_
  refine lv_iload_n hx hb dX6_appeal_14 rfl (lv_at hl 1 rfl) ?_
  refine lv_iload_n hx hb dX6_appeal_15 rfl (lv_at hl 2 rfl) ?_
  obtain ⟨_, h8, hp⟩ := ob hp
  obtain ⟨v9, hv9, hp⟩ := ob hp
  refine mg_V1 (As := [.int a1, .int a2]) (rest := []) C0 cbX2 hM h8 rfl (w_X2_waits hG hv9) tw_956 tw_543 tw_544 tw_3 tw_545 yk_X2_waits (by decide) rfl hl.1 (Nat.le_of_ble_eq_true rfl) dX6_appeal_16 rfl (fun H locs hM => ?_)
  refine lv_if_ne (tgt := 33) hx hb dX6_appeal_19 (by decide) (fun c10 => ?_) (fun c10 => ?_)
  · replace hp := oF c10 hp
    refine lv_aload_n hx hb dX6_appeal_33 rfl (lv_at hl 0 rfl) ?_
    obtain ⟨_, h11, hp⟩ := ob hp
    obtain ⟨M12, hM12, hp⟩ := ob hp
    refine mg_V0 (As := []) (rest := []) C0 cbX6 hM h11 rfl (w_X6_remember hG hM12) tw_586 tw_588 tws_0 tw_1 tw_589 yk_X6_remember (by decide) rfl hl.1 (Nat.le_of_ble_eq_true rfl) dX6_appeal_34 rfl (fun H locs hM => ?_)
    refine lv_aload_n hx hb dX6_appeal_37 rfl (lv_at hl 0 rfl) ?_
    obtain ⟨v13, hv13, hp⟩ := ob hp
    refine mr_getR C0 cbX6 hM 3 (by decide) tw_282 hv13 dX6_appeal_38 ?_
    refine lv_iload_n hx hb dX6_appeal_41 rfl (lv_at hl 1 rfl) ?_
    refine lv_iload_n hx hb dX6_appeal_42 rfl (lv_at hl 2 rfl) ?_
    obtain ⟨_, h14, hp⟩ := ob hp
    obtain ⟨v15, M16, hv15, hp⟩ := ob3 hp
    refine mg_V1 (As := [.int a1, .int a2]) (rest := []) C0 cbX2 hM h14 rfl (w_X2_hearAppeal hG hv15) tw_1060 tw_1061 tw_1062 tw_3 tw_1063 yk_X2_hearAppeal (by decide) rfl hl.1 (Nat.le_of_ble_eq_true rfl) dX6_appeal_43 rfl (fun H locs hM => ?_)
    refine lv_istore_n (lv' := [(3, .int v15), (0, .ref a0), (1, .int a1), (2, .int a2)]) hx hb dX6_appeal_46 rfl hl (by decide) rfl (fun ls hl => ?_)
    refine lv_aload_n hx hb dX6_appeal_47 rfl (lv_at hl 1 rfl) ?_
    obtain ⟨v17, hv17, hp⟩ := ob hp
    refine mr_getR C0 cbX6 hM 3 (by decide) tw_282 hv17 dX6_appeal_48 ?_
    obtain ⟨_, h18, hp⟩ := ob hp
    obtain ⟨M19, hM19, hp⟩ := ob hp
    refine mg_V0 (As := []) (rest := []) C0 cbX2 hM h18 rfl (w_X2_fillPlaces hG hM19) tw_632 tw_633 tw_634 tw_3 tw_635 yk_X2_fillPlaces (by decide) rfl hl.1 (Nat.le_of_ble_eq_true rfl) dX6_appeal_51 rfl (fun H locs hM => ?_)
    refine lv_iload_n hx hb dX6_appeal_54 rfl (lv_at hl 0 rfl) ?_
    exact mx_iret C0 hr hlk hM rfl (by rw [← Option.some.inj hp]; rfl) (by decide) (by decide) dX6_appeal_55
  · replace hp := oT c10 hp
    exact mx_throwSW (text := "the child does not wait for the school") (rest := []) C0 hY hlf hlk hno hM xk_277 (by decide +kernel) rfl hl.1 (by rw [← Option.some.inj hp]; rfl) dX6_appeal_22 dX6_appeal_25 dX6_appeal_26 dX6_appeal_29 dX6_appeal_32 ⟨⟨by decide, Nat.le_of_ble_eq_true rfl⟩, by decide, by decide⟩ (by decide) (by decide)
abbrev rm_X6_lastHolder : Room := { frames := 7, cells := 1, slots := 6, locals := 111 }
def p_X6_lastHolder (a0 : Nat) (a1 : Int32) (Mi : Mem) : Option ((Int32) ⊕ String) :=
  (Option.bind (isC 5 Mi a0) fun _ =>
  (obx (p_X6_needSchool a0 a1 Mi) fun v2 =>
  (Option.bind (gR 5 3 Mi a0) fun v4 =>
  (Option.bind (gR 5 3 Mi a0) fun v5 =>
  (Option.bind (isC 2 Mi v5) fun _ =>
  (Option.bind (p_X2_holdersOf v5 a1 Mi) fun v7 =>
  (Option.bind (isC 2 Mi v4) fun _ =>
  (Option.bind (p_X2_lastOf v4 v7 a1 Mi) fun v9 =>
  some (.inl v9)
  )
  )
  )
  )
  )
  )
  ))
theorem yk_X6_lastHolder : yok yX6_lastHolder 1 := by decide +kernel
set_option maxHeartbeats 4000000 in
set_option maxRecDepth 100000 in
theorem w_X6_lastHolder {G : gG} (hG : GOK G) (hY : GY G) {l : Launch} (hlf : l.stackTraces = false) {a0 : Nat} {a1 : Int32} {Mi : Mem} {out : (Int32) ⊕ String} (hp : p_X6_lastHolder a0 a1 Mi = some out) : CX G l yX6_lastHolder (wT yX6_lastHolder cX6_lastHolder 2 (some FieldType.int)) rm_X6_lastHolder [.ref a0, .int a1] Mi (sm (fun r => (some (.int r), Mi)) out) 1 6 := by
  refine CX_of (own := RX6) (maxL := 2) (ret := (some FieldType.int)) hG (by decide) rfl (Nat.le_of_ble_eq_true rfl) (fun p e s m below meth c A C0 hr hlk hno hM ls hl => ?_)
  have hl : lv_has ls 2 [(0, .ref a0), (1, .int a1)] := hl
  generalize ([.ref a0, .int a1] : List Value).toArray = args at C0 ⊢
  skip
  have hx := C0.1
  have hb := C0.2.1
  have hown := C0.2.2.2.1
  have hts := C0.2.2.2.2.1
  unfold p_X6_lastHolder at hp
  refine lv_aload_n hx hb dX6_lastHolder_0 rfl (lv_at hl 0 rfl) ?_
  refine lv_iload_n hx hb dX6_lastHolder_1 rfl (lv_at hl 1 rfl) ?_
  obtain ⟨_, h1, hp⟩ := ob hp
  rcases obx_at hp with ⟨E3, hv2, hp⟩ | ⟨v2, hv2, hp⟩
  · exact mx_V_x (As := [.int a1]) (rest := []) C0 hno hlk cbX6 hM h1 rfl (w_X6_needSchool hG hY hlf hv2) tw_808 tw_810 tws_2 tw_1 tw_811 yk_X6_needSchool (by decide) rfl hl.1 (Nat.le_of_ble_eq_true rfl) dX6_lastHolder_2 rfl (by rw [hp]; rfl) (by decide) (by decide)
  refine mx_V_0 (As := [.int a1]) (rest := []) C0 cbX6 hM h1 rfl (w_X6_needSchool hG hY hlf hv2) tw_808 tw_810 tws_2 tw_1 tw_811 yk_X6_needSchool (by decide) rfl hl.1 (Nat.le_of_ble_eq_true rfl) dX6_lastHolder_2 rfl (fun H locs hM => ?_)
  refine lv_aload_n hx hb dX6_lastHolder_5 rfl (lv_at hl 0 rfl) ?_
  obtain ⟨v4, hv4, hp⟩ := ob hp
  refine mr_getR C0 cbX6 hM 3 (by decide) tw_282 hv4 dX6_lastHolder_6 ?_
  refine lv_aload_n hx hb dX6_lastHolder_9 rfl (lv_at hl 0 rfl) ?_
  obtain ⟨v5, hv5, hp⟩ := ob hp
  refine mr_getR C0 cbX6 hM 3 (by decide) tw_282 hv5 dX6_lastHolder_10 ?_
  refine lv_iload_n hx hb dX6_lastHolder_13 rfl (lv_at hl 1 rfl) ?_
  obtain ⟨_, h6, hp⟩ := ob hp
  obtain ⟨v7, hv7, hp⟩ := ob hp
  refine mg_V1 (As := [.int a1]) (rest := [.ref v4]) C0 cbX2 hM h6 rfl (w_X2_holdersOf hG hv7) tw_677 tw_555 tw_556 tw_3 tw_557 yk_X2_holdersOf (by decide) rfl hl.1 (Nat.le_of_ble_eq_true rfl) dX6_lastHolder_14 rfl (fun H locs hM => ?_)
  refine lv_iload_n hx hb dX6_lastHolder_17 rfl (lv_at hl 1 rfl) ?_
  obtain ⟨_, h8, hp⟩ := ob hp
  obtain ⟨v9, hv9, hp⟩ := ob hp
  refine mg_V1 (As := [.long v7, .int a1]) (rest := []) C0 cbX2 hM h8 rfl (w_X2_lastOf hG hv9) tw_1072 tw_560 tw_561 tw_3 tw_562 yk_X2_lastOf (by decide) rfl hl.1 (Nat.le_of_ble_eq_true rfl) dX6_lastHolder_18 rfl (fun H locs hM => ?_)
  exact mx_iret C0 hr hlk hM rfl (by rw [← Option.some.inj hp]; rfl) (by decide) (by decide) dX6_lastHolder_21
abbrev rm_X6_way : Room := { frames := 7, cells := 1, slots := 6, locals := 111 }
def p_X6_way (a0 : Nat) (a1 : Int32) (Mi : Mem) : Option ((UInt32) ⊕ String) :=
  (Option.bind (isC 5 Mi a0) fun _ =>
  (obx (p_X6_needChild a0 a1 Mi) fun v2 =>
  (Option.bind (gR 5 3 Mi a0) fun v4 =>
  (Option.bind (gR 2 16 Mi v4) fun v5 =>
  (Option.bind (aI 0 Mi v5 a1) fun v6 =>
  (if v6 = (-1 : Int32) then
   some (.inl (3212836864 : UInt32))
  else
   (Option.bind (gR 5 3 Mi a0) fun v8 =>
   (Option.bind (isC 2 Mi v8) fun _ =>
   (Option.bind (p_X2_squareWay v8 a1 v6 Mi) fun v10 =>
   (Option.bind (p_X6_root v10 Mi) fun v11 =>
   (jn (FP.d2f v11) fun w12 =>
   (if w12 &&& 0x7fffffff ≤ 0x7f800000 then
   some (.inl w12)
   else none))
   )
   )
   )
   )
  )
  )
  )
  )
  ))
theorem yk_X6_way : yok yX6_way 1 := by decide +kernel
set_option maxHeartbeats 4000000 in
set_option maxRecDepth 100000 in
theorem w_X6_way {G : gG} (hG : GOK G) (hY : GY G) {l : Launch} (hlf : l.stackTraces = false) {a0 : Nat} {a1 : Int32} {Mi : Mem} {out : (UInt32) ⊕ String} (hp : p_X6_way a0 a1 Mi = some out) : CX G l yX6_way (wT yX6_way cX6_way 3 (some FieldType.float)) rm_X6_way [.ref a0, .int a1] Mi (sm (fun r => (some (.float r), Mi)) out) 1 6 := by
  refine CX_of (own := RX6) (maxL := 3) (ret := (some FieldType.float)) hG (by decide) rfl (Nat.le_of_ble_eq_true rfl) (fun p e s m below meth c A C0 hr hlk hno hM ls hl => ?_)
  have hl : lv_has ls 3 [(0, .ref a0), (1, .int a1)] := hl
  generalize ([.ref a0, .int a1] : List Value).toArray = args at C0 ⊢
  skip
  have hx := C0.1
  have hb := C0.2.1
  have hown := C0.2.2.2.1
  have hts := C0.2.2.2.2.1
  unfold p_X6_way at hp
  refine lv_aload_n hx hb dX6_way_0 rfl (lv_at hl 0 rfl) ?_
  refine lv_iload_n hx hb dX6_way_1 rfl (lv_at hl 1 rfl) ?_
  obtain ⟨_, h1, hp⟩ := ob hp
  rcases obx_at hp with ⟨E3, hv2, hp⟩ | ⟨v2, hv2, hp⟩
  · exact mx_V_x (As := [.int a1]) (rest := []) C0 hno hlk cbX6 hM h1 rfl (w_X6_needChild hG hY hlf hv2) tw_865 tw_867 tws_3 tw_1 tw_868 yk_X6_needChild (by decide) rfl hl.1 (Nat.le_of_ble_eq_true rfl) dX6_way_2 rfl (by rw [hp]; rfl) (by decide) (by decide)
  refine mx_V_0 (As := [.int a1]) (rest := []) C0 cbX6 hM h1 rfl (w_X6_needChild hG hY hlf hv2) tw_865 tw_867 tws_3 tw_1 tw_868 yk_X6_needChild (by decide) rfl hl.1 (Nat.le_of_ble_eq_true rfl) dX6_way_2 rfl (fun H locs hM => ?_)
  refine lv_aload_n hx hb dX6_way_5 rfl (lv_at hl 0 rfl) ?_
  obtain ⟨v4, hv4, hp⟩ := ob hp
  refine mr_getR C0 cbX6 hM 3 (by decide) tw_282 hv4 dX6_way_6 ?_
  obtain ⟨v5, hv5, hp⟩ := ob hp
  refine mr_getR C0 cbX2 hM 16 (by decide) tw_157 hv5 dX6_way_9 ?_
  refine lv_iload_n hx hb dX6_way_12 rfl (lv_at hl 1 rfl) ?_
  obtain ⟨v6, hv6, hp⟩ := ob hp
  refine mr_iald C0 hM hv6 dX6_way_13 ?_
  refine lv_istore_n (lv' := [(2, .int v6), (0, .ref a0), (1, .int a1)]) hx hb dX6_way_14 rfl hl (by decide) rfl (fun ls hl => ?_)
  refine lv_iload_n hx hb dX6_way_15 rfl (lv_at hl 0 rfl) ?_
  refine lv_iconst (v := -1) hx hb dX6_way_16 (by decide) ?_
  refine lv_icmp_ne (tgt := 26) hx hb dX6_way_17 (by decide) (fun c7 => ?_) (fun c7 => ?_)
  · replace hp := oF c7 hp
    refine lv_aload_n hx hb dX6_way_26 rfl (lv_at hl 1 rfl) ?_
    obtain ⟨v8, hv8, hp⟩ := ob hp
    refine mr_getR C0 cbX6 hM 3 (by decide) tw_282 hv8 dX6_way_27 ?_
    refine lv_iload_n hx hb dX6_way_30 rfl (lv_at hl 2 rfl) ?_
    refine lv_iload_n hx hb dX6_way_31 rfl (lv_at hl 0 rfl) ?_
    obtain ⟨_, h9, hp⟩ := ob hp
    obtain ⟨v10, hv10, hp⟩ := ob hp
    refine mg_V1 (As := [.int a1, .int v6]) (rest := []) C0 cbX2 hM h9 rfl (w_X2_squareWay hG hv10) tw_694 tw_579 tw_580 tw_3 tw_581 yk_X2_squareWay (by decide) rfl hl.1 (Nat.le_of_ble_eq_true rfl) dX6_way_32 rfl (fun H locs hM => ?_)
    obtain ⟨v11, hv11, hp⟩ := ob hp
    refine mg_S1 (As := [.int v10]) (rest := []) C0 hM (w_X6_root hG hv11) tw_695 tw_696 tw_1 tw_697 yk_X6_root (by decide) rfl hl.1 (Nat.le_of_ble_eq_true rfl) dX6_way_35 rfl (fun H locs hM => ?_)
    obtain ⟨w12, ew12, hp⟩ := ojn hp
    obtain ⟨hne, hp⟩ := oG hp
    refine lv_d2f hx hb dX6_way_38 (by rw [← ew12]; exact hne) ?_
    rw [← ew12]
    exact mx_fret C0 hr hlk hM (by rw [← Option.some.inj hp]; rfl) (by decide) (by decide) dX6_way_39
  · replace hp := oT c7 hp
    refine mr_ldcwf (v := 3212836864) C0 tw_1080 dX6_way_20 ?_
    refine lv_goto (tgt := 39) hx hb dX6_way_23 (by decide) ?_
    exact mx_fret C0 hr hlk hM (by rw [← Option.some.inj hp]; rfl) (by decide) (by decide) dX6_way_39
abbrev rm_X6_wanted : Room := { frames := 7, cells := 1, slots := 6, locals := 111 }
def pl_X6_wanted_10 (k1 : Int32 → Option ((Int32) ⊕ String)) (f0 : Nat) (f1 : Int32) (f2 : Int32) (M : Mem) : Nat → Int32 → Int32 → Option ((Int32) ⊕ String)
  | 0, _, _ => none
  | n + 1, y3, y4 =>
    (Option.bind (gR 5 3 M f0) fun v4 =>
    (Option.bind (gI 2 1 M v4) fun v5 =>
    (if v5 ≤ y4 then
     (k1 y3)
    else
     (Option.bind (gR 5 3 M f0) fun v7 =>
     (Option.bind (gL 2 9 M v7) fun v8 =>
     (Option.bind (p_X6_isIn v8 y4 M) fun v9 =>
     (if v9 = 0 then
      (Option.bind (gR 5 3 M f0) fun v11 =>
      (Option.bind (gR 2 15 M v11) fun v12 =>
      (Option.bind (aI 0 M v12 y4) fun v13 =>
      (Option.bind (p_X6_rowEntry v13 f2 M) fun v14 =>
      (if v14 = f1 then
       (pl_X6_wanted_10 k1 f0 f1 f2 M n (y3 + (1 : Int32)) (y4 + (1 : Int32)))
      else
       (pl_X6_wanted_10 k1 f0 f1 f2 M n y3 (y4 + (1 : Int32)))
      )
      )
      )
      )
      )
     else
      (pl_X6_wanted_10 k1 f0 f1 f2 M n y3 (y4 + (1 : Int32)))
     )
     )
     )
     )
    )
    )
    )
set_option maxHeartbeats 4000000 in
set_option maxRecDepth 100000 in
theorem wl_X6_wanted_10 {G : gG} {p : Program} {l : Launch} {e : Env} {s : State} {m : MethodId} {args : Array Value} {below : List Frame} {meth : Method} {c : Code} {A : Nat → Prop} {Mi : Mem} {out : (Int32) ⊕ String} {k1 : Int32 → Option ((Int32) ⊕ String)} {f0 : Nat} {f1 : Int32} {f2 : Int32} {M : Mem} (C0 : cx G p s m args c cX6_wanted RX6 5 A) (hr : meth.sig.returnType = (some FieldType.int)) (hlk : meth.locks = false) (hG : GOK G) (hY : GY G) (hlf : l.stackTraces = false) (hno : ∀ x ∈ c.exceptionTable.toList, False) (hk1 : ∀ (z3 : Int32) (H : Heap) (locs : List Loc) (ls : Array Slot), mm G A s M H locs → lv_has ls 5 [(3, .int z3)] → k1 z3 = some out → W p l e rm_X6_wanted s m args below meth c H locs 1 6 (vx_MQ below (XQ G Mi A (sm (fun r => (some (.int r), Mi)) out)) (XX G Mi A (sm (fun r => (some (.int r), Mi)) out)) args s 1 6 A) (F0 m 64 ls [])) : ∀ (n : Nat) (y3 : Int32) (y4 : Int32) (H : Heap) (locs : List Loc) (ls : Array Slot), mm G A s M H locs → lv_has ls 5 [(0, .ref f0), (1, .int f1), (2, .int f2), (3, .int y3), (4, .int y4)] → pl_X6_wanted_10 k1 f0 f1 f2 M n y3 y4 = some out → W p l e rm_X6_wanted s m args below meth c H locs 1 6 (vx_MQ below (XQ G Mi A (sm (fun r => (some (.int r), Mi)) out)) (XX G Mi A (sm (fun r => (some (.int r), Mi)) out)) args s 1 6 A) (F0 m 10 ls []) := by
  have hx := C0.1
  have hb := C0.2.1
  have hown := C0.2.2.2.1
  have hts := C0.2.2.2.2.1
  intro n
  induction n with
  | zero => intro y3 y4 H locs ls hM hl hp; rw [pl_X6_wanted_10] at hp; cases hp
  | succ n ih =>
    intro y3 y4 H locs ls hM hl hp
    rw [pl_X6_wanted_10] at hp
    refine lv_iload hx hb dX6_wanted_10 (lv_at hl 4 rfl) ?_
    refine lv_aload_n hx hb dX6_wanted_12 rfl (lv_at hl 0 rfl) ?_
    obtain ⟨v4, hv4, hp⟩ := ob hp
    refine mr_getR C0 cbX6 hM 3 (by decide) tw_282 hv4 dX6_wanted_13 ?_
    obtain ⟨v5, hv5, hp⟩ := ob hp
    refine mr_getI C0 cbX2 hM 1 (by decide) tw_121 hv5 dX6_wanted_16 ?_
    refine lv_icmp_ge (tgt := 64) hx hb dX6_wanted_19 (by decide) (fun c6 => ?_) (fun c6 => ?_)
    · replace hp := oT c6 hp
      exact hk1 _ _ _ _ hM (lv_sub hl [3] rfl) hp
    · replace hp := oF c6 hp
      refine lv_aload_n hx hb dX6_wanted_22 rfl (lv_at hl 0 rfl) ?_
      obtain ⟨v7, hv7, hp⟩ := ob hp
      refine mr_getR C0 cbX6 hM 3 (by decide) tw_282 hv7 dX6_wanted_23 ?_
      obtain ⟨v8, hv8, hp⟩ := ob hp
      refine mr_getL C0 cbX2 hM 9 (by decide) tw_141 hv8 dX6_wanted_26 ?_
      refine lv_iload hx hb dX6_wanted_29 (lv_at hl 4 rfl) ?_
      obtain ⟨v9, hv9, hp⟩ := ob hp
      refine mg_S1 (As := [.long v8, .int y4]) (rest := []) C0 hM (w_X6_isIn hG hv9) tw_870 tw_547 tw_1 tw_548 yk_X6_isIn (by decide) rfl hl.1 (Nat.le_of_ble_eq_true rfl) dX6_wanted_31 rfl (fun H locs hM => ?_)
      refine lv_if_ne (tgt := 58) hx hb dX6_wanted_34 (by decide) (fun c10 => ?_) (fun c10 => ?_)
      · replace hp := oF c10 hp
        refine lv_iinc (v := (y4 + (1 : Int32))) (lv' := [(4, .int (y4 + (1 : Int32))), (0, .ref f0), (1, .int f1), (2, .int f2), (3, .int y3)]) hx hb dX6_wanted_58 hl (k := 4) rfl rfl (by decide) rfl (fun ls hl => ?_)
        refine lv_goto (tgt := 10) hx hb dX6_wanted_61 (by decide) ?_
        exact ih _ _ _ _ _ hM (lv_sub hl [1, 2, 3, 4, 0] rfl) hp
      · replace hp := oT c10 hp
        refine lv_aload_n hx hb dX6_wanted_37 rfl (lv_at hl 0 rfl) ?_
        obtain ⟨v11, hv11, hp⟩ := ob hp
        refine mr_getR C0 cbX6 hM 3 (by decide) tw_282 hv11 dX6_wanted_38 ?_
        obtain ⟨v12, hv12, hp⟩ := ob hp
        refine mr_getR C0 cbX2 hM 15 (by decide) tw_154 hv12 dX6_wanted_41 ?_
        refine lv_iload hx hb dX6_wanted_44 (lv_at hl 4 rfl) ?_
        obtain ⟨v13, hv13, hp⟩ := ob hp
        refine mr_iald C0 hM hv13 dX6_wanted_46 ?_
        refine lv_iload_n hx hb dX6_wanted_47 rfl (lv_at hl 2 rfl) ?_
        obtain ⟨v14, hv14, hp⟩ := ob hp
        refine mg_S1 (As := [.int v13, .int f2]) (rest := []) C0 hM (w_X6_rowEntry hG hv14) tw_831 tw_572 tw_1 tw_573 yk_X6_rowEntry (by decide) rfl hl.1 (Nat.le_of_ble_eq_true rfl) dX6_wanted_48 rfl (fun H locs hM => ?_)
        refine lv_iload_n hx hb dX6_wanted_51 rfl (lv_at hl 1 rfl) ?_
        refine lv_icmp_ne (tgt := 58) hx hb dX6_wanted_52 (by decide) (fun c15 => ?_) (fun c15 => ?_)
        · replace hp := oF c15 hp
          refine lv_iinc (v := (y4 + (1 : Int32))) (lv' := [(4, .int (y4 + (1 : Int32))), (0, .ref f0), (1, .int f1), (2, .int f2), (3, .int y3)]) hx hb dX6_wanted_58 hl (k := 4) rfl rfl (by decide) rfl (fun ls hl => ?_)
          refine lv_goto (tgt := 10) hx hb dX6_wanted_61 (by decide) ?_
          exact ih _ _ _ _ _ hM (lv_sub hl [1, 2, 3, 4, 0] rfl) hp
        · replace hp := oT c15 hp
          refine lv_iinc (v := (y3 + (1 : Int32))) (lv' := [(3, .int (y3 + (1 : Int32))), (0, .ref f0), (1, .int f1), (2, .int f2), (4, .int y4)]) hx hb dX6_wanted_55 hl (k := 3) rfl rfl (by decide) rfl (fun ls hl => ?_)
          refine lv_iinc (v := (y4 + (1 : Int32))) (lv' := [(4, .int (y4 + (1 : Int32))), (3, .int (y3 + (1 : Int32))), (0, .ref f0), (1, .int f1), (2, .int f2)]) hx hb dX6_wanted_58 hl (k := 4) rfl rfl (by decide) rfl (fun ls hl => ?_)
          refine lv_goto (tgt := 10) hx hb dX6_wanted_61 (by decide) ?_
          exact ih _ _ _ _ _ hM (lv_sub hl [2, 3, 4, 1, 0] rfl) hp
def p_X6_wanted (a0 : Nat) (a1 : Int32) (a2 : Int32) (Mi : Mem) : Option ((Int32) ⊕ String) :=
  (Option.bind (isC 5 Mi a0) fun _ =>
  (obx (p_X6_needSchool a0 a1 Mi) fun v2 =>
  (pl_X6_wanted_10
   (fun (z16 : Int32) =>
    some (.inl z16)
   )
   a0 a1 a2 Mi FU (0 : Int32) (0 : Int32))
  ))
theorem yk_X6_wanted : yok yX6_wanted 2 := by decide +kernel
set_option maxHeartbeats 4000000 in
set_option maxRecDepth 100000 in
theorem w_X6_wanted {G : gG} (hG : GOK G) (hY : GY G) {l : Launch} (hlf : l.stackTraces = false) {a0 : Nat} {a1 : Int32} {a2 : Int32} {Mi : Mem} {out : (Int32) ⊕ String} (hp : p_X6_wanted a0 a1 a2 Mi = some out) : CX G l yX6_wanted (wT yX6_wanted cX6_wanted 5 (some FieldType.int)) rm_X6_wanted [.ref a0, .int a1, .int a2] Mi (sm (fun r => (some (.int r), Mi)) out) 1 6 := by
  refine CX_of (own := RX6) (maxL := 5) (ret := (some FieldType.int)) hG (by decide) rfl (Nat.le_of_ble_eq_true rfl) (fun p e s m below meth c A C0 hr hlk hno hM ls hl => ?_)
  have hl : lv_has ls 5 [(0, .ref a0), (1, .int a1), (2, .int a2)] := hl
  generalize ([.ref a0, .int a1, .int a2] : List Value).toArray = args at C0 ⊢
  skip
  have hx := C0.1
  have hb := C0.2.1
  have hown := C0.2.2.2.1
  have hts := C0.2.2.2.2.1
  unfold p_X6_wanted at hp
  refine lv_aload_n hx hb dX6_wanted_0 rfl (lv_at hl 0 rfl) ?_
  refine lv_iload_n hx hb dX6_wanted_1 rfl (lv_at hl 1 rfl) ?_
  obtain ⟨_, h1, hp⟩ := ob hp
  rcases obx_at hp with ⟨E3, hv2, hp⟩ | ⟨v2, hv2, hp⟩
  · exact mx_V_x (As := [.int a1]) (rest := []) C0 hno hlk cbX6 hM h1 rfl (w_X6_needSchool hG hY hlf hv2) tw_808 tw_810 tws_2 tw_1 tw_811 yk_X6_needSchool (by decide) rfl hl.1 (Nat.le_of_ble_eq_true rfl) dX6_wanted_2 rfl (by rw [hp]; rfl) (by decide) (by decide)
  refine mx_V_0 (As := [.int a1]) (rest := []) C0 cbX6 hM h1 rfl (w_X6_needSchool hG hY hlf hv2) tw_808 tw_810 tws_2 tw_1 tw_811 yk_X6_needSchool (by decide) rfl hl.1 (Nat.le_of_ble_eq_true rfl) dX6_wanted_2 rfl (fun H locs hM => ?_)
  refine lv_iconst (v := 0) hx hb dX6_wanted_5 (by decide) ?_
  refine lv_istore_n (lv' := [(3, .int (0 : Int32)), (0, .ref a0), (1, .int a1), (2, .int a2)]) hx hb dX6_wanted_6 rfl hl (by decide) rfl (fun ls hl => ?_)
  refine lv_iconst (v := 0) hx hb dX6_wanted_7 (by decide) ?_
  refine lv_istore (lv' := [(4, .int (0 : Int32)), (3, .int (0 : Int32)), (0, .ref a0), (1, .int a1), (2, .int a2)]) hx hb dX6_wanted_8 hl (by decide) rfl (fun ls hl => ?_)
  refine wl_X6_wanted_10 C0 hr hlk hG hY hlf hno (fun z16 H locs ls hM hl hp => ?_) FU _ _ _ _ _ hM (lv_sub hl [2, 3, 4, 1, 0] rfl) hp
  refine lv_iload_n hx hb dX6_wanted_64 rfl (lv_at hl 0 rfl) ?_
  exact mx_iret C0 hr hlk hM rfl (by rw [← Option.some.inj hp]; rfl) (by decide) (by decide) dX6_wanted_65
abbrev rm_X6_inZone : Room := { frames := 7, cells := 1, slots := 6, locals := 111 }
def pl_X6_inZone_9 (k1 : Int32 → Option ((Int32) ⊕ String)) (f0 : Nat) (f1 : Int32) (M : Mem) : Nat → Int32 → Int32 → Option ((Int32) ⊕ String)
  | 0, _, _ => none
  | n + 1, y2, y3 =>
    (Option.bind (gR 5 3 M f0) fun v4 =>
    (Option.bind (gI 2 1 M v4) fun v5 =>
    (if v5 ≤ y3 then
     (k1 y2)
    else
     (Option.bind (gR 5 3 M f0) fun v7 =>
     (Option.bind (gL 2 9 M v7) fun v8 =>
     (Option.bind (p_X6_isIn v8 y3 M) fun v9 =>
     (if v9 = 0 then
      (Option.bind (gR 5 3 M f0) fun v11 =>
      (Option.bind (isC 2 M v11) fun _ =>
      (Option.bind (p_X2_fits v11 y3 f1 (2 : Int32) M) fun v13 =>
      (if v13 = 0 then
       (pl_X6_inZone_9 k1 f0 f1 M n y2 (y3 + (1 : Int32)))
      else
       (pl_X6_inZone_9 k1 f0 f1 M n (y2 + (1 : Int32)) (y3 + (1 : Int32)))
      )
      )
      )
      )
     else
      (pl_X6_inZone_9 k1 f0 f1 M n y2 (y3 + (1 : Int32)))
     )
     )
     )
     )
    )
    )
    )
set_option maxHeartbeats 4000000 in
set_option maxRecDepth 100000 in
theorem wl_X6_inZone_9 {G : gG} {p : Program} {l : Launch} {e : Env} {s : State} {m : MethodId} {args : Array Value} {below : List Frame} {meth : Method} {c : Code} {A : Nat → Prop} {Mi : Mem} {out : (Int32) ⊕ String} {k1 : Int32 → Option ((Int32) ⊕ String)} {f0 : Nat} {f1 : Int32} {M : Mem} (C0 : cx G p s m args c cX6_inZone RX6 4 A) (hr : meth.sig.returnType = (some FieldType.int)) (hlk : meth.locks = false) (hG : GOK G) (hY : GY G) (hlf : l.stackTraces = false) (hno : ∀ x ∈ c.exceptionTable.toList, False) (hk1 : ∀ (z2 : Int32) (H : Heap) (locs : List Loc) (ls : Array Slot), mm G A s M H locs → lv_has ls 4 [(2, .int z2)] → k1 z2 = some out → W p l e rm_X6_inZone s m args below meth c H locs 1 6 (vx_MQ below (XQ G Mi A (sm (fun r => (some (.int r), Mi)) out)) (XX G Mi A (sm (fun r => (some (.int r), Mi)) out)) args s 1 6 A) (F0 m 56 ls [])) : ∀ (n : Nat) (y2 : Int32) (y3 : Int32) (H : Heap) (locs : List Loc) (ls : Array Slot), mm G A s M H locs → lv_has ls 4 [(0, .ref f0), (1, .int f1), (2, .int y2), (3, .int y3)] → pl_X6_inZone_9 k1 f0 f1 M n y2 y3 = some out → W p l e rm_X6_inZone s m args below meth c H locs 1 6 (vx_MQ below (XQ G Mi A (sm (fun r => (some (.int r), Mi)) out)) (XX G Mi A (sm (fun r => (some (.int r), Mi)) out)) args s 1 6 A) (F0 m 9 ls []) := by
  have hx := C0.1
  have hb := C0.2.1
  have hown := C0.2.2.2.1
  have hts := C0.2.2.2.2.1
  intro n
  induction n with
  | zero => intro y2 y3 H locs ls hM hl hp; rw [pl_X6_inZone_9] at hp; cases hp
  | succ n ih =>
    intro y2 y3 H locs ls hM hl hp
    rw [pl_X6_inZone_9] at hp
    refine lv_iload_n hx hb dX6_inZone_9 rfl (lv_at hl 3 rfl) ?_
    refine lv_aload_n hx hb dX6_inZone_10 rfl (lv_at hl 0 rfl) ?_
    obtain ⟨v4, hv4, hp⟩ := ob hp
    refine mr_getR C0 cbX6 hM 3 (by decide) tw_282 hv4 dX6_inZone_11 ?_
    obtain ⟨v5, hv5, hp⟩ := ob hp
    refine mr_getI C0 cbX2 hM 1 (by decide) tw_121 hv5 dX6_inZone_14 ?_
    refine lv_icmp_ge (tgt := 56) hx hb dX6_inZone_17 (by decide) (fun c6 => ?_) (fun c6 => ?_)
    · replace hp := oT c6 hp
      exact hk1 _ _ _ _ hM (lv_sub hl [2] rfl) hp
    · replace hp := oF c6 hp
      refine lv_aload_n hx hb dX6_inZone_20 rfl (lv_at hl 0 rfl) ?_
      obtain ⟨v7, hv7, hp⟩ := ob hp
      refine mr_getR C0 cbX6 hM 3 (by decide) tw_282 hv7 dX6_inZone_21 ?_
      obtain ⟨v8, hv8, hp⟩ := ob hp
      refine mr_getL C0 cbX2 hM 9 (by decide) tw_141 hv8 dX6_inZone_24 ?_
      refine lv_iload_n hx hb dX6_inZone_27 rfl (lv_at hl 3 rfl) ?_
      obtain ⟨v9, hv9, hp⟩ := ob hp
      refine mg_S1 (As := [.long v8, .int y3]) (rest := []) C0 hM (w_X6_isIn hG hv9) tw_870 tw_547 tw_1 tw_548 yk_X6_isIn (by decide) rfl hl.1 (Nat.le_of_ble_eq_true rfl) dX6_inZone_28 rfl (fun H locs hM => ?_)
      refine lv_if_ne (tgt := 50) hx hb dX6_inZone_31 (by decide) (fun c10 => ?_) (fun c10 => ?_)
      · replace hp := oF c10 hp
        refine lv_iinc (v := (y3 + (1 : Int32))) (lv' := [(3, .int (y3 + (1 : Int32))), (0, .ref f0), (1, .int f1), (2, .int y2)]) hx hb dX6_inZone_50 hl (k := 3) rfl rfl (by decide) rfl (fun ls hl => ?_)
        refine lv_goto (tgt := 9) hx hb dX6_inZone_53 (by decide) ?_
        exact ih _ _ _ _ _ hM (lv_sub hl [1, 2, 3, 0] rfl) hp
      · replace hp := oT c10 hp
        refine lv_aload_n hx hb dX6_inZone_34 rfl (lv_at hl 0 rfl) ?_
        obtain ⟨v11, hv11, hp⟩ := ob hp
        refine mr_getR C0 cbX6 hM 3 (by decide) tw_282 hv11 dX6_inZone_35 ?_
        refine lv_iload_n hx hb dX6_inZone_38 rfl (lv_at hl 3 rfl) ?_
        refine lv_iload_n hx hb dX6_inZone_39 rfl (lv_at hl 1 rfl) ?_
        refine lv_iconst (v := 2) hx hb dX6_inZone_40 (by decide) ?_
        obtain ⟨_, h12, hp⟩ := ob hp
        obtain ⟨v13, hv13, hp⟩ := ob hp
        refine mg_V1 (As := [.int y3, .int f1, .int (2 : Int32)]) (rest := []) C0 cbX2 hM h12 rfl (w_X2_fits hG hv13) tw_901 tw_575 tw_576 tw_3 tw_577 yk_X2_fits (by decide) rfl hl.1 (Nat.le_of_ble_eq_true rfl) dX6_inZone_41 rfl (fun H locs hM => ?_)
        refine lv_if_eq (tgt := 50) hx hb dX6_inZone_44 (by decide) (fun c14 => ?_) (fun c14 => ?_)
        · replace hp := oT c14 hp
          refine lv_iinc (v := (y3 + (1 : Int32))) (lv' := [(3, .int (y3 + (1 : Int32))), (0, .ref f0), (1, .int f1), (2, .int y2)]) hx hb dX6_inZone_50 hl (k := 3) rfl rfl (by decide) rfl (fun ls hl => ?_)
          refine lv_goto (tgt := 9) hx hb dX6_inZone_53 (by decide) ?_
          exact ih _ _ _ _ _ hM (lv_sub hl [1, 2, 3, 0] rfl) hp
        · replace hp := oF c14 hp
          refine lv_iinc (v := (y2 + (1 : Int32))) (lv' := [(2, .int (y2 + (1 : Int32))), (0, .ref f0), (1, .int f1), (3, .int y3)]) hx hb dX6_inZone_47 hl (k := 2) rfl rfl (by decide) rfl (fun ls hl => ?_)
          refine lv_iinc (v := (y3 + (1 : Int32))) (lv' := [(3, .int (y3 + (1 : Int32))), (2, .int (y2 + (1 : Int32))), (0, .ref f0), (1, .int f1)]) hx hb dX6_inZone_50 hl (k := 3) rfl rfl (by decide) rfl (fun ls hl => ?_)
          refine lv_goto (tgt := 9) hx hb dX6_inZone_53 (by decide) ?_
          exact ih _ _ _ _ _ hM (lv_sub hl [2, 3, 1, 0] rfl) hp
def p_X6_inZone (a0 : Nat) (a1 : Int32) (Mi : Mem) : Option ((Int32) ⊕ String) :=
  (Option.bind (isC 5 Mi a0) fun _ =>
  (obx (p_X6_needSchool a0 a1 Mi) fun v2 =>
  (pl_X6_inZone_9
   (fun (z15 : Int32) =>
    some (.inl z15)
   )
   a0 a1 Mi FU (0 : Int32) (0 : Int32))
  ))
theorem yk_X6_inZone : yok yX6_inZone 1 := by decide +kernel
set_option maxHeartbeats 4000000 in
set_option maxRecDepth 100000 in
theorem w_X6_inZone {G : gG} (hG : GOK G) (hY : GY G) {l : Launch} (hlf : l.stackTraces = false) {a0 : Nat} {a1 : Int32} {Mi : Mem} {out : (Int32) ⊕ String} (hp : p_X6_inZone a0 a1 Mi = some out) : CX G l yX6_inZone (wT yX6_inZone cX6_inZone 4 (some FieldType.int)) rm_X6_inZone [.ref a0, .int a1] Mi (sm (fun r => (some (.int r), Mi)) out) 1 6 := by
  refine CX_of (own := RX6) (maxL := 4) (ret := (some FieldType.int)) hG (by decide) rfl (Nat.le_of_ble_eq_true rfl) (fun p e s m below meth c A C0 hr hlk hno hM ls hl => ?_)
  have hl : lv_has ls 4 [(0, .ref a0), (1, .int a1)] := hl
  generalize ([.ref a0, .int a1] : List Value).toArray = args at C0 ⊢
  skip
  have hx := C0.1
  have hb := C0.2.1
  have hown := C0.2.2.2.1
  have hts := C0.2.2.2.2.1
  unfold p_X6_inZone at hp
  refine lv_aload_n hx hb dX6_inZone_0 rfl (lv_at hl 0 rfl) ?_
  refine lv_iload_n hx hb dX6_inZone_1 rfl (lv_at hl 1 rfl) ?_
  obtain ⟨_, h1, hp⟩ := ob hp
  rcases obx_at hp with ⟨E3, hv2, hp⟩ | ⟨v2, hv2, hp⟩
  · exact mx_V_x (As := [.int a1]) (rest := []) C0 hno hlk cbX6 hM h1 rfl (w_X6_needSchool hG hY hlf hv2) tw_808 tw_810 tws_2 tw_1 tw_811 yk_X6_needSchool (by decide) rfl hl.1 (Nat.le_of_ble_eq_true rfl) dX6_inZone_2 rfl (by rw [hp]; rfl) (by decide) (by decide)
  refine mx_V_0 (As := [.int a1]) (rest := []) C0 cbX6 hM h1 rfl (w_X6_needSchool hG hY hlf hv2) tw_808 tw_810 tws_2 tw_1 tw_811 yk_X6_needSchool (by decide) rfl hl.1 (Nat.le_of_ble_eq_true rfl) dX6_inZone_2 rfl (fun H locs hM => ?_)
  refine lv_iconst (v := 0) hx hb dX6_inZone_5 (by decide) ?_
  refine lv_istore_n (lv' := [(2, .int (0 : Int32)), (0, .ref a0), (1, .int a1)]) hx hb dX6_inZone_6 rfl hl (by decide) rfl (fun ls hl => ?_)
  refine lv_iconst (v := 0) hx hb dX6_inZone_7 (by decide) ?_
  refine lv_istore_n (lv' := [(3, .int (0 : Int32)), (2, .int (0 : Int32)), (0, .ref a0), (1, .int a1)]) hx hb dX6_inZone_8 rfl hl (by decide) rfl (fun ls hl => ?_)
  refine wl_X6_inZone_9 C0 hr hlk hG hY hlf hno (fun z15 H locs ls hM hl hp => ?_) FU _ _ _ _ _ hM (lv_sub hl [2, 3, 1, 0] rfl) hp
  refine lv_iload_n hx hb dX6_inZone_56 rfl (lv_at hl 0 rfl) ?_
  exact mx_iret C0 hr hlk hM rfl (by rw [← Option.some.inj hp]; rfl) (by decide) (by decide) dX6_inZone_57
abbrev rm_X6_cutoff : Room := { frames := 7, cells := 2, slots := 12, locals := 111 }
def p_X6_cutoff (a0 : Nat) (a1 : Int32) (a2 : Int32) (Mi : Mem) : Option ((Int32) ⊕ String) :=
  (Option.bind (isC 5 Mi a0) fun _ =>
  (obx (p_X6_needSchool a0 a1 Mi) fun v2 =>
  (if a2 < 0 then
   some (.inr "java/lang/IllegalArgumentException")
  else
   (if a2 ≤ (2 : Int32) then
    (Option.bind (gR 5 3 Mi a0) fun v6 =>
    (Option.bind (gR 5 3 Mi a0) fun v7 =>
    (Option.bind (isC 2 Mi v7) fun _ =>
    (Option.bind (p_X2_holdersOf v7 a1 Mi) fun v9 =>
    (Option.bind (isC 2 Mi v6) fun _ =>
    (Option.bind (p_X2_lastOf v6 v9 a1 Mi) fun v11 =>
    (if v11 = (-1 : Int32) then
     some (.inl (-1 : Int32))
    else
     (if a2 = 0 then
      (Option.bind (gR 5 3 Mi a0) fun v21 =>
      (Option.bind (isC 2 Mi v21) fun _ =>
      (Option.bind (p_X2_rankClass v21 v11 a1 Mi) fun v23 =>
      some (.inl v23)
      )
      )
      )
     else
      (if a2 = (1 : Int32) then
       (Option.bind (gR 5 3 Mi a0) fun v18 =>
       (Option.bind (isC 2 Mi v18) fun _ =>
       (Option.bind (p_X2_squareWay v18 v11 a1 Mi) fun v20 =>
       some (.inl v20)
       )
       )
       )
      else
       (Option.bind (gR 5 3 Mi a0) fun v15 =>
       (Option.bind (gR 2 14 Mi v15) fun v16 =>
       (Option.bind (aI 0 Mi v16 v11) fun v17 =>
       some (.inl v17)
       )
       )
       )
      )
     )
    )
    )
    )
    )
    )
    )
    )
   else
    some (.inr "java/lang/IllegalArgumentException")
   )
  )
  ))
theorem yk_X6_cutoff : yok yX6_cutoff 2 := by decide +kernel
set_option maxHeartbeats 4000000 in
set_option maxRecDepth 100000 in
theorem w_X6_cutoff {G : gG} (hG : GOK G) (hY : GY G) {l : Launch} (hlf : l.stackTraces = false) {a0 : Nat} {a1 : Int32} {a2 : Int32} {Mi : Mem} {out : (Int32) ⊕ String} (hp : p_X6_cutoff a0 a1 a2 Mi = some out) : CX G l yX6_cutoff (wT yX6_cutoff cX6_cutoff 4 (some FieldType.int)) rm_X6_cutoff [.ref a0, .int a1, .int a2] Mi (sm (fun r => (some (.int r), Mi)) out) 2 12 := by
  refine CX_of (own := RX6) (maxL := 4) (ret := (some FieldType.int)) hG (by decide) rfl (Nat.le_of_ble_eq_true rfl) (fun p e s m below meth c A C0 hr hlk hno hM ls hl => ?_)
  have hl : lv_has ls 4 [(0, .ref a0), (1, .int a1), (2, .int a2)] := hl
  generalize ([.ref a0, .int a1, .int a2] : List Value).toArray = args at C0 ⊢
  skip
  have hx := C0.1
  have hb := C0.2.1
  have hown := C0.2.2.2.1
  have hts := C0.2.2.2.2.1
  unfold p_X6_cutoff at hp
  refine lv_aload_n hx hb dX6_cutoff_0 rfl (lv_at hl 0 rfl) ?_
  refine lv_iload_n hx hb dX6_cutoff_1 rfl (lv_at hl 1 rfl) ?_
  obtain ⟨_, h1, hp⟩ := ob hp
  rcases obx_at hp with ⟨E3, hv2, hp⟩ | ⟨v2, hv2, hp⟩
  · exact mx_V_x (As := [.int a1]) (rest := []) C0 hno hlk cbX6 hM h1 rfl (w_X6_needSchool hG hY hlf hv2) tw_808 tw_810 tws_2 tw_1 tw_811 yk_X6_needSchool (by decide) rfl hl.1 (Nat.le_of_ble_eq_true rfl) dX6_cutoff_2 rfl (by rw [hp]; rfl) (by decide) (by decide)
  refine mx_V_0 (As := [.int a1]) (rest := []) C0 cbX6 hM h1 rfl (w_X6_needSchool hG hY hlf hv2) tw_808 tw_810 tws_2 tw_1 tw_811 yk_X6_needSchool (by decide) rfl hl.1 (Nat.le_of_ble_eq_true rfl) dX6_cutoff_2 rfl (fun H locs hM => ?_)
  refine lv_iload_n hx hb dX6_cutoff_5 rfl (lv_at hl 2 rfl) ?_
  refine lv_if_lt (tgt := 14) hx hb dX6_cutoff_6 (by decide) (fun c4 => ?_) (fun c4 => ?_)
  · replace hp := oT c4 hp
    exact mx_throwS (text := "no such property of a child") (rest := []) C0 hY hlf hlk hno hM xk_134 (by decide +kernel) rfl hl.1 (by rw [← Option.some.inj hp]; rfl) dX6_cutoff_14 dX6_cutoff_17 dX6_cutoff_18 dX6_cutoff_20 dX6_cutoff_23 ⟨⟨by decide, Nat.le_of_ble_eq_true rfl⟩, by decide, by decide⟩ (by decide) (by decide)
  · replace hp := oF c4 hp
    refine lv_iload_n hx hb dX6_cutoff_9 rfl (lv_at hl 2 rfl) ?_
    refine lv_iconst (v := 2) hx hb dX6_cutoff_10 (by decide) ?_
    refine lv_icmp_le (tgt := 24) hx hb dX6_cutoff_11 (by decide) (fun c5 => ?_) (fun c5 => ?_)
    · replace hp := oT c5 hp
      refine lv_aload_n hx hb dX6_cutoff_24 rfl (lv_at hl 0 rfl) ?_
      obtain ⟨v6, hv6, hp⟩ := ob hp
      refine mr_getR C0 cbX6 hM 3 (by decide) tw_282 hv6 dX6_cutoff_25 ?_
      refine lv_aload_n hx hb dX6_cutoff_28 rfl (lv_at hl 0 rfl) ?_
      obtain ⟨v7, hv7, hp⟩ := ob hp
      refine mr_getR C0 cbX6 hM 3 (by decide) tw_282 hv7 dX6_cutoff_29 ?_
      refine lv_iload_n hx hb dX6_cutoff_32 rfl (lv_at hl 1 rfl) ?_
      obtain ⟨_, h8, hp⟩ := ob hp
      obtain ⟨v9, hv9, hp⟩ := ob hp
      refine mg_V1 (As := [.int a1]) (rest := [.ref v6]) C0 cbX2 hM h8 rfl (w_X2_holdersOf hG hv9) tw_677 tw_555 tw_556 tw_3 tw_557 yk_X2_holdersOf (by decide) rfl hl.1 (Nat.le_of_ble_eq_true rfl) dX6_cutoff_33 rfl (fun H locs hM => ?_)
      refine lv_iload_n hx hb dX6_cutoff_36 rfl (lv_at hl 1 rfl) ?_
      obtain ⟨_, h10, hp⟩ := ob hp
      obtain ⟨v11, hv11, hp⟩ := ob hp
      refine mg_V1 (As := [.long v9, .int a1]) (rest := []) C0 cbX2 hM h10 rfl (w_X2_lastOf hG hv11) tw_1072 tw_560 tw_561 tw_3 tw_562 yk_X2_lastOf (by decide) rfl hl.1 (Nat.le_of_ble_eq_true rfl) dX6_cutoff_37 rfl (fun H locs hM => ?_)
      refine lv_istore_n (lv' := [(3, .int v11), (0, .ref a0), (1, .int a1), (2, .int a2)]) hx hb dX6_cutoff_40 rfl hl (by decide) rfl (fun ls hl => ?_)
      refine lv_iload_n hx hb dX6_cutoff_41 rfl (lv_at hl 0 rfl) ?_
      refine lv_iconst (v := -1) hx hb dX6_cutoff_42 (by decide) ?_
      refine lv_icmp_ne (tgt := 48) hx hb dX6_cutoff_43 (by decide) (fun c12 => ?_) (fun c12 => ?_)
      · replace hp := oF c12 hp
        refine lv_iload_n hx hb dX6_cutoff_48 rfl (lv_at hl 3 rfl) ?_
        refine lv_if_ne (tgt := 62) hx hb dX6_cutoff_49 (by decide) (fun c13 => ?_) (fun c13 => ?_)
        · replace hp := oF c13 hp
          refine lv_iload_n hx hb dX6_cutoff_62 rfl (lv_at hl 3 rfl) ?_
          refine lv_iconst (v := 1) hx hb dX6_cutoff_63 (by decide) ?_
          refine lv_icmp_ne (tgt := 79) hx hb dX6_cutoff_64 (by decide) (fun c14 => ?_) (fun c14 => ?_)
          · replace hp := oF c14 hp
            refine lv_aload_n hx hb dX6_cutoff_79 rfl (lv_at hl 1 rfl) ?_
            obtain ⟨v15, hv15, hp⟩ := ob hp
            refine mr_getR C0 cbX6 hM 3 (by decide) tw_282 hv15 dX6_cutoff_80 ?_
            obtain ⟨v16, hv16, hp⟩ := ob hp
            refine mr_getR C0 cbX2 hM 14 (by decide) tw_151 hv16 dX6_cutoff_83 ?_
            refine lv_iload_n hx hb dX6_cutoff_86 rfl (lv_at hl 0 rfl) ?_
            obtain ⟨v17, hv17, hp⟩ := ob hp
            refine mr_iald C0 hM hv17 dX6_cutoff_87 ?_
            exact mx_iret C0 hr hlk hM rfl (by rw [← Option.some.inj hp]; rfl) (by decide) (by decide) dX6_cutoff_88
          · replace hp := oT c14 hp
            refine lv_aload_n hx hb dX6_cutoff_67 rfl (lv_at hl 1 rfl) ?_
            obtain ⟨v18, hv18, hp⟩ := ob hp
            refine mr_getR C0 cbX6 hM 3 (by decide) tw_282 hv18 dX6_cutoff_68 ?_
            refine lv_iload_n hx hb dX6_cutoff_71 rfl (lv_at hl 0 rfl) ?_
            refine lv_iload_n hx hb dX6_cutoff_72 rfl (lv_at hl 2 rfl) ?_
            obtain ⟨_, h19, hp⟩ := ob hp
            obtain ⟨v20, hv20, hp⟩ := ob hp
            refine mg_V1 (As := [.int v11, .int a1]) (rest := []) C0 cbX2 hM h19 rfl (w_X2_squareWay hG hv20) tw_694 tw_579 tw_580 tw_3 tw_581 yk_X2_squareWay (by decide) rfl hl.1 (Nat.le_of_ble_eq_true rfl) dX6_cutoff_73 rfl (fun H locs hM => ?_)
            refine lv_goto (tgt := 88) hx hb dX6_cutoff_76 (by decide) ?_
            exact mx_iret C0 hr hlk hM rfl (by rw [← Option.some.inj hp]; rfl) (by decide) (by decide) dX6_cutoff_88
        · replace hp := oT c13 hp
          refine lv_aload_n hx hb dX6_cutoff_52 rfl (lv_at hl 1 rfl) ?_
          obtain ⟨v21, hv21, hp⟩ := ob hp
          refine mr_getR C0 cbX6 hM 3 (by decide) tw_282 hv21 dX6_cutoff_53 ?_
          refine lv_iload_n hx hb dX6_cutoff_56 rfl (lv_at hl 0 rfl) ?_
          refine lv_iload_n hx hb dX6_cutoff_57 rfl (lv_at hl 2 rfl) ?_
          obtain ⟨_, h22, hp⟩ := ob hp
          obtain ⟨v23, hv23, hp⟩ := ob hp
          refine mg_V1 (As := [.int v11, .int a1]) (rest := []) C0 cbX2 hM h22 rfl (w_X2_rankClass hG hv23) tw_909 tw_568 tw_569 tw_3 tw_570 yk_X2_rankClass (by decide) rfl hl.1 (Nat.le_of_ble_eq_true rfl) dX6_cutoff_58 rfl (fun H locs hM => ?_)
          exact mx_iret C0 hr hlk hM rfl (by rw [← Option.some.inj hp]; rfl) (by decide) (by decide) dX6_cutoff_61
      · replace hp := oT c12 hp
        refine lv_iconst (v := -1) hx hb dX6_cutoff_46 (by decide) ?_
        exact mx_iret C0 hr hlk hM rfl (by rw [← Option.some.inj hp]; rfl) (by decide) (by decide) dX6_cutoff_47
    · replace hp := oF c5 hp
      exact mx_throwS (text := "no such property of a child") (rest := []) C0 hY hlf hlk hno hM xk_134 (by decide +kernel) rfl hl.1 (by rw [← Option.some.inj hp]; rfl) dX6_cutoff_14 dX6_cutoff_17 dX6_cutoff_18 dX6_cutoff_20 dX6_cutoff_23 ⟨⟨by decide, Nat.le_of_ble_eq_true rfl⟩, by decide, by decide⟩ (by decide) (by decide)
abbrev rm_X6_nearest : Room := { frames := 7, cells := 1, slots := 6, locals := 111 }
def pl_X6_nearest_9 (k1 : Int32 → Option ((Int32) ⊕ String)) (f0 : Nat) (f1 : Int32) (M : Mem) : Nat → Int32 → Int32 → Option ((Int32) ⊕ String)
  | 0, _, _ => none
  | n + 1, y2, y3 =>
    (Option.bind (gR 5 3 M f0) fun v4 =>
    (Option.bind (gR 2 0 M v4) fun v5 =>
    (Option.bind (gI 4 0 M v5) fun v6 =>
    (if v6 ≤ y3 then
     (k1 y2)
    else
     (jn (fun (_ : Unit) =>
      (pl_X6_nearest_9 k1 f0 f1 M n y3 (y3 + (1 : Int32)))
     ) fun k8 =>
     (if y2 = (-1 : Int32) then
      (k8 ())
     else
      (Option.bind (gR 5 3 M f0) fun v10 =>
      (Option.bind (isC 2 M v10) fun _ =>
      (Option.bind (p_X2_squareWay v10 f1 y3 M) fun v12 =>
      (Option.bind (gR 5 3 M f0) fun v13 =>
      (Option.bind (isC 2 M v13) fun _ =>
      (Option.bind (p_X2_squareWay v13 f1 y2 M) fun v15 =>
      (if v15 ≤ v12 then
       (pl_X6_nearest_9 k1 f0 f1 M n y2 (y3 + (1 : Int32)))
      else
       (k8 ())
      )
      )
      )
      )
      )
      )
      )
     )
     )
    )
    )
    )
    )
set_option maxHeartbeats 4000000 in
set_option maxRecDepth 100000 in
theorem wl_X6_nearest_9 {G : gG} {p : Program} {l : Launch} {e : Env} {s : State} {m : MethodId} {args : Array Value} {below : List Frame} {meth : Method} {c : Code} {A : Nat → Prop} {Mi : Mem} {out : (Int32) ⊕ String} {k1 : Int32 → Option ((Int32) ⊕ String)} {f0 : Nat} {f1 : Int32} {M : Mem} (C0 : cx G p s m args c cX6_nearest RX6 4 A) (hr : meth.sig.returnType = (some FieldType.int)) (hlk : meth.locks = false) (hG : GOK G) (hY : GY G) (hlf : l.stackTraces = false) (hno : ∀ x ∈ c.exceptionTable.toList, False) (hk1 : ∀ (z2 : Int32) (H : Heap) (locs : List Loc) (ls : Array Slot), mm G A s M H locs → lv_has ls 4 [(2, .int z2)] → k1 z2 = some out → W p l e rm_X6_nearest s m args below meth c H locs 1 6 (vx_MQ below (XQ G Mi A (sm (fun r => (some (.int r), Mi)) out)) (XX G Mi A (sm (fun r => (some (.int r), Mi)) out)) args s 1 6 A) (F0 m 57 ls [])) : ∀ (n : Nat) (y2 : Int32) (y3 : Int32) (H : Heap) (locs : List Loc) (ls : Array Slot), mm G A s M H locs → lv_has ls 4 [(0, .ref f0), (1, .int f1), (2, .int y2), (3, .int y3)] → pl_X6_nearest_9 k1 f0 f1 M n y2 y3 = some out → W p l e rm_X6_nearest s m args below meth c H locs 1 6 (vx_MQ below (XQ G Mi A (sm (fun r => (some (.int r), Mi)) out)) (XX G Mi A (sm (fun r => (some (.int r), Mi)) out)) args s 1 6 A) (F0 m 9 ls []) := by
  have hx := C0.1
  have hb := C0.2.1
  have hown := C0.2.2.2.1
  have hts := C0.2.2.2.2.1
  intro n
  induction n with
  | zero => intro y2 y3 H locs ls hM hl hp; rw [pl_X6_nearest_9] at hp; cases hp
  | succ n ih =>
    intro y2 y3 H locs ls hM hl hp
    rw [pl_X6_nearest_9] at hp
    refine lv_iload_n hx hb dX6_nearest_9 rfl (lv_at hl 3 rfl) ?_
    refine lv_aload_n hx hb dX6_nearest_10 rfl (lv_at hl 0 rfl) ?_
    obtain ⟨v4, hv4, hp⟩ := ob hp
    refine mr_getR C0 cbX6 hM 3 (by decide) tw_282 hv4 dX6_nearest_11 ?_
    obtain ⟨v5, hv5, hp⟩ := ob hp
    refine mr_getR C0 cbX2 hM 0 (by decide) tw_115 hv5 dX6_nearest_14 ?_
    obtain ⟨v6, hv6, hp⟩ := ob hp
    refine mr_getI C0 cbX4 hM 0 (by decide) tw_50 hv6 dX6_nearest_17 ?_
    refine lv_icmp_ge (tgt := 57) hx hb dX6_nearest_20 (by decide) (fun c7 => ?_) (fun c7 => ?_)
    · replace hp := oT c7 hp
      exact hk1 _ _ _ _ hM (lv_sub hl [2] rfl) hp
    · replace hp := oF c7 hp
      refine lv_iload_n hx hb dX6_nearest_23 rfl (lv_at hl 2 rfl) ?_
      refine lv_iconst (v := -1) hx hb dX6_nearest_24 (by decide) ?_
      obtain ⟨k8, ek8, hp⟩ := ojn hp
      have hk8 : ∀ (H : Heap) (locs : List Loc) (ls : Array Slot), mm G A s M H locs → lv_has ls 4 [(0, .ref f0), (1, .int f1), (3, .int y3)] → k8 () = some out → W p l e rm_X6_nearest s m args below meth c H locs 1 6 (vx_MQ below (XQ G Mi A (sm (fun r => (some (.int r), Mi)) out)) (XX G Mi A (sm (fun r => (some (.int r), Mi)) out)) args s 1 6 A) (F0 m 49 ls []) := by
        intro  H locs ls hM hl hp
        rw [ek8] at hp
        refine lv_iload_n hx hb dX6_nearest_49 rfl (lv_at hl 2 rfl) ?_
        refine lv_istore_n (lv' := [(2, .int y3), (0, .ref f0), (1, .int f1), (3, .int y3)]) hx hb dX6_nearest_50 rfl hl (by decide) rfl (fun ls hl => ?_)
        refine lv_iinc (v := (y3 + (1 : Int32))) (lv' := [(3, .int (y3 + (1 : Int32))), (2, .int y3), (0, .ref f0), (1, .int f1)]) hx hb dX6_nearest_51 hl (k := 3) rfl rfl (by decide) rfl (fun ls hl => ?_)
        refine lv_goto (tgt := 9) hx hb dX6_nearest_54 (by decide) ?_
        exact ih _ _ _ _ _ hM (lv_sub hl [2, 3, 1, 0] rfl) hp
      refine lv_icmp_eq (tgt := 49) hx hb dX6_nearest_25 (by decide) (fun c9 => ?_) (fun c9 => ?_)
      · replace hp := oT c9 hp
        exact hk8  _ _ _ hM (lv_sub hl [0, 1, 3] rfl) hp
      · replace hp := oF c9 hp
        refine lv_aload_n hx hb dX6_nearest_28 rfl (lv_at hl 0 rfl) ?_
        obtain ⟨v10, hv10, hp⟩ := ob hp
        refine mr_getR C0 cbX6 hM 3 (by decide) tw_282 hv10 dX6_nearest_29 ?_
        refine lv_iload_n hx hb dX6_nearest_32 rfl (lv_at hl 1 rfl) ?_
        refine lv_iload_n hx hb dX6_nearest_33 rfl (lv_at hl 3 rfl) ?_
        obtain ⟨_, h11, hp⟩ := ob hp
        obtain ⟨v12, hv12, hp⟩ := ob hp
        refine mg_V1 (As := [.int f1, .int y3]) (rest := []) C0 cbX2 hM h11 rfl (w_X2_squareWay hG hv12) tw_694 tw_579 tw_580 tw_3 tw_581 yk_X2_squareWay (by decide) rfl hl.1 (Nat.le_of_ble_eq_true rfl) dX6_nearest_34 rfl (fun H locs hM => ?_)
        refine lv_aload_n hx hb dX6_nearest_37 rfl (lv_at hl 0 rfl) ?_
        obtain ⟨v13, hv13, hp⟩ := ob hp
        refine mr_getR C0 cbX6 hM 3 (by decide) tw_282 hv13 dX6_nearest_38 ?_
        refine lv_iload_n hx hb dX6_nearest_41 rfl (lv_at hl 1 rfl) ?_
        refine lv_iload_n hx hb dX6_nearest_42 rfl (lv_at hl 2 rfl) ?_
        obtain ⟨_, h14, hp⟩ := ob hp
        obtain ⟨v15, hv15, hp⟩ := ob hp
        refine mg_V1 (As := [.int f1, .int y2]) (rest := [.int v12]) C0 cbX2 hM h14 rfl (w_X2_squareWay hG hv15) tw_694 tw_579 tw_580 tw_3 tw_581 yk_X2_squareWay (by decide) rfl hl.1 (Nat.le_of_ble_eq_true rfl) dX6_nearest_43 rfl (fun H locs hM => ?_)
        refine lv_icmp_ge (tgt := 51) hx hb dX6_nearest_46 (by decide) (fun c16 => ?_) (fun c16 => ?_)
        · replace hp := oT c16 hp
          refine lv_iinc (v := (y3 + (1 : Int32))) (lv' := [(3, .int (y3 + (1 : Int32))), (0, .ref f0), (1, .int f1), (2, .int y2)]) hx hb dX6_nearest_51 hl (k := 3) rfl rfl (by decide) rfl (fun ls hl => ?_)
          refine lv_goto (tgt := 9) hx hb dX6_nearest_54 (by decide) ?_
          exact ih _ _ _ _ _ hM (lv_sub hl [1, 2, 3, 0] rfl) hp
        · replace hp := oF c16 hp
          exact hk8  _ _ _ hM (lv_sub hl [0, 1, 3] rfl) hp
def p_X6_nearest (a0 : Nat) (a1 : Int32) (Mi : Mem) : Option ((Int32) ⊕ String) :=
  (Option.bind (isC 5 Mi a0) fun _ =>
  (obx (p_X6_needChild a0 a1 Mi) fun v2 =>
  (pl_X6_nearest_9
   (fun (z17 : Int32) =>
    some (.inl z17)
   )
   a0 a1 Mi FU (-1 : Int32) (0 : Int32))
  ))
theorem yk_X6_nearest : yok yX6_nearest 1 := by decide +kernel
set_option maxHeartbeats 4000000 in
set_option maxRecDepth 100000 in
theorem w_X6_nearest {G : gG} (hG : GOK G) (hY : GY G) {l : Launch} (hlf : l.stackTraces = false) {a0 : Nat} {a1 : Int32} {Mi : Mem} {out : (Int32) ⊕ String} (hp : p_X6_nearest a0 a1 Mi = some out) : CX G l yX6_nearest (wT yX6_nearest cX6_nearest 4 (some FieldType.int)) rm_X6_nearest [.ref a0, .int a1] Mi (sm (fun r => (some (.int r), Mi)) out) 1 6 := by
  refine CX_of (own := RX6) (maxL := 4) (ret := (some FieldType.int)) hG (by decide) rfl (Nat.le_of_ble_eq_true rfl) (fun p e s m below meth c A C0 hr hlk hno hM ls hl => ?_)
  have hl : lv_has ls 4 [(0, .ref a0), (1, .int a1)] := hl
  generalize ([.ref a0, .int a1] : List Value).toArray = args at C0 ⊢
  skip
  have hx := C0.1
  have hb := C0.2.1
  have hown := C0.2.2.2.1
  have hts := C0.2.2.2.2.1
  unfold p_X6_nearest at hp
  refine lv_aload_n hx hb dX6_nearest_0 rfl (lv_at hl 0 rfl) ?_
  refine lv_iload_n hx hb dX6_nearest_1 rfl (lv_at hl 1 rfl) ?_
  obtain ⟨_, h1, hp⟩ := ob hp
  rcases obx_at hp with ⟨E3, hv2, hp⟩ | ⟨v2, hv2, hp⟩
  · exact mx_V_x (As := [.int a1]) (rest := []) C0 hno hlk cbX6 hM h1 rfl (w_X6_needChild hG hY hlf hv2) tw_865 tw_867 tws_3 tw_1 tw_868 yk_X6_needChild (by decide) rfl hl.1 (Nat.le_of_ble_eq_true rfl) dX6_nearest_2 rfl (by rw [hp]; rfl) (by decide) (by decide)
  refine mx_V_0 (As := [.int a1]) (rest := []) C0 cbX6 hM h1 rfl (w_X6_needChild hG hY hlf hv2) tw_865 tw_867 tws_3 tw_1 tw_868 yk_X6_needChild (by decide) rfl hl.1 (Nat.le_of_ble_eq_true rfl) dX6_nearest_2 rfl (fun H locs hM => ?_)
  refine lv_iconst (v := -1) hx hb dX6_nearest_5 (by decide) ?_
  refine lv_istore_n (lv' := [(2, .int (-1 : Int32)), (0, .ref a0), (1, .int a1)]) hx hb dX6_nearest_6 rfl hl (by decide) rfl (fun ls hl => ?_)
  refine lv_iconst (v := 0) hx hb dX6_nearest_7 (by decide) ?_
  refine lv_istore_n (lv' := [(3, .int (0 : Int32)), (2, .int (-1 : Int32)), (0, .ref a0), (1, .int a1)]) hx hb dX6_nearest_8 rfl hl (by decide) rfl (fun ls hl => ?_)
  refine wl_X6_nearest_9 C0 hr hlk hG hY hlf hno (fun z17 H locs ls hM hl hp => ?_) FU _ _ _ _ _ hM (lv_sub hl [2, 3, 1, 0] rfl) hp
  refine lv_iload_n hx hb dX6_nearest_57 rfl (lv_at hl 0 rfl) ?_
  exact mx_iret C0 hr hlk hM rfl (by rw [← Option.some.inj hp]; rfl) (by decide) (by decide) dX6_nearest_58
abbrev rm_X6_tradePartner : Room := { frames := 7, cells := 1, slots := 6, locals := 111 }
def pl_X6_tradePartner_7 (k1 : Int32 → Option ((Int32) ⊕ String)) (k2 : Unit → Option ((Int32) ⊕ String)) (f0 : Nat) (f1 : Int32) (M : Mem) : Nat → Int32 → Option ((Int32) ⊕ String)
  | 0, _ => none
  | n + 1, y2 =>
    (Option.bind (gR 5 3 M f0) fun v4 =>
    (Option.bind (gI 2 1 M v4) fun v5 =>
    (if v5 ≤ y2 then
     (k2 ())
    else
     (Option.bind (gR 5 3 M f0) fun v7 =>
     (Option.bind (isC 2 M v7) fun _ =>
     (Option.bind (p_X2_wouldTrade v7 f1 y2 M) fun v9 =>
     (if v9 = 0 then
      (pl_X6_tradePartner_7 k1 k2 f0 f1 M n (y2 + (1 : Int32)))
     else
      (k1 y2)
     )
     )
     )
     )
    )
    )
    )
set_option maxHeartbeats 4000000 in
set_option maxRecDepth 100000 in
theorem wl_X6_tradePartner_7 {G : gG} {p : Program} {l : Launch} {e : Env} {s : State} {m : MethodId} {args : Array Value} {below : List Frame} {meth : Method} {c : Code} {A : Nat → Prop} {Mi : Mem} {out : (Int32) ⊕ String} {k1 : Int32 → Option ((Int32) ⊕ String)} {k2 : Unit → Option ((Int32) ⊕ String)} {f0 : Nat} {f1 : Int32} {M : Mem} (C0 : cx G p s m args c cX6_tradePartner RX6 3 A) (hr : meth.sig.returnType = (some FieldType.int)) (hlk : meth.locks = false) (hG : GOK G) (hY : GY G) (hlf : l.stackTraces = false) (hno : ∀ x ∈ c.exceptionTable.toList, False) (hk1 : ∀ (z2 : Int32) (H : Heap) (locs : List Loc) (ls : Array Slot), mm G A s M H locs → lv_has ls 3 [(2, .int z2)] → k1 z2 = some out → W p l e rm_X6_tradePartner s m args below meth c H locs 1 6 (vx_MQ below (XQ G Mi A (sm (fun r => (some (.int r), Mi)) out)) (XX G Mi A (sm (fun r => (some (.int r), Mi)) out)) args s 1 6 A) (F0 m 30 ls [])) (hk2 : ∀ (H : Heap) (locs : List Loc) (ls : Array Slot), mm G A s M H locs → lv_has ls 3 [] → k2 () = some out → W p l e rm_X6_tradePartner s m args below meth c H locs 1 6 (vx_MQ below (XQ G Mi A (sm (fun r => (some (.int r), Mi)) out)) (XX G Mi A (sm (fun r => (some (.int r), Mi)) out)) args s 1 6 A) (F0 m 38 ls [])) : ∀ (n : Nat) (y2 : Int32) (H : Heap) (locs : List Loc) (ls : Array Slot), mm G A s M H locs → lv_has ls 3 [(0, .ref f0), (1, .int f1), (2, .int y2)] → pl_X6_tradePartner_7 k1 k2 f0 f1 M n y2 = some out → W p l e rm_X6_tradePartner s m args below meth c H locs 1 6 (vx_MQ below (XQ G Mi A (sm (fun r => (some (.int r), Mi)) out)) (XX G Mi A (sm (fun r => (some (.int r), Mi)) out)) args s 1 6 A) (F0 m 7 ls []) := by
  have hx := C0.1
  have hb := C0.2.1
  have hown := C0.2.2.2.1
  have hts := C0.2.2.2.2.1
  intro n
  induction n with
  | zero => intro y2 H locs ls hM hl hp; rw [pl_X6_tradePartner_7] at hp; cases hp
  | succ n ih =>
    intro y2 H locs ls hM hl hp
    rw [pl_X6_tradePartner_7] at hp
    refine lv_iload_n hx hb dX6_tradePartner_7 rfl (lv_at hl 2 rfl) ?_
    refine lv_aload_n hx hb dX6_tradePartner_8 rfl (lv_at hl 0 rfl) ?_
    obtain ⟨v4, hv4, hp⟩ := ob hp
    refine mr_getR C0 cbX6 hM 3 (by decide) tw_282 hv4 dX6_tradePartner_9 ?_
    obtain ⟨v5, hv5, hp⟩ := ob hp
    refine mr_getI C0 cbX2 hM 1 (by decide) tw_121 hv5 dX6_tradePartner_12 ?_
    refine lv_icmp_ge (tgt := 38) hx hb dX6_tradePartner_15 (by decide) (fun c6 => ?_) (fun c6 => ?_)
    · replace hp := oT c6 hp
      exact hk2  _ _ _ hM (lv_sub hl [] rfl) hp
    · replace hp := oF c6 hp
      refine lv_aload_n hx hb dX6_tradePartner_18 rfl (lv_at hl 0 rfl) ?_
      obtain ⟨v7, hv7, hp⟩ := ob hp
      refine mr_getR C0 cbX6 hM 3 (by decide) tw_282 hv7 dX6_tradePartner_19 ?_
      refine lv_iload_n hx hb dX6_tradePartner_22 rfl (lv_at hl 1 rfl) ?_
      refine lv_iload_n hx hb dX6_tradePartner_23 rfl (lv_at hl 2 rfl) ?_
      obtain ⟨_, h8, hp⟩ := ob hp
      obtain ⟨v9, hv9, hp⟩ := ob hp
      refine mg_V1 (As := [.int f1, .int y2]) (rest := []) C0 cbX2 hM h8 rfl (w_X2_wouldTrade hG hv9) tw_686 tw_687 tw_688 tw_3 tw_689 yk_X2_wouldTrade (by decide) rfl hl.1 (Nat.le_of_ble_eq_true rfl) dX6_tradePartner_24 rfl (fun H locs hM => ?_)
      refine lv_if_eq (tgt := 32) hx hb dX6_tradePartner_27 (by decide) (fun c10 => ?_) (fun c10 => ?_)
      · replace hp := oT c10 hp
        refine lv_iinc (v := (y2 + (1 : Int32))) (lv' := [(2, .int (y2 + (1 : Int32))), (0, .ref f0), (1, .int f1)]) hx hb dX6_tradePartner_32 hl (k := 2) rfl rfl (by decide) rfl (fun ls hl => ?_)
        refine lv_goto (tgt := 7) hx hb dX6_tradePartner_35 (by decide) ?_
        exact ih _ _ _ _ hM (lv_sub hl [1, 2, 0] rfl) hp
      · replace hp := oF c10 hp
        exact hk1 _ _ _ _ hM (lv_sub hl [2] rfl) hp
def p_X6_tradePartner (a0 : Nat) (a1 : Int32) (Mi : Mem) : Option ((Int32) ⊕ String) :=
  (Option.bind (isC 5 Mi a0) fun _ =>
  (obx (p_X6_needChild a0 a1 Mi) fun v2 =>
  (pl_X6_tradePartner_7
   (fun (z11 : Int32) =>
    some (.inl z11)
   )
   (fun (_ : Unit) =>
    some (.inl (-1 : Int32))
   )
   a0 a1 Mi FU (0 : Int32))
  ))
theorem yk_X6_tradePartner : yok yX6_tradePartner 1 := by decide +kernel
set_option maxHeartbeats 4000000 in
set_option maxRecDepth 100000 in
theorem w_X6_tradePartner {G : gG} (hG : GOK G) (hY : GY G) {l : Launch} (hlf : l.stackTraces = false) {a0 : Nat} {a1 : Int32} {Mi : Mem} {out : (Int32) ⊕ String} (hp : p_X6_tradePartner a0 a1 Mi = some out) : CX G l yX6_tradePartner (wT yX6_tradePartner cX6_tradePartner 3 (some FieldType.int)) rm_X6_tradePartner [.ref a0, .int a1] Mi (sm (fun r => (some (.int r), Mi)) out) 1 6 := by
  refine CX_of (own := RX6) (maxL := 3) (ret := (some FieldType.int)) hG (by decide) rfl (Nat.le_of_ble_eq_true rfl) (fun p e s m below meth c A C0 hr hlk hno hM ls hl => ?_)
  have hl : lv_has ls 3 [(0, .ref a0), (1, .int a1)] := hl
  generalize ([.ref a0, .int a1] : List Value).toArray = args at C0 ⊢
  skip
  have hx := C0.1
  have hb := C0.2.1
  have hown := C0.2.2.2.1
  have hts := C0.2.2.2.2.1
  unfold p_X6_tradePartner at hp
  refine lv_aload_n hx hb dX6_tradePartner_0 rfl (lv_at hl 0 rfl) ?_
  refine lv_iload_n hx hb dX6_tradePartner_1 rfl (lv_at hl 1 rfl) ?_
  obtain ⟨_, h1, hp⟩ := ob hp
  rcases obx_at hp with ⟨E3, hv2, hp⟩ | ⟨v2, hv2, hp⟩
  · exact mx_V_x (As := [.int a1]) (rest := []) C0 hno hlk cbX6 hM h1 rfl (w_X6_needChild hG hY hlf hv2) tw_865 tw_867 tws_3 tw_1 tw_868 yk_X6_needChild (by decide) rfl hl.1 (Nat.le_of_ble_eq_true rfl) dX6_tradePartner_2 rfl (by rw [hp]; rfl) (by decide) (by decide)
  refine mx_V_0 (As := [.int a1]) (rest := []) C0 cbX6 hM h1 rfl (w_X6_needChild hG hY hlf hv2) tw_865 tw_867 tws_3 tw_1 tw_868 yk_X6_needChild (by decide) rfl hl.1 (Nat.le_of_ble_eq_true rfl) dX6_tradePartner_2 rfl (fun H locs hM => ?_)
  refine lv_iconst (v := 0) hx hb dX6_tradePartner_5 (by decide) ?_
  refine lv_istore_n (lv' := [(2, .int (0 : Int32)), (0, .ref a0), (1, .int a1)]) hx hb dX6_tradePartner_6 rfl hl (by decide) rfl (fun ls hl => ?_)
  refine wl_X6_tradePartner_7 C0 hr hlk hG hY hlf hno (fun z11 H locs ls hM hl hp => ?_) (fun  H locs ls hM hl hp => ?_) FU _ _ _ _ hM (lv_sub hl [1, 2, 0] rfl) hp
  · refine lv_iload_n hx hb dX6_tradePartner_30 rfl (lv_at hl 0 rfl) ?_
    exact mx_iret C0 hr hlk hM rfl (by rw [← Option.some.inj hp]; rfl) (by decide) (by decide) dX6_tradePartner_31
  · refine lv_iconst (v := -1) hx hb dX6_tradePartner_38 (by decide) ?_
    exact mx_iret C0 hr hlk hM rfl (by rw [← Option.some.inj hp]; rfl) (by decide) (by decide) dX6_tradePartner_39
abbrev rm_X6_holdersOfClass : Room := { frames := 7, cells := 1, slots := 6, locals := 111 }
def pl_X6_holdersOfClass_10 (k1 : Int32 → Option ((Int32) ⊕ String)) (f0 : Nat) (f1 : Int32) (f2 : Int32) (M : Mem) : Nat → Int32 → Int32 → Option ((Int32) ⊕ String)
  | 0, _, _ => none
  | n + 1, y3, y4 =>
    (Option.bind (gR 5 3 M f0) fun v4 =>
    (Option.bind (gI 2 1 M v4) fun v5 =>
    (if v5 ≤ y4 then
     (k1 y3)
    else
     (Option.bind (gR 5 3 M f0) fun v7 =>
     (Option.bind (gR 2 16 M v7) fun v8 =>
     (Option.bind (aI 0 M v8 y4) fun v9 =>
     (if v9 = f1 then
      (Option.bind (gR 5 3 M f0) fun v11 =>
      (Option.bind (isC 2 M v11) fun _ =>
      (Option.bind (p_X2_rankClass v11 y4 f1 M) fun v13 =>
      (if v13 = f2 then
       (pl_X6_holdersOfClass_10 k1 f0 f1 f2 M n (y3 + (1 : Int32)) (y4 + (1 : Int32)))
      else
       (pl_X6_holdersOfClass_10 k1 f0 f1 f2 M n y3 (y4 + (1 : Int32)))
      )
      )
      )
      )
     else
      (pl_X6_holdersOfClass_10 k1 f0 f1 f2 M n y3 (y4 + (1 : Int32)))
     )
     )
     )
     )
    )
    )
    )
set_option maxHeartbeats 4000000 in
set_option maxRecDepth 100000 in
theorem wl_X6_holdersOfClass_10 {G : gG} {p : Program} {l : Launch} {e : Env} {s : State} {m : MethodId} {args : Array Value} {below : List Frame} {meth : Method} {c : Code} {A : Nat → Prop} {Mi : Mem} {out : (Int32) ⊕ String} {k1 : Int32 → Option ((Int32) ⊕ String)} {f0 : Nat} {f1 : Int32} {f2 : Int32} {M : Mem} (C0 : cx G p s m args c cX6_holdersOfClass RX6 5 A) (hr : meth.sig.returnType = (some FieldType.int)) (hlk : meth.locks = false) (hG : GOK G) (hY : GY G) (hlf : l.stackTraces = false) (hno : ∀ x ∈ c.exceptionTable.toList, False) (hk1 : ∀ (z3 : Int32) (H : Heap) (locs : List Loc) (ls : Array Slot), mm G A s M H locs → lv_has ls 5 [(3, .int z3)] → k1 z3 = some out → W p l e rm_X6_holdersOfClass s m args below meth c H locs 1 6 (vx_MQ below (XQ G Mi A (sm (fun r => (some (.int r), Mi)) out)) (XX G Mi A (sm (fun r => (some (.int r), Mi)) out)) args s 1 6 A) (F0 m 59 ls [])) : ∀ (n : Nat) (y3 : Int32) (y4 : Int32) (H : Heap) (locs : List Loc) (ls : Array Slot), mm G A s M H locs → lv_has ls 5 [(0, .ref f0), (1, .int f1), (2, .int f2), (3, .int y3), (4, .int y4)] → pl_X6_holdersOfClass_10 k1 f0 f1 f2 M n y3 y4 = some out → W p l e rm_X6_holdersOfClass s m args below meth c H locs 1 6 (vx_MQ below (XQ G Mi A (sm (fun r => (some (.int r), Mi)) out)) (XX G Mi A (sm (fun r => (some (.int r), Mi)) out)) args s 1 6 A) (F0 m 10 ls []) := by
  have hx := C0.1
  have hb := C0.2.1
  have hown := C0.2.2.2.1
  have hts := C0.2.2.2.2.1
  intro n
  induction n with
  | zero => intro y3 y4 H locs ls hM hl hp; rw [pl_X6_holdersOfClass_10] at hp; cases hp
  | succ n ih =>
    intro y3 y4 H locs ls hM hl hp
    rw [pl_X6_holdersOfClass_10] at hp
    refine lv_iload hx hb dX6_holdersOfClass_10 (lv_at hl 4 rfl) ?_
    refine lv_aload_n hx hb dX6_holdersOfClass_12 rfl (lv_at hl 0 rfl) ?_
    obtain ⟨v4, hv4, hp⟩ := ob hp
    refine mr_getR C0 cbX6 hM 3 (by decide) tw_282 hv4 dX6_holdersOfClass_13 ?_
    obtain ⟨v5, hv5, hp⟩ := ob hp
    refine mr_getI C0 cbX2 hM 1 (by decide) tw_121 hv5 dX6_holdersOfClass_16 ?_
    refine lv_icmp_ge (tgt := 59) hx hb dX6_holdersOfClass_19 (by decide) (fun c6 => ?_) (fun c6 => ?_)
    · replace hp := oT c6 hp
      exact hk1 _ _ _ _ hM (lv_sub hl [3] rfl) hp
    · replace hp := oF c6 hp
      refine lv_aload_n hx hb dX6_holdersOfClass_22 rfl (lv_at hl 0 rfl) ?_
      obtain ⟨v7, hv7, hp⟩ := ob hp
      refine mr_getR C0 cbX6 hM 3 (by decide) tw_282 hv7 dX6_holdersOfClass_23 ?_
      obtain ⟨v8, hv8, hp⟩ := ob hp
      refine mr_getR C0 cbX2 hM 16 (by decide) tw_157 hv8 dX6_holdersOfClass_26 ?_
      refine lv_iload hx hb dX6_holdersOfClass_29 (lv_at hl 4 rfl) ?_
      obtain ⟨v9, hv9, hp⟩ := ob hp
      refine mr_iald C0 hM hv9 dX6_holdersOfClass_31 ?_
      refine lv_iload_n hx hb dX6_holdersOfClass_32 rfl (lv_at hl 1 rfl) ?_
      refine lv_icmp_ne (tgt := 53) hx hb dX6_holdersOfClass_33 (by decide) (fun c10 => ?_) (fun c10 => ?_)
      · replace hp := oF c10 hp
        refine lv_iinc (v := (y4 + (1 : Int32))) (lv' := [(4, .int (y4 + (1 : Int32))), (0, .ref f0), (1, .int f1), (2, .int f2), (3, .int y3)]) hx hb dX6_holdersOfClass_53 hl (k := 4) rfl rfl (by decide) rfl (fun ls hl => ?_)
        refine lv_goto (tgt := 10) hx hb dX6_holdersOfClass_56 (by decide) ?_
        exact ih _ _ _ _ _ hM (lv_sub hl [1, 2, 3, 4, 0] rfl) hp
      · replace hp := oT c10 hp
        refine lv_aload_n hx hb dX6_holdersOfClass_36 rfl (lv_at hl 0 rfl) ?_
        obtain ⟨v11, hv11, hp⟩ := ob hp
        refine mr_getR C0 cbX6 hM 3 (by decide) tw_282 hv11 dX6_holdersOfClass_37 ?_
        refine lv_iload hx hb dX6_holdersOfClass_40 (lv_at hl 4 rfl) ?_
        refine lv_iload_n hx hb dX6_holdersOfClass_42 rfl (lv_at hl 1 rfl) ?_
        obtain ⟨_, h12, hp⟩ := ob hp
        obtain ⟨v13, hv13, hp⟩ := ob hp
        refine mg_V1 (As := [.int y4, .int f1]) (rest := []) C0 cbX2 hM h12 rfl (w_X2_rankClass hG hv13) tw_909 tw_568 tw_569 tw_3 tw_570 yk_X2_rankClass (by decide) rfl hl.1 (Nat.le_of_ble_eq_true rfl) dX6_holdersOfClass_43 rfl (fun H locs hM => ?_)
        refine lv_iload_n hx hb dX6_holdersOfClass_46 rfl (lv_at hl 2 rfl) ?_
        refine lv_icmp_ne (tgt := 53) hx hb dX6_holdersOfClass_47 (by decide) (fun c14 => ?_) (fun c14 => ?_)
        · replace hp := oF c14 hp
          refine lv_iinc (v := (y4 + (1 : Int32))) (lv' := [(4, .int (y4 + (1 : Int32))), (0, .ref f0), (1, .int f1), (2, .int f2), (3, .int y3)]) hx hb dX6_holdersOfClass_53 hl (k := 4) rfl rfl (by decide) rfl (fun ls hl => ?_)
          refine lv_goto (tgt := 10) hx hb dX6_holdersOfClass_56 (by decide) ?_
          exact ih _ _ _ _ _ hM (lv_sub hl [1, 2, 3, 4, 0] rfl) hp
        · replace hp := oT c14 hp
          refine lv_iinc (v := (y3 + (1 : Int32))) (lv' := [(3, .int (y3 + (1 : Int32))), (0, .ref f0), (1, .int f1), (2, .int f2), (4, .int y4)]) hx hb dX6_holdersOfClass_50 hl (k := 3) rfl rfl (by decide) rfl (fun ls hl => ?_)
          refine lv_iinc (v := (y4 + (1 : Int32))) (lv' := [(4, .int (y4 + (1 : Int32))), (3, .int (y3 + (1 : Int32))), (0, .ref f0), (1, .int f1), (2, .int f2)]) hx hb dX6_holdersOfClass_53 hl (k := 4) rfl rfl (by decide) rfl (fun ls hl => ?_)
          refine lv_goto (tgt := 10) hx hb dX6_holdersOfClass_56 (by decide) ?_
          exact ih _ _ _ _ _ hM (lv_sub hl [2, 3, 4, 1, 0] rfl) hp
def p_X6_holdersOfClass (a0 : Nat) (a1 : Int32) (a2 : Int32) (Mi : Mem) : Option ((Int32) ⊕ String) :=
  (Option.bind (isC 5 Mi a0) fun _ =>
  (obx (p_X6_needSchool a0 a1 Mi) fun v2 =>
  (pl_X6_holdersOfClass_10
   (fun (z15 : Int32) =>
    some (.inl z15)
   )
   a0 a1 a2 Mi FU (0 : Int32) (0 : Int32))
  ))
theorem yk_X6_holdersOfClass : yok yX6_holdersOfClass 2 := by decide +kernel
set_option maxHeartbeats 4000000 in
set_option maxRecDepth 100000 in
theorem w_X6_holdersOfClass {G : gG} (hG : GOK G) (hY : GY G) {l : Launch} (hlf : l.stackTraces = false) {a0 : Nat} {a1 : Int32} {a2 : Int32} {Mi : Mem} {out : (Int32) ⊕ String} (hp : p_X6_holdersOfClass a0 a1 a2 Mi = some out) : CX G l yX6_holdersOfClass (wT yX6_holdersOfClass cX6_holdersOfClass 5 (some FieldType.int)) rm_X6_holdersOfClass [.ref a0, .int a1, .int a2] Mi (sm (fun r => (some (.int r), Mi)) out) 1 6 := by
  refine CX_of (own := RX6) (maxL := 5) (ret := (some FieldType.int)) hG (by decide) rfl (Nat.le_of_ble_eq_true rfl) (fun p e s m below meth c A C0 hr hlk hno hM ls hl => ?_)
  have hl : lv_has ls 5 [(0, .ref a0), (1, .int a1), (2, .int a2)] := hl
  generalize ([.ref a0, .int a1, .int a2] : List Value).toArray = args at C0 ⊢
  skip
  have hx := C0.1
  have hb := C0.2.1
  have hown := C0.2.2.2.1
  have hts := C0.2.2.2.2.1
  unfold p_X6_holdersOfClass at hp
  refine lv_aload_n hx hb dX6_holdersOfClass_0 rfl (lv_at hl 0 rfl) ?_
  refine lv_iload_n hx hb dX6_holdersOfClass_1 rfl (lv_at hl 1 rfl) ?_
  obtain ⟨_, h1, hp⟩ := ob hp
  rcases obx_at hp with ⟨E3, hv2, hp⟩ | ⟨v2, hv2, hp⟩
  · exact mx_V_x (As := [.int a1]) (rest := []) C0 hno hlk cbX6 hM h1 rfl (w_X6_needSchool hG hY hlf hv2) tw_808 tw_810 tws_2 tw_1 tw_811 yk_X6_needSchool (by decide) rfl hl.1 (Nat.le_of_ble_eq_true rfl) dX6_holdersOfClass_2 rfl (by rw [hp]; rfl) (by decide) (by decide)
  refine mx_V_0 (As := [.int a1]) (rest := []) C0 cbX6 hM h1 rfl (w_X6_needSchool hG hY hlf hv2) tw_808 tw_810 tws_2 tw_1 tw_811 yk_X6_needSchool (by decide) rfl hl.1 (Nat.le_of_ble_eq_true rfl) dX6_holdersOfClass_2 rfl (fun H locs hM => ?_)
  refine lv_iconst (v := 0) hx hb dX6_holdersOfClass_5 (by decide) ?_
  refine lv_istore_n (lv' := [(3, .int (0 : Int32)), (0, .ref a0), (1, .int a1), (2, .int a2)]) hx hb dX6_holdersOfClass_6 rfl hl (by decide) rfl (fun ls hl => ?_)
  refine lv_iconst (v := 0) hx hb dX6_holdersOfClass_7 (by decide) ?_
  refine lv_istore (lv' := [(4, .int (0 : Int32)), (3, .int (0 : Int32)), (0, .ref a0), (1, .int a1), (2, .int a2)]) hx hb dX6_holdersOfClass_8 hl (by decide) rfl (fun ls hl => ?_)
  refine wl_X6_holdersOfClass_10 C0 hr hlk hG hY hlf hno (fun z15 H locs ls hM hl hp => ?_) FU _ _ _ _ _ hM (lv_sub hl [2, 3, 4, 1, 0] rfl) hp
  refine lv_iload_n hx hb dX6_holdersOfClass_59 rfl (lv_at hl 0 rfl) ?_
  exact mx_iret C0 hr hlk hM rfl (by rw [← Option.some.inj hp]; rfl) (by decide) (by decide) dX6_holdersOfClass_60
abbrev rm_X6_siblings : Room := { frames := 7, cells := 1, slots := 6, locals := 111 }
def pl_X6_siblings_20 (k1 : Int64 → Option ((Int64) ⊕ String)) (f0 : Nat) (f1 : Int32) (f2 : Int32) (M : Mem) : Nat → Int64 → Int32 → Option ((Int64) ⊕ String)
  | 0, _, _ => none
  | n + 1, y3, y5 =>
    (Option.bind (gR 5 3 M f0) fun v7 =>
    (Option.bind (gI 2 1 M v7) fun v8 =>
    (if v8 ≤ y5 then
     (k1 y3)
    else
     (if f2 = 0 then
      (pl_X6_siblings_20 k1 f0 f1 f2 M n y3 (y5 + (1 : Int32)))
     else
      (if y5 = f1 then
       (pl_X6_siblings_20 k1 f0 f1 f2 M n y3 (y5 + (1 : Int32)))
      else
       (Option.bind (gR 5 3 M f0) fun v12 =>
       (Option.bind (gR 2 13 M v12) fun v13 =>
       (Option.bind (aI 0 M v13 y5) fun v14 =>
       (if v14 = f2 then
        (pl_X6_siblings_20 k1 f0 f1 f2 M n (y3 ||| ((1 : Int64) <<< (Int32.toInt64 y5 &&& 63))) (y5 + (1 : Int32)))
       else
        (pl_X6_siblings_20 k1 f0 f1 f2 M n y3 (y5 + (1 : Int32)))
       )
       )
       )
       )
      )
     )
    )
    )
    )
set_option maxHeartbeats 4000000 in
set_option maxRecDepth 100000 in
theorem wl_X6_siblings_20 {G : gG} {p : Program} {l : Launch} {e : Env} {s : State} {m : MethodId} {args : Array Value} {below : List Frame} {meth : Method} {c : Code} {A : Nat → Prop} {Mi : Mem} {out : (Int64) ⊕ String} {k1 : Int64 → Option ((Int64) ⊕ String)} {f0 : Nat} {f1 : Int32} {f2 : Int32} {M : Mem} (C0 : cx G p s m args c cX6_siblings RX6 6 A) (hr : meth.sig.returnType = (some FieldType.long)) (hlk : meth.locks = false) (hG : GOK G) (hY : GY G) (hlf : l.stackTraces = false) (hno : ∀ x ∈ c.exceptionTable.toList, False) (hk1 : ∀ (z3 : Int64) (H : Heap) (locs : List Loc) (ls : Array Slot), mm G A s M H locs → lv_has ls 6 [(0, .ref f0), (3, .long z3)] → k1 z3 = some out → W p l e rm_X6_siblings s m args below meth c H locs 1 6 (vx_MQ below (XQ G Mi A (sm (fun r => (some (.long r), Mi)) out)) (XX G Mi A (sm (fun r => (some (.long r), Mi)) out)) args s 1 6 A) (F0 m 69 ls [])) : ∀ (n : Nat) (y3 : Int64) (y5 : Int32) (H : Heap) (locs : List Loc) (ls : Array Slot), mm G A s M H locs → lv_has ls 6 [(0, .ref f0), (1, .int f1), (2, .int f2), (3, .long y3), (5, .int y5)] → pl_X6_siblings_20 k1 f0 f1 f2 M n y3 y5 = some out → W p l e rm_X6_siblings s m args below meth c H locs 1 6 (vx_MQ below (XQ G Mi A (sm (fun r => (some (.long r), Mi)) out)) (XX G Mi A (sm (fun r => (some (.long r), Mi)) out)) args s 1 6 A) (F0 m 20 ls []) := by
  have hx := C0.1
  have hb := C0.2.1
  have hown := C0.2.2.2.1
  have hts := C0.2.2.2.2.1
  intro n
  induction n with
  | zero => intro y3 y5 H locs ls hM hl hp; rw [pl_X6_siblings_20] at hp; cases hp
  | succ n ih =>
    intro y3 y5 H locs ls hM hl hp
    rw [pl_X6_siblings_20] at hp
    refine lv_iload hx hb dX6_siblings_20 (lv_at hl 4 rfl) ?_
    refine lv_aload_n hx hb dX6_siblings_22 rfl (lv_at hl 0 rfl) ?_
    obtain ⟨v7, hv7, hp⟩ := ob hp
    refine mr_getR C0 cbX6 hM 3 (by decide) tw_282 hv7 dX6_siblings_23 ?_
    obtain ⟨v8, hv8, hp⟩ := ob hp
    refine mr_getI C0 cbX2 hM 1 (by decide) tw_121 hv8 dX6_siblings_26 ?_
    refine lv_icmp_ge (tgt := 69) hx hb dX6_siblings_29 (by decide) (fun c9 => ?_) (fun c9 => ?_)
    · replace hp := oT c9 hp
      exact hk1 _ _ _ _ hM (lv_sub hl [0, 3] rfl) hp
    · replace hp := oF c9 hp
      refine lv_iload_n hx hb dX6_siblings_32 rfl (lv_at hl 2 rfl) ?_
      refine lv_if_eq (tgt := 63) hx hb dX6_siblings_33 (by decide) (fun c10 => ?_) (fun c10 => ?_)
      · replace hp := oT c10 hp
        refine lv_iinc (v := (y5 + (1 : Int32))) (lv' := [(5, .int (y5 + (1 : Int32))), (0, .ref f0), (1, .int f1), (2, .int f2), (3, .long y3)]) hx hb dX6_siblings_63 hl (k := 4) rfl rfl (by decide) rfl (fun ls hl => ?_)
        refine lv_goto (tgt := 20) hx hb dX6_siblings_66 (by decide) ?_
        exact ih _ _ _ _ _ hM (lv_sub hl [1, 2, 3, 4, 0] rfl) hp
      · replace hp := oF c10 hp
        refine lv_iload hx hb dX6_siblings_36 (lv_at hl 4 rfl) ?_
        refine lv_iload_n hx hb dX6_siblings_38 rfl (lv_at hl 1 rfl) ?_
        refine lv_icmp_eq (tgt := 63) hx hb dX6_siblings_39 (by decide) (fun c11 => ?_) (fun c11 => ?_)
        · replace hp := oT c11 hp
          refine lv_iinc (v := (y5 + (1 : Int32))) (lv' := [(5, .int (y5 + (1 : Int32))), (0, .ref f0), (1, .int f1), (2, .int f2), (3, .long y3)]) hx hb dX6_siblings_63 hl (k := 4) rfl rfl (by decide) rfl (fun ls hl => ?_)
          refine lv_goto (tgt := 20) hx hb dX6_siblings_66 (by decide) ?_
          exact ih _ _ _ _ _ hM (lv_sub hl [1, 2, 3, 4, 0] rfl) hp
        · replace hp := oF c11 hp
          refine lv_aload_n hx hb dX6_siblings_42 rfl (lv_at hl 0 rfl) ?_
          obtain ⟨v12, hv12, hp⟩ := ob hp
          refine mr_getR C0 cbX6 hM 3 (by decide) tw_282 hv12 dX6_siblings_43 ?_
          obtain ⟨v13, hv13, hp⟩ := ob hp
          refine mr_getR C0 cbX2 hM 13 (by decide) tw_149 hv13 dX6_siblings_46 ?_
          refine lv_iload hx hb dX6_siblings_49 (lv_at hl 4 rfl) ?_
          obtain ⟨v14, hv14, hp⟩ := ob hp
          refine mr_iald C0 hM hv14 dX6_siblings_51 ?_
          refine lv_iload_n hx hb dX6_siblings_52 rfl (lv_at hl 2 rfl) ?_
          refine lv_icmp_ne (tgt := 63) hx hb dX6_siblings_53 (by decide) (fun c15 => ?_) (fun c15 => ?_)
          · replace hp := oF c15 hp
            refine lv_iinc (v := (y5 + (1 : Int32))) (lv' := [(5, .int (y5 + (1 : Int32))), (0, .ref f0), (1, .int f1), (2, .int f2), (3, .long y3)]) hx hb dX6_siblings_63 hl (k := 4) rfl rfl (by decide) rfl (fun ls hl => ?_)
            refine lv_goto (tgt := 20) hx hb dX6_siblings_66 (by decide) ?_
            exact ih _ _ _ _ _ hM (lv_sub hl [1, 2, 3, 4, 0] rfl) hp
          · replace hp := oT c15 hp
            refine lv_lload_n hx hb dX6_siblings_56 rfl (lv_at hl 3 rfl) ?_
            refine lv_lconst (v := 1) hx hb dX6_siblings_57 (by decide) ?_
            refine lv_iload hx hb dX6_siblings_58 (lv_at hl 4 rfl) ?_
            refine lv_lshl (v := ((1 : Int64) <<< (Int32.toInt64 y5 &&& 63))) hx hb dX6_siblings_60 rfl ?_
            refine lv_lor hx hb dX6_siblings_61 ?_
            refine lv_lstore_n (lv' := [(3, .long (y3 ||| ((1 : Int64) <<< (Int32.toInt64 y5 &&& 63)))), (0, .ref f0), (1, .int f1), (2, .int f2), (5, .int y5)]) hx hb dX6_siblings_62 rfl hl (by decide) rfl (fun ls hl => ?_)
            refine lv_iinc (v := (y5 + (1 : Int32))) (lv' := [(5, .int (y5 + (1 : Int32))), (3, .long (y3 ||| ((1 : Int64) <<< (Int32.toInt64 y5 &&& 63)))), (0, .ref f0), (1, .int f1), (2, .int f2)]) hx hb dX6_siblings_63 hl (k := 4) rfl rfl (by decide) rfl (fun ls hl => ?_)
            refine lv_goto (tgt := 20) hx hb dX6_siblings_66 (by decide) ?_
            exact ih _ _ _ _ _ hM (lv_sub hl [2, 3, 4, 1, 0] rfl) hp
def p_X6_siblings (a0 : Nat) (a1 : Int32) (Mi : Mem) : Option ((Int64) ⊕ String) :=
  (Option.bind (isC 5 Mi a0) fun _ =>
  (obx (p_X6_needChild a0 a1 Mi) fun v2 =>
  (Option.bind (gR 5 3 Mi a0) fun v4 =>
  (Option.bind (gR 2 13 Mi v4) fun v5 =>
  (Option.bind (aI 0 Mi v5 a1) fun v6 =>
  (pl_X6_siblings_20
   (fun (z16 : Int64) =>
    (Option.bind (gR 5 3 Mi a0) fun v17 =>
    (Option.bind (gL 2 9 Mi v17) fun v18 =>
    some (.inl (z16 &&& (v18 ^^^ (-1 : Int64))))
    )
    )
   )
   a0 a1 v6 Mi FU (0 : Int64) (0 : Int32))
  )
  )
  )
  ))
theorem yk_X6_siblings : yok yX6_siblings 1 := by decide +kernel
set_option maxHeartbeats 4000000 in
set_option maxRecDepth 100000 in
theorem w_X6_siblings {G : gG} (hG : GOK G) (hY : GY G) {l : Launch} (hlf : l.stackTraces = false) {a0 : Nat} {a1 : Int32} {Mi : Mem} {out : (Int64) ⊕ String} (hp : p_X6_siblings a0 a1 Mi = some out) : CX G l yX6_siblings (wT yX6_siblings cX6_siblings 6 (some FieldType.long)) rm_X6_siblings [.ref a0, .int a1] Mi (sm (fun r => (some (.long r), Mi)) out) 1 6 := by
  refine CX_of (own := RX6) (maxL := 6) (ret := (some FieldType.long)) hG (by decide) rfl (Nat.le_of_ble_eq_true rfl) (fun p e s m below meth c A C0 hr hlk hno hM ls hl => ?_)
  have hl : lv_has ls 6 [(0, .ref a0), (1, .int a1)] := hl
  generalize ([.ref a0, .int a1] : List Value).toArray = args at C0 ⊢
  skip
  have hx := C0.1
  have hb := C0.2.1
  have hown := C0.2.2.2.1
  have hts := C0.2.2.2.2.1
  unfold p_X6_siblings at hp
  refine lv_aload_n hx hb dX6_siblings_0 rfl (lv_at hl 0 rfl) ?_
  refine lv_iload_n hx hb dX6_siblings_1 rfl (lv_at hl 1 rfl) ?_
  obtain ⟨_, h1, hp⟩ := ob hp
  rcases obx_at hp with ⟨E3, hv2, hp⟩ | ⟨v2, hv2, hp⟩
  · exact mx_V_x (As := [.int a1]) (rest := []) C0 hno hlk cbX6 hM h1 rfl (w_X6_needChild hG hY hlf hv2) tw_865 tw_867 tws_3 tw_1 tw_868 yk_X6_needChild (by decide) rfl hl.1 (Nat.le_of_ble_eq_true rfl) dX6_siblings_2 rfl (by rw [hp]; rfl) (by decide) (by decide)
  refine mx_V_0 (As := [.int a1]) (rest := []) C0 cbX6 hM h1 rfl (w_X6_needChild hG hY hlf hv2) tw_865 tw_867 tws_3 tw_1 tw_868 yk_X6_needChild (by decide) rfl hl.1 (Nat.le_of_ble_eq_true rfl) dX6_siblings_2 rfl (fun H locs hM => ?_)
  refine lv_aload_n hx hb dX6_siblings_5 rfl (lv_at hl 0 rfl) ?_
  obtain ⟨v4, hv4, hp⟩ := ob hp
  refine mr_getR C0 cbX6 hM 3 (by decide) tw_282 hv4 dX6_siblings_6 ?_
  obtain ⟨v5, hv5, hp⟩ := ob hp
  refine mr_getR C0 cbX2 hM 13 (by decide) tw_149 hv5 dX6_siblings_9 ?_
  refine lv_iload_n hx hb dX6_siblings_12 rfl (lv_at hl 1 rfl) ?_
  obtain ⟨v6, hv6, hp⟩ := ob hp
  refine mr_iald C0 hM hv6 dX6_siblings_13 ?_
  refine lv_istore_n (lv' := [(2, .int v6), (0, .ref a0), (1, .int a1)]) hx hb dX6_siblings_14 rfl hl (by decide) rfl (fun ls hl => ?_)
  refine lv_lconst (v := 0) hx hb dX6_siblings_15 (by decide) ?_
  refine lv_lstore_n (lv' := [(3, .long (0 : Int64)), (2, .int v6), (0, .ref a0), (1, .int a1)]) hx hb dX6_siblings_16 rfl hl (by decide) rfl (fun ls hl => ?_)
  refine lv_iconst (v := 0) hx hb dX6_siblings_17 (by decide) ?_
  refine lv_istore (lv' := [(5, .int (0 : Int32)), (3, .long (0 : Int64)), (2, .int v6), (0, .ref a0), (1, .int a1)]) hx hb dX6_siblings_18 hl (by decide) rfl (fun ls hl => ?_)
  refine wl_X6_siblings_20 C0 hr hlk hG hY hlf hno (fun z16 H locs ls hM hl hp => ?_) FU _ _ _ _ _ hM (lv_sub hl [3, 4, 2, 1, 0] rfl) hp
  refine lv_lload_n hx hb dX6_siblings_69 rfl (lv_at hl 1 rfl) ?_
  refine lv_aload_n hx hb dX6_siblings_70 rfl (lv_at hl 0 rfl) ?_
  obtain ⟨v17, hv17, hp⟩ := ob hp
  refine mr_getR C0 cbX6 hM 3 (by decide) tw_282 hv17 dX6_siblings_71 ?_
  obtain ⟨v18, hv18, hp⟩ := ob hp
  refine mr_getL C0 cbX2 hM 9 (by decide) tw_141 hv18 dX6_siblings_74 ?_
  refine lv_ldc2 (v := -1) hx hb hown (hts _ tw_1148) dX6_siblings_77 ?_
  refine lv_lxor hx hb dX6_siblings_80 ?_
  refine lv_land hx hb dX6_siblings_81 ?_
  exact mx_lret C0 hr hlk hM (by rw [← Option.some.inj hp]; rfl) (by decide) (by decide) dX6_siblings_82
abbrev rm_X6_chainOf : Room := { frames := 7, cells := 1, slots := 6, locals := 144 }
def p_X6_chainOf (a0 : Nat) (a1 : Int32) (Mi : Mem) : Option ((Int32 × Mem) ⊕ String) :=
  (Option.bind (isC 5 Mi a0) fun _ =>
  (obx (p_X6_needChild a0 a1 Mi) fun v2 =>
  (Option.bind (gR 5 4 Mi a0) fun v4 =>
  (Option.bind (gR 5 3 Mi a0) fun v5 =>
  (Option.bind (isC 2 Mi v4) fun _ =>
  (Option.bind (p_X2_copyFrom v4 v5 Mi) fun M7 =>
  (Option.bind (gR 5 4 M7 a0) fun v8 =>
  (Option.bind (isC 2 M7 v8) fun _ =>
  (Option.bind (p_X2_takeOut v8 a1 M7) fun M10 =>
  (Option.bind (gR 5 4 M10 a0) fun v11 =>
  (Option.bind (isC 2 M10 v11) fun _ =>
  (Option.bind (p_X2_fillPlaces v11 M10) fun M13 =>
  (Option.bind (gR 5 4 M13 a0) fun v14 =>
  (Option.bind (gI 2 6 M13 v14) fun v15 =>
  (Option.bind (gR 5 3 M13 a0) fun v16 =>
  (Option.bind (gI 2 6 M13 v16) fun v17 =>
  some (.inl ((v15 - v17), M13))
  )
  )
  )
  )
  )
  )
  )
  )
  )
  )
  )
  )
  )
  )
  ))
theorem yk_X6_chainOf : yok yX6_chainOf 1 := by decide +kernel
set_option maxHeartbeats 4000000 in
set_option maxRecDepth 100000 in
theorem w_X6_chainOf {G : gG} (hG : GOK G) (hY : GY G) {l : Launch} (hlf : l.stackTraces = false) {a0 : Nat} {a1 : Int32} {Mi : Mem} {out : (Int32 × Mem) ⊕ String} (hp : p_X6_chainOf a0 a1 Mi = some out) : CX G l yX6_chainOf (wT yX6_chainOf cX6_chainOf 2 (some FieldType.int)) rm_X6_chainOf [.ref a0, .int a1] Mi (sm (fun r => (some (.int r.1), r.2)) out) 1 6 := by
  refine CX_of (own := RX6) (maxL := 2) (ret := (some FieldType.int)) hG (by decide) rfl (Nat.le_of_ble_eq_true rfl) (fun p e s m below meth c A C0 hr hlk hno hM ls hl => ?_)
  have hl : lv_has ls 2 [(0, .ref a0), (1, .int a1)] := hl
  generalize ([.ref a0, .int a1] : List Value).toArray = args at C0 ⊢
  skip
  have hx := C0.1
  have hb := C0.2.1
  have hown := C0.2.2.2.1
  have hts := C0.2.2.2.2.1
  unfold p_X6_chainOf at hp
  refine lv_aload_n hx hb dX6_chainOf_0 rfl (lv_at hl 0 rfl) ?_
  refine lv_iload_n hx hb dX6_chainOf_1 rfl (lv_at hl 1 rfl) ?_
  obtain ⟨_, h1, hp⟩ := ob hp
  rcases obx_at hp with ⟨E3, hv2, hp⟩ | ⟨v2, hv2, hp⟩
  · exact mx_V_x (As := [.int a1]) (rest := []) C0 hno hlk cbX6 hM h1 rfl (w_X6_needChild hG hY hlf hv2) tw_865 tw_867 tws_3 tw_1 tw_868 yk_X6_needChild (by decide) rfl hl.1 (Nat.le_of_ble_eq_true rfl) dX6_chainOf_2 rfl (by rw [hp]; rfl) (by decide) (by decide)
  refine mx_V_0 (As := [.int a1]) (rest := []) C0 cbX6 hM h1 rfl (w_X6_needChild hG hY hlf hv2) tw_865 tw_867 tws_3 tw_1 tw_868 yk_X6_needChild (by decide) rfl hl.1 (Nat.le_of_ble_eq_true rfl) dX6_chainOf_2 rfl (fun H locs hM => ?_)
  refine lv_aload_n hx hb dX6_chainOf_5 rfl (lv_at hl 0 rfl) ?_
  obtain ⟨v4, hv4, hp⟩ := ob hp
  refine mr_getR C0 cbX6 hM 4 (by decide) tw_283 hv4 dX6_chainOf_6 ?_
  refine lv_aload_n hx hb dX6_chainOf_9 rfl (lv_at hl 0 rfl) ?_
  obtain ⟨v5, hv5, hp⟩ := ob hp
  refine mr_getR C0 cbX6 hM 3 (by decide) tw_282 hv5 dX6_chainOf_10 ?_
  obtain ⟨_, h6, hp⟩ := ob hp
  obtain ⟨M7, hM7, hp⟩ := ob hp
  refine mg_V0 (As := [.ref v5]) (rest := []) C0 cbX2 hM h6 rfl (w_X2_copyFrom hG hM7) tw_590 tw_591 tw_592 tw_3 tw_593 yk_X2_copyFrom (by decide) rfl hl.1 (Nat.le_of_ble_eq_true rfl) dX6_chainOf_13 rfl (fun H locs hM => ?_)
  refine lv_aload_n hx hb dX6_chainOf_16 rfl (lv_at hl 0 rfl) ?_
  obtain ⟨v8, hv8, hp⟩ := ob hp
  refine mr_getR C0 cbX6 hM 4 (by decide) tw_283 hv8 dX6_chainOf_17 ?_
  refine lv_iload_n hx hb dX6_chainOf_20 rfl (lv_at hl 1 rfl) ?_
  obtain ⟨_, h9, hp⟩ := ob hp
  obtain ⟨M10, hM10, hp⟩ := ob hp
  refine mg_V0 (As := [.int a1]) (rest := []) C0 cbX2 hM h9 rfl (w_X2_takeOut hG hM10) tw_1016 tw_1017 tw_1018 tw_3 tw_1019 yk_X2_takeOut (by decide) rfl hl.1 (Nat.le_of_ble_eq_true rfl) dX6_chainOf_21 rfl (fun H locs hM => ?_)
  refine lv_aload_n hx hb dX6_chainOf_24 rfl (lv_at hl 0 rfl) ?_
  obtain ⟨v11, hv11, hp⟩ := ob hp
  refine mr_getR C0 cbX6 hM 4 (by decide) tw_283 hv11 dX6_chainOf_25 ?_
  obtain ⟨_, h12, hp⟩ := ob hp
  obtain ⟨M13, hM13, hp⟩ := ob hp
  refine mg_V0 (As := []) (rest := []) C0 cbX2 hM h12 rfl (w_X2_fillPlaces hG hM13) tw_632 tw_633 tw_634 tw_3 tw_635 yk_X2_fillPlaces (by decide) rfl hl.1 (Nat.le_of_ble_eq_true rfl) dX6_chainOf_28 rfl (fun H locs hM => ?_)
  refine lv_aload_n hx hb dX6_chainOf_31 rfl (lv_at hl 0 rfl) ?_
  obtain ⟨v14, hv14, hp⟩ := ob hp
  refine mr_getR C0 cbX6 hM 4 (by decide) tw_283 hv14 dX6_chainOf_32 ?_
  obtain ⟨v15, hv15, hp⟩ := ob hp
  refine mr_getI C0 cbX2 hM 6 (by decide) tw_134 hv15 dX6_chainOf_35 ?_
  refine lv_aload_n hx hb dX6_chainOf_38 rfl (lv_at hl 0 rfl) ?_
  obtain ⟨v16, hv16, hp⟩ := ob hp
  refine mr_getR C0 cbX6 hM 3 (by decide) tw_282 hv16 dX6_chainOf_39 ?_
  obtain ⟨v17, hv17, hp⟩ := ob hp
  refine mr_getI C0 cbX2 hM 6 (by decide) tw_134 hv17 dX6_chainOf_42 ?_
  refine lv_isub hx hb dX6_chainOf_45 ?_
  exact mx_iret C0 hr hlk hM rfl (by rw [← Option.some.inj hp]; rfl) (by decide) (by decide) dX6_chainOf_46
abbrev rm_X6_triesOf : Room := { frames := 7, cells := 1, slots := 6, locals := 150 }
def pl_X6_triesOf_31 (k1 : Int32 → Option ((Int32 × Mem) ⊕ String)) (f0 : Nat) (f1 : Int32) (M : Mem) : Nat → Int32 → Int32 → Option ((Int32 × Mem) ⊕ String)
  | 0, _, _ => none
  | n + 1, y2, y3 =>
    (Option.bind (gR 5 4 M f0) fun v12 =>
    (Option.bind (gI 2 1 M v12) fun v13 =>
    (if v13 ≤ y3 then
     (k1 y2)
    else
     (Option.bind (gR 5 4 M f0) fun v15 =>
     (Option.bind (isC 2 M v15) fun _ =>
     (Option.bind (p_X2_hasTried v15 y3 f1 M) fun v17 =>
     (if v17 = 0 then
      (pl_X6_triesOf_31 k1 f0 f1 M n y2 (y3 + (1 : Int32)))
     else
      (pl_X6_triesOf_31 k1 f0 f1 M n (y2 + (1 : Int32)) (y3 + (1 : Int32)))
     )
     )
     )
     )
    )
    )
    )
set_option maxHeartbeats 4000000 in
set_option maxRecDepth 100000 in
theorem wl_X6_triesOf_31 {G : gG} {p : Program} {l : Launch} {e : Env} {s : State} {m : MethodId} {args : Array Value} {below : List Frame} {meth : Method} {c : Code} {A : Nat → Prop} {Mi : Mem} {out : (Int32 × Mem) ⊕ String} {k1 : Int32 → Option ((Int32 × Mem) ⊕ String)} {f0 : Nat} {f1 : Int32} {M : Mem} (C0 : cx G p s m args c cX6_triesOf RX6 4 A) (hr : meth.sig.returnType = (some FieldType.int)) (hlk : meth.locks = false) (hG : GOK G) (hY : GY G) (hlf : l.stackTraces = false) (hno : ∀ x ∈ c.exceptionTable.toList, False) (hk1 : ∀ (z2 : Int32) (H : Heap) (locs : List Loc) (ls : Array Slot), mm G A s M H locs → lv_has ls 4 [(2, .int z2)] → k1 z2 = some out → W p l e rm_X6_triesOf s m args below meth c H locs 1 6 (vx_MQ below (XQ G Mi A (sm (fun r => (some (.int r.1), r.2)) out)) (XX G Mi A (sm (fun r => (some (.int r.1), r.2)) out)) args s 1 6 A) (F0 m 63 ls [])) : ∀ (n : Nat) (y2 : Int32) (y3 : Int32) (H : Heap) (locs : List Loc) (ls : Array Slot), mm G A s M H locs → lv_has ls 4 [(0, .ref f0), (1, .int f1), (2, .int y2), (3, .int y3)] → pl_X6_triesOf_31 k1 f0 f1 M n y2 y3 = some out → W p l e rm_X6_triesOf s m args below meth c H locs 1 6 (vx_MQ below (XQ G Mi A (sm (fun r => (some (.int r.1), r.2)) out)) (XX G Mi A (sm (fun r => (some (.int r.1), r.2)) out)) args s 1 6 A) (F0 m 31 ls []) := by
  have hx := C0.1
  have hb := C0.2.1
  have hown := C0.2.2.2.1
  have hts := C0.2.2.2.2.1
  intro n
  induction n with
  | zero => intro y2 y3 H locs ls hM hl hp; rw [pl_X6_triesOf_31] at hp; cases hp
  | succ n ih =>
    intro y2 y3 H locs ls hM hl hp
    rw [pl_X6_triesOf_31] at hp
    refine lv_iload_n hx hb dX6_triesOf_31 rfl (lv_at hl 3 rfl) ?_
    refine lv_aload_n hx hb dX6_triesOf_32 rfl (lv_at hl 0 rfl) ?_
    obtain ⟨v12, hv12, hp⟩ := ob hp
    refine mr_getR C0 cbX6 hM 4 (by decide) tw_283 hv12 dX6_triesOf_33 ?_
    obtain ⟨v13, hv13, hp⟩ := ob hp
    refine mr_getI C0 cbX2 hM 1 (by decide) tw_121 hv13 dX6_triesOf_36 ?_
    refine lv_icmp_ge (tgt := 63) hx hb dX6_triesOf_39 (by decide) (fun c14 => ?_) (fun c14 => ?_)
    · replace hp := oT c14 hp
      exact hk1 _ _ _ _ hM (lv_sub hl [2] rfl) hp
    · replace hp := oF c14 hp
      refine lv_aload_n hx hb dX6_triesOf_42 rfl (lv_at hl 0 rfl) ?_
      obtain ⟨v15, hv15, hp⟩ := ob hp
      refine mr_getR C0 cbX6 hM 4 (by decide) tw_283 hv15 dX6_triesOf_43 ?_
      refine lv_iload_n hx hb dX6_triesOf_46 rfl (lv_at hl 3 rfl) ?_
      refine lv_iload_n hx hb dX6_triesOf_47 rfl (lv_at hl 1 rfl) ?_
      obtain ⟨_, h16, hp⟩ := ob hp
      obtain ⟨v17, hv17, hp⟩ := ob hp
      refine mg_V1 (As := [.int y3, .int f1]) (rest := []) C0 cbX2 hM h16 rfl (w_X2_hasTried hG hv17) tw_1137 tw_1138 tw_1139 tw_3 tw_1140 yk_X2_hasTried (by decide) rfl hl.1 (Nat.le_of_ble_eq_true rfl) dX6_triesOf_48 rfl (fun H locs hM => ?_)
      refine lv_if_eq (tgt := 57) hx hb dX6_triesOf_51 (by decide) (fun c18 => ?_) (fun c18 => ?_)
      · replace hp := oT c18 hp
        refine lv_iinc (v := (y3 + (1 : Int32))) (lv' := [(3, .int (y3 + (1 : Int32))), (0, .ref f0), (1, .int f1), (2, .int y2)]) hx hb dX6_triesOf_57 hl (k := 3) rfl rfl (by decide) rfl (fun ls hl => ?_)
        refine lv_goto (tgt := 31) hx hb dX6_triesOf_60 (by decide) ?_
        exact ih _ _ _ _ _ hM (lv_sub hl [1, 2, 3, 0] rfl) hp
      · replace hp := oF c18 hp
        refine lv_iinc (v := (y2 + (1 : Int32))) (lv' := [(2, .int (y2 + (1 : Int32))), (0, .ref f0), (1, .int f1), (3, .int y3)]) hx hb dX6_triesOf_54 hl (k := 2) rfl rfl (by decide) rfl (fun ls hl => ?_)
        refine lv_iinc (v := (y3 + (1 : Int32))) (lv' := [(3, .int (y3 + (1 : Int32))), (2, .int (y2 + (1 : Int32))), (0, .ref f0), (1, .int f1)]) hx hb dX6_triesOf_57 hl (k := 3) rfl rfl (by decide) rfl (fun ls hl => ?_)
        refine lv_goto (tgt := 31) hx hb dX6_triesOf_60 (by decide) ?_
        exact ih _ _ _ _ _ hM (lv_sub hl [2, 3, 1, 0] rfl) hp
def p_X6_triesOf (a0 : Nat) (a1 : Int32) (Mi : Mem) : Option ((Int32 × Mem) ⊕ String) :=
  (Option.bind (isC 5 Mi a0) fun _ =>
  (obx (p_X6_needSchool a0 a1 Mi) fun v2 =>
  (Option.bind (gR 5 4 Mi a0) fun v4 =>
  (Option.bind (gR 5 3 Mi a0) fun v5 =>
  (Option.bind (isC 2 Mi v4) fun _ =>
  (Option.bind (p_X2_copyFrom v4 v5 Mi) fun M7 =>
  (Option.bind (gR 5 1 M7 a0) fun v8 =>
  (Option.bind (gR 5 4 M7 a0) fun v9 =>
  (Option.bind (isC 0 M7 v8) fun _ =>
  (Option.bind (p_X0_run v8 v9 M7) fun M11 =>
  (pl_X6_triesOf_31
   (fun (z19 : Int32) =>
    some (.inl (z19, M11))
   )
   a0 a1 M11 FU (0 : Int32) (0 : Int32))
  )
  )
  )
  )
  )
  )
  )
  )
  ))
theorem yk_X6_triesOf : yok yX6_triesOf 1 := by decide +kernel
set_option maxHeartbeats 4000000 in
set_option maxRecDepth 100000 in
theorem w_X6_triesOf {G : gG} (hG : GOK G) (hY : GY G) {l : Launch} (hlf : l.stackTraces = false) {a0 : Nat} {a1 : Int32} {Mi : Mem} {out : (Int32 × Mem) ⊕ String} (hp : p_X6_triesOf a0 a1 Mi = some out) : CX G l yX6_triesOf (wT yX6_triesOf cX6_triesOf 4 (some FieldType.int)) rm_X6_triesOf [.ref a0, .int a1] Mi (sm (fun r => (some (.int r.1), r.2)) out) 1 6 := by
  refine CX_of (own := RX6) (maxL := 4) (ret := (some FieldType.int)) hG (by decide) rfl (Nat.le_of_ble_eq_true rfl) (fun p e s m below meth c A C0 hr hlk hno hM ls hl => ?_)
  have hl : lv_has ls 4 [(0, .ref a0), (1, .int a1)] := hl
  generalize ([.ref a0, .int a1] : List Value).toArray = args at C0 ⊢
  skip
  have hx := C0.1
  have hb := C0.2.1
  have hown := C0.2.2.2.1
  have hts := C0.2.2.2.2.1
  unfold p_X6_triesOf at hp
  refine lv_aload_n hx hb dX6_triesOf_0 rfl (lv_at hl 0 rfl) ?_
  refine lv_iload_n hx hb dX6_triesOf_1 rfl (lv_at hl 1 rfl) ?_
  obtain ⟨_, h1, hp⟩ := ob hp
  rcases obx_at hp with ⟨E3, hv2, hp⟩ | ⟨v2, hv2, hp⟩
  · exact mx_V_x (As := [.int a1]) (rest := []) C0 hno hlk cbX6 hM h1 rfl (w_X6_needSchool hG hY hlf hv2) tw_808 tw_810 tws_2 tw_1 tw_811 yk_X6_needSchool (by decide) rfl hl.1 (Nat.le_of_ble_eq_true rfl) dX6_triesOf_2 rfl (by rw [hp]; rfl) (by decide) (by decide)
  refine mx_V_0 (As := [.int a1]) (rest := []) C0 cbX6 hM h1 rfl (w_X6_needSchool hG hY hlf hv2) tw_808 tw_810 tws_2 tw_1 tw_811 yk_X6_needSchool (by decide) rfl hl.1 (Nat.le_of_ble_eq_true rfl) dX6_triesOf_2 rfl (fun H locs hM => ?_)
  refine lv_aload_n hx hb dX6_triesOf_5 rfl (lv_at hl 0 rfl) ?_
  obtain ⟨v4, hv4, hp⟩ := ob hp
  refine mr_getR C0 cbX6 hM 4 (by decide) tw_283 hv4 dX6_triesOf_6 ?_
  refine lv_aload_n hx hb dX6_triesOf_9 rfl (lv_at hl 0 rfl) ?_
  obtain ⟨v5, hv5, hp⟩ := ob hp
  refine mr_getR C0 cbX6 hM 3 (by decide) tw_282 hv5 dX6_triesOf_10 ?_
  obtain ⟨_, h6, hp⟩ := ob hp
  obtain ⟨M7, hM7, hp⟩ := ob hp
  refine mg_V0 (As := [.ref v5]) (rest := []) C0 cbX2 hM h6 rfl (w_X2_copyFrom hG hM7) tw_590 tw_591 tw_592 tw_3 tw_593 yk_X2_copyFrom (by decide) rfl hl.1 (Nat.le_of_ble_eq_true rfl) dX6_triesOf_13 rfl (fun H locs hM => ?_)
  refine lv_aload_n hx hb dX6_triesOf_16 rfl (lv_at hl 0 rfl) ?_
  obtain ⟨v8, hv8, hp⟩ := ob hp
  refine mr_getR C0 cbX6 hM 1 (by decide) tw_280 hv8 dX6_triesOf_17 ?_
  refine lv_aload_n hx hb dX6_triesOf_20 rfl (lv_at hl 0 rfl) ?_
  obtain ⟨v9, hv9, hp⟩ := ob hp
  refine mr_getR C0 cbX6 hM 4 (by decide) tw_283 hv9 dX6_triesOf_21 ?_
  obtain ⟨_, h10, hp⟩ := ob hp
  obtain ⟨M11, hM11, hp⟩ := ob hp
  refine mg_V0 (As := [.ref v9]) (rest := []) C0 cbX0 hM h10 rfl (w_X0_run hG hM11) tw_600 tw_601 tw_602 tw_5 tw_603 yk_X0_run (by decide) rfl hl.1 (Nat.le_of_ble_eq_true rfl) dX6_triesOf_24 rfl (fun H locs hM => ?_)
  refine lv_iconst (v := 0) hx hb dX6_triesOf_27 (by decide) ?_
  refine lv_istore_n (lv' := [(2, .int (0 : Int32)), (0, .ref a0), (1, .int a1)]) hx hb dX6_triesOf_28 rfl hl (by decide) rfl (fun ls hl => ?_)
  refine lv_iconst (v := 0) hx hb dX6_triesOf_29 (by decide) ?_
  refine lv_istore_n (lv' := [(3, .int (0 : Int32)), (2, .int (0 : Int32)), (0, .ref a0), (1, .int a1)]) hx hb dX6_triesOf_30 rfl hl (by decide) rfl (fun ls hl => ?_)
  refine wl_X6_triesOf_31 C0 hr hlk hG hY hlf hno (fun z19 H locs ls hM hl hp => ?_) FU _ _ _ _ _ hM (lv_sub hl [2, 3, 1, 0] rfl) hp
  refine lv_iload_n hx hb dX6_triesOf_63 rfl (lv_at hl 0 rfl) ?_
  exact mx_iret C0 hr hlk hM rfl (by rw [← Option.some.inj hp]; rfl) (by decide) (by decide) dX6_triesOf_64
abbrev rm_X6_placeWith : Room := { frames := 7, cells := 3, slots := 18, locals := 150 }
def p_X6_placeWith (a0 : Nat) (a1 : Int32) (a2 : Int32) (a3 : Int32) (Mi : Mem) : Option ((Int32 × Mem) ⊕ String) :=
  (Option.bind (isC 5 Mi a0) fun _ =>
  (obx (p_X6_needChild a0 a1 Mi) fun v2 =>
  (Option.bind (isC 5 Mi a0) fun _ =>
  (obx (p_X6_needSchool a0 a2 Mi) fun v5 =>
  (obx (p_X6_needCapacity a3 Mi) fun v8 =>
  (Option.bind (gR 5 4 Mi a0) fun v10 =>
  (Option.bind (gR 5 3 Mi a0) fun v11 =>
  (Option.bind (isC 2 Mi v10) fun _ =>
  (Option.bind (p_X2_copyFrom v10 v11 Mi) fun M13 =>
  (Option.bind (gR 5 4 M13 a0) fun v14 =>
  (Option.bind (gR 2 18 M13 v14) fun v15 =>
  (Option.bind (aIs M13 v15 a2 a3) fun M16 =>
  (Option.bind (gR 5 1 M16 a0) fun v17 =>
  (Option.bind (gR 5 4 M16 a0) fun v18 =>
  (Option.bind (isC 0 M16 v17) fun _ =>
  (Option.bind (p_X0_run v17 v18 M16) fun M20 =>
  (Option.bind (gR 5 4 M20 a0) fun v21 =>
  (Option.bind (gR 2 16 M20 v21) fun v22 =>
  (Option.bind (aI 0 M20 v22 a1) fun v23 =>
  some (.inl (v23, M20))
  )
  )
  )
  )
  )
  )
  )
  )
  )
  )
  )
  )
  )
  )
  )
  ))
  ))
theorem yk_X6_placeWith : yok yX6_placeWith 3 := by decide +kernel
set_option maxHeartbeats 4000000 in
set_option maxRecDepth 100000 in
theorem w_X6_placeWith {G : gG} (hG : GOK G) (hY : GY G) {l : Launch} (hlf : l.stackTraces = false) {a0 : Nat} {a1 : Int32} {a2 : Int32} {a3 : Int32} {Mi : Mem} {out : (Int32 × Mem) ⊕ String} (hp : p_X6_placeWith a0 a1 a2 a3 Mi = some out) : CX G l yX6_placeWith (wT yX6_placeWith cX6_placeWith 4 (some FieldType.int)) rm_X6_placeWith [.ref a0, .int a1, .int a2, .int a3] Mi (sm (fun r => (some (.int r.1), r.2)) out) 3 18 := by
  refine CX_of (own := RX6) (maxL := 4) (ret := (some FieldType.int)) hG (by decide) rfl (Nat.le_of_ble_eq_true rfl) (fun p e s m below meth c A C0 hr hlk hno hM ls hl => ?_)
  have hl : lv_has ls 4 [(0, .ref a0), (1, .int a1), (2, .int a2), (3, .int a3)] := hl
  generalize ([.ref a0, .int a1, .int a2, .int a3] : List Value).toArray = args at C0 ⊢
  skip
  have hx := C0.1
  have hb := C0.2.1
  have hown := C0.2.2.2.1
  have hts := C0.2.2.2.2.1
  unfold p_X6_placeWith at hp
  refine lv_aload_n hx hb dX6_placeWith_0 rfl (lv_at hl 0 rfl) ?_
  refine lv_iload_n hx hb dX6_placeWith_1 rfl (lv_at hl 1 rfl) ?_
  obtain ⟨_, h1, hp⟩ := ob hp
  rcases obx_at hp with ⟨E3, hv2, hp⟩ | ⟨v2, hv2, hp⟩
  · exact mx_V_x (As := [.int a1]) (rest := []) C0 hno hlk cbX6 hM h1 rfl (w_X6_needChild hG hY hlf hv2) tw_865 tw_867 tws_3 tw_1 tw_868 yk_X6_needChild (by decide) rfl hl.1 (Nat.le_of_ble_eq_true rfl) dX6_placeWith_2 rfl (by rw [hp]; rfl) (by decide) (by decide)
  refine mx_V_0 (As := [.int a1]) (rest := []) C0 cbX6 hM h1 rfl (w_X6_needChild hG hY hlf hv2) tw_865 tw_867 tws_3 tw_1 tw_868 yk_X6_needChild (by decide) rfl hl.1 (Nat.le_of_ble_eq_true rfl) dX6_placeWith_2 rfl (fun H locs hM => ?_)
  refine lv_aload_n hx hb dX6_placeWith_5 rfl (lv_at hl 0 rfl) ?_
  refine lv_iload_n hx hb dX6_placeWith_6 rfl (lv_at hl 2 rfl) ?_
  obtain ⟨_, h4, hp⟩ := ob hp
  rcases obx_at hp with ⟨E6, hv5, hp⟩ | ⟨v5, hv5, hp⟩
  · exact mx_V_x (As := [.int a2]) (rest := []) C0 hno hlk cbX6 hM h4 rfl (w_X6_needSchool hG hY hlf hv5) tw_808 tw_810 tws_2 tw_1 tw_811 yk_X6_needSchool (by decide) rfl hl.1 (Nat.le_of_ble_eq_true rfl) dX6_placeWith_7 rfl (by rw [hp]; rfl) (by decide) (by decide)
  refine mx_V_0 (As := [.int a2]) (rest := []) C0 cbX6 hM h4 rfl (w_X6_needSchool hG hY hlf hv5) tw_808 tw_810 tws_2 tw_1 tw_811 yk_X6_needSchool (by decide) rfl hl.1 (Nat.le_of_ble_eq_true rfl) dX6_placeWith_7 rfl (fun H locs hM => ?_)
  refine lv_iload_n hx hb dX6_placeWith_10 rfl (lv_at hl 3 rfl) ?_
  rcases obx_at hp with ⟨E9, hv8, hp⟩ | ⟨v8, hv8, hp⟩
  · exact mx_S_x (As := [.int a3]) (rest := []) C0 hno hlk hM (w_X6_needCapacity hG hY hlf hv8) tw_1048 tw_1049 tw_1 tw_1050 yk_X6_needCapacity (by decide) rfl hl.1 (Nat.le_of_ble_eq_true rfl) dX6_placeWith_11 rfl (by rw [hp]; rfl) (by decide) (by decide)
  refine mx_S_0 (As := [.int a3]) (rest := []) C0 hM (w_X6_needCapacity hG hY hlf hv8) tw_1048 tw_1049 tw_1 tw_1050 yk_X6_needCapacity (by decide) rfl hl.1 (Nat.le_of_ble_eq_true rfl) dX6_placeWith_11 rfl (fun H locs hM => ?_)
  refine lv_aload_n hx hb dX6_placeWith_14 rfl (lv_at hl 0 rfl) ?_
  obtain ⟨v10, hv10, hp⟩ := ob hp
  refine mr_getR C0 cbX6 hM 4 (by decide) tw_283 hv10 dX6_placeWith_15 ?_
  refine lv_aload_n hx hb dX6_placeWith_18 rfl (lv_at hl 0 rfl) ?_
  obtain ⟨v11, hv11, hp⟩ := ob hp
  refine mr_getR C0 cbX6 hM 3 (by decide) tw_282 hv11 dX6_placeWith_19 ?_
  obtain ⟨_, h12, hp⟩ := ob hp
  obtain ⟨M13, hM13, hp⟩ := ob hp
  refine mg_V0 (As := [.ref v11]) (rest := []) C0 cbX2 hM h12 rfl (w_X2_copyFrom hG hM13) tw_590 tw_591 tw_592 tw_3 tw_593 yk_X2_copyFrom (by decide) rfl hl.1 (Nat.le_of_ble_eq_true rfl) dX6_placeWith_22 rfl (fun H locs hM => ?_)
  refine lv_aload_n hx hb dX6_placeWith_25 rfl (lv_at hl 0 rfl) ?_
  obtain ⟨v14, hv14, hp⟩ := ob hp
  refine mr_getR C0 cbX6 hM 4 (by decide) tw_283 hv14 dX6_placeWith_26 ?_
  obtain ⟨v15, hv15, hp⟩ := ob hp
  refine mr_getR C0 cbX2 hM 18 (by decide) tw_164 hv15 dX6_placeWith_29 ?_
  refine lv_iload_n hx hb dX6_placeWith_32 rfl (lv_at hl 2 rfl) ?_
  refine lv_iload_n hx hb dX6_placeWith_33 rfl (lv_at hl 3 rfl) ?_
  obtain ⟨M16, hM16, hp⟩ := ob hp
  refine mr_iast C0 hM hM16 dX6_placeWith_34 (fun H locs hM => ?_)
  refine lv_aload_n hx hb dX6_placeWith_35 rfl (lv_at hl 0 rfl) ?_
  obtain ⟨v17, hv17, hp⟩ := ob hp
  refine mr_getR C0 cbX6 hM 1 (by decide) tw_280 hv17 dX6_placeWith_36 ?_
  refine lv_aload_n hx hb dX6_placeWith_39 rfl (lv_at hl 0 rfl) ?_
  obtain ⟨v18, hv18, hp⟩ := ob hp
  refine mr_getR C0 cbX6 hM 4 (by decide) tw_283 hv18 dX6_placeWith_40 ?_
  obtain ⟨_, h19, hp⟩ := ob hp
  obtain ⟨M20, hM20, hp⟩ := ob hp
  refine mg_V0 (As := [.ref v18]) (rest := []) C0 cbX0 hM h19 rfl (w_X0_run hG hM20) tw_600 tw_601 tw_602 tw_5 tw_603 yk_X0_run (by decide) rfl hl.1 (Nat.le_of_ble_eq_true rfl) dX6_placeWith_43 rfl (fun H locs hM => ?_)
  refine lv_aload_n hx hb dX6_placeWith_46 rfl (lv_at hl 0 rfl) ?_
  obtain ⟨v21, hv21, hp⟩ := ob hp
  refine mr_getR C0 cbX6 hM 4 (by decide) tw_283 hv21 dX6_placeWith_47 ?_
  obtain ⟨v22, hv22, hp⟩ := ob hp
  refine mr_getR C0 cbX2 hM 16 (by decide) tw_157 hv22 dX6_placeWith_50 ?_
  refine lv_iload_n hx hb dX6_placeWith_53 rfl (lv_at hl 1 rfl) ?_
  obtain ⟨v23, hv23, hp⟩ := ob hp
  refine mr_iald C0 hM hv23 dX6_placeWith_54 ?_
  exact mx_iret C0 hr hlk hM rfl (by rw [← Option.some.inj hp]; rfl) (by decide) (by decide) dX6_placeWith_55
abbrev rm_X6_neededCapacity : Room := { frames := 7, cells := 2, slots := 12, locals := 150 }
def pl_X6_neededCapacity_23 (k1 : Int32 → Mem → Option ((Int32 × Mem) ⊕ String)) (k2 : Mem → Option ((Int32 × Mem) ⊕ String)) (f0 : Nat) (f1 : Int32) (f2 : Int32) : Nat → Int32 → Mem → Option ((Int32 × Mem) ⊕ String)
  | 0, _, _ => none
  | n + 1, y3, M =>
    (if (40 : Int32) < y3 then
     (k2  M)
    else
     (Option.bind (gR 5 4 M f0) fun v12 =>
     (Option.bind (gR 2 18 M v12) fun v13 =>
     (Option.bind (aIs M v13 f2 y3) fun M14 =>
     (Option.bind (gR 5 1 M14 f0) fun v15 =>
     (Option.bind (gR 5 4 M14 f0) fun v16 =>
     (Option.bind (isC 0 M14 v15) fun _ =>
     (Option.bind (p_X0_run v15 v16 M14) fun M18 =>
     (Option.bind (gR 5 4 M18 f0) fun v19 =>
     (Option.bind (gR 2 16 M18 v19) fun v20 =>
     (Option.bind (aI 0 M18 v20 f1) fun v21 =>
     (if v21 = f2 then
      (k1 y3 M18)
     else
      (pl_X6_neededCapacity_23 k1 k2 f0 f1 f2 n (y3 + (1 : Int32)) M18)
     )
     )
     )
     )
     )
     )
     )
     )
     )
     )
     )
    )
set_option maxHeartbeats 4000000 in
set_option maxRecDepth 100000 in
theorem wl_X6_neededCapacity_23 {G : gG} {p : Program} {l : Launch} {e : Env} {s : State} {m : MethodId} {args : Array Value} {below : List Frame} {meth : Method} {c : Code} {A : Nat → Prop} {Mi : Mem} {out : (Int32 × Mem) ⊕ String} {k1 : Int32 → Mem → Option ((Int32 × Mem) ⊕ String)} {k2 : Mem → Option ((Int32 × Mem) ⊕ String)} {f0 : Nat} {f1 : Int32} {f2 : Int32} (C0 : cx G p s m args c cX6_neededCapacity RX6 4 A) (hr : meth.sig.returnType = (some FieldType.int)) (hlk : meth.locks = false) (hG : GOK G) (hY : GY G) (hlf : l.stackTraces = false) (hno : ∀ x ∈ c.exceptionTable.toList, False) (hk1 : ∀ (z3 : Int32) (M : Mem) (H : Heap) (locs : List Loc) (ls : Array Slot), mm G A s M H locs → lv_has ls 4 [(3, .int z3)] → k1 z3 M = some out → W p l e rm_X6_neededCapacity s m args below meth c H locs 2 12 (vx_MQ below (XQ G Mi A (sm (fun r => (some (.int r.1), r.2)) out)) (XX G Mi A (sm (fun r => (some (.int r.1), r.2)) out)) args s 2 12 A) (F0 m 63 ls [])) (hk2 : ∀ (M : Mem) (H : Heap) (locs : List Loc) (ls : Array Slot), mm G A s M H locs → lv_has ls 4 [] → k2 M = some out → W p l e rm_X6_neededCapacity s m args below meth c H locs 2 12 (vx_MQ below (XQ G Mi A (sm (fun r => (some (.int r.1), r.2)) out)) (XX G Mi A (sm (fun r => (some (.int r.1), r.2)) out)) args s 2 12 A) (F0 m 71 ls [])) : ∀ (n : Nat) (y3 : Int32) (M : Mem) (H : Heap) (locs : List Loc) (ls : Array Slot), mm G A s M H locs → lv_has ls 4 [(0, .ref f0), (1, .int f1), (2, .int f2), (3, .int y3)] → pl_X6_neededCapacity_23 k1 k2 f0 f1 f2 n y3 M = some out → W p l e rm_X6_neededCapacity s m args below meth c H locs 2 12 (vx_MQ below (XQ G Mi A (sm (fun r => (some (.int r.1), r.2)) out)) (XX G Mi A (sm (fun r => (some (.int r.1), r.2)) out)) args s 2 12 A) (F0 m 23 ls []) := by
  have hx := C0.1
  have hb := C0.2.1
  have hown := C0.2.2.2.1
  have hts := C0.2.2.2.2.1
  intro n
  induction n with
  | zero => intro y3 M H locs ls hM hl hp; rw [pl_X6_neededCapacity_23] at hp; cases hp
  | succ n ih =>
    intro y3 M H locs ls hM hl hp
    rw [pl_X6_neededCapacity_23] at hp
    refine lv_iload_n hx hb dX6_neededCapacity_23 rfl (lv_at hl 3 rfl) ?_
    refine lv_bipush (v := 40) hx hb dX6_neededCapacity_24 (by decide) ?_
    refine lv_icmp_gt (tgt := 71) hx hb dX6_neededCapacity_26 (by decide) (fun c11 => ?_) (fun c11 => ?_)
    · replace hp := oT c11 hp
      exact hk2  _ _ _ _ hM (lv_sub hl [] rfl) hp
    · replace hp := oF c11 hp
      refine lv_aload_n hx hb dX6_neededCapacity_29 rfl (lv_at hl 0 rfl) ?_
      obtain ⟨v12, hv12, hp⟩ := ob hp
      refine mr_getR C0 cbX6 hM 4 (by decide) tw_283 hv12 dX6_neededCapacity_30 ?_
      obtain ⟨v13, hv13, hp⟩ := ob hp
      refine mr_getR C0 cbX2 hM 18 (by decide) tw_164 hv13 dX6_neededCapacity_33 ?_
      refine lv_iload_n hx hb dX6_neededCapacity_36 rfl (lv_at hl 2 rfl) ?_
      refine lv_iload_n hx hb dX6_neededCapacity_37 rfl (lv_at hl 3 rfl) ?_
      obtain ⟨M14, hM14, hp⟩ := ob hp
      refine mr_iast C0 hM hM14 dX6_neededCapacity_38 (fun H locs hM => ?_)
      refine lv_aload_n hx hb dX6_neededCapacity_39 rfl (lv_at hl 0 rfl) ?_
      obtain ⟨v15, hv15, hp⟩ := ob hp
      refine mr_getR C0 cbX6 hM 1 (by decide) tw_280 hv15 dX6_neededCapacity_40 ?_
      refine lv_aload_n hx hb dX6_neededCapacity_43 rfl (lv_at hl 0 rfl) ?_
      obtain ⟨v16, hv16, hp⟩ := ob hp
      refine mr_getR C0 cbX6 hM 4 (by decide) tw_283 hv16 dX6_neededCapacity_44 ?_
      obtain ⟨_, h17, hp⟩ := ob hp
      obtain ⟨M18, hM18, hp⟩ := ob hp
      refine mg_V0 (As := [.ref v16]) (rest := []) C0 cbX0 hM h17 rfl (w_X0_run hG hM18) tw_600 tw_601 tw_602 tw_5 tw_603 yk_X0_run (by decide) rfl hl.1 (Nat.le_of_ble_eq_true rfl) dX6_neededCapacity_47 rfl (fun H locs hM => ?_)
      refine lv_aload_n hx hb dX6_neededCapacity_50 rfl (lv_at hl 0 rfl) ?_
      obtain ⟨v19, hv19, hp⟩ := ob hp
      refine mr_getR C0 cbX6 hM 4 (by decide) tw_283 hv19 dX6_neededCapacity_51 ?_
      obtain ⟨v20, hv20, hp⟩ := ob hp
      refine mr_getR C0 cbX2 hM 16 (by decide) tw_157 hv20 dX6_neededCapacity_54 ?_
      refine lv_iload_n hx hb dX6_neededCapacity_57 rfl (lv_at hl 1 rfl) ?_
      obtain ⟨v21, hv21, hp⟩ := ob hp
      refine mr_iald C0 hM hv21 dX6_neededCapacity_58 ?_
      refine lv_iload_n hx hb dX6_neededCapacity_59 rfl (lv_at hl 2 rfl) ?_
      refine lv_icmp_ne (tgt := 65) hx hb dX6_neededCapacity_60 (by decide) (fun c22 => ?_) (fun c22 => ?_)
      · replace hp := oF c22 hp
        refine lv_iinc (v := (y3 + (1 : Int32))) (lv' := [(3, .int (y3 + (1 : Int32))), (0, .ref f0), (1, .int f1), (2, .int f2)]) hx hb dX6_neededCapacity_65 hl (k := 3) rfl rfl (by decide) rfl (fun ls hl => ?_)
        refine lv_goto (tgt := 23) hx hb dX6_neededCapacity_68 (by decide) ?_
        exact ih _ _ _ _ _ hM (lv_sub hl [1, 2, 3, 0] rfl) hp
      · replace hp := oT c22 hp
        exact hk1 _ _ _ _ _ hM (lv_sub hl [3] rfl) hp
def p_X6_neededCapacity (a0 : Nat) (a1 : Int32) (a2 : Int32) (Mi : Mem) : Option ((Int32 × Mem) ⊕ String) :=
  (Option.bind (isC 5 Mi a0) fun _ =>
  (obx (p_X6_needChild a0 a1 Mi) fun v2 =>
  (Option.bind (isC 5 Mi a0) fun _ =>
  (obx (p_X6_needSchool a0 a2 Mi) fun v5 =>
  (Option.bind (gR 5 4 Mi a0) fun v7 =>
  (Option.bind (gR 5 3 Mi a0) fun v8 =>
  (Option.bind (isC 2 Mi v7) fun _ =>
  (Option.bind (p_X2_copyFrom v7 v8 Mi) fun M10 =>
  (pl_X6_neededCapacity_23
   (fun (z23 : Int32) (M24 : Mem) =>
    some (.inl (z23, M24))
   )
   (fun  (M25 : Mem) =>
    some (.inl ((-1 : Int32), M25))
   )
   a0 a1 a2 FU (0 : Int32) M10)
  )
  )
  )
  )
  ))
  ))
theorem yk_X6_neededCapacity : yok yX6_neededCapacity 2 := by decide +kernel
set_option maxHeartbeats 4000000 in
set_option maxRecDepth 100000 in
theorem w_X6_neededCapacity {G : gG} (hG : GOK G) (hY : GY G) {l : Launch} (hlf : l.stackTraces = false) {a0 : Nat} {a1 : Int32} {a2 : Int32} {Mi : Mem} {out : (Int32 × Mem) ⊕ String} (hp : p_X6_neededCapacity a0 a1 a2 Mi = some out) : CX G l yX6_neededCapacity (wT yX6_neededCapacity cX6_neededCapacity 4 (some FieldType.int)) rm_X6_neededCapacity [.ref a0, .int a1, .int a2] Mi (sm (fun r => (some (.int r.1), r.2)) out) 2 12 := by
  refine CX_of (own := RX6) (maxL := 4) (ret := (some FieldType.int)) hG (by decide) rfl (Nat.le_of_ble_eq_true rfl) (fun p e s m below meth c A C0 hr hlk hno hM ls hl => ?_)
  have hl : lv_has ls 4 [(0, .ref a0), (1, .int a1), (2, .int a2)] := hl
  generalize ([.ref a0, .int a1, .int a2] : List Value).toArray = args at C0 ⊢
  skip
  have hx := C0.1
  have hb := C0.2.1
  have hown := C0.2.2.2.1
  have hts := C0.2.2.2.2.1
  unfold p_X6_neededCapacity at hp
  refine lv_aload_n hx hb dX6_neededCapacity_0 rfl (lv_at hl 0 rfl) ?_
  refine lv_iload_n hx hb dX6_neededCapacity_1 rfl (lv_at hl 1 rfl) ?_
  obtain ⟨_, h1, hp⟩ := ob hp
  rcases obx_at hp with ⟨E3, hv2, hp⟩ | ⟨v2, hv2, hp⟩
  · exact mx_V_x (As := [.int a1]) (rest := []) C0 hno hlk cbX6 hM h1 rfl (w_X6_needChild hG hY hlf hv2) tw_865 tw_867 tws_3 tw_1 tw_868 yk_X6_needChild (by decide) rfl hl.1 (Nat.le_of_ble_eq_true rfl) dX6_neededCapacity_2 rfl (by rw [hp]; rfl) (by decide) (by decide)
  refine mx_V_0 (As := [.int a1]) (rest := []) C0 cbX6 hM h1 rfl (w_X6_needChild hG hY hlf hv2) tw_865 tw_867 tws_3 tw_1 tw_868 yk_X6_needChild (by decide) rfl hl.1 (Nat.le_of_ble_eq_true rfl) dX6_neededCapacity_2 rfl (fun H locs hM => ?_)
  refine lv_aload_n hx hb dX6_neededCapacity_5 rfl (lv_at hl 0 rfl) ?_
  refine lv_iload_n hx hb dX6_neededCapacity_6 rfl (lv_at hl 2 rfl) ?_
  obtain ⟨_, h4, hp⟩ := ob hp
  rcases obx_at hp with ⟨E6, hv5, hp⟩ | ⟨v5, hv5, hp⟩
  · exact mx_V_x (As := [.int a2]) (rest := []) C0 hno hlk cbX6 hM h4 rfl (w_X6_needSchool hG hY hlf hv5) tw_808 tw_810 tws_2 tw_1 tw_811 yk_X6_needSchool (by decide) rfl hl.1 (Nat.le_of_ble_eq_true rfl) dX6_neededCapacity_7 rfl (by rw [hp]; rfl) (by decide) (by decide)
  refine mx_V_0 (As := [.int a2]) (rest := []) C0 cbX6 hM h4 rfl (w_X6_needSchool hG hY hlf hv5) tw_808 tw_810 tws_2 tw_1 tw_811 yk_X6_needSchool (by decide) rfl hl.1 (Nat.le_of_ble_eq_true rfl) dX6_neededCapacity_7 rfl (fun H locs hM => ?_)
  refine lv_aload_n hx hb dX6_neededCapacity_10 rfl (lv_at hl 0 rfl) ?_
  obtain ⟨v7, hv7, hp⟩ := ob hp
  refine mr_getR C0 cbX6 hM 4 (by decide) tw_283 hv7 dX6_neededCapacity_11 ?_
  refine lv_aload_n hx hb dX6_neededCapacity_14 rfl (lv_at hl 0 rfl) ?_
  obtain ⟨v8, hv8, hp⟩ := ob hp
  refine mr_getR C0 cbX6 hM 3 (by decide) tw_282 hv8 dX6_neededCapacity_15 ?_
  obtain ⟨_, h9, hp⟩ := ob hp
  obtain ⟨M10, hM10, hp⟩ := ob hp
  refine mg_V0 (As := [.ref v8]) (rest := []) C0 cbX2 hM h9 rfl (w_X2_copyFrom hG hM10) tw_590 tw_591 tw_592 tw_3 tw_593 yk_X2_copyFrom (by decide) rfl hl.1 (Nat.le_of_ble_eq_true rfl) dX6_neededCapacity_18 rfl (fun H locs hM => ?_)
  refine lv_iconst (v := 0) hx hb dX6_neededCapacity_21 (by decide) ?_
  refine lv_istore_n (lv' := [(3, .int (0 : Int32)), (0, .ref a0), (1, .int a1), (2, .int a2)]) hx hb dX6_neededCapacity_22 rfl hl (by decide) rfl (fun ls hl => ?_)
  refine wl_X6_neededCapacity_23 C0 hr hlk hG hY hlf hno (fun z23 M24 H locs ls hM hl hp => ?_) (fun M25 H locs ls hM hl hp => ?_) FU _ _ _ _ _ hM (lv_sub hl [1, 2, 3, 0] rfl) hp
  · refine lv_iload_n hx hb dX6_neededCapacity_63 rfl (lv_at hl 0 rfl) ?_
    exact mx_iret C0 hr hlk hM rfl (by rw [← Option.some.inj hp]; rfl) (by decide) (by decide) dX6_neededCapacity_64
  · refine lv_iconst (v := -1) hx hb dX6_neededCapacity_71 (by decide) ?_
    exact mx_iret C0 hr hlk hM rfl (by rw [← Option.some.inj hp]; rfl) (by decide) (by decide) dX6_neededCapacity_72
abbrev rm_X6_gainersWithout : Room := { frames := 7, cells := 1, slots := 6, locals := 150 }
def pl_X6_gainersWithout_62 (k1 : Int64 → Option ((Int64 × Mem) ⊕ String)) (f0 : Nat) (M : Mem) : Nat → Int64 → Int32 → Option ((Int64 × Mem) ⊕ String)
  | 0, _, _ => none
  | n + 1, y2, y4 =>
    (Option.bind (gR 5 3 M f0) fun v23 =>
    (Option.bind (gI 2 1 M v23) fun v24 =>
    (if v24 ≤ y4 then
     (k1 y2)
    else
     (Option.bind (gR 5 5 M f0) fun v26 =>
     (Option.bind (isC 2 M v26) fun _ =>
     (Option.bind (p_X2_gotWish v26 y4 M) fun v28 =>
     (Option.bind (gR 5 4 M f0) fun v29 =>
     (Option.bind (isC 2 M v29) fun _ =>
     (Option.bind (p_X2_gotWish v29 y4 M) fun v31 =>
     (if v28 = (-1 : Int32) then
      (pl_X6_gainersWithout_62 k1 f0 M n y2 (y4 + (1 : Int32)))
     else
      (jn (fun (_ : Unit) =>
       (pl_X6_gainersWithout_62 k1 f0 M n (y2 ||| ((1 : Int64) <<< (Int32.toInt64 y4 &&& 63))) (y4 + (1 : Int32)))
      ) fun k33 =>
      (if v31 = (-1 : Int32) then
       (k33 ())
      else
       (if v31 ≤ v28 then
        (pl_X6_gainersWithout_62 k1 f0 M n y2 (y4 + (1 : Int32)))
       else
        (k33 ())
       )
      )
      )
     )
     )
     )
     )
     )
     )
     )
    )
    )
    )
set_option maxHeartbeats 4000000 in
set_option maxRecDepth 100000 in
theorem wl_X6_gainersWithout_62 {G : gG} {p : Program} {l : Launch} {e : Env} {s : State} {m : MethodId} {args : Array Value} {below : List Frame} {meth : Method} {c : Code} {A : Nat → Prop} {Mi : Mem} {out : (Int64 × Mem) ⊕ String} {k1 : Int64 → Option ((Int64 × Mem) ⊕ String)} {f0 : Nat} {M : Mem} (C0 : cx G p s m args c cX6_gainersWithout RX6 7 A) (hr : meth.sig.returnType = (some FieldType.long)) (hlk : meth.locks = false) (hG : GOK G) (hY : GY G) (hlf : l.stackTraces = false) (hno : ∀ x ∈ c.exceptionTable.toList, False) (hk1 : ∀ (z2 : Int64) (H : Heap) (locs : List Loc) (ls : Array Slot), mm G A s M H locs → lv_has ls 7 [(2, .long z2)] → k1 z2 = some out → W p l e rm_X6_gainersWithout s m args below meth c H locs 1 6 (vx_MQ below (XQ G Mi A (sm (fun r => (some (.long r.1), r.2)) out)) (XX G Mi A (sm (fun r => (some (.long r.1), r.2)) out)) args s 1 6 A) (F0 m 128 ls [])) : ∀ (n : Nat) (y2 : Int64) (y4 : Int32) (H : Heap) (locs : List Loc) (ls : Array Slot), mm G A s M H locs → lv_has ls 7 [(0, .ref f0), (2, .long y2), (4, .int y4)] → pl_X6_gainersWithout_62 k1 f0 M n y2 y4 = some out → W p l e rm_X6_gainersWithout s m args below meth c H locs 1 6 (vx_MQ below (XQ G Mi A (sm (fun r => (some (.long r.1), r.2)) out)) (XX G Mi A (sm (fun r => (some (.long r.1), r.2)) out)) args s 1 6 A) (F0 m 62 ls []) := by
  have hx := C0.1
  have hb := C0.2.1
  have hown := C0.2.2.2.1
  have hts := C0.2.2.2.2.1
  intro n
  induction n with
  | zero => intro y2 y4 H locs ls hM hl hp; rw [pl_X6_gainersWithout_62] at hp; cases hp
  | succ n ih =>
    intro y2 y4 H locs ls hM hl hp
    rw [pl_X6_gainersWithout_62] at hp
    refine lv_iload hx hb dX6_gainersWithout_62 (lv_at hl 2 rfl) ?_
    refine lv_aload_n hx hb dX6_gainersWithout_64 rfl (lv_at hl 0 rfl) ?_
    obtain ⟨v23, hv23, hp⟩ := ob hp
    refine mr_getR C0 cbX6 hM 3 (by decide) tw_282 hv23 dX6_gainersWithout_65 ?_
    obtain ⟨v24, hv24, hp⟩ := ob hp
    refine mr_getI C0 cbX2 hM 1 (by decide) tw_121 hv24 dX6_gainersWithout_68 ?_
    refine lv_icmp_ge (tgt := 128) hx hb dX6_gainersWithout_71 (by decide) (fun c25 => ?_) (fun c25 => ?_)
    · replace hp := oT c25 hp
      exact hk1 _ _ _ _ hM (lv_sub hl [1] rfl) hp
    · replace hp := oF c25 hp
      refine lv_aload_n hx hb dX6_gainersWithout_74 rfl (lv_at hl 0 rfl) ?_
      obtain ⟨v26, hv26, hp⟩ := ob hp
      refine mr_getR C0 cbX6 hM 5 (by decide) tw_284 hv26 dX6_gainersWithout_75 ?_
      refine lv_iload hx hb dX6_gainersWithout_78 (lv_at hl 2 rfl) ?_
      obtain ⟨_, h27, hp⟩ := ob hp
      obtain ⟨v28, hv28, hp⟩ := ob hp
      refine mg_V1 (As := [.int y4]) (rest := []) C0 cbX2 hM h27 rfl (w_X2_gotWish hG hv28) tw_657 tw_658 tw_659 tw_3 tw_660 yk_X2_gotWish (by decide) rfl hl.1 (Nat.le_of_ble_eq_true rfl) dX6_gainersWithout_80 rfl (fun H locs hM => ?_)
      refine lv_istore (lv' := [(5, .int v28), (0, .ref f0), (2, .long y2), (4, .int y4)]) hx hb dX6_gainersWithout_83 hl (by decide) rfl (fun ls hl => ?_)
      refine lv_aload_n hx hb dX6_gainersWithout_85 rfl (lv_at hl 1 rfl) ?_
      obtain ⟨v29, hv29, hp⟩ := ob hp
      refine mr_getR C0 cbX6 hM 4 (by decide) tw_283 hv29 dX6_gainersWithout_86 ?_
      refine lv_iload hx hb dX6_gainersWithout_89 (lv_at hl 3 rfl) ?_
      obtain ⟨_, h30, hp⟩ := ob hp
      obtain ⟨v31, hv31, hp⟩ := ob hp
      refine mg_V1 (As := [.int y4]) (rest := []) C0 cbX2 hM h30 rfl (w_X2_gotWish hG hv31) tw_657 tw_658 tw_659 tw_3 tw_660 yk_X2_gotWish (by decide) rfl hl.1 (Nat.le_of_ble_eq_true rfl) dX6_gainersWithout_91 rfl (fun H locs hM => ?_)
      refine lv_istore (lv' := [(6, .int v31), (5, .int v28), (0, .ref f0), (2, .long y2), (4, .int y4)]) hx hb dX6_gainersWithout_94 hl (by decide) rfl (fun ls hl => ?_)
      refine lv_iload hx hb dX6_gainersWithout_96 (lv_at hl 1 rfl) ?_
      refine lv_iconst (v := -1) hx hb dX6_gainersWithout_98 (by decide) ?_
      refine lv_icmp_eq (tgt := 122) hx hb dX6_gainersWithout_99 (by decide) (fun c32 => ?_) (fun c32 => ?_)
      · replace hp := oT c32 hp
        refine lv_iinc (v := (y4 + (1 : Int32))) (lv' := [(4, .int (y4 + (1 : Int32))), (6, .int v31), (5, .int v28), (0, .ref f0), (2, .long y2)]) hx hb dX6_gainersWithout_122 hl (k := 4) rfl rfl (by decide) rfl (fun ls hl => ?_)
        refine lv_goto (tgt := 62) hx hb dX6_gainersWithout_125 (by decide) ?_
        exact ih _ _ _ _ _ hM (lv_sub hl [3, 4, 0] rfl) hp
      · replace hp := oF c32 hp
        refine lv_iload hx hb dX6_gainersWithout_102 (lv_at hl 0 rfl) ?_
        refine lv_iconst (v := -1) hx hb dX6_gainersWithout_104 (by decide) ?_
        obtain ⟨k33, ek33, hp⟩ := ojn hp
        have hk33 : ∀ (H : Heap) (locs : List Loc) (ls : Array Slot), mm G A s M H locs → lv_has ls 7 [(0, .ref f0), (2, .long y2), (4, .int y4)] → k33 () = some out → W p l e rm_X6_gainersWithout s m args below meth c H locs 1 6 (vx_MQ below (XQ G Mi A (sm (fun r => (some (.long r.1), r.2)) out)) (XX G Mi A (sm (fun r => (some (.long r.1), r.2)) out)) args s 1 6 A) (F0 m 115 ls []) := by
          intro  H locs ls hM hl hp
          rw [ek33] at hp
          refine lv_lload_n hx hb dX6_gainersWithout_115 rfl (lv_at hl 1 rfl) ?_
          refine lv_lconst (v := 1) hx hb dX6_gainersWithout_116 (by decide) ?_
          refine lv_iload hx hb dX6_gainersWithout_117 (lv_at hl 2 rfl) ?_
          refine lv_lshl (v := ((1 : Int64) <<< (Int32.toInt64 y4 &&& 63))) hx hb dX6_gainersWithout_119 rfl ?_
          refine lv_lor hx hb dX6_gainersWithout_120 ?_
          refine lv_lstore_n (lv' := [(2, .long (y2 ||| ((1 : Int64) <<< (Int32.toInt64 y4 &&& 63)))), (0, .ref f0), (4, .int y4)]) hx hb dX6_gainersWithout_121 rfl hl (by decide) rfl (fun ls hl => ?_)
          refine lv_iinc (v := (y4 + (1 : Int32))) (lv' := [(4, .int (y4 + (1 : Int32))), (2, .long (y2 ||| ((1 : Int64) <<< (Int32.toInt64 y4 &&& 63)))), (0, .ref f0)]) hx hb dX6_gainersWithout_122 hl (k := 2) rfl rfl (by decide) rfl (fun ls hl => ?_)
          refine lv_goto (tgt := 62) hx hb dX6_gainersWithout_125 (by decide) ?_
          exact ih _ _ _ _ _ hM (lv_sub hl [2, 1, 0] rfl) hp
        refine lv_icmp_eq (tgt := 115) hx hb dX6_gainersWithout_105 (by decide) (fun c34 => ?_) (fun c34 => ?_)
        · replace hp := oT c34 hp
          exact hk33  _ _ _ hM (lv_sub hl [2, 3, 4] rfl) hp
        · replace hp := oF c34 hp
          refine lv_iload hx hb dX6_gainersWithout_108 (lv_at hl 1 rfl) ?_
          refine lv_iload hx hb dX6_gainersWithout_110 (lv_at hl 0 rfl) ?_
          refine lv_icmp_ge (tgt := 122) hx hb dX6_gainersWithout_112 (by decide) (fun c35 => ?_) (fun c35 => ?_)
          · replace hp := oT c35 hp
            refine lv_iinc (v := (y4 + (1 : Int32))) (lv' := [(4, .int (y4 + (1 : Int32))), (6, .int v31), (5, .int v28), (0, .ref f0), (2, .long y2)]) hx hb dX6_gainersWithout_122 hl (k := 4) rfl rfl (by decide) rfl (fun ls hl => ?_)
            refine lv_goto (tgt := 62) hx hb dX6_gainersWithout_125 (by decide) ?_
            exact ih _ _ _ _ _ hM (lv_sub hl [3, 4, 0] rfl) hp
          · replace hp := oF c35 hp
            exact hk33  _ _ _ hM (lv_sub hl [2, 3, 4] rfl) hp
def p_X6_gainersWithout (a0 : Nat) (a1 : Int32) (Mi : Mem) : Option ((Int64 × Mem) ⊕ String) :=
  (Option.bind (isC 5 Mi a0) fun _ =>
  (obx (p_X6_needChild a0 a1 Mi) fun v2 =>
  (Option.bind (gR 5 4 Mi a0) fun v4 =>
  (Option.bind (gR 5 3 Mi a0) fun v5 =>
  (Option.bind (isC 2 Mi v4) fun _ =>
  (Option.bind (p_X2_copyFrom v4 v5 Mi) fun M7 =>
  (Option.bind (gR 5 1 M7 a0) fun v8 =>
  (Option.bind (gR 5 4 M7 a0) fun v9 =>
  (Option.bind (isC 0 M7 v8) fun _ =>
  (Option.bind (p_X0_run v8 v9 M7) fun M11 =>
  (Option.bind (gR 5 5 M11 a0) fun v12 =>
  (Option.bind (gR 5 3 M11 a0) fun v13 =>
  (Option.bind (isC 2 M11 v12) fun _ =>
  (Option.bind (p_X2_copyFrom v12 v13 M11) fun M15 =>
  (Option.bind (gR 5 5 M15 a0) fun v16 =>
  (Option.bind (isC 2 M15 v16) fun _ =>
  (Option.bind (p_X2_takeOut v16 a1 M15) fun M18 =>
  (Option.bind (gR 5 1 M18 a0) fun v19 =>
  (Option.bind (gR 5 5 M18 a0) fun v20 =>
  (Option.bind (isC 0 M18 v19) fun _ =>
  (Option.bind (p_X0_run v19 v20 M18) fun M22 =>
  (pl_X6_gainersWithout_62
   (fun (z36 : Int64) =>
    some (.inl (z36, M22))
   )
   a0 M22 FU (0 : Int64) (0 : Int32))
  )
  )
  )
  )
  )
  )
  )
  )
  )
  )
  )
  )
  )
  )
  )
  )
  )
  )
  )
  ))
theorem yk_X6_gainersWithout : yok yX6_gainersWithout 1 := by decide +kernel
set_option maxHeartbeats 4000000 in
set_option maxRecDepth 100000 in
theorem w_X6_gainersWithout {G : gG} (hG : GOK G) (hY : GY G) {l : Launch} (hlf : l.stackTraces = false) {a0 : Nat} {a1 : Int32} {Mi : Mem} {out : (Int64 × Mem) ⊕ String} (hp : p_X6_gainersWithout a0 a1 Mi = some out) : CX G l yX6_gainersWithout (wT yX6_gainersWithout cX6_gainersWithout 7 (some FieldType.long)) rm_X6_gainersWithout [.ref a0, .int a1] Mi (sm (fun r => (some (.long r.1), r.2)) out) 1 6 := by
  refine CX_of (own := RX6) (maxL := 7) (ret := (some FieldType.long)) hG (by decide) rfl (Nat.le_of_ble_eq_true rfl) (fun p e s m below meth c A C0 hr hlk hno hM ls hl => ?_)
  have hl : lv_has ls 7 [(0, .ref a0), (1, .int a1)] := hl
  generalize ([.ref a0, .int a1] : List Value).toArray = args at C0 ⊢
  skip
  have hx := C0.1
  have hb := C0.2.1
  have hown := C0.2.2.2.1
  have hts := C0.2.2.2.2.1
  unfold p_X6_gainersWithout at hp
  refine lv_aload_n hx hb dX6_gainersWithout_0 rfl (lv_at hl 0 rfl) ?_
  refine lv_iload_n hx hb dX6_gainersWithout_1 rfl (lv_at hl 1 rfl) ?_
  obtain ⟨_, h1, hp⟩ := ob hp
  rcases obx_at hp with ⟨E3, hv2, hp⟩ | ⟨v2, hv2, hp⟩
  · exact mx_V_x (As := [.int a1]) (rest := []) C0 hno hlk cbX6 hM h1 rfl (w_X6_needChild hG hY hlf hv2) tw_865 tw_867 tws_3 tw_1 tw_868 yk_X6_needChild (by decide) rfl hl.1 (Nat.le_of_ble_eq_true rfl) dX6_gainersWithout_2 rfl (by rw [hp]; rfl) (by decide) (by decide)
  refine mx_V_0 (As := [.int a1]) (rest := []) C0 cbX6 hM h1 rfl (w_X6_needChild hG hY hlf hv2) tw_865 tw_867 tws_3 tw_1 tw_868 yk_X6_needChild (by decide) rfl hl.1 (Nat.le_of_ble_eq_true rfl) dX6_gainersWithout_2 rfl (fun H locs hM => ?_)
  refine lv_aload_n hx hb dX6_gainersWithout_5 rfl (lv_at hl 0 rfl) ?_
  obtain ⟨v4, hv4, hp⟩ := ob hp
  refine mr_getR C0 cbX6 hM 4 (by decide) tw_283 hv4 dX6_gainersWithout_6 ?_
  refine lv_aload_n hx hb dX6_gainersWithout_9 rfl (lv_at hl 0 rfl) ?_
  obtain ⟨v5, hv5, hp⟩ := ob hp
  refine mr_getR C0 cbX6 hM 3 (by decide) tw_282 hv5 dX6_gainersWithout_10 ?_
  obtain ⟨_, h6, hp⟩ := ob hp
  obtain ⟨M7, hM7, hp⟩ := ob hp
  refine mg_V0 (As := [.ref v5]) (rest := []) C0 cbX2 hM h6 rfl (w_X2_copyFrom hG hM7) tw_590 tw_591 tw_592 tw_3 tw_593 yk_X2_copyFrom (by decide) rfl hl.1 (Nat.le_of_ble_eq_true rfl) dX6_gainersWithout_13 rfl (fun H locs hM => ?_)
  refine lv_aload_n hx hb dX6_gainersWithout_16 rfl (lv_at hl 0 rfl) ?_
  obtain ⟨v8, hv8, hp⟩ := ob hp
  refine mr_getR C0 cbX6 hM 1 (by decide) tw_280 hv8 dX6_gainersWithout_17 ?_
  refine lv_aload_n hx hb dX6_gainersWithout_20 rfl (lv_at hl 0 rfl) ?_
  obtain ⟨v9, hv9, hp⟩ := ob hp
  refine mr_getR C0 cbX6 hM 4 (by decide) tw_283 hv9 dX6_gainersWithout_21 ?_
  obtain ⟨_, h10, hp⟩ := ob hp
  obtain ⟨M11, hM11, hp⟩ := ob hp
  refine mg_V0 (As := [.ref v9]) (rest := []) C0 cbX0 hM h10 rfl (w_X0_run hG hM11) tw_600 tw_601 tw_602 tw_5 tw_603 yk_X0_run (by decide) rfl hl.1 (Nat.le_of_ble_eq_true rfl) dX6_gainersWithout_24 rfl (fun H locs hM => ?_)
  refine lv_aload_n hx hb dX6_gainersWithout_27 rfl (lv_at hl 0 rfl) ?_
  obtain ⟨v12, hv12, hp⟩ := ob hp
  refine mr_getR C0 cbX6 hM 5 (by decide) tw_284 hv12 dX6_gainersWithout_28 ?_
  refine lv_aload_n hx hb dX6_gainersWithout_31 rfl (lv_at hl 0 rfl) ?_
  obtain ⟨v13, hv13, hp⟩ := ob hp
  refine mr_getR C0 cbX6 hM 3 (by decide) tw_282 hv13 dX6_gainersWithout_32 ?_
  obtain ⟨_, h14, hp⟩ := ob hp
  obtain ⟨M15, hM15, hp⟩ := ob hp
  refine mg_V0 (As := [.ref v13]) (rest := []) C0 cbX2 hM h14 rfl (w_X2_copyFrom hG hM15) tw_590 tw_591 tw_592 tw_3 tw_593 yk_X2_copyFrom (by decide) rfl hl.1 (Nat.le_of_ble_eq_true rfl) dX6_gainersWithout_35 rfl (fun H locs hM => ?_)
  refine lv_aload_n hx hb dX6_gainersWithout_38 rfl (lv_at hl 0 rfl) ?_
  obtain ⟨v16, hv16, hp⟩ := ob hp
  refine mr_getR C0 cbX6 hM 5 (by decide) tw_284 hv16 dX6_gainersWithout_39 ?_
  refine lv_iload_n hx hb dX6_gainersWithout_42 rfl (lv_at hl 1 rfl) ?_
  obtain ⟨_, h17, hp⟩ := ob hp
  obtain ⟨M18, hM18, hp⟩ := ob hp
  refine mg_V0 (As := [.int a1]) (rest := []) C0 cbX2 hM h17 rfl (w_X2_takeOut hG hM18) tw_1016 tw_1017 tw_1018 tw_3 tw_1019 yk_X2_takeOut (by decide) rfl hl.1 (Nat.le_of_ble_eq_true rfl) dX6_gainersWithout_43 rfl (fun H locs hM => ?_)
  refine lv_aload_n hx hb dX6_gainersWithout_46 rfl (lv_at hl 0 rfl) ?_
  obtain ⟨v19, hv19, hp⟩ := ob hp
  refine mr_getR C0 cbX6 hM 1 (by decide) tw_280 hv19 dX6_gainersWithout_47 ?_
  refine lv_aload_n hx hb dX6_gainersWithout_50 rfl (lv_at hl 0 rfl) ?_
  obtain ⟨v20, hv20, hp⟩ := ob hp
  refine mr_getR C0 cbX6 hM 5 (by decide) tw_284 hv20 dX6_gainersWithout_51 ?_
  obtain ⟨_, h21, hp⟩ := ob hp
  obtain ⟨M22, hM22, hp⟩ := ob hp
  refine mg_V0 (As := [.ref v20]) (rest := []) C0 cbX0 hM h21 rfl (w_X0_run hG hM22) tw_600 tw_601 tw_602 tw_5 tw_603 yk_X0_run (by decide) rfl hl.1 (Nat.le_of_ble_eq_true rfl) dX6_gainersWithout_54 rfl (fun H locs hM => ?_)
  refine lv_lconst (v := 0) hx hb dX6_gainersWithout_57 (by decide) ?_
  refine lv_lstore_n (lv' := [(2, .long (0 : Int64)), (0, .ref a0), (1, .int a1)]) hx hb dX6_gainersWithout_58 rfl hl (by decide) rfl (fun ls hl => ?_)
  refine lv_iconst (v := 0) hx hb dX6_gainersWithout_59 (by decide) ?_
  refine lv_istore (lv' := [(4, .int (0 : Int32)), (2, .long (0 : Int64)), (0, .ref a0), (1, .int a1)]) hx hb dX6_gainersWithout_60 hl (by decide) rfl (fun ls hl => ?_)
  refine wl_X6_gainersWithout_62 C0 hr hlk hG hY hlf hno (fun z36 H locs ls hM hl hp => ?_) FU _ _ _ _ _ hM (lv_sub hl [2, 1, 0] rfl) hp
  refine lv_lload_n hx hb dX6_gainersWithout_128 rfl (lv_at hl 0 rfl) ?_
  exact mx_lret C0 hr hlk hM (by rw [← Option.some.inj hp]; rfl) (by decide) (by decide) dX6_gainersWithout_129
abbrev rm_X6_bestByOrder : Room := { frames := 7, cells := 1, slots := 6, locals := 150 }
def p_X6_bestByOrder (a0 : Nat) (a1 : Int32) (Mi : Mem) : Option ((Int32 × Mem) ⊕ String) :=
  (Option.bind (isC 5 Mi a0) fun _ =>
  (obx (p_X6_needChild a0 a1 Mi) fun v2 =>
  (Option.bind (gR 5 4 Mi a0) fun v4 =>
  (Option.bind (gR 5 3 Mi a0) fun v5 =>
  (Option.bind (isC 2 Mi v4) fun _ =>
  (Option.bind (p_X2_copyFrom v4 v5 Mi) fun M7 =>
  (Option.bind (gR 5 1 M7 a0) fun v8 =>
  (Option.bind (gR 5 4 M7 a0) fun v9 =>
  (Option.bind (isC 0 M7 v8) fun _ =>
  (Option.bind (p_X0_run v8 v9 M7) fun M11 =>
  (Option.bind (gR 5 4 M11 a0) fun v12 =>
  (Option.bind (isC 2 M11 v12) fun _ =>
  (Option.bind (p_X2_gotWish v12 a1 M11) fun v14 =>
  some (.inl (v14, M11))
  )
  )
  )
  )
  )
  )
  )
  )
  )
  )
  )
  ))
theorem yk_X6_bestByOrder : yok yX6_bestByOrder 1 := by decide +kernel
set_option maxHeartbeats 4000000 in
set_option maxRecDepth 100000 in
theorem w_X6_bestByOrder {G : gG} (hG : GOK G) (hY : GY G) {l : Launch} (hlf : l.stackTraces = false) {a0 : Nat} {a1 : Int32} {Mi : Mem} {out : (Int32 × Mem) ⊕ String} (hp : p_X6_bestByOrder a0 a1 Mi = some out) : CX G l yX6_bestByOrder (wT yX6_bestByOrder cX6_bestByOrder 2 (some FieldType.int)) rm_X6_bestByOrder [.ref a0, .int a1] Mi (sm (fun r => (some (.int r.1), r.2)) out) 1 6 := by
  refine CX_of (own := RX6) (maxL := 2) (ret := (some FieldType.int)) hG (by decide) rfl (Nat.le_of_ble_eq_true rfl) (fun p e s m below meth c A C0 hr hlk hno hM ls hl => ?_)
  have hl : lv_has ls 2 [(0, .ref a0), (1, .int a1)] := hl
  generalize ([.ref a0, .int a1] : List Value).toArray = args at C0 ⊢
  skip
  have hx := C0.1
  have hb := C0.2.1
  have hown := C0.2.2.2.1
  have hts := C0.2.2.2.2.1
  unfold p_X6_bestByOrder at hp
  refine lv_aload_n hx hb dX6_bestByOrder_0 rfl (lv_at hl 0 rfl) ?_
  refine lv_iload_n hx hb dX6_bestByOrder_1 rfl (lv_at hl 1 rfl) ?_
  obtain ⟨_, h1, hp⟩ := ob hp
  rcases obx_at hp with ⟨E3, hv2, hp⟩ | ⟨v2, hv2, hp⟩
  · exact mx_V_x (As := [.int a1]) (rest := []) C0 hno hlk cbX6 hM h1 rfl (w_X6_needChild hG hY hlf hv2) tw_865 tw_867 tws_3 tw_1 tw_868 yk_X6_needChild (by decide) rfl hl.1 (Nat.le_of_ble_eq_true rfl) dX6_bestByOrder_2 rfl (by rw [hp]; rfl) (by decide) (by decide)
  refine mx_V_0 (As := [.int a1]) (rest := []) C0 cbX6 hM h1 rfl (w_X6_needChild hG hY hlf hv2) tw_865 tw_867 tws_3 tw_1 tw_868 yk_X6_needChild (by decide) rfl hl.1 (Nat.le_of_ble_eq_true rfl) dX6_bestByOrder_2 rfl (fun H locs hM => ?_)
  refine lv_aload_n hx hb dX6_bestByOrder_5 rfl (lv_at hl 0 rfl) ?_
  obtain ⟨v4, hv4, hp⟩ := ob hp
  refine mr_getR C0 cbX6 hM 4 (by decide) tw_283 hv4 dX6_bestByOrder_6 ?_
  refine lv_aload_n hx hb dX6_bestByOrder_9 rfl (lv_at hl 0 rfl) ?_
  obtain ⟨v5, hv5, hp⟩ := ob hp
  refine mr_getR C0 cbX6 hM 3 (by decide) tw_282 hv5 dX6_bestByOrder_10 ?_
  obtain ⟨_, h6, hp⟩ := ob hp
  obtain ⟨M7, hM7, hp⟩ := ob hp
  refine mg_V0 (As := [.ref v5]) (rest := []) C0 cbX2 hM h6 rfl (w_X2_copyFrom hG hM7) tw_590 tw_591 tw_592 tw_3 tw_593 yk_X2_copyFrom (by decide) rfl hl.1 (Nat.le_of_ble_eq_true rfl) dX6_bestByOrder_13 rfl (fun H locs hM => ?_)
  refine lv_aload_n hx hb dX6_bestByOrder_16 rfl (lv_at hl 0 rfl) ?_
  obtain ⟨v8, hv8, hp⟩ := ob hp
  refine mr_getR C0 cbX6 hM 1 (by decide) tw_280 hv8 dX6_bestByOrder_17 ?_
  refine lv_aload_n hx hb dX6_bestByOrder_20 rfl (lv_at hl 0 rfl) ?_
  obtain ⟨v9, hv9, hp⟩ := ob hp
  refine mr_getR C0 cbX6 hM 4 (by decide) tw_283 hv9 dX6_bestByOrder_21 ?_
  obtain ⟨_, h10, hp⟩ := ob hp
  obtain ⟨M11, hM11, hp⟩ := ob hp
  refine mg_V0 (As := [.ref v9]) (rest := []) C0 cbX0 hM h10 rfl (w_X0_run hG hM11) tw_600 tw_601 tw_602 tw_5 tw_603 yk_X0_run (by decide) rfl hl.1 (Nat.le_of_ble_eq_true rfl) dX6_bestByOrder_24 rfl (fun H locs hM => ?_)
  refine lv_aload_n hx hb dX6_bestByOrder_27 rfl (lv_at hl 0 rfl) ?_
  obtain ⟨v12, hv12, hp⟩ := ob hp
  refine mr_getR C0 cbX6 hM 4 (by decide) tw_283 hv12 dX6_bestByOrder_28 ?_
  refine lv_iload_n hx hb dX6_bestByOrder_31 rfl (lv_at hl 1 rfl) ?_
  obtain ⟨_, h13, hp⟩ := ob hp
  obtain ⟨v14, hv14, hp⟩ := ob hp
  refine mg_V1 (As := [.int a1]) (rest := []) C0 cbX2 hM h13 rfl (w_X2_gotWish hG hv14) tw_657 tw_658 tw_659 tw_3 tw_660 yk_X2_gotWish (by decide) rfl hl.1 (Nat.le_of_ble_eq_true rfl) dX6_bestByOrder_32 rfl (fun H locs hM => ?_)
  exact mx_iret C0 hr hlk hM rfl (by rw [← Option.some.inj hp]; rfl) (by decide) (by decide) dX6_bestByOrder_35
abbrev rm_X6_printSchool : Room := { frames := 7, cells := 1, slots := 6, locals := 128 }
def p_X6_printSchool (a0 : Nat) (a1 : Int32) (Mi : Mem) : Option ((Int32 × Mem) ⊕ String) :=
  (Option.bind (isC 5 Mi a0) fun _ =>
  (obx (p_X6_needSchool a0 a1 Mi) fun v2 =>
  (Option.bind (gR 5 2 Mi a0) fun v4 =>
  (Option.bind (isC 1 Mi v4) fun _ =>
  (Option.bind (p_X1_clear v4 Mi) fun M6 =>
  (Option.bind (gR 5 2 M6 a0) fun v7 =>
  (Option.bind (gR 5 3 M6 a0) fun v8 =>
  (Option.bind (gR 2 0 M6 v8) fun v9 =>
  (Option.bind (gR 4 3 M6 v9) fun v10 =>
  (Option.bind (aI 0 M6 v10 a1) fun v11 =>
  (Option.bind (isC 1 M6 v7) fun _ =>
  (Option.bind (p_X1_putName v7 v11 M6) fun M13 =>
  (Option.bind (gR 5 2 M13 a0) fun v14 =>
  (Option.bind (isC 1 M13 v14) fun _ =>
  (Option.bind (p_X1_put v14 (58 : Int32) M13) fun M16 =>
  (Option.bind (gR 5 3 M16 a0) fun v17 =>
  (Option.bind (isC 2 M16 v17) fun _ =>
  (Option.bind (p_X2_holdersOf v17 a1 M16) fun v19 =>
  (Option.bind (isC 5 M16 a0) fun _ =>
  (Option.bind (p_X6_printChildren a0 v19 a1 M16) fun M21 =>
  (Option.bind (gR 5 2 M21 a0) fun v22 =>
  (Option.bind (isC 1 M21 v22) fun _ =>
  (Option.bind (p_X1_put v22 (47 : Int32) M21) fun M24 =>
  (Option.bind (gR 5 3 M24 a0) fun v25 =>
  (Option.bind (isC 2 M24 v25) fun _ =>
  (Option.bind (p_X2_waitersOf v25 a1 M24) fun v27 =>
  (Option.bind (isC 5 M24 a0) fun _ =>
  (Option.bind (p_X6_printChildren a0 v27 a1 M24) fun M29 =>
  (Option.bind (gR 5 2 M29 a0) fun v30 =>
  (Option.bind (gI 1 1 M29 v30) fun v31 =>
  some (.inl (v31, M29))
  )
  )
  )
  )
  )
  )
  )
  )
  )
  )
  )
  )
  )
  )
  )
  )
  )
  )
  )
  )
  )
  )
  )
  )
  )
  )
  )
  )
  ))
theorem yk_X6_printSchool : yok yX6_printSchool 1 := by decide +kernel
set_option maxHeartbeats 4000000 in
set_option maxRecDepth 100000 in
theorem w_X6_printSchool {G : gG} (hG : GOK G) (hY : GY G) {l : Launch} (hlf : l.stackTraces = false) {a0 : Nat} {a1 : Int32} {Mi : Mem} {out : (Int32 × Mem) ⊕ String} (hp : p_X6_printSchool a0 a1 Mi = some out) : CX G l yX6_printSchool (wT yX6_printSchool cX6_printSchool 2 (some FieldType.int)) rm_X6_printSchool [.ref a0, .int a1] Mi (sm (fun r => (some (.int r.1), r.2)) out) 1 6 := by
  refine CX_of (own := RX6) (maxL := 2) (ret := (some FieldType.int)) hG (by decide) rfl (Nat.le_of_ble_eq_true rfl) (fun p e s m below meth c A C0 hr hlk hno hM ls hl => ?_)
  have hl : lv_has ls 2 [(0, .ref a0), (1, .int a1)] := hl
  generalize ([.ref a0, .int a1] : List Value).toArray = args at C0 ⊢
  skip
  have hx := C0.1
  have hb := C0.2.1
  have hown := C0.2.2.2.1
  have hts := C0.2.2.2.2.1
  unfold p_X6_printSchool at hp
  refine lv_aload_n hx hb dX6_printSchool_0 rfl (lv_at hl 0 rfl) ?_
  refine lv_iload_n hx hb dX6_printSchool_1 rfl (lv_at hl 1 rfl) ?_
  obtain ⟨_, h1, hp⟩ := ob hp
  rcases obx_at hp with ⟨E3, hv2, hp⟩ | ⟨v2, hv2, hp⟩
  · exact mx_V_x (As := [.int a1]) (rest := []) C0 hno hlk cbX6 hM h1 rfl (w_X6_needSchool hG hY hlf hv2) tw_808 tw_810 tws_2 tw_1 tw_811 yk_X6_needSchool (by decide) rfl hl.1 (Nat.le_of_ble_eq_true rfl) dX6_printSchool_2 rfl (by rw [hp]; rfl) (by decide) (by decide)
  refine mx_V_0 (As := [.int a1]) (rest := []) C0 cbX6 hM h1 rfl (w_X6_needSchool hG hY hlf hv2) tw_808 tw_810 tws_2 tw_1 tw_811 yk_X6_needSchool (by decide) rfl hl.1 (Nat.le_of_ble_eq_true rfl) dX6_printSchool_2 rfl (fun H locs hM => ?_)
  refine lv_aload_n hx hb dX6_printSchool_5 rfl (lv_at hl 0 rfl) ?_
  obtain ⟨v4, hv4, hp⟩ := ob hp
  refine mr_getR C0 cbX6 hM 2 (by decide) tw_281 hv4 dX6_printSchool_6 ?_
  obtain ⟨_, h5, hp⟩ := ob hp
  obtain ⟨M6, hM6, hp⟩ := ob hp
  refine mg_V0 (As := []) (rest := []) C0 cbX1 hM h5 rfl (w_X1_clear hG hM6) tw_1184 tw_1185 tw_1186 tw_6 tw_1187 yk_X1_clear (by decide) rfl hl.1 (Nat.le_of_ble_eq_true rfl) dX6_printSchool_9 rfl (fun H locs hM => ?_)
  refine lv_aload_n hx hb dX6_printSchool_12 rfl (lv_at hl 0 rfl) ?_
  obtain ⟨v7, hv7, hp⟩ := ob hp
  refine mr_getR C0 cbX6 hM 2 (by decide) tw_281 hv7 dX6_printSchool_13 ?_
  refine lv_aload_n hx hb dX6_printSchool_16 rfl (lv_at hl 0 rfl) ?_
  obtain ⟨v8, hv8, hp⟩ := ob hp
  refine mr_getR C0 cbX6 hM 3 (by decide) tw_282 hv8 dX6_printSchool_17 ?_
  obtain ⟨v9, hv9, hp⟩ := ob hp
  refine mr_getR C0 cbX2 hM 0 (by decide) tw_115 hv9 dX6_printSchool_20 ?_
  obtain ⟨v10, hv10, hp⟩ := ob hp
  refine mr_getR C0 cbX4 hM 3 (by decide) tw_60 hv10 dX6_printSchool_23 ?_
  refine lv_iload_n hx hb dX6_printSchool_26 rfl (lv_at hl 1 rfl) ?_
  obtain ⟨v11, hv11, hp⟩ := ob hp
  refine mr_iald C0 hM hv11 dX6_printSchool_27 ?_
  obtain ⟨_, h12, hp⟩ := ob hp
  obtain ⟨M13, hM13, hp⟩ := ob hp
  refine mg_V0 (As := [.int v11]) (rest := []) C0 cbX1 hM h12 rfl (w_X1_putName hG hM13) tw_1188 tw_1189 tw_1190 tw_6 tw_1191 yk_X1_putName (by decide) rfl hl.1 (Nat.le_of_ble_eq_true rfl) dX6_printSchool_28 rfl (fun H locs hM => ?_)
  refine lv_aload_n hx hb dX6_printSchool_31 rfl (lv_at hl 0 rfl) ?_
  obtain ⟨v14, hv14, hp⟩ := ob hp
  refine mr_getR C0 cbX6 hM 2 (by decide) tw_281 hv14 dX6_printSchool_32 ?_
  refine lv_bipush (v := 58) hx hb dX6_printSchool_35 (by decide) ?_
  obtain ⟨_, h15, hp⟩ := ob hp
  obtain ⟨M16, hM16, hp⟩ := ob hp
  refine mg_V0 (As := [.int (58 : Int32)]) (rest := []) C0 cbX1 hM h15 rfl (w_X1_put hG hM16) tw_1196 tw_1193 tw_1194 tw_6 tw_1195 yk_X1_put (by decide) rfl hl.1 (Nat.le_of_ble_eq_true rfl) dX6_printSchool_37 rfl (fun H locs hM => ?_)
  refine lv_aload_n hx hb dX6_printSchool_40 rfl (lv_at hl 0 rfl) ?_
  refine lv_aload_n hx hb dX6_printSchool_41 rfl (lv_at hl 0 rfl) ?_
  obtain ⟨v17, hv17, hp⟩ := ob hp
  refine mr_getR C0 cbX6 hM 3 (by decide) tw_282 hv17 dX6_printSchool_42 ?_
  refine lv_iload_n hx hb dX6_printSchool_45 rfl (lv_at hl 1 rfl) ?_
  obtain ⟨_, h18, hp⟩ := ob hp
  obtain ⟨v19, hv19, hp⟩ := ob hp
  refine mg_V1 (As := [.int a1]) (rest := [.ref a0]) C0 cbX2 hM h18 rfl (w_X2_holdersOf hG hv19) tw_677 tw_555 tw_556 tw_3 tw_557 yk_X2_holdersOf (by decide) rfl hl.1 (Nat.le_of_ble_eq_true rfl) dX6_printSchool_46 rfl (fun H locs hM => ?_)
  refine lv_iload_n hx hb dX6_printSchool_49 rfl (lv_at hl 1 rfl) ?_
  obtain ⟨_, h20, hp⟩ := ob hp
  obtain ⟨M21, hM21, hp⟩ := ob hp
  refine mg_V0 (As := [.long v19, .int a1]) (rest := []) C0 cbX6 hM h20 rfl (w_X6_printChildren hG hM21) tw_1197 tw_1199 tws_5 tw_1 tw_1200 yk_X6_printChildren (by decide) rfl hl.1 (Nat.le_of_ble_eq_true rfl) dX6_printSchool_50 rfl (fun H locs hM => ?_)
  refine lv_aload_n hx hb dX6_printSchool_53 rfl (lv_at hl 0 rfl) ?_
  obtain ⟨v22, hv22, hp⟩ := ob hp
  refine mr_getR C0 cbX6 hM 2 (by decide) tw_281 hv22 dX6_printSchool_54 ?_
  refine lv_bipush (v := 47) hx hb dX6_printSchool_57 (by decide) ?_
  obtain ⟨_, h23, hp⟩ := ob hp
  obtain ⟨M24, hM24, hp⟩ := ob hp
  refine mg_V0 (As := [.int (47 : Int32)]) (rest := []) C0 cbX1 hM h23 rfl (w_X1_put hG hM24) tw_1196 tw_1193 tw_1194 tw_6 tw_1195 yk_X1_put (by decide) rfl hl.1 (Nat.le_of_ble_eq_true rfl) dX6_printSchool_59 rfl (fun H locs hM => ?_)
  refine lv_aload_n hx hb dX6_printSchool_62 rfl (lv_at hl 0 rfl) ?_
  refine lv_aload_n hx hb dX6_printSchool_63 rfl (lv_at hl 0 rfl) ?_
  obtain ⟨v25, hv25, hp⟩ := ob hp
  refine mr_getR C0 cbX6 hM 3 (by decide) tw_282 hv25 dX6_printSchool_64 ?_
  refine lv_iload_n hx hb dX6_printSchool_67 rfl (lv_at hl 1 rfl) ?_
  obtain ⟨_, h26, hp⟩ := ob hp
  obtain ⟨v27, hv27, hp⟩ := ob hp
  refine mg_V1 (As := [.int a1]) (rest := [.ref a0]) C0 cbX2 hM h26 rfl (w_X2_waitersOf hG hv27) tw_703 tw_642 tw_643 tw_3 tw_644 yk_X2_waitersOf (by decide) rfl hl.1 (Nat.le_of_ble_eq_true rfl) dX6_printSchool_68 rfl (fun H locs hM => ?_)
  refine lv_iload_n hx hb dX6_printSchool_71 rfl (lv_at hl 1 rfl) ?_
  obtain ⟨_, h28, hp⟩ := ob hp
  obtain ⟨M29, hM29, hp⟩ := ob hp
  refine mg_V0 (As := [.long v27, .int a1]) (rest := []) C0 cbX6 hM h28 rfl (w_X6_printChildren hG hM29) tw_1197 tw_1199 tws_5 tw_1 tw_1200 yk_X6_printChildren (by decide) rfl hl.1 (Nat.le_of_ble_eq_true rfl) dX6_printSchool_72 rfl (fun H locs hM => ?_)
  refine lv_aload_n hx hb dX6_printSchool_75 rfl (lv_at hl 0 rfl) ?_
  obtain ⟨v30, hv30, hp⟩ := ob hp
  refine mr_getR C0 cbX6 hM 2 (by decide) tw_281 hv30 dX6_printSchool_76 ?_
  obtain ⟨v31, hv31, hp⟩ := ob hp
  refine mr_getI C0 cbX1 hM 1 (by decide) tw_268 hv31 dX6_printSchool_79 ?_
  exact mx_iret C0 hr hlk hM rfl (by rw [← Option.some.inj hp]; rfl) (by decide) (by decide) dX6_printSchool_82
abbrev rm_X6_restoreState : Room := { frames := 6, cells := 1, slots := 6, locals := 90 }
def p_X6_restoreState (a0 : Nat) (Mi : Mem) : Option ((Int32 × Mem) ⊕ String) :=
  (Option.bind (gI 5 7 Mi a0) fun v1 =>
  (if v1 = 0 then
   some (.inr "java/lang/IllegalStateException")
  else
   (Option.bind (gR 5 3 Mi a0) fun v3 =>
   (Option.bind (gR 5 6 Mi a0) fun v4 =>
   (Option.bind (isC 2 Mi v3) fun _ =>
   (Option.bind (p_X2_copyFrom v3 v4 Mi) fun M6 =>
   (Option.bind (sV 5 10 M6 a0 (.int (0 : Int32))) fun M7 =>
   (Option.bind (gR 5 3 M7 a0) fun v8 =>
   (Option.bind (gI 2 1 M7 v8) fun v9 =>
   some (.inl (v9, M7))
   )
   )
   )
   )
   )
   )
   )
  )
  )
theorem yk_X6_restoreState : yok yX6_restoreState 0 := by decide +kernel
set_option maxHeartbeats 4000000 in
set_option maxRecDepth 100000 in
theorem w_X6_restoreState {G : gG} (hG : GOK G) (hY : GY G) {l : Launch} (hlf : l.stackTraces = false) {a0 : Nat} {Mi : Mem} {out : (Int32 × Mem) ⊕ String} (hp : p_X6_restoreState a0 Mi = some out) : CX G l yX6_restoreState (wT yX6_restoreState cX6_restoreState 1 (some FieldType.int)) rm_X6_restoreState [.ref a0] Mi (sm (fun r => (some (.int r.1), r.2)) out) 1 6 := by
  refine CX_of (own := RX6) (maxL := 1) (ret := (some FieldType.int)) hG (by decide) rfl (Nat.le_of_ble_eq_true rfl) (fun p e s m below meth c A C0 hr hlk hno hM ls hl => ?_)
  have hl : lv_has ls 1 [(0, .ref a0)] := hl
  generalize ([.ref a0] : List Value).toArray = args at C0 ⊢
  skip
  have hx := C0.1
  have hb := C0.2.1
  have hown := C0.2.2.2.1
  have hts := C0.2.2.2.2.1
  unfold p_X6_restoreState at hp
  refine lv_aload_n hx hb dX6_restoreState_0 rfl (lv_at hl 0 rfl) ?_
  obtain ⟨v1, hv1, hp⟩ := ob hp
  refine mr_getI C0 cbX6 hM 7 (by decide) tw_286 hv1 dX6_restoreState_1 ?_
  refine lv_if_ne (tgt := 18) hx hb dX6_restoreState_4 (by decide) (fun c2 => ?_) (fun c2 => ?_)
  · replace hp := oF c2 hp
    refine lv_aload_n hx hb dX6_restoreState_18 rfl (lv_at hl 0 rfl) ?_
    obtain ⟨v3, hv3, hp⟩ := ob hp
    refine mr_getR C0 cbX6 hM 3 (by decide) tw_282 hv3 dX6_restoreState_19 ?_
    refine lv_aload_n hx hb dX6_restoreState_22 rfl (lv_at hl 0 rfl) ?_
    obtain ⟨v4, hv4, hp⟩ := ob hp
    refine mr_getR C0 cbX6 hM 6 (by decide) tw_285 hv4 dX6_restoreState_23 ?_
    obtain ⟨_, h5, hp⟩ := ob hp
    obtain ⟨M6, hM6, hp⟩ := ob hp
    refine mg_V0 (As := [.ref v4]) (rest := []) C0 cbX2 hM h5 rfl (w_X2_copyFrom hG hM6) tw_590 tw_591 tw_592 tw_3 tw_593 yk_X2_copyFrom (by decide) rfl hl.1 (Nat.le_of_ble_eq_true rfl) dX6_restoreState_26 rfl (fun H locs hM => ?_)
    refine lv_aload_n hx hb dX6_restoreState_29 rfl (lv_at hl 0 rfl) ?_
    refine lv_iconst (v := 0) hx hb dX6_restoreState_30 (by decide) ?_
    obtain ⟨M7, hM7, hp⟩ := ob hp
    refine mr_putI C0 cbX6 hM 10 (by decide) rfl rfl tw_289 hM7 dX6_restoreState_31 (fun H locs hM => ?_)
    refine lv_aload_n hx hb dX6_restoreState_34 rfl (lv_at hl 0 rfl) ?_
    obtain ⟨v8, hv8, hp⟩ := ob hp
    refine mr_getR C0 cbX6 hM 3 (by decide) tw_282 hv8 dX6_restoreState_35 ?_
    obtain ⟨v9, hv9, hp⟩ := ob hp
    refine mr_getI C0 cbX2 hM 1 (by decide) tw_121 hv9 dX6_restoreState_38 ?_
    exact mx_iret C0 hr hlk hM rfl (by rw [← Option.some.inj hp]; rfl) (by decide) (by decide) dX6_restoreState_41
  · replace hp := oT c2 hp
    exact mx_throwSW (text := "no state is saved") (rest := []) C0 hY hlf hlk hno hM xk_277 (by decide +kernel) rfl hl.1 (by rw [← Option.some.inj hp]; rfl) dX6_restoreState_7 dX6_restoreState_10 dX6_restoreState_11 dX6_restoreState_14 dX6_restoreState_17 ⟨⟨by decide, Nat.le_of_ble_eq_true rfl⟩, by decide, by decide⟩ (by decide) (by decide)
