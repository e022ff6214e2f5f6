abbrev rm_X6_appendInput : Room := { frames := 1, cells := 0, slots := 0, locals := 22 }
def p_X6_appendInput (a0 : Nat) (a1 : Int32) (a2 : Int32) (a3 : Int32) (a4 : Int32) (a5 : Int32) (M : Mem) : Option (Int32 × Mem) :=
  (Option.bind (gR 5 0 M a0) fun v1 =>
  (Option.bind (gI 3 1 M v1) fun v2 =>
  (if (v2 + (20 : Int32)) ≤ (900 : Int32) then
   (Option.bind (gR 5 0 M a0) fun v4 =>
   (Option.bind (isC 3 M v4) fun _ =>
   (Option.bind (p_X3_append v4 a1 M) fun M6 =>
   (Option.bind (gR 5 0 M6 a0) fun v7 =>
   (Option.bind (isC 3 M6 v7) fun _ =>
   (Option.bind (p_X3_append v7 a2 M6) fun M9 =>
   (Option.bind (gR 5 0 M9 a0) fun v10 =>
   (Option.bind (isC 3 M9 v10) fun _ =>
   (Option.bind (p_X3_append v10 a3 M9) fun M12 =>
   (Option.bind (gR 5 0 M12 a0) fun v13 =>
   (Option.bind (isC 3 M12 v13) fun _ =>
   (Option.bind (p_X3_append v13 a4 M12) fun M15 =>
   (Option.bind (gR 5 0 M15 a0) fun v16 =>
   (Option.bind (isC 3 M15 v16) fun _ =>
   (Option.bind (p_X3_append v16 a5 M15) fun M18 =>
   (Option.bind (gR 5 0 M18 a0) fun v19 =>
   (Option.bind (gI 3 1 M18 v19) fun v20 =>
   some (v20, M18)
   )
   )
   )
   )
   )
   )
   )
   )
   )
   )
   )
   )
   )
   )
   )
   )
   )
  else
   some ((-1 : Int32), M)
  )
  )
  )
theorem yk_X6_appendInput : yok yX6_appendInput 5 := by decide +kernel
set_option maxHeartbeats 4000000 in
set_option maxRecDepth 100000 in
theorem w_X6_appendInput {G : gG} (hG : GOK G) {l : Launch} {a0 : Nat} {a1 : Int32} {a2 : Int32} {a3 : Int32} {a4 : Int32} {a5 : Int32} {M : Mem} {r : Int32} {M' : Mem} (hp : p_X6_appendInput a0 a1 a2 a3 a4 a5 M = some (r, M')) : CT G l yX6_appendInput (wT yX6_appendInput cX6_appendInput 6 (some FieldType.int)) rm_X6_appendInput [.ref a0, .int a1, .int a2, .int a3, .int a4, .int a5] M (some (.int r)) M' 0 0 := by
  refine CT_of (own := RX6) (maxL := 6) (ret := (some FieldType.int)) hG (by decide) rfl (Nat.le_of_ble_eq_true rfl) (fun p e s m below meth c A C0 hr hlk hM ls hl => ?_)
  have hl : lv_has ls 6 [(0, .ref a0), (1, .int a1), (2, .int a2), (3, .int a3), (4, .int a4), (5, .int a5)] := hl
  generalize ([.ref a0, .int a1, .int a2, .int a3, .int a4, .int a5] : List Value).toArray = args at C0 ⊢
  skip
  have hx := C0.1
  have hb := C0.2.1
  have hown := C0.2.2.2.1
  have hts := C0.2.2.2.2.1
  unfold p_X6_appendInput at hp
  refine lv_aload_n hx hb dX6_appendInput_0 rfl (lv_at hl 0 rfl) ?_
  obtain ⟨v1, hv1, hp⟩ := ob hp
  refine mr_getR C0 cbX6 hM 0 (by decide) tw_279 hv1 dX6_appendInput_1 ?_
  obtain ⟨v2, hv2, hp⟩ := ob hp
  refine mr_getI C0 cbX3 hM 1 (by decide) tw_210 hv2 dX6_appendInput_4 ?_
  refine lv_bipush (v := 20) hx hb dX6_appendInput_7 (by decide) ?_
  refine lv_iadd hx hb dX6_appendInput_9 ?_
  refine lv_sipush (v := 900) hx hb dX6_appendInput_10 (by decide) ?_
  refine lv_icmp_le (tgt := 18) hx hb dX6_appendInput_13 (by decide) (fun c3 => ?_) (fun c3 => ?_)
  · replace hp := oT c3 hp
    refine lv_aload_n hx hb dX6_appendInput_18 rfl (lv_at hl 0 rfl) ?_
    obtain ⟨v4, hv4, hp⟩ := ob hp
    refine mr_getR C0 cbX6 hM 0 (by decide) tw_279 hv4 dX6_appendInput_19 ?_
    refine lv_iload_n hx hb dX6_appendInput_22 rfl (lv_at hl 1 rfl) ?_
    obtain ⟨_, h5, hp⟩ := ob hp
    obtain ⟨M6, hM6, hp⟩ := ob hp
    refine mr_V0 (As := [.int a1]) (rest := []) C0 cbX3 hM h5 rfl (w_X3_append hG hM6) tw_317 tw_318 tw_319 tw_2 tw_320 yk_X3_append (by decide) rfl hl.1 (Nat.le_of_ble_eq_true rfl) dX6_appendInput_23 rfl (fun H locs hM => ?_)
    refine lv_aload_n hx hb dX6_appendInput_26 rfl (lv_at hl 0 rfl) ?_
    obtain ⟨v7, hv7, hp⟩ := ob hp
    refine mr_getR C0 cbX6 hM 0 (by decide) tw_279 hv7 dX6_appendInput_27 ?_
    refine lv_iload_n hx hb dX6_appendInput_30 rfl (lv_at hl 2 rfl) ?_
    obtain ⟨_, h8, hp⟩ := ob hp
    obtain ⟨M9, hM9, hp⟩ := ob hp
    refine mr_V0 (As := [.int a2]) (rest := []) C0 cbX3 hM h8 rfl (w_X3_append hG hM9) tw_317 tw_318 tw_319 tw_2 tw_320 yk_X3_append (by decide) rfl hl.1 (Nat.le_of_ble_eq_true rfl) dX6_appendInput_31 rfl (fun H locs hM => ?_)
    refine lv_aload_n hx hb dX6_appendInput_34 rfl (lv_at hl 0 rfl) ?_
    obtain ⟨v10, hv10, hp⟩ := ob hp
    refine mr_getR C0 cbX6 hM 0 (by decide) tw_279 hv10 dX6_appendInput_35 ?_
    refine lv_iload_n hx hb dX6_appendInput_38 rfl (lv_at hl 3 rfl) ?_
    obtain ⟨_, h11, hp⟩ := ob hp
    obtain ⟨M12, hM12, hp⟩ := ob hp
    refine mr_V0 (As := [.int a3]) (rest := []) C0 cbX3 hM h11 rfl (w_X3_append hG hM12) tw_317 tw_318 tw_319 tw_2 tw_320 yk_X3_append (by decide) rfl hl.1 (Nat.le_of_ble_eq_true rfl) dX6_appendInput_39 rfl (fun H locs hM => ?_)
    refine lv_aload_n hx hb dX6_appendInput_42 rfl (lv_at hl 0 rfl) ?_
    obtain ⟨v13, hv13, hp⟩ := ob hp
    refine mr_getR C0 cbX6 hM 0 (by decide) tw_279 hv13 dX6_appendInput_43 ?_
    refine lv_iload hx hb dX6_appendInput_46 (lv_at hl 4 rfl) ?_
    obtain ⟨_, h14, hp⟩ := ob hp
    obtain ⟨M15, hM15, hp⟩ := ob hp
    refine mr_V0 (As := [.int a4]) (rest := []) C0 cbX3 hM h14 rfl (w_X3_append hG hM15) tw_317 tw_318 tw_319 tw_2 tw_320 yk_X3_append (by decide) rfl hl.1 (Nat.le_of_ble_eq_true rfl) dX6_appendInput_48 rfl (fun H locs hM => ?_)
    refine lv_aload_n hx hb dX6_appendInput_51 rfl (lv_at hl 0 rfl) ?_
    obtain ⟨v16, hv16, hp⟩ := ob hp
    refine mr_getR C0 cbX6 hM 0 (by decide) tw_279 hv16 dX6_appendInput_52 ?_
    refine lv_iload hx hb dX6_appendInput_55 (lv_at hl 5 rfl) ?_
    obtain ⟨_, h17, hp⟩ := ob hp
    obtain ⟨M18, hM18, hp⟩ := ob hp
    refine mr_V0 (As := [.int a5]) (rest := []) C0 cbX3 hM h17 rfl (w_X3_append hG hM18) tw_317 tw_318 tw_319 tw_2 tw_320 yk_X3_append (by decide) rfl hl.1 (Nat.le_of_ble_eq_true rfl) dX6_appendInput_57 rfl (fun H locs hM => ?_)
    refine lv_aload_n hx hb dX6_appendInput_60 rfl (lv_at hl 0 rfl) ?_
    obtain ⟨v19, hv19, hp⟩ := ob hp
    refine mr_getR C0 cbX6 hM 0 (by decide) tw_279 hv19 dX6_appendInput_61 ?_
    obtain ⟨v20, hv20, hp⟩ := ob hp
    refine mr_getI C0 cbX3 hM 1 (by decide) tw_210 hv20 dX6_appendInput_64 ?_
    exact mr_iret C0 hr hlk hM (Prod.mk.inj (Option.some.inj hp)).2 (Prod.mk.inj (Option.some.inj hp)).1 (Nat.le_refl _) (Nat.le_refl _) dX6_appendInput_67
  · replace hp := oF c3 hp
    refine lv_iconst (v := -1) hx hb dX6_appendInput_16 (by decide) ?_
    exact mr_iret C0 hr hlk hM (Prod.mk.inj (Option.some.inj hp)).2 (Prod.mk.inj (Option.some.inj hp)).1 (Nat.le_refl _) (Nat.le_refl _) dX6_appendInput_17
abbrev rm_X6_truncateInput : Room := { frames := 0, cells := 0, slots := 0, locals := 0 }
def p_X6_truncateInput (a0 : Nat) (a1 : Int32) (M : Mem) : Option (Int32 × Mem) :=
  (if a1 < 0 then
   some ((0 : Int32), M)
  else
   (Option.bind (gR 5 0 M a0) fun v2 =>
   (Option.bind (gI 3 1 M v2) fun v3 =>
   (if a1 ≤ v3 then
    (Option.bind (gR 5 0 M a0) fun v5 =>
    (Option.bind (sV 3 1 M v5 (.int a1)) fun M6 =>
    some ((1 : Int32), M6)
    )
    )
   else
    some ((0 : Int32), M)
   )
   )
   )
  )
theorem yk_X6_truncateInput : yok yX6_truncateInput 1 := by decide +kernel
set_option maxHeartbeats 4000000 in
set_option maxRecDepth 100000 in
theorem w_X6_truncateInput {G : gG} (hG : GOK G) {l : Launch} {a0 : Nat} {a1 : Int32} {M : Mem} {r : Int32} {M' : Mem} (hp : p_X6_truncateInput a0 a1 M = some (r, M')) : CT G l yX6_truncateInput (wT yX6_truncateInput cX6_truncateInput 2 (some FieldType.boolean)) rm_X6_truncateInput [.ref a0, .int a1] M (some (.int r)) M' 0 0 := by
  refine CT_of (own := RX6) (maxL := 2) (ret := (some FieldType.boolean)) hG (by decide) rfl (Nat.le_of_ble_eq_true rfl) (fun p e s m below meth c A C0 hr hlk hM ls hl => ?_)
  have hl : lv_has ls 2 [(0, .ref a0), (1, .int a1)] := hl
  generalize ([.ref a0, .int a1] : List Value).toArray = args at C0 ⊢
  skip
  have hx := C0.1
  have hb := C0.2.1
  have hown := C0.2.2.2.1
  have hts := C0.2.2.2.2.1
  unfold p_X6_truncateInput at hp
  refine lv_iload_n hx hb dX6_truncateInput_0 rfl (lv_at hl 1 rfl) ?_
  refine lv_if_lt (tgt := 15) hx hb dX6_truncateInput_1 (by decide) (fun c1 => ?_) (fun c1 => ?_)
  · replace hp := oT c1 hp
    refine lv_iconst (v := 0) hx hb dX6_truncateInput_15 (by decide) ?_
    exact mr_zret C0 hr hlk hM (Prod.mk.inj (Option.some.inj hp)).2 (Or.inl rfl) (Prod.mk.inj (Option.some.inj hp)).1 (Nat.le_refl _) (Nat.le_refl _) dX6_truncateInput_16
  · replace hp := oF c1 hp
    refine lv_iload_n hx hb dX6_truncateInput_4 rfl (lv_at hl 1 rfl) ?_
    refine lv_aload_n hx hb dX6_truncateInput_5 rfl (lv_at hl 0 rfl) ?_
    obtain ⟨v2, hv2, hp⟩ := ob hp
    refine mr_getR C0 cbX6 hM 0 (by decide) tw_279 hv2 dX6_truncateInput_6 ?_
    obtain ⟨v3, hv3, hp⟩ := ob hp
    refine mr_getI C0 cbX3 hM 1 (by decide) tw_210 hv3 dX6_truncateInput_9 ?_
    refine lv_icmp_le (tgt := 17) hx hb dX6_truncateInput_12 (by decide) (fun c4 => ?_) (fun c4 => ?_)
    · replace hp := oT c4 hp
      refine lv_aload_n hx hb dX6_truncateInput_17 rfl (lv_at hl 0 rfl) ?_
      obtain ⟨v5, hv5, hp⟩ := ob hp
      refine mr_getR C0 cbX6 hM 0 (by decide) tw_279 hv5 dX6_truncateInput_18 ?_
      refine lv_iload_n hx hb dX6_truncateInput_21 rfl (lv_at hl 1 rfl) ?_
      obtain ⟨M6, hM6, hp⟩ := ob hp
      refine mr_putI C0 cbX3 hM 1 (by decide) rfl rfl tw_210 hM6 dX6_truncateInput_22 (fun H locs hM => ?_)
      refine lv_iconst (v := 1) hx hb dX6_truncateInput_25 (by decide) ?_
      exact mr_zret C0 hr hlk hM (Prod.mk.inj (Option.some.inj hp)).2 (Or.inr rfl) (Prod.mk.inj (Option.some.inj hp)).1 (Nat.le_refl _) (Nat.le_refl _) dX6_truncateInput_26
    · replace hp := oF c4 hp
      refine lv_iconst (v := 0) hx hb dX6_truncateInput_15 (by decide) ?_
      exact mr_zret C0 hr hlk hM (Prod.mk.inj (Option.some.inj hp)).2 (Or.inl rfl) (Prod.mk.inj (Option.some.inj hp)).1 (Nat.le_refl _) (Nat.le_refl _) dX6_truncateInput_16
abbrev rm_X6_loadOffice : Room := { frames := 10, cells := 0, slots := 0, locals := 218 }
def p_X6_loadOffice (Z : gZ) (a0 : Nat) (M : Mem) : Option (Int32 × Mem) :=
  (Option.bind (gR 5 0 M a0) fun v1 =>
  (Option.bind (isC 3 M v1) fun _ =>
  (Option.bind (p_X3_readSetup Z v1 M) fun M3 =>
  (Option.bind (gR 5 0 M3 a0) fun v4 =>
  (Option.bind (sV 3 1 M3 v4 (.int (0 : Int32))) fun M5 =>
  (Option.bind (gR 5 0 M5 a0) fun v6 =>
  (Option.bind (gI 3 2 M5 v6) fun v7 =>
  (if v7 = 0 then
   (Option.bind (gR 5 3 M5 a0) fun v9 =>
   (Option.bind (gR 5 0 M5 a0) fun v10 =>
   (Option.bind (gR 3 4 M5 v10) fun v11 =>
   (Option.bind (sV 5 3 M5 a0 (.ref v11)) fun M12 =>
   (Option.bind (gR 5 0 M12 a0) fun v13 =>
   (Option.bind (sV 3 4 M12 v13 (.ref v9)) fun M14 =>
   (Option.bind (sZ 5 7 M14 a0 (0 : Int32)) fun M15 =>
   (Option.bind (sV 5 10 M15 a0 (.int (0 : Int32))) fun M16 =>
   (Option.bind (gR 5 3 M16 a0) fun v17 =>
   (Option.bind (gI 2 1 M16 v17) fun v18 =>
   some (v18, M16)
   )
   )
   )
   )
   )
   )
   )
   )
   )
   )
  else
   some ((-1 : Int32), M5)
  )
  )
  )
  )
  )
  )
  )
  )
theorem yk_X6_loadOffice : yok yX6_loadOffice 0 := by decide +kernel
set_option maxHeartbeats 4000000 in
set_option maxRecDepth 100000 in
theorem w_X6_loadOffice {G : gG} (hG : GOK G) {Z : gZ} (hZ : GS G Z) {l : Launch} {a0 : Nat} {M : Mem} {r : Int32} {M' : Mem} (hp : p_X6_loadOffice Z a0 M = some (r, M')) : CT G l yX6_loadOffice (wT yX6_loadOffice cX6_loadOffice 2 (some FieldType.int)) rm_X6_loadOffice [.ref a0] M (some (.int r)) M' 0 0 := by
  refine CT_of (own := RX6) (maxL := 2) (ret := (some FieldType.int)) hG (by decide) rfl (Nat.le_of_ble_eq_true rfl) (fun p e s m below meth c A C0 hr hlk hM ls hl => ?_)
  have hl : lv_has ls 2 [(0, .ref a0)] := hl
  generalize ([.ref a0] : List Value).toArray = args at C0 ⊢
  skip
  have hx := C0.1
  have hb := C0.2.1
  have hown := C0.2.2.2.1
  have hts := C0.2.2.2.2.1
  unfold p_X6_loadOffice at hp
  refine lv_aload_n hx hb dX6_loadOffice_0 rfl (lv_at hl 0 rfl) ?_
  obtain ⟨v1, hv1, hp⟩ := ob hp
  refine mr_getR C0 cbX6 hM 0 (by decide) tw_279 hv1 dX6_loadOffice_1 ?_
  obtain ⟨_, h2, hp⟩ := ob hp
  obtain ⟨M3, hM3, hp⟩ := ob hp
  refine mr_V0 (As := []) (rest := []) C0 cbX3 hM h2 rfl (w_X3_readSetup hG hZ hM3) tw_329 tw_330 tw_331 tw_2 tw_332 yk_X3_readSetup (by decide) rfl hl.1 (Nat.le_of_ble_eq_true rfl) dX6_loadOffice_4 rfl (fun H locs hM => ?_)
  refine lv_aload_n hx hb dX6_loadOffice_7 rfl (lv_at hl 0 rfl) ?_
  obtain ⟨v4, hv4, hp⟩ := ob hp
  refine mr_getR C0 cbX6 hM 0 (by decide) tw_279 hv4 dX6_loadOffice_8 ?_
  refine lv_iconst (v := 0) hx hb dX6_loadOffice_11 (by decide) ?_
  obtain ⟨M5, hM5, hp⟩ := ob hp
  refine mr_putI C0 cbX3 hM 1 (by decide) rfl rfl tw_210 hM5 dX6_loadOffice_12 (fun H locs hM => ?_)
  refine lv_aload_n hx hb dX6_loadOffice_15 rfl (lv_at hl 0 rfl) ?_
  obtain ⟨v6, hv6, hp⟩ := ob hp
  refine mr_getR C0 cbX6 hM 0 (by decide) tw_279 hv6 dX6_loadOffice_16 ?_
  obtain ⟨v7, hv7, hp⟩ := ob hp
  refine mr_getI C0 cbX3 hM 2 (by decide) tw_212 hv7 dX6_loadOffice_19 ?_
  refine lv_if_eq (tgt := 27) hx hb dX6_loadOffice_22 (by decide) (fun c8 => ?_) (fun c8 => ?_)
  · replace hp := oT c8 hp
    refine lv_aload_n hx hb dX6_loadOffice_27 rfl (lv_at hl 0 rfl) ?_
    obtain ⟨v9, hv9, hp⟩ := ob hp
    refine mr_getR C0 cbX6 hM 3 (by decide) tw_282 hv9 dX6_loadOffice_28 ?_
    refine lv_astore_n (lv' := [(1, .ref v9), (0, .ref a0)]) hx hb dX6_loadOffice_31 rfl hl (by decide) rfl (fun ls hl => ?_)
    refine lv_aload_n hx hb dX6_loadOffice_32 rfl (lv_at hl 1 rfl) ?_
    refine lv_aload_n hx hb dX6_loadOffice_33 rfl (lv_at hl 1 rfl) ?_
    obtain ⟨v10, hv10, hp⟩ := ob hp
    refine mr_getR C0 cbX6 hM 0 (by decide) tw_279 hv10 dX6_loadOffice_34 ?_
    obtain ⟨v11, hv11, hp⟩ := ob hp
    refine mr_getR C0 cbX3 hM 4 (by decide) tw_216 hv11 dX6_loadOffice_37 ?_
    obtain ⟨M12, hM12, hp⟩ := ob hp
    refine mr_putR C0 cbX6 hM 3 (by decide) rfl rfl tw_282 hM12 dX6_loadOffice_40 (fun H locs hM => ?_)
    refine lv_aload_n hx hb dX6_loadOffice_43 rfl (lv_at hl 1 rfl) ?_
    obtain ⟨v13, hv13, hp⟩ := ob hp
    refine mr_getR C0 cbX6 hM 0 (by decide) tw_279 hv13 dX6_loadOffice_44 ?_
    refine lv_aload_n hx hb dX6_loadOffice_47 rfl (lv_at hl 0 rfl) ?_
    obtain ⟨M14, hM14, hp⟩ := ob hp
    refine mr_putR C0 cbX3 hM 4 (by decide) rfl rfl tw_216 hM14 dX6_loadOffice_48 (fun H locs hM => ?_)
    refine lv_aload_n hx hb dX6_loadOffice_51 rfl (lv_at hl 1 rfl) ?_
    refine lv_iconst (v := 0) hx hb dX6_loadOffice_52 (by decide) ?_
    obtain ⟨M15, hM15, hp⟩ := ob hp
    refine mr_putZ C0 cbX6 hM 7 (by decide) rfl rfl tw_286 hM15 dX6_loadOffice_53 (fun H locs hM => ?_)
    refine lv_aload_n hx hb dX6_loadOffice_56 rfl (lv_at hl 1 rfl) ?_
    refine lv_iconst (v := 0) hx hb dX6_loadOffice_57 (by decide) ?_
    obtain ⟨M16, hM16, hp⟩ := ob hp
    refine mr_putI C0 cbX6 hM 10 (by decide) rfl rfl tw_289 hM16 dX6_loadOffice_58 (fun H locs hM => ?_)
    refine lv_aload_n hx hb dX6_loadOffice_61 rfl (lv_at hl 1 rfl) ?_
    obtain ⟨v17, hv17, hp⟩ := ob hp
    refine mr_getR C0 cbX6 hM 3 (by decide) tw_282 hv17 dX6_loadOffice_62 ?_
    obtain ⟨v18, hv18, hp⟩ := ob hp
    refine mr_getI C0 cbX2 hM 1 (by decide) tw_121 hv18 dX6_loadOffice_65 ?_
    exact mr_iret C0 hr hlk hM (Prod.mk.inj (Option.some.inj hp)).2 (Prod.mk.inj (Option.some.inj hp)).1 (Nat.le_refl _) (Nat.le_refl _) dX6_loadOffice_68
  · replace hp := oF c8 hp
    refine lv_iconst (v := -1) hx hb dX6_loadOffice_25 (by decide) ?_
    exact mr_iret C0 hr hlk hM (Prod.mk.inj (Option.some.inj hp)).2 (Prod.mk.inj (Option.some.inj hp)).1 (Nat.le_refl _) (Nat.le_refl _) dX6_loadOffice_26
abbrev rm_X6_errorCode : Room := { frames := 0, cells := 0, slots := 0, locals := 0 }
def p_X6_errorCode (a0 : Nat) (M : Mem) : Option (Int32) :=
  (Option.bind (gR 5 0 M a0) fun v1 =>
  (Option.bind (gI 3 2 M v1) fun v2 =>
  some v2
  )
  )
theorem yk_X6_errorCode : yok yX6_errorCode 0 := by decide +kernel
set_option maxHeartbeats 4000000 in
set_option maxRecDepth 100000 in
theorem w_X6_errorCode {G : gG} (hG : GOK G) {l : Launch} {a0 : Nat} {M : Mem} {r : Int32} (hp : p_X6_errorCode a0 M = some r) : CT G l yX6_errorCode (wT yX6_errorCode cX6_errorCode 1 (some FieldType.int)) rm_X6_errorCode [.ref a0] M (some (.int r)) M 0 0 := by
  refine CT_of (own := RX6) (maxL := 1) (ret := (some FieldType.int)) hG (by decide) rfl (Nat.le_of_ble_eq_true rfl) (fun p e s m below meth c A C0 hr hlk hM ls hl => ?_)
  have hl : lv_has ls 1 [(0, .ref a0)] := hl
  generalize ([.ref a0] : List Value).toArray = args at C0 ⊢
  skip
  have hx := C0.1
  have hb := C0.2.1
  have hown := C0.2.2.2.1
  have hts := C0.2.2.2.2.1
  unfold p_X6_errorCode at hp
  refine lv_aload_n hx hb dX6_errorCode_0 rfl (lv_at hl 0 rfl) ?_
  obtain ⟨v1, hv1, hp⟩ := ob hp
  refine mr_getR C0 cbX6 hM 0 (by decide) tw_279 hv1 dX6_errorCode_1 ?_
  obtain ⟨v2, hv2, hp⟩ := ob hp
  refine mr_getI C0 cbX3 hM 2 (by decide) tw_212 hv2 dX6_errorCode_4 ?_
  exact mr_iret C0 hr hlk hM rfl (Option.some.inj hp) (Nat.le_refl _) (Nat.le_refl _) dX6_errorCode_7
abbrev rm_X6_errorOffset : Room := { frames := 0, cells := 0, slots := 0, locals := 0 }
def p_X6_errorOffset (a0 : Nat) (M : Mem) : Option (Int32) :=
  (Option.bind (gR 5 0 M a0) fun v1 =>
  (Option.bind (gI 3 3 M v1) fun v2 =>
  some v2
  )
  )
theorem yk_X6_errorOffset : yok yX6_errorOffset 0 := by decide +kernel
set_option maxHeartbeats 4000000 in
set_option maxRecDepth 100000 in
theorem w_X6_errorOffset {G : gG} (hG : GOK G) {l : Launch} {a0 : Nat} {M : Mem} {r : Int32} (hp : p_X6_errorOffset a0 M = some r) : CT G l yX6_errorOffset (wT yX6_errorOffset cX6_errorOffset 1 (some FieldType.int)) rm_X6_errorOffset [.ref a0] M (some (.int r)) M 0 0 := by
  refine CT_of (own := RX6) (maxL := 1) (ret := (some FieldType.int)) hG (by decide) rfl (Nat.le_of_ble_eq_true rfl) (fun p e s m below meth c A C0 hr hlk hM ls hl => ?_)
  have hl : lv_has ls 1 [(0, .ref a0)] := hl
  generalize ([.ref a0] : List Value).toArray = args at C0 ⊢
  skip
  have hx := C0.1
  have hb := C0.2.1
  have hown := C0.2.2.2.1
  have hts := C0.2.2.2.2.1
  unfold p_X6_errorOffset at hp
  refine lv_aload_n hx hb dX6_errorOffset_0 rfl (lv_at hl 0 rfl) ?_
  obtain ⟨v1, hv1, hp⟩ := ob hp
  refine mr_getR C0 cbX6 hM 0 (by decide) tw_279 hv1 dX6_errorOffset_1 ?_
  obtain ⟨v2, hv2, hp⟩ := ob hp
  refine mr_getI C0 cbX3 hM 3 (by decide) tw_214 hv2 dX6_errorOffset_4 ?_
  exact mr_iret C0 hr hlk hM rfl (Option.some.inj hp) (Nat.le_refl _) (Nat.le_refl _) dX6_errorOffset_7
abbrev rm_X6_rowLength : Room := { frames := 1, cells := 0, slots := 0, locals := 21 }
def pl_X6_rowLength_4 (k1 : Int32 → Option (Int32)) (f0 : Int32) (M : Mem) : Nat → Int32 → Int32 → Option (Int32)
  | 0, _, _ => none
  | n + 1, y1, y2 =>
    (if (4 : Int32) ≤ y2 then
     (k1 y1)
    else
     (Option.bind (p_X6_rowEntry f0 y2 M) fun v2 =>
     (jn (fun (s3 : Int32) =>
      (pl_X6_rowLength_4 k1 f0 M n (y1 + s3) (y2 + (1 : Int32)))
     ) fun k4 =>
     (if v2 = (-1 : Int32) then
      (k4 (0 : Int32))
     else
      (k4 (1 : Int32))
     )
     )
     )
    )
set_option maxHeartbeats 4000000 in
set_option maxRecDepth 100000 in
theorem wl_X6_rowLength_4 {G : gG} {p : Program} {l : Launch} {e : Env} {s : State} {m : MethodId} {args : Array Value} {below : List Frame} {meth : Method} {c : Code} {A : Nat → Prop} {r : Int32} {k1 : Int32 → Option (Int32)} {f0 : Int32} {M : Mem} (C0 : cx G p s m args c cX6_rowLength RX6 3 A) (hr : meth.sig.returnType = (some FieldType.int)) (hlk : meth.locks = false) (hG : GOK G) (hk1 : ∀ (z1 : Int32) (H : Heap) (locs : List Loc) (ls : Array Slot), mm G A s M H locs → lv_has ls 3 [(1, .int z1)] → k1 z1 = some r → W p l e rm_X6_rowLength s m args below meth c H locs 0 0 (MQ below (CQ G M (some (.int r)) A) args s 0 0 A) (F0 m 32 ls [])) : ∀ (n : Nat) (y1 : Int32) (y2 : Int32) (H : Heap) (locs : List Loc) (ls : Array Slot), mm G A s M H locs → lv_has ls 3 [(0, .int f0), (1, .int y1), (2, .int y2)] → pl_X6_rowLength_4 k1 f0 M n y1 y2 = some r → W p l e rm_X6_rowLength s m args below meth c H locs 0 0 (MQ below (CQ G M (some (.int r)) A) args s 0 0 A) (F0 m 4 ls []) := by
  have hx := C0.1
  have hb := C0.2.1
  have hown := C0.2.2.2.1
  have hts := C0.2.2.2.2.1
  intro n
  induction n with
  | zero => intro y1 y2 H locs ls hM hl hp; rw [pl_X6_rowLength_4] at hp; cases hp
  | succ n ih =>
    intro y1 y2 H locs ls hM hl hp
    rw [pl_X6_rowLength_4] at hp
    refine lv_iload_n hx hb dX6_rowLength_4 rfl (lv_at hl 2 rfl) ?_
    refine lv_iconst (v := 4) hx hb dX6_rowLength_5 (by decide) ?_
    refine lv_icmp_ge (tgt := 32) hx hb dX6_rowLength_6 (by decide) (fun c1 => ?_) (fun c1 => ?_)
    · replace hp := oT c1 hp
      exact hk1 _ _ _ _ hM (lv_sub hl [1] rfl) hp
    · replace hp := oF c1 hp
      refine lv_iload_n hx hb dX6_rowLength_9 rfl (lv_at hl 1 rfl) ?_
      refine lv_iload_n hx hb dX6_rowLength_10 rfl (lv_at hl 0 rfl) ?_
      refine lv_iload_n hx hb dX6_rowLength_11 rfl (lv_at hl 2 rfl) ?_
      obtain ⟨v2, hv2, hp⟩ := ob hp
      refine mr_S1 (As := [.int f0, .int y2]) (rest := [.int y1]) C0 hM (w_X6_rowEntry hG hv2) tw_831 tw_572 tw_1 tw_573 yk_X6_rowEntry (by decide) rfl hl.1 (Nat.le_of_ble_eq_true rfl) dX6_rowLength_12 rfl (fun H locs hM => ?_)
      refine lv_iconst (v := -1) hx hb dX6_rowLength_15 (by decide) ?_
      obtain ⟨k4, ek4, hp⟩ := ojn hp
      have hk4 : ∀ (s3 : Int32) (H : Heap) (locs : List Loc) (ls : Array Slot), mm G A s M H locs → lv_has ls 3 [(0, .int f0), (2, .int y2)] → k4 s3 = some r → W p l e rm_X6_rowLength s m args below meth c H locs 0 0 (MQ below (CQ G M (some (.int r)) A) args s 0 0 A) (F0 m 24 ls [.int s3, .int y1]) := by
        intro s3 H locs ls hM hl hp
        rw [ek4] at hp
        refine lv_iadd hx hb dX6_rowLength_24 ?_
        refine lv_istore_n (lv' := [(1, .int (y1 + s3)), (0, .int f0), (2, .int y2)]) hx hb dX6_rowLength_25 rfl hl (by decide) rfl (fun ls hl => ?_)
        refine lv_iinc (v := (y2 + (1 : Int32))) (lv' := [(2, .int (y2 + (1 : Int32))), (1, .int (y1 + s3)), (0, .int f0)]) hx hb dX6_rowLength_26 hl (k := 2) rfl rfl (by decide) rfl (fun ls hl => ?_)
        refine lv_goto (tgt := 4) hx hb dX6_rowLength_29 (by decide) ?_
        exact ih _ _ _ _ _ hM (lv_sub hl [2, 1, 0] rfl) hp
      refine lv_icmp_ne (tgt := 23) hx hb dX6_rowLength_16 (by decide) (fun c5 => ?_) (fun c5 => ?_)
      · replace hp := oF c5 hp
        refine lv_iconst (v := 1) hx hb dX6_rowLength_23 (by decide) ?_
        exact hk4 _ _ _ _ hM (lv_sub hl [0, 2] rfl) hp
      · replace hp := oT c5 hp
        refine lv_iconst (v := 0) hx hb dX6_rowLength_19 (by decide) ?_
        refine lv_goto (tgt := 24) hx hb dX6_rowLength_20 (by decide) ?_
        exact hk4 _ _ _ _ hM (lv_sub hl [0, 2] rfl) hp
def p_X6_rowLength (a0 : Int32) (M : Mem) : Option (Int32) :=
  (pl_X6_rowLength_4
   (fun (z6 : Int32) =>
    some z6
   )
   a0 M FU (0 : Int32) (0 : Int32))
theorem yk_X6_rowLength : yok yX6_rowLength 1 := by decide +kernel
set_option maxHeartbeats 4000000 in
set_option maxRecDepth 100000 in
theorem w_X6_rowLength {G : gG} (hG : GOK G) {l : Launch} {a0 : Int32} {M : Mem} {r : Int32} (hp : p_X6_rowLength a0 M = some r) : CT G l yX6_rowLength (wT yX6_rowLength cX6_rowLength 3 (some FieldType.int)) rm_X6_rowLength [.int a0] M (some (.int r)) M 0 0 := by
  refine CT_of (own := RX6) (maxL := 3) (ret := (some FieldType.int)) hG (by decide) rfl (Nat.le_of_ble_eq_true rfl) (fun p e s m below meth c A C0 hr hlk hM ls hl => ?_)
  have hl : lv_has ls 3 [(0, .int a0)] := hl
  generalize ([.int a0] : List Value).toArray = args at C0 ⊢
  skip
  have hx := C0.1
  have hb := C0.2.1
  have hown := C0.2.2.2.1
  have hts := C0.2.2.2.2.1
  unfold p_X6_rowLength at hp
  refine lv_iconst (v := 0) hx hb dX6_rowLength_0 (by decide) ?_
  refine lv_istore_n (lv' := [(1, .int (0 : Int32)), (0, .int a0)]) hx hb dX6_rowLength_1 rfl hl (by decide) rfl (fun ls hl => ?_)
  refine lv_iconst (v := 0) hx hb dX6_rowLength_2 (by decide) ?_
  refine lv_istore_n (lv' := [(2, .int (0 : Int32)), (1, .int (0 : Int32)), (0, .int a0)]) hx hb dX6_rowLength_3 rfl hl (by decide) rfl (fun ls hl => ?_)
  refine wl_X6_rowLength_4 C0 hr hlk hG (fun z6 H locs ls hM hl hp => ?_) FU _ _ _ _ _ hM (lv_sub hl [2, 1, 0] rfl) hp
  refine lv_iload_n hx hb dX6_rowLength_32 rfl (lv_at hl 0 rfl) ?_
  exact mr_iret C0 hr hlk hM rfl (Option.some.inj hp) (Nat.le_refl _) (Nat.le_refl _) dX6_rowLength_33
abbrev rm_X6_claims : Room := { frames := 5, cells := 0, slots := 0, locals := 124 }
def pl_X6_claims_20 (k1 : Int32 → Option (Int32)) (f0 : Nat) (f2 : Int32) (M : Mem) : Nat → Int32 → Int32 → Option (Int32)
  | 0, _, _ => none
  | n + 1, y1, y3 =>
    (Option.bind (gR 5 3 M f0) fun v5 =>
    (Option.bind (gI 2 1 M v5) fun v6 =>
    (if v6 ≤ y3 then
     (k1 y1)
    else
     (Option.bind (gR 5 3 M f0) fun v8 =>
     (Option.bind (isC 2 M v8) fun _ =>
     (Option.bind (p_X2_claimStands v8 y3 f2 M) fun v10 =>
     (if v10 = 0 then
      (pl_X6_claims_20 k1 f0 f2 M n y1 (y3 + (1 : Int32)))
     else
      (pl_X6_claims_20 k1 f0 f2 M n (y1 + (1 : Int32)) (y3 + (1 : Int32)))
     )
     )
     )
     )
    )
    )
    )
set_option maxHeartbeats 4000000 in
set_option maxRecDepth 100000 in
theorem wl_X6_claims_20 {G : gG} {p : Program} {l : Launch} {e : Env} {s : State} {m : MethodId} {args : Array Value} {below : List Frame} {meth : Method} {c : Code} {A : Nat → Prop} {r : Int32} {k1 : Int32 → Option (Int32)} {f0 : Nat} {f2 : Int32} {M : Mem} (C0 : cx G p s m args c cX6_claims RX6 4 A) (hr : meth.sig.returnType = (some FieldType.int)) (hlk : meth.locks = false) (hG : GOK G) (hk1 : ∀ (z1 : Int32) (H : Heap) (locs : List Loc) (ls : Array Slot), mm G A s M H locs → lv_has ls 4 [(0, .ref f0), (1, .int z1), (2, .int f2)] → k1 z1 = some r → W p l e rm_X6_claims s m args below meth c H locs 0 0 (MQ below (CQ G M (some (.int r)) A) args s 0 0 A) (F0 m 52 ls [])) : ∀ (n : Nat) (y1 : Int32) (y3 : Int32) (H : Heap) (locs : List Loc) (ls : Array Slot), mm G A s M H locs → lv_has ls 4 [(0, .ref f0), (1, .int y1), (2, .int f2), (3, .int y3)] → pl_X6_claims_20 k1 f0 f2 M n y1 y3 = some r → W p l e rm_X6_claims s m args below meth c H locs 0 0 (MQ below (CQ G M (some (.int r)) A) args s 0 0 A) (F0 m 20 ls []) := by
  have hx := C0.1
  have hb := C0.2.1
  have hown := C0.2.2.2.1
  have hts := C0.2.2.2.2.1
  intro n
  induction n with
  | zero => intro y1 y3 H locs ls hM hl hp; rw [pl_X6_claims_20] at hp; cases hp
  | succ n ih =>
    intro y1 y3 H locs ls hM hl hp
    rw [pl_X6_claims_20] at hp
    refine lv_iload_n hx hb dX6_claims_20 rfl (lv_at hl 3 rfl) ?_
    refine lv_aload_n hx hb dX6_claims_21 rfl (lv_at hl 0 rfl) ?_
    obtain ⟨v5, hv5, hp⟩ := ob hp
    refine mr_getR C0 cbX6 hM 3 (by decide) tw_282 hv5 dX6_claims_22 ?_
    obtain ⟨v6, hv6, hp⟩ := ob hp
    refine mr_getI C0 cbX2 hM 1 (by decide) tw_121 hv6 dX6_claims_25 ?_
    refine lv_icmp_ge (tgt := 52) hx hb dX6_claims_28 (by decide) (fun c7 => ?_) (fun c7 => ?_)
    · replace hp := oT c7 hp
      exact hk1 _ _ _ _ hM (lv_sub hl [0, 1, 2] rfl) hp
    · replace hp := oF c7 hp
      refine lv_aload_n hx hb dX6_claims_31 rfl (lv_at hl 0 rfl) ?_
      obtain ⟨v8, hv8, hp⟩ := ob hp
      refine mr_getR C0 cbX6 hM 3 (by decide) tw_282 hv8 dX6_claims_32 ?_
      refine lv_iload_n hx hb dX6_claims_35 rfl (lv_at hl 3 rfl) ?_
      refine lv_iload_n hx hb dX6_claims_36 rfl (lv_at hl 2 rfl) ?_
      obtain ⟨_, h9, hp⟩ := ob hp
      obtain ⟨v10, hv10, hp⟩ := ob hp
      refine mr_V1 (As := [.int y3, .int f2]) (rest := []) C0 cbX2 hM h9 rfl (w_X2_claimStands hG hv10) tw_538 tw_539 tw_540 tw_3 tw_541 yk_X2_claimStands (by decide) rfl hl.1 (Nat.le_of_ble_eq_true rfl) dX6_claims_37 rfl (fun H locs hM => ?_)
      refine lv_if_eq (tgt := 46) hx hb dX6_claims_40 (by decide) (fun c11 => ?_) (fun c11 => ?_)
      · replace hp := oT c11 hp
        refine lv_iinc (v := (y3 + (1 : Int32))) (lv' := [(3, .int (y3 + (1 : Int32))), (0, .ref f0), (1, .int y1), (2, .int f2)]) hx hb dX6_claims_46 hl (k := 3) rfl rfl (by decide) rfl (fun ls hl => ?_)
        refine lv_goto (tgt := 20) hx hb dX6_claims_49 (by decide) ?_
        exact ih _ _ _ _ _ hM (lv_sub hl [1, 2, 3, 0] rfl) hp
      · replace hp := oF c11 hp
        refine lv_iinc (v := (y1 + (1 : Int32))) (lv' := [(1, .int (y1 + (1 : Int32))), (0, .ref f0), (2, .int f2), (3, .int y3)]) hx hb dX6_claims_43 hl (k := 1) rfl rfl (by decide) rfl (fun ls hl => ?_)
        refine lv_iinc (v := (y3 + (1 : Int32))) (lv' := [(3, .int (y3 + (1 : Int32))), (1, .int (y1 + (1 : Int32))), (0, .ref f0), (2, .int f2)]) hx hb dX6_claims_46 hl (k := 3) rfl rfl (by decide) rfl (fun ls hl => ?_)
        refine lv_goto (tgt := 20) hx hb dX6_claims_49 (by decide) ?_
        exact ih _ _ _ _ _ hM (lv_sub hl [2, 1, 3, 0] rfl) hp
def pl_X6_claims_4 (k1 : Int32 → Option (Int32)) (f0 : Nat) (M : Mem) : Nat → Int32 → Int32 → Option (Int32)
  | 0, _, _ => none
  | n + 1, y1, y2 =>
    (Option.bind (gR 5 3 M f0) fun v1 =>
    (Option.bind (gR 2 0 M v1) fun v2 =>
    (Option.bind (gI 4 0 M v2) fun v3 =>
    (if v3 ≤ y2 then
     (k1 y1)
    else
     (pl_X6_claims_20
      (fun (z12 : Int32) =>
       (pl_X6_claims_4 k1 f0 M n z12 (y2 + (1 : Int32)))
      )
      f0 y2 M FU y1 (0 : Int32))
    )
    )
    )
    )
set_option maxHeartbeats 4000000 in
set_option maxRecDepth 100000 in
theorem wl_X6_claims_4 {G : gG} {p : Program} {l : Launch} {e : Env} {s : State} {m : MethodId} {args : Array Value} {below : List Frame} {meth : Method} {c : Code} {A : Nat → Prop} {r : Int32} {k1 : Int32 → Option (Int32)} {f0 : Nat} {M : Mem} (C0 : cx G p s m args c cX6_claims RX6 4 A) (hr : meth.sig.returnType = (some FieldType.int)) (hlk : meth.locks = false) (hG : GOK G) (hk1 : ∀ (z1 : Int32) (H : Heap) (locs : List Loc) (ls : Array Slot), mm G A s M H locs → lv_has ls 4 [(1, .int z1)] → k1 z1 = some r → W p l e rm_X6_claims s m args below meth c H locs 0 0 (MQ below (CQ G M (some (.int r)) A) args s 0 0 A) (F0 m 58 ls [])) : ∀ (n : Nat) (y1 : Int32) (y2 : Int32) (H : Heap) (locs : List Loc) (ls : Array Slot), mm G A s M H locs → lv_has ls 4 [(0, .ref f0), (1, .int y1), (2, .int y2)] → pl_X6_claims_4 k1 f0 M n y1 y2 = some r → W p l e rm_X6_claims s m args below meth c H locs 0 0 (MQ below (CQ G M (some (.int r)) A) args s 0 0 A) (F0 m 4 ls []) := by
  have hx := C0.1
  have hb := C0.2.1
  have hown := C0.2.2.2.1
  have hts := C0.2.2.2.2.1
  intro n
  induction n with
  | zero => intro y1 y2 H locs ls hM hl hp; rw [pl_X6_claims_4] at hp; cases hp
  | succ n ih =>
    intro y1 y2 H locs ls hM hl hp
    rw [pl_X6_claims_4] at hp
    refine lv_iload_n hx hb dX6_claims_4 rfl (lv_at hl 2 rfl) ?_
    refine lv_aload_n hx hb dX6_claims_5 rfl (lv_at hl 0 rfl) ?_
    obtain ⟨v1, hv1, hp⟩ := ob hp
    refine mr_getR C0 cbX6 hM 3 (by decide) tw_282 hv1 dX6_claims_6 ?_
    obtain ⟨v2, hv2, hp⟩ := ob hp
    refine mr_getR C0 cbX2 hM 0 (by decide) tw_115 hv2 dX6_claims_9 ?_
    obtain ⟨v3, hv3, hp⟩ := ob hp
    refine mr_getI C0 cbX4 hM 0 (by decide) tw_50 hv3 dX6_claims_12 ?_
    refine lv_icmp_ge (tgt := 58) hx hb dX6_claims_15 (by decide) (fun c4 => ?_) (fun c4 => ?_)
    · replace hp := oT c4 hp
      exact hk1 _ _ _ _ hM (lv_sub hl [1] rfl) hp
    · replace hp := oF c4 hp
      refine lv_iconst (v := 0) hx hb dX6_claims_18 (by decide) ?_
      refine lv_istore_n (lv' := [(3, .int (0 : Int32)), (0, .ref f0), (1, .int y1), (2, .int y2)]) hx hb dX6_claims_19 rfl hl (by decide) rfl (fun ls hl => ?_)
      refine wl_X6_claims_20 C0 hr hlk hG (fun z12 H locs ls hM hl hp => ?_) FU _ _ _ _ _ hM (lv_sub hl [1, 2, 3, 0] rfl) hp
      refine lv_iinc (v := (y2 + (1 : Int32))) (lv' := [(2, .int (y2 + (1 : Int32))), (0, .ref f0), (1, .int z12)]) hx hb dX6_claims_52 hl (k := 2) rfl rfl (by decide) rfl (fun ls hl => ?_)
      refine lv_goto (tgt := 4) hx hb dX6_claims_55 (by decide) ?_
      exact ih _ _ _ _ _ hM (lv_sub hl [1, 2, 0] rfl) hp
def p_X6_claims (a0 : Nat) (M : Mem) : Option (Int32) :=
  (pl_X6_claims_4
   (fun (z13 : Int32) =>
    some z13
   )
   a0 M FU (0 : Int32) (0 : Int32))
theorem yk_X6_claims : yok yX6_claims 0 := by decide +kernel
set_option maxHeartbeats 4000000 in
set_option maxRecDepth 100000 in
theorem w_X6_claims {G : gG} (hG : GOK G) {l : Launch} {a0 : Nat} {M : Mem} {r : Int32} (hp : p_X6_claims a0 M = some r) : CT G l yX6_claims (wT yX6_claims cX6_claims 4 (some FieldType.int)) rm_X6_claims [.ref a0] M (some (.int r)) M 0 0 := by
  refine CT_of (own := RX6) (maxL := 4) (ret := (some FieldType.int)) hG (by decide) rfl (Nat.le_of_ble_eq_true rfl) (fun p e s m below meth c A C0 hr hlk hM ls hl => ?_)
  have hl : lv_has ls 4 [(0, .ref a0)] := hl
  generalize ([.ref a0] : List Value).toArray = args at C0 ⊢
  skip
  have hx := C0.1
  have hb := C0.2.1
  have hown := C0.2.2.2.1
  have hts := C0.2.2.2.2.1
  unfold p_X6_claims at hp
  refine lv_iconst (v := 0) hx hb dX6_claims_0 (by decide) ?_
  refine lv_istore_n (lv' := [(1, .int (0 : Int32)), (0, .ref a0)]) hx hb dX6_claims_1 rfl hl (by decide) rfl (fun ls hl => ?_)
  refine lv_iconst (v := 0) hx hb dX6_claims_2 (by decide) ?_
  refine lv_istore_n (lv' := [(2, .int (0 : Int32)), (1, .int (0 : Int32)), (0, .ref a0)]) hx hb dX6_claims_3 rfl hl (by decide) rfl (fun ls hl => ?_)
  refine wl_X6_claims_4 C0 hr hlk hG (fun z13 H locs ls hM hl hp => ?_) FU _ _ _ _ _ hM (lv_sub hl [2, 1, 0] rfl) hp
  refine lv_iload_n hx hb dX6_claims_58 rfl (lv_at hl 0 rfl) ?_
  exact mr_iret C0 hr hlk hM rfl (Option.some.inj hp) (Nat.le_refl _) (Nat.le_refl _) dX6_claims_59
abbrev rm_X6_remember : Room := { frames := 2, cells := 0, slots := 0, locals := 61 }
def p_X6_remember (a0 : Nat) (M : Mem) : Option (Mem) :=
  (Option.bind (gR 5 8 M a0) fun v1 =>
  (Option.bind (gI 5 9 M a0) fun v2 =>
  (Option.bind (aR M v1 v2) fun v3 =>
  (Option.bind (gR 5 3 M a0) fun v4 =>
  (Option.bind (isC 2 M v3) fun _ =>
  (Option.bind (p_X2_copyFrom v3 v4 M) fun M6 =>
  (Option.bind (gI 5 9 M6 a0) fun v7 =>
  (jn (fun (s8 : Int32) =>
   (Option.bind (sV 5 9 M6 a0 (.int s8)) fun M10 =>
   (Option.bind (gI 5 10 M10 a0) fun v11 =>
   (Option.bind (sV 5 10 M10 a0 (.int (if (v11 + (1 : Int32)) < (10 : Int32) then (v11 + (1 : Int32)) else (10 : Int32)))) fun M12 =>
   some M12
   )
   )
   )
  ) fun k9 =>
  (if v7 = (9 : Int32) then
   (k9 (0 : Int32))
  else
   (Option.bind (gI 5 9 M6 a0) fun v14 =>
   (k9 (v14 + (1 : Int32)))
   )
  )
  )
  )
  )
  )
  )
  )
  )
  )
theorem yk_X6_remember : yok yX6_remember 0 := by decide +kernel
set_option maxHeartbeats 4000000 in
set_option maxRecDepth 100000 in
theorem w_X6_remember {G : gG} (hG : GOK G) {l : Launch} {a0 : Nat} {M : Mem} {M' : Mem} (hp : p_X6_remember a0 M = some M') : CT G l yX6_remember (wT yX6_remember cX6_remember 1 (none)) rm_X6_remember [.ref a0] M none M' 0 0 := by
  refine CT_of (own := RX6) (maxL := 1) (ret := (none)) hG (by decide) rfl (Nat.le_of_ble_eq_true rfl) (fun p e s m below meth c A C0 hr hlk hM ls hl => ?_)
  have hl : lv_has ls 1 [(0, .ref a0)] := hl
  generalize ([.ref a0] : List Value).toArray = args at C0 ⊢
  skip
  have hx := C0.1
  have hb := C0.2.1
  have hown := C0.2.2.2.1
  have hts := C0.2.2.2.2.1
  unfold p_X6_remember at hp
  refine lv_aload_n hx hb dX6_remember_0 rfl (lv_at hl 0 rfl) ?_
  obtain ⟨v1, hv1, hp⟩ := ob hp
  refine mr_getR C0 cbX6 hM 8 (by decide) tw_287 hv1 dX6_remember_1 ?_
  refine lv_aload_n hx hb dX6_remember_4 rfl (lv_at hl 0 rfl) ?_
  obtain ⟨v2, hv2, hp⟩ := ob hp
  refine mr_getI C0 cbX6 hM 9 (by decide) tw_288 hv2 dX6_remember_5 ?_
  obtain ⟨v3, hv3, hp⟩ := ob hp
  refine mr_aald C0 hM hv3 dX6_remember_8 ?_
  refine lv_aload_n hx hb dX6_remember_9 rfl (lv_at hl 0 rfl) ?_
  obtain ⟨v4, hv4, hp⟩ := ob hp
  refine mr_getR C0 cbX6 hM 3 (by decide) tw_282 hv4 dX6_remember_10 ?_
  obtain ⟨_, h5, hp⟩ := ob hp
  obtain ⟨M6, hM6, hp⟩ := ob hp
  refine mr_V0 (As := [.ref v4]) (rest := []) C0 cbX2 hM h5 rfl (w_X2_copyFrom hG hM6) tw_590 tw_591 tw_592 tw_3 tw_593 yk_X2_copyFrom (by decide) rfl hl.1 (Nat.le_of_ble_eq_true rfl) dX6_remember_13 rfl (fun H locs hM => ?_)
  refine lv_aload_n hx hb dX6_remember_16 rfl (lv_at hl 0 rfl) ?_
  refine lv_aload_n hx hb dX6_remember_17 rfl (lv_at hl 0 rfl) ?_
  obtain ⟨v7, hv7, hp⟩ := ob hp
  refine mr_getI C0 cbX6 hM 9 (by decide) tw_288 hv7 dX6_remember_18 ?_
  refine lv_bipush (v := 9) hx hb dX6_remember_21 (by decide) ?_
  obtain ⟨k9, ek9, hp⟩ := ojn hp
  have hk9 : ∀ (s8 : Int32) (H : Heap) (locs : List Loc) (ls : Array Slot), mm G A s M6 H locs → lv_has ls 1 [(0, .ref a0)] → k9 s8 = some M' → W p l e rm_X6_remember s m args below meth c H locs 0 0 (MQ below (CQ G M' none A) args s 0 0 A) (F0 m 36 ls [.int s8, .ref a0]) := by
    intro s8 H locs ls hM hl hp
    rw [ek9] at hp
    obtain ⟨M10, hM10, hp⟩ := ob hp
    refine mr_putI C0 cbX6 hM 9 (by decide) rfl rfl tw_288 hM10 dX6_remember_36 (fun H locs hM => ?_)
    refine lv_aload_n hx hb dX6_remember_39 rfl (lv_at hl 0 rfl) ?_
    refine lv_bipush (v := 10) hx hb dX6_remember_40 (by decide) ?_
    refine lv_aload_n hx hb dX6_remember_42 rfl (lv_at hl 0 rfl) ?_
    obtain ⟨v11, hv11, hp⟩ := ob hp
    refine mr_getI C0 cbX6 hM 10 (by decide) tw_289 hv11 dX6_remember_43 ?_
    refine lv_iconst (v := 1) hx hb dX6_remember_46 (by decide) ?_
    refine lv_iadd hx hb dX6_remember_47 ?_
    refine mr_min C0 tw_597 tw_598 tw_23 tw_599 ⟨by decide, Nat.le_of_ble_eq_true rfl⟩ hl.1 dX6_remember_48 ?_
    obtain ⟨M12, hM12, hp⟩ := ob hp
    refine mr_putI C0 cbX6 hM 10 (by decide) rfl rfl tw_289 hM12 dX6_remember_51 (fun H locs hM => ?_)
    exact mr_vret C0 hr hlk hM (Option.some.inj hp) (Nat.le_refl _) (Nat.le_refl _) dX6_remember_54
  refine lv_icmp_ne (tgt := 30) hx hb dX6_remember_23 (by decide) (fun c13 => ?_) (fun c13 => ?_)
  · replace hp := oF c13 hp
    refine lv_aload_n hx hb dX6_remember_30 rfl (lv_at hl 0 rfl) ?_
    obtain ⟨v14, hv14, hp⟩ := ob hp
    refine mr_getI C0 cbX6 hM 9 (by decide) tw_288 hv14 dX6_remember_31 ?_
    refine lv_iconst (v := 1) hx hb dX6_remember_34 (by decide) ?_
    refine lv_iadd hx hb dX6_remember_35 ?_
    exact hk9 _ _ _ _ hM (lv_sub hl [0] rfl) hp
  · replace hp := oT c13 hp
    refine lv_iconst (v := 0) hx hb dX6_remember_26 (by decide) ?_
    refine lv_goto (tgt := 36) hx hb dX6_remember_27 (by decide) ?_
    exact hk9 _ _ _ _ hM (lv_sub hl [0] rfl) hp
abbrev rm_X6_allocate : Room := { frames := 6, cells := 0, slots := 0, locals := 150 }
def p_X6_allocate (a0 : Nat) (M : Mem) : Option (Int32 × Mem) :=
  (Option.bind (isC 5 M a0) fun _ =>
  (Option.bind (p_X6_remember a0 M) fun M2 =>
  (Option.bind (gR 5 1 M2 a0) fun v3 =>
  (Option.bind (gR 5 3 M2 a0) fun v4 =>
  (Option.bind (isC 0 M2 v3) fun _ =>
  (Option.bind (p_X0_run v3 v4 M2) fun M6 =>
  (Option.bind (gR 5 3 M6 a0) fun v7 =>
  (Option.bind (gI 2 5 M6 v7) fun v8 =>
  some (v8, M6)
  )
  )
  )
  )
  )
  )
  )
  )
theorem yk_X6_allocate : yok yX6_allocate 0 := by decide +kernel
set_option maxHeartbeats 4000000 in
set_option maxRecDepth 100000 in
theorem w_X6_allocate {G : gG} (hG : GOK G) {l : Launch} {a0 : Nat} {M : Mem} {r : Int32} {M' : Mem} (hp : p_X6_allocate a0 M = some (r, M')) : CT G l yX6_allocate (wT yX6_allocate cX6_allocate 1 (some FieldType.int)) rm_X6_allocate [.ref a0] M (some (.int r)) M' 0 0 := by
  refine CT_of (own := RX6) (maxL := 1) (ret := (some FieldType.int)) hG (by decide) rfl (Nat.le_of_ble_eq_true rfl) (fun p e s m below meth c A C0 hr hlk hM ls hl => ?_)
  have hl : lv_has ls 1 [(0, .ref a0)] := hl
  generalize ([.ref a0] : List Value).toArray = args at C0 ⊢
  skip
  have hx := C0.1
  have hb := C0.2.1
  have hown := C0.2.2.2.1
  have hts := C0.2.2.2.2.1
  unfold p_X6_allocate at hp
  refine lv_aload_n hx hb dX6_allocate_0 rfl (lv_at hl 0 rfl) ?_
  obtain ⟨_, h1, hp⟩ := ob hp
  obtain ⟨M2, hM2, hp⟩ := ob hp
  refine mr_V0 (As := []) (rest := []) C0 cbX6 hM h1 rfl (w_X6_remember hG hM2) tw_586 tw_588 tws_0 tw_1 tw_589 yk_X6_remember (by decide) rfl hl.1 (Nat.le_of_ble_eq_true rfl) dX6_allocate_1 rfl (fun H locs hM => ?_)
  refine lv_aload_n hx hb dX6_allocate_4 rfl (lv_at hl 0 rfl) ?_
  obtain ⟨v3, hv3, hp⟩ := ob hp
  refine mr_getR C0 cbX6 hM 1 (by decide) tw_280 hv3 dX6_allocate_5 ?_
  refine lv_aload_n hx hb dX6_allocate_8 rfl (lv_at hl 0 rfl) ?_
  obtain ⟨v4, hv4, hp⟩ := ob hp
  refine mr_getR C0 cbX6 hM 3 (by decide) tw_282 hv4 dX6_allocate_9 ?_
  obtain ⟨_, h5, hp⟩ := ob hp
  obtain ⟨M6, hM6, hp⟩ := ob hp
  refine mr_V0 (As := [.ref v4]) (rest := []) C0 cbX0 hM h5 rfl (w_X0_run hG hM6) tw_600 tw_601 tw_602 tw_5 tw_603 yk_X0_run (by decide) rfl hl.1 (Nat.le_of_ble_eq_true rfl) dX6_allocate_12 rfl (fun H locs hM => ?_)
  refine lv_aload_n hx hb dX6_allocate_15 rfl (lv_at hl 0 rfl) ?_
  obtain ⟨v7, hv7, hp⟩ := ob hp
  refine mr_getR C0 cbX6 hM 3 (by decide) tw_282 hv7 dX6_allocate_16 ?_
  obtain ⟨v8, hv8, hp⟩ := ob hp
  refine mr_getI C0 cbX2 hM 5 (by decide) tw_132 hv8 dX6_allocate_19 ?_
  exact mr_iret C0 hr hlk hM (Prod.mk.inj (Option.some.inj hp)).2 (Prod.mk.inj (Option.some.inj hp)).1 (Nat.le_refl _) (Nat.le_refl _) dX6_allocate_22
abbrev rm_X6_wishRow : Room := { frames := 1, cells := 0, slots := 0, locals := 22 }
def pl_X6_wishRow_18 (k1 : Unit → Option (Int32)) (k2 : Int32 → Option (Int32)) (f0 : Nat) (M : Mem) : Nat → Int32 → Int32 → Option (Int32)
  | 0, _, _ => none
  | n + 1, y2, y3 =>
    (if y3 ≤ 0 then
     (k2 y2)
    else
     (if ((y3 - y3 / (10 : Int32) * (10 : Int32)) - (1 : Int32)) < 0 then
      (k1 ())
     else
      (Option.bind (gR 5 3 M f0) fun v6 =>
      (Option.bind (gR 2 0 M v6) fun v7 =>
      (Option.bind (gI 4 0 M v7) fun v8 =>
      (if v8 ≤ ((y3 - y3 / (10 : Int32) * (10 : Int32)) - (1 : Int32)) then
       (k1 ())
      else
       (Option.bind (p_X6_rowIndex y2 ((y3 - y3 / (10 : Int32) * (10 : Int32)) - (1 : Int32)) M) fun v10 =>
       (if v10 = (-1 : Int32) then
        (pl_X6_wishRow_18 k1 k2 f0 M n ((y2 <<< ((4 : Int32) &&& 31)) ||| (((y3 - y3 / (10 : Int32) * (10 : Int32)) - (1 : Int32)) + (1 : Int32))) (y3 / (10 : Int32)))
       else
        (k1 ())
       )
       )
      )
      )
      )
      )
     )
    )
set_option maxHeartbeats 4000000 in
set_option maxRecDepth 100000 in
theorem wl_X6_wishRow_18 {G : gG} {p : Program} {l : Launch} {e : Env} {s : State} {m : MethodId} {args : Array Value} {below : List Frame} {meth : Method} {c : Code} {A : Nat → Prop} {r : Int32} {k1 : Unit → Option (Int32)} {k2 : Int32 → Option (Int32)} {f0 : Nat} {M : Mem} (C0 : cx G p s m args c cX6_wishRow RX6 5 A) (hr : meth.sig.returnType = (some FieldType.int)) (hlk : meth.locks = false) (hG : GOK G) (hk1 : ∀ (H : Heap) (locs : List Loc) (ls : Array Slot), mm G A s M H locs → lv_has ls 5 [] → k1 () = some r → W p l e rm_X6_wishRow s m args below meth c H locs 0 0 (MQ below (CQ G M (some (.int r)) A) args s 0 0 A) (F0 m 60 ls [])) (hk2 : ∀ (z2 : Int32) (H : Heap) (locs : List Loc) (ls : Array Slot), mm G A s M H locs → lv_has ls 5 [(2, .int z2)] → k2 z2 = some r → W p l e rm_X6_wishRow s m args below meth c H locs 0 0 (MQ below (CQ G M (some (.int r)) A) args s 0 0 A) (F0 m 79 ls [])) : ∀ (n : Nat) (y2 : Int32) (y3 : Int32) (H : Heap) (locs : List Loc) (ls : Array Slot), mm G A s M H locs → lv_has ls 5 [(0, .ref f0), (2, .int y2), (3, .int y3)] → pl_X6_wishRow_18 k1 k2 f0 M n y2 y3 = some r → W p l e rm_X6_wishRow s m args below meth c H locs 0 0 (MQ below (CQ G M (some (.int r)) A) args s 0 0 A) (F0 m 18 ls []) := by
  have hx := C0.1
  have hb := C0.2.1
  have hown := C0.2.2.2.1
  have hts := C0.2.2.2.2.1
  intro n
  induction n with
  | zero => intro y2 y3 H locs ls hM hl hp; rw [pl_X6_wishRow_18] at hp; cases hp
  | succ n ih =>
    intro y2 y3 H locs ls hM hl hp
    rw [pl_X6_wishRow_18] at hp
    refine lv_iload_n hx hb dX6_wishRow_18 rfl (lv_at hl 2 rfl) ?_
    refine lv_if_le (tgt := 79) hx hb dX6_wishRow_19 (by decide) (fun c4 => ?_) (fun c4 => ?_)
    · replace hp := oT c4 hp
      exact hk2 _ _ _ _ hM (lv_sub hl [1] rfl) hp
    · replace hp := oF c4 hp
      refine lv_iload_n hx hb dX6_wishRow_22 rfl (lv_at hl 2 rfl) ?_
      refine lv_bipush (v := 10) hx hb dX6_wishRow_23 (by decide) ?_
      refine lv_irem hx hb dX6_wishRow_25 (by decide) ?_
      refine lv_iconst (v := 1) hx hb dX6_wishRow_26 (by decide) ?_
      refine lv_isub hx hb dX6_wishRow_27 ?_
      refine lv_istore (lv' := [(4, .int ((y3 - y3 / (10 : Int32) * (10 : Int32)) - (1 : Int32))), (0, .ref f0), (2, .int y2), (3, .int y3)]) hx hb dX6_wishRow_28 hl (by decide) rfl (fun ls hl => ?_)
      refine lv_iload hx hb dX6_wishRow_30 (lv_at hl 0 rfl) ?_
      refine lv_if_lt (tgt := 60) hx hb dX6_wishRow_32 (by decide) (fun c5 => ?_) (fun c5 => ?_)
      · replace hp := oT c5 hp
        exact hk1  _ _ _ hM (lv_sub hl [] rfl) hp
      · replace hp := oF c5 hp
        refine lv_iload hx hb dX6_wishRow_35 (lv_at hl 0 rfl) ?_
        refine lv_aload_n hx hb dX6_wishRow_37 rfl (lv_at hl 1 rfl) ?_
        obtain ⟨v6, hv6, hp⟩ := ob hp
        refine mr_getR C0 cbX6 hM 3 (by decide) tw_282 hv6 dX6_wishRow_38 ?_
        obtain ⟨v7, hv7, hp⟩ := ob hp
        refine mr_getR C0 cbX2 hM 0 (by decide) tw_115 hv7 dX6_wishRow_41 ?_
        obtain ⟨v8, hv8, hp⟩ := ob hp
        refine mr_getI C0 cbX4 hM 0 (by decide) tw_50 hv8 dX6_wishRow_44 ?_
        refine lv_icmp_ge (tgt := 60) hx hb dX6_wishRow_47 (by decide) (fun c9 => ?_) (fun c9 => ?_)
        · replace hp := oT c9 hp
          exact hk1  _ _ _ hM (lv_sub hl [] rfl) hp
        · replace hp := oF c9 hp
          refine lv_iload_n hx hb dX6_wishRow_50 rfl (lv_at hl 2 rfl) ?_
          refine lv_iload hx hb dX6_wishRow_51 (lv_at hl 0 rfl) ?_
          obtain ⟨v10, hv10, hp⟩ := ob hp
          refine mr_S1 (As := [.int y2, .int ((y3 - y3 / (10 : Int32) * (10 : Int32)) - (1 : Int32))]) (rest := []) C0 hM (w_X6_rowIndex hG hv10) tw_989 tw_443 tw_1 tw_444 yk_X6_rowIndex (by decide) rfl hl.1 (Nat.le_of_ble_eq_true rfl) dX6_wishRow_53 rfl (fun H locs hM => ?_)
          refine lv_iconst (v := -1) hx hb dX6_wishRow_56 (by decide) ?_
          refine lv_icmp_eq (tgt := 62) hx hb dX6_wishRow_57 (by decide) (fun c11 => ?_) (fun c11 => ?_)
          · replace hp := oT c11 hp
            refine lv_iload_n hx hb dX6_wishRow_62 rfl (lv_at hl 2 rfl) ?_
            refine lv_iconst (v := 4) hx hb dX6_wishRow_63 (by decide) ?_
            refine lv_ishl hx hb dX6_wishRow_64 ?_
            refine lv_iload hx hb dX6_wishRow_65 (lv_at hl 0 rfl) ?_
            refine lv_iconst (v := 1) hx hb dX6_wishRow_67 (by decide) ?_
            refine lv_iadd hx hb dX6_wishRow_68 ?_
            refine lv_ior hx hb dX6_wishRow_69 ?_
            refine lv_istore_n (lv' := [(2, .int ((y2 <<< ((4 : Int32) &&& 31)) ||| (((y3 - y3 / (10 : Int32) * (10 : Int32)) - (1 : Int32)) + (1 : Int32)))), (4, .int ((y3 - y3 / (10 : Int32) * (10 : Int32)) - (1 : Int32))), (0, .ref f0), (3, .int y3)]) hx hb dX6_wishRow_70 rfl hl (by decide) rfl (fun ls hl => ?_)
            refine lv_iload_n hx hb dX6_wishRow_71 rfl (lv_at hl 3 rfl) ?_
            refine lv_bipush (v := 10) hx hb dX6_wishRow_72 (by decide) ?_
            refine lv_idiv hx hb dX6_wishRow_74 (by decide) ?_
            refine lv_istore_n (lv' := [(3, .int (y3 / (10 : Int32))), (2, .int ((y2 <<< ((4 : Int32) &&& 31)) ||| (((y3 - y3 / (10 : Int32) * (10 : Int32)) - (1 : Int32)) + (1 : Int32)))), (4, .int ((y3 - y3 / (10 : Int32) * (10 : Int32)) - (1 : Int32))), (0, .ref f0)]) hx hb dX6_wishRow_75 rfl hl (by decide) rfl (fun ls hl => ?_)
            refine lv_goto (tgt := 18) hx hb dX6_wishRow_76 (by decide) ?_
            exact ih _ _ _ _ _ hM (lv_sub hl [3, 1, 0] rfl) hp
          · replace hp := oF c11 hp
            exact hk1  _ _ _ hM (lv_sub hl [] rfl) hp
def p_X6_wishRow (a0 : Nat) (a1 : Int32) (M : Mem) : Option (Int32) :=
  (if a1 < (1 : Int32) then
   some (-1 : Int32)
  else
   (if a1 ≤ (9999 : Int32) then
    (jn (fun (_ : Unit) =>
     some (-1 : Int32)
    ) fun k3 =>
    (pl_X6_wishRow_18
     (fun (_ : Unit) =>
      (k3 ())
     )
     (fun (z12 : Int32) =>
      some z12
     )
     a0 M FU (0 : Int32) a1)
    )
   else
    some (-1 : Int32)
   )
  )
theorem yk_X6_wishRow : yok yX6_wishRow 1 := by decide +kernel
set_option maxHeartbeats 4000000 in
set_option maxRecDepth 100000 in
theorem w_X6_wishRow {G : gG} (hG : GOK G) {l : Launch} {a0 : Nat} {a1 : Int32} {M : Mem} {r : Int32} (hp : p_X6_wishRow a0 a1 M = some r) : CT G l yX6_wishRow (wT yX6_wishRow cX6_wishRow 5 (some FieldType.int)) rm_X6_wishRow [.ref a0, .int a1] M (some (.int r)) M 0 0 := by
  refine CT_of (own := RX6) (maxL := 5) (ret := (some FieldType.int)) hG (by decide) rfl (Nat.le_of_ble_eq_true rfl) (fun p e s m below meth c A C0 hr hlk hM ls hl => ?_)
  have hl : lv_has ls 5 [(0, .ref a0), (1, .int a1)] := hl
  generalize ([.ref a0, .int a1] : List Value).toArray = args at C0 ⊢
  skip
  have hx := C0.1
  have hb := C0.2.1
  have hown := C0.2.2.2.1
  have hts := C0.2.2.2.2.1
  unfold p_X6_wishRow at hp
  refine lv_iload_n hx hb dX6_wishRow_0 rfl (lv_at hl 1 rfl) ?_
  refine lv_iconst (v := 1) hx hb dX6_wishRow_1 (by decide) ?_
  refine lv_icmp_lt (tgt := 12) hx hb dX6_wishRow_2 (by decide) (fun c1 => ?_) (fun c1 => ?_)
  · replace hp := oT c1 hp
    refine lv_iconst (v := -1) hx hb dX6_wishRow_12 (by decide) ?_
    exact mr_iret C0 hr hlk hM rfl (Option.some.inj hp) (Nat.le_refl _) (Nat.le_refl _) dX6_wishRow_13
  · replace hp := oF c1 hp
    refine lv_iload_n hx hb dX6_wishRow_5 rfl (lv_at hl 1 rfl) ?_
    refine lv_sipush (v := 9999) hx hb dX6_wishRow_6 (by decide) ?_
    refine lv_icmp_le (tgt := 14) hx hb dX6_wishRow_9 (by decide) (fun c2 => ?_) (fun c2 => ?_)
    · replace hp := oT c2 hp
      refine lv_iconst (v := 0) hx hb dX6_wishRow_14 (by decide) ?_
      refine lv_istore_n (lv' := [(2, .int (0 : Int32)), (0, .ref a0), (1, .int a1)]) hx hb dX6_wishRow_15 rfl hl (by decide) rfl (fun ls hl => ?_)
      refine lv_iload_n hx hb dX6_wishRow_16 rfl (lv_at hl 2 rfl) ?_
      refine lv_istore_n (lv' := [(3, .int a1), (2, .int (0 : Int32)), (0, .ref a0), (1, .int a1)]) hx hb dX6_wishRow_17 rfl hl (by decide) rfl (fun ls hl => ?_)
      obtain ⟨k3, ek3, hp⟩ := ojn hp
      have hk3 : ∀ (H : Heap) (locs : List Loc) (ls : Array Slot), mm G A s M H locs → lv_has ls 5 [] → k3 () = some r → W p l e rm_X6_wishRow s m args below meth c H locs 0 0 (MQ below (CQ G M (some (.int r)) A) args s 0 0 A) (F0 m 60 ls []) := by
        intro  H locs ls hM hl hp
        rw [ek3] at hp
        refine lv_iconst (v := -1) hx hb dX6_wishRow_60 (by decide) ?_
        exact mr_iret C0 hr hlk hM rfl (Option.some.inj hp) (Nat.le_refl _) (Nat.le_refl _) dX6_wishRow_61
      refine wl_X6_wishRow_18 C0 hr hlk hG (fun  H locs ls hM hl hp => ?_) (fun z12 H locs ls hM hl hp => ?_) FU _ _ _ _ _ hM (lv_sub hl [2, 1, 0] rfl) hp
      · exact hk3  _ _ _ hM (lv_sub hl [] rfl) hp
      · refine lv_iload_n hx hb dX6_wishRow_79 rfl (lv_at hl 0 rfl) ?_
        exact mr_iret C0 hr hlk hM rfl (Option.some.inj hp) (Nat.le_refl _) (Nat.le_refl _) dX6_wishRow_80
    · replace hp := oF c2 hp
      refine lv_iconst (v := -1) hx hb dX6_wishRow_12 (by decide) ?_
      exact mr_iret C0 hr hlk hM rfl (Option.some.inj hp) (Nat.le_refl _) (Nat.le_refl _) dX6_wishRow_13
abbrev rm_X6_setLate : Room := { frames := 6, cells := 0, slots := 0, locals := 144 }
def p_X6_setLate (a0 : Nat) (a1 : Int32) (M : Mem) : Option (Int32 × Mem) :=
  (Option.bind (isC 5 M a0) fun _ =>
  (Option.bind (p_X6_remember a0 M) fun M2 =>
  (Option.bind (gR 5 3 M2 a0) fun v3 =>
  (Option.bind (gI 2 3 M2 v3) fun v4 =>
  (Option.bind (gR 5 3 M2 a0) fun v5 =>
  (Option.bind (sZ 2 3 M2 v5 a1) fun M6 =>
  (Option.bind (gR 5 3 M6 a0) fun v7 =>
  (Option.bind (isC 2 M6 v7) fun _ =>
  (Option.bind (p_X2_fillPlaces v7 M6) fun M9 =>
  (if v4 = 0 ∨ v4 = 1 then some (v4, M9) else none)
  )
  )
  )
  )
  )
  )
  )
  )
  )
theorem yk_X6_setLate : yok yX6_setLate 1 := by decide +kernel
set_option maxHeartbeats 4000000 in
set_option maxRecDepth 100000 in
theorem w_X6_setLate {G : gG} (hG : GOK G) {l : Launch} {a0 : Nat} {a1 : Int32} {M : Mem} {r : Int32} {M' : Mem} (hp : p_X6_setLate a0 a1 M = some (r, M')) : CT G l yX6_setLate (wT yX6_setLate cX6_setLate 3 (some FieldType.boolean)) rm_X6_setLate [.ref a0, .int a1] M (some (.int r)) M' 0 0 := by
  refine CT_of (own := RX6) (maxL := 3) (ret := (some FieldType.boolean)) hG (by decide) rfl (Nat.le_of_ble_eq_true rfl) (fun p e s m below meth c A C0 hr hlk hM ls hl => ?_)
  have hl : lv_has ls 3 [(0, .ref a0), (1, .int a1)] := hl
  generalize ([.ref a0, .int a1] : List Value).toArray = args at C0 ⊢
  skip
  have hx := C0.1
  have hb := C0.2.1
  have hown := C0.2.2.2.1
  have hts := C0.2.2.2.2.1
  unfold p_X6_setLate at hp
  refine lv_aload_n hx hb dX6_setLate_0 rfl (lv_at hl 0 rfl) ?_
  obtain ⟨_, h1, hp⟩ := ob hp
  obtain ⟨M2, hM2, hp⟩ := ob hp
  refine mr_V0 (As := []) (rest := []) C0 cbX6 hM h1 rfl (w_X6_remember hG hM2) tw_586 tw_588 tws_0 tw_1 tw_589 yk_X6_remember (by decide) rfl hl.1 (Nat.le_of_ble_eq_true rfl) dX6_setLate_1 rfl (fun H locs hM => ?_)
  refine lv_aload_n hx hb dX6_setLate_4 rfl (lv_at hl 0 rfl) ?_
  obtain ⟨v3, hv3, hp⟩ := ob hp
  refine mr_getR C0 cbX6 hM 3 (by decide) tw_282 hv3 dX6_setLate_5 ?_
  obtain ⟨v4, hv4, hp⟩ := ob hp
  refine mr_getI C0 cbX2 hM 3 (by decide) tw_126 hv4 dX6_setLate_8 ?_
  refine lv_istore_n (lv' := [(2, .int v4), (0, .ref a0), (1, .int a1)]) hx hb dX6_setLate_11 rfl hl (by decide) rfl (fun ls hl => ?_)
  refine lv_aload_n hx hb dX6_setLate_12 rfl (lv_at hl 1 rfl) ?_
  obtain ⟨v5, hv5, hp⟩ := ob hp
  refine mr_getR C0 cbX6 hM 3 (by decide) tw_282 hv5 dX6_setLate_13 ?_
  refine lv_iload_n hx hb dX6_setLate_16 rfl (lv_at hl 2 rfl) ?_
  obtain ⟨M6, hM6, hp⟩ := ob hp
  refine mr_putZ C0 cbX2 hM 3 (by decide) rfl rfl tw_126 hM6 dX6_setLate_17 (fun H locs hM => ?_)
  refine lv_aload_n hx hb dX6_setLate_20 rfl (lv_at hl 1 rfl) ?_
  obtain ⟨v7, hv7, hp⟩ := ob hp
  refine mr_getR C0 cbX6 hM 3 (by decide) tw_282 hv7 dX6_setLate_21 ?_
  obtain ⟨_, h8, hp⟩ := ob hp
  obtain ⟨M9, hM9, hp⟩ := ob hp
  refine mr_V0 (As := []) (rest := []) C0 cbX2 hM h8 rfl (w_X2_fillPlaces hG hM9) tw_632 tw_633 tw_634 tw_3 tw_635 yk_X2_fillPlaces (by decide) rfl hl.1 (Nat.le_of_ble_eq_true rfl) dX6_setLate_24 rfl (fun H locs hM => ?_)
  refine lv_iload_n hx hb dX6_setLate_27 rfl (lv_at hl 0 rfl) ?_
  obtain ⟨hz, hp⟩ := oG hp
  exact mr_zret C0 hr hlk hM (Prod.mk.inj (Option.some.inj hp)).2 hz (Prod.mk.inj (Option.some.inj hp)).1 (Nat.le_refl _) (Nat.le_refl _) dX6_setLate_28
abbrev rm_X6_firstShare : Room := { frames := 2, cells := 0, slots := 0, locals := 43 }
def pl_X6_firstShare_6 (k1 : Int32 → Int32 → Option (UInt32)) (f0 : Nat) (M : Mem) : Nat → Int32 → Int32 → Int32 → Option (UInt32)
  | 0, _, _, _ => none
  | n + 1, y1, y2, y3 =>
    (Option.bind (gR 5 3 M f0) fun v1 =>
    (Option.bind (gI 2 1 M v1) fun v2 =>
    (if v2 ≤ y3 then
     (k1 y1 y2)
    else
     (Option.bind (gR 5 3 M f0) fun v4 =>
     (Option.bind (isC 2 M v4) fun _ =>
     (Option.bind (p_X2_gotWish v4 y3 M) fun v6 =>
     (jn (fun (s7 : Int32) =>
      (jn (fun (s9 : Int32) =>
       (pl_X6_firstShare_6 k1 f0 M n (y1 + s7) (y2 + s9) (y3 + (1 : Int32)))
      ) fun k10 =>
      (if v6 = 0 then
       (k10 (1 : Int32))
      else
       (k10 (0 : Int32))
      )
      )
     ) fun k8 =>
     (if v6 < 0 then
      (k8 (0 : Int32))
     else
      (k8 (1 : Int32))
     )
     )
     )
     )
     )
    )
    )
    )
set_option maxHeartbeats 4000000 in
set_option maxRecDepth 100000 in
theorem wl_X6_firstShare_6 {G : gG} {p : Program} {l : Launch} {e : Env} {s : State} {m : MethodId} {args : Array Value} {below : List Frame} {meth : Method} {c : Code} {A : Nat → Prop} {r : UInt32} {k1 : Int32 → Int32 → Option (UInt32)} {f0 : Nat} {M : Mem} (C0 : cx G p s m args c cX6_firstShare RX6 5 A) (hr : meth.sig.returnType = (some FieldType.float)) (hlk : meth.locks = false) (hG : GOK G) (hk1 : ∀ (z1 : Int32) (z2 : Int32) (H : Heap) (locs : List Loc) (ls : Array Slot), mm G A s M H locs → lv_has ls 5 [(1, .int z1), (2, .int z2)] → k1 z1 z2 = some r → W p l e rm_X6_firstShare s m args below meth c H locs 0 0 (MQ below (CQ G M (some (.float r)) A) args s 0 0 A) (F0 m 59 ls [])) : ∀ (n : Nat) (y1 : Int32) (y2 : Int32) (y3 : Int32) (H : Heap) (locs : List Loc) (ls : Array Slot), mm G A s M H locs → lv_has ls 5 [(0, .ref f0), (1, .int y1), (2, .int y2), (3, .int y3)] → pl_X6_firstShare_6 k1 f0 M n y1 y2 y3 = some r → W p l e rm_X6_firstShare s m args below meth c H locs 0 0 (MQ below (CQ G M (some (.float r)) A) args s 0 0 A) (F0 m 6 ls []) := by
  have hx := C0.1
  have hb := C0.2.1
  have hown := C0.2.2.2.1
  have hts := C0.2.2.2.2.1
  intro n
  induction n with
  | zero => intro y1 y2 y3 H locs ls hM hl hp; rw [pl_X6_firstShare_6] at hp; cases hp
  | succ n ih =>
    intro y1 y2 y3 H locs ls hM hl hp
    rw [pl_X6_firstShare_6] at hp
    refine lv_iload_n hx hb dX6_firstShare_6 rfl (lv_at hl 3 rfl) ?_
    refine lv_aload_n hx hb dX6_firstShare_7 rfl (lv_at hl 0 rfl) ?_
    obtain ⟨v1, hv1, hp⟩ := ob hp
    refine mr_getR C0 cbX6 hM 3 (by decide) tw_282 hv1 dX6_firstShare_8 ?_
    obtain ⟨v2, hv2, hp⟩ := ob hp
    refine mr_getI C0 cbX2 hM 1 (by decide) tw_121 hv2 dX6_firstShare_11 ?_
    refine lv_icmp_ge (tgt := 59) hx hb dX6_firstShare_14 (by decide) (fun c3 => ?_) (fun c3 => ?_)
    · replace hp := oT c3 hp
      exact hk1 _ _ _ _ _ hM (lv_sub hl [1, 2] rfl) hp
    · replace hp := oF c3 hp
      refine lv_aload_n hx hb dX6_firstShare_17 rfl (lv_at hl 0 rfl) ?_
      obtain ⟨v4, hv4, hp⟩ := ob hp
      refine mr_getR C0 cbX6 hM 3 (by decide) tw_282 hv4 dX6_firstShare_18 ?_
      refine lv_iload_n hx hb dX6_firstShare_21 rfl (lv_at hl 3 rfl) ?_
      obtain ⟨_, h5, hp⟩ := ob hp
      obtain ⟨v6, hv6, hp⟩ := ob hp
      refine mr_V1 (As := [.int y3]) (rest := []) C0 cbX2 hM h5 rfl (w_X2_gotWish hG hv6) tw_657 tw_658 tw_659 tw_3 tw_660 yk_X2_gotWish (by decide) rfl hl.1 (Nat.le_of_ble_eq_true rfl) dX6_firstShare_22 rfl (fun H locs hM => ?_)
      refine lv_istore (lv' := [(4, .int v6), (0, .ref f0), (1, .int y1), (2, .int y2), (3, .int y3)]) hx hb dX6_firstShare_25 hl (by decide) rfl (fun ls hl => ?_)
      refine lv_iload_n hx hb dX6_firstShare_27 rfl (lv_at hl 2 rfl) ?_
      refine lv_iload hx hb dX6_firstShare_28 (lv_at hl 0 rfl) ?_
      obtain ⟨k8, ek8, hp⟩ := ojn hp
      have hk8 : ∀ (s7 : Int32) (H : Heap) (locs : List Loc) (ls : Array Slot), mm G A s M H locs → lv_has ls 5 [(0, .ref f0), (2, .int y2), (3, .int y3), (4, .int v6)] → k8 s7 = some r → W p l e rm_X6_firstShare s m args below meth c H locs 0 0 (MQ below (CQ G M (some (.float r)) A) args s 0 0 A) (F0 m 38 ls [.int s7, .int y1]) := by
        intro s7 H locs ls hM hl hp
        rw [ek8] at hp
        refine lv_iadd hx hb dX6_firstShare_38 ?_
        refine lv_istore_n (lv' := [(1, .int (y1 + s7)), (0, .ref f0), (2, .int y2), (3, .int y3), (4, .int v6)]) hx hb dX6_firstShare_39 rfl hl (by decide) rfl (fun ls hl => ?_)
        refine lv_iload_n hx hb dX6_firstShare_40 rfl (lv_at hl 2 rfl) ?_
        refine lv_iload hx hb dX6_firstShare_41 (lv_at hl 4 rfl) ?_
        obtain ⟨k10, ek10, hp⟩ := ojn hp
        have hk10 : ∀ (s9 : Int32) (H : Heap) (locs : List Loc) (ls : Array Slot), mm G A s M H locs → lv_has ls 5 [(0, .ref f0), (1, .int (y1 + s7)), (3, .int y3)] → k10 s9 = some r → W p l e rm_X6_firstShare s m args below meth c H locs 0 0 (MQ below (CQ G M (some (.float r)) A) args s 0 0 A) (F0 m 51 ls [.int s9, .int y2]) := by
          intro s9 H locs ls hM hl hp
          rw [ek10] at hp
          refine lv_iadd hx hb dX6_firstShare_51 ?_
          refine lv_istore_n (lv' := [(2, .int (y2 + s9)), (0, .ref f0), (1, .int (y1 + s7)), (3, .int y3)]) hx hb dX6_firstShare_52 rfl hl (by decide) rfl (fun ls hl => ?_)
          refine lv_iinc (v := (y3 + (1 : Int32))) (lv' := [(3, .int (y3 + (1 : Int32))), (2, .int (y2 + s9)), (0, .ref f0), (1, .int (y1 + s7))]) hx hb dX6_firstShare_53 hl (k := 3) rfl rfl (by decide) rfl (fun ls hl => ?_)
          refine lv_goto (tgt := 6) hx hb dX6_firstShare_56 (by decide) ?_
          exact ih _ _ _ _ _ _ hM (lv_sub hl [2, 3, 1, 0] rfl) hp
        refine lv_if_ne (tgt := 50) hx hb dX6_firstShare_43 (by decide) (fun c11 => ?_) (fun c11 => ?_)
        · replace hp := oF c11 hp
          refine lv_iconst (v := 0) hx hb dX6_firstShare_50 (by decide) ?_
          exact hk10 _ _ _ _ hM (lv_sub hl [1, 0, 3] rfl) hp
        · replace hp := oT c11 hp
          refine lv_iconst (v := 1) hx hb dX6_firstShare_46 (by decide) ?_
          refine lv_goto (tgt := 51) hx hb dX6_firstShare_47 (by decide) ?_
          exact hk10 _ _ _ _ hM (lv_sub hl [1, 0, 3] rfl) hp
      refine lv_if_lt (tgt := 37) hx hb dX6_firstShare_30 (by decide) (fun c12 => ?_) (fun c12 => ?_)
      · replace hp := oT c12 hp
        refine lv_iconst (v := 0) hx hb dX6_firstShare_37 (by decide) ?_
        exact hk8 _ _ _ _ hM (lv_sub hl [1, 3, 4, 0] rfl) hp
      · replace hp := oF c12 hp
        refine lv_iconst (v := 1) hx hb dX6_firstShare_33 (by decide) ?_
        refine lv_goto (tgt := 38) hx hb dX6_firstShare_34 (by decide) ?_
        exact hk8 _ _ _ _ hM (lv_sub hl [1, 3, 4, 0] rfl) hp
def p_X6_firstShare (a0 : Nat) (M : Mem) : Option (UInt32) :=
  (pl_X6_firstShare_6
   (fun (z13 : Int32) (z14 : Int32) =>
    (if z13 = 0 then
     some FP.fconst0
    else
     (jn (FP.fdiv (FP.i2f z14) (FP.i2f z13)) fun w16 =>
     (if w16 &&& 0x7fffffff ≤ 0x7f800000 then
     some w16
     else none))
    )
   )
   a0 M FU (0 : Int32) (0 : Int32) (0 : Int32))
theorem yk_X6_firstShare : yok yX6_firstShare 0 := by decide +kernel
set_option maxHeartbeats 4000000 in
set_option maxRecDepth 100000 in
theorem w_X6_firstShare {G : gG} (hG : GOK G) {l : Launch} {a0 : Nat} {M : Mem} {r : UInt32} (hp : p_X6_firstShare a0 M = some r) : CT G l yX6_firstShare (wT yX6_firstShare cX6_firstShare 5 (some FieldType.float)) rm_X6_firstShare [.ref a0] M (some (.float r)) M 0 0 := by
  refine CT_of (own := RX6) (maxL := 5) (ret := (some FieldType.float)) hG (by decide) rfl (Nat.le_of_ble_eq_true rfl) (fun p e s m below meth c A C0 hr hlk hM ls hl => ?_)
  have hl : lv_has ls 5 [(0, .ref a0)] := hl
  generalize ([.ref a0] : List Value).toArray = args at C0 ⊢
  skip
  have hx := C0.1
  have hb := C0.2.1
  have hown := C0.2.2.2.1
  have hts := C0.2.2.2.2.1
  unfold p_X6_firstShare at hp
  refine lv_iconst (v := 0) hx hb dX6_firstShare_0 (by decide) ?_
  refine lv_istore_n (lv' := [(1, .int (0 : Int32)), (0, .ref a0)]) hx hb dX6_firstShare_1 rfl hl (by decide) rfl (fun ls hl => ?_)
  refine lv_iconst (v := 0) hx hb dX6_firstShare_2 (by decide) ?_
  refine lv_istore_n (lv' := [(2, .int (0 : Int32)), (1, .int (0 : Int32)), (0, .ref a0)]) hx hb dX6_firstShare_3 rfl hl (by decide) rfl (fun ls hl => ?_)
  refine lv_iconst (v := 0) hx hb dX6_firstShare_4 (by decide) ?_
  refine lv_istore_n (lv' := [(3, .int (0 : Int32)), (2, .int (0 : Int32)), (1, .int (0 : Int32)), (0, .ref a0)]) hx hb dX6_firstShare_5 rfl hl (by decide) rfl (fun ls hl => ?_)
  refine wl_X6_firstShare_6 C0 hr hlk hG (fun z13 z14 H locs ls hM hl hp => ?_) FU _ _ _ _ _ _ hM (lv_sub hl [3, 2, 1, 0] rfl) hp
  refine lv_iload_n hx hb dX6_firstShare_59 rfl (lv_at hl 0 rfl) ?_
  refine lv_if_ne (tgt := 67) hx hb dX6_firstShare_60 (by decide) (fun c15 => ?_) (fun c15 => ?_)
  · replace hp := oF c15 hp
    refine lv_iload_n hx hb dX6_firstShare_67 rfl (lv_at hl 1 rfl) ?_
    refine lv_i2f hx hb dX6_firstShare_68 ?_
    refine lv_iload_n hx hb dX6_firstShare_69 rfl (lv_at hl 0 rfl) ?_
    refine lv_i2f hx hb dX6_firstShare_70 ?_
    obtain ⟨w16, ew16, hp⟩ := ojn hp
    obtain ⟨hne, hp⟩ := oG hp
    refine lv_fdiv hx hb dX6_firstShare_71 (by rw [← ew16]; exact hne) ?_
    rw [← ew16]
    exact mr_fret C0 hr hlk hM rfl (Option.some.inj hp) (Nat.le_refl _) (Nat.le_refl _) dX6_firstShare_72
  · replace hp := oT c15 hp
    refine lv_fconst0 hx hb dX6_firstShare_63 ?_
    refine lv_goto (tgt := 72) hx hb dX6_firstShare_64 (by decide) ?_
    exact mr_fret C0 hr hlk hM rfl (Option.some.inj hp) (Nat.le_refl _) (Nat.le_refl _) dX6_firstShare_72
abbrev rm_X6_meanPreference : Room := { frames := 2, cells := 0, slots := 0, locals := 43 }
def pl_X6_meanPreference_6 (k1 : Int32 → Int32 → Option (UInt64)) (f0 : Nat) (M : Mem) : Nat → Int32 → Int32 → Int32 → Option (UInt64)
  | 0, _, _, _ => none
  | n + 1, y1, y2, y3 =>
    (Option.bind (gR 5 3 M f0) fun v1 =>
    (Option.bind (gI 2 1 M v1) fun v2 =>
    (if v2 ≤ y3 then
     (k1 y1 y2)
    else
     (Option.bind (gR 5 3 M f0) fun v4 =>
     (Option.bind (isC 2 M v4) fun _ =>
     (Option.bind (p_X2_gotWish v4 y3 M) fun v6 =>
     (if v6 < 0 then
      (pl_X6_meanPreference_6 k1 f0 M n y1 y2 (y3 + (1 : Int32)))
     else
      (pl_X6_meanPreference_6 k1 f0 M n (y1 + (1 : Int32)) (y2 + (v6 + (1 : Int32))) (y3 + (1 : Int32)))
     )
     )
     )
     )
    )
    )
    )
set_option maxHeartbeats 4000000 in
set_option maxRecDepth 100000 in
theorem wl_X6_meanPreference_6 {G : gG} {p : Program} {l : Launch} {e : Env} {s : State} {m : MethodId} {args : Array Value} {below : List Frame} {meth : Method} {c : Code} {A : Nat → Prop} {r : UInt64} {k1 : Int32 → Int32 → Option (UInt64)} {f0 : Nat} {M : Mem} (C0 : cx G p s m args c cX6_meanPreference RX6 5 A) (hr : meth.sig.returnType = (some FieldType.double)) (hlk : meth.locks = false) (hG : GOK G) (hk1 : ∀ (z1 : Int32) (z2 : Int32) (H : Heap) (locs : List Loc) (ls : Array Slot), mm G A s M H locs → lv_has ls 5 [(1, .int z1), (2, .int z2)] → k1 z1 z2 = some r → W p l e rm_X6_meanPreference s m args below meth c H locs 0 0 (MQ below (CQ G M (some (.double r)) A) args s 0 0 A) (F0 m 48 ls [])) : ∀ (n : Nat) (y1 : Int32) (y2 : Int32) (y3 : Int32) (H : Heap) (locs : List Loc) (ls : Array Slot), mm G A s M H locs → lv_has ls 5 [(0, .ref f0), (1, .int y1), (2, .int y2), (3, .int y3)] → pl_X6_meanPreference_6 k1 f0 M n y1 y2 y3 = some r → W p l e rm_X6_meanPreference s m args below meth c H locs 0 0 (MQ below (CQ G M (some (.double r)) A) args s 0 0 A) (F0 m 6 ls []) := by
  have hx := C0.1
  have hb := C0.2.1
  have hown := C0.2.2.2.1
  have hts := C0.2.2.2.2.1
  intro n
  induction n with
  | zero => intro y1 y2 y3 H locs ls hM hl hp; rw [pl_X6_meanPreference_6] at hp; cases hp
  | succ n ih =>
    intro y1 y2 y3 H locs ls hM hl hp
    rw [pl_X6_meanPreference_6] at hp
    refine lv_iload_n hx hb dX6_meanPreference_6 rfl (lv_at hl 3 rfl) ?_
    refine lv_aload_n hx hb dX6_meanPreference_7 rfl (lv_at hl 0 rfl) ?_
    obtain ⟨v1, hv1, hp⟩ := ob hp
    refine mr_getR C0 cbX6 hM 3 (by decide) tw_282 hv1 dX6_meanPreference_8 ?_
    obtain ⟨v2, hv2, hp⟩ := ob hp
    refine mr_getI C0 cbX2 hM 1 (by decide) tw_121 hv2 dX6_meanPreference_11 ?_
    refine lv_icmp_ge (tgt := 48) hx hb dX6_meanPreference_14 (by decide) (fun c3 => ?_) (fun c3 => ?_)
    · replace hp := oT c3 hp
      exact hk1 _ _ _ _ _ hM (lv_sub hl [1, 2] rfl) hp
    · replace hp := oF c3 hp
      refine lv_aload_n hx hb dX6_meanPreference_17 rfl (lv_at hl 0 rfl) ?_
      obtain ⟨v4, hv4, hp⟩ := ob hp
      refine mr_getR C0 cbX6 hM 3 (by decide) tw_282 hv4 dX6_meanPreference_18 ?_
      refine lv_iload_n hx hb dX6_meanPreference_21 rfl (lv_at hl 3 rfl) ?_
      obtain ⟨_, h5, hp⟩ := ob hp
      obtain ⟨v6, hv6, hp⟩ := ob hp
      refine mr_V1 (As := [.int y3]) (rest := []) C0 cbX2 hM h5 rfl (w_X2_gotWish hG hv6) tw_657 tw_658 tw_659 tw_3 tw_660 yk_X2_gotWish (by decide) rfl hl.1 (Nat.le_of_ble_eq_true rfl) dX6_meanPreference_22 rfl (fun H locs hM => ?_)
      refine lv_istore (lv' := [(4, .int v6), (0, .ref f0), (1, .int y1), (2, .int y2), (3, .int y3)]) hx hb dX6_meanPreference_25 hl (by decide) rfl (fun ls hl => ?_)
      refine lv_iload hx hb dX6_meanPreference_27 (lv_at hl 0 rfl) ?_
      refine lv_if_lt (tgt := 42) hx hb dX6_meanPreference_29 (by decide) (fun c7 => ?_) (fun c7 => ?_)
      · replace hp := oT c7 hp
        refine lv_iinc (v := (y3 + (1 : Int32))) (lv' := [(3, .int (y3 + (1 : Int32))), (4, .int v6), (0, .ref f0), (1, .int y1), (2, .int y2)]) hx hb dX6_meanPreference_42 hl (k := 4) rfl rfl (by decide) rfl (fun ls hl => ?_)
        refine lv_goto (tgt := 6) hx hb dX6_meanPreference_45 (by decide) ?_
        exact ih _ _ _ _ _ _ hM (lv_sub hl [2, 3, 4, 0] rfl) hp
      · replace hp := oF c7 hp
        refine lv_iinc (v := (y1 + (1 : Int32))) (lv' := [(1, .int (y1 + (1 : Int32))), (4, .int v6), (0, .ref f0), (2, .int y2), (3, .int y3)]) hx hb dX6_meanPreference_32 hl (k := 2) rfl rfl (by decide) rfl (fun ls hl => ?_)
        refine lv_iload_n hx hb dX6_meanPreference_35 rfl (lv_at hl 3 rfl) ?_
        refine lv_iload hx hb dX6_meanPreference_36 (lv_at hl 1 rfl) ?_
        refine lv_iconst (v := 1) hx hb dX6_meanPreference_38 (by decide) ?_
        refine lv_iadd hx hb dX6_meanPreference_39 ?_
        refine lv_iadd hx hb dX6_meanPreference_40 ?_
        refine lv_istore_n (lv' := [(2, .int (y2 + (v6 + (1 : Int32)))), (1, .int (y1 + (1 : Int32))), (4, .int v6), (0, .ref f0), (3, .int y3)]) hx hb dX6_meanPreference_41 rfl hl (by decide) rfl (fun ls hl => ?_)
        refine lv_iinc (v := (y3 + (1 : Int32))) (lv' := [(3, .int (y3 + (1 : Int32))), (2, .int (y2 + (v6 + (1 : Int32)))), (1, .int (y1 + (1 : Int32))), (4, .int v6), (0, .ref f0)]) hx hb dX6_meanPreference_42 hl (k := 4) rfl rfl (by decide) rfl (fun ls hl => ?_)
        refine lv_goto (tgt := 6) hx hb dX6_meanPreference_45 (by decide) ?_
        exact ih _ _ _ _ _ _ hM (lv_sub hl [4, 2, 1, 0] rfl) hp
def p_X6_meanPreference (a0 : Nat) (M : Mem) : Option (UInt64) :=
  (pl_X6_meanPreference_6
   (fun (z8 : Int32) (z9 : Int32) =>
    (if z8 = 0 then
     some FP.dconst0
    else
     (jn (FP.ddiv (FP.i2d z9) (FP.i2d z8)) fun w11 =>
     (if w11 &&& 0x7fffffffffffffff ≤ 0x7ff0000000000000 then
     some w11
     else none))
    )
   )
   a0 M FU (0 : Int32) (0 : Int32) (0 : Int32))
theorem yk_X6_meanPreference : yok yX6_meanPreference 0 := by decide +kernel
set_option maxHeartbeats 4000000 in
set_option maxRecDepth 100000 in
theorem w_X6_meanPreference {G : gG} (hG : GOK G) {l : Launch} {a0 : Nat} {M : Mem} {r : UInt64} (hp : p_X6_meanPreference a0 M = some r) : CT G l yX6_meanPreference (wT yX6_meanPreference cX6_meanPreference 5 (some FieldType.double)) rm_X6_meanPreference [.ref a0] M (some (.double r)) M 0 0 := by
  refine CT_of (own := RX6) (maxL := 5) (ret := (some FieldType.double)) hG (by decide) rfl (Nat.le_of_ble_eq_true rfl) (fun p e s m below meth c A C0 hr hlk hM ls hl => ?_)
  have hl : lv_has ls 5 [(0, .ref a0)] := hl
  generalize ([.ref a0] : List Value).toArray = args at C0 ⊢
  skip
  have hx := C0.1
  have hb := C0.2.1
  have hown := C0.2.2.2.1
  have hts := C0.2.2.2.2.1
  unfold p_X6_meanPreference at hp
  refine lv_iconst (v := 0) hx hb dX6_meanPreference_0 (by decide) ?_
  refine lv_istore_n (lv' := [(1, .int (0 : Int32)), (0, .ref a0)]) hx hb dX6_meanPreference_1 rfl hl (by decide) rfl (fun ls hl => ?_)
  refine lv_iconst (v := 0) hx hb dX6_meanPreference_2 (by decide) ?_
  refine lv_istore_n (lv' := [(2, .int (0 : Int32)), (1, .int (0 : Int32)), (0, .ref a0)]) hx hb dX6_meanPreference_3 rfl hl (by decide) rfl (fun ls hl => ?_)
  refine lv_iconst (v := 0) hx hb dX6_meanPreference_4 (by decide) ?_
  refine lv_istore_n (lv' := [(3, .int (0 : Int32)), (2, .int (0 : Int32)), (1, .int (0 : Int32)), (0, .ref a0)]) hx hb dX6_meanPreference_5 rfl hl (by decide) rfl (fun ls hl => ?_)
  refine wl_X6_meanPreference_6 C0 hr hlk hG (fun z8 z9 H locs ls hM hl hp => ?_) FU _ _ _ _ _ _ hM (lv_sub hl [3, 2, 1, 0] rfl) hp
  refine lv_iload_n hx hb dX6_meanPreference_48 rfl (lv_at hl 0 rfl) ?_
  refine lv_if_ne (tgt := 56) hx hb dX6_meanPreference_49 (by decide) (fun c10 => ?_) (fun c10 => ?_)
  · replace hp := oF c10 hp
    refine lv_iload_n hx hb dX6_meanPreference_56 rfl (lv_at hl 1 rfl) ?_
    refine lv_i2d hx hb dX6_meanPreference_57 ?_
    refine lv_iload_n hx hb dX6_meanPreference_58 rfl (lv_at hl 0 rfl) ?_
    refine lv_i2d hx hb dX6_meanPreference_59 ?_
    obtain ⟨w11, ew11, hp⟩ := ojn hp
    obtain ⟨hne, hp⟩ := oG hp
    refine lv_ddiv hx hb dX6_meanPreference_60 (by rw [← ew11]; exact hne) ?_
    rw [← ew11]
    exact mr_dret C0 hr hlk hM rfl (Option.some.inj hp) (Nat.le_refl _) (Nat.le_refl _) dX6_meanPreference_61
  · replace hp := oT c10 hp
    refine lv_dconst0 hx hb dX6_meanPreference_52 ?_
    refine lv_goto (tgt := 61) hx hb dX6_meanPreference_53 (by decide) ?_
    exact mr_dret C0 hr hlk hM rfl (Option.some.inj hp) (Nat.le_refl _) (Nat.le_refl _) dX6_meanPreference_61
abbrev rm_X6_root : Room := { frames := 0, cells := 0, slots := 0, locals := 0 }
def pl_X6_root_14 (k1 : UInt64 → Option (UInt64)) (f1 : UInt64) (M : Mem) : Nat → UInt64 → Int32 → Option (UInt64)
  | 0, _, _ => none
  | n + 1, y3, y5 =>
    (if (60 : Int32) ≤ y5 then
     (k1 y3)
    else
     (jn (FP.ddiv f1 y3) fun w3 =>
     (if w3 &&& 0x7fffffffffffffff ≤ 0x7ff0000000000000 then
     (jn (FP.dadd y3 w3) fun w4 =>
     (if w4 &&& 0x7fffffffffffffff ≤ 0x7ff0000000000000 then
     (jn (FP.ddiv w4 (4611686018427387904 : UInt64)) fun w5 =>
     (if w5 &&& 0x7fffffffffffffff ≤ 0x7ff0000000000000 then
     (pl_X6_root_14 k1 f1 M n w5 (y5 + (1 : Int32)))
     else none))
     else none))
     else none))
    )
set_option maxHeartbeats 4000000 in
set_option maxRecDepth 100000 in
theorem wl_X6_root_14 {G : gG} {p : Program} {l : Launch} {e : Env} {s : State} {m : MethodId} {args : Array Value} {below : List Frame} {meth : Method} {c : Code} {A : Nat → Prop} {r : UInt64} {k1 : UInt64 → Option (UInt64)} {f1 : UInt64} {M : Mem} (C0 : cx G p s m args c cX6_root RX6 6 A) (hr : meth.sig.returnType = (some FieldType.double)) (hlk : meth.locks = false) (hG : GOK G) (hk1 : ∀ (z3 : UInt64) (H : Heap) (locs : List Loc) (ls : Array Slot), mm G A s M H locs → lv_has ls 6 [(3, .double z3)] → k1 z3 = some r → W p l e rm_X6_root s m args below meth c H locs 0 0 (MQ below (CQ G M (some (.double r)) A) args s 0 0 A) (F0 m 37 ls [])) : ∀ (n : Nat) (y3 : UInt64) (y5 : Int32) (H : Heap) (locs : List Loc) (ls : Array Slot), mm G A s M H locs → lv_has ls 6 [(1, .double f1), (3, .double y3), (5, .int y5)] → pl_X6_root_14 k1 f1 M n y3 y5 = some r → W p l e rm_X6_root s m args below meth c H locs 0 0 (MQ below (CQ G M (some (.double r)) A) args s 0 0 A) (F0 m 14 ls []) := by
  have hx := C0.1
  have hb := C0.2.1
  have hown := C0.2.2.2.1
  have hts := C0.2.2.2.2.1
  intro n
  induction n with
  | zero => intro y3 y5 H locs ls hM hl hp; rw [pl_X6_root_14] at hp; cases hp
  | succ n ih =>
    intro y3 y5 H locs ls hM hl hp
    rw [pl_X6_root_14] at hp
    refine lv_iload hx hb dX6_root_14 (lv_at hl 2 rfl) ?_
    refine lv_bipush (v := 60) hx hb dX6_root_16 (by decide) ?_
    refine lv_icmp_ge (tgt := 37) hx hb dX6_root_18 (by decide) (fun c2 => ?_) (fun c2 => ?_)
    · replace hp := oT c2 hp
      exact hk1 _ _ _ _ hM (lv_sub hl [1] rfl) hp
    · replace hp := oF c2 hp
      refine lv_dload_n hx hb dX6_root_21 rfl (lv_at hl 1 rfl) ?_
      refine lv_dload_n hx hb dX6_root_22 rfl (lv_at hl 0 rfl) ?_
      refine lv_dload_n hx hb dX6_root_23 rfl (lv_at hl 1 rfl) ?_
      obtain ⟨w3, ew3, hp⟩ := ojn hp
      obtain ⟨hne, hp⟩ := oG hp
      refine lv_ddiv hx hb dX6_root_24 (by rw [← ew3]; exact hne) ?_
      rw [← ew3]
      obtain ⟨w4, ew4, hp⟩ := ojn hp
      obtain ⟨hne, hp⟩ := oG hp
      refine lv_dadd hx hb dX6_root_25 (by rw [← ew4]; exact hne) ?_
      rw [← ew4]
      refine lv_ldc2d (v := 4611686018427387904) hx hb hown (hts _ tw_698) dX6_root_26 ?_
      obtain ⟨w5, ew5, hp⟩ := ojn hp
      obtain ⟨hne, hp⟩ := oG hp
      refine lv_ddiv hx hb dX6_root_29 (by rw [← ew5]; exact hne) ?_
      rw [← ew5]
      refine lv_dstore_n (lv' := [(3, .double w5), (1, .double f1), (5, .int y5)]) hx hb dX6_root_30 rfl hl (by decide) rfl (fun ls hl => ?_)
      refine lv_iinc (v := (y5 + (1 : Int32))) (lv' := [(5, .int (y5 + (1 : Int32))), (3, .double w5), (1, .double f1)]) hx hb dX6_root_31 hl (k := 2) rfl rfl (by decide) rfl (fun ls hl => ?_)
      refine lv_goto (tgt := 14) hx hb dX6_root_34 (by decide) ?_
      exact ih _ _ _ _ _ hM (lv_sub hl [2, 1, 0] rfl) hp
def p_X6_root (a0 : Int32) (M : Mem) : Option (UInt64) :=
  (if 0 < a0 then
   (pl_X6_root_14
    (fun (z6 : UInt64) =>
     some z6
    )
    (FP.i2d a0) M FU (FP.i2d a0) (0 : Int32))
  else
   some FP.dconst0
  )
theorem yk_X6_root : yok yX6_root 1 := by decide +kernel
set_option maxHeartbeats 4000000 in
set_option maxRecDepth 100000 in
theorem w_X6_root {G : gG} (hG : GOK G) {l : Launch} {a0 : Int32} {M : Mem} {r : UInt64} (hp : p_X6_root a0 M = some r) : CT G l yX6_root (wT yX6_root cX6_root 6 (some FieldType.double)) rm_X6_root [.int a0] M (some (.double r)) M 0 0 := by
  refine CT_of (own := RX6) (maxL := 6) (ret := (some FieldType.double)) hG (by decide) rfl (Nat.le_of_ble_eq_true rfl) (fun p e s m below meth c A C0 hr hlk hM ls hl => ?_)
  have hl : lv_has ls 6 [(0, .int a0)] := hl
  generalize ([.int a0] : List Value).toArray = args at C0 ⊢
  skip
  have hx := C0.1
  have hb := C0.2.1
  have hown := C0.2.2.2.1
  have hts := C0.2.2.2.2.1
  unfold p_X6_root at hp
  refine lv_iload_n hx hb dX6_root_0 rfl (lv_at hl 0 rfl) ?_
  refine lv_if_gt (tgt := 6) hx hb dX6_root_1 (by decide) (fun c1 => ?_) (fun c1 => ?_)
  · replace hp := oT c1 hp
    refine lv_iload_n hx hb dX6_root_6 rfl (lv_at hl 0 rfl) ?_
    refine lv_i2d hx hb dX6_root_7 ?_
    refine lv_dstore_n (lv' := [(1, .double (FP.i2d a0)), (0, .int a0)]) hx hb dX6_root_8 rfl hl (by decide) rfl (fun ls hl => ?_)
    refine lv_dload_n hx hb dX6_root_9 rfl (lv_at hl 0 rfl) ?_
    refine lv_dstore_n (lv' := [(3, .double (FP.i2d a0)), (1, .double (FP.i2d a0)), (0, .int a0)]) hx hb dX6_root_10 rfl hl (by decide) rfl (fun ls hl => ?_)
    refine lv_iconst (v := 0) hx hb dX6_root_11 (by decide) ?_
    refine lv_istore (lv' := [(5, .int (0 : Int32)), (3, .double (FP.i2d a0)), (1, .double (FP.i2d a0)), (0, .int a0)]) hx hb dX6_root_12 hl (by decide) rfl (fun ls hl => ?_)
    refine wl_X6_root_14 C0 hr hlk hG (fun z6 H locs ls hM hl hp => ?_) FU _ _ _ _ _ hM (lv_sub hl [2, 1, 0] rfl) hp
    refine lv_dload_n hx hb dX6_root_37 rfl (lv_at hl 0 rfl) ?_
    exact mr_dret C0 hr hlk hM rfl (Option.some.inj hp) (Nat.le_refl _) (Nat.le_refl _) dX6_root_38
  · replace hp := oF c1 hp
    refine lv_dconst0 hx hb dX6_root_4 ?_
    exact mr_dret C0 hr hlk hM rfl (Option.some.inj hp) (Nat.le_refl _) (Nat.le_refl _) dX6_root_5
abbrev rm_X6_together : Room := { frames := 1, cells := 0, slots := 0, locals := 24 }
def pl_X6_together_4 (k1 : Int32 → Option (Int32)) (f0 : Nat) (M : Mem) : Nat → Int32 → Int32 → Option (Int32)
  | 0, _, _ => none
  | n + 1, y1, y2 =>
    (if (99 : Int32) < y2 then
     (k1 y1)
    else
     (Option.bind (gR 5 3 M f0) fun v2 =>
     (Option.bind (isC 2 M v2) fun _ =>
     (Option.bind (p_X2_isTogether v2 y2 M) fun v4 =>
     (if v4 = 0 then
      (pl_X6_together_4 k1 f0 M n y1 (y2 + (1 : Int32)))
     else
      (pl_X6_together_4 k1 f0 M n (y1 + (1 : Int32)) (y2 + (1 : Int32)))
     )
     )
     )
     )
    )
set_option maxHeartbeats 4000000 in
set_option maxRecDepth 100000 in
theorem wl_X6_together_4 {G : gG} {p : Program} {l : Launch} {e : Env} {s : State} {m : MethodId} {args : Array Value} {below : List Frame} {meth : Method} {c : Code} {A : Nat → Prop} {r : Int32} {k1 : Int32 → Option (Int32)} {f0 : Nat} {M : Mem} (C0 : cx G p s m args c cX6_together RX6 3 A) (hr : meth.sig.returnType = (some FieldType.int)) (hlk : meth.locks = false) (hG : GOK G) (hk1 : ∀ (z1 : Int32) (H : Heap) (locs : List Loc) (ls : Array Slot), mm G A s M H locs → lv_has ls 3 [(1, .int z1)] → k1 z1 = some r → W p l e rm_X6_together s m args below meth c H locs 0 0 (MQ below (CQ G M (some (.int r)) A) args s 0 0 A) (F0 m 30 ls [])) : ∀ (n : Nat) (y1 : Int32) (y2 : Int32) (H : Heap) (locs : List Loc) (ls : Array Slot), mm G A s M H locs → lv_has ls 3 [(0, .ref f0), (1, .int y1), (2, .int y2)] → pl_X6_together_4 k1 f0 M n y1 y2 = some r → W p l e rm_X6_together s m args below meth c H locs 0 0 (MQ below (CQ G M (some (.int r)) A) args s 0 0 A) (F0 m 4 ls []) := by
  have hx := C0.1
  have hb := C0.2.1
  have hown := C0.2.2.2.1
  have hts := C0.2.2.2.2.1
  intro n
  induction n with
  | zero => intro y1 y2 H locs ls hM hl hp; rw [pl_X6_together_4] at hp; cases hp
  | succ n ih =>
    intro y1 y2 H locs ls hM hl hp
    rw [pl_X6_together_4] at hp
    refine lv_iload_n hx hb dX6_together_4 rfl (lv_at hl 2 rfl) ?_
    refine lv_bipush (v := 99) hx hb dX6_together_5 (by decide) ?_
    refine lv_icmp_gt (tgt := 30) hx hb dX6_together_7 (by decide) (fun c1 => ?_) (fun c1 => ?_)
    · replace hp := oT c1 hp
      exact hk1 _ _ _ _ hM (lv_sub hl [1] rfl) hp
    · replace hp := oF c1 hp
      refine lv_aload_n hx hb dX6_together_10 rfl (lv_at hl 0 rfl) ?_
      obtain ⟨v2, hv2, hp⟩ := ob hp
      refine mr_getR C0 cbX6 hM 3 (by decide) tw_282 hv2 dX6_together_11 ?_
      refine lv_iload_n hx hb dX6_together_14 rfl (lv_at hl 2 rfl) ?_
      obtain ⟨_, h3, hp⟩ := ob hp
      obtain ⟨v4, hv4, hp⟩ := ob hp
      refine mr_V1 (As := [.int y2]) (rest := []) C0 cbX2 hM h3 rfl (w_X2_isTogether hG hv4) tw_669 tw_670 tw_671 tw_3 tw_672 yk_X2_isTogether (by decide) rfl hl.1 (Nat.le_of_ble_eq_true rfl) dX6_together_15 rfl (fun H locs hM => ?_)
      refine lv_if_eq (tgt := 24) hx hb dX6_together_18 (by decide) (fun c5 => ?_) (fun c5 => ?_)
      · replace hp := oT c5 hp
        refine lv_iinc (v := (y2 + (1 : Int32))) (lv' := [(2, .int (y2 + (1 : Int32))), (0, .ref f0), (1, .int y1)]) hx hb dX6_together_24 hl (k := 2) rfl rfl (by decide) rfl (fun ls hl => ?_)
        refine lv_goto (tgt := 4) hx hb dX6_together_27 (by decide) ?_
        exact ih _ _ _ _ _ hM (lv_sub hl [1, 2, 0] rfl) hp
      · replace hp := oF c5 hp
        refine lv_iinc (v := (y1 + (1 : Int32))) (lv' := [(1, .int (y1 + (1 : Int32))), (0, .ref f0), (2, .int y2)]) hx hb dX6_together_21 hl (k := 1) rfl rfl (by decide) rfl (fun ls hl => ?_)
        refine lv_iinc (v := (y2 + (1 : Int32))) (lv' := [(2, .int (y2 + (1 : Int32))), (1, .int (y1 + (1 : Int32))), (0, .ref f0)]) hx hb dX6_together_24 hl (k := 2) rfl rfl (by decide) rfl (fun ls hl => ?_)
        refine lv_goto (tgt := 4) hx hb dX6_together_27 (by decide) ?_
        exact ih _ _ _ _ _ hM (lv_sub hl [2, 1, 0] rfl) hp
def p_X6_together (a0 : Nat) (M : Mem) : Option (Int32) :=
  (pl_X6_together_4
   (fun (z6 : Int32) =>
    some z6
   )
   a0 M FU (0 : Int32) (1 : Int32))
theorem yk_X6_together : yok yX6_together 0 := by decide +kernel
set_option maxHeartbeats 4000000 in
set_option maxRecDepth 100000 in
theorem w_X6_together {G : gG} (hG : GOK G) {l : Launch} {a0 : Nat} {M : Mem} {r : Int32} (hp : p_X6_together a0 M = some r) : CT G l yX6_together (wT yX6_together cX6_together 3 (some FieldType.int)) rm_X6_together [.ref a0] M (some (.int r)) M 0 0 := by
  refine CT_of (own := RX6) (maxL := 3) (ret := (some FieldType.int)) hG (by decide) rfl (Nat.le_of_ble_eq_true rfl) (fun p e s m below meth c A C0 hr hlk hM ls hl => ?_)
  have hl : lv_has ls 3 [(0, .ref a0)] := hl
  generalize ([.ref a0] : List Value).toArray = args at C0 ⊢
  skip
  have hx := C0.1
  have hb := C0.2.1
  have hown := C0.2.2.2.1
  have hts := C0.2.2.2.2.1
  unfold p_X6_together at hp
  refine lv_iconst (v := 0) hx hb dX6_together_0 (by decide) ?_
  refine lv_istore_n (lv' := [(1, .int (0 : Int32)), (0, .ref a0)]) hx hb dX6_together_1 rfl hl (by decide) rfl (fun ls hl => ?_)
  refine lv_iconst (v := 1) hx hb dX6_together_2 (by decide) ?_
  refine lv_istore_n (lv' := [(2, .int (1 : Int32)), (1, .int (0 : Int32)), (0, .ref a0)]) hx hb dX6_together_3 rfl hl (by decide) rfl (fun ls hl => ?_)
  refine wl_X6_together_4 C0 hr hlk hG (fun z6 H locs ls hM hl hp => ?_) FU _ _ _ _ _ hM (lv_sub hl [2, 1, 0] rfl) hp
  refine lv_iload_n hx hb dX6_together_30 rfl (lv_at hl 0 rfl) ?_
  exact mr_iret C0 hr hlk hM rfl (Option.some.inj hp) (Nat.le_refl _) (Nat.le_refl _) dX6_together_31
abbrev rm_X6_freePlaces : Room := { frames := 1, cells := 0, slots := 0, locals := 24 }
def pl_X6_freePlaces_4 (k1 : Int32 → Option (Int32)) (f0 : Nat) (M : Mem) : Nat → Int32 → Int32 → Option (Int32)
  | 0, _, _ => none
  | n + 1, y1, y2 =>
    (Option.bind (gR 5 3 M f0) fun v1 =>
    (Option.bind (gR 2 0 M v1) fun v2 =>
    (Option.bind (gI 4 0 M v2) fun v3 =>
    (if v3 ≤ y2 then
     (k1 y1)
    else
     (Option.bind (gR 5 3 M f0) fun v5 =>
     (Option.bind (gR 2 18 M v5) fun v6 =>
     (Option.bind (aI 0 M v6 y2) fun v7 =>
     (Option.bind (gR 5 3 M f0) fun v8 =>
     (Option.bind (isC 2 M v8) fun _ =>
     (Option.bind (p_X2_holdersOf v8 y2 M) fun v10 =>
     (Option.bind (p_J13_bitCount_95d88 v10 M) fun v11 =>
     (pl_X6_freePlaces_4 k1 f0 M n (y1 + (if (0 : Int32) < (v7 - v11) then (v7 - v11) else (0 : Int32))) (y2 + (1 : Int32)))
     )
     )
     )
     )
     )
     )
     )
    )
    )
    )
    )
set_option maxHeartbeats 4000000 in
set_option maxRecDepth 100000 in
theorem wl_X6_freePlaces_4 {G : gG} {p : Program} {l : Launch} {e : Env} {s : State} {m : MethodId} {args : Array Value} {below : List Frame} {meth : Method} {c : Code} {A : Nat → Prop} {r : Int32} {k1 : Int32 → Option (Int32)} {f0 : Nat} {M : Mem} (C0 : cx G p s m args c cX6_freePlaces RX6 3 A) (hr : meth.sig.returnType = (some FieldType.int)) (hlk : meth.locks = false) (hG : GOK G) (hk1 : ∀ (z1 : Int32) (H : Heap) (locs : List Loc) (ls : Array Slot), mm G A s M H locs → lv_has ls 3 [(1, .int z1)] → k1 z1 = some r → W p l e rm_X6_freePlaces s m args below meth c H locs 0 0 (MQ below (CQ G M (some (.int r)) A) args s 0 0 A) (F0 m 52 ls [])) : ∀ (n : Nat) (y1 : Int32) (y2 : Int32) (H : Heap) (locs : List Loc) (ls : Array Slot), mm G A s M H locs → lv_has ls 3 [(0, .ref f0), (1, .int y1), (2, .int y2)] → pl_X6_freePlaces_4 k1 f0 M n y1 y2 = some r → W p l e rm_X6_freePlaces s m args below meth c H locs 0 0 (MQ below (CQ G M (some (.int r)) A) args s 0 0 A) (F0 m 4 ls []) := by
  have hx := C0.1
  have hb := C0.2.1
  have hown := C0.2.2.2.1
  have hts := C0.2.2.2.2.1
  intro n
  induction n with
  | zero => intro y1 y2 H locs ls hM hl hp; rw [pl_X6_freePlaces_4] at hp; cases hp
  | succ n ih =>
    intro y1 y2 H locs ls hM hl hp
    rw [pl_X6_freePlaces_4] at hp
    refine lv_iload_n hx hb dX6_freePlaces_4 rfl (lv_at hl 2 rfl) ?_
    refine lv_aload_n hx hb dX6_freePlaces_5 rfl (lv_at hl 0 rfl) ?_
    obtain ⟨v1, hv1, hp⟩ := ob hp
    refine mr_getR C0 cbX6 hM 3 (by decide) tw_282 hv1 dX6_freePlaces_6 ?_
    obtain ⟨v2, hv2, hp⟩ := ob hp
    refine mr_getR C0 cbX2 hM 0 (by decide) tw_115 hv2 dX6_freePlaces_9 ?_
    obtain ⟨v3, hv3, hp⟩ := ob hp
    refine mr_getI C0 cbX4 hM 0 (by decide) tw_50 hv3 dX6_freePlaces_12 ?_
    refine lv_icmp_ge (tgt := 52) hx hb dX6_freePlaces_15 (by decide) (fun c4 => ?_) (fun c4 => ?_)
    · replace hp := oT c4 hp
      exact hk1 _ _ _ _ hM (lv_sub hl [1] rfl) hp
    · replace hp := oF c4 hp
      refine lv_iload_n hx hb dX6_freePlaces_18 rfl (lv_at hl 1 rfl) ?_
      refine lv_iconst (v := 0) hx hb dX6_freePlaces_19 (by decide) ?_
      refine lv_aload_n hx hb dX6_freePlaces_20 rfl (lv_at hl 0 rfl) ?_
      obtain ⟨v5, hv5, hp⟩ := ob hp
      refine mr_getR C0 cbX6 hM 3 (by decide) tw_282 hv5 dX6_freePlaces_21 ?_
      obtain ⟨v6, hv6, hp⟩ := ob hp
      refine mr_getR C0 cbX2 hM 18 (by decide) tw_164 hv6 dX6_freePlaces_24 ?_
      refine lv_iload_n hx hb dX6_freePlaces_27 rfl (lv_at hl 2 rfl) ?_
      obtain ⟨v7, hv7, hp⟩ := ob hp
      refine mr_iald C0 hM hv7 dX6_freePlaces_28 ?_
      refine lv_aload_n hx hb dX6_freePlaces_29 rfl (lv_at hl 0 rfl) ?_
      obtain ⟨v8, hv8, hp⟩ := ob hp
      refine mr_getR C0 cbX6 hM 3 (by decide) tw_282 hv8 dX6_freePlaces_30 ?_
      refine lv_iload_n hx hb dX6_freePlaces_33 rfl (lv_at hl 2 rfl) ?_
      obtain ⟨_, h9, hp⟩ := ob hp
      obtain ⟨v10, hv10, hp⟩ := ob hp
      refine mr_V1 (As := [.int y2]) (rest := [.int v7, .int (0 : Int32), .int y1]) C0 cbX2 hM h9 rfl (w_X2_holdersOf hG hv10) tw_677 tw_555 tw_556 tw_3 tw_557 yk_X2_holdersOf (by decide) rfl hl.1 (Nat.le_of_ble_eq_true rfl) dX6_freePlaces_34 rfl (fun H locs hM => ?_)
      obtain ⟨v11, hv11, hp⟩ := ob hp
      refine mr_S1 (As := [.long v10]) (rest := [.int v7, .int (0 : Int32), .int y1]) C0 hM (w_J13_bitCount_95d88 hG hv11) tw_678 tw_621 tw_15 tw_622 yk_J13_bitCount_95d88 (by decide) rfl hl.1 (Nat.le_of_ble_eq_true rfl) dX6_freePlaces_37 rfl (fun H locs hM => ?_)
      refine lv_isub hx hb dX6_freePlaces_40 ?_
      refine mr_max C0 tw_679 tw_680 tw_23 tw_681 ⟨by decide, Nat.le_of_ble_eq_true rfl⟩ hl.1 dX6_freePlaces_41 ?_
      refine lv_iadd hx hb dX6_freePlaces_44 ?_
      refine lv_istore_n (lv' := [(1, .int (y1 + (if (0 : Int32) < (v7 - v11) then (v7 - v11) else (0 : Int32)))), (0, .ref f0), (2, .int y2)]) hx hb dX6_freePlaces_45 rfl hl (by decide) rfl (fun ls hl => ?_)
      refine lv_iinc (v := (y2 + (1 : Int32))) (lv' := [(2, .int (y2 + (1 : Int32))), (1, .int (y1 + (if (0 : Int32) < (v7 - v11) then (v7 - v11) else (0 : Int32)))), (0, .ref f0)]) hx hb dX6_freePlaces_46 hl (k := 2) rfl rfl (by decide) rfl (fun ls hl => ?_)
      refine lv_goto (tgt := 4) hx hb dX6_freePlaces_49 (by decide) ?_
      exact ih _ _ _ _ _ hM (lv_sub hl [2, 1, 0] rfl) hp
def p_X6_freePlaces (a0 : Nat) (M : Mem) : Option (Int32) :=
  (pl_X6_freePlaces_4
   (fun (z12 : Int32) =>
    some z12
   )
   a0 M FU (0 : Int32) (0 : Int32))
theorem yk_X6_freePlaces : yok yX6_freePlaces 0 := by decide +kernel
set_option maxHeartbeats 4000000 in
set_option maxRecDepth 100000 in
theorem w_X6_freePlaces {G : gG} (hG : GOK G) {l : Launch} {a0 : Nat} {M : Mem} {r : Int32} (hp : p_X6_freePlaces a0 M = some r) : CT G l yX6_freePlaces (wT yX6_freePlaces cX6_freePlaces 3 (some FieldType.int)) rm_X6_freePlaces [.ref a0] M (some (.int r)) M 0 0 := by
  refine CT_of (own := RX6) (maxL := 3) (ret := (some FieldType.int)) hG (by decide) rfl (Nat.le_of_ble_eq_true rfl) (fun p e s m below meth c A C0 hr hlk hM ls hl => ?_)
  have hl : lv_has ls 3 [(0, .ref a0)] := hl
  generalize ([.ref a0] : List Value).toArray = args at C0 ⊢
  skip
  have hx := C0.1
  have hb := C0.2.1
  have hown := C0.2.2.2.1
  have hts := C0.2.2.2.2.1
  unfold p_X6_freePlaces at hp
  refine lv_iconst (v := 0) hx hb dX6_freePlaces_0 (by decide) ?_
  refine lv_istore_n (lv' := [(1, .int (0 : Int32)), (0, .ref a0)]) hx hb dX6_freePlaces_1 rfl hl (by decide) rfl (fun ls hl => ?_)
  refine lv_iconst (v := 0) hx hb dX6_freePlaces_2 (by decide) ?_
  refine lv_istore_n (lv' := [(2, .int (0 : Int32)), (1, .int (0 : Int32)), (0, .ref a0)]) hx hb dX6_freePlaces_3 rfl hl (by decide) rfl (fun ls hl => ?_)
  refine wl_X6_freePlaces_4 C0 hr hlk hG (fun z12 H locs ls hM hl hp => ?_) FU _ _ _ _ _ hM (lv_sub hl [2, 1, 0] rfl) hp
  refine lv_iload_n hx hb dX6_freePlaces_52 rfl (lv_at hl 0 rfl) ?_
  exact mr_iret C0 hr hlk hM rfl (Option.some.inj hp) (Nat.le_refl _) (Nat.le_refl _) dX6_freePlaces_53
abbrev rm_X6_trades : Room := { frames := 3, cells := 0, slots := 0, locals := 68 }
def pl_X6_trades_19 (k1 : Int32 → Option (Int32)) (f0 : Nat) (f2 : Int32) (M : Mem) : Nat → Int32 → Int32 → Option (Int32)
  | 0, _, _ => none
  | n + 1, y1, y3 =>
    (Option.bind (gR 5 3 M f0) fun v4 =>
    (Option.bind (gI 2 1 M v4) fun v5 =>
    (if v5 ≤ y3 then
     (k1 y1)
    else
     (Option.bind (gR 5 3 M f0) fun v7 =>
     (Option.bind (isC 2 M v7) fun _ =>
     (Option.bind (p_X2_wouldTrade v7 f2 y3 M) fun v9 =>
     (if v9 = 0 then
      (pl_X6_trades_19 k1 f0 f2 M n y1 (y3 + (1 : Int32)))
     else
      (pl_X6_trades_19 k1 f0 f2 M n (y1 + (1 : Int32)) (y3 + (1 : Int32)))
     )
     )
     )
     )
    )
    )
    )
set_option maxHeartbeats 4000000 in
set_option maxRecDepth 100000 in
theorem wl_X6_trades_19 {G : gG} {p : Program} {l : Launch} {e : Env} {s : State} {m : MethodId} {args : Array Value} {below : List Frame} {meth : Method} {c : Code} {A : Nat → Prop} {r : Int32} {k1 : Int32 → Option (Int32)} {f0 : Nat} {f2 : Int32} {M : Mem} (C0 : cx G p s m args c cX6_trades RX6 4 A) (hr : meth.sig.returnType = (some FieldType.int)) (hlk : meth.locks = false) (hG : GOK G) (hk1 : ∀ (z1 : Int32) (H : Heap) (locs : List Loc) (ls : Array Slot), mm G A s M H locs → lv_has ls 4 [(0, .ref f0), (1, .int z1), (2, .int f2)] → k1 z1 = some r → W p l e rm_X6_trades s m args below meth c H locs 0 0 (MQ below (CQ G M (some (.int r)) A) args s 0 0 A) (F0 m 51 ls [])) : ∀ (n : Nat) (y1 : Int32) (y3 : Int32) (H : Heap) (locs : List Loc) (ls : Array Slot), mm G A s M H locs → lv_has ls 4 [(0, .ref f0), (1, .int y1), (2, .int f2), (3, .int y3)] → pl_X6_trades_19 k1 f0 f2 M n y1 y3 = some r → W p l e rm_X6_trades s m args below meth c H locs 0 0 (MQ below (CQ G M (some (.int r)) A) args s 0 0 A) (F0 m 19 ls []) := by
  have hx := C0.1
  have hb := C0.2.1
  have hown := C0.2.2.2.1
  have hts := C0.2.2.2.2.1
  intro n
  induction n with
  | zero => intro y1 y3 H locs ls hM hl hp; rw [pl_X6_trades_19] at hp; cases hp
  | succ n ih =>
    intro y1 y3 H locs ls hM hl hp
    rw [pl_X6_trades_19] at hp
    refine lv_iload_n hx hb dX6_trades_19 rfl (lv_at hl 3 rfl) ?_
    refine lv_aload_n hx hb dX6_trades_20 rfl (lv_at hl 0 rfl) ?_
    obtain ⟨v4, hv4, hp⟩ := ob hp
    refine mr_getR C0 cbX6 hM 3 (by decide) tw_282 hv4 dX6_trades_21 ?_
    obtain ⟨v5, hv5, hp⟩ := ob hp
    refine mr_getI C0 cbX2 hM 1 (by decide) tw_121 hv5 dX6_trades_24 ?_
    refine lv_icmp_ge (tgt := 51) hx hb dX6_trades_27 (by decide) (fun c6 => ?_) (fun c6 => ?_)
    · replace hp := oT c6 hp
      exact hk1 _ _ _ _ hM (lv_sub hl [0, 1, 2] rfl) hp
    · replace hp := oF c6 hp
      refine lv_aload_n hx hb dX6_trades_30 rfl (lv_at hl 0 rfl) ?_
      obtain ⟨v7, hv7, hp⟩ := ob hp
      refine mr_getR C0 cbX6 hM 3 (by decide) tw_282 hv7 dX6_trades_31 ?_
      refine lv_iload_n hx hb dX6_trades_34 rfl (lv_at hl 2 rfl) ?_
      refine lv_iload_n hx hb dX6_trades_35 rfl (lv_at hl 3 rfl) ?_
      obtain ⟨_, h8, hp⟩ := ob hp
      obtain ⟨v9, hv9, hp⟩ := ob hp
      refine mr_V1 (As := [.int f2, .int y3]) (rest := []) C0 cbX2 hM h8 rfl (w_X2_wouldTrade hG hv9) tw_686 tw_687 tw_688 tw_3 tw_689 yk_X2_wouldTrade (by decide) rfl hl.1 (Nat.le_of_ble_eq_true rfl) dX6_trades_36 rfl (fun H locs hM => ?_)
      refine lv_if_eq (tgt := 45) hx hb dX6_trades_39 (by decide) (fun c10 => ?_) (fun c10 => ?_)
      · replace hp := oT c10 hp
        refine lv_iinc (v := (y3 + (1 : Int32))) (lv' := [(3, .int (y3 + (1 : Int32))), (0, .ref f0), (1, .int y1), (2, .int f2)]) hx hb dX6_trades_45 hl (k := 3) rfl rfl (by decide) rfl (fun ls hl => ?_)
        refine lv_goto (tgt := 19) hx hb dX6_trades_48 (by decide) ?_
        exact ih _ _ _ _ _ hM (lv_sub hl [1, 2, 3, 0] rfl) hp
      · replace hp := oF c10 hp
        refine lv_iinc (v := (y1 + (1 : Int32))) (lv' := [(1, .int (y1 + (1 : Int32))), (0, .ref f0), (2, .int f2), (3, .int y3)]) hx hb dX6_trades_42 hl (k := 1) rfl rfl (by decide) rfl (fun ls hl => ?_)
        refine lv_iinc (v := (y3 + (1 : Int32))) (lv' := [(3, .int (y3 + (1 : Int32))), (1, .int (y1 + (1 : Int32))), (0, .ref f0), (2, .int f2)]) hx hb dX6_trades_45 hl (k := 3) rfl rfl (by decide) rfl (fun ls hl => ?_)
        refine lv_goto (tgt := 19) hx hb dX6_trades_48 (by decide) ?_
        exact ih _ _ _ _ _ hM (lv_sub hl [2, 1, 3, 0] rfl) hp
def pl_X6_trades_4 (k1 : Int32 → Option (Int32)) (f0 : Nat) (M : Mem) : Nat → Int32 → Int32 → Option (Int32)
  | 0, _, _ => none
  | n + 1, y1, y2 =>
    (Option.bind (gR 5 3 M f0) fun v1 =>
    (Option.bind (gI 2 1 M v1) fun v2 =>
    (if v2 ≤ y2 then
     (k1 y1)
    else
     (pl_X6_trades_19
      (fun (z11 : Int32) =>
       (pl_X6_trades_4 k1 f0 M n z11 (y2 + (1 : Int32)))
      )
      f0 y2 M FU y1 (y2 + (1 : Int32)))
    )
    )
    )
set_option maxHeartbeats 4000000 in
set_option maxRecDepth 100000 in
theorem wl_X6_trades_4 {G : gG} {p : Program} {l : Launch} {e : Env} {s : State} {m : MethodId} {args : Array Value} {below : List Frame} {meth : Method} {c : Code} {A : Nat → Prop} {r : Int32} {k1 : Int32 → Option (Int32)} {f0 : Nat} {M : Mem} (C0 : cx G p s m args c cX6_trades RX6 4 A) (hr : meth.sig.returnType = (some FieldType.int)) (hlk : meth.locks = false) (hG : GOK G) (hk1 : ∀ (z1 : Int32) (H : Heap) (locs : List Loc) (ls : Array Slot), mm G A s M H locs → lv_has ls 4 [(1, .int z1)] → k1 z1 = some r → W p l e rm_X6_trades s m args below meth c H locs 0 0 (MQ below (CQ G M (some (.int r)) A) args s 0 0 A) (F0 m 57 ls [])) : ∀ (n : Nat) (y1 : Int32) (y2 : Int32) (H : Heap) (locs : List Loc) (ls : Array Slot), mm G A s M H locs → lv_has ls 4 [(0, .ref f0), (1, .int y1), (2, .int y2)] → pl_X6_trades_4 k1 f0 M n y1 y2 = some r → W p l e rm_X6_trades s m args below meth c H locs 0 0 (MQ below (CQ G M (some (.int r)) A) args s 0 0 A) (F0 m 4 ls []) := by
  have hx := C0.1
  have hb := C0.2.1
  have hown := C0.2.2.2.1
  have hts := C0.2.2.2.2.1
  intro n
  induction n with
  | zero => intro y1 y2 H locs ls hM hl hp; rw [pl_X6_trades_4] at hp; cases hp
  | succ n ih =>
    intro y1 y2 H locs ls hM hl hp
    rw [pl_X6_trades_4] at hp
    refine lv_iload_n hx hb dX6_trades_4 rfl (lv_at hl 2 rfl) ?_
    refine lv_aload_n hx hb dX6_trades_5 rfl (lv_at hl 0 rfl) ?_
    obtain ⟨v1, hv1, hp⟩ := ob hp
    refine mr_getR C0 cbX6 hM 3 (by decide) tw_282 hv1 dX6_trades_6 ?_
    obtain ⟨v2, hv2, hp⟩ := ob hp
    refine mr_getI C0 cbX2 hM 1 (by decide) tw_121 hv2 dX6_trades_9 ?_
    refine lv_icmp_ge (tgt := 57) hx hb dX6_trades_12 (by decide) (fun c3 => ?_) (fun c3 => ?_)
    · replace hp := oT c3 hp
      exact hk1 _ _ _ _ hM (lv_sub hl [1] rfl) hp
    · replace hp := oF c3 hp
      refine lv_iload_n hx hb dX6_trades_15 rfl (lv_at hl 2 rfl) ?_
      refine lv_iconst (v := 1) hx hb dX6_trades_16 (by decide) ?_
      refine lv_iadd hx hb dX6_trades_17 ?_
      refine lv_istore_n (lv' := [(3, .int (y2 + (1 : Int32))), (0, .ref f0), (1, .int y1), (2, .int y2)]) hx hb dX6_trades_18 rfl hl (by decide) rfl (fun ls hl => ?_)
      refine wl_X6_trades_19 C0 hr hlk hG (fun z11 H locs ls hM hl hp => ?_) FU _ _ _ _ _ hM (lv_sub hl [1, 2, 3, 0] rfl) hp
      refine lv_iinc (v := (y2 + (1 : Int32))) (lv' := [(2, .int (y2 + (1 : Int32))), (0, .ref f0), (1, .int z11)]) hx hb dX6_trades_51 hl (k := 2) rfl rfl (by decide) rfl (fun ls hl => ?_)
      refine lv_goto (tgt := 4) hx hb dX6_trades_54 (by decide) ?_
      exact ih _ _ _ _ _ hM (lv_sub hl [1, 2, 0] rfl) hp
def p_X6_trades (a0 : Nat) (M : Mem) : Option (Int32) :=
  (pl_X6_trades_4
   (fun (z12 : Int32) =>
    some z12
   )
   a0 M FU (0 : Int32) (0 : Int32))
theorem yk_X6_trades : yok yX6_trades 0 := by decide +kernel
set_option maxHeartbeats 4000000 in
set_option maxRecDepth 100000 in
theorem w_X6_trades {G : gG} (hG : GOK G) {l : Launch} {a0 : Nat} {M : Mem} {r : Int32} (hp : p_X6_trades a0 M = some r) : CT G l yX6_trades (wT yX6_trades cX6_trades 4 (some FieldType.int)) rm_X6_trades [.ref a0] M (some (.int r)) M 0 0 := by
  refine CT_of (own := RX6) (maxL := 4) (ret := (some FieldType.int)) hG (by decide) rfl (Nat.le_of_ble_eq_true rfl) (fun p e s m below meth c A C0 hr hlk hM ls hl => ?_)
  have hl : lv_has ls 4 [(0, .ref a0)] := hl
  generalize ([.ref a0] : List Value).toArray = args at C0 ⊢
  skip
  have hx := C0.1
  have hb := C0.2.1
  have hown := C0.2.2.2.1
  have hts := C0.2.2.2.2.1
  unfold p_X6_trades at hp
  refine lv_iconst (v := 0) hx hb dX6_trades_0 (by decide) ?_
  refine lv_istore_n (lv' := [(1, .int (0 : Int32)), (0, .ref a0)]) hx hb dX6_trades_1 rfl hl (by decide) rfl (fun ls hl => ?_)
  refine lv_iconst (v := 0) hx hb dX6_trades_2 (by decide) ?_
  refine lv_istore_n (lv' := [(2, .int (0 : Int32)), (1, .int (0 : Int32)), (0, .ref a0)]) hx hb dX6_trades_3 rfl hl (by decide) rfl (fun ls hl => ?_)
  refine wl_X6_trades_4 C0 hr hlk hG (fun z12 H locs ls hM hl hp => ?_) FU _ _ _ _ _ hM (lv_sub hl [2, 1, 0] rfl) hp
  refine lv_iload_n hx hb dX6_trades_57 rfl (lv_at hl 0 rfl) ?_
  exact mr_iret C0 hr hlk hM rfl (Option.some.inj hp) (Nat.le_refl _) (Nat.le_refl _) dX6_trades_58
abbrev rm_X6_meanWay : Room := { frames := 1, cells := 0, slots := 0, locals := 25 }
def pl_X6_meanWay_7 (k1 : Int32 → UInt64 → Option (UInt64)) (f0 : Nat) (M : Mem) : Nat → Int32 → UInt64 → Int32 → Option (UInt64)
  | 0, _, _, _ => none
  | n + 1, y1, y2, y4 =>
    (Option.bind (gR 5 3 M f0) fun v1 =>
    (Option.bind (gI 2 1 M v1) fun v2 =>
    (if v2 ≤ y4 then
     (k1 y1 y2)
    else
     (Option.bind (gR 5 3 M f0) fun v4 =>
     (Option.bind (gR 2 16 M v4) fun v5 =>
     (Option.bind (aI 0 M v5 y4) fun v6 =>
     (if v6 = (-1 : Int32) then
      (pl_X6_meanWay_7 k1 f0 M n y1 y2 (y4 + (1 : Int32)))
     else
      (Option.bind (gR 5 3 M f0) fun v8 =>
      (Option.bind (isC 2 M v8) fun _ =>
      (Option.bind (p_X2_squareWay v8 y4 v6 M) fun v10 =>
      (Option.bind (p_X6_root v10 M) fun v11 =>
      (jn (FP.dadd y2 v11) fun w12 =>
      (if w12 &&& 0x7fffffffffffffff ≤ 0x7ff0000000000000 then
      (pl_X6_meanWay_7 k1 f0 M n (y1 + (1 : Int32)) w12 (y4 + (1 : Int32)))
      else none))
      )
      )
      )
      )
     )
     )
     )
     )
    )
    )
    )
set_option maxHeartbeats 4000000 in
set_option maxRecDepth 100000 in
theorem wl_X6_meanWay_7 {G : gG} {p : Program} {l : Launch} {e : Env} {s : State} {m : MethodId} {args : Array Value} {below : List Frame} {meth : Method} {c : Code} {A : Nat → Prop} {r : UInt64} {k1 : Int32 → UInt64 → Option (UInt64)} {f0 : Nat} {M : Mem} (C0 : cx G p s m args c cX6_meanWay RX6 6 A) (hr : meth.sig.returnType = (some FieldType.double)) (hlk : meth.locks = false) (hG : GOK G) (hk1 : ∀ (z1 : Int32) (z2 : UInt64) (H : Heap) (locs : List Loc) (ls : Array Slot), mm G A s M H locs → lv_has ls 6 [(1, .int z1), (2, .double z2)] → k1 z1 z2 = some r → W p l e rm_X6_meanWay s m args below meth c H locs 0 0 (MQ below (CQ G M (some (.double r)) A) args s 0 0 A) (F0 m 63 ls [])) : ∀ (n : Nat) (y1 : Int32) (y2 : UInt64) (y4 : Int32) (H : Heap) (locs : List Loc) (ls : Array Slot), mm G A s M H locs → lv_has ls 6 [(0, .ref f0), (1, .int y1), (2, .double y2), (4, .int y4)] → pl_X6_meanWay_7 k1 f0 M n y1 y2 y4 = some r → W p l e rm_X6_meanWay s m args below meth c H locs 0 0 (MQ below (CQ G M (some (.double r)) A) args s 0 0 A) (F0 m 7 ls []) := by
  have hx := C0.1
  have hb := C0.2.1
  have hown := C0.2.2.2.1
  have hts := C0.2.2.2.2.1
  intro n
  induction n with
  | zero => intro y1 y2 y4 H locs ls hM hl hp; rw [pl_X6_meanWay_7] at hp; cases hp
  | succ n ih =>
    intro y1 y2 y4 H locs ls hM hl hp
    rw [pl_X6_meanWay_7] at hp
    refine lv_iload hx hb dX6_meanWay_7 (lv_at hl 3 rfl) ?_
    refine lv_aload_n hx hb dX6_meanWay_9 rfl (lv_at hl 0 rfl) ?_
    obtain ⟨v1, hv1, hp⟩ := ob hp
    refine mr_getR C0 cbX6 hM 3 (by decide) tw_282 hv1 dX6_meanWay_10 ?_
    obtain ⟨v2, hv2, hp⟩ := ob hp
    refine mr_getI C0 cbX2 hM 1 (by decide) tw_121 hv2 dX6_meanWay_13 ?_
    refine lv_icmp_ge (tgt := 63) hx hb dX6_meanWay_16 (by decide) (fun c3 => ?_) (fun c3 => ?_)
    · replace hp := oT c3 hp
      exact hk1 _ _ _ _ _ hM (lv_sub hl [1, 2] rfl) hp
    · replace hp := oF c3 hp
      refine lv_aload_n hx hb dX6_meanWay_19 rfl (lv_at hl 0 rfl) ?_
      obtain ⟨v4, hv4, hp⟩ := ob hp
      refine mr_getR C0 cbX6 hM 3 (by decide) tw_282 hv4 dX6_meanWay_20 ?_
      obtain ⟨v5, hv5, hp⟩ := ob hp
      refine mr_getR C0 cbX2 hM 16 (by decide) tw_157 hv5 dX6_meanWay_23 ?_
      refine lv_iload hx hb dX6_meanWay_26 (lv_at hl 3 rfl) ?_
      obtain ⟨v6, hv6, hp⟩ := ob hp
      refine mr_iald C0 hM hv6 dX6_meanWay_28 ?_
      refine lv_istore (lv' := [(5, .int v6), (0, .ref f0), (1, .int y1), (2, .double y2), (4, .int y4)]) hx hb dX6_meanWay_29 hl (by decide) rfl (fun ls hl => ?_)
      refine lv_iload hx hb dX6_meanWay_31 (lv_at hl 0 rfl) ?_
      refine lv_iconst (v := -1) hx hb dX6_meanWay_33 (by decide) ?_
      refine lv_icmp_eq (tgt := 57) hx hb dX6_meanWay_34 (by decide) (fun c7 => ?_) (fun c7 => ?_)
      · replace hp := oT c7 hp
        refine lv_iinc (v := (y4 + (1 : Int32))) (lv' := [(4, .int (y4 + (1 : Int32))), (5, .int v6), (0, .ref f0), (1, .int y1), (2, .double y2)]) hx hb dX6_meanWay_57 hl (k := 4) rfl rfl (by decide) rfl (fun ls hl => ?_)
        refine lv_goto (tgt := 7) hx hb dX6_meanWay_60 (by decide) ?_
        exact ih _ _ _ _ _ _ hM (lv_sub hl [2, 3, 4, 0] rfl) hp
      · replace hp := oF c7 hp
        refine lv_iinc (v := (y1 + (1 : Int32))) (lv' := [(1, .int (y1 + (1 : Int32))), (5, .int v6), (0, .ref f0), (2, .double y2), (4, .int y4)]) hx hb dX6_meanWay_37 hl (k := 2) rfl rfl (by decide) rfl (fun ls hl => ?_)
        refine lv_dload_n hx hb dX6_meanWay_40 rfl (lv_at hl 3 rfl) ?_
        refine lv_aload_n hx hb dX6_meanWay_41 rfl (lv_at hl 2 rfl) ?_
        obtain ⟨v8, hv8, hp⟩ := ob hp
        refine mr_getR C0 cbX6 hM 3 (by decide) tw_282 hv8 dX6_meanWay_42 ?_
        refine lv_iload hx hb dX6_meanWay_45 (lv_at hl 4 rfl) ?_
        refine lv_iload hx hb dX6_meanWay_47 (lv_at hl 1 rfl) ?_
        obtain ⟨_, h9, hp⟩ := ob hp
        obtain ⟨v10, hv10, hp⟩ := ob hp
        refine mr_V1 (As := [.int y4, .int v6]) (rest := [.double y2]) C0 cbX2 hM h9 rfl (w_X2_squareWay hG hv10) tw_694 tw_579 tw_580 tw_3 tw_581 yk_X2_squareWay (by decide) rfl hl.1 (Nat.le_of_ble_eq_true rfl) dX6_meanWay_49 rfl (fun H locs hM => ?_)
        obtain ⟨v11, hv11, hp⟩ := ob hp
        refine mr_S1 (As := [.int v10]) (rest := [.double y2]) C0 hM (w_X6_root hG hv11) tw_695 tw_696 tw_1 tw_697 yk_X6_root (by decide) rfl hl.1 (Nat.le_of_ble_eq_true rfl) dX6_meanWay_52 rfl (fun H locs hM => ?_)
        obtain ⟨w12, ew12, hp⟩ := ojn hp
        obtain ⟨hne, hp⟩ := oG hp
        refine lv_dadd hx hb dX6_meanWay_55 (by rw [← ew12]; exact hne) ?_
        rw [← ew12]
        refine lv_dstore_n (lv' := [(2, .double w12), (1, .int (y1 + (1 : Int32))), (5, .int v6), (0, .ref f0), (4, .int y4)]) hx hb dX6_meanWay_56 rfl hl (by decide) rfl (fun ls hl => ?_)
        refine lv_iinc (v := (y4 + (1 : Int32))) (lv' := [(4, .int (y4 + (1 : Int32))), (2, .double w12), (1, .int (y1 + (1 : Int32))), (5, .int v6), (0, .ref f0)]) hx hb dX6_meanWay_57 hl (k := 4) rfl rfl (by decide) rfl (fun ls hl => ?_)
        refine lv_goto (tgt := 7) hx hb dX6_meanWay_60 (by decide) ?_
        exact ih _ _ _ _ _ _ hM (lv_sub hl [4, 2, 1, 0] rfl) hp
def p_X6_meanWay (a0 : Nat) (M : Mem) : Option (UInt64) :=
  (pl_X6_meanWay_7
   (fun (z13 : Int32) (z14 : UInt64) =>
    (if z13 = 0 then
     some FP.dconst0
    else
     (jn (FP.ddiv z14 (FP.i2d z13)) fun w16 =>
     (if w16 &&& 0x7fffffffffffffff ≤ 0x7ff0000000000000 then
     some w16
     else none))
    )
   )
   a0 M FU (0 : Int32) FP.dconst0 (0 : Int32))
theorem yk_X6_meanWay : yok yX6_meanWay 0 := by decide +kernel
set_option maxHeartbeats 4000000 in
set_option maxRecDepth 100000 in
theorem w_X6_meanWay {G : gG} (hG : GOK G) {l : Launch} {a0 : Nat} {M : Mem} {r : UInt64} (hp : p_X6_meanWay a0 M = some r) : CT G l yX6_meanWay (wT yX6_meanWay cX6_meanWay 6 (some FieldType.double)) rm_X6_meanWay [.ref a0] M (some (.double r)) M 0 0 := by
  refine CT_of (own := RX6) (maxL := 6) (ret := (some FieldType.double)) hG (by decide) rfl (Nat.le_of_ble_eq_true rfl) (fun p e s m below meth c A C0 hr hlk hM ls hl => ?_)
  have hl : lv_has ls 6 [(0, .ref a0)] := hl
  generalize ([.ref a0] : List Value).toArray = args at C0 ⊢
  skip
  have hx := C0.1
  have hb := C0.2.1
  have hown := C0.2.2.2.1
  have hts := C0.2.2.2.2.1
  unfold p_X6_meanWay at hp
  refine lv_iconst (v := 0) hx hb dX6_meanWay_0 (by decide) ?_
  refine lv_istore_n (lv' := [(1, .int (0 : Int32)), (0, .ref a0)]) hx hb dX6_meanWay_1 rfl hl (by decide) rfl (fun ls hl => ?_)
  refine lv_dconst0 hx hb dX6_meanWay_2 ?_
  refine lv_dstore_n (lv' := [(2, .double FP.dconst0), (1, .int (0 : Int32)), (0, .ref a0)]) hx hb dX6_meanWay_3 rfl hl (by decide) rfl (fun ls hl => ?_)
  refine lv_iconst (v := 0) hx hb dX6_meanWay_4 (by decide) ?_
  refine lv_istore (lv' := [(4, .int (0 : Int32)), (2, .double FP.dconst0), (1, .int (0 : Int32)), (0, .ref a0)]) hx hb dX6_meanWay_5 hl (by decide) rfl (fun ls hl => ?_)
  refine wl_X6_meanWay_7 C0 hr hlk hG (fun z13 z14 H locs ls hM hl hp => ?_) FU _ _ _ _ _ _ hM (lv_sub hl [3, 2, 1, 0] rfl) hp
  refine lv_iload_n hx hb dX6_meanWay_63 rfl (lv_at hl 0 rfl) ?_
  refine lv_if_ne (tgt := 71) hx hb dX6_meanWay_64 (by decide) (fun c15 => ?_) (fun c15 => ?_)
  · replace hp := oF c15 hp
    refine lv_dload_n hx hb dX6_meanWay_71 rfl (lv_at hl 1 rfl) ?_
    refine lv_iload_n hx hb dX6_meanWay_72 rfl (lv_at hl 0 rfl) ?_
    refine lv_i2d hx hb dX6_meanWay_73 ?_
    obtain ⟨w16, ew16, hp⟩ := ojn hp
    obtain ⟨hne, hp⟩ := oG hp
    refine lv_ddiv hx hb dX6_meanWay_74 (by rw [← ew16]; exact hne) ?_
    rw [← ew16]
    exact mr_dret C0 hr hlk hM rfl (Option.some.inj hp) (Nat.le_refl _) (Nat.le_refl _) dX6_meanWay_75
  · replace hp := oT c15 hp
    refine lv_dconst0 hx hb dX6_meanWay_67 ?_
    refine lv_goto (tgt := 75) hx hb dX6_meanWay_68 (by decide) ?_
    exact mr_dret C0 hr hlk hM rfl (Option.some.inj hp) (Nat.le_refl _) (Nat.le_refl _) dX6_meanWay_75
abbrev rm_X6_mostWaited : Room := { frames := 4, cells := 0, slots := 0, locals := 92 }
def pl_X6_mostWaited_6 (k1 : Int32 → Option (Int32)) (f0 : Nat) (M : Mem) : Nat → Int32 → Int32 → Int32 → Option (Int32)
  | 0, _, _, _ => none
  | n + 1, y1, y2, y3 =>
    (Option.bind (gR 5 3 M f0) fun v1 =>
    (Option.bind (gR 2 0 M v1) fun v2 =>
    (Option.bind (gI 4 0 M v2) fun v3 =>
    (if v3 ≤ y3 then
     (k1 y1)
    else
     (Option.bind (gR 5 3 M f0) fun v5 =>
     (Option.bind (isC 2 M v5) fun _ =>
     (Option.bind (p_X2_waitersOf v5 y3 M) fun v7 =>
     (Option.bind (p_J13_bitCount_95d88 v7 M) fun v8 =>
     (if v8 ≤ y2 then
      (pl_X6_mostWaited_6 k1 f0 M n y1 y2 (y3 + (1 : Int32)))
     else
      (pl_X6_mostWaited_6 k1 f0 M n y3 v8 (y3 + (1 : Int32)))
     )
     )
     )
     )
     )
    )
    )
    )
    )
set_option maxHeartbeats 4000000 in
set_option maxRecDepth 100000 in
theorem wl_X6_mostWaited_6 {G : gG} {p : Program} {l : Launch} {e : Env} {s : State} {m : MethodId} {args : Array Value} {below : List Frame} {meth : Method} {c : Code} {A : Nat → Prop} {r : Int32} {k1 : Int32 → Option (Int32)} {f0 : Nat} {M : Mem} (C0 : cx G p s m args c cX6_mostWaited RX6 5 A) (hr : meth.sig.returnType = (some FieldType.int)) (hlk : meth.locks = false) (hG : GOK G) (hk1 : ∀ (z1 : Int32) (H : Heap) (locs : List Loc) (ls : Array Slot), mm G A s M H locs → lv_has ls 5 [(1, .int z1)] → k1 z1 = some r → W p l e rm_X6_mostWaited s m args below meth c H locs 0 0 (MQ below (CQ G M (some (.int r)) A) args s 0 0 A) (F0 m 50 ls [])) : ∀ (n : Nat) (y1 : Int32) (y2 : Int32) (y3 : Int32) (H : Heap) (locs : List Loc) (ls : Array Slot), mm G A s M H locs → lv_has ls 5 [(0, .ref f0), (1, .int y1), (2, .int y2), (3, .int y3)] → pl_X6_mostWaited_6 k1 f0 M n y1 y2 y3 = some r → W p l e rm_X6_mostWaited s m args below meth c H locs 0 0 (MQ below (CQ G M (some (.int r)) A) args s 0 0 A) (F0 m 6 ls []) := by
  have hx := C0.1
  have hb := C0.2.1
  have hown := C0.2.2.2.1
  have hts := C0.2.2.2.2.1
  intro n
  induction n with
  | zero => intro y1 y2 y3 H locs ls hM hl hp; rw [pl_X6_mostWaited_6] at hp; cases hp
  | succ n ih =>
    intro y1 y2 y3 H locs ls hM hl hp
    rw [pl_X6_mostWaited_6] at hp
    refine lv_iload_n hx hb dX6_mostWaited_6 rfl (lv_at hl 3 rfl) ?_
    refine lv_aload_n hx hb dX6_mostWaited_7 rfl (lv_at hl 0 rfl) ?_
    obtain ⟨v1, hv1, hp⟩ := ob hp
    refine mr_getR C0 cbX6 hM 3 (by decide) tw_282 hv1 dX6_mostWaited_8 ?_
    obtain ⟨v2, hv2, hp⟩ := ob hp
    refine mr_getR C0 cbX2 hM 0 (by decide) tw_115 hv2 dX6_mostWaited_11 ?_
    obtain ⟨v3, hv3, hp⟩ := ob hp
    refine mr_getI C0 cbX4 hM 0 (by decide) tw_50 hv3 dX6_mostWaited_14 ?_
    refine lv_icmp_ge (tgt := 50) hx hb dX6_mostWaited_17 (by decide) (fun c4 => ?_) (fun c4 => ?_)
    · replace hp := oT c4 hp
      exact hk1 _ _ _ _ hM (lv_sub hl [1] rfl) hp
    · replace hp := oF c4 hp
      refine lv_aload_n hx hb dX6_mostWaited_20 rfl (lv_at hl 0 rfl) ?_
      obtain ⟨v5, hv5, hp⟩ := ob hp
      refine mr_getR C0 cbX6 hM 3 (by decide) tw_282 hv5 dX6_mostWaited_21 ?_
      refine lv_iload_n hx hb dX6_mostWaited_24 rfl (lv_at hl 3 rfl) ?_
      obtain ⟨_, h6, hp⟩ := ob hp
      obtain ⟨v7, hv7, hp⟩ := ob hp
      refine mr_V1 (As := [.int y3]) (rest := []) C0 cbX2 hM h6 rfl (w_X2_waitersOf hG hv7) tw_703 tw_642 tw_643 tw_3 tw_644 yk_X2_waitersOf (by decide) rfl hl.1 (Nat.le_of_ble_eq_true rfl) dX6_mostWaited_25 rfl (fun H locs hM => ?_)
      obtain ⟨v8, hv8, hp⟩ := ob hp
      refine mr_S1 (As := [.long v7]) (rest := []) C0 hM (w_J13_bitCount_95d88 hG hv8) tw_678 tw_621 tw_15 tw_622 yk_J13_bitCount_95d88 (by decide) rfl hl.1 (Nat.le_of_ble_eq_true rfl) dX6_mostWaited_28 rfl (fun H locs hM => ?_)
      refine lv_istore (lv' := [(4, .int v8), (0, .ref f0), (1, .int y1), (2, .int y2), (3, .int y3)]) hx hb dX6_mostWaited_31 hl (by decide) rfl (fun ls hl => ?_)
      refine lv_iload hx hb dX6_mostWaited_33 (lv_at hl 0 rfl) ?_
      refine lv_iload_n hx hb dX6_mostWaited_35 rfl (lv_at hl 3 rfl) ?_
      refine lv_icmp_le (tgt := 44) hx hb dX6_mostWaited_36 (by decide) (fun c9 => ?_) (fun c9 => ?_)
      · replace hp := oT c9 hp
        refine lv_iinc (v := (y3 + (1 : Int32))) (lv' := [(3, .int (y3 + (1 : Int32))), (4, .int v8), (0, .ref f0), (1, .int y1), (2, .int y2)]) hx hb dX6_mostWaited_44 hl (k := 4) rfl rfl (by decide) rfl (fun ls hl => ?_)
        refine lv_goto (tgt := 6) hx hb dX6_mostWaited_47 (by decide) ?_
        exact ih _ _ _ _ _ _ hM (lv_sub hl [2, 3, 4, 0] rfl) hp
      · replace hp := oF c9 hp
        refine lv_iload_n hx hb dX6_mostWaited_39 rfl (lv_at hl 4 rfl) ?_
        refine lv_istore_n (lv' := [(1, .int y3), (4, .int v8), (0, .ref f0), (2, .int y2), (3, .int y3)]) hx hb dX6_mostWaited_40 rfl hl (by decide) rfl (fun ls hl => ?_)
        refine lv_iload hx hb dX6_mostWaited_41 (lv_at hl 1 rfl) ?_
        refine lv_istore_n (lv' := [(2, .int v8), (1, .int y3), (4, .int v8), (0, .ref f0), (3, .int y3)]) hx hb dX6_mostWaited_43 rfl hl (by decide) rfl (fun ls hl => ?_)
        refine lv_iinc (v := (y3 + (1 : Int32))) (lv' := [(3, .int (y3 + (1 : Int32))), (2, .int v8), (1, .int y3), (4, .int v8), (0, .ref f0)]) hx hb dX6_mostWaited_44 hl (k := 4) rfl rfl (by decide) rfl (fun ls hl => ?_)
        refine lv_goto (tgt := 6) hx hb dX6_mostWaited_47 (by decide) ?_
        exact ih _ _ _ _ _ _ hM (lv_sub hl [4, 2, 1, 0] rfl) hp
def p_X6_mostWaited (a0 : Nat) (M : Mem) : Option (Int32) :=
  (pl_X6_mostWaited_6
   (fun (z10 : Int32) =>
    some z10
   )
   a0 M FU (-1 : Int32) (0 : Int32) (0 : Int32))
theorem yk_X6_mostWaited : yok yX6_mostWaited 0 := by decide +kernel
set_option maxHeartbeats 4000000 in
set_option maxRecDepth 100000 in
theorem w_X6_mostWaited {G : gG} (hG : GOK G) {l : Launch} {a0 : Nat} {M : Mem} {r : Int32} (hp : p_X6_mostWaited a0 M = some r) : CT G l yX6_mostWaited (wT yX6_mostWaited cX6_mostWaited 5 (some FieldType.int)) rm_X6_mostWaited [.ref a0] M (some (.int r)) M 0 0 := by
  refine CT_of (own := RX6) (maxL := 5) (ret := (some FieldType.int)) hG (by decide) rfl (Nat.le_of_ble_eq_true rfl) (fun p e s m below meth c A C0 hr hlk hM ls hl => ?_)
  have hl : lv_has ls 5 [(0, .ref a0)] := hl
  generalize ([.ref a0] : List Value).toArray = args at C0 ⊢
  skip
  have hx := C0.1
  have hb := C0.2.1
  have hown := C0.2.2.2.1
  have hts := C0.2.2.2.2.1
  unfold p_X6_mostWaited at hp
  refine lv_iconst (v := -1) hx hb dX6_mostWaited_0 (by decide) ?_
  refine lv_istore_n (lv' := [(1, .int (-1 : Int32)), (0, .ref a0)]) hx hb dX6_mostWaited_1 rfl hl (by decide) rfl (fun ls hl => ?_)
  refine lv_iconst (v := 0) hx hb dX6_mostWaited_2 (by decide) ?_
  refine lv_istore_n (lv' := [(2, .int (0 : Int32)), (1, .int (-1 : Int32)), (0, .ref a0)]) hx hb dX6_mostWaited_3 rfl hl (by decide) rfl (fun ls hl => ?_)
  refine lv_iconst (v := 0) hx hb dX6_mostWaited_4 (by decide) ?_
  refine lv_istore_n (lv' := [(3, .int (0 : Int32)), (2, .int (0 : Int32)), (1, .int (-1 : Int32)), (0, .ref a0)]) hx hb dX6_mostWaited_5 rfl hl (by decide) rfl (fun ls hl => ?_)
  refine wl_X6_mostWaited_6 C0 hr hlk hG (fun z10 H locs ls hM hl hp => ?_) FU _ _ _ _ _ _ hM (lv_sub hl [3, 2, 1, 0] rfl) hp
  refine lv_iload_n hx hb dX6_mostWaited_50 rfl (lv_at hl 0 rfl) ?_
  exact mr_iret C0 hr hlk hM rfl (Option.some.inj hp) (Nat.le_refl _) (Nat.le_refl _) dX6_mostWaited_51
abbrev rm_X6_changedByAllocation : Room := { frames := 6, cells := 0, slots := 0, locals := 150 }
def pl_X6_changedByAllocation_26 (k1 : Int32 → Option (Int32 × Mem)) (f0 : Nat) (M : Mem) : Nat → Int32 → Int32 → Option (Int32 × Mem)
  | 0, _, _ => none
  | n + 1, y1, y2 =>
    (Option.bind (gR 5 3 M f0) fun v9 =>
    (Option.bind (gI 2 1 M v9) fun v10 =>
    (if v10 ≤ y2 then
     (k1 y1)
    else
     (Option.bind (gR 5 4 M f0) fun v12 =>
     (Option.bind (gR 2 16 M v12) fun v13 =>
     (Option.bind (aI 0 M v13 y2) fun v14 =>
     (Option.bind (gR 5 3 M f0) fun v15 =>
     (Option.bind (gR 2 16 M v15) fun v16 =>
     (Option.bind (aI 0 M v16 y2) fun v17 =>
     (if v14 = v17 then
      (pl_X6_changedByAllocation_26 k1 f0 M n y1 (y2 + (1 : Int32)))
     else
      (pl_X6_changedByAllocation_26 k1 f0 M n (y1 + (1 : Int32)) (y2 + (1 : Int32)))
     )
     )
     )
     )
     )
     )
     )
    )
    )
    )
set_option maxHeartbeats 4000000 in
set_option maxRecDepth 100000 in
theorem wl_X6_changedByAllocation_26 {G : gG} {p : Program} {l : Launch} {e : Env} {s : State} {m : MethodId} {args : Array Value} {below : List Frame} {meth : Method} {c : Code} {A : Nat → Prop} {r : Int32} {M' : Mem} {k1 : Int32 → Option (Int32 × Mem)} {f0 : Nat} {M : Mem} (C0 : cx G p s m args c cX6_changedByAllocation RX6 3 A) (hr : meth.sig.returnType = (some FieldType.int)) (hlk : meth.locks = false) (hG : GOK G) (hk1 : ∀ (z1 : Int32) (H : Heap) (locs : List Loc) (ls : Array Slot), mm G A s M H locs → lv_has ls 3 [(1, .int z1)] → k1 z1 = some (r, M') → W p l e rm_X6_changedByAllocation s m args below meth c H locs 0 0 (MQ below (CQ G M' (some (.int r)) A) args s 0 0 A) (F0 m 67 ls [])) : ∀ (n : Nat) (y1 : Int32) (y2 : Int32) (H : Heap) (locs : List Loc) (ls : Array Slot), mm G A s M H locs → lv_has ls 3 [(0, .ref f0), (1, .int y1), (2, .int y2)] → pl_X6_changedByAllocation_26 k1 f0 M n y1 y2 = some (r, M') → W p l e rm_X6_changedByAllocation s m args below meth c H locs 0 0 (MQ below (CQ G M' (some (.int r)) A) args s 0 0 A) (F0 m 26 ls []) := by
  have hx := C0.1
  have hb := C0.2.1
  have hown := C0.2.2.2.1
  have hts := C0.2.2.2.2.1
  intro n
  induction n with
  | zero => intro y1 y2 H locs ls hM hl hp; rw [pl_X6_changedByAllocation_26] at hp; cases hp
  | succ n ih =>
    intro y1 y2 H locs ls hM hl hp
    rw [pl_X6_changedByAllocation_26] at hp
    refine lv_iload_n hx hb dX6_changedByAllocation_26 rfl (lv_at hl 2 rfl) ?_
    refine lv_aload_n hx hb dX6_changedByAllocation_27 rfl (lv_at hl 0 rfl) ?_
    obtain ⟨v9, hv9, hp⟩ := ob hp
    refine mr_getR C0 cbX6 hM 3 (by decide) tw_282 hv9 dX6_changedByAllocation_28 ?_
    obtain ⟨v10, hv10, hp⟩ := ob hp
    refine mr_getI C0 cbX2 hM 1 (by decide) tw_121 hv10 dX6_changedByAllocation_31 ?_
    refine lv_icmp_ge (tgt := 67) hx hb dX6_changedByAllocation_34 (by decide) (fun c11 => ?_) (fun c11 => ?_)
    · replace hp := oT c11 hp
      exact hk1 _ _ _ _ hM (lv_sub hl [1] rfl) hp
    · replace hp := oF c11 hp
      refine lv_aload_n hx hb dX6_changedByAllocation_37 rfl (lv_at hl 0 rfl) ?_
      obtain ⟨v12, hv12, hp⟩ := ob hp
      refine mr_getR C0 cbX6 hM 4 (by decide) tw_283 hv12 dX6_changedByAllocation_38 ?_
      obtain ⟨v13, hv13, hp⟩ := ob hp
      refine mr_getR C0 cbX2 hM 16 (by decide) tw_157 hv13 dX6_changedByAllocation_41 ?_
      refine lv_iload_n hx hb dX6_changedByAllocation_44 rfl (lv_at hl 2 rfl) ?_
      obtain ⟨v14, hv14, hp⟩ := ob hp
      refine mr_iald C0 hM hv14 dX6_changedByAllocation_45 ?_
      refine lv_aload_n hx hb dX6_changedByAllocation_46 rfl (lv_at hl 0 rfl) ?_
      obtain ⟨v15, hv15, hp⟩ := ob hp
      refine mr_getR C0 cbX6 hM 3 (by decide) tw_282 hv15 dX6_changedByAllocation_47 ?_
      obtain ⟨v16, hv16, hp⟩ := ob hp
      refine mr_getR C0 cbX2 hM 16 (by decide) tw_157 hv16 dX6_changedByAllocation_50 ?_
      refine lv_iload_n hx hb dX6_changedByAllocation_53 rfl (lv_at hl 2 rfl) ?_
      obtain ⟨v17, hv17, hp⟩ := ob hp
      refine mr_iald C0 hM hv17 dX6_changedByAllocation_54 ?_
      refine lv_icmp_eq (tgt := 61) hx hb dX6_changedByAllocation_55 (by decide) (fun c18 => ?_) (fun c18 => ?_)
      · replace hp := oT c18 hp
        refine lv_iinc (v := (y2 + (1 : Int32))) (lv' := [(2, .int (y2 + (1 : Int32))), (0, .ref f0), (1, .int y1)]) hx hb dX6_changedByAllocation_61 hl (k := 2) rfl rfl (by decide) rfl (fun ls hl => ?_)
        refine lv_goto (tgt := 26) hx hb dX6_changedByAllocation_64 (by decide) ?_
        exact ih _ _ _ _ _ hM (lv_sub hl [1, 2, 0] rfl) hp
      · replace hp := oF c18 hp
        refine lv_iinc (v := (y1 + (1 : Int32))) (lv' := [(1, .int (y1 + (1 : Int32))), (0, .ref f0), (2, .int y2)]) hx hb dX6_changedByAllocation_58 hl (k := 1) rfl rfl (by decide) rfl (fun ls hl => ?_)
        refine lv_iinc (v := (y2 + (1 : Int32))) (lv' := [(2, .int (y2 + (1 : Int32))), (1, .int (y1 + (1 : Int32))), (0, .ref f0)]) hx hb dX6_changedByAllocation_61 hl (k := 2) rfl rfl (by decide) rfl (fun ls hl => ?_)
        refine lv_goto (tgt := 26) hx hb dX6_changedByAllocation_64 (by decide) ?_
        exact ih _ _ _ _ _ hM (lv_sub hl [2, 1, 0] rfl) hp
def p_X6_changedByAllocation (a0 : Nat) (M : Mem) : Option (Int32 × Mem) :=
  (Option.bind (gR 5 4 M a0) fun v1 =>
  (Option.bind (gR 5 3 M a0) fun v2 =>
  (Option.bind (isC 2 M v1) fun _ =>
  (Option.bind (p_X2_copyFrom v1 v2 M) fun M4 =>
  (Option.bind (gR 5 1 M4 a0) fun v5 =>
  (Option.bind (gR 5 4 M4 a0) fun v6 =>
  (Option.bind (isC 0 M4 v5) fun _ =>
  (Option.bind (p_X0_run v5 v6 M4) fun M8 =>
  (pl_X6_changedByAllocation_26
   (fun (z19 : Int32) =>
    some (z19, M8)
   )
   a0 M8 FU (0 : Int32) (0 : Int32))
  )
  )
  )
  )
  )
  )
  )
  )
theorem yk_X6_changedByAllocation : yok yX6_changedByAllocation 0 := by decide +kernel
set_option maxHeartbeats 4000000 in
set_option maxRecDepth 100000 in
theorem w_X6_changedByAllocation {G : gG} (hG : GOK G) {l : Launch} {a0 : Nat} {M : Mem} {r : Int32} {M' : Mem} (hp : p_X6_changedByAllocation a0 M = some (r, M')) : CT G l yX6_changedByAllocation (wT yX6_changedByAllocation cX6_changedByAllocation 3 (some FieldType.int)) rm_X6_changedByAllocation [.ref a0] M (some (.int r)) M' 0 0 := by
  refine CT_of (own := RX6) (maxL := 3) (ret := (some FieldType.int)) hG (by decide) rfl (Nat.le_of_ble_eq_true rfl) (fun p e s m below meth c A C0 hr hlk hM ls hl => ?_)
  have hl : lv_has ls 3 [(0, .ref a0)] := hl
  generalize ([.ref a0] : List Value).toArray = args at C0 ⊢
  skip
  have hx := C0.1
  have hb := C0.2.1
  have hown := C0.2.2.2.1
  have hts := C0.2.2.2.2.1
  unfold p_X6_changedByAllocation at hp
  refine lv_aload_n hx hb dX6_changedByAllocation_0 rfl (lv_at hl 0 rfl) ?_
  obtain ⟨v1, hv1, hp⟩ := ob hp
  refine mr_getR C0 cbX6 hM 4 (by decide) tw_283 hv1 dX6_changedByAllocation_1 ?_
  refine lv_aload_n hx hb dX6_changedByAllocation_4 rfl (lv_at hl 0 rfl) ?_
  obtain ⟨v2, hv2, hp⟩ := ob hp
  refine mr_getR C0 cbX6 hM 3 (by decide) tw_282 hv2 dX6_changedByAllocation_5 ?_
  obtain ⟨_, h3, hp⟩ := ob hp
  obtain ⟨M4, hM4, hp⟩ := ob hp
  refine mr_V0 (As := [.ref v2]) (rest := []) C0 cbX2 hM h3 rfl (w_X2_copyFrom hG hM4) tw_590 tw_591 tw_592 tw_3 tw_593 yk_X2_copyFrom (by decide) rfl hl.1 (Nat.le_of_ble_eq_true rfl) dX6_changedByAllocation_8 rfl (fun H locs hM => ?_)
  refine lv_aload_n hx hb dX6_changedByAllocation_11 rfl (lv_at hl 0 rfl) ?_
  obtain ⟨v5, hv5, hp⟩ := ob hp
  refine mr_getR C0 cbX6 hM 1 (by decide) tw_280 hv5 dX6_changedByAllocation_12 ?_
  refine lv_aload_n hx hb dX6_changedByAllocation_15 rfl (lv_at hl 0 rfl) ?_
  obtain ⟨v6, hv6, hp⟩ := ob hp
  refine mr_getR C0 cbX6 hM 4 (by decide) tw_283 hv6 dX6_changedByAllocation_16 ?_
  obtain ⟨_, h7, hp⟩ := ob hp
  obtain ⟨M8, hM8, hp⟩ := ob hp
  refine mr_V0 (As := [.ref v6]) (rest := []) C0 cbX0 hM h7 rfl (w_X0_run hG hM8) tw_600 tw_601 tw_602 tw_5 tw_603 yk_X0_run (by decide) rfl hl.1 (Nat.le_of_ble_eq_true rfl) dX6_changedByAllocation_19 rfl (fun H locs hM => ?_)
  refine lv_iconst (v := 0) hx hb dX6_changedByAllocation_22 (by decide) ?_
  refine lv_istore_n (lv' := [(1, .int (0 : Int32)), (0, .ref a0)]) hx hb dX6_changedByAllocation_23 rfl hl (by decide) rfl (fun ls hl => ?_)
  refine lv_iconst (v := 0) hx hb dX6_changedByAllocation_24 (by decide) ?_
  refine lv_istore_n (lv' := [(2, .int (0 : Int32)), (1, .int (0 : Int32)), (0, .ref a0)]) hx hb dX6_changedByAllocation_25 rfl hl (by decide) rfl (fun ls hl => ?_)
  refine wl_X6_changedByAllocation_26 C0 hr hlk hG (fun z19 H locs ls hM hl hp => ?_) FU _ _ _ _ _ hM (lv_sub hl [2, 1, 0] rfl) hp
  refine lv_iload_n hx hb dX6_changedByAllocation_67 rfl (lv_at hl 0 rfl) ?_
  exact mr_iret C0 hr hlk hM (Prod.mk.inj (Option.some.inj hp)).2 (Prod.mk.inj (Option.some.inj hp)).1 (Nat.le_refl _) (Nat.le_refl _) dX6_changedByAllocation_68
abbrev rm_X6_printChildren : Room := { frames := 4, cells := 0, slots := 0, locals := 101 }
def pl_X6_printChildren_9 (k1 : Mem → Option (Mem)) (k2 : Mem → Option (Mem)) (f0 : Nat) (f3 : Int32) : Nat → Int64 → Int32 → Mem → Option (Mem)
  | 0, _, _, _ => none
  | n + 1, y4, y6, M =>
    (if y6 ≤ 0 then
     (k2  M)
    else
     (Option.bind (gR 5 3 M f0) fun v3 =>
     (Option.bind (isC 2 M v3) fun _ =>
     (Option.bind (p_X2_firstOf v3 y4 f3 M) fun v5 =>
     (if v5 = (-1 : Int32) then
      (k1  M)
     else
      (Option.bind (gR 5 2 M f0) fun v7 =>
      (Option.bind (isC 1 M v7) fun _ =>
      (Option.bind (p_X1_put v7 (32 : Int32) M) fun M9 =>
      (Option.bind (gR 5 2 M9 f0) fun v10 =>
      (Option.bind (isC 1 M9 v10) fun _ =>
      (Option.bind (p_X1_putNumber v10 v5 M9) fun M12 =>
      (Option.bind (gR 5 3 M12 f0) fun v13 =>
      (Option.bind (gR 2 16 M12 v13) fun v14 =>
      (Option.bind (aI 0 M12 v14 v5) fun v15 =>
      (if v15 = f3 then
       (Option.bind (gR 5 3 M12 f0) fun v17 =>
       (Option.bind (gL 2 10 M12 v17) fun v18 =>
       (Option.bind (p_X6_isIn v18 v5 M12) fun v19 =>
       (if v19 = 0 then
        (pl_X6_printChildren_9 k1 k2 f0 f3 n (y4 &&& (((1 : Int64) <<< (Int32.toInt64 v5 &&& 63)) ^^^ (-1 : Int64))) (y6 + (-1 : Int32)) M12)
       else
        (Option.bind (gR 5 2 M12 f0) fun v21 =>
        (Option.bind (isC 1 M12 v21) fun _ =>
        (Option.bind (p_X1_put v21 (42 : Int32) M12) fun M23 =>
        (pl_X6_printChildren_9 k1 k2 f0 f3 n (y4 &&& (((1 : Int64) <<< (Int32.toInt64 v5 &&& 63)) ^^^ (-1 : Int64))) (y6 + (-1 : Int32)) M23)
        )
        )
        )
       )
       )
       )
       )
      else
       (pl_X6_printChildren_9 k1 k2 f0 f3 n (y4 &&& (((1 : Int64) <<< (Int32.toInt64 v5 &&& 63)) ^^^ (-1 : Int64))) (y6 + (-1 : Int32)) M12)
      )
      )
      )
      )
      )
      )
      )
      )
      )
      )
     )
     )
     )
     )
    )
set_option maxHeartbeats 4000000 in
set_option maxRecDepth 100000 in
theorem wl_X6_printChildren_9 {G : gG} {p : Program} {l : Launch} {e : Env} {s : State} {m : MethodId} {args : Array Value} {below : List Frame} {meth : Method} {c : Code} {A : Nat → Prop} {M' : Mem} {k1 : Mem → Option (Mem)} {k2 : Mem → Option (Mem)} {f0 : Nat} {f3 : Int32} (C0 : cx G p s m args c cX6_printChildren RX6 8 A) (hr : meth.sig.returnType = (none)) (hlk : meth.locks = false) (hG : GOK G) (hk1 : ∀ (M : Mem) (H : Heap) (locs : List Loc) (ls : Array Slot), mm G A s M H locs → lv_has ls 8 [] → k1 M = some M' → W p l e rm_X6_printChildren s m args below meth c H locs 0 0 (MQ below (CQ G M' none A) args s 0 0 A) (F0 m 32 ls [])) (hk2 : ∀ (M : Mem) (H : Heap) (locs : List Loc) (ls : Array Slot), mm G A s M H locs → lv_has ls 8 [] → k2 M = some M' → W p l e rm_X6_printChildren s m args below meth c H locs 0 0 (MQ below (CQ G M' none A) args s 0 0 A) (F0 m 108 ls [])) : ∀ (n : Nat) (y4 : Int64) (y6 : Int32) (M : Mem) (H : Heap) (locs : List Loc) (ls : Array Slot), mm G A s M H locs → lv_has ls 8 [(0, .ref f0), (3, .int f3), (4, .long y4), (6, .int y6)] → pl_X6_printChildren_9 k1 k2 f0 f3 n y4 y6 M = some M' → W p l e rm_X6_printChildren s m args below meth c H locs 0 0 (MQ below (CQ G M' none A) args s 0 0 A) (F0 m 9 ls []) := by
  have hx := C0.1
  have hb := C0.2.1
  have hown := C0.2.2.2.1
  have hts := C0.2.2.2.2.1
  intro n
  induction n with
  | zero => intro y4 y6 M H locs ls hM hl hp; rw [pl_X6_printChildren_9] at hp; cases hp
  | succ n ih =>
    intro y4 y6 M H locs ls hM hl hp
    rw [pl_X6_printChildren_9] at hp
    refine lv_iload hx hb dX6_printChildren_9 (lv_at hl 3 rfl) ?_
    refine lv_if_le (tgt := 108) hx hb dX6_printChildren_11 (by decide) (fun c2 => ?_) (fun c2 => ?_)
    · replace hp := oT c2 hp
      exact hk2  _ _ _ _ hM (lv_sub hl [] rfl) hp
    · replace hp := oF c2 hp
      refine lv_aload_n hx hb dX6_printChildren_14 rfl (lv_at hl 0 rfl) ?_
      obtain ⟨v3, hv3, hp⟩ := ob hp
      refine mr_getR C0 cbX6 hM 3 (by decide) tw_282 hv3 dX6_printChildren_15 ?_
      refine lv_lload hx hb dX6_printChildren_18 (lv_at hl 2 rfl) ?_
      refine lv_iload_n hx hb dX6_printChildren_20 rfl (lv_at hl 1 rfl) ?_
      obtain ⟨_, h4, hp⟩ := ob hp
      obtain ⟨v5, hv5, hp⟩ := ob hp
      refine mr_V1 (As := [.long y4, .int f3]) (rest := []) C0 cbX2 hM h4 rfl (w_X2_firstOf hG hv5) tw_1201 tw_646 tw_647 tw_3 tw_648 yk_X2_firstOf (by decide) rfl hl.1 (Nat.le_of_ble_eq_true rfl) dX6_printChildren_21 rfl (fun H locs hM => ?_)
      refine lv_istore (lv' := [(7, .int v5), (0, .ref f0), (3, .int f3), (4, .long y4), (6, .int y6)]) hx hb dX6_printChildren_24 hl (by decide) rfl (fun ls hl => ?_)
      refine lv_iload hx hb dX6_printChildren_26 (lv_at hl 0 rfl) ?_
      refine lv_iconst (v := -1) hx hb dX6_printChildren_28 (by decide) ?_
      refine lv_icmp_ne (tgt := 33) hx hb dX6_printChildren_29 (by decide) (fun c6 => ?_) (fun c6 => ?_)
      · replace hp := oF c6 hp
        refine lv_lload hx hb dX6_printChildren_33 (lv_at hl 3 rfl) ?_
        refine lv_lconst (v := 1) hx hb dX6_printChildren_35 (by decide) ?_
        refine lv_iload hx hb dX6_printChildren_36 (lv_at hl 0 rfl) ?_
        refine lv_lshl (v := ((1 : Int64) <<< (Int32.toInt64 v5 &&& 63))) hx hb dX6_printChildren_38 rfl ?_
        refine lv_ldc2 (v := -1) hx hb hown (hts _ tw_1148) dX6_printChildren_39 ?_
        refine lv_lxor hx hb dX6_printChildren_42 ?_
        refine lv_land hx hb dX6_printChildren_43 ?_
        refine lv_lstore (lv' := [(4, .long (y4 &&& (((1 : Int64) <<< (Int32.toInt64 v5 &&& 63)) ^^^ (-1 : Int64)))), (7, .int v5), (0, .ref f0), (3, .int f3), (6, .int y6)]) hx hb dX6_printChildren_44 hl (by decide) rfl (fun ls hl => ?_)
        refine lv_aload_n hx hb dX6_printChildren_46 rfl (lv_at hl 2 rfl) ?_
        obtain ⟨v7, hv7, hp⟩ := ob hp
        refine mr_getR C0 cbX6 hM 2 (by decide) tw_281 hv7 dX6_printChildren_47 ?_
        refine lv_bipush (v := 32) hx hb dX6_printChildren_50 (by decide) ?_
        obtain ⟨_, h8, hp⟩ := ob hp
        obtain ⟨M9, hM9, hp⟩ := ob hp
        refine mr_V0 (As := [.int (32 : Int32)]) (rest := []) C0 cbX1 hM h8 rfl (w_X1_put hG hM9) tw_1196 tw_1193 tw_1194 tw_6 tw_1195 yk_X1_put (by decide) rfl hl.1 (Nat.le_of_ble_eq_true rfl) dX6_printChildren_52 rfl (fun H locs hM => ?_)
        refine lv_aload_n hx hb dX6_printChildren_55 rfl (lv_at hl 2 rfl) ?_
        obtain ⟨v10, hv10, hp⟩ := ob hp
        refine mr_getR C0 cbX6 hM 2 (by decide) tw_281 hv10 dX6_printChildren_56 ?_
        refine lv_iload hx hb dX6_printChildren_59 (lv_at hl 1 rfl) ?_
        obtain ⟨_, h11, hp⟩ := ob hp
        obtain ⟨M12, hM12, hp⟩ := ob hp
        refine mr_V0 (As := [.int v5]) (rest := []) C0 cbX1 hM h11 rfl (w_X1_putNumber hG hM12) tw_1202 tw_1203 tw_1204 tw_6 tw_1205 yk_X1_putNumber (by decide) rfl hl.1 (Nat.le_of_ble_eq_true rfl) dX6_printChildren_61 rfl (fun H locs hM => ?_)
        refine lv_aload_n hx hb dX6_printChildren_64 rfl (lv_at hl 2 rfl) ?_
        obtain ⟨v13, hv13, hp⟩ := ob hp
        refine mr_getR C0 cbX6 hM 3 (by decide) tw_282 hv13 dX6_printChildren_65 ?_
        obtain ⟨v14, hv14, hp⟩ := ob hp
        refine mr_getR C0 cbX2 hM 16 (by decide) tw_157 hv14 dX6_printChildren_68 ?_
        refine lv_iload hx hb dX6_printChildren_71 (lv_at hl 1 rfl) ?_
        obtain ⟨v15, hv15, hp⟩ := ob hp
        refine mr_iald C0 hM hv15 dX6_printChildren_73 ?_
        refine lv_iload_n hx hb dX6_printChildren_74 rfl (lv_at hl 3 rfl) ?_
        refine lv_icmp_ne (tgt := 102) hx hb dX6_printChildren_75 (by decide) (fun c16 => ?_) (fun c16 => ?_)
        · replace hp := oF c16 hp
          refine lv_iinc (v := (y6 + (-1 : Int32))) (lv' := [(6, .int (y6 + (-1 : Int32))), (4, .long (y4 &&& (((1 : Int64) <<< (Int32.toInt64 v5 &&& 63)) ^^^ (-1 : Int64)))), (7, .int v5), (0, .ref f0), (3, .int f3)]) hx hb dX6_printChildren_102 hl (k := 4) rfl rfl (by decide) rfl (fun ls hl => ?_)
          refine lv_goto (tgt := 9) hx hb dX6_printChildren_105 (by decide) ?_
          exact ih _ _ _ _ _ _ hM (lv_sub hl [3, 4, 1, 0] rfl) hp
        · replace hp := oT c16 hp
          refine lv_aload_n hx hb dX6_printChildren_78 rfl (lv_at hl 2 rfl) ?_
          obtain ⟨v17, hv17, hp⟩ := ob hp
          refine mr_getR C0 cbX6 hM 3 (by decide) tw_282 hv17 dX6_printChildren_79 ?_
          obtain ⟨v18, hv18, hp⟩ := ob hp
          refine mr_getL C0 cbX2 hM 10 (by decide) tw_143 hv18 dX6_printChildren_82 ?_
          refine lv_iload hx hb dX6_printChildren_85 (lv_at hl 1 rfl) ?_
          obtain ⟨v19, hv19, hp⟩ := ob hp
          refine mr_S1 (As := [.long v18, .int v5]) (rest := []) C0 hM (w_X6_isIn hG hv19) tw_870 tw_547 tw_1 tw_548 yk_X6_isIn (by decide) rfl hl.1 (Nat.le_of_ble_eq_true rfl) dX6_printChildren_87 rfl (fun H locs hM => ?_)
          refine lv_if_eq (tgt := 102) hx hb dX6_printChildren_90 (by decide) (fun c20 => ?_) (fun c20 => ?_)
          · replace hp := oT c20 hp
            refine lv_iinc (v := (y6 + (-1 : Int32))) (lv' := [(6, .int (y6 + (-1 : Int32))), (4, .long (y4 &&& (((1 : Int64) <<< (Int32.toInt64 v5 &&& 63)) ^^^ (-1 : Int64)))), (7, .int v5), (0, .ref f0), (3, .int f3)]) hx hb dX6_printChildren_102 hl (k := 4) rfl rfl (by decide) rfl (fun ls hl => ?_)
            refine lv_goto (tgt := 9) hx hb dX6_printChildren_105 (by decide) ?_
            exact ih _ _ _ _ _ _ hM (lv_sub hl [3, 4, 1, 0] rfl) hp
          · replace hp := oF c20 hp
            refine lv_aload_n hx hb dX6_printChildren_93 rfl (lv_at hl 2 rfl) ?_
            obtain ⟨v21, hv21, hp⟩ := ob hp
            refine mr_getR C0 cbX6 hM 2 (by decide) tw_281 hv21 dX6_printChildren_94 ?_
            refine lv_bipush (v := 42) hx hb dX6_printChildren_97 (by decide) ?_
            obtain ⟨_, h22, hp⟩ := ob hp
            obtain ⟨M23, hM23, hp⟩ := ob hp
            refine mr_V0 (As := [.int (42 : Int32)]) (rest := []) C0 cbX1 hM h22 rfl (w_X1_put hG hM23) tw_1196 tw_1193 tw_1194 tw_6 tw_1195 yk_X1_put (by decide) rfl hl.1 (Nat.le_of_ble_eq_true rfl) dX6_printChildren_99 rfl (fun H locs hM => ?_)
            refine lv_iinc (v := (y6 + (-1 : Int32))) (lv' := [(6, .int (y6 + (-1 : Int32))), (4, .long (y4 &&& (((1 : Int64) <<< (Int32.toInt64 v5 &&& 63)) ^^^ (-1 : Int64)))), (7, .int v5), (0, .ref f0), (3, .int f3)]) hx hb dX6_printChildren_102 hl (k := 4) rfl rfl (by decide) rfl (fun ls hl => ?_)
            refine lv_goto (tgt := 9) hx hb dX6_printChildren_105 (by decide) ?_
            exact ih _ _ _ _ _ _ hM (lv_sub hl [3, 4, 1, 0] rfl) hp
      · replace hp := oT c6 hp
        exact hk1  _ _ _ _ hM (lv_sub hl [] rfl) hp
def p_X6_printChildren (a0 : Nat) (a1 : Int64) (a3 : Int32) (M : Mem) : Option (Mem) :=
  (Option.bind (p_J13_bitCount_95d88 a1 M) fun v1 =>
  (pl_X6_printChildren_9
   (fun  (M24 : Mem) =>
    some M24
   )
   (fun  (M25 : Mem) =>
    some M25
   )
   a0 a3 FU a1 v1 M)
  )
theorem yk_X6_printChildren : yok yX6_printChildren 2 := by decide +kernel
set_option maxHeartbeats 4000000 in
set_option maxRecDepth 100000 in
theorem w_X6_printChildren {G : gG} (hG : GOK G) {l : Launch} {a0 : Nat} {a1 : Int64} {a3 : Int32} {M : Mem} {M' : Mem} (hp : p_X6_printChildren a0 a1 a3 M = some M') : CT G l yX6_printChildren (wT yX6_printChildren cX6_printChildren 8 (none)) rm_X6_printChildren [.ref a0, .long a1, .int a3] M none M' 0 0 := by
  refine CT_of (own := RX6) (maxL := 8) (ret := (none)) hG (by decide) rfl (Nat.le_of_ble_eq_true rfl) (fun p e s m below meth c A C0 hr hlk hM ls hl => ?_)
  have hl : lv_has ls 8 [(0, .ref a0), (1, .long a1), (3, .int a3)] := hl
  generalize ([.ref a0, .long a1, .int a3] : List Value).toArray = args at C0 ⊢
  skip
  have hx := C0.1
  have hb := C0.2.1
  have hown := C0.2.2.2.1
  have hts := C0.2.2.2.2.1
  unfold p_X6_printChildren at hp
  refine lv_lload_n hx hb dX6_printChildren_0 rfl (lv_at hl 1 rfl) ?_
  refine lv_lstore (lv' := [(4, .long a1), (0, .ref a0), (1, .long a1), (3, .int a3)]) hx hb dX6_printChildren_1 hl (by decide) rfl (fun ls hl => ?_)
  refine lv_lload_n hx hb dX6_printChildren_3 rfl (lv_at hl 2 rfl) ?_
  obtain ⟨v1, hv1, hp⟩ := ob hp
  refine mr_S1 (As := [.long a1]) (rest := []) C0 hM (w_J13_bitCount_95d88 hG hv1) tw_678 tw_621 tw_15 tw_622 yk_J13_bitCount_95d88 (by decide) rfl hl.1 (Nat.le_of_ble_eq_true rfl) dX6_printChildren_4 rfl (fun H locs hM => ?_)
  refine lv_istore (lv' := [(6, .int v1), (4, .long a1), (0, .ref a0), (1, .long a1), (3, .int a3)]) hx hb dX6_printChildren_7 hl (by decide) rfl (fun ls hl => ?_)
  refine wl_X6_printChildren_9 C0 hr hlk hG (fun M24 H locs ls hM hl hp => ?_) (fun M25 H locs ls hM hl hp => ?_) FU _ _ _ _ _ _ hM (lv_sub hl [2, 4, 1, 0] rfl) hp
  · exact mr_vret C0 hr hlk hM (Option.some.inj hp) (Nat.le_refl _) (Nat.le_refl _) dX6_printChildren_32
  · exact mr_vret C0 hr hlk hM (Option.some.inj hp) (Nat.le_refl _) (Nat.le_refl _) dX6_printChildren_108
abbrev rm_X6_outputByte : Room := { frames := 0, cells := 0, slots := 0, locals := 0 }
def p_X6_outputByte (a0 : Nat) (a1 : Int32) (M : Mem) : Option (Int32) :=
  (if a1 < 0 then
   some (-1 : Int32)
  else
   (Option.bind (gR 5 2 M a0) fun v2 =>
   (Option.bind (gI 1 1 M v2) fun v3 =>
   (if a1 < v3 then
    (Option.bind (gR 5 2 M a0) fun v5 =>
    (Option.bind (gR 1 0 M v5) fun v6 =>
    (Option.bind (aI 1 M v6 a1) fun v7 =>
    some v7
    )
    )
    )
   else
    some (-1 : Int32)
   )
   )
   )
  )
theorem yk_X6_outputByte : yok yX6_outputByte 1 := by decide +kernel
set_option maxHeartbeats 4000000 in
set_option maxRecDepth 100000 in
theorem w_X6_outputByte {G : gG} (hG : GOK G) {l : Launch} {a0 : Nat} {a1 : Int32} {M : Mem} {r : Int32} (hp : p_X6_outputByte a0 a1 M = some r) : CT G l yX6_outputByte (wT yX6_outputByte cX6_outputByte 2 (some FieldType.int)) rm_X6_outputByte [.ref a0, .int a1] M (some (.int r)) M 0 0 := by
  refine CT_of (own := RX6) (maxL := 2) (ret := (some FieldType.int)) hG (by decide) rfl (Nat.le_of_ble_eq_true rfl) (fun p e s m below meth c A C0 hr hlk hM ls hl => ?_)
  have hl : lv_has ls 2 [(0, .ref a0), (1, .int a1)] := hl
  generalize ([.ref a0, .int a1] : List Value).toArray = args at C0 ⊢
  skip
  have hx := C0.1
  have hb := C0.2.1
  have hown := C0.2.2.2.1
  have hts := C0.2.2.2.2.1
  unfold p_X6_outputByte at hp
  refine lv_iload_n hx hb dX6_outputByte_0 rfl (lv_at hl 1 rfl) ?_
  refine lv_if_lt (tgt := 15) hx hb dX6_outputByte_1 (by decide) (fun c1 => ?_) (fun c1 => ?_)
  · replace hp := oT c1 hp
    refine lv_iconst (v := -1) hx hb dX6_outputByte_15 (by decide) ?_
    refine lv_goto (tgt := 28) hx hb dX6_outputByte_16 (by decide) ?_
    exact mr_iret C0 hr hlk hM rfl (Option.some.inj hp) (Nat.le_refl _) (Nat.le_refl _) dX6_outputByte_28
  · replace hp := oF c1 hp
    refine lv_iload_n hx hb dX6_outputByte_4 rfl (lv_at hl 1 rfl) ?_
    refine lv_aload_n hx hb dX6_outputByte_5 rfl (lv_at hl 0 rfl) ?_
    obtain ⟨v2, hv2, hp⟩ := ob hp
    refine mr_getR C0 cbX6 hM 2 (by decide) tw_281 hv2 dX6_outputByte_6 ?_
    obtain ⟨v3, hv3, hp⟩ := ob hp
    refine mr_getI C0 cbX1 hM 1 (by decide) tw_268 hv3 dX6_outputByte_9 ?_
    refine lv_icmp_lt (tgt := 19) hx hb dX6_outputByte_12 (by decide) (fun c4 => ?_) (fun c4 => ?_)
    · replace hp := oT c4 hp
      refine lv_aload_n hx hb dX6_outputByte_19 rfl (lv_at hl 0 rfl) ?_
      obtain ⟨v5, hv5, hp⟩ := ob hp
      refine mr_getR C0 cbX6 hM 2 (by decide) tw_281 hv5 dX6_outputByte_20 ?_
      obtain ⟨v6, hv6, hp⟩ := ob hp
      refine mr_getR C0 cbX1 hM 0 (by decide) tw_266 hv6 dX6_outputByte_23 ?_
      refine lv_iload_n hx hb dX6_outputByte_26 rfl (lv_at hl 1 rfl) ?_
      obtain ⟨v7, hv7, hp⟩ := ob hp
      refine mr_bald C0 hM hv7 dX6_outputByte_27 ?_
      exact mr_iret C0 hr hlk hM rfl (Option.some.inj hp) (Nat.le_refl _) (Nat.le_refl _) dX6_outputByte_28
    · replace hp := oF c4 hp
      refine lv_iconst (v := -1) hx hb dX6_outputByte_15 (by decide) ?_
      refine lv_goto (tgt := 28) hx hb dX6_outputByte_16 (by decide) ?_
      exact mr_iret C0 hr hlk hM rfl (Option.some.inj hp) (Nat.le_refl _) (Nat.le_refl _) dX6_outputByte_28
abbrev rm_X6_undo : Room := { frames := 2, cells := 0, slots := 0, locals := 61 }
def p_X6_undo (a0 : Nat) (M : Mem) : Option (Int32 × Mem) :=
  (Option.bind (gI 5 10 M a0) fun v1 =>
  (if v1 = 0 then
   some ((-1 : Int32), M)
  else
   (Option.bind (gI 5 9 M a0) fun v3 =>
   (jn (fun (s4 : Int32) =>
    (Option.bind (sV 5 9 M a0 (.int s4)) fun M6 =>
    (Option.bind (gI 5 10 M6 a0) fun v7 =>
    (Option.bind (sV 5 10 M6 a0 (.int (v7 - (1 : Int32)))) fun M8 =>
    (Option.bind (gR 5 3 M8 a0) fun v9 =>
    (Option.bind (gR 5 8 M8 a0) fun v10 =>
    (Option.bind (gI 5 9 M8 a0) fun v11 =>
    (Option.bind (aR M8 v10 v11) fun v12 =>
    (Option.bind (isC 2 M8 v9) fun _ =>
    (Option.bind (p_X2_copyFrom v9 v12 M8) fun M14 =>
    (Option.bind (gI 5 10 M14 a0) fun v15 =>
    some (v15, M14)
    )
    )
    )
    )
    )
    )
    )
    )
    )
    )
   ) fun k5 =>
   (if v3 = 0 then
    (k5 (9 : Int32))
   else
    (Option.bind (gI 5 9 M a0) fun v17 =>
    (k5 (v17 - (1 : Int32)))
    )
   )
   )
   )
  )
  )
theorem yk_X6_undo : yok yX6_undo 0 := by decide +kernel
set_option maxHeartbeats 4000000 in
set_option maxRecDepth 100000 in
theorem w_X6_undo {G : gG} (hG : GOK G) {l : Launch} {a0 : Nat} {M : Mem} {r : Int32} {M' : Mem} (hp : p_X6_undo a0 M = some (r, M')) : CT G l yX6_undo (wT yX6_undo cX6_undo 1 (some FieldType.int)) rm_X6_undo [.ref a0] M (some (.int r)) M' 0 0 := by
  refine CT_of (own := RX6) (maxL := 1) (ret := (some FieldType.int)) hG (by decide) rfl (Nat.le_of_ble_eq_true rfl) (fun p e s m below meth c A C0 hr hlk hM ls hl => ?_)
  have hl : lv_has ls 1 [(0, .ref a0)] := hl
  generalize ([.ref a0] : List Value).toArray = args at C0 ⊢
  skip
  have hx := C0.1
  have hb := C0.2.1
  have hown := C0.2.2.2.1
  have hts := C0.2.2.2.2.1
  unfold p_X6_undo at hp
  refine lv_aload_n hx hb dX6_undo_0 rfl (lv_at hl 0 rfl) ?_
  obtain ⟨v1, hv1, hp⟩ := ob hp
  refine mr_getI C0 cbX6 hM 10 (by decide) tw_289 hv1 dX6_undo_1 ?_
  refine lv_if_ne (tgt := 9) hx hb dX6_undo_4 (by decide) (fun c2 => ?_) (fun c2 => ?_)
  · replace hp := oF c2 hp
    refine lv_aload_n hx hb dX6_undo_9 rfl (lv_at hl 0 rfl) ?_
    refine lv_aload_n hx hb dX6_undo_10 rfl (lv_at hl 0 rfl) ?_
    obtain ⟨v3, hv3, hp⟩ := ob hp
    refine mr_getI C0 cbX6 hM 9 (by decide) tw_288 hv3 dX6_undo_11 ?_
    obtain ⟨k5, ek5, hp⟩ := ojn hp
    have hk5 : ∀ (s4 : Int32) (H : Heap) (locs : List Loc) (ls : Array Slot), mm G A s M H locs → lv_has ls 1 [(0, .ref a0)] → k5 s4 = some (r, M') → W p l e rm_X6_undo s m args below meth c H locs 0 0 (MQ below (CQ G M' (some (.int r)) A) args s 0 0 A) (F0 m 28 ls [.int s4, .ref a0]) := by
      intro s4 H locs ls hM hl hp
      rw [ek5] at hp
      obtain ⟨M6, hM6, hp⟩ := ob hp
      refine mr_putI C0 cbX6 hM 9 (by decide) rfl rfl tw_288 hM6 dX6_undo_28 (fun H locs hM => ?_)
      refine lv_aload_n hx hb dX6_undo_31 rfl (lv_at hl 0 rfl) ?_
      refine lv_dup hx hb dX6_undo_32 rfl ?_
      obtain ⟨v7, hv7, hp⟩ := ob hp
      refine mr_getI C0 cbX6 hM 10 (by decide) tw_289 hv7 dX6_undo_33 ?_
      refine lv_iconst (v := 1) hx hb dX6_undo_36 (by decide) ?_
      refine lv_isub hx hb dX6_undo_37 ?_
      obtain ⟨M8, hM8, hp⟩ := ob hp
      refine mr_putI C0 cbX6 hM 10 (by decide) rfl rfl tw_289 hM8 dX6_undo_38 (fun H locs hM => ?_)
      refine lv_aload_n hx hb dX6_undo_41 rfl (lv_at hl 0 rfl) ?_
      obtain ⟨v9, hv9, hp⟩ := ob hp
      refine mr_getR C0 cbX6 hM 3 (by decide) tw_282 hv9 dX6_undo_42 ?_
      refine lv_aload_n hx hb dX6_undo_45 rfl (lv_at hl 0 rfl) ?_
      obtain ⟨v10, hv10, hp⟩ := ob hp
      refine mr_getR C0 cbX6 hM 8 (by decide) tw_287 hv10 dX6_undo_46 ?_
      refine lv_aload_n hx hb dX6_undo_49 rfl (lv_at hl 0 rfl) ?_
      obtain ⟨v11, hv11, hp⟩ := ob hp
      refine mr_getI C0 cbX6 hM 9 (by decide) tw_288 hv11 dX6_undo_50 ?_
      obtain ⟨v12, hv12, hp⟩ := ob hp
      refine mr_aald C0 hM hv12 dX6_undo_53 ?_
      obtain ⟨_, h13, hp⟩ := ob hp
      obtain ⟨M14, hM14, hp⟩ := ob hp
      refine mr_V0 (As := [.ref v12]) (rest := []) C0 cbX2 hM h13 rfl (w_X2_copyFrom hG hM14) tw_590 tw_591 tw_592 tw_3 tw_593 yk_X2_copyFrom (by decide) rfl hl.1 (Nat.le_of_ble_eq_true rfl) dX6_undo_54 rfl (fun H locs hM => ?_)
      refine lv_aload_n hx hb dX6_undo_57 rfl (lv_at hl 0 rfl) ?_
      obtain ⟨v15, hv15, hp⟩ := ob hp
      refine mr_getI C0 cbX6 hM 10 (by decide) tw_289 hv15 dX6_undo_58 ?_
      exact mr_iret C0 hr hlk hM (Prod.mk.inj (Option.some.inj hp)).2 (Prod.mk.inj (Option.some.inj hp)).1 (Nat.le_refl _) (Nat.le_refl _) dX6_undo_61
    refine lv_if_ne (tgt := 22) hx hb dX6_undo_14 (by decide) (fun c16 => ?_) (fun c16 => ?_)
    · replace hp := oF c16 hp
      refine lv_aload_n hx hb dX6_undo_22 rfl (lv_at hl 0 rfl) ?_
      obtain ⟨v17, hv17, hp⟩ := ob hp
      refine mr_getI C0 cbX6 hM 9 (by decide) tw_288 hv17 dX6_undo_23 ?_
      refine lv_iconst (v := 1) hx hb dX6_undo_26 (by decide) ?_
      refine lv_isub hx hb dX6_undo_27 ?_
      exact hk5 _ _ _ _ hM (lv_sub hl [0] rfl) hp
    · replace hp := oT c16 hp
      refine lv_bipush (v := 9) hx hb dX6_undo_17 (by decide) ?_
      refine lv_goto (tgt := 28) hx hb dX6_undo_19 (by decide) ?_
      exact hk5 _ _ _ _ hM (lv_sub hl [0] rfl) hp
  · replace hp := oT c2 hp
    refine lv_iconst (v := -1) hx hb dX6_undo_7 (by decide) ?_
    exact mr_iret C0 hr hlk hM (Prod.mk.inj (Option.some.inj hp)).2 (Prod.mk.inj (Option.some.inj hp)).1 (Nat.le_refl _) (Nat.le_refl _) dX6_undo_8
abbrev rm_X6_saveState : Room := { frames := 2, cells := 0, slots := 0, locals := 61 }
def p_X6_saveState (a0 : Nat) (M : Mem) : Option (Int32 × Mem) :=
  (Option.bind (gR 5 6 M a0) fun v1 =>
  (Option.bind (gR 5 3 M a0) fun v2 =>
  (Option.bind (isC 2 M v1) fun _ =>
  (Option.bind (p_X2_copyFrom v1 v2 M) fun M4 =>
  (Option.bind (sZ 5 7 M4 a0 (1 : Int32)) fun M5 =>
  (Option.bind (gR 5 3 M5 a0) fun v6 =>
  (Option.bind (gI 2 1 M5 v6) fun v7 =>
  some (v7, M5)
  )
  )
  )
  )
  )
  )
  )
theorem yk_X6_saveState : yok yX6_saveState 0 := by decide +kernel
set_option maxHeartbeats 4000000 in
set_option maxRecDepth 100000 in
theorem w_X6_saveState {G : gG} (hG : GOK G) {l : Launch} {a0 : Nat} {M : Mem} {r : Int32} {M' : Mem} (hp : p_X6_saveState a0 M = some (r, M')) : CT G l yX6_saveState (wT yX6_saveState cX6_saveState 1 (some FieldType.int)) rm_X6_saveState [.ref a0] M (some (.int r)) M' 0 0 := by
  refine CT_of (own := RX6) (maxL := 1) (ret := (some FieldType.int)) hG (by decide) rfl (Nat.le_of_ble_eq_true rfl) (fun p e s m below meth c A C0 hr hlk hM ls hl => ?_)
  have hl : lv_has ls 1 [(0, .ref a0)] := hl
  generalize ([.ref a0] : List Value).toArray = args at C0 ⊢
  skip
  have hx := C0.1
  have hb := C0.2.1
  have hown := C0.2.2.2.1
  have hts := C0.2.2.2.2.1
  unfold p_X6_saveState at hp
  refine lv_aload_n hx hb dX6_saveState_0 rfl (lv_at hl 0 rfl) ?_
  obtain ⟨v1, hv1, hp⟩ := ob hp
  refine mr_getR C0 cbX6 hM 6 (by decide) tw_285 hv1 dX6_saveState_1 ?_
  refine lv_aload_n hx hb dX6_saveState_4 rfl (lv_at hl 0 rfl) ?_
  obtain ⟨v2, hv2, hp⟩ := ob hp
  refine mr_getR C0 cbX6 hM 3 (by decide) tw_282 hv2 dX6_saveState_5 ?_
  obtain ⟨_, h3, hp⟩ := ob hp
  obtain ⟨M4, hM4, hp⟩ := ob hp
  refine mr_V0 (As := [.ref v2]) (rest := []) C0 cbX2 hM h3 rfl (w_X2_copyFrom hG hM4) tw_590 tw_591 tw_592 tw_3 tw_593 yk_X2_copyFrom (by decide) rfl hl.1 (Nat.le_of_ble_eq_true rfl) dX6_saveState_8 rfl (fun H locs hM => ?_)
  refine lv_aload_n hx hb dX6_saveState_11 rfl (lv_at hl 0 rfl) ?_
  refine lv_iconst (v := 1) hx hb dX6_saveState_12 (by decide) ?_
  obtain ⟨M5, hM5, hp⟩ := ob hp
  refine mr_putZ C0 cbX6 hM 7 (by decide) rfl rfl tw_286 hM5 dX6_saveState_13 (fun H locs hM => ?_)
  refine lv_aload_n hx hb dX6_saveState_16 rfl (lv_at hl 0 rfl) ?_
  obtain ⟨v6, hv6, hp⟩ := ob hp
  refine mr_getR C0 cbX6 hM 3 (by decide) tw_282 hv6 dX6_saveState_17 ?_
  obtain ⟨v7, hv7, hp⟩ := ob hp
  refine mr_getI C0 cbX2 hM 1 (by decide) tw_121 hv7 dX6_saveState_20 ?_
  exact mr_iret C0 hr hlk hM (Prod.mk.inj (Option.some.inj hp)).2 (Prod.mk.inj (Option.some.inj hp)).1 (Nat.le_refl _) (Nat.le_refl _) dX6_saveState_23
