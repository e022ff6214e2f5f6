abbrev rm_X6_appendInput : Room := { frames := 1, cells := 0, slots := 0, locals := 22 }
def p_X6_appendInput (a0 : Nat) (a1 : Int32) (a2 : Int32) (a3 : Int32) (a4 : Int32) (a5 : Int32) (M : Mem) : Option (Int32 × Mem) :=
  (Option.bind (gR 5 0 M a0) fun v1 =>
  (Option.bind (gI 3 1 M v1) fun v2 =>
  (if (v2 + (20 : Int32)) ≤ (900 : Int32) then
   (Option.bind (gR 5 0 M a0) fun v4 =>
   (Option.bind (isC 3 M v4) fun _ =>
   (Option.bind (p_X3_append v4 a1 M) fun M6 =>
   (Option.bind (gR 5 0 M6 a0) fun v7 =>
   (Option.bind (isC 3 M6 v7) fun _ =>
   (Option.bind (p_X3_append v7 a2 M6) fun M9 =>
   (Option.bind (gR 5 0 M9 a0) fun v10 =>
   (Option.bind (isC 3 M9 v10) fun _ =>
   (Option.bind (p_X3_append v10 a3 M9) fun M12 =>
   (Option.bind (gR 5 0 M12 a0) fun v13 =>
   (Option.bind (isC 3 M12 v13) fun _ =>
   (Option.bind (p_X3_append v13 a4 M12) fun M15 =>
   (Option.bind (gR 5 0 M15 a0) fun v16 =>
   (Option.bind (isC 3 M15 v16) fun _ =>
   (Option.bind (p_X3_append v16 a5 M15) fun M18 =>
   (Option.bind (gR 5 0 M18 a0) fun v19 =>
   (Option.bind (gI 3 1 M18 v19) fun v20 =>
   some (v20, M18)
   )
   )
   )
   )
   )
   )
   )
   )
   )
   )
   )
   )
   )
   )
   )
   )
   )
  else
   some ((-1 : Int32), M)
  )
  )
  )
theorem yk_X6_appendInput : yok yX6_appendInput 5 := by decide +kernel
set_option maxHeartbeats 4000000 in
set_option maxRecDepth 100000 in
theorem w_X6_appendInput {G : gG} (hG : GOK G) {l : Launch} {a0 : Nat} {a1 : Int32} {a2 : Int32} {a3 : Int32} {a4 : Int32} {a5 : Int32} {M : Mem} {r : Int32} {M' : Mem} (hp : p_X6_appendInput a0 a1 a2 a3 a4 a5 M = some (r, M')) : CT G l yX6_appendInput (wT yX6_appendInput cX6_appendInput 6 (some FieldType.int)) rm_X6_appendInput [.ref a0, .int a1, .int a2, .int a3, .int a4, .int a5] M (some (.int r)) M' 0 0 := by
  refine CT_of (own := RX6) (maxL := 6) (ret := (some FieldType.int)) hG (by decide) rfl (Nat.le_of_ble_eq_true rfl) (fun p e s m below meth c A C0 hr hlk hM ls hl => ?_)
  have hl : lv_has ls 6 [(0, .ref a0), (1, .int a1), (2, .int a2), (3, .int a3), (4, .int a4), (5, .int a5)] := hl
  generalize ([.ref a0, .int a1, .int a2, .int a3, .int a4, .int a5] : List Value).toArray = args at C0 ⊢
  skip
  have hx := C0.1
  have hb := C0.2.1
  have hown := C0.2.2.2.1
  have hts := C0.2.2.2.2.1
  unfold p_X6_appendInput at hp
  refine lv_aload_n hx hb dX6_appendInput_0 rfl (lv_at hl 0 rfl) ?_
  obtain ⟨v1, hv1, hp⟩ := ob hp
  refine mr_getR C0 cbX6 hM 0 (by decide) tw_291 hv1 dX6_appendInput_1 ?_
  obtain ⟨v2, hv2, hp⟩ := ob hp
  refine mr_getI C0 cbX3 hM 1 (by decide) tw_225 hv2 dX6_appendInput_4 ?_
  refine lv_bipush (v := 20) hx hb dX6_appendInput_7 (by decide) ?_
  refine lv_iadd hx hb dX6_appendInput_9 ?_
  refine lv_sipush (v := 900) hx hb dX6_appendInput_10 (by decide) ?_
  refine lv_icmp_le (tgt := 18) hx hb dX6_appendInput_13 (by decide) (fun c3 => ?_) (fun c3 => ?_)
  · replace hp := oT c3 hp
    refine lv_aload_n hx hb dX6_appendInput_18 rfl (lv_at hl 0 rfl) ?_
    obtain ⟨v4, hv4, hp⟩ := ob hp
    refine mr_getR C0 cbX6 hM 0 (by decide) tw_291 hv4 dX6_appendInput_19 ?_
    refine lv_iload_n hx hb dX6_appendInput_22 rfl (lv_at hl 1 rfl) ?_
    obtain ⟨_, h5, hp⟩ := ob hp
    obtain ⟨M6, hM6, hp⟩ := ob hp
    refine mr_V0 (As := [.int a1]) (rest := []) C0 cbX3 hM h5 rfl (w_X3_append hG hM6) tw_612 tw_613 tw_614 tw_16 tw_615 yk_X3_append (by decide) rfl hl.1 (Nat.le_of_ble_eq_true rfl) dX6_appendInput_23 rfl (fun H locs hM => ?_)
    refine lv_aload_n hx hb dX6_appendInput_26 rfl (lv_at hl 0 rfl) ?_
    obtain ⟨v7, hv7, hp⟩ := ob hp
    refine mr_getR C0 cbX6 hM 0 (by decide) tw_291 hv7 dX6_appendInput_27 ?_
    refine lv_iload_n hx hb dX6_appendInput_30 rfl (lv_at hl 2 rfl) ?_
    obtain ⟨_, h8, hp⟩ := ob hp
    obtain ⟨M9, hM9, hp⟩ := ob hp
    refine mr_V0 (As := [.int a2]) (rest := []) C0 cbX3 hM h8 rfl (w_X3_append hG hM9) tw_612 tw_613 tw_614 tw_16 tw_615 yk_X3_append (by decide) rfl hl.1 (Nat.le_of_ble_eq_true rfl) dX6_appendInput_31 rfl (fun H locs hM => ?_)
    refine lv_aload_n hx hb dX6_appendInput_34 rfl (lv_at hl 0 rfl) ?_
    obtain ⟨v10, hv10, hp⟩ := ob hp
    refine mr_getR C0 cbX6 hM 0 (by decide) tw_291 hv10 dX6_appendInput_35 ?_
    refine lv_iload_n hx hb dX6_appendInput_38 rfl (lv_at hl 3 rfl) ?_
    obtain ⟨_, h11, hp⟩ := ob hp
    obtain ⟨M12, hM12, hp⟩ := ob hp
    refine mr_V0 (As := [.int a3]) (rest := []) C0 cbX3 hM h11 rfl (w_X3_append hG hM12) tw_612 tw_613 tw_614 tw_16 tw_615 yk_X3_append (by decide) rfl hl.1 (Nat.le_of_ble_eq_true rfl) dX6_appendInput_39 rfl (fun H locs hM => ?_)
    refine lv_aload_n hx hb dX6_appendInput_42 rfl (lv_at hl 0 rfl) ?_
    obtain ⟨v13, hv13, hp⟩ := ob hp
    refine mr_getR C0 cbX6 hM 0 (by decide) tw_291 hv13 dX6_appendInput_43 ?_
    refine lv_iload hx hb dX6_appendInput_46 (lv_at hl 4 rfl) ?_
    obtain ⟨_, h14, hp⟩ := ob hp
    obtain ⟨M15, hM15, hp⟩ := ob hp
    refine mr_V0 (As := [.int a4]) (rest := []) C0 cbX3 hM h14 rfl (w_X3_append hG hM15) tw_612 tw_613 tw_614 tw_16 tw_615 yk_X3_append (by decide) rfl hl.1 (Nat.le_of_ble_eq_true rfl) dX6_appendInput_48 rfl (fun H locs hM => ?_)
    refine lv_aload_n hx hb dX6_appendInput_51 rfl (lv_at hl 0 rfl) ?_
    obtain ⟨v16, hv16, hp⟩ := ob hp
    refine mr_getR C0 cbX6 hM 0 (by decide) tw_291 hv16 dX6_appendInput_52 ?_
    refine lv_iload hx hb dX6_appendInput_55 (lv_at hl 5 rfl) ?_
    obtain ⟨_, h17, hp⟩ := ob hp
    obtain ⟨M18, hM18, hp⟩ := ob hp
    refine mr_V0 (As := [.int a5]) (rest := []) C0 cbX3 hM h17 rfl (w_X3_append hG hM18) tw_612 tw_613 tw_614 tw_16 tw_615 yk_X3_append (by decide) rfl hl.1 (Nat.le_of_ble_eq_true rfl) dX6_appendInput_57 rfl (fun H locs hM => ?_)
    refine lv_aload_n hx hb dX6_appendInput_60 rfl (lv_at hl 0 rfl) ?_
    obtain ⟨v19, hv19, hp⟩ := ob hp
    refine mr_getR C0 cbX6 hM 0 (by decide) tw_291 hv19 dX6_appendInput_61 ?_
    obtain ⟨v20, hv20, hp⟩ := ob hp
    refine mr_getI C0 cbX3 hM 1 (by decide) tw_225 hv20 dX6_appendInput_64 ?_
    exact mr_iret C0 hr hlk hM (Prod.mk.inj (Option.some.inj hp)).2 (Prod.mk.inj (Option.some.inj hp)).1 (Nat.le_refl _) (Nat.le_refl _) dX6_appendInput_67
  · replace hp := oF c3 hp
    refine lv_iconst (v := -1) hx hb dX6_appendInput_16 (by decide) ?_
    exact mr_iret C0 hr hlk hM (Prod.mk.inj (Option.some.inj hp)).2 (Prod.mk.inj (Option.some.inj hp)).1 (Nat.le_refl _) (Nat.le_refl _) dX6_appendInput_17
abbrev rm_X6_truncateInput : Room := { frames := 0, cells := 0, slots := 0, locals := 0 }
def p_X6_truncateInput (a0 : Nat) (a1 : Int32) (M : Mem) : Option (Int32 × Mem) :=
  (if a1 < 0 then
   some ((0 : Int32), M)
  else
   (Option.bind (gR 5 0 M a0) fun v2 =>
   (Option.bind (gI 3 1 M v2) fun v3 =>
   (if a1 ≤ v3 then
    (Option.bind (gR 5 0 M a0) fun v5 =>
    (Option.bind (sV 3 1 M v5 (.int a1)) fun M6 =>
    some ((1 : Int32), M6)
    )
    )
   else
    some ((0 : Int32), M)
   )
   )
   )
  )
theorem yk_X6_truncateInput : yok yX6_truncateInput 1 := by decide +kernel
set_option maxHeartbeats 4000000 in
set_option maxRecDepth 100000 in
theorem w_X6_truncateInput {G : gG} (hG : GOK G) {l : Launch} {a0 : Nat} {a1 : Int32} {M : Mem} {r : Int32} {M' : Mem} (hp : p_X6_truncateInput a0 a1 M = some (r, M')) : CT G l yX6_truncateInput (wT yX6_truncateInput cX6_truncateInput 2 (some FieldType.boolean)) rm_X6_truncateInput [.ref a0, .int a1] M (some (.int r)) M' 0 0 := by
  refine CT_of (own := RX6) (maxL := 2) (ret := (some FieldType.boolean)) hG (by decide) rfl (Nat.le_of_ble_eq_true rfl) (fun p e s m below meth c A C0 hr hlk hM ls hl => ?_)
  have hl : lv_has ls 2 [(0, .ref a0), (1, .int a1)] := hl
  generalize ([.ref a0, .int a1] : List Value).toArray = args at C0 ⊢
  skip
  have hx := C0.1
  have hb := C0.2.1
  have hown := C0.2.2.2.1
  have hts := C0.2.2.2.2.1
  unfold p_X6_truncateInput at hp
  refine lv_iload_n hx hb dX6_truncateInput_0 rfl (lv_at hl 1 rfl) ?_
  refine lv_if_lt (tgt := 15) hx hb dX6_truncateInput_1 (by decide) (fun c1 => ?_) (fun c1 => ?_)
  · replace hp := oT c1 hp
    refine lv_iconst (v := 0) hx hb dX6_truncateInput_15 (by decide) ?_
    exact mr_zret C0 hr hlk hM (Prod.mk.inj (Option.some.inj hp)).2 (Or.inl rfl) (Prod.mk.inj (Option.some.inj hp)).1 (Nat.le_refl _) (Nat.le_refl _) dX6_truncateInput_16
  · replace hp := oF c1 hp
    refine lv_iload_n hx hb dX6_truncateInput_4 rfl (lv_at hl 1 rfl) ?_
    refine lv_aload_n hx hb dX6_truncateInput_5 rfl (lv_at hl 0 rfl) ?_
    obtain ⟨v2, hv2, hp⟩ := ob hp
    refine mr_getR C0 cbX6 hM 0 (by decide) tw_291 hv2 dX6_truncateInput_6 ?_
    obtain ⟨v3, hv3, hp⟩ := ob hp
    refine mr_getI C0 cbX3 hM 1 (by decide) tw_225 hv3 dX6_truncateInput_9 ?_
    refine lv_icmp_le (tgt := 17) hx hb dX6_truncateInput_12 (by decide) (fun c4 => ?_) (fun c4 => ?_)
    · replace hp := oT c4 hp
      refine lv_aload_n hx hb dX6_truncateInput_17 rfl (lv_at hl 0 rfl) ?_
      obtain ⟨v5, hv5, hp⟩ := ob hp
      refine mr_getR C0 cbX6 hM 0 (by decide) tw_291 hv5 dX6_truncateInput_18 ?_
      refine lv_iload_n hx hb dX6_truncateInput_21 rfl (lv_at hl 1 rfl) ?_
      obtain ⟨M6, hM6, hp⟩ := ob hp
      refine mr_putI C0 cbX3 hM 1 (by decide) rfl rfl tw_225 hM6 dX6_truncateInput_22 (fun H locs hM => ?_)
      refine lv_iconst (v := 1) hx hb dX6_truncateInput_25 (by decide) ?_
      exact mr_zret C0 hr hlk hM (Prod.mk.inj (Option.some.inj hp)).2 (Or.inr rfl) (Prod.mk.inj (Option.some.inj hp)).1 (Nat.le_refl _) (Nat.le_refl _) dX6_truncateInput_26
    · replace hp := oF c4 hp
      refine lv_iconst (v := 0) hx hb dX6_truncateInput_15 (by decide) ?_
      exact mr_zret C0 hr hlk hM (Prod.mk.inj (Option.some.inj hp)).2 (Or.inl rfl) (Prod.mk.inj (Option.some.inj hp)).1 (Nat.le_refl _) (Nat.le_refl _) dX6_truncateInput_16
abbrev rm_X6_loadOffice : Room := { frames := 10, cells := 0, slots := 0, locals := 218 }
def p_X6_loadOffice (Z : gZ) (a0 : Nat) (M : Mem) : Option (Int32 × Mem) :=
  (Option.bind (gR 5 0 M a0) fun v1 =>
  (Option.bind (isC 3 M v1) fun _ =>
  (Option.bind (p_X3_readSetup Z v1 M) fun M3 =>
  (Option.bind (gR 5 0 M3 a0) fun v4 =>
  (Option.bind (sV 3 1 M3 v4 (.int (0 : Int32))) fun M5 =>
  (Option.bind (gR 5 0 M5 a0) fun v6 =>
  (Option.bind (gI 3 2 M5 v6) fun v7 =>
  (if v7 = 0 then
   (Option.bind (gR 5 3 M5 a0) fun v9 =>
   (Option.bind (gR 5 0 M5 a0) fun v10 =>
   (Option.bind (gR 3 4 M5 v10) fun v11 =>
   (Option.bind (sV 5 3 M5 a0 (.ref v11)) fun M12 =>
   (Option.bind (gR 5 0 M12 a0) fun v13 =>
   (Option.bind (sV 3 4 M12 v13 (.ref v9)) fun M14 =>
   (Option.bind (sZ 5 7 M14 a0 (0 : Int32)) fun M15 =>
   (Option.bind (sV 5 10 M15 a0 (.int (0 : Int32))) fun M16 =>
   (Option.bind (gR 5 3 M16 a0) fun v17 =>
   (Option.bind (gI 2 1 M16 v17) fun v18 =>
   some (v18, M16)
   )
   )
   )
   )
   )
   )
   )
   )
   )
   )
  else
   some ((-1 : Int32), M5)
  )
  )
  )
  )
  )
  )
  )
  )
theorem yk_X6_loadOffice : yok yX6_loadOffice 0 := by decide +kernel
set_option maxHeartbeats 4000000 in
set_option maxRecDepth 100000 in
theorem w_X6_loadOffice {G : gG} (hG : GOK G) {Z : gZ} (hZ : GS G Z) {l : Launch} {a0 : Nat} {M : Mem} {r : Int32} {M' : Mem} (hp : p_X6_loadOffice Z a0 M = some (r, M')) : CT G l yX6_loadOffice (wT yX6_loadOffice cX6_loadOffice 2 (some FieldType.int)) rm_X6_loadOffice [.ref a0] M (some (.int r)) M' 0 0 := by
  refine CT_of (own := RX6) (maxL := 2) (ret := (some FieldType.int)) hG (by decide) rfl (Nat.le_of_ble_eq_true rfl) (fun p e s m below meth c A C0 hr hlk hM ls hl => ?_)
  have hl : lv_has ls 2 [(0, .ref a0)] := hl
  generalize ([.ref a0] : List Value).toArray = args at C0 ⊢
  skip
  have hx := C0.1
  have hb := C0.2.1
  have hown := C0.2.2.2.1
  have hts := C0.2.2.2.2.1
  unfold p_X6_loadOffice at hp
  refine lv_aload_n hx hb dX6_loadOffice_0 rfl (lv_at hl 0 rfl) ?_
  obtain ⟨v1, hv1, hp⟩ := ob hp
  refine mr_getR C0 cbX6 hM 0 (by decide) tw_291 hv1 dX6_loadOffice_1 ?_
  obtain ⟨_, h2, hp⟩ := ob hp
  obtain ⟨M3, hM3, hp⟩ := ob hp
  refine mr_V0 (As := []) (rest := []) C0 cbX3 hM h2 rfl (w_X3_readSetup hG hZ hM3) tw_329 tw_330 tw_331 tw_16 tw_332 yk_X3_readSetup (by decide) rfl hl.1 (Nat.le_of_ble_eq_true rfl) dX6_loadOffice_4 rfl (fun H locs hM => ?_)
  refine lv_aload_n hx hb dX6_loadOffice_7 rfl (lv_at hl 0 rfl) ?_
  obtain ⟨v4, hv4, hp⟩ := ob hp
  refine mr_getR C0 cbX6 hM 0 (by decide) tw_291 hv4 dX6_loadOffice_8 ?_
  refine lv_iconst (v := 0) hx hb dX6_loadOffice_11 (by decide) ?_
  obtain ⟨M5, hM5, hp⟩ := ob hp
  refine mr_putI C0 cbX3 hM 1 (by decide) rfl rfl tw_225 hM5 dX6_loadOffice_12 (fun H locs hM => ?_)
  refine lv_aload_n hx hb dX6_loadOffice_15 rfl (lv_at hl 0 rfl) ?_
  obtain ⟨v6, hv6, hp⟩ := ob hp
  refine mr_getR C0 cbX6 hM 0 (by decide) tw_291 hv6 dX6_loadOffice_16 ?_
  obtain ⟨v7, hv7, hp⟩ := ob hp
  refine mr_getI C0 cbX3 hM 2 (by decide) tw_227 hv7 dX6_loadOffice_19 ?_
  refine lv_if_eq (tgt := 27) hx hb dX6_loadOffice_22 (by decide) (fun c8 => ?_) (fun c8 => ?_)
  · replace hp := oT c8 hp
    refine lv_aload_n hx hb dX6_loadOffice_27 rfl (lv_at hl 0 rfl) ?_
    obtain ⟨v9, hv9, hp⟩ := ob hp
    refine mr_getR C0 cbX6 hM 3 (by decide) tw_294 hv9 dX6_loadOffice_28 ?_
    refine lv_astore_n (lv' := [(1, .ref v9), (0, .ref a0)]) hx hb dX6_loadOffice_31 rfl hl (by decide) rfl (fun ls hl => ?_)
    refine lv_aload_n hx hb dX6_loadOffice_32 rfl (lv_at hl 1 rfl) ?_
    refine lv_aload_n hx hb dX6_loadOffice_33 rfl (lv_at hl 1 rfl) ?_
    obtain ⟨v10, hv10, hp⟩ := ob hp
    refine mr_getR C0 cbX6 hM 0 (by decide) tw_291 hv10 dX6_loadOffice_34 ?_
    obtain ⟨v11, hv11, hp⟩ := ob hp
    refine mr_getR C0 cbX3 hM 4 (by decide) tw_230 hv11 dX6_loadOffice_37 ?_
    obtain ⟨M12, hM12, hp⟩ := ob hp
    refine mr_putR C0 cbX6 hM 3 (by decide) rfl rfl tw_294 hM12 dX6_loadOffice_40 (fun H locs hM => ?_)
    refine lv_aload_n hx hb dX6_loadOffice_43 rfl (lv_at hl 1 rfl) ?_
    obtain ⟨v13, hv13, hp⟩ := ob hp
    refine mr_getR C0 cbX6 hM 0 (by decide) tw_291 hv13 dX6_loadOffice_44 ?_
    refine lv_aload_n hx hb dX6_loadOffice_47 rfl (lv_at hl 0 rfl) ?_
    obtain ⟨M14, hM14, hp⟩ := ob hp
    refine mr_putR C0 cbX3 hM 4 (by decide) rfl rfl tw_230 hM14 dX6_loadOffice_48 (fun H locs hM => ?_)
    refine lv_aload_n hx hb dX6_loadOffice_51 rfl (lv_at hl 1 rfl) ?_
    refine lv_iconst (v := 0) hx hb dX6_loadOffice_52 (by decide) ?_
    obtain ⟨M15, hM15, hp⟩ := ob hp
    refine mr_putZ C0 cbX6 hM 7 (by decide) rfl rfl tw_298 hM15 dX6_loadOffice_53 (fun H locs hM => ?_)
    refine lv_aload_n hx hb dX6_loadOffice_56 rfl (lv_at hl 1 rfl) ?_
    refine lv_iconst (v := 0) hx hb dX6_loadOffice_57 (by decide) ?_
    obtain ⟨M16, hM16, hp⟩ := ob hp
    refine mr_putI C0 cbX6 hM 10 (by decide) rfl rfl tw_301 hM16 dX6_loadOffice_58 (fun H locs hM => ?_)
    refine lv_aload_n hx hb dX6_loadOffice_61 rfl (lv_at hl 1 rfl) ?_
    obtain ⟨v17, hv17, hp⟩ := ob hp
    refine mr_getR C0 cbX6 hM 3 (by decide) tw_294 hv17 dX6_loadOffice_62 ?_
    obtain ⟨v18, hv18, hp⟩ := ob hp
    refine mr_getI C0 cbX2 hM 1 (by decide) tw_137 hv18 dX6_loadOffice_65 ?_
    exact mr_iret C0 hr hlk hM (Prod.mk.inj (Option.some.inj hp)).2 (Prod.mk.inj (Option.some.inj hp)).1 (Nat.le_refl _) (Nat.le_refl _) dX6_loadOffice_68
  · replace hp := oF c8 hp
    refine lv_iconst (v := -1) hx hb dX6_loadOffice_25 (by decide) ?_
    exact mr_iret C0 hr hlk hM (Prod.mk.inj (Option.some.inj hp)).2 (Prod.mk.inj (Option.some.inj hp)).1 (Nat.le_refl _) (Nat.le_refl _) dX6_loadOffice_26
abbrev rm_X6_count : Room := { frames := 1, cells := 0, slots := 0, locals := 23 }
def p_X6_count (a0 : Nat) (a1 : Int32) (M : Mem) : Option (Int32) :=
  (if (Int32.toInt a1) < 0 ∨ 11 < (Int32.toInt a1) then
   none
  else
  (if a1 = (0 : Int32) then
   (Option.bind (gR 5 3 M a0) fun v1 =>
   (Option.bind (gR 2 0 M v1) fun v2 =>
   (Option.bind (gI 4 0 M v2) fun v3 =>
   some v3
   )
   )
   )
  else
  (if a1 = (1 : Int32) then
   (Option.bind (gR 5 3 M a0) fun v4 =>
   (Option.bind (gI 2 1 M v4) fun v5 =>
   some v5
   )
   )
  else
  (if a1 = (2 : Int32) then
   (Option.bind (gR 5 3 M a0) fun v6 =>
   (Option.bind (gR 2 0 M v6) fun v7 =>
   (Option.bind (gI 4 1 M v7) fun v8 =>
   some v8
   )
   )
   )
  else
  (if a1 = (3 : Int32) then
   (Option.bind (gR 5 3 M a0) fun v9 =>
   (Option.bind (gL 2 9 M v9) fun v10 =>
   (Option.bind (p_J13_bitCount_95d88 v10 M) fun v11 =>
   some v11
   )
   )
   )
  else
  (if a1 = (4 : Int32) then
   (Option.bind (gR 5 3 M a0) fun v12 =>
   (Option.bind (isC 2 M v12) fun _ =>
   (Option.bind (p_X2_placedOnes v12 M) fun v14 =>
   (Option.bind (p_J13_bitCount_95d88 v14 M) fun v15 =>
   some v15
   )
   )
   )
   )
  else
  (if a1 = (5 : Int32) then
   (Option.bind (gR 5 3 M a0) fun v16 =>
   (Option.bind (gL 2 8 M v16) fun v17 =>
   (Option.bind (p_J13_bitCount_95d88 v17 M) fun v18 =>
   some v18
   )
   )
   )
  else
  (if a1 = (6 : Int32) then
   (Option.bind (gR 5 3 M a0) fun v19 =>
   (Option.bind (gR 2 0 M v19) fun v20 =>
   (Option.bind (gI 4 2 M v20) fun v21 =>
   some v21
   )
   )
   )
  else
  (if a1 = (7 : Int32) then
   (Option.bind (gR 5 3 M a0) fun v22 =>
   (Option.bind (gI 2 3 M v22) fun v23 =>
   (if v23 = 0 then
    some (0 : Int32)
   else
    some (1 : Int32)
   )
   )
   )
  else
  (if a1 = (8 : Int32) then
   (Option.bind (gR 5 3 M a0) fun v25 =>
   (Option.bind (gI 2 4 M v25) fun v26 =>
   (if v26 = 0 then
    some (0 : Int32)
   else
    some (1 : Int32)
   )
   )
   )
  else
  (if a1 = (9 : Int32) then
   (Option.bind (gR 5 3 M a0) fun v28 =>
   (Option.bind (gI 2 5 M v28) fun v29 =>
   some v29
   )
   )
  else
  (if a1 = (10 : Int32) then
   (Option.bind (gR 5 3 M a0) fun v30 =>
   (Option.bind (gI 2 6 M v30) fun v31 =>
   some v31
   )
   )
  else
  (if a1 = (11 : Int32) then
   (Option.bind (gI 5 10 M a0) fun v32 =>
   some v32
   )
  else
  none
  )
  )
  )
  )
  )
  )
  )
  )
  )
  )
  )
  )
  )
theorem yk_X6_count : yok yX6_count 1 := by decide +kernel
set_option maxHeartbeats 4000000 in
set_option maxRecDepth 100000 in
theorem w_X6_count {G : gG} (hG : GOK G) {l : Launch} {a0 : Nat} {a1 : Int32} {M : Mem} {r : Int32} (hp : p_X6_count a0 a1 M = some r) : CT G l yX6_count (wT yX6_count cX6_count 2 (some FieldType.int)) rm_X6_count [.ref a0, .int a1] M (some (.int r)) M 0 0 := by
  refine CT_of (own := RX6) (maxL := 2) (ret := (some FieldType.int)) hG (by decide) rfl (Nat.le_of_ble_eq_true rfl) (fun p e s m below meth c A C0 hr hlk hM ls hl => ?_)
  have hl : lv_has ls 2 [(0, .ref a0), (1, .int a1)] := hl
  generalize ([.ref a0, .int a1] : List Value).toArray = args at C0 ⊢
  skip
  have hx := C0.1
  have hb := C0.2.1
  have hown := C0.2.2.2.1
  have hts := C0.2.2.2.2.1
  unfold p_X6_count at hp
  refine lv_iload_n hx hb dX6_count_0 rfl (lv_at hl 1 rfl) ?_
  by_cases hd : (Int32.toInt a1) < 0 ∨ 11 < (Int32.toInt a1)
  · replace hp := oT hd hp
    refine lv_tableOut (tgt := 191) hx hb dX6_count_1 hd (by decide) ?_
    cases hp
  replace hp := oF hd hp
  by_cases hd0 : a1 = (0 : Int32)
  · replace hp := oT hd0 hp
    refine mr_tsIn (tgt := 64) C0 (0 : Int32) hd0 dX6_count_1 (by decide) (by decide) rfl (by decide) ?_
    refine lv_aload_n hx hb dX6_count_64 rfl (lv_at hl 0 rfl) ?_
    obtain ⟨v1, hv1, hp⟩ := ob hp
    refine mr_getR C0 cbX6 hM 3 (by decide) tw_294 hv1 dX6_count_65 ?_
    obtain ⟨v2, hv2, hp⟩ := ob hp
    refine mr_getR C0 cbX2 hM 0 (by decide) tw_131 hv2 dX6_count_68 ?_
    obtain ⟨v3, hv3, hp⟩ := ob hp
    refine mr_getI C0 cbX4 hM 0 (by decide) tw_67 hv3 dX6_count_71 ?_
    exact mr_iret C0 hr hlk hM rfl (Option.some.inj hp) (Nat.le_refl _) (Nat.le_refl _) dX6_count_74
  replace hp := oF hd0 hp
  by_cases hd1 : a1 = (1 : Int32)
  · replace hp := oT hd1 hp
    refine mr_tsIn (tgt := 75) C0 (1 : Int32) hd1 dX6_count_1 (by decide) (by decide) rfl (by decide) ?_
    refine lv_aload_n hx hb dX6_count_75 rfl (lv_at hl 0 rfl) ?_
    obtain ⟨v4, hv4, hp⟩ := ob hp
    refine mr_getR C0 cbX6 hM 3 (by decide) tw_294 hv4 dX6_count_76 ?_
    obtain ⟨v5, hv5, hp⟩ := ob hp
    refine mr_getI C0 cbX2 hM 1 (by decide) tw_137 hv5 dX6_count_79 ?_
    exact mr_iret C0 hr hlk hM rfl (Option.some.inj hp) (Nat.le_refl _) (Nat.le_refl _) dX6_count_82
  replace hp := oF hd1 hp
  by_cases hd2 : a1 = (2 : Int32)
  · replace hp := oT hd2 hp
    refine mr_tsIn (tgt := 83) C0 (2 : Int32) hd2 dX6_count_1 (by decide) (by decide) rfl (by decide) ?_
    refine lv_aload_n hx hb dX6_count_83 rfl (lv_at hl 0 rfl) ?_
    obtain ⟨v6, hv6, hp⟩ := ob hp
    refine mr_getR C0 cbX6 hM 3 (by decide) tw_294 hv6 dX6_count_84 ?_
    obtain ⟨v7, hv7, hp⟩ := ob hp
    refine mr_getR C0 cbX2 hM 0 (by decide) tw_131 hv7 dX6_count_87 ?_
    obtain ⟨v8, hv8, hp⟩ := ob hp
    refine mr_getI C0 cbX4 hM 1 (by decide) tw_71 hv8 dX6_count_90 ?_
    exact mr_iret C0 hr hlk hM rfl (Option.some.inj hp) (Nat.le_refl _) (Nat.le_refl _) dX6_count_93
  replace hp := oF hd2 hp
  by_cases hd3 : a1 = (3 : Int32)
  · replace hp := oT hd3 hp
    refine mr_tsIn (tgt := 94) C0 (3 : Int32) hd3 dX6_count_1 (by decide) (by decide) rfl (by decide) ?_
    refine lv_aload_n hx hb dX6_count_94 rfl (lv_at hl 0 rfl) ?_
    obtain ⟨v9, hv9, hp⟩ := ob hp
    refine mr_getR C0 cbX6 hM 3 (by decide) tw_294 hv9 dX6_count_95 ?_
    obtain ⟨v10, hv10, hp⟩ := ob hp
    refine mr_getL C0 cbX2 hM 9 (by decide) tw_157 hv10 dX6_count_98 ?_
    obtain ⟨v11, hv11, hp⟩ := ob hp
    refine mr_S1 (As := [.long v10]) (rest := []) C0 hM (w_J13_bitCount_95d88 hG hv11) tw_1748 tw_572 tw_39 tw_573 yk_J13_bitCount_95d88 (by decide) rfl hl.1 (Nat.le_of_ble_eq_true rfl) dX6_count_101 rfl (fun H locs hM => ?_)
    exact mr_iret C0 hr hlk hM rfl (Option.some.inj hp) (Nat.le_refl _) (Nat.le_refl _) dX6_count_104
  replace hp := oF hd3 hp
  by_cases hd4 : a1 = (4 : Int32)
  · replace hp := oT hd4 hp
    refine mr_tsIn (tgt := 105) C0 (4 : Int32) hd4 dX6_count_1 (by decide) (by decide) rfl (by decide) ?_
    refine lv_aload_n hx hb dX6_count_105 rfl (lv_at hl 0 rfl) ?_
    obtain ⟨v12, hv12, hp⟩ := ob hp
    refine mr_getR C0 cbX6 hM 3 (by decide) tw_294 hv12 dX6_count_106 ?_
    obtain ⟨_, h13, hp⟩ := ob hp
    obtain ⟨v14, hv14, hp⟩ := ob hp
    refine mr_V1 (As := []) (rest := []) C0 cbX2 hM h13 rfl (w_X2_placedOnes hG hv14) tw_1778 tw_1779 tw_1780 tw_17 tw_1781 yk_X2_placedOnes (by decide) rfl hl.1 (Nat.le_of_ble_eq_true rfl) dX6_count_109 rfl (fun H locs hM => ?_)
    obtain ⟨v15, hv15, hp⟩ := ob hp
    refine mr_S1 (As := [.long v14]) (rest := []) C0 hM (w_J13_bitCount_95d88 hG hv15) tw_1748 tw_572 tw_39 tw_573 yk_J13_bitCount_95d88 (by decide) rfl hl.1 (Nat.le_of_ble_eq_true rfl) dX6_count_112 rfl (fun H locs hM => ?_)
    exact mr_iret C0 hr hlk hM rfl (Option.some.inj hp) (Nat.le_refl _) (Nat.le_refl _) dX6_count_115
  replace hp := oF hd4 hp
  by_cases hd5 : a1 = (5 : Int32)
  · replace hp := oT hd5 hp
    refine mr_tsIn (tgt := 116) C0 (5 : Int32) hd5 dX6_count_1 (by decide) (by decide) rfl (by decide) ?_
    refine lv_aload_n hx hb dX6_count_116 rfl (lv_at hl 0 rfl) ?_
    obtain ⟨v16, hv16, hp⟩ := ob hp
    refine mr_getR C0 cbX6 hM 3 (by decide) tw_294 hv16 dX6_count_117 ?_
    obtain ⟨v17, hv17, hp⟩ := ob hp
    refine mr_getL C0 cbX2 hM 8 (by decide) tw_154 hv17 dX6_count_120 ?_
    obtain ⟨v18, hv18, hp⟩ := ob hp
    refine mr_S1 (As := [.long v17]) (rest := []) C0 hM (w_J13_bitCount_95d88 hG hv18) tw_1748 tw_572 tw_39 tw_573 yk_J13_bitCount_95d88 (by decide) rfl hl.1 (Nat.le_of_ble_eq_true rfl) dX6_count_123 rfl (fun H locs hM => ?_)
    exact mr_iret C0 hr hlk hM rfl (Option.some.inj hp) (Nat.le_refl _) (Nat.le_refl _) dX6_count_126
  replace hp := oF hd5 hp
  by_cases hd6 : a1 = (6 : Int32)
  · replace hp := oT hd6 hp
    refine mr_tsIn (tgt := 127) C0 (6 : Int32) hd6 dX6_count_1 (by decide) (by decide) rfl (by decide) ?_
    refine lv_aload_n hx hb dX6_count_127 rfl (lv_at hl 0 rfl) ?_
    obtain ⟨v19, hv19, hp⟩ := ob hp
    refine mr_getR C0 cbX6 hM 3 (by decide) tw_294 hv19 dX6_count_128 ?_
    obtain ⟨v20, hv20, hp⟩ := ob hp
    refine mr_getR C0 cbX2 hM 0 (by decide) tw_131 hv20 dX6_count_131 ?_
    obtain ⟨v21, hv21, hp⟩ := ob hp
    refine mr_getI C0 cbX4 hM 2 (by decide) tw_73 hv21 dX6_count_134 ?_
    exact mr_iret C0 hr hlk hM rfl (Option.some.inj hp) (Nat.le_refl _) (Nat.le_refl _) dX6_count_137
  replace hp := oF hd6 hp
  by_cases hd7 : a1 = (7 : Int32)
  · replace hp := oT hd7 hp
    refine mr_tsIn (tgt := 138) C0 (7 : Int32) hd7 dX6_count_1 (by decide) (by decide) rfl (by decide) ?_
    refine lv_aload_n hx hb dX6_count_138 rfl (lv_at hl 0 rfl) ?_
    obtain ⟨v22, hv22, hp⟩ := ob hp
    refine mr_getR C0 cbX6 hM 3 (by decide) tw_294 hv22 dX6_count_139 ?_
    obtain ⟨v23, hv23, hp⟩ := ob hp
    refine mr_getI C0 cbX2 hM 3 (by decide) tw_142 hv23 dX6_count_142 ?_
    refine lv_if_eq (tgt := 152) hx hb dX6_count_145 (by decide) (fun c24 => ?_) (fun c24 => ?_)
    · replace hp := oT c24 hp
      refine lv_iconst (v := 0) hx hb dX6_count_152 (by decide) ?_
      exact mr_iret C0 hr hlk hM rfl (Option.some.inj hp) (Nat.le_refl _) (Nat.le_refl _) dX6_count_153
    · replace hp := oF c24 hp
      refine lv_iconst (v := 1) hx hb dX6_count_148 (by decide) ?_
      refine lv_goto (tgt := 153) hx hb dX6_count_149 (by decide) ?_
      exact mr_iret C0 hr hlk hM rfl (Option.some.inj hp) (Nat.le_refl _) (Nat.le_refl _) dX6_count_153
  replace hp := oF hd7 hp
  by_cases hd8 : a1 = (8 : Int32)
  · replace hp := oT hd8 hp
    refine mr_tsIn (tgt := 154) C0 (8 : Int32) hd8 dX6_count_1 (by decide) (by decide) rfl (by decide) ?_
    refine lv_aload_n hx hb dX6_count_154 rfl (lv_at hl 0 rfl) ?_
    obtain ⟨v25, hv25, hp⟩ := ob hp
    refine mr_getR C0 cbX6 hM 3 (by decide) tw_294 hv25 dX6_count_155 ?_
    obtain ⟨v26, hv26, hp⟩ := ob hp
    refine mr_getI C0 cbX2 hM 4 (by decide) tw_145 hv26 dX6_count_158 ?_
    refine lv_if_eq (tgt := 168) hx hb dX6_count_161 (by decide) (fun c27 => ?_) (fun c27 => ?_)
    · replace hp := oT c27 hp
      refine lv_iconst (v := 0) hx hb dX6_count_168 (by decide) ?_
      exact mr_iret C0 hr hlk hM rfl (Option.some.inj hp) (Nat.le_refl _) (Nat.le_refl _) dX6_count_169
    · replace hp := oF c27 hp
      refine lv_iconst (v := 1) hx hb dX6_count_164 (by decide) ?_
      refine lv_goto (tgt := 169) hx hb dX6_count_165 (by decide) ?_
      exact mr_iret C0 hr hlk hM rfl (Option.some.inj hp) (Nat.le_refl _) (Nat.le_refl _) dX6_count_169
  replace hp := oF hd8 hp
  by_cases hd9 : a1 = (9 : Int32)
  · replace hp := oT hd9 hp
    refine mr_tsIn (tgt := 170) C0 (9 : Int32) hd9 dX6_count_1 (by decide) (by decide) rfl (by decide) ?_
    refine lv_aload_n hx hb dX6_count_170 rfl (lv_at hl 0 rfl) ?_
    obtain ⟨v28, hv28, hp⟩ := ob hp
    refine mr_getR C0 cbX6 hM 3 (by decide) tw_294 hv28 dX6_count_171 ?_
    obtain ⟨v29, hv29, hp⟩ := ob hp
    refine mr_getI C0 cbX2 hM 5 (by decide) tw_148 hv29 dX6_count_174 ?_
    exact mr_iret C0 hr hlk hM rfl (Option.some.inj hp) (Nat.le_refl _) (Nat.le_refl _) dX6_count_177
  replace hp := oF hd9 hp
  by_cases hd10 : a1 = (10 : Int32)
  · replace hp := oT hd10 hp
    refine mr_tsIn (tgt := 178) C0 (10 : Int32) hd10 dX6_count_1 (by decide) (by decide) rfl (by decide) ?_
    refine lv_aload_n hx hb dX6_count_178 rfl (lv_at hl 0 rfl) ?_
    obtain ⟨v30, hv30, hp⟩ := ob hp
    refine mr_getR C0 cbX6 hM 3 (by decide) tw_294 hv30 dX6_count_179 ?_
    obtain ⟨v31, hv31, hp⟩ := ob hp
    refine mr_getI C0 cbX2 hM 6 (by decide) tw_150 hv31 dX6_count_182 ?_
    exact mr_iret C0 hr hlk hM rfl (Option.some.inj hp) (Nat.le_refl _) (Nat.le_refl _) dX6_count_185
  replace hp := oF hd10 hp
  by_cases hd11 : a1 = (11 : Int32)
  · replace hp := oT hd11 hp
    refine mr_tsIn (tgt := 186) C0 (11 : Int32) hd11 dX6_count_1 (by decide) (by decide) rfl (by decide) ?_
    refine lv_aload_n hx hb dX6_count_186 rfl (lv_at hl 0 rfl) ?_
    obtain ⟨v32, hv32, hp⟩ := ob hp
    refine mr_getI C0 cbX6 hM 10 (by decide) tw_301 hv32 dX6_count_187 ?_
    exact mr_iret C0 hr hlk hM rfl (Option.some.inj hp) (Nat.le_refl _) (Nat.le_refl _) dX6_count_190
  replace hp := oF hd11 hp
  cases hp
abbrev rm_X6_needSchool : Room := { frames := 0, cells := 0, slots := 0, locals := 0 }
def p_X6_needSchool (a0 : Nat) (a1 : Int32) (M : Mem) : Option (Unit) :=
  (if a1 < 0 then
   none
  else
   (Option.bind (gR 5 3 M a0) fun v2 =>
   (Option.bind (gR 2 0 M v2) fun v3 =>
   (Option.bind (gI 4 0 M v3) fun v4 =>
   (if a1 < v4 then
    some ()
   else
    none
   )
   )
   )
   )
  )
theorem yk_X6_needSchool : yok yX6_needSchool 1 := by decide +kernel
set_option maxHeartbeats 4000000 in
set_option maxRecDepth 100000 in
theorem w_X6_needSchool {G : gG} (hG : GOK G) {l : Launch} {a0 : Nat} {a1 : Int32} {M : Mem} (hp : p_X6_needSchool a0 a1 M = some ()) : CT G l yX6_needSchool (wT yX6_needSchool cX6_needSchool 2 (none)) rm_X6_needSchool [.ref a0, .int a1] M none M 0 0 := by
  refine CT_of (own := RX6) (maxL := 2) (ret := (none)) hG (by decide) rfl (Nat.le_of_ble_eq_true rfl) (fun p e s m below meth c A C0 hr hlk hM ls hl => ?_)
  have hl : lv_has ls 2 [(0, .ref a0), (1, .int a1)] := hl
  generalize ([.ref a0, .int a1] : List Value).toArray = args at C0 ⊢
  skip
  have hx := C0.1
  have hb := C0.2.1
  have hown := C0.2.2.2.1
  have hts := C0.2.2.2.2.1
  unfold p_X6_needSchool at hp
  refine lv_iload_n hx hb dX6_needSchool_0 rfl (lv_at hl 1 rfl) ?_
  refine lv_if_lt (tgt := 18) hx hb dX6_needSchool_1 (by decide) (fun c1 => ?_) (fun c1 => ?_)
  · replace hp := oT c1 hp
    cases hp
  · replace hp := oF c1 hp
    refine lv_iload_n hx hb dX6_needSchool_4 rfl (lv_at hl 1 rfl) ?_
    refine lv_aload_n hx hb dX6_needSchool_5 rfl (lv_at hl 0 rfl) ?_
    obtain ⟨v2, hv2, hp⟩ := ob hp
    refine mr_getR C0 cbX6 hM 3 (by decide) tw_294 hv2 dX6_needSchool_6 ?_
    obtain ⟨v3, hv3, hp⟩ := ob hp
    refine mr_getR C0 cbX2 hM 0 (by decide) tw_131 hv3 dX6_needSchool_9 ?_
    obtain ⟨v4, hv4, hp⟩ := ob hp
    refine mr_getI C0 cbX4 hM 0 (by decide) tw_67 hv4 dX6_needSchool_12 ?_
    refine lv_icmp_lt (tgt := 29) hx hb dX6_needSchool_15 (by decide) (fun c5 => ?_) (fun c5 => ?_)
    · replace hp := oT c5 hp
      exact mr_vret C0 hr hlk hM rfl (Nat.le_refl _) (Nat.le_refl _) dX6_needSchool_29
    · replace hp := oF c5 hp
      cases hp
abbrev rm_X6_rowLength : Room := { frames := 1, cells := 0, slots := 0, locals := 21 }
def pl_X6_rowLength_4 (k1 : Int32 → Option (Int32)) (f0 : Int32) (M : Mem) : Nat → Int32 → Int32 → Option (Int32)
  | 0, _, _ => none
  | n + 1, y1, y2 =>
    (if (4 : Int32) ≤ y2 then
     (k1 y1)
    else
     (Option.bind (p_X6_rowEntry f0 y2 M) fun v2 =>
     (jn (fun (s3 : Int32) =>
      (pl_X6_rowLength_4 k1 f0 M n (y1 + s3) (y2 + (1 : Int32)))
     ) fun k4 =>
     (if v2 = (-1 : Int32) then
      (k4 (0 : Int32))
     else
      (k4 (1 : Int32))
     )
     )
     )
    )
set_option maxHeartbeats 4000000 in
set_option maxRecDepth 100000 in
theorem wl_X6_rowLength_4 {G : gG} {p : Program} {l : Launch} {e : Env} {s : State} {m : MethodId} {args : Array Value} {below : List Frame} {meth : Method} {c : Code} {A : Nat → Prop} {r : Int32} {k1 : Int32 → Option (Int32)} {f0 : Int32} {M : Mem} (C0 : cx G p s m args c cX6_rowLength RX6 3 A) (hr : meth.sig.returnType = (some FieldType.int)) (hlk : meth.locks = false) (hG : GOK G) (hk1 : ∀ (z1 : Int32) (H : Heap) (locs : List Loc) (ls : Array Slot), mm G A s M H locs → lv_has ls 3 [(1, .int z1)] → k1 z1 = some r → W p l e rm_X6_rowLength s m args below meth c H locs 0 0 (MQ below (CQ G M (some (.int r)) A) args s 0 0 A) (F0 m 32 ls [])) : ∀ (n : Nat) (y1 : Int32) (y2 : Int32) (H : Heap) (locs : List Loc) (ls : Array Slot), mm G A s M H locs → lv_has ls 3 [(0, .int f0), (1, .int y1), (2, .int y2)] → pl_X6_rowLength_4 k1 f0 M n y1 y2 = some r → W p l e rm_X6_rowLength s m args below meth c H locs 0 0 (MQ below (CQ G M (some (.int r)) A) args s 0 0 A) (F0 m 4 ls []) := by
  have hx := C0.1
  have hb := C0.2.1
  have hown := C0.2.2.2.1
  have hts := C0.2.2.2.2.1
  intro n
  induction n with
  | zero => intro y1 y2 H locs ls hM hl hp; rw [pl_X6_rowLength_4] at hp; cases hp
  | succ n ih =>
    intro y1 y2 H locs ls hM hl hp
    rw [pl_X6_rowLength_4] at hp
    refine lv_iload_n hx hb dX6_rowLength_4 rfl (lv_at hl 2 rfl) ?_
    refine lv_iconst (v := 4) hx hb dX6_rowLength_5 (by decide) ?_
    refine lv_icmp_ge (tgt := 32) hx hb dX6_rowLength_6 (by decide) (fun c1 => ?_) (fun c1 => ?_)
    · replace hp := oT c1 hp
      exact hk1 _ _ _ _ hM (lv_sub hl [1] rfl) hp
    · replace hp := oF c1 hp
      refine lv_iload_n hx hb dX6_rowLength_9 rfl (lv_at hl 1 rfl) ?_
      refine lv_iload_n hx hb dX6_rowLength_10 rfl (lv_at hl 0 rfl) ?_
      refine lv_iload_n hx hb dX6_rowLength_11 rfl (lv_at hl 2 rfl) ?_
      obtain ⟨v2, hv2, hp⟩ := ob hp
      refine mr_S1 (As := [.int f0, .int y2]) (rest := [.int y1]) C0 hM (w_X6_rowEntry hG hv2) tw_1661 tw_561 tw_15 tw_562 yk_X6_rowEntry (by decide) rfl hl.1 (Nat.le_of_ble_eq_true rfl) dX6_rowLength_12 rfl (fun H locs hM => ?_)
      refine lv_iconst (v := -1) hx hb dX6_rowLength_15 (by decide) ?_
      obtain ⟨k4, ek4, hp⟩ := ojn hp
      have hk4 : ∀ (s3 : Int32) (H : Heap) (locs : List Loc) (ls : Array Slot), mm G A s M H locs → lv_has ls 3 [(0, .int f0), (2, .int y2)] → k4 s3 = some r → W p l e rm_X6_rowLength s m args below meth c H locs 0 0 (MQ below (CQ G M (some (.int r)) A) args s 0 0 A) (F0 m 24 ls [.int s3, .int y1]) := by
        intro s3 H locs ls hM hl hp
        rw [ek4] at hp
        refine lv_iadd hx hb dX6_rowLength_24 ?_
        refine lv_istore_n (lv' := [(1, .int (y1 + s3)), (0, .int f0), (2, .int y2)]) hx hb dX6_rowLength_25 rfl hl (by decide) rfl (fun ls hl => ?_)
        refine lv_iinc (v := (y2 + (1 : Int32))) (lv' := [(2, .int (y2 + (1 : Int32))), (1, .int (y1 + s3)), (0, .int f0)]) hx hb dX6_rowLength_26 hl (k := 2) rfl rfl (by decide) rfl (fun ls hl => ?_)
        refine lv_goto (tgt := 4) hx hb dX6_rowLength_29 (by decide) ?_
        exact ih _ _ _ _ _ hM (lv_sub hl [2, 1, 0] rfl) hp
      refine lv_icmp_ne (tgt := 23) hx hb dX6_rowLength_16 (by decide) (fun c5 => ?_) (fun c5 => ?_)
      · replace hp := oF c5 hp
        refine lv_iconst (v := 1) hx hb dX6_rowLength_23 (by decide) ?_
        exact hk4 _ _ _ _ hM (lv_sub hl [0, 2] rfl) hp
      · replace hp := oT c5 hp
        refine lv_iconst (v := 0) hx hb dX6_rowLength_19 (by decide) ?_
        refine lv_goto (tgt := 24) hx hb dX6_rowLength_20 (by decide) ?_
        exact hk4 _ _ _ _ hM (lv_sub hl [0, 2] rfl) hp
def p_X6_rowLength (a0 : Int32) (M : Mem) : Option (Int32) :=
  (pl_X6_rowLength_4
   (fun (z6 : Int32) =>
    some z6
   )
   a0 M FU (0 : Int32) (0 : Int32))
theorem yk_X6_rowLength : yok yX6_rowLength 1 := by decide +kernel
set_option maxHeartbeats 4000000 in
set_option maxRecDepth 100000 in
theorem w_X6_rowLength {G : gG} (hG : GOK G) {l : Launch} {a0 : Int32} {M : Mem} {r : Int32} (hp : p_X6_rowLength a0 M = some r) : CT G l yX6_rowLength (wT yX6_rowLength cX6_rowLength 3 (some FieldType.int)) rm_X6_rowLength [.int a0] M (some (.int r)) M 0 0 := by
  refine CT_of (own := RX6) (maxL := 3) (ret := (some FieldType.int)) hG (by decide) rfl (Nat.le_of_ble_eq_true rfl) (fun p e s m below meth c A C0 hr hlk hM ls hl => ?_)
  have hl : lv_has ls 3 [(0, .int a0)] := hl
  generalize ([.int a0] : List Value).toArray = args at C0 ⊢
  skip
  have hx := C0.1
  have hb := C0.2.1
  have hown := C0.2.2.2.1
  have hts := C0.2.2.2.2.1
  unfold p_X6_rowLength at hp
  refine lv_iconst (v := 0) hx hb dX6_rowLength_0 (by decide) ?_
  refine lv_istore_n (lv' := [(1, .int (0 : Int32)), (0, .int a0)]) hx hb dX6_rowLength_1 rfl hl (by decide) rfl (fun ls hl => ?_)
  refine lv_iconst (v := 0) hx hb dX6_rowLength_2 (by decide) ?_
  refine lv_istore_n (lv' := [(2, .int (0 : Int32)), (1, .int (0 : Int32)), (0, .int a0)]) hx hb dX6_rowLength_3 rfl hl (by decide) rfl (fun ls hl => ?_)
  refine wl_X6_rowLength_4 C0 hr hlk hG (fun z6 H locs ls hM hl hp => ?_) FU _ _ _ _ _ hM (lv_sub hl [2, 1, 0] rfl) hp
  refine lv_iload_n hx hb dX6_rowLength_32 rfl (lv_at hl 0 rfl) ?_
  exact mr_iret C0 hr hlk hM rfl (Option.some.inj hp) (Nat.le_refl _) (Nat.le_refl _) dX6_rowLength_33
abbrev rm_X6_school : Room := { frames := 4, cells := 0, slots := 0, locals := 92 }
def p_X6_school (a0 : Nat) (a1 : Int32) (a2 : Int32) (M : Mem) : Option (Int32) :=
  (Option.bind (isC 5 M a0) fun _ =>
  (Option.bind (p_X6_needSchool a0 a1 M) fun v2 =>
  (Option.bind (gR 5 3 M a0) fun v3 =>
  (Option.bind (gR 2 0 M v3) fun v4 =>
  (if (Int32.toInt a2) < 0 ∨ 9 < (Int32.toInt a2) then
   none
  else
  (if a2 = (0 : Int32) then
   (Option.bind (gR 5 3 M a0) fun v5 =>
   (Option.bind (gR 2 18 M v5) fun v6 =>
   (Option.bind (aI 0 M v6 a1) fun v7 =>
   some v7
   )
   )
   )
  else
  (if a2 = (1 : Int32) then
   (Option.bind (gR 4 4 M v4) fun v8 =>
   (Option.bind (aI 0 M v8 a1) fun v9 =>
   some v9
   )
   )
  else
  (if a2 = (2 : Int32) then
   (Option.bind (gR 4 5 M v4) fun v10 =>
   (Option.bind (aI 0 M v10 a1) fun v11 =>
   some v11
   )
   )
  else
  (if a2 = (3 : Int32) then
   (Option.bind (gR 4 6 M v4) fun v12 =>
   (Option.bind (aI 0 M v12 a1) fun v13 =>
   (Option.bind (p_X6_rowLength v13 M) fun v14 =>
   some v14
   )
   )
   )
  else
  (if a2 = (4 : Int32) then
   (Option.bind (isC 4 M v4) fun _ =>
   (Option.bind (p_X4_isZoned v4 a1 M) fun v16 =>
   (if v16 = 0 then
    some (0 : Int32)
   else
    some (1 : Int32)
   )
   )
   )
  else
  (if a2 = (5 : Int32) then
   (Option.bind (gR 4 7 M v4) fun v18 =>
   (Option.bind (aI 0 M v18 a1) fun v19 =>
   some v19
   )
   )
  else
  (if a2 = (6 : Int32) then
   (Option.bind (gR 5 3 M a0) fun v20 =>
   (Option.bind (isC 2 M v20) fun _ =>
   (Option.bind (p_X2_holdersOf v20 a1 M) fun v22 =>
   (Option.bind (p_J13_bitCount_95d88 v22 M) fun v23 =>
   some v23
   )
   )
   )
   )
  else
  (if a2 = (7 : Int32) then
   (Option.bind (gR 5 3 M a0) fun v24 =>
   (Option.bind (isC 2 M v24) fun _ =>
   (Option.bind (p_X2_holdersOf v24 a1 M) fun v26 =>
   (Option.bind (gR 5 3 M a0) fun v27 =>
   (Option.bind (gL 2 10 M v27) fun v28 =>
   (Option.bind (p_J13_bitCount_95d88 (v26 &&& v28) M) fun v29 =>
   some v29
   )
   )
   )
   )
   )
   )
  else
  (if a2 = (8 : Int32) then
   (Option.bind (gR 5 3 M a0) fun v30 =>
   (Option.bind (gR 2 19 M v30) fun v31 =>
   (Option.bind (aI 0 M v31 a1) fun v32 =>
   some v32
   )
   )
   )
  else
  (if a2 = (9 : Int32) then
   (Option.bind (gR 5 3 M a0) fun v33 =>
   (Option.bind (isC 2 M v33) fun _ =>
   (Option.bind (p_X2_waitersOf v33 a1 M) fun v35 =>
   (Option.bind (p_J13_bitCount_95d88 v35 M) fun v36 =>
   some v36
   )
   )
   )
   )
  else
  none
  )
  )
  )
  )
  )
  )
  )
  )
  )
  )
  )
  )
  )
  )
  )
theorem yk_X6_school : yok yX6_school 2 := by decide +kernel
set_option maxHeartbeats 4000000 in
set_option maxRecDepth 100000 in
theorem w_X6_school {G : gG} (hG : GOK G) {l : Launch} {a0 : Nat} {a1 : Int32} {a2 : Int32} {M : Mem} {r : Int32} (hp : p_X6_school a0 a1 a2 M = some r) : CT G l yX6_school (wT yX6_school cX6_school 4 (some FieldType.int)) rm_X6_school [.ref a0, .int a1, .int a2] M (some (.int r)) M 0 0 := by
  refine CT_of (own := RX6) (maxL := 4) (ret := (some FieldType.int)) hG (by decide) rfl (Nat.le_of_ble_eq_true rfl) (fun p e s m below meth c A C0 hr hlk hM ls hl => ?_)
  have hl : lv_has ls 4 [(0, .ref a0), (1, .int a1), (2, .int a2)] := hl
  generalize ([.ref a0, .int a1, .int a2] : List Value).toArray = args at C0 ⊢
  skip
  have hx := C0.1
  have hb := C0.2.1
  have hown := C0.2.2.2.1
  have hts := C0.2.2.2.2.1
  unfold p_X6_school at hp
  refine lv_aload_n hx hb dX6_school_0 rfl (lv_at hl 0 rfl) ?_
  refine lv_iload_n hx hb dX6_school_1 rfl (lv_at hl 1 rfl) ?_
  obtain ⟨_, h1, hp⟩ := ob hp
  obtain ⟨v2, hv2, hp⟩ := ob hp
  refine mr_V0 (As := [.int a1]) (rest := []) C0 cbX6 hM h1 rfl (w_X6_needSchool hG hv2) tw_1705 tw_1707 tws_20 tw_15 tw_1708 yk_X6_needSchool (by decide) rfl hl.1 (Nat.le_of_ble_eq_true rfl) dX6_school_2 rfl (fun H locs hM => ?_)
  refine lv_aload_n hx hb dX6_school_5 rfl (lv_at hl 0 rfl) ?_
  obtain ⟨v3, hv3, hp⟩ := ob hp
  refine mr_getR C0 cbX6 hM 3 (by decide) tw_294 hv3 dX6_school_6 ?_
  obtain ⟨v4, hv4, hp⟩ := ob hp
  refine mr_getR C0 cbX2 hM 0 (by decide) tw_131 hv4 dX6_school_9 ?_
  refine lv_astore_n (lv' := [(3, .ref v4), (0, .ref a0), (1, .int a1), (2, .int a2)]) hx hb dX6_school_12 rfl hl (by decide) rfl (fun ls hl => ?_)
  refine lv_iload_n hx hb dX6_school_13 rfl (lv_at hl 3 rfl) ?_
  by_cases hd : (Int32.toInt a2) < 0 ∨ 9 < (Int32.toInt a2)
  · replace hp := oT hd hp
    refine lv_tableOut (tgt := 177) hx hb dX6_school_14 hd (by decide) ?_
    cases hp
  replace hp := oF hd hp
  by_cases hd0 : a2 = (0 : Int32)
  · replace hp := oT hd0 hp
    refine mr_tsIn (tgt := 68) C0 (0 : Int32) hd0 dX6_school_14 (by decide) (by decide) rfl (by decide) ?_
    refine lv_aload_n hx hb dX6_school_68 rfl (lv_at hl 1 rfl) ?_
    obtain ⟨v5, hv5, hp⟩ := ob hp
    refine mr_getR C0 cbX6 hM 3 (by decide) tw_294 hv5 dX6_school_69 ?_
    obtain ⟨v6, hv6, hp⟩ := ob hp
    refine mr_getR C0 cbX2 hM 18 (by decide) tw_179 hv6 dX6_school_72 ?_
    refine lv_iload_n hx hb dX6_school_75 rfl (lv_at hl 2 rfl) ?_
    obtain ⟨v7, hv7, hp⟩ := ob hp
    refine mr_iald C0 hM hv7 dX6_school_76 ?_
    exact mr_iret C0 hr hlk hM rfl (Option.some.inj hp) (Nat.le_refl _) (Nat.le_refl _) dX6_school_77
  replace hp := oF hd0 hp
  by_cases hd1 : a2 = (1 : Int32)
  · replace hp := oT hd1 hp
    refine mr_tsIn (tgt := 78) C0 (1 : Int32) hd1 dX6_school_14 (by decide) (by decide) rfl (by decide) ?_
    refine lv_aload_n hx hb dX6_school_78 rfl (lv_at hl 0 rfl) ?_
    obtain ⟨v8, hv8, hp⟩ := ob hp
    refine mr_getR C0 cbX4 hM 4 (by decide) tw_79 hv8 dX6_school_79 ?_
    refine lv_iload_n hx hb dX6_school_82 rfl (lv_at hl 2 rfl) ?_
    obtain ⟨v9, hv9, hp⟩ := ob hp
    refine mr_iald C0 hM hv9 dX6_school_83 ?_
    exact mr_iret C0 hr hlk hM rfl (Option.some.inj hp) (Nat.le_refl _) (Nat.le_refl _) dX6_school_84
  replace hp := oF hd1 hp
  by_cases hd2 : a2 = (2 : Int32)
  · replace hp := oT hd2 hp
    refine mr_tsIn (tgt := 85) C0 (2 : Int32) hd2 dX6_school_14 (by decide) (by decide) rfl (by decide) ?_
    refine lv_aload_n hx hb dX6_school_85 rfl (lv_at hl 0 rfl) ?_
    obtain ⟨v10, hv10, hp⟩ := ob hp
    refine mr_getR C0 cbX4 hM 5 (by decide) tw_82 hv10 dX6_school_86 ?_
    refine lv_iload_n hx hb dX6_school_89 rfl (lv_at hl 2 rfl) ?_
    obtain ⟨v11, hv11, hp⟩ := ob hp
    refine mr_iald C0 hM hv11 dX6_school_90 ?_
    exact mr_iret C0 hr hlk hM rfl (Option.some.inj hp) (Nat.le_refl _) (Nat.le_refl _) dX6_school_91
  replace hp := oF hd2 hp
  by_cases hd3 : a2 = (3 : Int32)
  · replace hp := oT hd3 hp
    refine mr_tsIn (tgt := 92) C0 (3 : Int32) hd3 dX6_school_14 (by decide) (by decide) rfl (by decide) ?_
    refine lv_aload_n hx hb dX6_school_92 rfl (lv_at hl 0 rfl) ?_
    obtain ⟨v12, hv12, hp⟩ := ob hp
    refine mr_getR C0 cbX4 hM 6 (by decide) tw_85 hv12 dX6_school_93 ?_
    refine lv_iload_n hx hb dX6_school_96 rfl (lv_at hl 2 rfl) ?_
    obtain ⟨v13, hv13, hp⟩ := ob hp
    refine mr_iald C0 hM hv13 dX6_school_97 ?_
    obtain ⟨v14, hv14, hp⟩ := ob hp
    refine mr_S1 (As := [.int v13]) (rest := []) C0 hM (w_X6_rowLength hG hv14) tw_1658 tw_1659 tw_15 tw_1660 yk_X6_rowLength (by decide) rfl hl.1 (Nat.le_of_ble_eq_true rfl) dX6_school_98 rfl (fun H locs hM => ?_)
    exact mr_iret C0 hr hlk hM rfl (Option.some.inj hp) (Nat.le_refl _) (Nat.le_refl _) dX6_school_101
  replace hp := oF hd3 hp
  by_cases hd4 : a2 = (4 : Int32)
  · replace hp := oT hd4 hp
    refine mr_tsIn (tgt := 102) C0 (4 : Int32) hd4 dX6_school_14 (by decide) (by decide) rfl (by decide) ?_
    refine lv_aload_n hx hb dX6_school_102 rfl (lv_at hl 0 rfl) ?_
    refine lv_iload_n hx hb dX6_school_103 rfl (lv_at hl 2 rfl) ?_
    obtain ⟨_, h15, hp⟩ := ob hp
    obtain ⟨v16, hv16, hp⟩ := ob hp
    refine mr_V1 (As := [.int a1]) (rest := []) C0 cbX4 hM h15 rfl (w_X4_isZoned hG hv16) tw_1746 tw_462 tw_463 tw_18 tw_464 yk_X4_isZoned (by decide) rfl hl.1 (Nat.le_of_ble_eq_true rfl) dX6_school_104 rfl (fun H locs hM => ?_)
    refine lv_if_eq (tgt := 114) hx hb dX6_school_107 (by decide) (fun c17 => ?_) (fun c17 => ?_)
    · replace hp := oT c17 hp
      refine lv_iconst (v := 0) hx hb dX6_school_114 (by decide) ?_
      exact mr_iret C0 hr hlk hM rfl (Option.some.inj hp) (Nat.le_refl _) (Nat.le_refl _) dX6_school_115
    · replace hp := oF c17 hp
      refine lv_iconst (v := 1) hx hb dX6_school_110 (by decide) ?_
      refine lv_goto (tgt := 115) hx hb dX6_school_111 (by decide) ?_
      exact mr_iret C0 hr hlk hM rfl (Option.some.inj hp) (Nat.le_refl _) (Nat.le_refl _) dX6_school_115
  replace hp := oF hd4 hp
  by_cases hd5 : a2 = (5 : Int32)
  · replace hp := oT hd5 hp
    refine mr_tsIn (tgt := 116) C0 (5 : Int32) hd5 dX6_school_14 (by decide) (by decide) rfl (by decide) ?_
    refine lv_aload_n hx hb dX6_school_116 rfl (lv_at hl 0 rfl) ?_
    obtain ⟨v18, hv18, hp⟩ := ob hp
    refine mr_getR C0 cbX4 hM 7 (by decide) tw_87 hv18 dX6_school_117 ?_
    refine lv_iload_n hx hb dX6_school_120 rfl (lv_at hl 2 rfl) ?_
    obtain ⟨v19, hv19, hp⟩ := ob hp
    refine mr_iald C0 hM hv19 dX6_school_121 ?_
    exact mr_iret C0 hr hlk hM rfl (Option.some.inj hp) (Nat.le_refl _) (Nat.le_refl _) dX6_school_122
  replace hp := oF hd5 hp
  by_cases hd6 : a2 = (6 : Int32)
  · replace hp := oT hd6 hp
    refine mr_tsIn (tgt := 123) C0 (6 : Int32) hd6 dX6_school_14 (by decide) (by decide) rfl (by decide) ?_
    refine lv_aload_n hx hb dX6_school_123 rfl (lv_at hl 1 rfl) ?_
    obtain ⟨v20, hv20, hp⟩ := ob hp
    refine mr_getR C0 cbX6 hM 3 (by decide) tw_294 hv20 dX6_school_124 ?_
    refine lv_iload_n hx hb dX6_school_127 rfl (lv_at hl 2 rfl) ?_
    obtain ⟨_, h21, hp⟩ := ob hp
    obtain ⟨v22, hv22, hp⟩ := ob hp
    refine mr_V1 (As := [.int a1]) (rest := []) C0 cbX2 hM h21 rfl (w_X2_holdersOf hG hv22) tw_1747 tw_568 tw_569 tw_17 tw_570 yk_X2_holdersOf (by decide) rfl hl.1 (Nat.le_of_ble_eq_true rfl) dX6_school_128 rfl (fun H locs hM => ?_)
    obtain ⟨v23, hv23, hp⟩ := ob hp
    refine mr_S1 (As := [.long v22]) (rest := []) C0 hM (w_J13_bitCount_95d88 hG hv23) tw_1748 tw_572 tw_39 tw_573 yk_J13_bitCount_95d88 (by decide) rfl hl.1 (Nat.le_of_ble_eq_true rfl) dX6_school_131 rfl (fun H locs hM => ?_)
    exact mr_iret C0 hr hlk hM rfl (Option.some.inj hp) (Nat.le_refl _) (Nat.le_refl _) dX6_school_134
  replace hp := oF hd6 hp
  by_cases hd7 : a2 = (7 : Int32)
  · replace hp := oT hd7 hp
    refine mr_tsIn (tgt := 135) C0 (7 : Int32) hd7 dX6_school_14 (by decide) (by decide) rfl (by decide) ?_
    refine lv_aload_n hx hb dX6_school_135 rfl (lv_at hl 1 rfl) ?_
    obtain ⟨v24, hv24, hp⟩ := ob hp
    refine mr_getR C0 cbX6 hM 3 (by decide) tw_294 hv24 dX6_school_136 ?_
    refine lv_iload_n hx hb dX6_school_139 rfl (lv_at hl 2 rfl) ?_
    obtain ⟨_, h25, hp⟩ := ob hp
    obtain ⟨v26, hv26, hp⟩ := ob hp
    refine mr_V1 (As := [.int a1]) (rest := []) C0 cbX2 hM h25 rfl (w_X2_holdersOf hG hv26) tw_1747 tw_568 tw_569 tw_17 tw_570 yk_X2_holdersOf (by decide) rfl hl.1 (Nat.le_of_ble_eq_true rfl) dX6_school_140 rfl (fun H locs hM => ?_)
    refine lv_aload_n hx hb dX6_school_143 rfl (lv_at hl 1 rfl) ?_
    obtain ⟨v27, hv27, hp⟩ := ob hp
    refine mr_getR C0 cbX6 hM 3 (by decide) tw_294 hv27 dX6_school_144 ?_
    obtain ⟨v28, hv28, hp⟩ := ob hp
    refine mr_getL C0 cbX2 hM 10 (by decide) tw_159 hv28 dX6_school_147 ?_
    refine lv_land hx hb dX6_school_150 ?_
    obtain ⟨v29, hv29, hp⟩ := ob hp
    refine mr_S1 (As := [.long (v26 &&& v28)]) (rest := []) C0 hM (w_J13_bitCount_95d88 hG hv29) tw_1748 tw_572 tw_39 tw_573 yk_J13_bitCount_95d88 (by decide) rfl hl.1 (Nat.le_of_ble_eq_true rfl) dX6_school_151 rfl (fun H locs hM => ?_)
    exact mr_iret C0 hr hlk hM rfl (Option.some.inj hp) (Nat.le_refl _) (Nat.le_refl _) dX6_school_154
  replace hp := oF hd7 hp
  by_cases hd8 : a2 = (8 : Int32)
  · replace hp := oT hd8 hp
    refine mr_tsIn (tgt := 155) C0 (8 : Int32) hd8 dX6_school_14 (by decide) (by decide) rfl (by decide) ?_
    refine lv_aload_n hx hb dX6_school_155 rfl (lv_at hl 1 rfl) ?_
    obtain ⟨v30, hv30, hp⟩ := ob hp
    refine mr_getR C0 cbX6 hM 3 (by decide) tw_294 hv30 dX6_school_156 ?_
    obtain ⟨v31, hv31, hp⟩ := ob hp
    refine mr_getR C0 cbX2 hM 19 (by decide) tw_181 hv31 dX6_school_159 ?_
    refine lv_iload_n hx hb dX6_school_162 rfl (lv_at hl 2 rfl) ?_
    obtain ⟨v32, hv32, hp⟩ := ob hp
    refine mr_iald C0 hM hv32 dX6_school_163 ?_
    exact mr_iret C0 hr hlk hM rfl (Option.some.inj hp) (Nat.le_refl _) (Nat.le_refl _) dX6_school_164
  replace hp := oF hd8 hp
  by_cases hd9 : a2 = (9 : Int32)
  · replace hp := oT hd9 hp
    refine mr_tsIn (tgt := 165) C0 (9 : Int32) hd9 dX6_school_14 (by decide) (by decide) rfl (by decide) ?_
    refine lv_aload_n hx hb dX6_school_165 rfl (lv_at hl 1 rfl) ?_
    obtain ⟨v33, hv33, hp⟩ := ob hp
    refine mr_getR C0 cbX6 hM 3 (by decide) tw_294 hv33 dX6_school_166 ?_
    refine lv_iload_n hx hb dX6_school_169 rfl (lv_at hl 2 rfl) ?_
    obtain ⟨_, h34, hp⟩ := ob hp
    obtain ⟨v35, hv35, hp⟩ := ob hp
    refine mr_V1 (As := [.int a1]) (rest := []) C0 cbX2 hM h34 rfl (w_X2_waitersOf hG hv35) tw_1730 tw_1731 tw_1732 tw_17 tw_1733 yk_X2_waitersOf (by decide) rfl hl.1 (Nat.le_of_ble_eq_true rfl) dX6_school_170 rfl (fun H locs hM => ?_)
    obtain ⟨v36, hv36, hp⟩ := ob hp
    refine mr_S1 (As := [.long v35]) (rest := []) C0 hM (w_J13_bitCount_95d88 hG hv36) tw_1748 tw_572 tw_39 tw_573 yk_J13_bitCount_95d88 (by decide) rfl hl.1 (Nat.le_of_ble_eq_true rfl) dX6_school_173 rfl (fun H locs hM => ?_)
    exact mr_iret C0 hr hlk hM rfl (Option.some.inj hp) (Nat.le_refl _) (Nat.le_refl _) dX6_school_176
  replace hp := oF hd9 hp
  cases hp
abbrev rm_X6_needChild : Room := { frames := 0, cells := 0, slots := 0, locals := 0 }
def p_X6_needChild (a0 : Nat) (a1 : Int32) (M : Mem) : Option (Unit) :=
  (if a1 < 0 then
   none
  else
   (Option.bind (gR 5 3 M a0) fun v2 =>
   (Option.bind (gI 2 1 M v2) fun v3 =>
   (if a1 < v3 then
    some ()
   else
    none
   )
   )
   )
  )
theorem yk_X6_needChild : yok yX6_needChild 1 := by decide +kernel
set_option maxHeartbeats 4000000 in
set_option maxRecDepth 100000 in
theorem w_X6_needChild {G : gG} (hG : GOK G) {l : Launch} {a0 : Nat} {a1 : Int32} {M : Mem} (hp : p_X6_needChild a0 a1 M = some ()) : CT G l yX6_needChild (wT yX6_needChild cX6_needChild 2 (none)) rm_X6_needChild [.ref a0, .int a1] M none M 0 0 := by
  refine CT_of (own := RX6) (maxL := 2) (ret := (none)) hG (by decide) rfl (Nat.le_of_ble_eq_true rfl) (fun p e s m below meth c A C0 hr hlk hM ls hl => ?_)
  have hl : lv_has ls 2 [(0, .ref a0), (1, .int a1)] := hl
  generalize ([.ref a0, .int a1] : List Value).toArray = args at C0 ⊢
  skip
  have hx := C0.1
  have hb := C0.2.1
  have hown := C0.2.2.2.1
  have hts := C0.2.2.2.2.1
  unfold p_X6_needChild at hp
  refine lv_iload_n hx hb dX6_needChild_0 rfl (lv_at hl 1 rfl) ?_
  refine lv_if_lt (tgt := 15) hx hb dX6_needChild_1 (by decide) (fun c1 => ?_) (fun c1 => ?_)
  · replace hp := oT c1 hp
    cases hp
  · replace hp := oF c1 hp
    refine lv_iload_n hx hb dX6_needChild_4 rfl (lv_at hl 1 rfl) ?_
    refine lv_aload_n hx hb dX6_needChild_5 rfl (lv_at hl 0 rfl) ?_
    obtain ⟨v2, hv2, hp⟩ := ob hp
    refine mr_getR C0 cbX6 hM 3 (by decide) tw_294 hv2 dX6_needChild_6 ?_
    obtain ⟨v3, hv3, hp⟩ := ob hp
    refine mr_getI C0 cbX2 hM 1 (by decide) tw_137 hv3 dX6_needChild_9 ?_
    refine lv_icmp_lt (tgt := 26) hx hb dX6_needChild_12 (by decide) (fun c4 => ?_) (fun c4 => ?_)
    · replace hp := oT c4 hp
      exact mr_vret C0 hr hlk hM rfl (Nat.le_refl _) (Nat.le_refl _) dX6_needChild_26
    · replace hp := oF c4 hp
      cases hp
abbrev rm_X6_child : Room := { frames := 2, cells := 0, slots := 0, locals := 43 }
def p_X6_child (a0 : Nat) (a1 : Int32) (a2 : Int32) (M : Mem) : Option (Int32) :=
  (Option.bind (isC 5 M a0) fun _ =>
  (Option.bind (p_X6_needChild a0 a1 M) fun v2 =>
  (if (Int32.toInt a2) < 0 ∨ 8 < (Int32.toInt a2) then
   none
  else
  (if a2 = (0 : Int32) then
   (Option.bind (gR 5 3 M a0) fun v3 =>
   (Option.bind (gR 2 11 M v3) fun v4 =>
   (Option.bind (aI 0 M v4 a1) fun v5 =>
   some v5
   )
   )
   )
  else
  (if a2 = (1 : Int32) then
   (Option.bind (gR 5 3 M a0) fun v6 =>
   (Option.bind (gR 2 12 M v6) fun v7 =>
   (Option.bind (aI 0 M v7 a1) fun v8 =>
   some v8
   )
   )
   )
  else
  (if a2 = (2 : Int32) then
   (Option.bind (gR 5 3 M a0) fun v9 =>
   (Option.bind (gR 2 13 M v9) fun v10 =>
   (Option.bind (aI 0 M v10 a1) fun v11 =>
   some v11
   )
   )
   )
  else
  (if a2 = (3 : Int32) then
   (Option.bind (gR 5 3 M a0) fun v12 =>
   (Option.bind (gL 2 7 M v12) fun v13 =>
   (Option.bind (p_X6_isIn v13 a1 M) fun v14 =>
   (if v14 = 0 then
    some (0 : Int32)
   else
    some (1 : Int32)
   )
   )
   )
   )
  else
  (if a2 = (4 : Int32) then
   (Option.bind (gR 5 3 M a0) fun v16 =>
   (Option.bind (gR 2 14 M v16) fun v17 =>
   (Option.bind (aI 0 M v17 a1) fun v18 =>
   some v18
   )
   )
   )
  else
  (if a2 = (5 : Int32) then
   (Option.bind (gR 5 3 M a0) fun v19 =>
   (Option.bind (gR 2 15 M v19) fun v20 =>
   (Option.bind (aI 0 M v20 a1) fun v21 =>
   (Option.bind (p_X6_rowLength v21 M) fun v22 =>
   some v22
   )
   )
   )
   )
  else
  (if a2 = (6 : Int32) then
   (Option.bind (gR 5 3 M a0) fun v23 =>
   (Option.bind (gL 2 8 M v23) fun v24 =>
   (Option.bind (p_X6_isIn v24 a1 M) fun v25 =>
   (if v25 = 0 then
    some (0 : Int32)
   else
    some (1 : Int32)
   )
   )
   )
   )
  else
  (if a2 = (7 : Int32) then
   (Option.bind (gR 5 3 M a0) fun v27 =>
   (Option.bind (gL 2 9 M v27) fun v28 =>
   (Option.bind (p_X6_isIn v28 a1 M) fun v29 =>
   (if v29 = 0 then
    some (0 : Int32)
   else
    some (1 : Int32)
   )
   )
   )
   )
  else
  (if a2 = (8 : Int32) then
   (Option.bind (gR 5 3 M a0) fun v31 =>
   (Option.bind (gL 2 10 M v31) fun v32 =>
   (Option.bind (p_X6_isIn v32 a1 M) fun v33 =>
   (if v33 = 0 then
    some (0 : Int32)
   else
    some (1 : Int32)
   )
   )
   )
   )
  else
  none
  )
  )
  )
  )
  )
  )
  )
  )
  )
  )
  )
  )
theorem yk_X6_child : yok yX6_child 2 := by decide +kernel
set_option maxHeartbeats 4000000 in
set_option maxRecDepth 100000 in
theorem w_X6_child {G : gG} (hG : GOK G) {l : Launch} {a0 : Nat} {a1 : Int32} {a2 : Int32} {M : Mem} {r : Int32} (hp : p_X6_child a0 a1 a2 M = some r) : CT G l yX6_child (wT yX6_child cX6_child 3 (some FieldType.int)) rm_X6_child [.ref a0, .int a1, .int a2] M (some (.int r)) M 0 0 := by
  refine CT_of (own := RX6) (maxL := 3) (ret := (some FieldType.int)) hG (by decide) rfl (Nat.le_of_ble_eq_true rfl) (fun p e s m below meth c A C0 hr hlk hM ls hl => ?_)
  have hl : lv_has ls 3 [(0, .ref a0), (1, .int a1), (2, .int a2)] := hl
  generalize ([.ref a0, .int a1, .int a2] : List Value).toArray = args at C0 ⊢
  skip
  have hx := C0.1
  have hb := C0.2.1
  have hown := C0.2.2.2.1
  have hts := C0.2.2.2.2.1
  unfold p_X6_child at hp
  refine lv_aload_n hx hb dX6_child_0 rfl (lv_at hl 0 rfl) ?_
  refine lv_iload_n hx hb dX6_child_1 rfl (lv_at hl 1 rfl) ?_
  obtain ⟨_, h1, hp⟩ := ob hp
  obtain ⟨v2, hv2, hp⟩ := ob hp
  refine mr_V0 (As := [.int a1]) (rest := []) C0 cbX6 hM h1 rfl (w_X6_needChild hG hv2) tw_1629 tw_1631 tws_17 tw_15 tw_1632 yk_X6_needChild (by decide) rfl hl.1 (Nat.le_of_ble_eq_true rfl) dX6_child_2 rfl (fun H locs hM => ?_)
  refine lv_iload_n hx hb dX6_child_5 rfl (lv_at hl 2 rfl) ?_
  by_cases hd : (Int32.toInt a2) < 0 ∨ 8 < (Int32.toInt a2)
  · replace hp := oT hd hp
    refine lv_tableOut (tgt := 189) hx hb dX6_child_6 hd (by decide) ?_
    cases hp
  replace hp := oF hd hp
  by_cases hd0 : a2 = (0 : Int32)
  · replace hp := oT hd0 hp
    refine mr_tsIn (tgt := 56) C0 (0 : Int32) hd0 dX6_child_6 (by decide) (by decide) rfl (by decide) ?_
    refine lv_aload_n hx hb dX6_child_56 rfl (lv_at hl 0 rfl) ?_
    obtain ⟨v3, hv3, hp⟩ := ob hp
    refine mr_getR C0 cbX6 hM 3 (by decide) tw_294 hv3 dX6_child_57 ?_
    obtain ⟨v4, hv4, hp⟩ := ob hp
    refine mr_getR C0 cbX2 hM 11 (by decide) tw_161 hv4 dX6_child_60 ?_
    refine lv_iload_n hx hb dX6_child_63 rfl (lv_at hl 1 rfl) ?_
    obtain ⟨v5, hv5, hp⟩ := ob hp
    refine mr_iald C0 hM hv5 dX6_child_64 ?_
    exact mr_iret C0 hr hlk hM rfl (Option.some.inj hp) (Nat.le_refl _) (Nat.le_refl _) dX6_child_65
  replace hp := oF hd0 hp
  by_cases hd1 : a2 = (1 : Int32)
  · replace hp := oT hd1 hp
    refine mr_tsIn (tgt := 66) C0 (1 : Int32) hd1 dX6_child_6 (by decide) (by decide) rfl (by decide) ?_
    refine lv_aload_n hx hb dX6_child_66 rfl (lv_at hl 0 rfl) ?_
    obtain ⟨v6, hv6, hp⟩ := ob hp
    refine mr_getR C0 cbX6 hM 3 (by decide) tw_294 hv6 dX6_child_67 ?_
    obtain ⟨v7, hv7, hp⟩ := ob hp
    refine mr_getR C0 cbX2 hM 12 (by decide) tw_163 hv7 dX6_child_70 ?_
    refine lv_iload_n hx hb dX6_child_73 rfl (lv_at hl 1 rfl) ?_
    obtain ⟨v8, hv8, hp⟩ := ob hp
    refine mr_iald C0 hM hv8 dX6_child_74 ?_
    exact mr_iret C0 hr hlk hM rfl (Option.some.inj hp) (Nat.le_refl _) (Nat.le_refl _) dX6_child_75
  replace hp := oF hd1 hp
  by_cases hd2 : a2 = (2 : Int32)
  · replace hp := oT hd2 hp
    refine mr_tsIn (tgt := 76) C0 (2 : Int32) hd2 dX6_child_6 (by decide) (by decide) rfl (by decide) ?_
    refine lv_aload_n hx hb dX6_child_76 rfl (lv_at hl 0 rfl) ?_
    obtain ⟨v9, hv9, hp⟩ := ob hp
    refine mr_getR C0 cbX6 hM 3 (by decide) tw_294 hv9 dX6_child_77 ?_
    obtain ⟨v10, hv10, hp⟩ := ob hp
    refine mr_getR C0 cbX2 hM 13 (by decide) tw_165 hv10 dX6_child_80 ?_
    refine lv_iload_n hx hb dX6_child_83 rfl (lv_at hl 1 rfl) ?_
    obtain ⟨v11, hv11, hp⟩ := ob hp
    refine mr_iald C0 hM hv11 dX6_child_84 ?_
    exact mr_iret C0 hr hlk hM rfl (Option.some.inj hp) (Nat.le_refl _) (Nat.le_refl _) dX6_child_85
  replace hp := oF hd2 hp
  by_cases hd3 : a2 = (3 : Int32)
  · replace hp := oT hd3 hp
    refine mr_tsIn (tgt := 86) C0 (3 : Int32) hd3 dX6_child_6 (by decide) (by decide) rfl (by decide) ?_
    refine lv_aload_n hx hb dX6_child_86 rfl (lv_at hl 0 rfl) ?_
    obtain ⟨v12, hv12, hp⟩ := ob hp
    refine mr_getR C0 cbX6 hM 3 (by decide) tw_294 hv12 dX6_child_87 ?_
    obtain ⟨v13, hv13, hp⟩ := ob hp
    refine mr_getL C0 cbX2 hM 7 (by decide) tw_152 hv13 dX6_child_90 ?_
    refine lv_iload_n hx hb dX6_child_93 rfl (lv_at hl 1 rfl) ?_
    obtain ⟨v14, hv14, hp⟩ := ob hp
    refine mr_S1 (As := [.long v13, .int a1]) (rest := []) C0 hM (w_X6_isIn hG hv14) tw_1657 tw_558 tw_15 tw_559 yk_X6_isIn (by decide) rfl hl.1 (Nat.le_of_ble_eq_true rfl) dX6_child_94 rfl (fun H locs hM => ?_)
    refine lv_if_eq (tgt := 104) hx hb dX6_child_97 (by decide) (fun c15 => ?_) (fun c15 => ?_)
    · replace hp := oT c15 hp
      refine lv_iconst (v := 0) hx hb dX6_child_104 (by decide) ?_
      exact mr_iret C0 hr hlk hM rfl (Option.some.inj hp) (Nat.le_refl _) (Nat.le_refl _) dX6_child_105
    · replace hp := oF c15 hp
      refine lv_iconst (v := 1) hx hb dX6_child_100 (by decide) ?_
      refine lv_goto (tgt := 105) hx hb dX6_child_101 (by decide) ?_
      exact mr_iret C0 hr hlk hM rfl (Option.some.inj hp) (Nat.le_refl _) (Nat.le_refl _) dX6_child_105
  replace hp := oF hd3 hp
  by_cases hd4 : a2 = (4 : Int32)
  · replace hp := oT hd4 hp
    refine mr_tsIn (tgt := 106) C0 (4 : Int32) hd4 dX6_child_6 (by decide) (by decide) rfl (by decide) ?_
    refine lv_aload_n hx hb dX6_child_106 rfl (lv_at hl 0 rfl) ?_
    obtain ⟨v16, hv16, hp⟩ := ob hp
    refine mr_getR C0 cbX6 hM 3 (by decide) tw_294 hv16 dX6_child_107 ?_
    obtain ⟨v17, hv17, hp⟩ := ob hp
    refine mr_getR C0 cbX2 hM 14 (by decide) tw_167 hv17 dX6_child_110 ?_
    refine lv_iload_n hx hb dX6_child_113 rfl (lv_at hl 1 rfl) ?_
    obtain ⟨v18, hv18, hp⟩ := ob hp
    refine mr_iald C0 hM hv18 dX6_child_114 ?_
    exact mr_iret C0 hr hlk hM rfl (Option.some.inj hp) (Nat.le_refl _) (Nat.le_refl _) dX6_child_115
  replace hp := oF hd4 hp
  by_cases hd5 : a2 = (5 : Int32)
  · replace hp := oT hd5 hp
    refine mr_tsIn (tgt := 116) C0 (5 : Int32) hd5 dX6_child_6 (by decide) (by decide) rfl (by decide) ?_
    refine lv_aload_n hx hb dX6_child_116 rfl (lv_at hl 0 rfl) ?_
    obtain ⟨v19, hv19, hp⟩ := ob hp
    refine mr_getR C0 cbX6 hM 3 (by decide) tw_294 hv19 dX6_child_117 ?_
    obtain ⟨v20, hv20, hp⟩ := ob hp
    refine mr_getR C0 cbX2 hM 15 (by decide) tw_170 hv20 dX6_child_120 ?_
    refine lv_iload_n hx hb dX6_child_123 rfl (lv_at hl 1 rfl) ?_
    obtain ⟨v21, hv21, hp⟩ := ob hp
    refine mr_iald C0 hM hv21 dX6_child_124 ?_
    obtain ⟨v22, hv22, hp⟩ := ob hp
    refine mr_S1 (As := [.int v21]) (rest := []) C0 hM (w_X6_rowLength hG hv22) tw_1658 tw_1659 tw_15 tw_1660 yk_X6_rowLength (by decide) rfl hl.1 (Nat.le_of_ble_eq_true rfl) dX6_child_125 rfl (fun H locs hM => ?_)
    exact mr_iret C0 hr hlk hM rfl (Option.some.inj hp) (Nat.le_refl _) (Nat.le_refl _) dX6_child_128
  replace hp := oF hd5 hp
  by_cases hd6 : a2 = (6 : Int32)
  · replace hp := oT hd6 hp
    refine mr_tsIn (tgt := 129) C0 (6 : Int32) hd6 dX6_child_6 (by decide) (by decide) rfl (by decide) ?_
    refine lv_aload_n hx hb dX6_child_129 rfl (lv_at hl 0 rfl) ?_
    obtain ⟨v23, hv23, hp⟩ := ob hp
    refine mr_getR C0 cbX6 hM 3 (by decide) tw_294 hv23 dX6_child_130 ?_
    obtain ⟨v24, hv24, hp⟩ := ob hp
    refine mr_getL C0 cbX2 hM 8 (by decide) tw_154 hv24 dX6_child_133 ?_
    refine lv_iload_n hx hb dX6_child_136 rfl (lv_at hl 1 rfl) ?_
    obtain ⟨v25, hv25, hp⟩ := ob hp
    refine mr_S1 (As := [.long v24, .int a1]) (rest := []) C0 hM (w_X6_isIn hG hv25) tw_1657 tw_558 tw_15 tw_559 yk_X6_isIn (by decide) rfl hl.1 (Nat.le_of_ble_eq_true rfl) dX6_child_137 rfl (fun H locs hM => ?_)
    refine lv_if_eq (tgt := 147) hx hb dX6_child_140 (by decide) (fun c26 => ?_) (fun c26 => ?_)
    · replace hp := oT c26 hp
      refine lv_iconst (v := 0) hx hb dX6_child_147 (by decide) ?_
      exact mr_iret C0 hr hlk hM rfl (Option.some.inj hp) (Nat.le_refl _) (Nat.le_refl _) dX6_child_148
    · replace hp := oF c26 hp
      refine lv_iconst (v := 1) hx hb dX6_child_143 (by decide) ?_
      refine lv_goto (tgt := 148) hx hb dX6_child_144 (by decide) ?_
      exact mr_iret C0 hr hlk hM rfl (Option.some.inj hp) (Nat.le_refl _) (Nat.le_refl _) dX6_child_148
  replace hp := oF hd6 hp
  by_cases hd7 : a2 = (7 : Int32)
  · replace hp := oT hd7 hp
    refine mr_tsIn (tgt := 149) C0 (7 : Int32) hd7 dX6_child_6 (by decide) (by decide) rfl (by decide) ?_
    refine lv_aload_n hx hb dX6_child_149 rfl (lv_at hl 0 rfl) ?_
    obtain ⟨v27, hv27, hp⟩ := ob hp
    refine mr_getR C0 cbX6 hM 3 (by decide) tw_294 hv27 dX6_child_150 ?_
    obtain ⟨v28, hv28, hp⟩ := ob hp
    refine mr_getL C0 cbX2 hM 9 (by decide) tw_157 hv28 dX6_child_153 ?_
    refine lv_iload_n hx hb dX6_child_156 rfl (lv_at hl 1 rfl) ?_
    obtain ⟨v29, hv29, hp⟩ := ob hp
    refine mr_S1 (As := [.long v28, .int a1]) (rest := []) C0 hM (w_X6_isIn hG hv29) tw_1657 tw_558 tw_15 tw_559 yk_X6_isIn (by decide) rfl hl.1 (Nat.le_of_ble_eq_true rfl) dX6_child_157 rfl (fun H locs hM => ?_)
    refine lv_if_eq (tgt := 167) hx hb dX6_child_160 (by decide) (fun c30 => ?_) (fun c30 => ?_)
    · replace hp := oT c30 hp
      refine lv_iconst (v := 0) hx hb dX6_child_167 (by decide) ?_
      exact mr_iret C0 hr hlk hM rfl (Option.some.inj hp) (Nat.le_refl _) (Nat.le_refl _) dX6_child_168
    · replace hp := oF c30 hp
      refine lv_iconst (v := 1) hx hb dX6_child_163 (by decide) ?_
      refine lv_goto (tgt := 168) hx hb dX6_child_164 (by decide) ?_
      exact mr_iret C0 hr hlk hM rfl (Option.some.inj hp) (Nat.le_refl _) (Nat.le_refl _) dX6_child_168
  replace hp := oF hd7 hp
  by_cases hd8 : a2 = (8 : Int32)
  · replace hp := oT hd8 hp
    refine mr_tsIn (tgt := 169) C0 (8 : Int32) hd8 dX6_child_6 (by decide) (by decide) rfl (by decide) ?_
    refine lv_aload_n hx hb dX6_child_169 rfl (lv_at hl 0 rfl) ?_
    obtain ⟨v31, hv31, hp⟩ := ob hp
    refine mr_getR C0 cbX6 hM 3 (by decide) tw_294 hv31 dX6_child_170 ?_
    obtain ⟨v32, hv32, hp⟩ := ob hp
    refine mr_getL C0 cbX2 hM 10 (by decide) tw_159 hv32 dX6_child_173 ?_
    refine lv_iload_n hx hb dX6_child_176 rfl (lv_at hl 1 rfl) ?_
    obtain ⟨v33, hv33, hp⟩ := ob hp
    refine mr_S1 (As := [.long v32, .int a1]) (rest := []) C0 hM (w_X6_isIn hG hv33) tw_1657 tw_558 tw_15 tw_559 yk_X6_isIn (by decide) rfl hl.1 (Nat.le_of_ble_eq_true rfl) dX6_child_177 rfl (fun H locs hM => ?_)
    refine lv_if_eq (tgt := 187) hx hb dX6_child_180 (by decide) (fun c34 => ?_) (fun c34 => ?_)
    · replace hp := oT c34 hp
      refine lv_iconst (v := 0) hx hb dX6_child_187 (by decide) ?_
      exact mr_iret C0 hr hlk hM rfl (Option.some.inj hp) (Nat.le_refl _) (Nat.le_refl _) dX6_child_188
    · replace hp := oF c34 hp
      refine lv_iconst (v := 1) hx hb dX6_child_183 (by decide) ?_
      refine lv_goto (tgt := 188) hx hb dX6_child_184 (by decide) ?_
      exact mr_iret C0 hr hlk hM rfl (Option.some.inj hp) (Nat.le_refl _) (Nat.le_refl _) dX6_child_188
  replace hp := oF hd8 hp
  cases hp
abbrev rm_X6_placeOf : Room := { frames := 1, cells := 0, slots := 0, locals := 21 }
def p_X6_placeOf (a0 : Nat) (a1 : Int32) (M : Mem) : Option (Int32) :=
  (Option.bind (isC 5 M a0) fun _ =>
  (Option.bind (p_X6_needChild a0 a1 M) fun v2 =>
  (Option.bind (gR 5 3 M a0) fun v3 =>
  (Option.bind (gR 2 16 M v3) fun v4 =>
  (Option.bind (aI 0 M v4 a1) fun v5 =>
  some v5
  )
  )
  )
  )
  )
theorem yk_X6_placeOf : yok yX6_placeOf 1 := by decide +kernel
set_option maxHeartbeats 4000000 in
set_option maxRecDepth 100000 in
theorem w_X6_placeOf {G : gG} (hG : GOK G) {l : Launch} {a0 : Nat} {a1 : Int32} {M : Mem} {r : Int32} (hp : p_X6_placeOf a0 a1 M = some r) : CT G l yX6_placeOf (wT yX6_placeOf cX6_placeOf 2 (some FieldType.int)) rm_X6_placeOf [.ref a0, .int a1] M (some (.int r)) M 0 0 := by
  refine CT_of (own := RX6) (maxL := 2) (ret := (some FieldType.int)) hG (by decide) rfl (Nat.le_of_ble_eq_true rfl) (fun p e s m below meth c A C0 hr hlk hM ls hl => ?_)
  have hl : lv_has ls 2 [(0, .ref a0), (1, .int a1)] := hl
  generalize ([.ref a0, .int a1] : List Value).toArray = args at C0 ⊢
  skip
  have hx := C0.1
  have hb := C0.2.1
  have hown := C0.2.2.2.1
  have hts := C0.2.2.2.2.1
  unfold p_X6_placeOf at hp
  refine lv_aload_n hx hb dX6_placeOf_0 rfl (lv_at hl 0 rfl) ?_
  refine lv_iload_n hx hb dX6_placeOf_1 rfl (lv_at hl 1 rfl) ?_
  obtain ⟨_, h1, hp⟩ := ob hp
  obtain ⟨v2, hv2, hp⟩ := ob hp
  refine mr_V0 (As := [.int a1]) (rest := []) C0 cbX6 hM h1 rfl (w_X6_needChild hG hv2) tw_1629 tw_1631 tws_17 tw_15 tw_1632 yk_X6_needChild (by decide) rfl hl.1 (Nat.le_of_ble_eq_true rfl) dX6_placeOf_2 rfl (fun H locs hM => ?_)
  refine lv_aload_n hx hb dX6_placeOf_5 rfl (lv_at hl 0 rfl) ?_
  obtain ⟨v3, hv3, hp⟩ := ob hp
  refine mr_getR C0 cbX6 hM 3 (by decide) tw_294 hv3 dX6_placeOf_6 ?_
  obtain ⟨v4, hv4, hp⟩ := ob hp
  refine mr_getR C0 cbX2 hM 16 (by decide) tw_173 hv4 dX6_placeOf_9 ?_
  refine lv_iload_n hx hb dX6_placeOf_12 rfl (lv_at hl 1 rfl) ?_
  obtain ⟨v5, hv5, hp⟩ := ob hp
  refine mr_iald C0 hM hv5 dX6_placeOf_13 ?_
  exact mr_iret C0 hr hlk hM rfl (Option.some.inj hp) (Nat.le_refl _) (Nat.le_refl _) dX6_placeOf_14
abbrev rm_X6_gotPreference : Room := { frames := 2, cells := 0, slots := 0, locals := 43 }
def p_X6_gotPreference (a0 : Nat) (a1 : Int32) (M : Mem) : Option (Int32) :=
  (Option.bind (isC 5 M a0) fun _ =>
  (Option.bind (p_X6_needChild a0 a1 M) fun v2 =>
  (Option.bind (gR 5 3 M a0) fun v3 =>
  (Option.bind (isC 2 M v3) fun _ =>
  (Option.bind (p_X2_gotWish v3 a1 M) fun v5 =>
  some v5
  )
  )
  )
  )
  )
theorem yk_X6_gotPreference : yok yX6_gotPreference 1 := by decide +kernel
set_option maxHeartbeats 4000000 in
set_option maxRecDepth 100000 in
theorem w_X6_gotPreference {G : gG} (hG : GOK G) {l : Launch} {a0 : Nat} {a1 : Int32} {M : Mem} {r : Int32} (hp : p_X6_gotPreference a0 a1 M = some r) : CT G l yX6_gotPreference (wT yX6_gotPreference cX6_gotPreference 2 (some FieldType.int)) rm_X6_gotPreference [.ref a0, .int a1] M (some (.int r)) M 0 0 := by
  refine CT_of (own := RX6) (maxL := 2) (ret := (some FieldType.int)) hG (by decide) rfl (Nat.le_of_ble_eq_true rfl) (fun p e s m below meth c A C0 hr hlk hM ls hl => ?_)
  have hl : lv_has ls 2 [(0, .ref a0), (1, .int a1)] := hl
  generalize ([.ref a0, .int a1] : List Value).toArray = args at C0 ⊢
  skip
  have hx := C0.1
  have hb := C0.2.1
  have hown := C0.2.2.2.1
  have hts := C0.2.2.2.2.1
  unfold p_X6_gotPreference at hp
  refine lv_aload_n hx hb dX6_gotPreference_0 rfl (lv_at hl 0 rfl) ?_
  refine lv_iload_n hx hb dX6_gotPreference_1 rfl (lv_at hl 1 rfl) ?_
  obtain ⟨_, h1, hp⟩ := ob hp
  obtain ⟨v2, hv2, hp⟩ := ob hp
  refine mr_V0 (As := [.int a1]) (rest := []) C0 cbX6 hM h1 rfl (w_X6_needChild hG hv2) tw_1629 tw_1631 tws_17 tw_15 tw_1632 yk_X6_needChild (by decide) rfl hl.1 (Nat.le_of_ble_eq_true rfl) dX6_gotPreference_2 rfl (fun H locs hM => ?_)
  refine lv_aload_n hx hb dX6_gotPreference_5 rfl (lv_at hl 0 rfl) ?_
  obtain ⟨v3, hv3, hp⟩ := ob hp
  refine mr_getR C0 cbX6 hM 3 (by decide) tw_294 hv3 dX6_gotPreference_6 ?_
  refine lv_iload_n hx hb dX6_gotPreference_9 rfl (lv_at hl 1 rfl) ?_
  obtain ⟨_, h4, hp⟩ := ob hp
  obtain ⟨v5, hv5, hp⟩ := ob hp
  refine mr_V1 (As := [.int a1]) (rest := []) C0 cbX2 hM h4 rfl (w_X2_gotWish hG hv5) tw_1686 tw_1687 tw_1688 tw_17 tw_1689 yk_X2_gotWish (by decide) rfl hl.1 (Nat.le_of_ble_eq_true rfl) dX6_gotPreference_10 rfl (fun H locs hM => ?_)
  exact mr_iret C0 hr hlk hM rfl (Option.some.inj hp) (Nat.le_refl _) (Nat.le_refl _) dX6_gotPreference_13
abbrev rm_X6_holder : Room := { frames := 5, cells := 0, slots := 0, locals := 125 }
def p_X6_holder (a0 : Nat) (a1 : Int32) (a2 : Int32) (M : Mem) : Option (Int32) :=
  (Option.bind (isC 5 M a0) fun _ =>
  (Option.bind (p_X6_needSchool a0 a1 M) fun v2 =>
  (Option.bind (gR 5 3 M a0) fun v3 =>
  (Option.bind (gR 5 3 M a0) fun v4 =>
  (Option.bind (isC 2 M v4) fun _ =>
  (Option.bind (p_X2_holdersOf v4 a1 M) fun v6 =>
  (Option.bind (isC 2 M v3) fun _ =>
  (Option.bind (p_X2_orderedOf v3 v6 a1 a2 M) fun v8 =>
  (if v8 = (-1 : Int32) then
   none
  else
   some v8
  )
  )
  )
  )
  )
  )
  )
  )
  )
theorem yk_X6_holder : yok yX6_holder 2 := by decide +kernel
set_option maxHeartbeats 4000000 in
set_option maxRecDepth 100000 in
theorem w_X6_holder {G : gG} (hG : GOK G) {l : Launch} {a0 : Nat} {a1 : Int32} {a2 : Int32} {M : Mem} {r : Int32} (hp : p_X6_holder a0 a1 a2 M = some r) : CT G l yX6_holder (wT yX6_holder cX6_holder 4 (some FieldType.int)) rm_X6_holder [.ref a0, .int a1, .int a2] M (some (.int r)) M 0 0 := by
  refine CT_of (own := RX6) (maxL := 4) (ret := (some FieldType.int)) hG (by decide) rfl (Nat.le_of_ble_eq_true rfl) (fun p e s m below meth c A C0 hr hlk hM ls hl => ?_)
  have hl : lv_has ls 4 [(0, .ref a0), (1, .int a1), (2, .int a2)] := hl
  generalize ([.ref a0, .int a1, .int a2] : List Value).toArray = args at C0 ⊢
  skip
  have hx := C0.1
  have hb := C0.2.1
  have hown := C0.2.2.2.1
  have hts := C0.2.2.2.2.1
  unfold p_X6_holder at hp
  refine lv_aload_n hx hb dX6_holder_0 rfl (lv_at hl 0 rfl) ?_
  refine lv_iload_n hx hb dX6_holder_1 rfl (lv_at hl 1 rfl) ?_
  obtain ⟨_, h1, hp⟩ := ob hp
  obtain ⟨v2, hv2, hp⟩ := ob hp
  refine mr_V0 (As := [.int a1]) (rest := []) C0 cbX6 hM h1 rfl (w_X6_needSchool hG hv2) tw_1705 tw_1707 tws_20 tw_15 tw_1708 yk_X6_needSchool (by decide) rfl hl.1 (Nat.le_of_ble_eq_true rfl) dX6_holder_2 rfl (fun H locs hM => ?_)
  refine lv_aload_n hx hb dX6_holder_5 rfl (lv_at hl 0 rfl) ?_
  obtain ⟨v3, hv3, hp⟩ := ob hp
  refine mr_getR C0 cbX6 hM 3 (by decide) tw_294 hv3 dX6_holder_6 ?_
  refine lv_aload_n hx hb dX6_holder_9 rfl (lv_at hl 0 rfl) ?_
  obtain ⟨v4, hv4, hp⟩ := ob hp
  refine mr_getR C0 cbX6 hM 3 (by decide) tw_294 hv4 dX6_holder_10 ?_
  refine lv_iload_n hx hb dX6_holder_13 rfl (lv_at hl 1 rfl) ?_
  obtain ⟨_, h5, hp⟩ := ob hp
  obtain ⟨v6, hv6, hp⟩ := ob hp
  refine mr_V1 (As := [.int a1]) (rest := [.ref v3]) C0 cbX2 hM h5 rfl (w_X2_holdersOf hG hv6) tw_1747 tw_568 tw_569 tw_17 tw_570 yk_X2_holdersOf (by decide) rfl hl.1 (Nat.le_of_ble_eq_true rfl) dX6_holder_14 rfl (fun H locs hM => ?_)
  refine lv_iload_n hx hb dX6_holder_17 rfl (lv_at hl 1 rfl) ?_
  refine lv_iload_n hx hb dX6_holder_18 rfl (lv_at hl 2 rfl) ?_
  obtain ⟨_, h7, hp⟩ := ob hp
  obtain ⟨v8, hv8, hp⟩ := ob hp
  refine mr_V1 (As := [.long v6, .int a1, .int a2]) (rest := []) C0 cbX2 hM h7 rfl (w_X2_orderedOf hG hv8) tw_1759 tw_1760 tw_1761 tw_17 tw_1762 yk_X2_orderedOf (by decide) rfl hl.1 (Nat.le_of_ble_eq_true rfl) dX6_holder_19 rfl (fun H locs hM => ?_)
  refine lv_istore_n (lv' := [(3, .int v8), (0, .ref a0), (1, .int a1), (2, .int a2)]) hx hb dX6_holder_22 rfl hl (by decide) rfl (fun ls hl => ?_)
  refine lv_iload_n hx hb dX6_holder_23 rfl (lv_at hl 0 rfl) ?_
  refine lv_iconst (v := -1) hx hb dX6_holder_24 (by decide) ?_
  refine lv_icmp_ne (tgt := 38) hx hb dX6_holder_25 (by decide) (fun c9 => ?_) (fun c9 => ?_)
  · replace hp := oF c9 hp
    refine lv_iload_n hx hb dX6_holder_38 rfl (lv_at hl 0 rfl) ?_
    exact mr_iret C0 hr hlk hM rfl (Option.some.inj hp) (Nat.le_refl _) (Nat.le_refl _) dX6_holder_39
  · replace hp := oT c9 hp
    cases hp
abbrev rm_X6_waitingPlace : Room := { frames := 4, cells := 0, slots := 0, locals := 100 }
def p_X6_waitingPlace (a0 : Nat) (a1 : Int32) (a2 : Int32) (M : Mem) : Option (Int32) :=
  (Option.bind (isC 5 M a0) fun _ =>
  (Option.bind (p_X6_needChild a0 a1 M) fun v2 =>
  (Option.bind (isC 5 M a0) fun _ =>
  (Option.bind (p_X6_needSchool a0 a2 M) fun v4 =>
  (Option.bind (gR 5 3 M a0) fun v5 =>
  (Option.bind (isC 2 M v5) fun _ =>
  (Option.bind (p_X2_waits v5 a1 a2 M) fun v7 =>
  (if v7 = 0 then
   some (-1 : Int32)
  else
   (Option.bind (gR 5 3 M a0) fun v9 =>
   (Option.bind (gR 5 3 M a0) fun v10 =>
   (Option.bind (isC 2 M v10) fun _ =>
   (Option.bind (p_X2_waitersOf v10 a2 M) fun v12 =>
   (Option.bind (isC 2 M v9) fun _ =>
   (Option.bind (p_X2_aheadOf v9 a1 v12 a2 M) fun v14 =>
   some v14
   )
   )
   )
   )
   )
   )
  )
  )
  )
  )
  )
  )
  )
  )
theorem yk_X6_waitingPlace : yok yX6_waitingPlace 2 := by decide +kernel
set_option maxHeartbeats 4000000 in
set_option maxRecDepth 100000 in
theorem w_X6_waitingPlace {G : gG} (hG : GOK G) {l : Launch} {a0 : Nat} {a1 : Int32} {a2 : Int32} {M : Mem} {r : Int32} (hp : p_X6_waitingPlace a0 a1 a2 M = some r) : CT G l yX6_waitingPlace (wT yX6_waitingPlace cX6_waitingPlace 3 (some FieldType.int)) rm_X6_waitingPlace [.ref a0, .int a1, .int a2] M (some (.int r)) M 0 0 := by
  refine CT_of (own := RX6) (maxL := 3) (ret := (some FieldType.int)) hG (by decide) rfl (Nat.le_of_ble_eq_true rfl) (fun p e s m below meth c A C0 hr hlk hM ls hl => ?_)
  have hl : lv_has ls 3 [(0, .ref a0), (1, .int a1), (2, .int a2)] := hl
  generalize ([.ref a0, .int a1, .int a2] : List Value).toArray = args at C0 ⊢
  skip
  have hx := C0.1
  have hb := C0.2.1
  have hown := C0.2.2.2.1
  have hts := C0.2.2.2.2.1
  unfold p_X6_waitingPlace at hp
  refine lv_aload_n hx hb dX6_waitingPlace_0 rfl (lv_at hl 0 rfl) ?_
  refine lv_iload_n hx hb dX6_waitingPlace_1 rfl (lv_at hl 1 rfl) ?_
  obtain ⟨_, h1, hp⟩ := ob hp
  obtain ⟨v2, hv2, hp⟩ := ob hp
  refine mr_V0 (As := [.int a1]) (rest := []) C0 cbX6 hM h1 rfl (w_X6_needChild hG hv2) tw_1629 tw_1631 tws_17 tw_15 tw_1632 yk_X6_needChild (by decide) rfl hl.1 (Nat.le_of_ble_eq_true rfl) dX6_waitingPlace_2 rfl (fun H locs hM => ?_)
  refine lv_aload_n hx hb dX6_waitingPlace_5 rfl (lv_at hl 0 rfl) ?_
  refine lv_iload_n hx hb dX6_waitingPlace_6 rfl (lv_at hl 2 rfl) ?_
  obtain ⟨_, h3, hp⟩ := ob hp
  obtain ⟨v4, hv4, hp⟩ := ob hp
  refine mr_V0 (As := [.int a2]) (rest := []) C0 cbX6 hM h3 rfl (w_X6_needSchool hG hv4) tw_1705 tw_1707 tws_20 tw_15 tw_1708 yk_X6_needSchool (by decide) rfl hl.1 (Nat.le_of_ble_eq_true rfl) dX6_waitingPlace_7 rfl (fun H locs hM => ?_)
  refine lv_aload_n hx hb dX6_waitingPlace_10 rfl (lv_at hl 0 rfl) ?_
  obtain ⟨v5, hv5, hp⟩ := ob hp
  refine mr_getR C0 cbX6 hM 3 (by decide) tw_294 hv5 dX6_waitingPlace_11 ?_
  refine lv_iload_n hx hb dX6_waitingPlace_14 rfl (lv_at hl 1 rfl) ?_
  refine lv_iload_n hx hb dX6_waitingPlace_15 rfl (lv_at hl 2 rfl) ?_
  obtain ⟨_, h6, hp⟩ := ob hp
  obtain ⟨v7, hv7, hp⟩ := ob hp
  refine mr_V1 (As := [.int a1, .int a2]) (rest := []) C0 cbX2 hM h6 rfl (w_X2_waits hG hv7) tw_1729 tw_1715 tw_1716 tw_17 tw_1717 yk_X2_waits (by decide) rfl hl.1 (Nat.le_of_ble_eq_true rfl) dX6_waitingPlace_16 rfl (fun H locs hM => ?_)
  refine lv_if_ne (tgt := 24) hx hb dX6_waitingPlace_19 (by decide) (fun c8 => ?_) (fun c8 => ?_)
  · replace hp := oF c8 hp
    refine lv_aload_n hx hb dX6_waitingPlace_24 rfl (lv_at hl 0 rfl) ?_
    obtain ⟨v9, hv9, hp⟩ := ob hp
    refine mr_getR C0 cbX6 hM 3 (by decide) tw_294 hv9 dX6_waitingPlace_25 ?_
    refine lv_iload_n hx hb dX6_waitingPlace_28 rfl (lv_at hl 1 rfl) ?_
    refine lv_aload_n hx hb dX6_waitingPlace_29 rfl (lv_at hl 0 rfl) ?_
    obtain ⟨v10, hv10, hp⟩ := ob hp
    refine mr_getR C0 cbX6 hM 3 (by decide) tw_294 hv10 dX6_waitingPlace_30 ?_
    refine lv_iload_n hx hb dX6_waitingPlace_33 rfl (lv_at hl 2 rfl) ?_
    obtain ⟨_, h11, hp⟩ := ob hp
    obtain ⟨v12, hv12, hp⟩ := ob hp
    refine mr_V1 (As := [.int a2]) (rest := [.int a1, .ref v9]) C0 cbX2 hM h11 rfl (w_X2_waitersOf hG hv12) tw_1730 tw_1731 tw_1732 tw_17 tw_1733 yk_X2_waitersOf (by decide) rfl hl.1 (Nat.le_of_ble_eq_true rfl) dX6_waitingPlace_34 rfl (fun H locs hM => ?_)
    refine lv_iload_n hx hb dX6_waitingPlace_37 rfl (lv_at hl 2 rfl) ?_
    obtain ⟨_, h13, hp⟩ := ob hp
    obtain ⟨v14, hv14, hp⟩ := ob hp
    refine mr_V1 (As := [.int a1, .long v12, .int a2]) (rest := []) C0 cbX2 hM h13 rfl (w_X2_aheadOf hG hv14) tw_1734 tw_1735 tw_1736 tw_17 tw_1737 yk_X2_aheadOf (by decide) rfl hl.1 (Nat.le_of_ble_eq_true rfl) dX6_waitingPlace_38 rfl (fun H locs hM => ?_)
    exact mr_iret C0 hr hlk hM rfl (Option.some.inj hp) (Nat.le_refl _) (Nat.le_refl _) dX6_waitingPlace_41
  · replace hp := oT c8 hp
    refine lv_iconst (v := -1) hx hb dX6_waitingPlace_22 (by decide) ?_
    exact mr_iret C0 hr hlk hM rfl (Option.some.inj hp) (Nat.le_refl _) (Nat.le_refl _) dX6_waitingPlace_23
abbrev rm_X6_hasClaim : Room := { frames := 5, cells := 0, slots := 0, locals := 124 }
def p_X6_hasClaim (a0 : Nat) (a1 : Int32) (a2 : Int32) (M : Mem) : Option (Int32) :=
  (Option.bind (isC 5 M a0) fun _ =>
  (Option.bind (p_X6_needChild a0 a1 M) fun v2 =>
  (Option.bind (isC 5 M a0) fun _ =>
  (Option.bind (p_X6_needSchool a0 a2 M) fun v4 =>
  (Option.bind (gR 5 3 M a0) fun v5 =>
  (Option.bind (isC 2 M v5) fun _ =>
  (Option.bind (p_X2_claimStands v5 a1 a2 M) fun v7 =>
  (if v7 = 0 ∨ v7 = 1 then some v7 else none)
  )
  )
  )
  )
  )
  )
  )
theorem yk_X6_hasClaim : yok yX6_hasClaim 2 := by decide +kernel
set_option maxHeartbeats 4000000 in
set_option maxRecDepth 100000 in
theorem w_X6_hasClaim {G : gG} (hG : GOK G) {l : Launch} {a0 : Nat} {a1 : Int32} {a2 : Int32} {M : Mem} {r : Int32} (hp : p_X6_hasClaim a0 a1 a2 M = some r) : CT G l yX6_hasClaim (wT yX6_hasClaim cX6_hasClaim 3 (some FieldType.boolean)) rm_X6_hasClaim [.ref a0, .int a1, .int a2] M (some (.int r)) M 0 0 := by
  refine CT_of (own := RX6) (maxL := 3) (ret := (some FieldType.boolean)) hG (by decide) rfl (Nat.le_of_ble_eq_true rfl) (fun p e s m below meth c A C0 hr hlk hM ls hl => ?_)
  have hl : lv_has ls 3 [(0, .ref a0), (1, .int a1), (2, .int a2)] := hl
  generalize ([.ref a0, .int a1, .int a2] : List Value).toArray = args at C0 ⊢
  skip
  have hx := C0.1
  have hb := C0.2.1
  have hown := C0.2.2.2.1
  have hts := C0.2.2.2.2.1
  unfold p_X6_hasClaim at hp
  refine lv_aload_n hx hb dX6_hasClaim_0 rfl (lv_at hl 0 rfl) ?_
  refine lv_iload_n hx hb dX6_hasClaim_1 rfl (lv_at hl 1 rfl) ?_
  obtain ⟨_, h1, hp⟩ := ob hp
  obtain ⟨v2, hv2, hp⟩ := ob hp
  refine mr_V0 (As := [.int a1]) (rest := []) C0 cbX6 hM h1 rfl (w_X6_needChild hG hv2) tw_1629 tw_1631 tws_17 tw_15 tw_1632 yk_X6_needChild (by decide) rfl hl.1 (Nat.le_of_ble_eq_true rfl) dX6_hasClaim_2 rfl (fun H locs hM => ?_)
  refine lv_aload_n hx hb dX6_hasClaim_5 rfl (lv_at hl 0 rfl) ?_
  refine lv_iload_n hx hb dX6_hasClaim_6 rfl (lv_at hl 2 rfl) ?_
  obtain ⟨_, h3, hp⟩ := ob hp
  obtain ⟨v4, hv4, hp⟩ := ob hp
  refine mr_V0 (As := [.int a2]) (rest := []) C0 cbX6 hM h3 rfl (w_X6_needSchool hG hv4) tw_1705 tw_1707 tws_20 tw_15 tw_1708 yk_X6_needSchool (by decide) rfl hl.1 (Nat.le_of_ble_eq_true rfl) dX6_hasClaim_7 rfl (fun H locs hM => ?_)
  refine lv_aload_n hx hb dX6_hasClaim_10 rfl (lv_at hl 0 rfl) ?_
  obtain ⟨v5, hv5, hp⟩ := ob hp
  refine mr_getR C0 cbX6 hM 3 (by decide) tw_294 hv5 dX6_hasClaim_11 ?_
  refine lv_iload_n hx hb dX6_hasClaim_14 rfl (lv_at hl 1 rfl) ?_
  refine lv_iload_n hx hb dX6_hasClaim_15 rfl (lv_at hl 2 rfl) ?_
  obtain ⟨_, h6, hp⟩ := ob hp
  obtain ⟨v7, hv7, hp⟩ := ob hp
  refine mr_V1 (As := [.int a1, .int a2]) (rest := []) C0 cbX2 hM h6 rfl (w_X2_claimStands hG hv7) tw_1710 tw_1711 tw_1712 tw_17 tw_1713 yk_X2_claimStands (by decide) rfl hl.1 (Nat.le_of_ble_eq_true rfl) dX6_hasClaim_16 rfl (fun H locs hM => ?_)
  obtain ⟨hz, hp⟩ := oG hp
  exact mr_zret C0 hr hlk hM rfl hz (Option.some.inj hp) (Nat.le_refl _) (Nat.le_refl _) dX6_hasClaim_19
abbrev rm_X6_claims : Room := { frames := 5, cells := 0, slots := 0, locals := 124 }
def pl_X6_claims_20 (k1 : Int32 → Option (Int32)) (f0 : Nat) (f2 : Int32) (M : Mem) : Nat → Int32 → Int32 → Option (Int32)
  | 0, _, _ => none
  | n + 1, y1, y3 =>
    (Option.bind (gR 5 3 M f0) fun v5 =>
    (Option.bind (gI 2 1 M v5) fun v6 =>
    (if v6 ≤ y3 then
     (k1 y1)
    else
     (Option.bind (gR 5 3 M f0) fun v8 =>
     (Option.bind (isC 2 M v8) fun _ =>
     (Option.bind (p_X2_claimStands v8 y3 f2 M) fun v10 =>
     (if v10 = 0 then
      (pl_X6_claims_20 k1 f0 f2 M n y1 (y3 + (1 : Int32)))
     else
      (pl_X6_claims_20 k1 f0 f2 M n (y1 + (1 : Int32)) (y3 + (1 : Int32)))
     )
     )
     )
     )
    )
    )
    )
set_option maxHeartbeats 4000000 in
set_option maxRecDepth 100000 in
theorem wl_X6_claims_20 {G : gG} {p : Program} {l : Launch} {e : Env} {s : State} {m : MethodId} {args : Array Value} {below : List Frame} {meth : Method} {c : Code} {A : Nat → Prop} {r : Int32} {k1 : Int32 → Option (Int32)} {f0 : Nat} {f2 : Int32} {M : Mem} (C0 : cx G p s m args c cX6_claims RX6 4 A) (hr : meth.sig.returnType = (some FieldType.int)) (hlk : meth.locks = false) (hG : GOK G) (hk1 : ∀ (z1 : Int32) (H : Heap) (locs : List Loc) (ls : Array Slot), mm G A s M H locs → lv_has ls 4 [(0, .ref f0), (1, .int z1), (2, .int f2)] → k1 z1 = some r → W p l e rm_X6_claims s m args below meth c H locs 0 0 (MQ below (CQ G M (some (.int r)) A) args s 0 0 A) (F0 m 52 ls [])) : ∀ (n : Nat) (y1 : Int32) (y3 : Int32) (H : Heap) (locs : List Loc) (ls : Array Slot), mm G A s M H locs → lv_has ls 4 [(0, .ref f0), (1, .int y1), (2, .int f2), (3, .int y3)] → pl_X6_claims_20 k1 f0 f2 M n y1 y3 = some r → W p l e rm_X6_claims s m args below meth c H locs 0 0 (MQ below (CQ G M (some (.int r)) A) args s 0 0 A) (F0 m 20 ls []) := by
  have hx := C0.1
  have hb := C0.2.1
  have hown := C0.2.2.2.1
  have hts := C0.2.2.2.2.1
  intro n
  induction n with
  | zero => intro y1 y3 H locs ls hM hl hp; rw [pl_X6_claims_20] at hp; cases hp
  | succ n ih =>
    intro y1 y3 H locs ls hM hl hp
    rw [pl_X6_claims_20] at hp
    refine lv_iload_n hx hb dX6_claims_20 rfl (lv_at hl 3 rfl) ?_
    refine lv_aload_n hx hb dX6_claims_21 rfl (lv_at hl 0 rfl) ?_
    obtain ⟨v5, hv5, hp⟩ := ob hp
    refine mr_getR C0 cbX6 hM 3 (by decide) tw_294 hv5 dX6_claims_22 ?_
    obtain ⟨v6, hv6, hp⟩ := ob hp
    refine mr_getI C0 cbX2 hM 1 (by decide) tw_137 hv6 dX6_claims_25 ?_
    refine lv_icmp_ge (tgt := 52) hx hb dX6_claims_28 (by decide) (fun c7 => ?_) (fun c7 => ?_)
    · replace hp := oT c7 hp
      exact hk1 _ _ _ _ hM (lv_sub hl [0, 1, 2] rfl) hp
    · replace hp := oF c7 hp
      refine lv_aload_n hx hb dX6_claims_31 rfl (lv_at hl 0 rfl) ?_
      obtain ⟨v8, hv8, hp⟩ := ob hp
      refine mr_getR C0 cbX6 hM 3 (by decide) tw_294 hv8 dX6_claims_32 ?_
      refine lv_iload_n hx hb dX6_claims_35 rfl (lv_at hl 3 rfl) ?_
      refine lv_iload_n hx hb dX6_claims_36 rfl (lv_at hl 2 rfl) ?_
      obtain ⟨_, h9, hp⟩ := ob hp
      obtain ⟨v10, hv10, hp⟩ := ob hp
      refine mr_V1 (As := [.int y3, .int f2]) (rest := []) C0 cbX2 hM h9 rfl (w_X2_claimStands hG hv10) tw_1710 tw_1711 tw_1712 tw_17 tw_1713 yk_X2_claimStands (by decide) rfl hl.1 (Nat.le_of_ble_eq_true rfl) dX6_claims_37 rfl (fun H locs hM => ?_)
      refine lv_if_eq (tgt := 46) hx hb dX6_claims_40 (by decide) (fun c11 => ?_) (fun c11 => ?_)
      · replace hp := oT c11 hp
        refine lv_iinc (v := (y3 + (1 : Int32))) (lv' := [(3, .int (y3 + (1 : Int32))), (0, .ref f0), (1, .int y1), (2, .int f2)]) hx hb dX6_claims_46 hl (k := 3) rfl rfl (by decide) rfl (fun ls hl => ?_)
        refine lv_goto (tgt := 20) hx hb dX6_claims_49 (by decide) ?_
        exact ih _ _ _ _ _ hM (lv_sub hl [1, 2, 3, 0] rfl) hp
      · replace hp := oF c11 hp
        refine lv_iinc (v := (y1 + (1 : Int32))) (lv' := [(1, .int (y1 + (1 : Int32))), (0, .ref f0), (2, .int f2), (3, .int y3)]) hx hb dX6_claims_43 hl (k := 1) rfl rfl (by decide) rfl (fun ls hl => ?_)
        refine lv_iinc (v := (y3 + (1 : Int32))) (lv' := [(3, .int (y3 + (1 : Int32))), (1, .int (y1 + (1 : Int32))), (0, .ref f0), (2, .int f2)]) hx hb dX6_claims_46 hl (k := 3) rfl rfl (by decide) rfl (fun ls hl => ?_)
        refine lv_goto (tgt := 20) hx hb dX6_claims_49 (by decide) ?_
        exact ih _ _ _ _ _ hM (lv_sub hl [2, 1, 3, 0] rfl) hp
def pl_X6_claims_4 (k1 : Int32 → Option (Int32)) (f0 : Nat) (M : Mem) : Nat → Int32 → Int32 → Option (Int32)
  | 0, _, _ => none
  | n + 1, y1, y2 =>
    (Option.bind (gR 5 3 M f0) fun v1 =>
    (Option.bind (gR 2 0 M v1) fun v2 =>
    (Option.bind (gI 4 0 M v2) fun v3 =>
    (if v3 ≤ y2 then
     (k1 y1)
    else
     (pl_X6_claims_20
      (fun (z12 : Int32) =>
       (pl_X6_claims_4 k1 f0 M n z12 (y2 + (1 : Int32)))
      )
      f0 y2 M FU y1 (0 : Int32))
    )
    )
    )
    )
set_option maxHeartbeats 4000000 in
set_option maxRecDepth 100000 in
theorem wl_X6_claims_4 {G : gG} {p : Program} {l : Launch} {e : Env} {s : State} {m : MethodId} {args : Array Value} {below : List Frame} {meth : Method} {c : Code} {A : Nat → Prop} {r : Int32} {k1 : Int32 → Option (Int32)} {f0 : Nat} {M : Mem} (C0 : cx G p s m args c cX6_claims RX6 4 A) (hr : meth.sig.returnType = (some FieldType.int)) (hlk : meth.locks = false) (hG : GOK G) (hk1 : ∀ (z1 : Int32) (H : Heap) (locs : List Loc) (ls : Array Slot), mm G A s M H locs → lv_has ls 4 [(1, .int z1)] → k1 z1 = some r → W p l e rm_X6_claims s m args below meth c H locs 0 0 (MQ below (CQ G M (some (.int r)) A) args s 0 0 A) (F0 m 58 ls [])) : ∀ (n : Nat) (y1 : Int32) (y2 : Int32) (H : Heap) (locs : List Loc) (ls : Array Slot), mm G A s M H locs → lv_has ls 4 [(0, .ref f0), (1, .int y1), (2, .int y2)] → pl_X6_claims_4 k1 f0 M n y1 y2 = some r → W p l e rm_X6_claims s m args below meth c H locs 0 0 (MQ below (CQ G M (some (.int r)) A) args s 0 0 A) (F0 m 4 ls []) := by
  have hx := C0.1
  have hb := C0.2.1
  have hown := C0.2.2.2.1
  have hts := C0.2.2.2.2.1
  intro n
  induction n with
  | zero => intro y1 y2 H locs ls hM hl hp; rw [pl_X6_claims_4] at hp; cases hp
  | succ n ih =>
    intro y1 y2 H locs ls hM hl hp
    rw [pl_X6_claims_4] at hp
    refine lv_iload_n hx hb dX6_claims_4 rfl (lv_at hl 2 rfl) ?_
    refine lv_aload_n hx hb dX6_claims_5 rfl (lv_at hl 0 rfl) ?_
    obtain ⟨v1, hv1, hp⟩ := ob hp
    refine mr_getR C0 cbX6 hM 3 (by decide) tw_294 hv1 dX6_claims_6 ?_
    obtain ⟨v2, hv2, hp⟩ := ob hp
    refine mr_getR C0 cbX2 hM 0 (by decide) tw_131 hv2 dX6_claims_9 ?_
    obtain ⟨v3, hv3, hp⟩ := ob hp
    refine mr_getI C0 cbX4 hM 0 (by decide) tw_67 hv3 dX6_claims_12 ?_
    refine lv_icmp_ge (tgt := 58) hx hb dX6_claims_15 (by decide) (fun c4 => ?_) (fun c4 => ?_)
    · replace hp := oT c4 hp
      exact hk1 _ _ _ _ hM (lv_sub hl [1] rfl) hp
    · replace hp := oF c4 hp
      refine lv_iconst (v := 0) hx hb dX6_claims_18 (by decide) ?_
      refine lv_istore_n (lv' := [(3, .int (0 : Int32)), (0, .ref f0), (1, .int y1), (2, .int y2)]) hx hb dX6_claims_19 rfl hl (by decide) rfl (fun ls hl => ?_)
      refine wl_X6_claims_20 C0 hr hlk hG (fun z12 H locs ls hM hl hp => ?_) FU _ _ _ _ _ hM (lv_sub hl [1, 2, 3, 0] rfl) hp
      refine lv_iinc (v := (y2 + (1 : Int32))) (lv' := [(2, .int (y2 + (1 : Int32))), (0, .ref f0), (1, .int z12)]) hx hb dX6_claims_52 hl (k := 2) rfl rfl (by decide) rfl (fun ls hl => ?_)
      refine lv_goto (tgt := 4) hx hb dX6_claims_55 (by decide) ?_
      exact ih _ _ _ _ _ hM (lv_sub hl [1, 2, 0] rfl) hp
def p_X6_claims (a0 : Nat) (M : Mem) : Option (Int32) :=
  (pl_X6_claims_4
   (fun (z13 : Int32) =>
    some z13
   )
   a0 M FU (0 : Int32) (0 : Int32))
theorem yk_X6_claims : yok yX6_claims 0 := by decide +kernel
set_option maxHeartbeats 4000000 in
set_option maxRecDepth 100000 in
theorem w_X6_claims {G : gG} (hG : GOK G) {l : Launch} {a0 : Nat} {M : Mem} {r : Int32} (hp : p_X6_claims a0 M = some r) : CT G l yX6_claims (wT yX6_claims cX6_claims 4 (some FieldType.int)) rm_X6_claims [.ref a0] M (some (.int r)) M 0 0 := by
  refine CT_of (own := RX6) (maxL := 4) (ret := (some FieldType.int)) hG (by decide) rfl (Nat.le_of_ble_eq_true rfl) (fun p e s m below meth c A C0 hr hlk hM ls hl => ?_)
  have hl : lv_has ls 4 [(0, .ref a0)] := hl
  generalize ([.ref a0] : List Value).toArray = args at C0 ⊢
  skip
  have hx := C0.1
  have hb := C0.2.1
  have hown := C0.2.2.2.1
  have hts := C0.2.2.2.2.1
  unfold p_X6_claims at hp
  refine lv_iconst (v := 0) hx hb dX6_claims_0 (by decide) ?_
  refine lv_istore_n (lv' := [(1, .int (0 : Int32)), (0, .ref a0)]) hx hb dX6_claims_1 rfl hl (by decide) rfl (fun ls hl => ?_)
  refine lv_iconst (v := 0) hx hb dX6_claims_2 (by decide) ?_
  refine lv_istore_n (lv' := [(2, .int (0 : Int32)), (1, .int (0 : Int32)), (0, .ref a0)]) hx hb dX6_claims_3 rfl hl (by decide) rfl (fun ls hl => ?_)
  refine wl_X6_claims_4 C0 hr hlk hG (fun z13 H locs ls hM hl hp => ?_) FU _ _ _ _ _ hM (lv_sub hl [2, 1, 0] rfl) hp
  refine lv_iload_n hx hb dX6_claims_58 rfl (lv_at hl 0 rfl) ?_
  exact mr_iret C0 hr hlk hM rfl (Option.some.inj hp) (Nat.le_refl _) (Nat.le_refl _) dX6_claims_59
abbrev rm_X6_remember : Room := { frames := 2, cells := 0, slots := 0, locals := 61 }
def p_X6_remember (a0 : Nat) (M : Mem) : Option (Mem) :=
  (Option.bind (gR 5 8 M a0) fun v1 =>
  (Option.bind (gI 5 9 M a0) fun v2 =>
  (Option.bind (aR M v1 v2) fun v3 =>
  (Option.bind (gR 5 3 M a0) fun v4 =>
  (Option.bind (isC 2 M v3) fun _ =>
  (Option.bind (p_X2_copyFrom v3 v4 M) fun M6 =>
  (Option.bind (gI 5 9 M6 a0) fun v7 =>
  (jn (fun (s8 : Int32) =>
   (Option.bind (sV 5 9 M6 a0 (.int s8)) fun M10 =>
   (Option.bind (gI 5 10 M10 a0) fun v11 =>
   (Option.bind (sV 5 10 M10 a0 (.int (if (v11 + (1 : Int32)) < (10 : Int32) then (v11 + (1 : Int32)) else (10 : Int32)))) fun M12 =>
   some M12
   )
   )
   )
  ) fun k9 =>
  (if v7 = (9 : Int32) then
   (k9 (0 : Int32))
  else
   (Option.bind (gI 5 9 M6 a0) fun v14 =>
   (k9 (v14 + (1 : Int32)))
   )
  )
  )
  )
  )
  )
  )
  )
  )
  )
theorem yk_X6_remember : yok yX6_remember 0 := by decide +kernel
set_option maxHeartbeats 4000000 in
set_option maxRecDepth 100000 in
theorem w_X6_remember {G : gG} (hG : GOK G) {l : Launch} {a0 : Nat} {M : Mem} {M' : Mem} (hp : p_X6_remember a0 M = some M') : CT G l yX6_remember (wT yX6_remember cX6_remember 1 (none)) rm_X6_remember [.ref a0] M none M' 0 0 := by
  refine CT_of (own := RX6) (maxL := 1) (ret := (none)) hG (by decide) rfl (Nat.le_of_ble_eq_true rfl) (fun p e s m below meth c A C0 hr hlk hM ls hl => ?_)
  have hl : lv_has ls 1 [(0, .ref a0)] := hl
  generalize ([.ref a0] : List Value).toArray = args at C0 ⊢
  skip
  have hx := C0.1
  have hb := C0.2.1
  have hown := C0.2.2.2.1
  have hts := C0.2.2.2.2.1
  unfold p_X6_remember at hp
  refine lv_aload_n hx hb dX6_remember_0 rfl (lv_at hl 0 rfl) ?_
  obtain ⟨v1, hv1, hp⟩ := ob hp
  refine mr_getR C0 cbX6 hM 8 (by decide) tw_299 hv1 dX6_remember_1 ?_
  refine lv_aload_n hx hb dX6_remember_4 rfl (lv_at hl 0 rfl) ?_
  obtain ⟨v2, hv2, hp⟩ := ob hp
  refine mr_getI C0 cbX6 hM 9 (by decide) tw_300 hv2 dX6_remember_5 ?_
  obtain ⟨v3, hv3, hp⟩ := ob hp
  refine mr_aald C0 hM hv3 dX6_remember_8 ?_
  refine lv_aload_n hx hb dX6_remember_9 rfl (lv_at hl 0 rfl) ?_
  obtain ⟨v4, hv4, hp⟩ := ob hp
  refine mr_getR C0 cbX6 hM 3 (by decide) tw_294 hv4 dX6_remember_10 ?_
  obtain ⟨_, h5, hp⟩ := ob hp
  obtain ⟨M6, hM6, hp⟩ := ob hp
  refine mr_V0 (As := [.ref v4]) (rest := []) C0 cbX2 hM h5 rfl (w_X2_copyFrom hG hM6) tw_534 tw_535 tw_536 tw_17 tw_537 yk_X2_copyFrom (by decide) rfl hl.1 (Nat.le_of_ble_eq_true rfl) dX6_remember_13 rfl (fun H locs hM => ?_)
  refine lv_aload_n hx hb dX6_remember_16 rfl (lv_at hl 0 rfl) ?_
  refine lv_aload_n hx hb dX6_remember_17 rfl (lv_at hl 0 rfl) ?_
  obtain ⟨v7, hv7, hp⟩ := ob hp
  refine mr_getI C0 cbX6 hM 9 (by decide) tw_300 hv7 dX6_remember_18 ?_
  refine lv_bipush (v := 9) hx hb dX6_remember_21 (by decide) ?_
  obtain ⟨k9, ek9, hp⟩ := ojn hp
  have hk9 : ∀ (s8 : Int32) (H : Heap) (locs : List Loc) (ls : Array Slot), mm G A s M6 H locs → lv_has ls 1 [(0, .ref a0)] → k9 s8 = some M' → W p l e rm_X6_remember s m args below meth c H locs 0 0 (MQ below (CQ G M' none A) args s 0 0 A) (F0 m 36 ls [.int s8, .ref a0]) := by
    intro s8 H locs ls hM hl hp
    rw [ek9] at hp
    obtain ⟨M10, hM10, hp⟩ := ob hp
    refine mr_putI C0 cbX6 hM 9 (by decide) rfl rfl tw_300 hM10 dX6_remember_36 (fun H locs hM => ?_)
    refine lv_aload_n hx hb dX6_remember_39 rfl (lv_at hl 0 rfl) ?_
    refine lv_bipush (v := 10) hx hb dX6_remember_40 (by decide) ?_
    refine lv_aload_n hx hb dX6_remember_42 rfl (lv_at hl 0 rfl) ?_
    obtain ⟨v11, hv11, hp⟩ := ob hp
    refine mr_getI C0 cbX6 hM 10 (by decide) tw_301 hv11 dX6_remember_43 ?_
    refine lv_iconst (v := 1) hx hb dX6_remember_46 (by decide) ?_
    refine lv_iadd hx hb dX6_remember_47 ?_
    refine mr_min C0 tw_541 tw_542 tw_11 tw_543 ⟨by decide, Nat.le_of_ble_eq_true rfl⟩ hl.1 dX6_remember_48 ?_
    obtain ⟨M12, hM12, hp⟩ := ob hp
    refine mr_putI C0 cbX6 hM 10 (by decide) rfl rfl tw_301 hM12 dX6_remember_51 (fun H locs hM => ?_)
    exact mr_vret C0 hr hlk hM (Option.some.inj hp) (Nat.le_refl _) (Nat.le_refl _) dX6_remember_54
  refine lv_icmp_ne (tgt := 30) hx hb dX6_remember_23 (by decide) (fun c13 => ?_) (fun c13 => ?_)
  · replace hp := oF c13 hp
    refine lv_aload_n hx hb dX6_remember_30 rfl (lv_at hl 0 rfl) ?_
    obtain ⟨v14, hv14, hp⟩ := ob hp
    refine mr_getI C0 cbX6 hM 9 (by decide) tw_300 hv14 dX6_remember_31 ?_
    refine lv_iconst (v := 1) hx hb dX6_remember_34 (by decide) ?_
    refine lv_iadd hx hb dX6_remember_35 ?_
    exact hk9 _ _ _ _ hM (lv_sub hl [0] rfl) hp
  · replace hp := oT c13 hp
    refine lv_iconst (v := 0) hx hb dX6_remember_26 (by decide) ?_
    refine lv_goto (tgt := 36) hx hb dX6_remember_27 (by decide) ?_
    exact hk9 _ _ _ _ hM (lv_sub hl [0] rfl) hp
abbrev rm_X6_allocate : Room := { frames := 6, cells := 0, slots := 0, locals := 150 }
def p_X6_allocate (a0 : Nat) (M : Mem) : Option (Int32 × Mem) :=
  (Option.bind (isC 5 M a0) fun _ =>
  (Option.bind (p_X6_remember a0 M) fun M2 =>
  (Option.bind (gR 5 1 M2 a0) fun v3 =>
  (Option.bind (gR 5 3 M2 a0) fun v4 =>
  (Option.bind (isC 0 M2 v3) fun _ =>
  (Option.bind (p_X0_run v3 v4 M2) fun M6 =>
  (Option.bind (gR 5 3 M6 a0) fun v7 =>
  (Option.bind (gI 2 5 M6 v7) fun v8 =>
  some (v8, M6)
  )
  )
  )
  )
  )
  )
  )
  )
theorem yk_X6_allocate : yok yX6_allocate 0 := by decide +kernel
set_option maxHeartbeats 4000000 in
set_option maxRecDepth 100000 in
theorem w_X6_allocate {G : gG} (hG : GOK G) {l : Launch} {a0 : Nat} {M : Mem} {r : Int32} {M' : Mem} (hp : p_X6_allocate a0 M = some (r, M')) : CT G l yX6_allocate (wT yX6_allocate cX6_allocate 1 (some FieldType.int)) rm_X6_allocate [.ref a0] M (some (.int r)) M' 0 0 := by
  refine CT_of (own := RX6) (maxL := 1) (ret := (some FieldType.int)) hG (by decide) rfl (Nat.le_of_ble_eq_true rfl) (fun p e s m below meth c A C0 hr hlk hM ls hl => ?_)
  have hl : lv_has ls 1 [(0, .ref a0)] := hl
  generalize ([.ref a0] : List Value).toArray = args at C0 ⊢
  skip
  have hx := C0.1
  have hb := C0.2.1
  have hown := C0.2.2.2.1
  have hts := C0.2.2.2.2.1
  unfold p_X6_allocate at hp
  refine lv_aload_n hx hb dX6_allocate_0 rfl (lv_at hl 0 rfl) ?_
  obtain ⟨_, h1, hp⟩ := ob hp
  obtain ⟨M2, hM2, hp⟩ := ob hp
  refine mr_V0 (As := []) (rest := []) C0 cbX6 hM h1 rfl (w_X6_remember hG hM2) tw_530 tw_532 tws_0 tw_15 tw_533 yk_X6_remember (by decide) rfl hl.1 (Nat.le_of_ble_eq_true rfl) dX6_allocate_1 rfl (fun H locs hM => ?_)
  refine lv_aload_n hx hb dX6_allocate_4 rfl (lv_at hl 0 rfl) ?_
  obtain ⟨v3, hv3, hp⟩ := ob hp
  refine mr_getR C0 cbX6 hM 1 (by decide) tw_292 hv3 dX6_allocate_5 ?_
  refine lv_aload_n hx hb dX6_allocate_8 rfl (lv_at hl 0 rfl) ?_
  obtain ⟨v4, hv4, hp⟩ := ob hp
  refine mr_getR C0 cbX6 hM 3 (by decide) tw_294 hv4 dX6_allocate_9 ?_
  obtain ⟨_, h5, hp⟩ := ob hp
  obtain ⟨M6, hM6, hp⟩ := ob hp
  refine mr_V0 (As := [.ref v4]) (rest := []) C0 cbX0 hM h5 rfl (w_X0_run hG hM6) tw_544 tw_545 tw_546 tw_19 tw_547 yk_X0_run (by decide) rfl hl.1 (Nat.le_of_ble_eq_true rfl) dX6_allocate_12 rfl (fun H locs hM => ?_)
  refine lv_aload_n hx hb dX6_allocate_15 rfl (lv_at hl 0 rfl) ?_
  obtain ⟨v7, hv7, hp⟩ := ob hp
  refine mr_getR C0 cbX6 hM 3 (by decide) tw_294 hv7 dX6_allocate_16 ?_
  obtain ⟨v8, hv8, hp⟩ := ob hp
  refine mr_getI C0 cbX2 hM 5 (by decide) tw_148 hv8 dX6_allocate_19 ?_
  exact mr_iret C0 hr hlk hM (Prod.mk.inj (Option.some.inj hp)).2 (Prod.mk.inj (Option.some.inj hp)).1 (Nat.le_refl _) (Nat.le_refl _) dX6_allocate_22
abbrev rm_X6_needHome : Room := { frames := 0, cells := 0, slots := 0, locals := 0 }
def p_X6_needHome (a0 : Int32) (a1 : Int32) (M : Mem) : Option (Unit) :=
  (if a0 < 0 then
   none
  else
   (if (99 : Int32) < a0 then
    none
   else
    (if a1 < 0 then
     none
    else
     (if a1 ≤ (99 : Int32) then
      some ()
     else
      none
     )
    )
   )
  )
theorem yk_X6_needHome : yok yX6_needHome 2 := by decide +kernel
set_option maxHeartbeats 4000000 in
set_option maxRecDepth 100000 in
theorem w_X6_needHome {G : gG} (hG : GOK G) {l : Launch} {a0 : Int32} {a1 : Int32} {M : Mem} (hp : p_X6_needHome a0 a1 M = some ()) : CT G l yX6_needHome (wT yX6_needHome cX6_needHome 2 (none)) rm_X6_needHome [.int a0, .int a1] M none M 0 0 := by
  refine CT_of (own := RX6) (maxL := 2) (ret := (none)) hG (by decide) rfl (Nat.le_of_ble_eq_true rfl) (fun p e s m below meth c A C0 hr hlk hM ls hl => ?_)
  have hl : lv_has ls 2 [(0, .int a0), (1, .int a1)] := hl
  generalize ([.int a0, .int a1] : List Value).toArray = args at C0 ⊢
  skip
  have hx := C0.1
  have hb := C0.2.1
  have hown := C0.2.2.2.1
  have hts := C0.2.2.2.2.1
  unfold p_X6_needHome at hp
  refine lv_iload_n hx hb dX6_needHome_0 rfl (lv_at hl 0 rfl) ?_
  refine lv_if_lt (tgt := 20) hx hb dX6_needHome_1 (by decide) (fun c1 => ?_) (fun c1 => ?_)
  · replace hp := oT c1 hp
    cases hp
  · replace hp := oF c1 hp
    refine lv_iload_n hx hb dX6_needHome_4 rfl (lv_at hl 0 rfl) ?_
    refine lv_bipush (v := 99) hx hb dX6_needHome_5 (by decide) ?_
    refine lv_icmp_gt (tgt := 20) hx hb dX6_needHome_7 (by decide) (fun c2 => ?_) (fun c2 => ?_)
    · replace hp := oT c2 hp
      cases hp
    · replace hp := oF c2 hp
      refine lv_iload_n hx hb dX6_needHome_10 rfl (lv_at hl 1 rfl) ?_
      refine lv_if_lt (tgt := 20) hx hb dX6_needHome_11 (by decide) (fun c3 => ?_) (fun c3 => ?_)
      · replace hp := oT c3 hp
        cases hp
      · replace hp := oF c3 hp
        refine lv_iload_n hx hb dX6_needHome_14 rfl (lv_at hl 1 rfl) ?_
        refine lv_bipush (v := 99) hx hb dX6_needHome_15 (by decide) ?_
        refine lv_icmp_le (tgt := 31) hx hb dX6_needHome_17 (by decide) (fun c4 => ?_) (fun c4 => ?_)
        · replace hp := oT c4 hp
          exact mr_vret C0 hr hlk hM rfl (Nat.le_refl _) (Nat.le_refl _) dX6_needHome_31
        · replace hp := oF c4 hp
          cases hp
abbrev rm_X6_wishRow : Room := { frames := 1, cells := 0, slots := 0, locals := 22 }
def pl_X6_wishRow_18 (k1 : Unit → Option (Int32)) (k2 : Int32 → Option (Int32)) (f0 : Nat) (M : Mem) : Nat → Int32 → Int32 → Option (Int32)
  | 0, _, _ => none
  | n + 1, y2, y3 =>
    (if y3 ≤ 0 then
     (k2 y2)
    else
     (if ((y3 - y3 / (10 : Int32) * (10 : Int32)) - (1 : Int32)) < 0 then
      (k1 ())
     else
      (Option.bind (gR 5 3 M f0) fun v6 =>
      (Option.bind (gR 2 0 M v6) fun v7 =>
      (Option.bind (gI 4 0 M v7) fun v8 =>
      (if v8 ≤ ((y3 - y3 / (10 : Int32) * (10 : Int32)) - (1 : Int32)) then
       (k1 ())
      else
       (Option.bind (p_X6_rowIndex y2 ((y3 - y3 / (10 : Int32) * (10 : Int32)) - (1 : Int32)) M) fun v10 =>
       (if v10 = (-1 : Int32) then
        (pl_X6_wishRow_18 k1 k2 f0 M n ((y2 <<< ((4 : Int32) &&& 31)) ||| (((y3 - y3 / (10 : Int32) * (10 : Int32)) - (1 : Int32)) + (1 : Int32))) (y3 / (10 : Int32)))
       else
        (k1 ())
       )
       )
      )
      )
      )
      )
     )
    )
set_option maxHeartbeats 4000000 in
set_option maxRecDepth 100000 in
theorem wl_X6_wishRow_18 {G : gG} {p : Program} {l : Launch} {e : Env} {s : State} {m : MethodId} {args : Array Value} {below : List Frame} {meth : Method} {c : Code} {A : Nat → Prop} {r : Int32} {k1 : Unit → Option (Int32)} {k2 : Int32 → Option (Int32)} {f0 : Nat} {M : Mem} (C0 : cx G p s m args c cX6_wishRow RX6 5 A) (hr : meth.sig.returnType = (some FieldType.int)) (hlk : meth.locks = false) (hG : GOK G) (hk1 : ∀ (H : Heap) (locs : List Loc) (ls : Array Slot), mm G A s M H locs → lv_has ls 5 [] → k1 () = some r → W p l e rm_X6_wishRow s m args below meth c H locs 0 0 (MQ below (CQ G M (some (.int r)) A) args s 0 0 A) (F0 m 60 ls [])) (hk2 : ∀ (z2 : Int32) (H : Heap) (locs : List Loc) (ls : Array Slot), mm G A s M H locs → lv_has ls 5 [(2, .int z2)] → k2 z2 = some r → W p l e rm_X6_wishRow s m args below meth c H locs 0 0 (MQ below (CQ G M (some (.int r)) A) args s 0 0 A) (F0 m 79 ls [])) : ∀ (n : Nat) (y2 : Int32) (y3 : Int32) (H : Heap) (locs : List Loc) (ls : Array Slot), mm G A s M H locs → lv_has ls 5 [(0, .ref f0), (2, .int y2), (3, .int y3)] → pl_X6_wishRow_18 k1 k2 f0 M n y2 y3 = some r → W p l e rm_X6_wishRow s m args below meth c H locs 0 0 (MQ below (CQ G M (some (.int r)) A) args s 0 0 A) (F0 m 18 ls []) := by
  have hx := C0.1
  have hb := C0.2.1
  have hown := C0.2.2.2.1
  have hts := C0.2.2.2.2.1
  intro n
  induction n with
  | zero => intro y2 y3 H locs ls hM hl hp; rw [pl_X6_wishRow_18] at hp; cases hp
  | succ n ih =>
    intro y2 y3 H locs ls hM hl hp
    rw [pl_X6_wishRow_18] at hp
    refine lv_iload_n hx hb dX6_wishRow_18 rfl (lv_at hl 2 rfl) ?_
    refine lv_if_le (tgt := 79) hx hb dX6_wishRow_19 (by decide) (fun c4 => ?_) (fun c4 => ?_)
    · replace hp := oT c4 hp
      exact hk2 _ _ _ _ hM (lv_sub hl [1] rfl) hp
    · replace hp := oF c4 hp
      refine lv_iload_n hx hb dX6_wishRow_22 rfl (lv_at hl 2 rfl) ?_
      refine lv_bipush (v := 10) hx hb dX6_wishRow_23 (by decide) ?_
      refine lv_irem hx hb dX6_wishRow_25 (by decide) ?_
      refine lv_iconst (v := 1) hx hb dX6_wishRow_26 (by decide) ?_
      refine lv_isub hx hb dX6_wishRow_27 ?_
      refine lv_istore (lv' := [(4, .int ((y3 - y3 / (10 : Int32) * (10 : Int32)) - (1 : Int32))), (0, .ref f0), (2, .int y2), (3, .int y3)]) hx hb dX6_wishRow_28 hl (by decide) rfl (fun ls hl => ?_)
      refine lv_iload hx hb dX6_wishRow_30 (lv_at hl 0 rfl) ?_
      refine lv_if_lt (tgt := 60) hx hb dX6_wishRow_32 (by decide) (fun c5 => ?_) (fun c5 => ?_)
      · replace hp := oT c5 hp
        exact hk1  _ _ _ hM (lv_sub hl [] rfl) hp
      · replace hp := oF c5 hp
        refine lv_iload hx hb dX6_wishRow_35 (lv_at hl 0 rfl) ?_
        refine lv_aload_n hx hb dX6_wishRow_37 rfl (lv_at hl 1 rfl) ?_
        obtain ⟨v6, hv6, hp⟩ := ob hp
        refine mr_getR C0 cbX6 hM 3 (by decide) tw_294 hv6 dX6_wishRow_38 ?_
        obtain ⟨v7, hv7, hp⟩ := ob hp
        refine mr_getR C0 cbX2 hM 0 (by decide) tw_131 hv7 dX6_wishRow_41 ?_
        obtain ⟨v8, hv8, hp⟩ := ob hp
        refine mr_getI C0 cbX4 hM 0 (by decide) tw_67 hv8 dX6_wishRow_44 ?_
        refine lv_icmp_ge (tgt := 60) hx hb dX6_wishRow_47 (by decide) (fun c9 => ?_) (fun c9 => ?_)
        · replace hp := oT c9 hp
          exact hk1  _ _ _ hM (lv_sub hl [] rfl) hp
        · replace hp := oF c9 hp
          refine lv_iload_n hx hb dX6_wishRow_50 rfl (lv_at hl 2 rfl) ?_
          refine lv_iload hx hb dX6_wishRow_51 (lv_at hl 0 rfl) ?_
          obtain ⟨v10, hv10, hp⟩ := ob hp
          refine mr_S1 (As := [.int y2, .int ((y3 - y3 / (10 : Int32) * (10 : Int32)) - (1 : Int32))]) (rest := []) C0 hM (w_X6_rowIndex hG hv10) tw_1808 tw_443 tw_15 tw_444 yk_X6_rowIndex (by decide) rfl hl.1 (Nat.le_of_ble_eq_true rfl) dX6_wishRow_53 rfl (fun H locs hM => ?_)
          refine lv_iconst (v := -1) hx hb dX6_wishRow_56 (by decide) ?_
          refine lv_icmp_eq (tgt := 62) hx hb dX6_wishRow_57 (by decide) (fun c11 => ?_) (fun c11 => ?_)
          · replace hp := oT c11 hp
            refine lv_iload_n hx hb dX6_wishRow_62 rfl (lv_at hl 2 rfl) ?_
            refine lv_iconst (v := 4) hx hb dX6_wishRow_63 (by decide) ?_
            refine lv_ishl hx hb dX6_wishRow_64 ?_
            refine lv_iload hx hb dX6_wishRow_65 (lv_at hl 0 rfl) ?_
            refine lv_iconst (v := 1) hx hb dX6_wishRow_67 (by decide) ?_
            refine lv_iadd hx hb dX6_wishRow_68 ?_
            refine lv_ior hx hb dX6_wishRow_69 ?_
            refine lv_istore_n (lv' := [(2, .int ((y2 <<< ((4 : Int32) &&& 31)) ||| (((y3 - y3 / (10 : Int32) * (10 : Int32)) - (1 : Int32)) + (1 : Int32)))), (4, .int ((y3 - y3 / (10 : Int32) * (10 : Int32)) - (1 : Int32))), (0, .ref f0), (3, .int y3)]) hx hb dX6_wishRow_70 rfl hl (by decide) rfl (fun ls hl => ?_)
            refine lv_iload_n hx hb dX6_wishRow_71 rfl (lv_at hl 3 rfl) ?_
            refine lv_bipush (v := 10) hx hb dX6_wishRow_72 (by decide) ?_
            refine lv_idiv hx hb dX6_wishRow_74 (by decide) ?_
            refine lv_istore_n (lv' := [(3, .int (y3 / (10 : Int32))), (2, .int ((y2 <<< ((4 : Int32) &&& 31)) ||| (((y3 - y3 / (10 : Int32) * (10 : Int32)) - (1 : Int32)) + (1 : Int32)))), (4, .int ((y3 - y3 / (10 : Int32) * (10 : Int32)) - (1 : Int32))), (0, .ref f0)]) hx hb dX6_wishRow_75 rfl hl (by decide) rfl (fun ls hl => ?_)
            refine lv_goto (tgt := 18) hx hb dX6_wishRow_76 (by decide) ?_
            exact ih _ _ _ _ _ hM (lv_sub hl [3, 1, 0] rfl) hp
          · replace hp := oF c11 hp
            exact hk1  _ _ _ hM (lv_sub hl [] rfl) hp
def p_X6_wishRow (a0 : Nat) (a1 : Int32) (M : Mem) : Option (Int32) :=
  (if a1 < (1 : Int32) then
   some (-1 : Int32)
  else
   (if a1 ≤ (9999 : Int32) then
    (jn (fun (_ : Unit) =>
     some (-1 : Int32)
    ) fun k3 =>
    (pl_X6_wishRow_18
     (fun (_ : Unit) =>
      (k3 ())
     )
     (fun (z12 : Int32) =>
      some z12
     )
     a0 M FU (0 : Int32) a1)
    )
   else
    some (-1 : Int32)
   )
  )
theorem yk_X6_wishRow : yok yX6_wishRow 1 := by decide +kernel
set_option maxHeartbeats 4000000 in
set_option maxRecDepth 100000 in
theorem w_X6_wishRow {G : gG} (hG : GOK G) {l : Launch} {a0 : Nat} {a1 : Int32} {M : Mem} {r : Int32} (hp : p_X6_wishRow a0 a1 M = some r) : CT G l yX6_wishRow (wT yX6_wishRow cX6_wishRow 5 (some FieldType.int)) rm_X6_wishRow [.ref a0, .int a1] M (some (.int r)) M 0 0 := by
  refine CT_of (own := RX6) (maxL := 5) (ret := (some FieldType.int)) hG (by decide) rfl (Nat.le_of_ble_eq_true rfl) (fun p e s m below meth c A C0 hr hlk hM ls hl => ?_)
  have hl : lv_has ls 5 [(0, .ref a0), (1, .int a1)] := hl
  generalize ([.ref a0, .int a1] : List Value).toArray = args at C0 ⊢
  skip
  have hx := C0.1
  have hb := C0.2.1
  have hown := C0.2.2.2.1
  have hts := C0.2.2.2.2.1
  unfold p_X6_wishRow at hp
  refine lv_iload_n hx hb dX6_wishRow_0 rfl (lv_at hl 1 rfl) ?_
  refine lv_iconst (v := 1) hx hb dX6_wishRow_1 (by decide) ?_
  refine lv_icmp_lt (tgt := 12) hx hb dX6_wishRow_2 (by decide) (fun c1 => ?_) (fun c1 => ?_)
  · replace hp := oT c1 hp
    refine lv_iconst (v := -1) hx hb dX6_wishRow_12 (by decide) ?_
    exact mr_iret C0 hr hlk hM rfl (Option.some.inj hp) (Nat.le_refl _) (Nat.le_refl _) dX6_wishRow_13
  · replace hp := oF c1 hp
    refine lv_iload_n hx hb dX6_wishRow_5 rfl (lv_at hl 1 rfl) ?_
    refine lv_sipush (v := 9999) hx hb dX6_wishRow_6 (by decide) ?_
    refine lv_icmp_le (tgt := 14) hx hb dX6_wishRow_9 (by decide) (fun c2 => ?_) (fun c2 => ?_)
    · replace hp := oT c2 hp
      refine lv_iconst (v := 0) hx hb dX6_wishRow_14 (by decide) ?_
      refine lv_istore_n (lv' := [(2, .int (0 : Int32)), (0, .ref a0), (1, .int a1)]) hx hb dX6_wishRow_15 rfl hl (by decide) rfl (fun ls hl => ?_)
      refine lv_iload_n hx hb dX6_wishRow_16 rfl (lv_at hl 2 rfl) ?_
      refine lv_istore_n (lv' := [(3, .int a1), (2, .int (0 : Int32)), (0, .ref a0), (1, .int a1)]) hx hb dX6_wishRow_17 rfl hl (by decide) rfl (fun ls hl => ?_)
      obtain ⟨k3, ek3, hp⟩ := ojn hp
      have hk3 : ∀ (H : Heap) (locs : List Loc) (ls : Array Slot), mm G A s M H locs → lv_has ls 5 [] → k3 () = some r → W p l e rm_X6_wishRow s m args below meth c H locs 0 0 (MQ below (CQ G M (some (.int r)) A) args s 0 0 A) (F0 m 60 ls []) := by
        intro  H locs ls hM hl hp
        rw [ek3] at hp
        refine lv_iconst (v := -1) hx hb dX6_wishRow_60 (by decide) ?_
        exact mr_iret C0 hr hlk hM rfl (Option.some.inj hp) (Nat.le_refl _) (Nat.le_refl _) dX6_wishRow_61
      refine wl_X6_wishRow_18 C0 hr hlk hG (fun  H locs ls hM hl hp => ?_) (fun z12 H locs ls hM hl hp => ?_) FU _ _ _ _ _ hM (lv_sub hl [2, 1, 0] rfl) hp
      · exact hk3  _ _ _ hM (lv_sub hl [] rfl) hp
      · refine lv_iload_n hx hb dX6_wishRow_79 rfl (lv_at hl 0 rfl) ?_
        exact mr_iret C0 hr hlk hM rfl (Option.some.inj hp) (Nat.le_refl _) (Nat.le_refl _) dX6_wishRow_80
    · replace hp := oF c2 hp
      refine lv_iconst (v := -1) hx hb dX6_wishRow_12 (by decide) ?_
      exact mr_iret C0 hr hlk hM rfl (Option.some.inj hp) (Nat.le_refl _) (Nat.le_refl _) dX6_wishRow_13
abbrev rm_X6_addChild : Room := { frames := 6, cells := 0, slots := 0, locals := 144 }
def p_X6_addChild (a0 : Nat) (a1 : Int32) (a2 : Int32) (a3 : Int32) (a4 : Int32) (a5 : Int32) (M : Mem) : Option (Int32 × Mem) :=
  (Option.bind (p_X6_needHome a1 a2 M) fun v1 =>
  (if a3 < 0 then
   none
  else
   (if a3 ≤ (99 : Int32) then
    (Option.bind (isC 5 M a0) fun _ =>
    (Option.bind (p_X6_wishRow a0 a5 M) fun v5 =>
    (if v5 = (-1 : Int32) then
     none
    else
     (Option.bind (gR 5 3 M a0) fun v7 =>
     (Option.bind (gI 2 1 M v7) fun v8 =>
     (if v8 < (40 : Int32) then
      (Option.bind (isC 5 M a0) fun _ =>
      (Option.bind (p_X6_remember a0 M) fun M11 =>
      (Option.bind (gR 5 3 M11 a0) fun v12 =>
      (Option.bind (isC 2 M11 v12) fun _ =>
      (ob2 (p_X2_enrol v12 a1 a2 a3 a4 v5 M11) fun v14 M15 =>
      (Option.bind (gR 5 3 M15 a0) fun v16 =>
      (Option.bind (isC 2 M15 v16) fun _ =>
      (Option.bind (p_X2_fillPlaces v16 M15) fun M18 =>
      some (v14, M18)
      )
      )
      )
      )
      )
      )
      )
      )
     else
      none
     )
     )
     )
    )
    )
    )
   else
    none
   )
  )
  )
theorem yk_X6_addChild : yok yX6_addChild 5 := by decide +kernel
set_option maxHeartbeats 4000000 in
set_option maxRecDepth 100000 in
theorem w_X6_addChild {G : gG} (hG : GOK G) {l : Launch} {a0 : Nat} {a1 : Int32} {a2 : Int32} {a3 : Int32} {a4 : Int32} {a5 : Int32} {M : Mem} {r : Int32} {M' : Mem} (hp : p_X6_addChild a0 a1 a2 a3 a4 a5 M = some (r, M')) : CT G l yX6_addChild (wT yX6_addChild cX6_addChild 8 (some FieldType.int)) rm_X6_addChild [.ref a0, .int a1, .int a2, .int a3, .int a4, .int a5] M (some (.int r)) M' 0 0 := by
  refine CT_of (own := RX6) (maxL := 8) (ret := (some FieldType.int)) hG (by decide) rfl (Nat.le_of_ble_eq_true rfl) (fun p e s m below meth c A C0 hr hlk hM ls hl => ?_)
  have hl : lv_has ls 8 [(0, .ref a0), (1, .int a1), (2, .int a2), (3, .int a3), (4, .int a4), (5, .int a5)] := hl
  generalize ([.ref a0, .int a1, .int a2, .int a3, .int a4, .int a5] : List Value).toArray = args at C0 ⊢
  skip
  have hx := C0.1
  have hb := C0.2.1
  have hown := C0.2.2.2.1
  have hts := C0.2.2.2.2.1
  unfold p_X6_addChild at hp
  refine lv_iload_n hx hb dX6_addChild_0 rfl (lv_at hl 1 rfl) ?_
  refine lv_iload_n hx hb dX6_addChild_1 rfl (lv_at hl 2 rfl) ?_
  obtain ⟨v1, hv1, hp⟩ := ob hp
  refine mr_S0 (As := [.int a1, .int a2]) (rest := []) C0 hM (w_X6_needHome hG hv1) tw_1799 tw_1800 tw_15 tw_1801 yk_X6_needHome (by decide) rfl hl.1 (Nat.le_of_ble_eq_true rfl) dX6_addChild_2 rfl (fun H locs hM => ?_)
  refine lv_iload_n hx hb dX6_addChild_5 rfl (lv_at hl 3 rfl) ?_
  refine lv_if_lt (tgt := 15) hx hb dX6_addChild_6 (by decide) (fun c2 => ?_) (fun c2 => ?_)
  · replace hp := oT c2 hp
    cases hp
  · replace hp := oF c2 hp
    refine lv_iload_n hx hb dX6_addChild_9 rfl (lv_at hl 3 rfl) ?_
    refine lv_bipush (v := 99) hx hb dX6_addChild_10 (by decide) ?_
    refine lv_icmp_le (tgt := 26) hx hb dX6_addChild_12 (by decide) (fun c3 => ?_) (fun c3 => ?_)
    · replace hp := oT c3 hp
      refine lv_aload_n hx hb dX6_addChild_26 rfl (lv_at hl 0 rfl) ?_
      refine lv_iload hx hb dX6_addChild_27 (lv_at hl 5 rfl) ?_
      obtain ⟨_, h4, hp⟩ := ob hp
      obtain ⟨v5, hv5, hp⟩ := ob hp
      refine mr_V1 (As := [.int a5]) (rest := []) C0 cbX6 hM h4 rfl (w_X6_wishRow hG hv5) tw_1804 tw_1806 tws_24 tw_15 tw_1807 yk_X6_wishRow (by decide) rfl hl.1 (Nat.le_of_ble_eq_true rfl) dX6_addChild_29 rfl (fun H locs hM => ?_)
      refine lv_istore (lv' := [(6, .int v5), (0, .ref a0), (1, .int a1), (2, .int a2), (3, .int a3), (4, .int a4), (5, .int a5)]) hx hb dX6_addChild_32 hl (by decide) rfl (fun ls hl => ?_)
      refine lv_iload hx hb dX6_addChild_34 (lv_at hl 0 rfl) ?_
      refine lv_iconst (v := -1) hx hb dX6_addChild_36 (by decide) ?_
      refine lv_icmp_ne (tgt := 51) hx hb dX6_addChild_37 (by decide) (fun c6 => ?_) (fun c6 => ?_)
      · replace hp := oF c6 hp
        refine lv_aload_n hx hb dX6_addChild_51 rfl (lv_at hl 1 rfl) ?_
        obtain ⟨v7, hv7, hp⟩ := ob hp
        refine mr_getR C0 cbX6 hM 3 (by decide) tw_294 hv7 dX6_addChild_52 ?_
        obtain ⟨v8, hv8, hp⟩ := ob hp
        refine mr_getI C0 cbX2 hM 1 (by decide) tw_137 hv8 dX6_addChild_55 ?_
        refine lv_bipush (v := 40) hx hb dX6_addChild_58 (by decide) ?_
        refine lv_icmp_lt (tgt := 74) hx hb dX6_addChild_60 (by decide) (fun c9 => ?_) (fun c9 => ?_)
        · replace hp := oT c9 hp
          refine lv_aload_n hx hb dX6_addChild_74 rfl (lv_at hl 1 rfl) ?_
          obtain ⟨_, h10, hp⟩ := ob hp
          obtain ⟨M11, hM11, hp⟩ := ob hp
          refine mr_V0 (As := []) (rest := []) C0 cbX6 hM h10 rfl (w_X6_remember hG hM11) tw_530 tw_532 tws_0 tw_15 tw_533 yk_X6_remember (by decide) rfl hl.1 (Nat.le_of_ble_eq_true rfl) dX6_addChild_75 rfl (fun H locs hM => ?_)
          refine lv_aload_n hx hb dX6_addChild_78 rfl (lv_at hl 1 rfl) ?_
          obtain ⟨v12, hv12, hp⟩ := ob hp
          refine mr_getR C0 cbX6 hM 3 (by decide) tw_294 hv12 dX6_addChild_79 ?_
          refine lv_iload_n hx hb dX6_addChild_82 rfl (lv_at hl 2 rfl) ?_
          refine lv_iload_n hx hb dX6_addChild_83 rfl (lv_at hl 3 rfl) ?_
          refine lv_iload_n hx hb dX6_addChild_84 rfl (lv_at hl 4 rfl) ?_
          refine lv_iload hx hb dX6_addChild_85 (lv_at hl 5 rfl) ?_
          refine lv_iload hx hb dX6_addChild_87 (lv_at hl 0 rfl) ?_
          obtain ⟨_, h13, hp⟩ := ob hp
          obtain ⟨v14, M15, hv14, hp⟩ := ob3 hp
          refine mr_V1 (As := [.int a1, .int a2, .int a3, .int a4, .int v5]) (rest := []) C0 cbX2 hM h13 rfl (w_X2_enrol hG hv14) tw_1826 tw_498 tw_499 tw_17 tw_500 yk_X2_enrol (by decide) rfl hl.1 (Nat.le_of_ble_eq_true rfl) dX6_addChild_89 rfl (fun H locs hM => ?_)
          refine lv_istore (lv' := [(7, .int v14), (6, .int v5), (0, .ref a0), (1, .int a1), (2, .int a2), (3, .int a3), (4, .int a4), (5, .int a5)]) hx hb dX6_addChild_92 hl (by decide) rfl (fun ls hl => ?_)
          refine lv_aload_n hx hb dX6_addChild_94 rfl (lv_at hl 2 rfl) ?_
          obtain ⟨v16, hv16, hp⟩ := ob hp
          refine mr_getR C0 cbX6 hM 3 (by decide) tw_294 hv16 dX6_addChild_95 ?_
          obtain ⟨_, h17, hp⟩ := ob hp
          obtain ⟨M18, hM18, hp⟩ := ob hp
          refine mr_V0 (As := []) (rest := []) C0 cbX2 hM h17 rfl (w_X2_fillPlaces hG hM18) tw_1827 tw_1828 tw_1829 tw_17 tw_1830 yk_X2_fillPlaces (by decide) rfl hl.1 (Nat.le_of_ble_eq_true rfl) dX6_addChild_98 rfl (fun H locs hM => ?_)
          refine lv_iload hx hb dX6_addChild_101 (lv_at hl 0 rfl) ?_
          exact mr_iret C0 hr hlk hM (Prod.mk.inj (Option.some.inj hp)).2 (Prod.mk.inj (Option.some.inj hp)).1 (Nat.le_refl _) (Nat.le_refl _) dX6_addChild_103
        · replace hp := oF c9 hp
          cases hp
      · replace hp := oT c6 hp
        cases hp
    · replace hp := oF c3 hp
      cases hp
abbrev rm_X6_withdraw : Room := { frames := 6, cells := 0, slots := 0, locals := 144 }
def p_X6_withdraw (a0 : Nat) (a1 : Int32) (M : Mem) : Option (Int32 × Mem) :=
  (Option.bind (isC 5 M a0) fun _ =>
  (Option.bind (p_X6_needChild a0 a1 M) fun v2 =>
  (Option.bind (gR 5 3 M a0) fun v3 =>
  (Option.bind (gL 2 9 M v3) fun v4 =>
  (Option.bind (p_X6_isIn v4 a1 M) fun v5 =>
  (if v5 = 0 then
   (Option.bind (isC 5 M a0) fun _ =>
   (Option.bind (p_X6_remember a0 M) fun M8 =>
   (Option.bind (gR 5 3 M8 a0) fun v9 =>
   (Option.bind (gR 2 16 M8 v9) fun v10 =>
   (Option.bind (aI 0 M8 v10 a1) fun v11 =>
   (Option.bind (gR 5 3 M8 a0) fun v12 =>
   (Option.bind (isC 2 M8 v12) fun _ =>
   (Option.bind (p_X2_takeOut v12 a1 M8) fun M14 =>
   (Option.bind (gR 5 3 M14 a0) fun v15 =>
   (Option.bind (isC 2 M14 v15) fun _ =>
   (Option.bind (p_X2_fillPlaces v15 M14) fun M17 =>
   some (v11, M17)
   )
   )
   )
   )
   )
   )
   )
   )
   )
   )
   )
  else
   none
  )
  )
  )
  )
  )
  )
theorem yk_X6_withdraw : yok yX6_withdraw 1 := by decide +kernel
set_option maxHeartbeats 4000000 in
set_option maxRecDepth 100000 in
theorem w_X6_withdraw {G : gG} (hG : GOK G) {l : Launch} {a0 : Nat} {a1 : Int32} {M : Mem} {r : Int32} {M' : Mem} (hp : p_X6_withdraw a0 a1 M = some (r, M')) : CT G l yX6_withdraw (wT yX6_withdraw cX6_withdraw 3 (some FieldType.int)) rm_X6_withdraw [.ref a0, .int a1] M (some (.int r)) M' 0 0 := by
  refine CT_of (own := RX6) (maxL := 3) (ret := (some FieldType.int)) hG (by decide) rfl (Nat.le_of_ble_eq_true rfl) (fun p e s m below meth c A C0 hr hlk hM ls hl => ?_)
  have hl : lv_has ls 3 [(0, .ref a0), (1, .int a1)] := hl
  generalize ([.ref a0, .int a1] : List Value).toArray = args at C0 ⊢
  skip
  have hx := C0.1
  have hb := C0.2.1
  have hown := C0.2.2.2.1
  have hts := C0.2.2.2.2.1
  unfold p_X6_withdraw at hp
  refine lv_aload_n hx hb dX6_withdraw_0 rfl (lv_at hl 0 rfl) ?_
  refine lv_iload_n hx hb dX6_withdraw_1 rfl (lv_at hl 1 rfl) ?_
  obtain ⟨_, h1, hp⟩ := ob hp
  obtain ⟨v2, hv2, hp⟩ := ob hp
  refine mr_V0 (As := [.int a1]) (rest := []) C0 cbX6 hM h1 rfl (w_X6_needChild hG hv2) tw_1629 tw_1631 tws_17 tw_15 tw_1632 yk_X6_needChild (by decide) rfl hl.1 (Nat.le_of_ble_eq_true rfl) dX6_withdraw_2 rfl (fun H locs hM => ?_)
  refine lv_aload_n hx hb dX6_withdraw_5 rfl (lv_at hl 0 rfl) ?_
  obtain ⟨v3, hv3, hp⟩ := ob hp
  refine mr_getR C0 cbX6 hM 3 (by decide) tw_294 hv3 dX6_withdraw_6 ?_
  obtain ⟨v4, hv4, hp⟩ := ob hp
  refine mr_getL C0 cbX2 hM 9 (by decide) tw_157 hv4 dX6_withdraw_9 ?_
  refine lv_iload_n hx hb dX6_withdraw_12 rfl (lv_at hl 1 rfl) ?_
  obtain ⟨v5, hv5, hp⟩ := ob hp
  refine mr_S1 (As := [.long v4, .int a1]) (rest := []) C0 hM (w_X6_isIn hG hv5) tw_1657 tw_558 tw_15 tw_559 yk_X6_isIn (by decide) rfl hl.1 (Nat.le_of_ble_eq_true rfl) dX6_withdraw_13 rfl (fun H locs hM => ?_)
  refine lv_if_eq (tgt := 30) hx hb dX6_withdraw_16 (by decide) (fun c6 => ?_) (fun c6 => ?_)
  · replace hp := oT c6 hp
    refine lv_aload_n hx hb dX6_withdraw_30 rfl (lv_at hl 0 rfl) ?_
    obtain ⟨_, h7, hp⟩ := ob hp
    obtain ⟨M8, hM8, hp⟩ := ob hp
    refine mr_V0 (As := []) (rest := []) C0 cbX6 hM h7 rfl (w_X6_remember hG hM8) tw_530 tw_532 tws_0 tw_15 tw_533 yk_X6_remember (by decide) rfl hl.1 (Nat.le_of_ble_eq_true rfl) dX6_withdraw_31 rfl (fun H locs hM => ?_)
    refine lv_aload_n hx hb dX6_withdraw_34 rfl (lv_at hl 0 rfl) ?_
    obtain ⟨v9, hv9, hp⟩ := ob hp
    refine mr_getR C0 cbX6 hM 3 (by decide) tw_294 hv9 dX6_withdraw_35 ?_
    obtain ⟨v10, hv10, hp⟩ := ob hp
    refine mr_getR C0 cbX2 hM 16 (by decide) tw_173 hv10 dX6_withdraw_38 ?_
    refine lv_iload_n hx hb dX6_withdraw_41 rfl (lv_at hl 1 rfl) ?_
    obtain ⟨v11, hv11, hp⟩ := ob hp
    refine mr_iald C0 hM hv11 dX6_withdraw_42 ?_
    refine lv_istore_n (lv' := [(2, .int v11), (0, .ref a0), (1, .int a1)]) hx hb dX6_withdraw_43 rfl hl (by decide) rfl (fun ls hl => ?_)
    refine lv_aload_n hx hb dX6_withdraw_44 rfl (lv_at hl 1 rfl) ?_
    obtain ⟨v12, hv12, hp⟩ := ob hp
    refine mr_getR C0 cbX6 hM 3 (by decide) tw_294 hv12 dX6_withdraw_45 ?_
    refine lv_iload_n hx hb dX6_withdraw_48 rfl (lv_at hl 2 rfl) ?_
    obtain ⟨_, h13, hp⟩ := ob hp
    obtain ⟨M14, hM14, hp⟩ := ob hp
    refine mr_V0 (As := [.int a1]) (rest := []) C0 cbX2 hM h13 rfl (w_X2_takeOut hG hM14) tw_1850 tw_1851 tw_1852 tw_17 tw_1853 yk_X2_takeOut (by decide) rfl hl.1 (Nat.le_of_ble_eq_true rfl) dX6_withdraw_49 rfl (fun H locs hM => ?_)
    refine lv_aload_n hx hb dX6_withdraw_52 rfl (lv_at hl 1 rfl) ?_
    obtain ⟨v15, hv15, hp⟩ := ob hp
    refine mr_getR C0 cbX6 hM 3 (by decide) tw_294 hv15 dX6_withdraw_53 ?_
    obtain ⟨_, h16, hp⟩ := ob hp
    obtain ⟨M17, hM17, hp⟩ := ob hp
    refine mr_V0 (As := []) (rest := []) C0 cbX2 hM h16 rfl (w_X2_fillPlaces hG hM17) tw_1827 tw_1828 tw_1829 tw_17 tw_1830 yk_X2_fillPlaces (by decide) rfl hl.1 (Nat.le_of_ble_eq_true rfl) dX6_withdraw_56 rfl (fun H locs hM => ?_)
    refine lv_iload_n hx hb dX6_withdraw_59 rfl (lv_at hl 0 rfl) ?_
    exact mr_iret C0 hr hlk hM (Prod.mk.inj (Option.some.inj hp)).2 (Prod.mk.inj (Option.some.inj hp)).1 (Nat.le_refl _) (Nat.le_refl _) dX6_withdraw_60
  · replace hp := oF c6 hp
    cases hp
abbrev rm_X6_giveBack : Room := { frames := 6, cells := 0, slots := 0, locals := 144 }
def p_X6_giveBack (a0 : Nat) (a1 : Int32) (M : Mem) : Option (Int32 × Mem) :=
  (Option.bind (isC 5 M a0) fun _ =>
  (Option.bind (p_X6_needChild a0 a1 M) fun v2 =>
  (Option.bind (gR 5 3 M a0) fun v3 =>
  (Option.bind (gR 2 16 M v3) fun v4 =>
  (Option.bind (aI 0 M v4 a1) fun v5 =>
  (if v5 = (-1 : Int32) then
   none
  else
   (Option.bind (isC 5 M a0) fun _ =>
   (Option.bind (p_X6_remember a0 M) fun M8 =>
   (Option.bind (gR 5 3 M8 a0) fun v9 =>
   (Option.bind (isC 2 M8 v9) fun _ =>
   (Option.bind (p_X2_handBack v9 a1 M8) fun M11 =>
   (Option.bind (gR 5 3 M11 a0) fun v12 =>
   (Option.bind (isC 2 M11 v12) fun _ =>
   (Option.bind (p_X2_fillPlaces v12 M11) fun M14 =>
   some (v5, M14)
   )
   )
   )
   )
   )
   )
   )
   )
  )
  )
  )
  )
  )
  )
theorem yk_X6_giveBack : yok yX6_giveBack 1 := by decide +kernel
set_option maxHeartbeats 4000000 in
set_option maxRecDepth 100000 in
theorem w_X6_giveBack {G : gG} (hG : GOK G) {l : Launch} {a0 : Nat} {a1 : Int32} {M : Mem} {r : Int32} {M' : Mem} (hp : p_X6_giveBack a0 a1 M = some (r, M')) : CT G l yX6_giveBack (wT yX6_giveBack cX6_giveBack 3 (some FieldType.int)) rm_X6_giveBack [.ref a0, .int a1] M (some (.int r)) M' 0 0 := by
  refine CT_of (own := RX6) (maxL := 3) (ret := (some FieldType.int)) hG (by decide) rfl (Nat.le_of_ble_eq_true rfl) (fun p e s m below meth c A C0 hr hlk hM ls hl => ?_)
  have hl : lv_has ls 3 [(0, .ref a0), (1, .int a1)] := hl
  generalize ([.ref a0, .int a1] : List Value).toArray = args at C0 ⊢
  skip
  have hx := C0.1
  have hb := C0.2.1
  have hown := C0.2.2.2.1
  have hts := C0.2.2.2.2.1
  unfold p_X6_giveBack at hp
  refine lv_aload_n hx hb dX6_giveBack_0 rfl (lv_at hl 0 rfl) ?_
  refine lv_iload_n hx hb dX6_giveBack_1 rfl (lv_at hl 1 rfl) ?_
  obtain ⟨_, h1, hp⟩ := ob hp
  obtain ⟨v2, hv2, hp⟩ := ob hp
  refine mr_V0 (As := [.int a1]) (rest := []) C0 cbX6 hM h1 rfl (w_X6_needChild hG hv2) tw_1629 tw_1631 tws_17 tw_15 tw_1632 yk_X6_needChild (by decide) rfl hl.1 (Nat.le_of_ble_eq_true rfl) dX6_giveBack_2 rfl (fun H locs hM => ?_)
  refine lv_aload_n hx hb dX6_giveBack_5 rfl (lv_at hl 0 rfl) ?_
  obtain ⟨v3, hv3, hp⟩ := ob hp
  refine mr_getR C0 cbX6 hM 3 (by decide) tw_294 hv3 dX6_giveBack_6 ?_
  obtain ⟨v4, hv4, hp⟩ := ob hp
  refine mr_getR C0 cbX2 hM 16 (by decide) tw_173 hv4 dX6_giveBack_9 ?_
  refine lv_iload_n hx hb dX6_giveBack_12 rfl (lv_at hl 1 rfl) ?_
  obtain ⟨v5, hv5, hp⟩ := ob hp
  refine mr_iald C0 hM hv5 dX6_giveBack_13 ?_
  refine lv_istore_n (lv' := [(2, .int v5), (0, .ref a0), (1, .int a1)]) hx hb dX6_giveBack_14 rfl hl (by decide) rfl (fun ls hl => ?_)
  refine lv_iload_n hx hb dX6_giveBack_15 rfl (lv_at hl 0 rfl) ?_
  refine lv_iconst (v := -1) hx hb dX6_giveBack_16 (by decide) ?_
  refine lv_icmp_ne (tgt := 31) hx hb dX6_giveBack_17 (by decide) (fun c6 => ?_) (fun c6 => ?_)
  · replace hp := oF c6 hp
    refine lv_aload_n hx hb dX6_giveBack_31 rfl (lv_at hl 1 rfl) ?_
    obtain ⟨_, h7, hp⟩ := ob hp
    obtain ⟨M8, hM8, hp⟩ := ob hp
    refine mr_V0 (As := []) (rest := []) C0 cbX6 hM h7 rfl (w_X6_remember hG hM8) tw_530 tw_532 tws_0 tw_15 tw_533 yk_X6_remember (by decide) rfl hl.1 (Nat.le_of_ble_eq_true rfl) dX6_giveBack_32 rfl (fun H locs hM => ?_)
    refine lv_aload_n hx hb dX6_giveBack_35 rfl (lv_at hl 1 rfl) ?_
    obtain ⟨v9, hv9, hp⟩ := ob hp
    refine mr_getR C0 cbX6 hM 3 (by decide) tw_294 hv9 dX6_giveBack_36 ?_
    refine lv_iload_n hx hb dX6_giveBack_39 rfl (lv_at hl 2 rfl) ?_
    obtain ⟨_, h10, hp⟩ := ob hp
    obtain ⟨M11, hM11, hp⟩ := ob hp
    refine mr_V0 (As := [.int a1]) (rest := []) C0 cbX2 hM h10 rfl (w_X2_handBack hG hM11) tw_1905 tw_1906 tw_1907 tw_17 tw_1908 yk_X2_handBack (by decide) rfl hl.1 (Nat.le_of_ble_eq_true rfl) dX6_giveBack_40 rfl (fun H locs hM => ?_)
    refine lv_aload_n hx hb dX6_giveBack_43 rfl (lv_at hl 1 rfl) ?_
    obtain ⟨v12, hv12, hp⟩ := ob hp
    refine mr_getR C0 cbX6 hM 3 (by decide) tw_294 hv12 dX6_giveBack_44 ?_
    obtain ⟨_, h13, hp⟩ := ob hp
    obtain ⟨M14, hM14, hp⟩ := ob hp
    refine mr_V0 (As := []) (rest := []) C0 cbX2 hM h13 rfl (w_X2_fillPlaces hG hM14) tw_1827 tw_1828 tw_1829 tw_17 tw_1830 yk_X2_fillPlaces (by decide) rfl hl.1 (Nat.le_of_ble_eq_true rfl) dX6_giveBack_47 rfl (fun H locs hM => ?_)
    refine lv_iload_n hx hb dX6_giveBack_50 rfl (lv_at hl 0 rfl) ?_
    exact mr_iret C0 hr hlk hM (Prod.mk.inj (Option.some.inj hp)).2 (Prod.mk.inj (Option.some.inj hp)).1 (Nat.le_refl _) (Nat.le_refl _) dX6_giveBack_51
  · replace hp := oT c6 hp
    cases hp
abbrev rm_X6_moveHome : Room := { frames := 6, cells := 0, slots := 0, locals := 144 }
def pl_X6_moveHome_51 (k1 : Int32 → Option (Int32 × Mem)) (f0 : Nat) (f1 : Int32) (M : Mem) : Nat → Int32 → Int32 → Option (Int32 × Mem)
  | 0, _, _ => none
  | n + 1, y4, y5 =>
    (if (4 : Int32) ≤ y5 then
     (k1 y4)
    else
     (Option.bind (gR 5 3 M f0) fun v17 =>
     (Option.bind (gR 2 15 M v17) fun v18 =>
     (Option.bind (aI 0 M v18 f1) fun v19 =>
     (Option.bind (p_X6_rowEntry v19 y5 M) fun v20 =>
     (if v20 = (-1 : Int32) then
      (pl_X6_moveHome_51 k1 f0 f1 M n y4 (y5 + (1 : Int32)))
     else
      (Option.bind (gR 5 3 M f0) fun v22 =>
      (Option.bind (isC 2 M v22) fun _ =>
      (Option.bind (p_X2_rankClass v22 f1 v20 M) fun v24 =>
      (Option.bind (gR 5 4 M f0) fun v25 =>
      (Option.bind (isC 2 M v25) fun _ =>
      (Option.bind (p_X2_rankClass v25 f1 v20 M) fun v27 =>
      (if v24 = v27 then
       (pl_X6_moveHome_51 k1 f0 f1 M n y4 (y5 + (1 : Int32)))
      else
       (pl_X6_moveHome_51 k1 f0 f1 M n (y4 + (1 : Int32)) (y5 + (1 : Int32)))
      )
      )
      )
      )
      )
      )
      )
     )
     )
     )
     )
     )
    )
set_option maxHeartbeats 4000000 in
set_option maxRecDepth 100000 in
theorem wl_X6_moveHome_51 {G : gG} {p : Program} {l : Launch} {e : Env} {s : State} {m : MethodId} {args : Array Value} {below : List Frame} {meth : Method} {c : Code} {A : Nat → Prop} {r : Int32} {M' : Mem} {k1 : Int32 → Option (Int32 × Mem)} {f0 : Nat} {f1 : Int32} {M : Mem} (C0 : cx G p s m args c cX6_moveHome RX6 7 A) (hr : meth.sig.returnType = (some FieldType.int)) (hlk : meth.locks = false) (hG : GOK G) (hk1 : ∀ (z4 : Int32) (H : Heap) (locs : List Loc) (ls : Array Slot), mm G A s M H locs → lv_has ls 7 [(0, .ref f0), (4, .int z4)] → k1 z4 = some (r, M') → W p l e rm_X6_moveHome s m args below meth c H locs 0 0 (MQ below (CQ G M' (some (.int r)) A) args s 0 0 A) (F0 m 111 ls [])) : ∀ (n : Nat) (y4 : Int32) (y5 : Int32) (H : Heap) (locs : List Loc) (ls : Array Slot), mm G A s M H locs → lv_has ls 7 [(0, .ref f0), (1, .int f1), (4, .int y4), (5, .int y5)] → pl_X6_moveHome_51 k1 f0 f1 M n y4 y5 = some (r, M') → W p l e rm_X6_moveHome s m args below meth c H locs 0 0 (MQ below (CQ G M' (some (.int r)) A) args s 0 0 A) (F0 m 51 ls []) := by
  have hx := C0.1
  have hb := C0.2.1
  have hown := C0.2.2.2.1
  have hts := C0.2.2.2.2.1
  intro n
  induction n with
  | zero => intro y4 y5 H locs ls hM hl hp; rw [pl_X6_moveHome_51] at hp; cases hp
  | succ n ih =>
    intro y4 y5 H locs ls hM hl hp
    rw [pl_X6_moveHome_51] at hp
    refine lv_iload hx hb dX6_moveHome_51 (lv_at hl 3 rfl) ?_
    refine lv_iconst (v := 4) hx hb dX6_moveHome_53 (by decide) ?_
    refine lv_icmp_ge (tgt := 111) hx hb dX6_moveHome_54 (by decide) (fun c16 => ?_) (fun c16 => ?_)
    · replace hp := oT c16 hp
      exact hk1 _ _ _ _ hM (lv_sub hl [0, 2] rfl) hp
    · replace hp := oF c16 hp
      refine lv_aload_n hx hb dX6_moveHome_57 rfl (lv_at hl 0 rfl) ?_
      obtain ⟨v17, hv17, hp⟩ := ob hp
      refine mr_getR C0 cbX6 hM 3 (by decide) tw_294 hv17 dX6_moveHome_58 ?_
      obtain ⟨v18, hv18, hp⟩ := ob hp
      refine mr_getR C0 cbX2 hM 15 (by decide) tw_170 hv18 dX6_moveHome_61 ?_
      refine lv_iload_n hx hb dX6_moveHome_64 rfl (lv_at hl 1 rfl) ?_
      obtain ⟨v19, hv19, hp⟩ := ob hp
      refine mr_iald C0 hM hv19 dX6_moveHome_65 ?_
      refine lv_iload hx hb dX6_moveHome_66 (lv_at hl 3 rfl) ?_
      obtain ⟨v20, hv20, hp⟩ := ob hp
      refine mr_S1 (As := [.int v19, .int y5]) (rest := []) C0 hM (w_X6_rowEntry hG hv20) tw_1661 tw_561 tw_15 tw_562 yk_X6_rowEntry (by decide) rfl hl.1 (Nat.le_of_ble_eq_true rfl) dX6_moveHome_68 rfl (fun H locs hM => ?_)
      refine lv_istore (lv' := [(6, .int v20), (0, .ref f0), (1, .int f1), (4, .int y4), (5, .int y5)]) hx hb dX6_moveHome_71 hl (by decide) rfl (fun ls hl => ?_)
      refine lv_iload hx hb dX6_moveHome_73 (lv_at hl 0 rfl) ?_
      refine lv_iconst (v := -1) hx hb dX6_moveHome_75 (by decide) ?_
      refine lv_icmp_eq (tgt := 105) hx hb dX6_moveHome_76 (by decide) (fun c21 => ?_) (fun c21 => ?_)
      · replace hp := oT c21 hp
        refine lv_iinc (v := (y5 + (1 : Int32))) (lv' := [(5, .int (y5 + (1 : Int32))), (6, .int v20), (0, .ref f0), (1, .int f1), (4, .int y4)]) hx hb dX6_moveHome_105 hl (k := 4) rfl rfl (by decide) rfl (fun ls hl => ?_)
        refine lv_goto (tgt := 51) hx hb dX6_moveHome_108 (by decide) ?_
        exact ih _ _ _ _ _ hM (lv_sub hl [2, 3, 4, 0] rfl) hp
      · replace hp := oF c21 hp
        refine lv_aload_n hx hb dX6_moveHome_79 rfl (lv_at hl 1 rfl) ?_
        obtain ⟨v22, hv22, hp⟩ := ob hp
        refine mr_getR C0 cbX6 hM 3 (by decide) tw_294 hv22 dX6_moveHome_80 ?_
        refine lv_iload_n hx hb dX6_moveHome_83 rfl (lv_at hl 2 rfl) ?_
        refine lv_iload hx hb dX6_moveHome_84 (lv_at hl 0 rfl) ?_
        obtain ⟨_, h23, hp⟩ := ob hp
        obtain ⟨v24, hv24, hp⟩ := ob hp
        refine mr_V1 (As := [.int f1, .int v20]) (rest := []) C0 cbX2 hM h23 rfl (w_X2_rankClass hG hv24) tw_1915 tw_587 tw_588 tw_17 tw_589 yk_X2_rankClass (by decide) rfl hl.1 (Nat.le_of_ble_eq_true rfl) dX6_moveHome_86 rfl (fun H locs hM => ?_)
        refine lv_aload_n hx hb dX6_moveHome_89 rfl (lv_at hl 1 rfl) ?_
        obtain ⟨v25, hv25, hp⟩ := ob hp
        refine mr_getR C0 cbX6 hM 4 (by decide) tw_295 hv25 dX6_moveHome_90 ?_
        refine lv_iload_n hx hb dX6_moveHome_93 rfl (lv_at hl 2 rfl) ?_
        refine lv_iload hx hb dX6_moveHome_94 (lv_at hl 0 rfl) ?_
        obtain ⟨_, h26, hp⟩ := ob hp
        obtain ⟨v27, hv27, hp⟩ := ob hp
        refine mr_V1 (As := [.int f1, .int v20]) (rest := [.int v24]) C0 cbX2 hM h26 rfl (w_X2_rankClass hG hv27) tw_1915 tw_587 tw_588 tw_17 tw_589 yk_X2_rankClass (by decide) rfl hl.1 (Nat.le_of_ble_eq_true rfl) dX6_moveHome_96 rfl (fun H locs hM => ?_)
        refine lv_icmp_eq (tgt := 105) hx hb dX6_moveHome_99 (by decide) (fun c28 => ?_) (fun c28 => ?_)
        · replace hp := oT c28 hp
          refine lv_iinc (v := (y5 + (1 : Int32))) (lv' := [(5, .int (y5 + (1 : Int32))), (6, .int v20), (0, .ref f0), (1, .int f1), (4, .int y4)]) hx hb dX6_moveHome_105 hl (k := 4) rfl rfl (by decide) rfl (fun ls hl => ?_)
          refine lv_goto (tgt := 51) hx hb dX6_moveHome_108 (by decide) ?_
          exact ih _ _ _ _ _ hM (lv_sub hl [2, 3, 4, 0] rfl) hp
        · replace hp := oF c28 hp
          refine lv_iinc (v := (y4 + (1 : Int32))) (lv' := [(4, .int (y4 + (1 : Int32))), (6, .int v20), (0, .ref f0), (1, .int f1), (5, .int y5)]) hx hb dX6_moveHome_102 hl (k := 3) rfl rfl (by decide) rfl (fun ls hl => ?_)
          refine lv_iinc (v := (y5 + (1 : Int32))) (lv' := [(5, .int (y5 + (1 : Int32))), (4, .int (y4 + (1 : Int32))), (6, .int v20), (0, .ref f0), (1, .int f1)]) hx hb dX6_moveHome_105 hl (k := 4) rfl rfl (by decide) rfl (fun ls hl => ?_)
          refine lv_goto (tgt := 51) hx hb dX6_moveHome_108 (by decide) ?_
          exact ih _ _ _ _ _ hM (lv_sub hl [3, 4, 1, 0] rfl) hp
def p_X6_moveHome (a0 : Nat) (a1 : Int32) (a2 : Int32) (a3 : Int32) (M : Mem) : Option (Int32 × Mem) :=
  (Option.bind (isC 5 M a0) fun _ =>
  (Option.bind (p_X6_needChild a0 a1 M) fun v2 =>
  (Option.bind (p_X6_needHome a2 a3 M) fun v3 =>
  (Option.bind (isC 5 M a0) fun _ =>
  (Option.bind (p_X6_remember a0 M) fun M5 =>
  (Option.bind (gR 5 4 M5 a0) fun v6 =>
  (Option.bind (gR 5 3 M5 a0) fun v7 =>
  (Option.bind (isC 2 M5 v6) fun _ =>
  (Option.bind (p_X2_copyFrom v6 v7 M5) fun M9 =>
  (Option.bind (gR 5 3 M9 a0) fun v10 =>
  (Option.bind (gR 2 11 M9 v10) fun v11 =>
  (Option.bind (aIs M9 v11 a1 a2) fun M12 =>
  (Option.bind (gR 5 3 M12 a0) fun v13 =>
  (Option.bind (gR 2 12 M12 v13) fun v14 =>
  (Option.bind (aIs M12 v14 a1 a3) fun M15 =>
  (pl_X6_moveHome_51
   (fun (z29 : Int32) =>
    (Option.bind (gR 5 3 M15 a0) fun v30 =>
    (Option.bind (isC 2 M15 v30) fun _ =>
    (Option.bind (p_X2_fillPlaces v30 M15) fun M32 =>
    some (z29, M32)
    )
    )
    )
   )
   a0 a1 M15 FU (0 : Int32) (0 : Int32))
  )
  )
  )
  )
  )
  )
  )
  )
  )
  )
  )
  )
  )
  )
  )
theorem yk_X6_moveHome : yok yX6_moveHome 3 := by decide +kernel
set_option maxHeartbeats 4000000 in
set_option maxRecDepth 100000 in
theorem w_X6_moveHome {G : gG} (hG : GOK G) {l : Launch} {a0 : Nat} {a1 : Int32} {a2 : Int32} {a3 : Int32} {M : Mem} {r : Int32} {M' : Mem} (hp : p_X6_moveHome a0 a1 a2 a3 M = some (r, M')) : CT G l yX6_moveHome (wT yX6_moveHome cX6_moveHome 7 (some FieldType.int)) rm_X6_moveHome [.ref a0, .int a1, .int a2, .int a3] M (some (.int r)) M' 0 0 := by
  refine CT_of (own := RX6) (maxL := 7) (ret := (some FieldType.int)) hG (by decide) rfl (Nat.le_of_ble_eq_true rfl) (fun p e s m below meth c A C0 hr hlk hM ls hl => ?_)
  have hl : lv_has ls 7 [(0, .ref a0), (1, .int a1), (2, .int a2), (3, .int a3)] := hl
  generalize ([.ref a0, .int a1, .int a2, .int a3] : List Value).toArray = args at C0 ⊢
  skip
  have hx := C0.1
  have hb := C0.2.1
  have hown := C0.2.2.2.1
  have hts := C0.2.2.2.2.1
  unfold p_X6_moveHome at hp
  refine lv_aload_n hx hb dX6_moveHome_0 rfl (lv_at hl 0 rfl) ?_
  refine lv_iload_n hx hb dX6_moveHome_1 rfl (lv_at hl 1 rfl) ?_
  obtain ⟨_, h1, hp⟩ := ob hp
  obtain ⟨v2, hv2, hp⟩ := ob hp
  refine mr_V0 (As := [.int a1]) (rest := []) C0 cbX6 hM h1 rfl (w_X6_needChild hG hv2) tw_1629 tw_1631 tws_17 tw_15 tw_1632 yk_X6_needChild (by decide) rfl hl.1 (Nat.le_of_ble_eq_true rfl) dX6_moveHome_2 rfl (fun H locs hM => ?_)
  refine lv_iload_n hx hb dX6_moveHome_5 rfl (lv_at hl 2 rfl) ?_
  refine lv_iload_n hx hb dX6_moveHome_6 rfl (lv_at hl 3 rfl) ?_
  obtain ⟨v3, hv3, hp⟩ := ob hp
  refine mr_S0 (As := [.int a2, .int a3]) (rest := []) C0 hM (w_X6_needHome hG hv3) tw_1799 tw_1800 tw_15 tw_1801 yk_X6_needHome (by decide) rfl hl.1 (Nat.le_of_ble_eq_true rfl) dX6_moveHome_7 rfl (fun H locs hM => ?_)
  refine lv_aload_n hx hb dX6_moveHome_10 rfl (lv_at hl 0 rfl) ?_
  obtain ⟨_, h4, hp⟩ := ob hp
  obtain ⟨M5, hM5, hp⟩ := ob hp
  refine mr_V0 (As := []) (rest := []) C0 cbX6 hM h4 rfl (w_X6_remember hG hM5) tw_530 tw_532 tws_0 tw_15 tw_533 yk_X6_remember (by decide) rfl hl.1 (Nat.le_of_ble_eq_true rfl) dX6_moveHome_11 rfl (fun H locs hM => ?_)
  refine lv_aload_n hx hb dX6_moveHome_14 rfl (lv_at hl 0 rfl) ?_
  obtain ⟨v6, hv6, hp⟩ := ob hp
  refine mr_getR C0 cbX6 hM 4 (by decide) tw_295 hv6 dX6_moveHome_15 ?_
  refine lv_aload_n hx hb dX6_moveHome_18 rfl (lv_at hl 0 rfl) ?_
  obtain ⟨v7, hv7, hp⟩ := ob hp
  refine mr_getR C0 cbX6 hM 3 (by decide) tw_294 hv7 dX6_moveHome_19 ?_
  obtain ⟨_, h8, hp⟩ := ob hp
  obtain ⟨M9, hM9, hp⟩ := ob hp
  refine mr_V0 (As := [.ref v7]) (rest := []) C0 cbX2 hM h8 rfl (w_X2_copyFrom hG hM9) tw_534 tw_535 tw_536 tw_17 tw_537 yk_X2_copyFrom (by decide) rfl hl.1 (Nat.le_of_ble_eq_true rfl) dX6_moveHome_22 rfl (fun H locs hM => ?_)
  refine lv_aload_n hx hb dX6_moveHome_25 rfl (lv_at hl 0 rfl) ?_
  obtain ⟨v10, hv10, hp⟩ := ob hp
  refine mr_getR C0 cbX6 hM 3 (by decide) tw_294 hv10 dX6_moveHome_26 ?_
  obtain ⟨v11, hv11, hp⟩ := ob hp
  refine mr_getR C0 cbX2 hM 11 (by decide) tw_161 hv11 dX6_moveHome_29 ?_
  refine lv_iload_n hx hb dX6_moveHome_32 rfl (lv_at hl 1 rfl) ?_
  refine lv_iload_n hx hb dX6_moveHome_33 rfl (lv_at hl 2 rfl) ?_
  obtain ⟨M12, hM12, hp⟩ := ob hp
  refine mr_iast C0 hM hM12 dX6_moveHome_34 (fun H locs hM => ?_)
  refine lv_aload_n hx hb dX6_moveHome_35 rfl (lv_at hl 0 rfl) ?_
  obtain ⟨v13, hv13, hp⟩ := ob hp
  refine mr_getR C0 cbX6 hM 3 (by decide) tw_294 hv13 dX6_moveHome_36 ?_
  obtain ⟨v14, hv14, hp⟩ := ob hp
  refine mr_getR C0 cbX2 hM 12 (by decide) tw_163 hv14 dX6_moveHome_39 ?_
  refine lv_iload_n hx hb dX6_moveHome_42 rfl (lv_at hl 1 rfl) ?_
  refine lv_iload_n hx hb dX6_moveHome_43 rfl (lv_at hl 3 rfl) ?_
  obtain ⟨M15, hM15, hp⟩ := ob hp
  refine mr_iast C0 hM hM15 dX6_moveHome_44 (fun H locs hM => ?_)
  refine lv_iconst (v := 0) hx hb dX6_moveHome_45 (by decide) ?_
  refine lv_istore (lv' := [(4, .int (0 : Int32)), (0, .ref a0), (1, .int a1), (2, .int a2), (3, .int a3)]) hx hb dX6_moveHome_46 hl (by decide) rfl (fun ls hl => ?_)
  refine lv_iconst (v := 0) hx hb dX6_moveHome_48 (by decide) ?_
  refine lv_istore (lv' := [(5, .int (0 : Int32)), (4, .int (0 : Int32)), (0, .ref a0), (1, .int a1), (2, .int a2), (3, .int a3)]) hx hb dX6_moveHome_49 hl (by decide) rfl (fun ls hl => ?_)
  refine wl_X6_moveHome_51 C0 hr hlk hG (fun z29 H locs ls hM hl hp => ?_) FU _ _ _ _ _ hM (lv_sub hl [2, 3, 1, 0] rfl) hp
  refine lv_aload_n hx hb dX6_moveHome_111 rfl (lv_at hl 0 rfl) ?_
  obtain ⟨v30, hv30, hp⟩ := ob hp
  refine mr_getR C0 cbX6 hM 3 (by decide) tw_294 hv30 dX6_moveHome_112 ?_
  obtain ⟨_, h31, hp⟩ := ob hp
  obtain ⟨M32, hM32, hp⟩ := ob hp
  refine mr_V0 (As := []) (rest := []) C0 cbX2 hM h31 rfl (w_X2_fillPlaces hG hM32) tw_1827 tw_1828 tw_1829 tw_17 tw_1830 yk_X2_fillPlaces (by decide) rfl hl.1 (Nat.le_of_ble_eq_true rfl) dX6_moveHome_115 rfl (fun H locs hM => ?_)
  refine lv_iload hx hb dX6_moveHome_118 (lv_at hl 1 rfl) ?_
  exact mr_iret C0 hr hlk hM (Prod.mk.inj (Option.some.inj hp)).2 (Prod.mk.inj (Option.some.inj hp)).1 (Nat.le_refl _) (Nat.le_refl _) dX6_moveHome_120
abbrev rm_X6_needCapacity : Room := { frames := 0, cells := 0, slots := 0, locals := 0 }
def p_X6_needCapacity (a0 : Int32) (M : Mem) : Option (Unit) :=
  (if a0 < 0 then
   none
  else
   (if a0 ≤ (40 : Int32) then
    some ()
   else
    none
   )
  )
theorem yk_X6_needCapacity : yok yX6_needCapacity 1 := by decide +kernel
set_option maxHeartbeats 4000000 in
set_option maxRecDepth 100000 in
theorem w_X6_needCapacity {G : gG} (hG : GOK G) {l : Launch} {a0 : Int32} {M : Mem} (hp : p_X6_needCapacity a0 M = some ()) : CT G l yX6_needCapacity (wT yX6_needCapacity cX6_needCapacity 1 (none)) rm_X6_needCapacity [.int a0] M none M 0 0 := by
  refine CT_of (own := RX6) (maxL := 1) (ret := (none)) hG (by decide) rfl (Nat.le_of_ble_eq_true rfl) (fun p e s m below meth c A C0 hr hlk hM ls hl => ?_)
  have hl : lv_has ls 1 [(0, .int a0)] := hl
  generalize ([.int a0] : List Value).toArray = args at C0 ⊢
  skip
  have hx := C0.1
  have hb := C0.2.1
  have hown := C0.2.2.2.1
  have hts := C0.2.2.2.2.1
  unfold p_X6_needCapacity at hp
  refine lv_iload_n hx hb dX6_needCapacity_0 rfl (lv_at hl 0 rfl) ?_
  refine lv_if_lt (tgt := 10) hx hb dX6_needCapacity_1 (by decide) (fun c1 => ?_) (fun c1 => ?_)
  · replace hp := oT c1 hp
    cases hp
  · replace hp := oF c1 hp
    refine lv_iload_n hx hb dX6_needCapacity_4 rfl (lv_at hl 0 rfl) ?_
    refine lv_bipush (v := 40) hx hb dX6_needCapacity_5 (by decide) ?_
    refine lv_icmp_le (tgt := 21) hx hb dX6_needCapacity_7 (by decide) (fun c2 => ?_) (fun c2 => ?_)
    · replace hp := oT c2 hp
      exact mr_vret C0 hr hlk hM rfl (Nat.le_refl _) (Nat.le_refl _) dX6_needCapacity_21
    · replace hp := oF c2 hp
      cases hp
abbrev rm_X6_setCapacity : Room := { frames := 6, cells := 0, slots := 0, locals := 144 }
def p_X6_setCapacity (a0 : Nat) (a1 : Int32) (a2 : Int32) (M : Mem) : Option (Int32 × Mem) :=
  (Option.bind (isC 5 M a0) fun _ =>
  (Option.bind (p_X6_needSchool a0 a1 M) fun v2 =>
  (Option.bind (p_X6_needCapacity a2 M) fun v3 =>
  (Option.bind (isC 5 M a0) fun _ =>
  (Option.bind (p_X6_remember a0 M) fun M5 =>
  (Option.bind (gR 5 3 M5 a0) fun v6 =>
  (Option.bind (gR 2 18 M5 v6) fun v7 =>
  (Option.bind (aI 0 M5 v7 a1) fun v8 =>
  (Option.bind (gR 5 3 M5 a0) fun v9 =>
  (Option.bind (gR 2 18 M5 v9) fun v10 =>
  (Option.bind (aIs M5 v10 a1 a2) fun M11 =>
  (Option.bind (gR 5 3 M11 a0) fun v12 =>
  (Option.bind (isC 2 M11 v12) fun _ =>
  (Option.bind (p_X2_fillPlaces v12 M11) fun M14 =>
  some (v8, M14)
  )
  )
  )
  )
  )
  )
  )
  )
  )
  )
  )
  )
  )
  )
theorem yk_X6_setCapacity : yok yX6_setCapacity 2 := by decide +kernel
set_option maxHeartbeats 4000000 in
set_option maxRecDepth 100000 in
theorem w_X6_setCapacity {G : gG} (hG : GOK G) {l : Launch} {a0 : Nat} {a1 : Int32} {a2 : Int32} {M : Mem} {r : Int32} {M' : Mem} (hp : p_X6_setCapacity a0 a1 a2 M = some (r, M')) : CT G l yX6_setCapacity (wT yX6_setCapacity cX6_setCapacity 4 (some FieldType.int)) rm_X6_setCapacity [.ref a0, .int a1, .int a2] M (some (.int r)) M' 0 0 := by
  refine CT_of (own := RX6) (maxL := 4) (ret := (some FieldType.int)) hG (by decide) rfl (Nat.le_of_ble_eq_true rfl) (fun p e s m below meth c A C0 hr hlk hM ls hl => ?_)
  have hl : lv_has ls 4 [(0, .ref a0), (1, .int a1), (2, .int a2)] := hl
  generalize ([.ref a0, .int a1, .int a2] : List Value).toArray = args at C0 ⊢
  skip
  have hx := C0.1
  have hb := C0.2.1
  have hown := C0.2.2.2.1
  have hts := C0.2.2.2.2.1
  unfold p_X6_setCapacity at hp
  refine lv_aload_n hx hb dX6_setCapacity_0 rfl (lv_at hl 0 rfl) ?_
  refine lv_iload_n hx hb dX6_setCapacity_1 rfl (lv_at hl 1 rfl) ?_
  obtain ⟨_, h1, hp⟩ := ob hp
  obtain ⟨v2, hv2, hp⟩ := ob hp
  refine mr_V0 (As := [.int a1]) (rest := []) C0 cbX6 hM h1 rfl (w_X6_needSchool hG hv2) tw_1705 tw_1707 tws_20 tw_15 tw_1708 yk_X6_needSchool (by decide) rfl hl.1 (Nat.le_of_ble_eq_true rfl) dX6_setCapacity_2 rfl (fun H locs hM => ?_)
  refine lv_iload_n hx hb dX6_setCapacity_5 rfl (lv_at hl 2 rfl) ?_
  obtain ⟨v3, hv3, hp⟩ := ob hp
  refine mr_S0 (As := [.int a2]) (rest := []) C0 hM (w_X6_needCapacity hG hv3) tw_1920 tw_1921 tw_15 tw_1922 yk_X6_needCapacity (by decide) rfl hl.1 (Nat.le_of_ble_eq_true rfl) dX6_setCapacity_6 rfl (fun H locs hM => ?_)
  refine lv_aload_n hx hb dX6_setCapacity_9 rfl (lv_at hl 0 rfl) ?_
  obtain ⟨_, h4, hp⟩ := ob hp
  obtain ⟨M5, hM5, hp⟩ := ob hp
  refine mr_V0 (As := []) (rest := []) C0 cbX6 hM h4 rfl (w_X6_remember hG hM5) tw_530 tw_532 tws_0 tw_15 tw_533 yk_X6_remember (by decide) rfl hl.1 (Nat.le_of_ble_eq_true rfl) dX6_setCapacity_10 rfl (fun H locs hM => ?_)
  refine lv_aload_n hx hb dX6_setCapacity_13 rfl (lv_at hl 0 rfl) ?_
  obtain ⟨v6, hv6, hp⟩ := ob hp
  refine mr_getR C0 cbX6 hM 3 (by decide) tw_294 hv6 dX6_setCapacity_14 ?_
  obtain ⟨v7, hv7, hp⟩ := ob hp
  refine mr_getR C0 cbX2 hM 18 (by decide) tw_179 hv7 dX6_setCapacity_17 ?_
  refine lv_iload_n hx hb dX6_setCapacity_20 rfl (lv_at hl 1 rfl) ?_
  obtain ⟨v8, hv8, hp⟩ := ob hp
  refine mr_iald C0 hM hv8 dX6_setCapacity_21 ?_
  refine lv_istore_n (lv' := [(3, .int v8), (0, .ref a0), (1, .int a1), (2, .int a2)]) hx hb dX6_setCapacity_22 rfl hl (by decide) rfl (fun ls hl => ?_)
  refine lv_aload_n hx hb dX6_setCapacity_23 rfl (lv_at hl 1 rfl) ?_
  obtain ⟨v9, hv9, hp⟩ := ob hp
  refine mr_getR C0 cbX6 hM 3 (by decide) tw_294 hv9 dX6_setCapacity_24 ?_
  obtain ⟨v10, hv10, hp⟩ := ob hp
  refine mr_getR C0 cbX2 hM 18 (by decide) tw_179 hv10 dX6_setCapacity_27 ?_
  refine lv_iload_n hx hb dX6_setCapacity_30 rfl (lv_at hl 2 rfl) ?_
  refine lv_iload_n hx hb dX6_setCapacity_31 rfl (lv_at hl 3 rfl) ?_
  obtain ⟨M11, hM11, hp⟩ := ob hp
  refine mr_iast C0 hM hM11 dX6_setCapacity_32 (fun H locs hM => ?_)
  refine lv_aload_n hx hb dX6_setCapacity_33 rfl (lv_at hl 1 rfl) ?_
  obtain ⟨v12, hv12, hp⟩ := ob hp
  refine mr_getR C0 cbX6 hM 3 (by decide) tw_294 hv12 dX6_setCapacity_34 ?_
  obtain ⟨_, h13, hp⟩ := ob hp
  obtain ⟨M14, hM14, hp⟩ := ob hp
  refine mr_V0 (As := []) (rest := []) C0 cbX2 hM h13 rfl (w_X2_fillPlaces hG hM14) tw_1827 tw_1828 tw_1829 tw_17 tw_1830 yk_X2_fillPlaces (by decide) rfl hl.1 (Nat.le_of_ble_eq_true rfl) dX6_setCapacity_37 rfl (fun H locs hM => ?_)
  refine lv_iload_n hx hb dX6_setCapacity_40 rfl (lv_at hl 0 rfl) ?_
  exact mr_iret C0 hr hlk hM (Prod.mk.inj (Option.some.inj hp)).2 (Prod.mk.inj (Option.some.inj hp)).1 (Nat.le_refl _) (Nat.le_refl _) dX6_setCapacity_41
abbrev rm_X6_appeal : Room := { frames := 6, cells := 0, slots := 0, locals := 147 }
def p_X6_appeal (a0 : Nat) (a1 : Int32) (a2 : Int32) (M : Mem) : Option (Int32 × Mem) :=
  (Option.bind (isC 5 M a0) fun _ =>
  (Option.bind (p_X6_needChild a0 a1 M) fun v2 =>
  (Option.bind (isC 5 M a0) fun _ =>
  (Option.bind (p_X6_needSchool a0 a2 M) fun v4 =>
  (Option.bind (gR 5 3 M a0) fun v5 =>
  (Option.bind (isC 2 M v5) fun _ =>
  (Option.bind (p_X2_waits v5 a1 a2 M) fun v7 =>
  (if v7 = 0 then
   none
  else
   (Option.bind (isC 5 M a0) fun _ =>
   (Option.bind (p_X6_remember a0 M) fun M10 =>
   (Option.bind (gR 5 3 M10 a0) fun v11 =>
   (Option.bind (isC 2 M10 v11) fun _ =>
   (ob2 (p_X2_hearAppeal v11 a1 a2 M10) fun v13 M14 =>
   (Option.bind (gR 5 3 M14 a0) fun v15 =>
   (Option.bind (isC 2 M14 v15) fun _ =>
   (Option.bind (p_X2_fillPlaces v15 M14) fun M17 =>
   some (v13, M17)
   )
   )
   )
   )
   )
   )
   )
   )
  )
  )
  )
  )
  )
  )
  )
  )
theorem yk_X6_appeal : yok yX6_appeal 2 := by decide +kernel
set_option maxHeartbeats 4000000 in
set_option maxRecDepth 100000 in
theorem w_X6_appeal {G : gG} (hG : GOK G) {l : Launch} {a0 : Nat} {a1 : Int32} {a2 : Int32} {M : Mem} {r : Int32} {M' : Mem} (hp : p_X6_appeal a0 a1 a2 M = some (r, M')) : CT G l yX6_appeal (wT yX6_appeal cX6_appeal 4 (some FieldType.int)) rm_X6_appeal [.ref a0, .int a1, .int a2] M (some (.int r)) M' 0 0 := by
  refine CT_of (own := RX6) (maxL := 4) (ret := (some FieldType.int)) hG (by decide) rfl (Nat.le_of_ble_eq_true rfl) (fun p e s m below meth c A C0 hr hlk hM ls hl => ?_)
  have hl : lv_has ls 4 [(0, .ref a0), (1, .int a1), (2, .int a2)] := hl
  generalize ([.ref a0, .int a1, .int a2] : List Value).toArray = args at C0 ⊢
  skip
  have hx := C0.1
  have hb := C0.2.1
  have hown := C0.2.2.2.1
  have hts := C0.2.2.2.2.1
  unfold p_X6_appeal at hp
  refine lv_aload_n hx hb dX6_appeal_0 rfl (lv_at hl 0 rfl) ?_
  refine lv_iload_n hx hb dX6_appeal_1 rfl (lv_at hl 1 rfl) ?_
  obtain ⟨_, h1, hp⟩ := ob hp
  obtain ⟨v2, hv2, hp⟩ := ob hp
  refine mr_V0 (As := [.int a1]) (rest := []) C0 cbX6 hM h1 rfl (w_X6_needChild hG hv2) tw_1629 tw_1631 tws_17 tw_15 tw_1632 yk_X6_needChild (by decide) rfl hl.1 (Nat.le_of_ble_eq_true rfl) dX6_appeal_2 rfl (fun H locs hM => ?_)
  refine lv_aload_n hx hb dX6_appeal_5 rfl (lv_at hl 0 rfl) ?_
  refine lv_iload_n hx hb dX6_appeal_6 rfl (lv_at hl 2 rfl) ?_
  obtain ⟨_, h3, hp⟩ := ob hp
  obtain ⟨v4, hv4, hp⟩ := ob hp
  refine mr_V0 (As := [.int a2]) (rest := []) C0 cbX6 hM h3 rfl (w_X6_needSchool hG hv4) tw_1705 tw_1707 tws_20 tw_15 tw_1708 yk_X6_needSchool (by decide) rfl hl.1 (Nat.le_of_ble_eq_true rfl) dX6_appeal_7 rfl (fun H locs hM => ?_)
  refine lv_aload_n hx hb dX6_appeal_10 rfl (lv_at hl 0 rfl) ?_
  obtain ⟨v5, hv5, hp⟩ := ob hp
  refine mr_getR C0 cbX6 hM 3 (by decide) tw_294 hv5 dX6_appeal_11 ?_
  refine lv_iload_n hx hb dX6_appeal_14 rfl (lv_at hl 1 rfl) ?_
  refine lv_iload_n hx hb dX6_appeal_15 rfl (lv_at hl 2 rfl) ?_
  obtain ⟨_, h6, hp⟩ := ob hp
  obtain ⟨v7, hv7, hp⟩ := ob hp
  refine mr_V1 (As := [.int a1, .int a2]) (rest := []) C0 cbX2 hM h6 rfl (w_X2_waits hG hv7) tw_1729 tw_1715 tw_1716 tw_17 tw_1717 yk_X2_waits (by decide) rfl hl.1 (Nat.le_of_ble_eq_true rfl) dX6_appeal_16 rfl (fun H locs hM => ?_)
  refine lv_if_ne (tgt := 33) hx hb dX6_appeal_19 (by decide) (fun c8 => ?_) (fun c8 => ?_)
  · replace hp := oF c8 hp
    refine lv_aload_n hx hb dX6_appeal_33 rfl (lv_at hl 0 rfl) ?_
    obtain ⟨_, h9, hp⟩ := ob hp
    obtain ⟨M10, hM10, hp⟩ := ob hp
    refine mr_V0 (As := []) (rest := []) C0 cbX6 hM h9 rfl (w_X6_remember hG hM10) tw_530 tw_532 tws_0 tw_15 tw_533 yk_X6_remember (by decide) rfl hl.1 (Nat.le_of_ble_eq_true rfl) dX6_appeal_34 rfl (fun H locs hM => ?_)
    refine lv_aload_n hx hb dX6_appeal_37 rfl (lv_at hl 0 rfl) ?_
    obtain ⟨v11, hv11, hp⟩ := ob hp
    refine mr_getR C0 cbX6 hM 3 (by decide) tw_294 hv11 dX6_appeal_38 ?_
    refine lv_iload_n hx hb dX6_appeal_41 rfl (lv_at hl 1 rfl) ?_
    refine lv_iload_n hx hb dX6_appeal_42 rfl (lv_at hl 2 rfl) ?_
    obtain ⟨_, h12, hp⟩ := ob hp
    obtain ⟨v13, M14, hv13, hp⟩ := ob3 hp
    refine mr_V1 (As := [.int a1, .int a2]) (rest := []) C0 cbX2 hM h12 rfl (w_X2_hearAppeal hG hv13) tw_1933 tw_1934 tw_1935 tw_17 tw_1936 yk_X2_hearAppeal (by decide) rfl hl.1 (Nat.le_of_ble_eq_true rfl) dX6_appeal_43 rfl (fun H locs hM => ?_)
    refine lv_istore_n (lv' := [(3, .int v13), (0, .ref a0), (1, .int a1), (2, .int a2)]) hx hb dX6_appeal_46 rfl hl (by decide) rfl (fun ls hl => ?_)
    refine lv_aload_n hx hb dX6_appeal_47 rfl (lv_at hl 1 rfl) ?_
    obtain ⟨v15, hv15, hp⟩ := ob hp
    refine mr_getR C0 cbX6 hM 3 (by decide) tw_294 hv15 dX6_appeal_48 ?_
    obtain ⟨_, h16, hp⟩ := ob hp
    obtain ⟨M17, hM17, hp⟩ := ob hp
    refine mr_V0 (As := []) (rest := []) C0 cbX2 hM h16 rfl (w_X2_fillPlaces hG hM17) tw_1827 tw_1828 tw_1829 tw_17 tw_1830 yk_X2_fillPlaces (by decide) rfl hl.1 (Nat.le_of_ble_eq_true rfl) dX6_appeal_51 rfl (fun H locs hM => ?_)
    refine lv_iload_n hx hb dX6_appeal_54 rfl (lv_at hl 0 rfl) ?_
    exact mr_iret C0 hr hlk hM (Prod.mk.inj (Option.some.inj hp)).2 (Prod.mk.inj (Option.some.inj hp)).1 (Nat.le_refl _) (Nat.le_refl _) dX6_appeal_55
  · replace hp := oT c8 hp
    cases hp
abbrev rm_X6_setLate : Room := { frames := 6, cells := 0, slots := 0, locals := 144 }
def p_X6_setLate (a0 : Nat) (a1 : Int32) (M : Mem) : Option (Int32 × Mem) :=
  (Option.bind (isC 5 M a0) fun _ =>
  (Option.bind (p_X6_remember a0 M) fun M2 =>
  (Option.bind (gR 5 3 M2 a0) fun v3 =>
  (Option.bind (gI 2 3 M2 v3) fun v4 =>
  (Option.bind (gR 5 3 M2 a0) fun v5 =>
  (Option.bind (sZ 2 3 M2 v5 a1) fun M6 =>
  (Option.bind (gR 5 3 M6 a0) fun v7 =>
  (Option.bind (isC 2 M6 v7) fun _ =>
  (Option.bind (p_X2_fillPlaces v7 M6) fun M9 =>
  (if v4 = 0 ∨ v4 = 1 then some (v4, M9) else none)
  )
  )
  )
  )
  )
  )
  )
  )
  )
theorem yk_X6_setLate : yok yX6_setLate 1 := by decide +kernel
set_option maxHeartbeats 4000000 in
set_option maxRecDepth 100000 in
theorem w_X6_setLate {G : gG} (hG : GOK G) {l : Launch} {a0 : Nat} {a1 : Int32} {M : Mem} {r : Int32} {M' : Mem} (hp : p_X6_setLate a0 a1 M = some (r, M')) : CT G l yX6_setLate (wT yX6_setLate cX6_setLate 3 (some FieldType.boolean)) rm_X6_setLate [.ref a0, .int a1] M (some (.int r)) M' 0 0 := by
  refine CT_of (own := RX6) (maxL := 3) (ret := (some FieldType.boolean)) hG (by decide) rfl (Nat.le_of_ble_eq_true rfl) (fun p e s m below meth c A C0 hr hlk hM ls hl => ?_)
  have hl : lv_has ls 3 [(0, .ref a0), (1, .int a1)] := hl
  generalize ([.ref a0, .int a1] : List Value).toArray = args at C0 ⊢
  skip
  have hx := C0.1
  have hb := C0.2.1
  have hown := C0.2.2.2.1
  have hts := C0.2.2.2.2.1
  unfold p_X6_setLate at hp
  refine lv_aload_n hx hb dX6_setLate_0 rfl (lv_at hl 0 rfl) ?_
  obtain ⟨_, h1, hp⟩ := ob hp
  obtain ⟨M2, hM2, hp⟩ := ob hp
  refine mr_V0 (As := []) (rest := []) C0 cbX6 hM h1 rfl (w_X6_remember hG hM2) tw_530 tw_532 tws_0 tw_15 tw_533 yk_X6_remember (by decide) rfl hl.1 (Nat.le_of_ble_eq_true rfl) dX6_setLate_1 rfl (fun H locs hM => ?_)
  refine lv_aload_n hx hb dX6_setLate_4 rfl (lv_at hl 0 rfl) ?_
  obtain ⟨v3, hv3, hp⟩ := ob hp
  refine mr_getR C0 cbX6 hM 3 (by decide) tw_294 hv3 dX6_setLate_5 ?_
  obtain ⟨v4, hv4, hp⟩ := ob hp
  refine mr_getI C0 cbX2 hM 3 (by decide) tw_142 hv4 dX6_setLate_8 ?_
  refine lv_istore_n (lv' := [(2, .int v4), (0, .ref a0), (1, .int a1)]) hx hb dX6_setLate_11 rfl hl (by decide) rfl (fun ls hl => ?_)
  refine lv_aload_n hx hb dX6_setLate_12 rfl (lv_at hl 1 rfl) ?_
  obtain ⟨v5, hv5, hp⟩ := ob hp
  refine mr_getR C0 cbX6 hM 3 (by decide) tw_294 hv5 dX6_setLate_13 ?_
  refine lv_iload_n hx hb dX6_setLate_16 rfl (lv_at hl 2 rfl) ?_
  obtain ⟨M6, hM6, hp⟩ := ob hp
  refine mr_putZ C0 cbX2 hM 3 (by decide) rfl rfl tw_142 hM6 dX6_setLate_17 (fun H locs hM => ?_)
  refine lv_aload_n hx hb dX6_setLate_20 rfl (lv_at hl 1 rfl) ?_
  obtain ⟨v7, hv7, hp⟩ := ob hp
  refine mr_getR C0 cbX6 hM 3 (by decide) tw_294 hv7 dX6_setLate_21 ?_
  obtain ⟨_, h8, hp⟩ := ob hp
  obtain ⟨M9, hM9, hp⟩ := ob hp
  refine mr_V0 (As := []) (rest := []) C0 cbX2 hM h8 rfl (w_X2_fillPlaces hG hM9) tw_1827 tw_1828 tw_1829 tw_17 tw_1830 yk_X2_fillPlaces (by decide) rfl hl.1 (Nat.le_of_ble_eq_true rfl) dX6_setLate_24 rfl (fun H locs hM => ?_)
  refine lv_iload_n hx hb dX6_setLate_27 rfl (lv_at hl 0 rfl) ?_
  obtain ⟨hz, hp⟩ := oG hp
  exact mr_zret C0 hr hlk hM (Prod.mk.inj (Option.some.inj hp)).2 hz (Prod.mk.inj (Option.some.inj hp)).1 (Nat.le_refl _) (Nat.le_refl _) dX6_setLate_28
abbrev rm_X6_lastHolder : Room := { frames := 4, cells := 0, slots := 0, locals := 101 }
def p_X6_lastHolder (a0 : Nat) (a1 : Int32) (M : Mem) : Option (Int32) :=
  (Option.bind (isC 5 M a0) fun _ =>
  (Option.bind (p_X6_needSchool a0 a1 M) fun v2 =>
  (Option.bind (gR 5 3 M a0) fun v3 =>
  (Option.bind (gR 5 3 M a0) fun v4 =>
  (Option.bind (isC 2 M v4) fun _ =>
  (Option.bind (p_X2_holdersOf v4 a1 M) fun v6 =>
  (Option.bind (isC 2 M v3) fun _ =>
  (Option.bind (p_X2_lastOf v3 v6 a1 M) fun v8 =>
  some v8
  )
  )
  )
  )
  )
  )
  )
  )
theorem yk_X6_lastHolder : yok yX6_lastHolder 1 := by decide +kernel
set_option maxHeartbeats 4000000 in
set_option maxRecDepth 100000 in
theorem w_X6_lastHolder {G : gG} (hG : GOK G) {l : Launch} {a0 : Nat} {a1 : Int32} {M : Mem} {r : Int32} (hp : p_X6_lastHolder a0 a1 M = some r) : CT G l yX6_lastHolder (wT yX6_lastHolder cX6_lastHolder 2 (some FieldType.int)) rm_X6_lastHolder [.ref a0, .int a1] M (some (.int r)) M 0 0 := by
  refine CT_of (own := RX6) (maxL := 2) (ret := (some FieldType.int)) hG (by decide) rfl (Nat.le_of_ble_eq_true rfl) (fun p e s m below meth c A C0 hr hlk hM ls hl => ?_)
  have hl : lv_has ls 2 [(0, .ref a0), (1, .int a1)] := hl
  generalize ([.ref a0, .int a1] : List Value).toArray = args at C0 ⊢
  skip
  have hx := C0.1
  have hb := C0.2.1
  have hown := C0.2.2.2.1
  have hts := C0.2.2.2.2.1
  unfold p_X6_lastHolder at hp
  refine lv_aload_n hx hb dX6_lastHolder_0 rfl (lv_at hl 0 rfl) ?_
  refine lv_iload_n hx hb dX6_lastHolder_1 rfl (lv_at hl 1 rfl) ?_
  obtain ⟨_, h1, hp⟩ := ob hp
  obtain ⟨v2, hv2, hp⟩ := ob hp
  refine mr_V0 (As := [.int a1]) (rest := []) C0 cbX6 hM h1 rfl (w_X6_needSchool hG hv2) tw_1705 tw_1707 tws_20 tw_15 tw_1708 yk_X6_needSchool (by decide) rfl hl.1 (Nat.le_of_ble_eq_true rfl) dX6_lastHolder_2 rfl (fun H locs hM => ?_)
  refine lv_aload_n hx hb dX6_lastHolder_5 rfl (lv_at hl 0 rfl) ?_
  obtain ⟨v3, hv3, hp⟩ := ob hp
  refine mr_getR C0 cbX6 hM 3 (by decide) tw_294 hv3 dX6_lastHolder_6 ?_
  refine lv_aload_n hx hb dX6_lastHolder_9 rfl (lv_at hl 0 rfl) ?_
  obtain ⟨v4, hv4, hp⟩ := ob hp
  refine mr_getR C0 cbX6 hM 3 (by decide) tw_294 hv4 dX6_lastHolder_10 ?_
  refine lv_iload_n hx hb dX6_lastHolder_13 rfl (lv_at hl 1 rfl) ?_
  obtain ⟨_, h5, hp⟩ := ob hp
  obtain ⟨v6, hv6, hp⟩ := ob hp
  refine mr_V1 (As := [.int a1]) (rest := [.ref v3]) C0 cbX2 hM h5 rfl (w_X2_holdersOf hG hv6) tw_1747 tw_568 tw_569 tw_17 tw_570 yk_X2_holdersOf (by decide) rfl hl.1 (Nat.le_of_ble_eq_true rfl) dX6_lastHolder_14 rfl (fun H locs hM => ?_)
  refine lv_iload_n hx hb dX6_lastHolder_17 rfl (lv_at hl 1 rfl) ?_
  obtain ⟨_, h7, hp⟩ := ob hp
  obtain ⟨v8, hv8, hp⟩ := ob hp
  refine mr_V1 (As := [.long v6, .int a1]) (rest := []) C0 cbX2 hM h7 rfl (w_X2_lastOf hG hv8) tw_1754 tw_578 tw_579 tw_17 tw_580 yk_X2_lastOf (by decide) rfl hl.1 (Nat.le_of_ble_eq_true rfl) dX6_lastHolder_18 rfl (fun H locs hM => ?_)
  exact mr_iret C0 hr hlk hM rfl (Option.some.inj hp) (Nat.le_refl _) (Nat.le_refl _) dX6_lastHolder_21
abbrev rm_X6_firstShare : Room := { frames := 2, cells := 0, slots := 0, locals := 43 }
def pl_X6_firstShare_6 (k1 : Int32 → Int32 → Option (UInt32)) (f0 : Nat) (M : Mem) : Nat → Int32 → Int32 → Int32 → Option (UInt32)
  | 0, _, _, _ => none
  | n + 1, y1, y2, y3 =>
    (Option.bind (gR 5 3 M f0) fun v1 =>
    (Option.bind (gI 2 1 M v1) fun v2 =>
    (if v2 ≤ y3 then
     (k1 y1 y2)
    else
     (Option.bind (gR 5 3 M f0) fun v4 =>
     (Option.bind (isC 2 M v4) fun _ =>
     (Option.bind (p_X2_gotWish v4 y3 M) fun v6 =>
     (jn (fun (s7 : Int32) =>
      (jn (fun (s9 : Int32) =>
       (pl_X6_firstShare_6 k1 f0 M n (y1 + s7) (y2 + s9) (y3 + (1 : Int32)))
      ) fun k10 =>
      (if v6 = 0 then
       (k10 (1 : Int32))
      else
       (k10 (0 : Int32))
      )
      )
     ) fun k8 =>
     (if v6 < 0 then
      (k8 (0 : Int32))
     else
      (k8 (1 : Int32))
     )
     )
     )
     )
     )
    )
    )
    )
set_option maxHeartbeats 4000000 in
set_option maxRecDepth 100000 in
theorem wl_X6_firstShare_6 {G : gG} {p : Program} {l : Launch} {e : Env} {s : State} {m : MethodId} {args : Array Value} {below : List Frame} {meth : Method} {c : Code} {A : Nat → Prop} {r : UInt32} {k1 : Int32 → Int32 → Option (UInt32)} {f0 : Nat} {M : Mem} (C0 : cx G p s m args c cX6_firstShare RX6 5 A) (hr : meth.sig.returnType = (some FieldType.float)) (hlk : meth.locks = false) (hG : GOK G) (hk1 : ∀ (z1 : Int32) (z2 : Int32) (H : Heap) (locs : List Loc) (ls : Array Slot), mm G A s M H locs → lv_has ls 5 [(1, .int z1), (2, .int z2)] → k1 z1 z2 = some r → W p l e rm_X6_firstShare s m args below meth c H locs 0 0 (MQ below (CQ G M (some (.float r)) A) args s 0 0 A) (F0 m 59 ls [])) : ∀ (n : Nat) (y1 : Int32) (y2 : Int32) (y3 : Int32) (H : Heap) (locs : List Loc) (ls : Array Slot), mm G A s M H locs → lv_has ls 5 [(0, .ref f0), (1, .int y1), (2, .int y2), (3, .int y3)] → pl_X6_firstShare_6 k1 f0 M n y1 y2 y3 = some r → W p l e rm_X6_firstShare s m args below meth c H locs 0 0 (MQ below (CQ G M (some (.float r)) A) args s 0 0 A) (F0 m 6 ls []) := by
  have hx := C0.1
  have hb := C0.2.1
  have hown := C0.2.2.2.1
  have hts := C0.2.2.2.2.1
  intro n
  induction n with
  | zero => intro y1 y2 y3 H locs ls hM hl hp; rw [pl_X6_firstShare_6] at hp; cases hp
  | succ n ih =>
    intro y1 y2 y3 H locs ls hM hl hp
    rw [pl_X6_firstShare_6] at hp
    refine lv_iload_n hx hb dX6_firstShare_6 rfl (lv_at hl 3 rfl) ?_
    refine lv_aload_n hx hb dX6_firstShare_7 rfl (lv_at hl 0 rfl) ?_
    obtain ⟨v1, hv1, hp⟩ := ob hp
    refine mr_getR C0 cbX6 hM 3 (by decide) tw_294 hv1 dX6_firstShare_8 ?_
    obtain ⟨v2, hv2, hp⟩ := ob hp
    refine mr_getI C0 cbX2 hM 1 (by decide) tw_137 hv2 dX6_firstShare_11 ?_
    refine lv_icmp_ge (tgt := 59) hx hb dX6_firstShare_14 (by decide) (fun c3 => ?_) (fun c3 => ?_)
    · replace hp := oT c3 hp
      exact hk1 _ _ _ _ _ hM (lv_sub hl [1, 2] rfl) hp
    · replace hp := oF c3 hp
      refine lv_aload_n hx hb dX6_firstShare_17 rfl (lv_at hl 0 rfl) ?_
      obtain ⟨v4, hv4, hp⟩ := ob hp
      refine mr_getR C0 cbX6 hM 3 (by decide) tw_294 hv4 dX6_firstShare_18 ?_
      refine lv_iload_n hx hb dX6_firstShare_21 rfl (lv_at hl 3 rfl) ?_
      obtain ⟨_, h5, hp⟩ := ob hp
      obtain ⟨v6, hv6, hp⟩ := ob hp
      refine mr_V1 (As := [.int y3]) (rest := []) C0 cbX2 hM h5 rfl (w_X2_gotWish hG hv6) tw_1686 tw_1687 tw_1688 tw_17 tw_1689 yk_X2_gotWish (by decide) rfl hl.1 (Nat.le_of_ble_eq_true rfl) dX6_firstShare_22 rfl (fun H locs hM => ?_)
      refine lv_istore (lv' := [(4, .int v6), (0, .ref f0), (1, .int y1), (2, .int y2), (3, .int y3)]) hx hb dX6_firstShare_25 hl (by decide) rfl (fun ls hl => ?_)
      refine lv_iload_n hx hb dX6_firstShare_27 rfl (lv_at hl 2 rfl) ?_
      refine lv_iload hx hb dX6_firstShare_28 (lv_at hl 0 rfl) ?_
      obtain ⟨k8, ek8, hp⟩ := ojn hp
      have hk8 : ∀ (s7 : Int32) (H : Heap) (locs : List Loc) (ls : Array Slot), mm G A s M H locs → lv_has ls 5 [(0, .ref f0), (2, .int y2), (3, .int y3), (4, .int v6)] → k8 s7 = some r → W p l e rm_X6_firstShare s m args below meth c H locs 0 0 (MQ below (CQ G M (some (.float r)) A) args s 0 0 A) (F0 m 38 ls [.int s7, .int y1]) := by
        intro s7 H locs ls hM hl hp
        rw [ek8] at hp
        refine lv_iadd hx hb dX6_firstShare_38 ?_
        refine lv_istore_n (lv' := [(1, .int (y1 + s7)), (0, .ref f0), (2, .int y2), (3, .int y3), (4, .int v6)]) hx hb dX6_firstShare_39 rfl hl (by decide) rfl (fun ls hl => ?_)
        refine lv_iload_n hx hb dX6_firstShare_40 rfl (lv_at hl 2 rfl) ?_
        refine lv_iload hx hb dX6_firstShare_41 (lv_at hl 4 rfl) ?_
        obtain ⟨k10, ek10, hp⟩ := ojn hp
        have hk10 : ∀ (s9 : Int32) (H : Heap) (locs : List Loc) (ls : Array Slot), mm G A s M H locs → lv_has ls 5 [(0, .ref f0), (1, .int (y1 + s7)), (3, .int y3)] → k10 s9 = some r → W p l e rm_X6_firstShare s m args below meth c H locs 0 0 (MQ below (CQ G M (some (.float r)) A) args s 0 0 A) (F0 m 51 ls [.int s9, .int y2]) := by
          intro s9 H locs ls hM hl hp
          rw [ek10] at hp
          refine lv_iadd hx hb dX6_firstShare_51 ?_
          refine lv_istore_n (lv' := [(2, .int (y2 + s9)), (0, .ref f0), (1, .int (y1 + s7)), (3, .int y3)]) hx hb dX6_firstShare_52 rfl hl (by decide) rfl (fun ls hl => ?_)
          refine lv_iinc (v := (y3 + (1 : Int32))) (lv' := [(3, .int (y3 + (1 : Int32))), (2, .int (y2 + s9)), (0, .ref f0), (1, .int (y1 + s7))]) hx hb dX6_firstShare_53 hl (k := 3) rfl rfl (by decide) rfl (fun ls hl => ?_)
          refine lv_goto (tgt := 6) hx hb dX6_firstShare_56 (by decide) ?_
          exact ih _ _ _ _ _ _ hM (lv_sub hl [2, 3, 1, 0] rfl) hp
        refine lv_if_ne (tgt := 50) hx hb dX6_firstShare_43 (by decide) (fun c11 => ?_) (fun c11 => ?_)
        · replace hp := oF c11 hp
          refine lv_iconst (v := 0) hx hb dX6_firstShare_50 (by decide) ?_
          exact hk10 _ _ _ _ hM (lv_sub hl [1, 0, 3] rfl) hp
        · replace hp := oT c11 hp
          refine lv_iconst (v := 1) hx hb dX6_firstShare_46 (by decide) ?_
          refine lv_goto (tgt := 51) hx hb dX6_firstShare_47 (by decide) ?_
          exact hk10 _ _ _ _ hM (lv_sub hl [1, 0, 3] rfl) hp
      refine lv_if_lt (tgt := 37) hx hb dX6_firstShare_30 (by decide) (fun c12 => ?_) (fun c12 => ?_)
      · replace hp := oT c12 hp
        refine lv_iconst (v := 0) hx hb dX6_firstShare_37 (by decide) ?_
        exact hk8 _ _ _ _ hM (lv_sub hl [1, 3, 4, 0] rfl) hp
      · replace hp := oF c12 hp
        refine lv_iconst (v := 1) hx hb dX6_firstShare_33 (by decide) ?_
        refine lv_goto (tgt := 38) hx hb dX6_firstShare_34 (by decide) ?_
        exact hk8 _ _ _ _ hM (lv_sub hl [1, 3, 4, 0] rfl) hp
def p_X6_firstShare (a0 : Nat) (M : Mem) : Option (UInt32) :=
  (pl_X6_firstShare_6
   (fun (z13 : Int32) (z14 : Int32) =>
    (if z13 = 0 then
     some FP.fconst0
    else
     (jn (FP.fdiv (FP.i2f z14) (FP.i2f z13)) fun w16 =>
     (if w16 &&& 0x7fffffff ≤ 0x7f800000 then
     some w16
     else none))
    )
   )
   a0 M FU (0 : Int32) (0 : Int32) (0 : Int32))
theorem yk_X6_firstShare : yok yX6_firstShare 0 := by decide +kernel
set_option maxHeartbeats 4000000 in
set_option maxRecDepth 100000 in
theorem w_X6_firstShare {G : gG} (hG : GOK G) {l : Launch} {a0 : Nat} {M : Mem} {r : UInt32} (hp : p_X6_firstShare a0 M = some r) : CT G l yX6_firstShare (wT yX6_firstShare cX6_firstShare 5 (some FieldType.float)) rm_X6_firstShare [.ref a0] M (some (.float r)) M 0 0 := by
  refine CT_of (own := RX6) (maxL := 5) (ret := (some FieldType.float)) hG (by decide) rfl (Nat.le_of_ble_eq_true rfl) (fun p e s m below meth c A C0 hr hlk hM ls hl => ?_)
  have hl : lv_has ls 5 [(0, .ref a0)] := hl
  generalize ([.ref a0] : List Value).toArray = args at C0 ⊢
  skip
  have hx := C0.1
  have hb := C0.2.1
  have hown := C0.2.2.2.1
  have hts := C0.2.2.2.2.1
  unfold p_X6_firstShare at hp
  refine lv_iconst (v := 0) hx hb dX6_firstShare_0 (by decide) ?_
  refine lv_istore_n (lv' := [(1, .int (0 : Int32)), (0, .ref a0)]) hx hb dX6_firstShare_1 rfl hl (by decide) rfl (fun ls hl => ?_)
  refine lv_iconst (v := 0) hx hb dX6_firstShare_2 (by decide) ?_
  refine lv_istore_n (lv' := [(2, .int (0 : Int32)), (1, .int (0 : Int32)), (0, .ref a0)]) hx hb dX6_firstShare_3 rfl hl (by decide) rfl (fun ls hl => ?_)
  refine lv_iconst (v := 0) hx hb dX6_firstShare_4 (by decide) ?_
  refine lv_istore_n (lv' := [(3, .int (0 : Int32)), (2, .int (0 : Int32)), (1, .int (0 : Int32)), (0, .ref a0)]) hx hb dX6_firstShare_5 rfl hl (by decide) rfl (fun ls hl => ?_)
  refine wl_X6_firstShare_6 C0 hr hlk hG (fun z13 z14 H locs ls hM hl hp => ?_) FU _ _ _ _ _ _ hM (lv_sub hl [3, 2, 1, 0] rfl) hp
  refine lv_iload_n hx hb dX6_firstShare_59 rfl (lv_at hl 0 rfl) ?_
  refine lv_if_ne (tgt := 67) hx hb dX6_firstShare_60 (by decide) (fun c15 => ?_) (fun c15 => ?_)
  · replace hp := oF c15 hp
    refine lv_iload_n hx hb dX6_firstShare_67 rfl (lv_at hl 1 rfl) ?_
    refine lv_i2f hx hb dX6_firstShare_68 ?_
    refine lv_iload_n hx hb dX6_firstShare_69 rfl (lv_at hl 0 rfl) ?_
    refine lv_i2f hx hb dX6_firstShare_70 ?_
    obtain ⟨w16, ew16, hp⟩ := ojn hp
    obtain ⟨hne, hp⟩ := oG hp
    refine lv_fdiv hx hb dX6_firstShare_71 (by rw [← ew16]; exact hne) ?_
    rw [← ew16]
    exact mr_fret C0 hr hlk hM rfl (Option.some.inj hp) (Nat.le_refl _) (Nat.le_refl _) dX6_firstShare_72
  · replace hp := oT c15 hp
    refine lv_fconst0 hx hb dX6_firstShare_63 ?_
    refine lv_goto (tgt := 72) hx hb dX6_firstShare_64 (by decide) ?_
    exact mr_fret C0 hr hlk hM rfl (Option.some.inj hp) (Nat.le_refl _) (Nat.le_refl _) dX6_firstShare_72
