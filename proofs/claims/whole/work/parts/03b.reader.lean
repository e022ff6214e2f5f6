abbrev rm_X3_append : Room := { frames := 0, cells := 0, slots := 0, locals := 0 }
def pl_X3_append_3 (k1 : Mem → Option (Mem)) (f0 : Nat) (f1 : Int32) : Nat → Int32 → Mem → Option (Mem)
  | 0, _, _ => none
  | n + 1, y2, M =>
    (if y2 < 0 then
     (k1  M)
    else
     (Option.bind (gI 3 1 M f0) fun v4 =>
     (if (900 : Int32) ≤ v4 then
      (k1  M)
     else
      (Option.bind (gR 3 0 M f0) fun v6 =>
      (Option.bind (gI 3 1 M f0) fun v7 =>
      (Option.bind (aBs M v6 v7 (Int8.toInt32 (Int32.toInt8 (f1 >>> (y2 &&& 31))))) fun M8 =>
      (Option.bind (gI 3 1 M8 f0) fun v9 =>
      (Option.bind (sV 3 1 M8 f0 (.int (v9 + (1 : Int32)))) fun M10 =>
      (pl_X3_append_3 k1 f0 f1 n (y2 + (-8 : Int32)) M10)
      )
      )
      )
      )
      )
     )
     )
    )
set_option maxHeartbeats 4000000 in
set_option maxRecDepth 100000 in
theorem wl_X3_append_3 {G : gG} {p : Program} {l : Launch} {e : Env} {s : State} {m : MethodId} {args : Array Value} {below : List Frame} {meth : Method} {c : Code} {A : Nat → Prop} {M' : Mem} {k1 : Mem → Option (Mem)} {f0 : Nat} {f1 : Int32} (C0 : cx G p s m args c cX3_append RX3 3 A) (hr : meth.sig.returnType = (none)) (hlk : meth.locks = false) (hG : GOK G) (hk1 : ∀ (M : Mem) (H : Heap) (locs : List Loc) (ls : Array Slot), mm G A s M H locs → lv_has ls 3 [] → k1 M = some M' → W p l e rm_X3_append s m args below meth c H locs 0 0 (MQ below (CQ G M' none A) args s 0 0 A) (F0 m 46 ls [])) : ∀ (n : Nat) (y2 : Int32) (M : Mem) (H : Heap) (locs : List Loc) (ls : Array Slot), mm G A s M H locs → lv_has ls 3 [(0, .ref f0), (1, .int f1), (2, .int y2)] → pl_X3_append_3 k1 f0 f1 n y2 M = some M' → W p l e rm_X3_append s m args below meth c H locs 0 0 (MQ below (CQ G M' none A) args s 0 0 A) (F0 m 3 ls []) := by
  have hx := C0.1
  have hb := C0.2.1
  have hown := C0.2.2.2.1
  have hts := C0.2.2.2.2.1
  intro n
  induction n with
  | zero => intro y2 M H locs ls hM hl hp; rw [pl_X3_append_3] at hp; cases hp
  | succ n ih =>
    intro y2 M H locs ls hM hl hp
    rw [pl_X3_append_3] at hp
    refine lv_iload_n hx hb dX3_append_3 rfl (lv_at hl 2 rfl) ?_
    refine lv_if_lt (tgt := 46) hx hb dX3_append_4 (by decide) (fun c3 => ?_) (fun c3 => ?_)
    · replace hp := oT c3 hp
      exact hk1  _ _ _ _ hM (lv_sub hl [] rfl) hp
    · replace hp := oF c3 hp
      refine lv_aload_n hx hb dX3_append_7 rfl (lv_at hl 0 rfl) ?_
      obtain ⟨v4, hv4, hp⟩ := ob hp
      refine mr_getI C0 cbX3 hM 1 (by decide) tw_209 hv4 dX3_append_8 ?_
      refine lv_sipush (v := 900) hx hb dX3_append_11 (by decide) ?_
      refine lv_icmp_ge (tgt := 46) hx hb dX3_append_14 (by decide) (fun c5 => ?_) (fun c5 => ?_)
      · replace hp := oT c5 hp
        exact hk1  _ _ _ _ hM (lv_sub hl [] rfl) hp
      · replace hp := oF c5 hp
        refine lv_aload_n hx hb dX3_append_17 rfl (lv_at hl 0 rfl) ?_
        obtain ⟨v6, hv6, hp⟩ := ob hp
        refine mr_getR C0 cbX3 hM 0 (by decide) tw_208 hv6 dX3_append_18 ?_
        refine lv_aload_n hx hb dX3_append_21 rfl (lv_at hl 0 rfl) ?_
        obtain ⟨v7, hv7, hp⟩ := ob hp
        refine mr_getI C0 cbX3 hM 1 (by decide) tw_209 hv7 dX3_append_22 ?_
        refine lv_iload_n hx hb dX3_append_25 rfl (lv_at hl 1 rfl) ?_
        refine lv_iload_n hx hb dX3_append_26 rfl (lv_at hl 2 rfl) ?_
        refine lv_ishr hx hb dX3_append_27 ?_
        refine lv_i2b (v := (Int8.toInt32 (Int32.toInt8 (f1 >>> (y2 &&& 31))))) hx hb dX3_append_28 rfl ?_
        obtain ⟨M8, hM8, hp⟩ := ob hp
        refine mr_bast C0 hM hM8 dX3_append_29 (fun H locs hM => ?_)
        refine lv_aload_n hx hb dX3_append_30 rfl (lv_at hl 0 rfl) ?_
        refine lv_dup hx hb dX3_append_31 rfl ?_
        obtain ⟨v9, hv9, hp⟩ := ob hp
        refine mr_getI C0 cbX3 hM 1 (by decide) tw_209 hv9 dX3_append_32 ?_
        refine lv_iconst (v := 1) hx hb dX3_append_35 (by decide) ?_
        refine lv_iadd hx hb dX3_append_36 ?_
        obtain ⟨M10, hM10, hp⟩ := ob hp
        refine mr_putI C0 cbX3 hM 1 (by decide) rfl rfl tw_209 hM10 dX3_append_37 (fun H locs hM => ?_)
        refine lv_iinc (v := (y2 + (-8 : Int32))) (lv' := [(2, .int (y2 + (-8 : Int32))), (0, .ref f0), (1, .int f1)]) hx hb dX3_append_40 hl (k := 2) rfl rfl (by decide) rfl (fun ls hl => ?_)
        refine lv_goto (tgt := 3) hx hb dX3_append_43 (by decide) ?_
        exact ih _ _ _ _ _ hM (lv_sub hl [1, 2, 0] rfl) hp
def p_X3_append (a0 : Nat) (a1 : Int32) (M : Mem) : Option (Mem) :=
  (jn (fun  (M1 : Mem) =>
   some M1
  ) fun k2 =>
  (pl_X3_append_3
   (fun  (M11 : Mem) =>
    (k2  M11)
   )
   a0 a1 FU (24 : Int32) M)
  )
theorem yk_X3_append : yok yX3_append 1 := by decide +kernel
set_option maxHeartbeats 4000000 in
set_option maxRecDepth 100000 in
theorem w_X3_append {G : gG} (hG : GOK G) {l : Launch} {a0 : Nat} {a1 : Int32} {M : Mem} {M' : Mem} (hp : p_X3_append a0 a1 M = some M') : CT G l yX3_append (wT yX3_append cX3_append 3 (none)) rm_X3_append [.ref a0, .int a1] M none M' 0 0 := by
  refine CT_of (own := RX3) (maxL := 3) (ret := (none)) hG (by decide) rfl (Nat.le_of_ble_eq_true rfl) (fun p e s m below meth c A C0 hr hlk hM ls hl => ?_)
  have hl : lv_has ls 3 [(0, .ref a0), (1, .int a1)] := hl
  generalize ([.ref a0, .int a1] : List Value).toArray = args at C0 ⊢
  skip
  have hx := C0.1
  have hb := C0.2.1
  have hown := C0.2.2.2.1
  have hts := C0.2.2.2.2.1
  unfold p_X3_append at hp
  refine lv_bipush (v := 24) hx hb dX3_append_0 (by decide) ?_
  refine lv_istore_n (lv' := [(2, .int (24 : Int32)), (0, .ref a0), (1, .int a1)]) hx hb dX3_append_2 rfl hl (by decide) rfl (fun ls hl => ?_)
  obtain ⟨k2, ek2, hp⟩ := ojn hp
  have hk2 : ∀ (M1 : Mem) (H : Heap) (locs : List Loc) (ls : Array Slot), mm G A s M1 H locs → lv_has ls 3 [] → k2  M1 = some M' → W p l e rm_X3_append s m args below meth c H locs 0 0 (MQ below (CQ G M' none A) args s 0 0 A) (F0 m 46 ls []) := by
    intro  M1 H locs ls hM hl hp
    rw [ek2] at hp
    exact mr_vret C0 hr hlk hM (Option.some.inj hp) (Nat.le_refl _) (Nat.le_refl _) dX3_append_46
  refine wl_X3_append_3 C0 hr hlk hG (fun M11 H locs ls hM hl hp => ?_) FU _ _ _ _ _ hM (lv_sub hl [1, 2, 0] rfl) hp
  exact hk2  _ _ _ _ hM (lv_sub hl [] rfl) hp
abbrev rm_X3_kindOf : Room := { frames := 0, cells := 0, slots := 0, locals := 0 }
def p_X3_kindOf (a0 : Int32) (M : Mem) : Option (Int32) :=
  (jn (fun (_ : Unit) =>
   (jn (fun (_ : Unit) =>
    (if a0 = (59 : Int32) then
     some (3 : Int32)
    else
     some (4 : Int32)
    )
   ) fun k2 =>
   (if a0 < (48 : Int32) then
    (k2 ())
   else
    (if (57 : Int32) < a0 then
     (k2 ())
    else
     some (2 : Int32)
    )
   )
   )
  ) fun k1 =>
  (if a0 < (97 : Int32) then
   (k1 ())
  else
   (if (122 : Int32) < a0 then
    (k1 ())
   else
    some (1 : Int32)
   )
  )
  )
theorem yk_X3_kindOf : yok yX3_kindOf 1 := by decide +kernel
set_option maxHeartbeats 4000000 in
set_option maxRecDepth 100000 in
theorem w_X3_kindOf {G : gG} (hG : GOK G) {l : Launch} {a0 : Int32} {M : Mem} {r : Int32} (hp : p_X3_kindOf a0 M = some r) : CT G l yX3_kindOf (wT yX3_kindOf cX3_kindOf 1 (some FieldType.int)) rm_X3_kindOf [.int a0] M (some (.int r)) M 0 0 := by
  refine CT_of (own := RX3) (maxL := 1) (ret := (some FieldType.int)) hG (by decide) rfl (Nat.le_of_ble_eq_true rfl) (fun p e s m below meth c A C0 hr hlk hM ls hl => ?_)
  have hl : lv_has ls 1 [(0, .int a0)] := hl
  generalize ([.int a0] : List Value).toArray = args at C0 ⊢
  skip
  have hx := C0.1
  have hb := C0.2.1
  have hown := C0.2.2.2.1
  have hts := C0.2.2.2.2.1
  unfold p_X3_kindOf at hp
  refine lv_iload_n hx hb dX3_kindOf_0 rfl (lv_at hl 0 rfl) ?_
  refine lv_bipush (v := 97) hx hb dX3_kindOf_1 (by decide) ?_
  obtain ⟨k1, ek1, hp⟩ := ojn hp
  have hk1 : ∀ (H : Heap) (locs : List Loc) (ls : Array Slot), mm G A s M H locs → lv_has ls 1 [(0, .int a0)] → k1 () = some r → W p l e rm_X3_kindOf s m args below meth c H locs 0 0 (MQ below (CQ G M (some (.int r)) A) args s 0 0 A) (F0 m 14 ls []) := by
    intro  H locs ls hM hl hp
    rw [ek1] at hp
    refine lv_iload_n hx hb dX3_kindOf_14 rfl (lv_at hl 0 rfl) ?_
    refine lv_bipush (v := 48) hx hb dX3_kindOf_15 (by decide) ?_
    obtain ⟨k2, ek2, hp⟩ := ojn hp
    have hk2 : ∀ (H : Heap) (locs : List Loc) (ls : Array Slot), mm G A s M H locs → lv_has ls 1 [(0, .int a0)] → k2 () = some r → W p l e rm_X3_kindOf s m args below meth c H locs 0 0 (MQ below (CQ G M (some (.int r)) A) args s 0 0 A) (F0 m 28 ls []) := by
      intro  H locs ls hM hl hp
      rw [ek2] at hp
      refine lv_iload_n hx hb dX3_kindOf_28 rfl (lv_at hl 0 rfl) ?_
      refine lv_bipush (v := 59) hx hb dX3_kindOf_29 (by decide) ?_
      refine lv_icmp_ne (tgt := 38) hx hb dX3_kindOf_31 (by decide) (fun c3 => ?_) (fun c3 => ?_)
      · replace hp := oF c3 hp
        refine lv_iconst (v := 4) hx hb dX3_kindOf_38 (by decide) ?_
        exact mr_iret C0 hr hlk hM rfl (Option.some.inj hp) (Nat.le_refl _) (Nat.le_refl _) dX3_kindOf_39
      · replace hp := oT c3 hp
        refine lv_iconst (v := 3) hx hb dX3_kindOf_34 (by decide) ?_
        refine lv_goto (tgt := 39) hx hb dX3_kindOf_35 (by decide) ?_
        exact mr_iret C0 hr hlk hM rfl (Option.some.inj hp) (Nat.le_refl _) (Nat.le_refl _) dX3_kindOf_39
    refine lv_icmp_lt (tgt := 28) hx hb dX3_kindOf_17 (by decide) (fun c4 => ?_) (fun c4 => ?_)
    · replace hp := oT c4 hp
      exact hk2  _ _ _ hM (lv_sub hl [0] rfl) hp
    · replace hp := oF c4 hp
      refine lv_iload_n hx hb dX3_kindOf_20 rfl (lv_at hl 0 rfl) ?_
      refine lv_bipush (v := 57) hx hb dX3_kindOf_21 (by decide) ?_
      refine lv_icmp_gt (tgt := 28) hx hb dX3_kindOf_23 (by decide) (fun c5 => ?_) (fun c5 => ?_)
      · replace hp := oT c5 hp
        exact hk2  _ _ _ hM (lv_sub hl [0] rfl) hp
      · replace hp := oF c5 hp
        refine lv_iconst (v := 2) hx hb dX3_kindOf_26 (by decide) ?_
        exact mr_iret C0 hr hlk hM rfl (Option.some.inj hp) (Nat.le_refl _) (Nat.le_refl _) dX3_kindOf_27
  refine lv_icmp_lt (tgt := 14) hx hb dX3_kindOf_3 (by decide) (fun c6 => ?_) (fun c6 => ?_)
  · replace hp := oT c6 hp
    exact hk1  _ _ _ hM (lv_sub hl [0] rfl) hp
  · replace hp := oF c6 hp
    refine lv_iload_n hx hb dX3_kindOf_6 rfl (lv_at hl 0 rfl) ?_
    refine lv_bipush (v := 122) hx hb dX3_kindOf_7 (by decide) ?_
    refine lv_icmp_gt (tgt := 14) hx hb dX3_kindOf_9 (by decide) (fun c7 => ?_) (fun c7 => ?_)
    · replace hp := oT c7 hp
      exact hk1  _ _ _ hM (lv_sub hl [0] rfl) hp
    · replace hp := oF c7 hp
      refine lv_iconst (v := 1) hx hb dX3_kindOf_12 (by decide) ?_
      exact mr_iret C0 hr hlk hM rfl (Option.some.inj hp) (Nat.le_refl _) (Nat.le_refl _) dX3_kindOf_13
abbrev rm_X3_fail : Room := { frames := 0, cells := 0, slots := 0, locals := 0 }
def p_X3_fail (a0 : Nat) (a1 : Int32) (M : Mem) : Option (Mem) :=
  (Option.bind (sV 3 2 M a0 (.int a1)) fun M1 =>
  (Option.bind (gI 3 9 M1 a0) fun v2 =>
  (Option.bind (sV 3 3 M1 a0 (.int v2)) fun M3 =>
  some M3
  )
  )
  )
theorem yk_X3_fail : yok yX3_fail 1 := by decide +kernel
set_option maxHeartbeats 4000000 in
set_option maxRecDepth 100000 in
theorem w_X3_fail {G : gG} (hG : GOK G) {l : Launch} {a0 : Nat} {a1 : Int32} {M : Mem} {M' : Mem} (hp : p_X3_fail a0 a1 M = some M') : CT G l yX3_fail (wT yX3_fail cX3_fail 2 (none)) rm_X3_fail [.ref a0, .int a1] M none M' 0 0 := by
  refine CT_of (own := RX3) (maxL := 2) (ret := (none)) hG (by decide) rfl (Nat.le_of_ble_eq_true rfl) (fun p e s m below meth c A C0 hr hlk hM ls hl => ?_)
  have hl : lv_has ls 2 [(0, .ref a0), (1, .int a1)] := hl
  generalize ([.ref a0, .int a1] : List Value).toArray = args at C0 ⊢
  skip
  have hx := C0.1
  have hb := C0.2.1
  have hown := C0.2.2.2.1
  have hts := C0.2.2.2.2.1
  unfold p_X3_fail at hp
  refine lv_aload_n hx hb dX3_fail_0 rfl (lv_at hl 0 rfl) ?_
  refine lv_iload_n hx hb dX3_fail_1 rfl (lv_at hl 1 rfl) ?_
  obtain ⟨M1, hM1, hp⟩ := ob hp
  refine mr_putI C0 cbX3 hM 2 (by decide) rfl rfl tw_211 hM1 dX3_fail_2 (fun H locs hM => ?_)
  refine lv_aload_n hx hb dX3_fail_5 rfl (lv_at hl 0 rfl) ?_
  refine lv_aload_n hx hb dX3_fail_6 rfl (lv_at hl 0 rfl) ?_
  obtain ⟨v2, hv2, hp⟩ := ob hp
  refine mr_getI C0 cbX3 hM 9 (by decide) tw_221 hv2 dX3_fail_7 ?_
  obtain ⟨M3, hM3, hp⟩ := ob hp
  refine mr_putI C0 cbX3 hM 3 (by decide) rfl rfl tw_213 hM3 dX3_fail_10 (fun H locs hM => ?_)
  exact mr_vret C0 hr hlk hM (Option.some.inj hp) (Nat.le_refl _) (Nat.le_refl _) dX3_fail_13
