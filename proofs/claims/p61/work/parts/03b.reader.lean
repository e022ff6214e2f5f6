abbrev rm_X3_append : Room := { frames := 0, cells := 0, slots := 0, locals := 0 }
def pl_X3_append_3 (k1 : Mem → Option (Mem)) (f0 : Nat) (f1 : Int32) : Nat → Int32 → Mem → Option (Mem)
  | 0, _, _ => none
  | n + 1, y2, M =>
    (if y2 < 0 then
     (k1  M)
    else
     (Option.bind (gI 3 1 M f0) fun v4 =>
     (if (900 : Int32) ≤ v4 then
      (k1  M)
     else
      (Option.bind (gR 3 0 M f0) fun v6 =>
      (Option.bind (gI 3 1 M f0) fun v7 =>
      (Option.bind (aBs M v6 v7 (Int8.toInt32 (Int32.toInt8 (f1 >>> (y2 &&& 31))))) fun M8 =>
      (Option.bind (gI 3 1 M8 f0) fun v9 =>
      (Option.bind (sV 3 1 M8 f0 (.int (v9 + (1 : Int32)))) fun M10 =>
      (pl_X3_append_3 k1 f0 f1 n (y2 + (-8 : Int32)) M10)
      )
      )
      )
      )
      )
     )
     )
    )
set_option maxHeartbeats 4000000 in
set_option maxRecDepth 100000 in
theorem wl_X3_append_3 {G : gG} {p : Program} {l : Launch} {e : Env} {s : State} {m : MethodId} {args : Array Value} {below : List Frame} {meth : Method} {c : Code} {A : Nat → Prop} {M' : Mem} {k1 : Mem → Option (Mem)} {f0 : Nat} {f1 : Int32} (C0 : cx G p s m args c cX3_append RX3 3 A) (hr : meth.sig.returnType = (none)) (hlk : meth.locks = false) (hG : GOK G) (hk1 : ∀ (M : Mem) (H : Heap) (locs : List Loc) (ls : Array Slot), mm G A s M H locs → lv_has ls 3 [] → k1 M = some M' → W p l e rm_X3_append s m args below meth c H locs 0 0 (MQ below (CQ G M' none A) args s 0 0 A) (F0 m 46 ls [])) : ∀ (n : Nat) (y2 : Int32) (M : Mem) (H : Heap) (locs : List Loc) (ls : Array Slot), mm G A s M H locs → lv_has ls 3 [(0, .ref f0), (1, .int f1), (2, .int y2)] → pl_X3_append_3 k1 f0 f1 n y2 M = some M' → W p l e rm_X3_append s m args below meth c H locs 0 0 (MQ below (CQ G M' none A) args s 0 0 A) (F0 m 3 ls []) := by
  have hx := C0.1
  have hb := C0.2.1
  have hown := C0.2.2.2.1
  have hts := C0.2.2.2.2.1
  intro n
  induction n with
  | zero => intro y2 M H locs ls hM hl hp; rw [pl_X3_append_3] at hp; cases hp
  | succ n ih =>
    intro y2 M H locs ls hM hl hp
    rw [pl_X3_append_3] at hp
    refine lv_iload_n hx hb dX3_append_3 rfl (lv_at hl 2 rfl) ?_
    refine lv_if_lt (tgt := 46) hx hb dX3_append_4 (by decide) (fun c3 => ?_) (fun c3 => ?_)
    · replace hp := oT c3 hp
      exact hk1  _ _ _ _ hM (lv_sub hl [] rfl) hp
    · replace hp := oF c3 hp
      refine lv_aload_n hx hb dX3_append_7 rfl (lv_at hl 0 rfl) ?_
      obtain ⟨v4, hv4, hp⟩ := ob hp
      refine mr_getI C0 cbX3 hM 1 (by decide) tw_224 hv4 dX3_append_8 ?_
      refine lv_sipush (v := 900) hx hb dX3_append_11 (by decide) ?_
      refine lv_icmp_ge (tgt := 46) hx hb dX3_append_14 (by decide) (fun c5 => ?_) (fun c5 => ?_)
      · replace hp := oT c5 hp
        exact hk1  _ _ _ _ hM (lv_sub hl [] rfl) hp
      · replace hp := oF c5 hp
        refine lv_aload_n hx hb dX3_append_17 rfl (lv_at hl 0 rfl) ?_
        obtain ⟨v6, hv6, hp⟩ := ob hp
        refine mr_getR C0 cbX3 hM 0 (by decide) tw_223 hv6 dX3_append_18 ?_
        refine lv_aload_n hx hb dX3_append_21 rfl (lv_at hl 0 rfl) ?_
        obtain ⟨v7, hv7, hp⟩ := ob hp
        refine mr_getI C0 cbX3 hM 1 (by decide) tw_224 hv7 dX3_append_22 ?_
        refine lv_iload_n hx hb dX3_append_25 rfl (lv_at hl 1 rfl) ?_
        refine lv_iload_n hx hb dX3_append_26 rfl (lv_at hl 2 rfl) ?_
        refine lv_ishr hx hb dX3_append_27 ?_
        refine lv_i2b (v := (Int8.toInt32 (Int32.toInt8 (f1 >>> (y2 &&& 31))))) hx hb dX3_append_28 rfl ?_
        obtain ⟨M8, hM8, hp⟩ := ob hp
        refine mr_bast C0 hM hM8 dX3_append_29 (fun H locs hM => ?_)
        refine lv_aload_n hx hb dX3_append_30 rfl (lv_at hl 0 rfl) ?_
        refine lv_dup hx hb dX3_append_31 rfl ?_
        obtain ⟨v9, hv9, hp⟩ := ob hp
        refine mr_getI C0 cbX3 hM 1 (by decide) tw_224 hv9 dX3_append_32 ?_
        refine lv_iconst (v := 1) hx hb dX3_append_35 (by decide) ?_
        refine lv_iadd hx hb dX3_append_36 ?_
        obtain ⟨M10, hM10, hp⟩ := ob hp
        refine mr_putI C0 cbX3 hM 1 (by decide) rfl rfl tw_224 hM10 dX3_append_37 (fun H locs hM => ?_)
        refine lv_iinc (v := (y2 + (-8 : Int32))) (lv' := [(2, .int (y2 + (-8 : Int32))), (0, .ref f0), (1, .int f1)]) hx hb dX3_append_40 hl (k := 2) rfl rfl (by decide) rfl (fun ls hl => ?_)
        refine lv_goto (tgt := 3) hx hb dX3_append_43 (by decide) ?_
        exact ih _ _ _ _ _ hM (lv_sub hl [1, 2, 0] rfl) hp
def p_X3_append (a0 : Nat) (a1 : Int32) (M : Mem) : Option (Mem) :=
  (jn (fun  (M1 : Mem) =>
   some M1
  ) fun k2 =>
  (pl_X3_append_3
   (fun  (M11 : Mem) =>
    (k2  M11)
   )
   a0 a1 FU (24 : Int32) M)
  )
theorem yk_X3_append : yok yX3_append 1 := by decide +kernel
set_option maxHeartbeats 4000000 in
set_option maxRecDepth 100000 in
theorem w_X3_append {G : gG} (hG : GOK G) {l : Launch} {a0 : Nat} {a1 : Int32} {M : Mem} {M' : Mem} (hp : p_X3_append a0 a1 M = some M') : CT G l yX3_append (wT yX3_append cX3_append 3 (none)) rm_X3_append [.ref a0, .int a1] M none M' 0 0 := by
  refine CT_of (own := RX3) (maxL := 3) (ret := (none)) hG (by decide) rfl (Nat.le_of_ble_eq_true rfl) (fun p e s m below meth c A C0 hr hlk hM ls hl => ?_)
  have hl : lv_has ls 3 [(0, .ref a0), (1, .int a1)] := hl
  generalize ([.ref a0, .int a1] : List Value).toArray = args at C0 ⊢
  skip
  have hx := C0.1
  have hb := C0.2.1
  have hown := C0.2.2.2.1
  have hts := C0.2.2.2.2.1
  unfold p_X3_append at hp
  refine lv_bipush (v := 24) hx hb dX3_append_0 (by decide) ?_
  refine lv_istore_n (lv' := [(2, .int (24 : Int32)), (0, .ref a0), (1, .int a1)]) hx hb dX3_append_2 rfl hl (by decide) rfl (fun ls hl => ?_)
  obtain ⟨k2, ek2, hp⟩ := ojn hp
  have hk2 : ∀ (M1 : Mem) (H : Heap) (locs : List Loc) (ls : Array Slot), mm G A s M1 H locs → lv_has ls 3 [] → k2  M1 = some M' → W p l e rm_X3_append s m args below meth c H locs 0 0 (MQ below (CQ G M' none A) args s 0 0 A) (F0 m 46 ls []) := by
    intro  M1 H locs ls hM hl hp
    rw [ek2] at hp
    exact mr_vret C0 hr hlk hM (Option.some.inj hp) (Nat.le_refl _) (Nat.le_refl _) dX3_append_46
  refine wl_X3_append_3 C0 hr hlk hG (fun M11 H locs ls hM hl hp => ?_) FU _ _ _ _ _ hM (lv_sub hl [1, 2, 0] rfl) hp
  exact hk2  _ _ _ _ hM (lv_sub hl [] rfl) hp
abbrev rm_X3_kindOf : Room := { frames := 0, cells := 0, slots := 0, locals := 0 }
def p_X3_kindOf (a0 : Int32) (M : Mem) : Option (Int32) :=
  (jn (fun (_ : Unit) =>
   (jn (fun (_ : Unit) =>
    (if a0 = (59 : Int32) then
     some (3 : Int32)
    else
     some (4 : Int32)
    )
   ) fun k2 =>
   (if a0 < (48 : Int32) then
    (k2 ())
   else
    (if (57 : Int32) < a0 then
     (k2 ())
    else
     some (2 : Int32)
    )
   )
   )
  ) fun k1 =>
  (if a0 < (97 : Int32) then
   (k1 ())
  else
   (if (122 : Int32) < a0 then
    (k1 ())
   else
    some (1 : Int32)
   )
  )
  )
theorem yk_X3_kindOf : yok yX3_kindOf 1 := by decide +kernel
set_option maxHeartbeats 4000000 in
set_option maxRecDepth 100000 in
theorem w_X3_kindOf {G : gG} (hG : GOK G) {l : Launch} {a0 : Int32} {M : Mem} {r : Int32} (hp : p_X3_kindOf a0 M = some r) : CT G l yX3_kindOf (wT yX3_kindOf cX3_kindOf 1 (some FieldType.int)) rm_X3_kindOf [.int a0] M (some (.int r)) M 0 0 := by
  refine CT_of (own := RX3) (maxL := 1) (ret := (some FieldType.int)) hG (by decide) rfl (Nat.le_of_ble_eq_true rfl) (fun p e s m below meth c A C0 hr hlk hM ls hl => ?_)
  have hl : lv_has ls 1 [(0, .int a0)] := hl
  generalize ([.int a0] : List Value).toArray = args at C0 ⊢
  skip
  have hx := C0.1
  have hb := C0.2.1
  have hown := C0.2.2.2.1
  have hts := C0.2.2.2.2.1
  unfold p_X3_kindOf at hp
  refine lv_iload_n hx hb dX3_kindOf_0 rfl (lv_at hl 0 rfl) ?_
  refine lv_bipush (v := 97) hx hb dX3_kindOf_1 (by decide) ?_
  obtain ⟨k1, ek1, hp⟩ := ojn hp
  have hk1 : ∀ (H : Heap) (locs : List Loc) (ls : Array Slot), mm G A s M H locs → lv_has ls 1 [(0, .int a0)] → k1 () = some r → W p l e rm_X3_kindOf s m args below meth c H locs 0 0 (MQ below (CQ G M (some (.int r)) A) args s 0 0 A) (F0 m 14 ls []) := by
    intro  H locs ls hM hl hp
    rw [ek1] at hp
    refine lv_iload_n hx hb dX3_kindOf_14 rfl (lv_at hl 0 rfl) ?_
    refine lv_bipush (v := 48) hx hb dX3_kindOf_15 (by decide) ?_
    obtain ⟨k2, ek2, hp⟩ := ojn hp
    have hk2 : ∀ (H : Heap) (locs : List Loc) (ls : Array Slot), mm G A s M H locs → lv_has ls 1 [(0, .int a0)] → k2 () = some r → W p l e rm_X3_kindOf s m args below meth c H locs 0 0 (MQ below (CQ G M (some (.int r)) A) args s 0 0 A) (F0 m 28 ls []) := by
      intro  H locs ls hM hl hp
      rw [ek2] at hp
      refine lv_iload_n hx hb dX3_kindOf_28 rfl (lv_at hl 0 rfl) ?_
      refine lv_bipush (v := 59) hx hb dX3_kindOf_29 (by decide) ?_
      refine lv_icmp_ne (tgt := 38) hx hb dX3_kindOf_31 (by decide) (fun c3 => ?_) (fun c3 => ?_)
      · replace hp := oF c3 hp
        refine lv_iconst (v := 4) hx hb dX3_kindOf_38 (by decide) ?_
        exact mr_iret C0 hr hlk hM rfl (Option.some.inj hp) (Nat.le_refl _) (Nat.le_refl _) dX3_kindOf_39
      · replace hp := oT c3 hp
        refine lv_iconst (v := 3) hx hb dX3_kindOf_34 (by decide) ?_
        refine lv_goto (tgt := 39) hx hb dX3_kindOf_35 (by decide) ?_
        exact mr_iret C0 hr hlk hM rfl (Option.some.inj hp) (Nat.le_refl _) (Nat.le_refl _) dX3_kindOf_39
    refine lv_icmp_lt (tgt := 28) hx hb dX3_kindOf_17 (by decide) (fun c4 => ?_) (fun c4 => ?_)
    · replace hp := oT c4 hp
      exact hk2  _ _ _ hM (lv_sub hl [0] rfl) hp
    · replace hp := oF c4 hp
      refine lv_iload_n hx hb dX3_kindOf_20 rfl (lv_at hl 0 rfl) ?_
      refine lv_bipush (v := 57) hx hb dX3_kindOf_21 (by decide) ?_
      refine lv_icmp_gt (tgt := 28) hx hb dX3_kindOf_23 (by decide) (fun c5 => ?_) (fun c5 => ?_)
      · replace hp := oT c5 hp
        exact hk2  _ _ _ hM (lv_sub hl [0] rfl) hp
      · replace hp := oF c5 hp
        refine lv_iconst (v := 2) hx hb dX3_kindOf_26 (by decide) ?_
        exact mr_iret C0 hr hlk hM rfl (Option.some.inj hp) (Nat.le_refl _) (Nat.le_refl _) dX3_kindOf_27
  refine lv_icmp_lt (tgt := 14) hx hb dX3_kindOf_3 (by decide) (fun c6 => ?_) (fun c6 => ?_)
  · replace hp := oT c6 hp
    exact hk1  _ _ _ hM (lv_sub hl [0] rfl) hp
  · replace hp := oF c6 hp
    refine lv_iload_n hx hb dX3_kindOf_6 rfl (lv_at hl 0 rfl) ?_
    refine lv_bipush (v := 122) hx hb dX3_kindOf_7 (by decide) ?_
    refine lv_icmp_gt (tgt := 14) hx hb dX3_kindOf_9 (by decide) (fun c7 => ?_) (fun c7 => ?_)
    · replace hp := oT c7 hp
      exact hk1  _ _ _ hM (lv_sub hl [0] rfl) hp
    · replace hp := oF c7 hp
      refine lv_iconst (v := 1) hx hb dX3_kindOf_12 (by decide) ?_
      exact mr_iret C0 hr hlk hM rfl (Option.some.inj hp) (Nat.le_refl _) (Nat.le_refl _) dX3_kindOf_13
abbrev rm_X3_wordHere : Room := { frames := 4, cells := 0, slots := 0, locals := 85 }
def pl_X3_wordHere_52 (Z : gZ) (k1 : Int32 → Option (Option Nat)) (f0 : Nat) (f1 : Unit) (f2 : Int32) (f3 : Int32) (f4 : Nat) (M : Mem) : Nat → Int32 → Int32 → Option (Option Nat)
  | 0, _, _ => none
  | n + 1, y5, y6 =>
    (if y5 = 0 then
     (k1 y5)
    else
     (Option.bind (gI 3 10 M f0) fun v14 =>
     (if v14 ≤ y6 then
      (k1 y5)
     else
      (Option.bind (eTx f4) fun v16 =>
      (Option.bind (gI 3 9 M f0) fun v17 =>
      (Option.bind (sAt v16 (y6 - v17)) fun v18 =>
      (Option.bind (gR 3 0 M f0) fun v19 =>
      (Option.bind (aI 1 M v19 y6) fun v20 =>
      (if v18 = v20 then
       (pl_X3_wordHere_52 Z k1 f0 f1 f2 f3 f4 M n (1 : Int32) (y6 + (1 : Int32)))
      else
       (pl_X3_wordHere_52 Z k1 f0 f1 f2 f3 f4 M n (0 : Int32) (y6 + (1 : Int32)))
      )
      )
      )
      )
      )
      )
     )
     )
    )
set_option maxHeartbeats 4000000 in
set_option maxRecDepth 100000 in
theorem wl_X3_wordHere_52 {G : gG} {p : Program} {l : Launch} {e : Env} {s : State} {m : MethodId} {args : Array Value} {below : List Frame} {meth : Method} {c : Code} {A : Nat → Prop} {Z : gZ} {r : Option Nat} {k1 : Int32 → Option (Option Nat)} {f0 : Nat} {f1 : Unit} {f2 : Int32} {f3 : Int32} {f4 : Nat} {M : Mem} (C0 : cx G p s m args c cX3_wordHere RX3 7 A) (hr : meth.sig.returnType = (some (FieldType.object "PlaceOffice$Word"))) (hlk : meth.locks = false) (hG : GOK G) (hZ : GS G Z) (hk1 : ∀ (z5 : Int32) (H : Heap) (locs : List Loc) (ls : Array Slot), mm G A s M H locs → lv_has ls 7 [(0, .ref f0), (1, .ref Z.2.2.2), (2, .int f2), (3, .int f3), (4, .ref (Z.2.2.1 f4)), (5, .int z5)] → k1 z5 = some r → W p l e rm_X3_wordHere s m args below meth c H locs 0 0 (MQ below (CQ G M (some (va_rf r)) A) args s 0 0 A) (F0 m 104 ls [])) : ∀ (n : Nat) (y5 : Int32) (y6 : Int32) (H : Heap) (locs : List Loc) (ls : Array Slot), mm G A s M H locs → lv_has ls 7 [(0, .ref f0), (1, .ref Z.2.2.2), (2, .int f2), (3, .int f3), (4, .ref (Z.2.2.1 f4)), (5, .int y5), (6, .int y6)] → pl_X3_wordHere_52 Z k1 f0 f1 f2 f3 f4 M n y5 y6 = some r → W p l e rm_X3_wordHere s m args below meth c H locs 0 0 (MQ below (CQ G M (some (va_rf r)) A) args s 0 0 A) (F0 m 52 ls []) := by
  have hx := C0.1
  have hb := C0.2.1
  have hown := C0.2.2.2.1
  have hts := C0.2.2.2.2.1
  intro n
  induction n with
  | zero => intro y5 y6 H locs ls hM hl hp; rw [pl_X3_wordHere_52] at hp; cases hp
  | succ n ih =>
    intro y5 y6 H locs ls hM hl hp
    rw [pl_X3_wordHere_52] at hp
    refine lv_iload hx hb dX3_wordHere_52 (lv_at hl 5 rfl) ?_
    refine lv_if_eq (tgt := 104) hx hb dX3_wordHere_54 (by decide) (fun c13 => ?_) (fun c13 => ?_)
    · replace hp := oT c13 hp
      exact hk1 _ _ _ _ hM (lv_sub hl [0, 1, 2, 3, 4, 5] rfl) hp
    · replace hp := oF c13 hp
      refine lv_iload hx hb dX3_wordHere_57 (lv_at hl 6 rfl) ?_
      refine lv_aload_n hx hb dX3_wordHere_59 rfl (lv_at hl 0 rfl) ?_
      obtain ⟨v14, hv14, hp⟩ := ob hp
      refine mr_getI C0 cbX3 hM 10 (by decide) tw_236 hv14 dX3_wordHere_60 ?_
      refine lv_icmp_ge (tgt := 104) hx hb dX3_wordHere_63 (by decide) (fun c15 => ?_) (fun c15 => ?_)
      · replace hp := oT c15 hp
        exact hk1 _ _ _ _ hM (lv_sub hl [0, 1, 2, 3, 4, 5] rfl) hp
      · replace hp := oF c15 hp
        refine lv_aload hx hb dX3_wordHere_66 (lv_at hl 4 rfl) ?_
        obtain ⟨v16, hv16, hp⟩ := ob hp
        refine mr_text C0 hZ hM hv16 tw_1992 dX3_wordHere_68 ?_
        refine lv_iload hx hb dX3_wordHere_71 (lv_at hl 6 rfl) ?_
        refine lv_aload_n hx hb dX3_wordHere_73 rfl (lv_at hl 0 rfl) ?_
        obtain ⟨v17, hv17, hp⟩ := ob hp
        refine mr_getI C0 cbX3 hM 9 (by decide) tw_235 hv17 dX3_wordHere_74 ?_
        refine lv_isub hx hb dX3_wordHere_77 ?_
        obtain ⟨v18, hv18, hp⟩ := ob hp
        refine mr_K1 (As := [.int (y6 - v17)]) (rest := []) C0 hZ hM (oG hv18).1.1 rfl (w_J0_charAt_5068e hG hZ hv18) tw_368 tw_369 tw_370 tw_8 tw_371 yk_J0_charAt_5068e (by decide) rfl hl.1 (Nat.le_of_ble_eq_true rfl) dX3_wordHere_78 rfl (fun H locs hM => ?_)
        refine lv_aload_n hx hb dX3_wordHere_81 rfl (lv_at hl 0 rfl) ?_
        obtain ⟨v19, hv19, hp⟩ := ob hp
        refine mr_getR C0 cbX3 hM 0 (by decide) tw_223 hv19 dX3_wordHere_82 ?_
        refine lv_iload hx hb dX3_wordHere_85 (lv_at hl 6 rfl) ?_
        obtain ⟨v20, hv20, hp⟩ := ob hp
        refine mr_bald C0 hM hv20 dX3_wordHere_87 ?_
        refine lv_icmp_ne (tgt := 95) hx hb dX3_wordHere_88 (by decide) (fun c21 => ?_) (fun c21 => ?_)
        · replace hp := oF c21 hp
          refine lv_iconst (v := 0) hx hb dX3_wordHere_95 (by decide) ?_
          refine lv_istore (lv' := [(5, .int (0 : Int32)), (0, .ref f0), (1, .ref Z.2.2.2), (2, .int f2), (3, .int f3), (4, .ref (Z.2.2.1 f4)), (6, .int y6)]) hx hb dX3_wordHere_96 hl (by decide) rfl (fun ls hl => ?_)
          refine lv_iinc (v := (y6 + (1 : Int32))) (lv' := [(6, .int (y6 + (1 : Int32))), (5, .int (0 : Int32)), (0, .ref f0), (1, .ref Z.2.2.2), (2, .int f2), (3, .int f3), (4, .ref (Z.2.2.1 f4))]) hx hb dX3_wordHere_98 hl (k := 6) rfl rfl (by decide) rfl (fun ls hl => ?_)
          refine lv_goto (tgt := 52) hx hb dX3_wordHere_101 (by decide) ?_
          exact ih _ _ _ _ _ hM (lv_sub hl [2, 3, 4, 5, 6, 1, 0] rfl) hp
        · replace hp := oT c21 hp
          refine lv_iconst (v := 1) hx hb dX3_wordHere_91 (by decide) ?_
          refine lv_goto (tgt := 96) hx hb dX3_wordHere_92 (by decide) ?_
          refine lv_istore (lv' := [(5, .int (1 : Int32)), (0, .ref f0), (1, .ref Z.2.2.2), (2, .int f2), (3, .int f3), (4, .ref (Z.2.2.1 f4)), (6, .int y6)]) hx hb dX3_wordHere_96 hl (by decide) rfl (fun ls hl => ?_)
          refine lv_iinc (v := (y6 + (1 : Int32))) (lv' := [(6, .int (y6 + (1 : Int32))), (5, .int (1 : Int32)), (0, .ref f0), (1, .ref Z.2.2.2), (2, .int f2), (3, .int f3), (4, .ref (Z.2.2.1 f4))]) hx hb dX3_wordHere_98 hl (k := 6) rfl rfl (by decide) rfl (fun ls hl => ?_)
          refine lv_goto (tgt := 52) hx hb dX3_wordHere_101 (by decide) ?_
          exact ih _ _ _ _ _ hM (lv_sub hl [2, 3, 4, 5, 6, 1, 0] rfl) hp
def pl_X3_wordHere_9 (Z : gZ) (k1 : Nat → Option (Option Nat)) (k2 : Unit → Option (Option Nat)) (f0 : Nat) (f1 : Unit) (f2 : Int32) (M : Mem) : Nat → Int32 → Option (Option Nat)
  | 0, _ => none
  | n + 1, y3 =>
    (if f2 ≤ y3 then
     (k2 ())
    else
     (Option.bind (eAt y3) fun v2 =>
     (Option.bind (eTx v2) fun v3 =>
     (Option.bind (sLen v3) fun v4 =>
     (Option.bind (gI 3 10 M f0) fun v5 =>
     (Option.bind (gI 3 9 M f0) fun v6 =>
     (jn (fun (s7 : Int32) =>
      (Option.bind (gI 3 9 M f0) fun v9 =>
      (jn (fun (x10 : Int32) =>
       (if x10 = 0 then
        (pl_X3_wordHere_9 Z k1 k2 f0 f1 f2 M n (y3 + (1 : Int32)))
       else
        (k1 v2)
       )
      ) fun k11 =>
      (pl_X3_wordHere_52 Z
       (fun (z22 : Int32) =>
        (k11 z22)
       )
       f0 f1 f2 y3 v2 M FU s7 v9)
      )
      )
     ) fun k8 =>
     (if v4 = (v5 - v6) then
      (k8 (1 : Int32))
     else
      (k8 (0 : Int32))
     )
     )
     )
     )
     )
     )
     )
    )
set_option maxHeartbeats 4000000 in
set_option maxRecDepth 100000 in
theorem wl_X3_wordHere_9 {G : gG} {p : Program} {l : Launch} {e : Env} {s : State} {m : MethodId} {args : Array Value} {below : List Frame} {meth : Method} {c : Code} {A : Nat → Prop} {Z : gZ} {r : Option Nat} {k1 : Nat → Option (Option Nat)} {k2 : Unit → Option (Option Nat)} {f0 : Nat} {f1 : Unit} {f2 : Int32} {M : Mem} (C0 : cx G p s m args c cX3_wordHere RX3 7 A) (hr : meth.sig.returnType = (some (FieldType.object "PlaceOffice$Word"))) (hlk : meth.locks = false) (hG : GOK G) (hZ : GS G Z) (hk1 : ∀ (z4 : Nat) (H : Heap) (locs : List Loc) (ls : Array Slot), mm G A s M H locs → lv_has ls 7 [(4, .ref (Z.2.2.1 z4))] → k1 z4 = some r → W p l e rm_X3_wordHere s m args below meth c H locs 0 0 (MQ below (CQ G M (some (va_rf r)) A) args s 0 0 A) (F0 m 109 ls [])) (hk2 : ∀ (H : Heap) (locs : List Loc) (ls : Array Slot), mm G A s M H locs → lv_has ls 7 [] → k2 () = some r → W p l e rm_X3_wordHere s m args below meth c H locs 0 0 (MQ below (CQ G M (some (va_rf r)) A) args s 0 0 A) (F0 m 118 ls [])) : ∀ (n : Nat) (y3 : Int32) (H : Heap) (locs : List Loc) (ls : Array Slot), mm G A s M H locs → lv_has ls 7 [(0, .ref f0), (1, .ref Z.2.2.2), (2, .int f2), (3, .int y3)] → pl_X3_wordHere_9 Z k1 k2 f0 f1 f2 M n y3 = some r → W p l e rm_X3_wordHere s m args below meth c H locs 0 0 (MQ below (CQ G M (some (va_rf r)) A) args s 0 0 A) (F0 m 9 ls []) := by
  have hx := C0.1
  have hb := C0.2.1
  have hown := C0.2.2.2.1
  have hts := C0.2.2.2.2.1
  intro n
  induction n with
  | zero => intro y3 H locs ls hM hl hp; rw [pl_X3_wordHere_9] at hp; cases hp
  | succ n ih =>
    intro y3 H locs ls hM hl hp
    rw [pl_X3_wordHere_9] at hp
    refine lv_iload_n hx hb dX3_wordHere_9 rfl (lv_at hl 3 rfl) ?_
    refine lv_iload_n hx hb dX3_wordHere_10 rfl (lv_at hl 2 rfl) ?_
    refine lv_icmp_ge (tgt := 118) hx hb dX3_wordHere_11 (by decide) (fun c1 => ?_) (fun c1 => ?_)
    · replace hp := oT c1 hp
      exact hk2  _ _ _ hM (lv_sub hl [] rfl) hp
    · replace hp := oF c1 hp
      refine lv_aload_n hx hb dX3_wordHere_14 rfl (lv_at hl 1 rfl) ?_
      refine lv_iload_n hx hb dX3_wordHere_15 rfl (lv_at hl 3 rfl) ?_
      obtain ⟨v2, hv2, hp⟩ := ob hp
      refine mr_wald2 C0 hZ hM hv2 dX3_wordHere_16 ?_
      refine lv_astore (lv' := [(4, .ref (Z.2.2.1 v2)), (0, .ref f0), (1, .ref Z.2.2.2), (2, .int f2), (3, .int y3)]) hx hb dX3_wordHere_17 hl (by decide) rfl (fun ls hl => ?_)
      refine lv_aload hx hb dX3_wordHere_19 (lv_at hl 0 rfl) ?_
      obtain ⟨v3, hv3, hp⟩ := ob hp
      refine mr_text C0 hZ hM hv3 tw_1992 dX3_wordHere_21 ?_
      obtain ⟨v4, hv4, hp⟩ := ob hp
      refine mr_K1 (As := []) (rest := []) C0 hZ hM (oG hv4).1 rfl (w_J0_length_8abf5 hG hZ hv4) tw_358 tw_359 tw_360 tw_8 tw_361 yk_J0_length_8abf5 (by decide) rfl hl.1 (Nat.le_of_ble_eq_true rfl) dX3_wordHere_24 rfl (fun H locs hM => ?_)
      refine lv_aload_n hx hb dX3_wordHere_27 rfl (lv_at hl 1 rfl) ?_
      obtain ⟨v5, hv5, hp⟩ := ob hp
      refine mr_getI C0 cbX3 hM 10 (by decide) tw_236 hv5 dX3_wordHere_28 ?_
      refine lv_aload_n hx hb dX3_wordHere_31 rfl (lv_at hl 1 rfl) ?_
      obtain ⟨v6, hv6, hp⟩ := ob hp
      refine mr_getI C0 cbX3 hM 9 (by decide) tw_235 hv6 dX3_wordHere_32 ?_
      refine lv_isub hx hb dX3_wordHere_35 ?_
      obtain ⟨k8, ek8, hp⟩ := ojn hp
      have hk8 : ∀ (s7 : Int32) (H : Heap) (locs : List Loc) (ls : Array Slot), mm G A s M H locs → lv_has ls 7 [(0, .ref f0), (1, .ref Z.2.2.2), (2, .int f2), (3, .int y3), (4, .ref (Z.2.2.1 v2))] → k8 s7 = some r → W p l e rm_X3_wordHere s m args below meth c H locs 0 0 (MQ below (CQ G M (some (va_rf r)) A) args s 0 0 A) (F0 m 44 ls [.int s7]) := by
        intro s7 H locs ls hM hl hp
        rw [ek8] at hp
        refine lv_istore (lv' := [(5, .int s7), (0, .ref f0), (1, .ref Z.2.2.2), (2, .int f2), (3, .int y3), (4, .ref (Z.2.2.1 v2))]) hx hb dX3_wordHere_44 hl (by decide) rfl (fun ls hl => ?_)
        refine lv_aload_n hx hb dX3_wordHere_46 rfl (lv_at hl 1 rfl) ?_
        obtain ⟨v9, hv9, hp⟩ := ob hp
        refine mr_getI C0 cbX3 hM 9 (by decide) tw_235 hv9 dX3_wordHere_47 ?_
        refine lv_istore (lv' := [(6, .int v9), (5, .int s7), (0, .ref f0), (1, .ref Z.2.2.2), (2, .int f2), (3, .int y3), (4, .ref (Z.2.2.1 v2))]) hx hb dX3_wordHere_50 hl (by decide) rfl (fun ls hl => ?_)
        obtain ⟨k11, ek11, hp⟩ := ojn hp
        have hk11 : ∀ (x10 : Int32) (H : Heap) (locs : List Loc) (ls : Array Slot), mm G A s M H locs → lv_has ls 7 [(0, .ref f0), (1, .ref Z.2.2.2), (2, .int f2), (3, .int y3), (4, .ref (Z.2.2.1 v2)), (5, .int x10)] → k11 x10 = some r → W p l e rm_X3_wordHere s m args below meth c H locs 0 0 (MQ below (CQ G M (some (va_rf r)) A) args s 0 0 A) (F0 m 104 ls []) := by
          intro x10 H locs ls hM hl hp
          rw [ek11] at hp
          refine lv_iload hx hb dX3_wordHere_104 (lv_at hl 5 rfl) ?_
          refine lv_if_eq (tgt := 112) hx hb dX3_wordHere_106 (by decide) (fun c12 => ?_) (fun c12 => ?_)
          · replace hp := oT c12 hp
            refine lv_iinc (v := (y3 + (1 : Int32))) (lv' := [(3, .int (y3 + (1 : Int32))), (0, .ref f0), (1, .ref Z.2.2.2), (2, .int f2), (4, .ref (Z.2.2.1 v2)), (5, .int x10)]) hx hb dX3_wordHere_112 hl (k := 3) rfl rfl (by decide) rfl (fun ls hl => ?_)
            refine lv_goto (tgt := 9) hx hb dX3_wordHere_115 (by decide) ?_
            exact ih _ _ _ _ hM (lv_sub hl [1, 2, 3, 0] rfl) hp
          · replace hp := oF c12 hp
            exact hk1 _ _ _ _ hM (lv_sub hl [4] rfl) hp
        refine wl_X3_wordHere_52 C0 hr hlk hG hZ (fun z22 H locs ls hM hl hp => ?_) FU _ _ _ _ _ hM (lv_sub hl [2, 3, 4, 5, 6, 1, 0] rfl) hp
        exact hk11 _ _ _ _ hM (lv_sub hl [0, 1, 2, 3, 4, 5] rfl) hp
      refine lv_icmp_ne (tgt := 43) hx hb dX3_wordHere_36 (by decide) (fun c23 => ?_) (fun c23 => ?_)
      · replace hp := oF c23 hp
        refine lv_iconst (v := 0) hx hb dX3_wordHere_43 (by decide) ?_
        exact hk8 _ _ _ _ hM (lv_sub hl [1, 2, 3, 4, 0] rfl) hp
      · replace hp := oT c23 hp
        refine lv_iconst (v := 1) hx hb dX3_wordHere_39 (by decide) ?_
        refine lv_goto (tgt := 44) hx hb dX3_wordHere_40 (by decide) ?_
        exact hk8 _ _ _ _ hM (lv_sub hl [1, 2, 3, 4, 0] rfl) hp
def p_X3_wordHere (Z : gZ) (a0 : Nat) (M : Mem) : Option (Option Nat) :=
  (pl_X3_wordHere_9 Z
   (fun (z24 : Nat) =>
    some (some (Z.2.2.1 z24))
   )
   (fun (_ : Unit) =>
    some none
   )
   a0 () (11 : Int32) M FU (0 : Int32))
theorem yk_X3_wordHere : yok yX3_wordHere 0 := by decide +kernel
set_option maxHeartbeats 4000000 in
set_option maxRecDepth 100000 in
theorem w_X3_wordHere {G : gG} (hG : GOK G) {Z : gZ} (hZ : GS G Z) {l : Launch} {a0 : Nat} {M : Mem} {r : Option Nat} (hp : p_X3_wordHere Z a0 M = some r) : CT G l yX3_wordHere (wT yX3_wordHere cX3_wordHere 7 (some (FieldType.object "PlaceOffice$Word"))) rm_X3_wordHere [.ref a0] M (some (va_rf r)) M 0 0 := by
  refine CT_of (own := RX3) (maxL := 7) (ret := (some (FieldType.object "PlaceOffice$Word"))) hG (by decide) rfl (Nat.le_of_ble_eq_true rfl) (fun p e s m below meth c A C0 hr hlk hM ls hl => ?_)
  have hl : lv_has ls 7 [(0, .ref a0)] := hl
  generalize ([.ref a0] : List Value).toArray = args at C0 ⊢
  skip
  have hx := C0.1
  have hb := C0.2.1
  have hown := C0.2.2.2.1
  have hts := C0.2.2.2.2.1
  unfold p_X3_wordHere at hp
  refine mr_gets C0 hM (mr_sx C0 hZ).2.2.2.2.2.2.1 tw_356 dX3_wordHere_0 ?_
  refine lv_astore_n (lv' := [(1, .ref Z.2.2.2), (0, .ref a0)]) hx hb dX3_wordHere_3 rfl hl (by decide) rfl (fun ls hl => ?_)
  refine lv_aload_n hx hb dX3_wordHere_4 rfl (lv_at hl 0 rfl) ?_
  refine mr_walen C0 hZ hM dX3_wordHere_5 ?_
  refine lv_istore_n (lv' := [(2, .int (11 : Int32)), (1, .ref Z.2.2.2), (0, .ref a0)]) hx hb dX3_wordHere_6 rfl hl (by decide) rfl (fun ls hl => ?_)
  refine lv_iconst (v := 0) hx hb dX3_wordHere_7 (by decide) ?_
  refine lv_istore_n (lv' := [(3, .int (0 : Int32)), (2, .int (11 : Int32)), (1, .ref Z.2.2.2), (0, .ref a0)]) hx hb dX3_wordHere_8 rfl hl (by decide) rfl (fun ls hl => ?_)
  refine wl_X3_wordHere_9 C0 hr hlk hG hZ (fun z24 H locs ls hM hl hp => ?_) (fun  H locs ls hM hl hp => ?_) FU _ _ _ _ hM (lv_sub hl [3, 2, 1, 0] rfl) hp
  · refine lv_aload hx hb dX3_wordHere_109 (lv_at hl 0 rfl) ?_
    exact mr_aret (v := (some (Z.2.2.1 z24))) C0 hr hlk hM rfl (Option.some.inj hp) (Nat.le_refl _) (Nat.le_refl _) dX3_wordHere_111
  · refine lv_null hx hb dX3_wordHere_118 ?_
    exact mr_aret (v := none) C0 hr hlk hM rfl (Option.some.inj hp) (Nat.le_refl _) (Nat.le_refl _) dX3_wordHere_119
abbrev rm_X3_advance : Room := { frames := 5, cells := 0, slots := 0, locals := 111 }
def pl_X3_advance_132 (Z : gZ) (k1 : Mem → Option (Mem)) (f0 : Nat) : Nat → Mem → Option (Mem)
  | 0, _ => none
  | n + 1, M =>
    (Option.bind (gI 3 10 M f0) fun v27 =>
    (Option.bind (gI 3 1 M f0) fun v28 =>
    (if v28 ≤ v27 then
     (k1  M)
    else
     (Option.bind (gR 3 0 M f0) fun v30 =>
     (Option.bind (gI 3 10 M f0) fun v31 =>
     (Option.bind (aI 1 M v30 v31) fun v32 =>
     (Option.bind (p_X3_kindOf v32 M) fun v33 =>
     (Option.bind (gI 3 8 M f0) fun v34 =>
     (if v33 = v34 then
      (Option.bind (gI 3 10 M f0) fun v36 =>
      (Option.bind (sV 3 10 M f0 (.int (v36 + (1 : Int32)))) fun M37 =>
      (pl_X3_advance_132 Z k1 f0 n M37)
      )
      )
     else
      (k1  M)
     )
     )
     )
     )
     )
     )
    )
    )
    )
set_option maxHeartbeats 4000000 in
set_option maxRecDepth 100000 in
theorem wl_X3_advance_132 {G : gG} {p : Program} {l : Launch} {e : Env} {s : State} {m : MethodId} {args : Array Value} {below : List Frame} {meth : Method} {c : Code} {A : Nat → Prop} {Z : gZ} {M' : Mem} {k1 : Mem → Option (Mem)} {f0 : Nat} (C0 : cx G p s m args c cX3_advance RX3 1 A) (hr : meth.sig.returnType = (none)) (hlk : meth.locks = false) (hG : GOK G) (hZ : GS G Z) (hk1 : ∀ (M : Mem) (H : Heap) (locs : List Loc) (ls : Array Slot), mm G A s M H locs → lv_has ls 1 [(0, .ref f0)] → k1 M = some M' → W p l e rm_X3_advance s m args below meth c H locs 0 0 (MQ below (CQ G M' none A) args s 0 0 A) (F0 m 175 ls [])) : ∀ (n : Nat) (M : Mem) (H : Heap) (locs : List Loc) (ls : Array Slot), mm G A s M H locs → lv_has ls 1 [(0, .ref f0)] → pl_X3_advance_132 Z k1 f0 n M = some M' → W p l e rm_X3_advance s m args below meth c H locs 0 0 (MQ below (CQ G M' none A) args s 0 0 A) (F0 m 132 ls []) := by
  have hx := C0.1
  have hb := C0.2.1
  have hown := C0.2.2.2.1
  have hts := C0.2.2.2.2.1
  intro n
  induction n with
  | zero => intro M H locs ls hM hl hp; rw [pl_X3_advance_132] at hp; cases hp
  | succ n ih =>
    intro M H locs ls hM hl hp
    rw [pl_X3_advance_132] at hp
    refine lv_aload_n hx hb dX3_advance_132 rfl (lv_at hl 0 rfl) ?_
    obtain ⟨v27, hv27, hp⟩ := ob hp
    refine mr_getI C0 cbX3 hM 10 (by decide) tw_236 hv27 dX3_advance_133 ?_
    refine lv_aload_n hx hb dX3_advance_136 rfl (lv_at hl 0 rfl) ?_
    obtain ⟨v28, hv28, hp⟩ := ob hp
    refine mr_getI C0 cbX3 hM 1 (by decide) tw_224 hv28 dX3_advance_137 ?_
    refine lv_icmp_ge (tgt := 175) hx hb dX3_advance_140 (by decide) (fun c29 => ?_) (fun c29 => ?_)
    · replace hp := oT c29 hp
      exact hk1  _ _ _ _ hM (lv_sub hl [0] rfl) hp
    · replace hp := oF c29 hp
      refine lv_aload_n hx hb dX3_advance_143 rfl (lv_at hl 0 rfl) ?_
      obtain ⟨v30, hv30, hp⟩ := ob hp
      refine mr_getR C0 cbX3 hM 0 (by decide) tw_223 hv30 dX3_advance_144 ?_
      refine lv_aload_n hx hb dX3_advance_147 rfl (lv_at hl 0 rfl) ?_
      obtain ⟨v31, hv31, hp⟩ := ob hp
      refine mr_getI C0 cbX3 hM 10 (by decide) tw_236 hv31 dX3_advance_148 ?_
      obtain ⟨v32, hv32, hp⟩ := ob hp
      refine mr_bald C0 hM hv32 dX3_advance_151 ?_
      obtain ⟨v33, hv33, hp⟩ := ob hp
      refine mr_S1 (As := [.int v32]) (rest := []) C0 hM (w_X3_kindOf hG hv33) tw_349 tw_350 tw_16 tw_351 yk_X3_kindOf (by decide) rfl hl.1 (Nat.le_of_ble_eq_true rfl) dX3_advance_152 rfl (fun H locs hM => ?_)
      refine lv_aload_n hx hb dX3_advance_155 rfl (lv_at hl 0 rfl) ?_
      obtain ⟨v34, hv34, hp⟩ := ob hp
      refine mr_getI C0 cbX3 hM 8 (by decide) tw_234 hv34 dX3_advance_156 ?_
      refine lv_icmp_ne (tgt := 175) hx hb dX3_advance_159 (by decide) (fun c35 => ?_) (fun c35 => ?_)
      · replace hp := oF c35 hp
        exact hk1  _ _ _ _ hM (lv_sub hl [0] rfl) hp
      · replace hp := oT c35 hp
        refine lv_aload_n hx hb dX3_advance_162 rfl (lv_at hl 0 rfl) ?_
        refine lv_dup hx hb dX3_advance_163 rfl ?_
        obtain ⟨v36, hv36, hp⟩ := ob hp
        refine mr_getI C0 cbX3 hM 10 (by decide) tw_236 hv36 dX3_advance_164 ?_
        refine lv_iconst (v := 1) hx hb dX3_advance_167 (by decide) ?_
        refine lv_iadd hx hb dX3_advance_168 ?_
        obtain ⟨M37, hM37, hp⟩ := ob hp
        refine mr_putI C0 cbX3 hM 10 (by decide) rfl rfl tw_236 hM37 dX3_advance_169 (fun H locs hM => ?_)
        refine lv_goto (tgt := 132) hx hb dX3_advance_172 (by decide) ?_
        exact ih  _ _ _ _ hM (lv_sub hl [0] rfl) hp
def pl_X3_advance_8 (Z : gZ) (k1 : Mem → Option (Mem)) (f0 : Nat) : Nat → Mem → Option (Mem)
  | 0, _ => none
  | n + 1, M =>
    (Option.bind (gI 3 9 M f0) fun v43 =>
    (Option.bind (gI 3 1 M f0) fun v44 =>
    (if v44 ≤ v43 then
     (k1  M)
    else
     (Option.bind (gR 3 0 M f0) fun v46 =>
     (Option.bind (gI 3 9 M f0) fun v47 =>
     (Option.bind (aI 1 M v46 v47) fun v48 =>
     (jn (fun (_ : Unit) =>
      (Option.bind (gI 3 9 M f0) fun v50 =>
      (Option.bind (sV 3 9 M f0 (.int (v50 + (1 : Int32)))) fun M51 =>
      (pl_X3_advance_8 Z k1 f0 n M51)
      )
      )
     ) fun k49 =>
     (if v48 = (32 : Int32) then
      (k49 ())
     else
      (Option.bind (gR 3 0 M f0) fun v53 =>
      (Option.bind (gI 3 9 M f0) fun v54 =>
      (Option.bind (aI 1 M v53 v54) fun v55 =>
      (if v55 = (10 : Int32) then
       (k49 ())
      else
       (k1  M)
      )
      )
      )
      )
     )
     )
     )
     )
     )
    )
    )
    )
set_option maxHeartbeats 4000000 in
set_option maxRecDepth 100000 in
theorem wl_X3_advance_8 {G : gG} {p : Program} {l : Launch} {e : Env} {s : State} {m : MethodId} {args : Array Value} {below : List Frame} {meth : Method} {c : Code} {A : Nat → Prop} {Z : gZ} {M' : Mem} {k1 : Mem → Option (Mem)} {f0 : Nat} (C0 : cx G p s m args c cX3_advance RX3 1 A) (hr : meth.sig.returnType = (none)) (hlk : meth.locks = false) (hG : GOK G) (hZ : GS G Z) (hk1 : ∀ (M : Mem) (H : Heap) (locs : List Loc) (ls : Array Slot), mm G A s M H locs → lv_has ls 1 [(0, .ref f0)] → k1 M = some M' → W p l e rm_X3_advance s m args below meth c H locs 0 0 (MQ below (CQ G M' none A) args s 0 0 A) (F0 m 60 ls [])) : ∀ (n : Nat) (M : Mem) (H : Heap) (locs : List Loc) (ls : Array Slot), mm G A s M H locs → lv_has ls 1 [(0, .ref f0)] → pl_X3_advance_8 Z k1 f0 n M = some M' → W p l e rm_X3_advance s m args below meth c H locs 0 0 (MQ below (CQ G M' none A) args s 0 0 A) (F0 m 8 ls []) := by
  have hx := C0.1
  have hb := C0.2.1
  have hown := C0.2.2.2.1
  have hts := C0.2.2.2.2.1
  intro n
  induction n with
  | zero => intro M H locs ls hM hl hp; rw [pl_X3_advance_8] at hp; cases hp
  | succ n ih =>
    intro M H locs ls hM hl hp
    rw [pl_X3_advance_8] at hp
    refine lv_aload_n hx hb dX3_advance_8 rfl (lv_at hl 0 rfl) ?_
    obtain ⟨v43, hv43, hp⟩ := ob hp
    refine mr_getI C0 cbX3 hM 9 (by decide) tw_235 hv43 dX3_advance_9 ?_
    refine lv_aload_n hx hb dX3_advance_12 rfl (lv_at hl 0 rfl) ?_
    obtain ⟨v44, hv44, hp⟩ := ob hp
    refine mr_getI C0 cbX3 hM 1 (by decide) tw_224 hv44 dX3_advance_13 ?_
    refine lv_icmp_ge (tgt := 60) hx hb dX3_advance_16 (by decide) (fun c45 => ?_) (fun c45 => ?_)
    · replace hp := oT c45 hp
      exact hk1  _ _ _ _ hM (lv_sub hl [0] rfl) hp
    · replace hp := oF c45 hp
      refine lv_aload_n hx hb dX3_advance_19 rfl (lv_at hl 0 rfl) ?_
      obtain ⟨v46, hv46, hp⟩ := ob hp
      refine mr_getR C0 cbX3 hM 0 (by decide) tw_223 hv46 dX3_advance_20 ?_
      refine lv_aload_n hx hb dX3_advance_23 rfl (lv_at hl 0 rfl) ?_
      obtain ⟨v47, hv47, hp⟩ := ob hp
      refine mr_getI C0 cbX3 hM 9 (by decide) tw_235 hv47 dX3_advance_24 ?_
      obtain ⟨v48, hv48, hp⟩ := ob hp
      refine mr_bald C0 hM hv48 dX3_advance_27 ?_
      refine lv_bipush (v := 32) hx hb dX3_advance_28 (by decide) ?_
      obtain ⟨k49, ek49, hp⟩ := ojn hp
      have hk49 : ∀ (H : Heap) (locs : List Loc) (ls : Array Slot), mm G A s M H locs → lv_has ls 1 [(0, .ref f0)] → k49 () = some M' → W p l e rm_X3_advance s m args below meth c H locs 0 0 (MQ below (CQ G M' none A) args s 0 0 A) (F0 m 47 ls []) := by
        intro  H locs ls hM hl hp
        rw [ek49] at hp
        refine lv_aload_n hx hb dX3_advance_47 rfl (lv_at hl 0 rfl) ?_
        refine lv_dup hx hb dX3_advance_48 rfl ?_
        obtain ⟨v50, hv50, hp⟩ := ob hp
        refine mr_getI C0 cbX3 hM 9 (by decide) tw_235 hv50 dX3_advance_49 ?_
        refine lv_iconst (v := 1) hx hb dX3_advance_52 (by decide) ?_
        refine lv_iadd hx hb dX3_advance_53 ?_
        obtain ⟨M51, hM51, hp⟩ := ob hp
        refine mr_putI C0 cbX3 hM 9 (by decide) rfl rfl tw_235 hM51 dX3_advance_54 (fun H locs hM => ?_)
        refine lv_goto (tgt := 8) hx hb dX3_advance_57 (by decide) ?_
        exact ih  _ _ _ _ hM (lv_sub hl [0] rfl) hp
      refine lv_icmp_eq (tgt := 47) hx hb dX3_advance_30 (by decide) (fun c52 => ?_) (fun c52 => ?_)
      · replace hp := oT c52 hp
        exact hk49  _ _ _ hM (lv_sub hl [0] rfl) hp
      · replace hp := oF c52 hp
        refine lv_aload_n hx hb dX3_advance_33 rfl (lv_at hl 0 rfl) ?_
        obtain ⟨v53, hv53, hp⟩ := ob hp
        refine mr_getR C0 cbX3 hM 0 (by decide) tw_223 hv53 dX3_advance_34 ?_
        refine lv_aload_n hx hb dX3_advance_37 rfl (lv_at hl 0 rfl) ?_
        obtain ⟨v54, hv54, hp⟩ := ob hp
        refine mr_getI C0 cbX3 hM 9 (by decide) tw_235 hv54 dX3_advance_38 ?_
        obtain ⟨v55, hv55, hp⟩ := ob hp
        refine mr_bald C0 hM hv55 dX3_advance_41 ?_
        refine lv_bipush (v := 10) hx hb dX3_advance_42 (by decide) ?_
        refine lv_icmp_ne (tgt := 60) hx hb dX3_advance_44 (by decide) (fun c56 => ?_) (fun c56 => ?_)
        · replace hp := oF c56 hp
          exact hk1  _ _ _ _ hM (lv_sub hl [0] rfl) hp
        · replace hp := oT c56 hp
          exact hk49  _ _ _ hM (lv_sub hl [0] rfl) hp
def p_X3_advance (Z : gZ) (a0 : Nat) (M : Mem) : Option (Mem) :=
  (Option.bind (gI 3 10 M a0) fun v1 =>
  (Option.bind (sV 3 9 M a0 (.int v1)) fun M2 =>
  (jn (fun  (M3 : Mem) =>
   (Option.bind (gI 3 9 M3 a0) fun v5 =>
   (Option.bind (sV 3 10 M3 a0 (.int v5)) fun M6 =>
   (Option.bind (sV 3 11 M6 a0 (va_rf none)) fun M7 =>
   (Option.bind (gI 3 9 M7 a0) fun v8 =>
   (Option.bind (gI 3 1 M7 a0) fun v9 =>
   (if v8 < v9 then
    (Option.bind (gR 3 0 M7 a0) fun v11 =>
    (Option.bind (gI 3 9 M7 a0) fun v12 =>
    (Option.bind (aI 1 M7 v11 v12) fun v13 =>
    (Option.bind (p_X3_kindOf v13 M7) fun v14 =>
    (Option.bind (sV 3 8 M7 a0 (.int v14)) fun M15 =>
    (Option.bind (gI 3 10 M15 a0) fun v16 =>
    (Option.bind (sV 3 10 M15 a0 (.int (v16 + (1 : Int32)))) fun M17 =>
    (Option.bind (gI 3 8 M17 a0) fun v18 =>
    (jn (fun  (M19 : Mem) =>
     (Option.bind (gI 3 8 M19 a0) fun v21 =>
     (if v21 = (1 : Int32) then
      (Option.bind (isC 3 M19 a0) fun _ =>
      (Option.bind (p_X3_wordHere Z a0 M19) fun v24 =>
      (Option.bind (sV 3 11 M19 a0 (va_rf v24)) fun M25 =>
      some M25
      )
      )
      )
     else
      some M19
     )
     )
    ) fun k20 =>
    (jn (fun (_ : Unit) =>
     (pl_X3_advance_132 Z
      (fun  (M38 : Mem) =>
       (k20  M38)
      )
      a0 FU M17)
    ) fun k26 =>
    (if v18 = (1 : Int32) then
     (k26 ())
    else
     (Option.bind (gI 3 8 M17 a0) fun v40 =>
     (if v40 = (2 : Int32) then
      (k26 ())
     else
      (k20  M17)
     )
     )
    )
    )
    )
    )
    )
    )
    )
    )
    )
    )
    )
   else
    (Option.bind (sV 3 8 M7 a0 (.int (0 : Int32))) fun M42 =>
    some M42
    )
   )
   )
   )
   )
   )
   )
  ) fun k4 =>
  (pl_X3_advance_8 Z
   (fun  (M57 : Mem) =>
    (k4  M57)
   )
   a0 FU M2)
  )
  )
  )
theorem yk_X3_advance : yok yX3_advance 0 := by decide +kernel
set_option maxHeartbeats 4000000 in
set_option maxRecDepth 100000 in
theorem w_X3_advance {G : gG} (hG : GOK G) {Z : gZ} (hZ : GS G Z) {l : Launch} {a0 : Nat} {M : Mem} {M' : Mem} (hp : p_X3_advance Z a0 M = some M') : CT G l yX3_advance (wT yX3_advance cX3_advance 1 (none)) rm_X3_advance [.ref a0] M none M' 0 0 := by
  refine CT_of (own := RX3) (maxL := 1) (ret := (none)) hG (by decide) rfl (Nat.le_of_ble_eq_true rfl) (fun p e s m below meth c A C0 hr hlk hM ls hl => ?_)
  have hl : lv_has ls 1 [(0, .ref a0)] := hl
  generalize ([.ref a0] : List Value).toArray = args at C0 ⊢
  skip
  have hx := C0.1
  have hb := C0.2.1
  have hown := C0.2.2.2.1
  have hts := C0.2.2.2.2.1
  unfold p_X3_advance at hp
  refine lv_aload_n hx hb dX3_advance_0 rfl (lv_at hl 0 rfl) ?_
  refine lv_aload_n hx hb dX3_advance_1 rfl (lv_at hl 0 rfl) ?_
  obtain ⟨v1, hv1, hp⟩ := ob hp
  refine mr_getI C0 cbX3 hM 10 (by decide) tw_236 hv1 dX3_advance_2 ?_
  obtain ⟨M2, hM2, hp⟩ := ob hp
  refine mr_putI C0 cbX3 hM 9 (by decide) rfl rfl tw_235 hM2 dX3_advance_5 (fun H locs hM => ?_)
  obtain ⟨k4, ek4, hp⟩ := ojn hp
  have hk4 : ∀ (M3 : Mem) (H : Heap) (locs : List Loc) (ls : Array Slot), mm G A s M3 H locs → lv_has ls 1 [(0, .ref a0)] → k4  M3 = some M' → W p l e rm_X3_advance s m args below meth c H locs 0 0 (MQ below (CQ G M' none A) args s 0 0 A) (F0 m 60 ls []) := by
    intro  M3 H locs ls hM hl hp
    rw [ek4] at hp
    refine lv_aload_n hx hb dX3_advance_60 rfl (lv_at hl 0 rfl) ?_
    refine lv_aload_n hx hb dX3_advance_61 rfl (lv_at hl 0 rfl) ?_
    obtain ⟨v5, hv5, hp⟩ := ob hp
    refine mr_getI C0 cbX3 hM 9 (by decide) tw_235 hv5 dX3_advance_62 ?_
    obtain ⟨M6, hM6, hp⟩ := ob hp
    refine mr_putI C0 cbX3 hM 10 (by decide) rfl rfl tw_236 hM6 dX3_advance_65 (fun H locs hM => ?_)
    refine lv_aload_n hx hb dX3_advance_68 rfl (lv_at hl 0 rfl) ?_
    refine lv_null hx hb dX3_advance_69 ?_
    obtain ⟨M7, hM7, hp⟩ := ob hp
    refine mr_putN (v := none) C0 cbX3 hM 11 (by decide) rfl rfl tw_237 hM7 dX3_advance_70 (fun H locs hM => ?_)
    refine lv_aload_n hx hb dX3_advance_73 rfl (lv_at hl 0 rfl) ?_
    obtain ⟨v8, hv8, hp⟩ := ob hp
    refine mr_getI C0 cbX3 hM 9 (by decide) tw_235 hv8 dX3_advance_74 ?_
    refine lv_aload_n hx hb dX3_advance_77 rfl (lv_at hl 0 rfl) ?_
    obtain ⟨v9, hv9, hp⟩ := ob hp
    refine mr_getI C0 cbX3 hM 1 (by decide) tw_224 hv9 dX3_advance_78 ?_
    refine lv_icmp_lt (tgt := 90) hx hb dX3_advance_81 (by decide) (fun c10 => ?_) (fun c10 => ?_)
    · replace hp := oT c10 hp
      refine lv_aload_n hx hb dX3_advance_90 rfl (lv_at hl 0 rfl) ?_
      refine lv_aload_n hx hb dX3_advance_91 rfl (lv_at hl 0 rfl) ?_
      obtain ⟨v11, hv11, hp⟩ := ob hp
      refine mr_getR C0 cbX3 hM 0 (by decide) tw_223 hv11 dX3_advance_92 ?_
      refine lv_aload_n hx hb dX3_advance_95 rfl (lv_at hl 0 rfl) ?_
      obtain ⟨v12, hv12, hp⟩ := ob hp
      refine mr_getI C0 cbX3 hM 9 (by decide) tw_235 hv12 dX3_advance_96 ?_
      obtain ⟨v13, hv13, hp⟩ := ob hp
      refine mr_bald C0 hM hv13 dX3_advance_99 ?_
      obtain ⟨v14, hv14, hp⟩ := ob hp
      refine mr_S1 (As := [.int v13]) (rest := [.ref a0]) C0 hM (w_X3_kindOf hG hv14) tw_349 tw_350 tw_16 tw_351 yk_X3_kindOf (by decide) rfl hl.1 (Nat.le_of_ble_eq_true rfl) dX3_advance_100 rfl (fun H locs hM => ?_)
      obtain ⟨M15, hM15, hp⟩ := ob hp
      refine mr_putI C0 cbX3 hM 8 (by decide) rfl rfl tw_234 hM15 dX3_advance_103 (fun H locs hM => ?_)
      refine lv_aload_n hx hb dX3_advance_106 rfl (lv_at hl 0 rfl) ?_
      refine lv_dup hx hb dX3_advance_107 rfl ?_
      obtain ⟨v16, hv16, hp⟩ := ob hp
      refine mr_getI C0 cbX3 hM 10 (by decide) tw_236 hv16 dX3_advance_108 ?_
      refine lv_iconst (v := 1) hx hb dX3_advance_111 (by decide) ?_
      refine lv_iadd hx hb dX3_advance_112 ?_
      obtain ⟨M17, hM17, hp⟩ := ob hp
      refine mr_putI C0 cbX3 hM 10 (by decide) rfl rfl tw_236 hM17 dX3_advance_113 (fun H locs hM => ?_)
      refine lv_aload_n hx hb dX3_advance_116 rfl (lv_at hl 0 rfl) ?_
      obtain ⟨v18, hv18, hp⟩ := ob hp
      refine mr_getI C0 cbX3 hM 8 (by decide) tw_234 hv18 dX3_advance_117 ?_
      refine lv_iconst (v := 1) hx hb dX3_advance_120 (by decide) ?_
      obtain ⟨k20, ek20, hp⟩ := ojn hp
      have hk20 : ∀ (M19 : Mem) (H : Heap) (locs : List Loc) (ls : Array Slot), mm G A s M19 H locs → lv_has ls 1 [(0, .ref a0)] → k20  M19 = some M' → W p l e rm_X3_advance s m args below meth c H locs 0 0 (MQ below (CQ G M' none A) args s 0 0 A) (F0 m 175 ls []) := by
        intro  M19 H locs ls hM hl hp
        rw [ek20] at hp
        refine lv_aload_n hx hb dX3_advance_175 rfl (lv_at hl 0 rfl) ?_
        obtain ⟨v21, hv21, hp⟩ := ob hp
        refine mr_getI C0 cbX3 hM 8 (by decide) tw_234 hv21 dX3_advance_176 ?_
        refine lv_iconst (v := 1) hx hb dX3_advance_179 (by decide) ?_
        refine lv_icmp_ne (tgt := 191) hx hb dX3_advance_180 (by decide) (fun c22 => ?_) (fun c22 => ?_)
        · replace hp := oF c22 hp
          exact mr_vret C0 hr hlk hM (Option.some.inj hp) (Nat.le_refl _) (Nat.le_refl _) dX3_advance_191
        · replace hp := oT c22 hp
          refine lv_aload_n hx hb dX3_advance_183 rfl (lv_at hl 0 rfl) ?_
          refine lv_aload_n hx hb dX3_advance_184 rfl (lv_at hl 0 rfl) ?_
          obtain ⟨_, h23, hp⟩ := ob hp
          obtain ⟨v24, hv24, hp⟩ := ob hp
          refine mr_V1 (As := []) (rest := [.ref a0]) C0 cbX3 hM h23 rfl (w_X3_wordHere hG hZ hv24) tw_352 tw_353 tw_354 tw_16 tw_355 yk_X3_wordHere (by decide) rfl hl.1 (Nat.le_of_ble_eq_true rfl) dX3_advance_185 rfl (fun H locs hM => ?_)
          obtain ⟨M25, hM25, hp⟩ := ob hp
          refine mr_putN (v := v24) C0 cbX3 hM 11 (by decide) rfl rfl tw_237 hM25 dX3_advance_188 (fun H locs hM => ?_)
          exact mr_vret C0 hr hlk hM (Option.some.inj hp) (Nat.le_refl _) (Nat.le_refl _) dX3_advance_191
      obtain ⟨k26, ek26, hp⟩ := ojn hp
      have hk26 : ∀ (H : Heap) (locs : List Loc) (ls : Array Slot), mm G A s M17 H locs → lv_has ls 1 [(0, .ref a0)] → k26 () = some M' → W p l e rm_X3_advance s m args below meth c H locs 0 0 (MQ below (CQ G M' none A) args s 0 0 A) (F0 m 132 ls []) := by
        intro  H locs ls hM hl hp
        rw [ek26] at hp
        refine wl_X3_advance_132 C0 hr hlk hG hZ (fun M38 H locs ls hM hl hp => ?_) FU  _ _ _ _ hM (lv_sub hl [0] rfl) hp
        exact hk20  _ _ _ _ hM (lv_sub hl [0] rfl) hp
      refine lv_icmp_eq (tgt := 132) hx hb dX3_advance_121 (by decide) (fun c39 => ?_) (fun c39 => ?_)
      · replace hp := oT c39 hp
        exact hk26  _ _ _ hM (lv_sub hl [0] rfl) hp
      · replace hp := oF c39 hp
        refine lv_aload_n hx hb dX3_advance_124 rfl (lv_at hl 0 rfl) ?_
        obtain ⟨v40, hv40, hp⟩ := ob hp
        refine mr_getI C0 cbX3 hM 8 (by decide) tw_234 hv40 dX3_advance_125 ?_
        refine lv_iconst (v := 2) hx hb dX3_advance_128 (by decide) ?_
        refine lv_icmp_ne (tgt := 175) hx hb dX3_advance_129 (by decide) (fun c41 => ?_) (fun c41 => ?_)
        · replace hp := oF c41 hp
          exact hk20  _ _ _ _ hM (lv_sub hl [0] rfl) hp
        · replace hp := oT c41 hp
          exact hk26  _ _ _ hM (lv_sub hl [0] rfl) hp
    · replace hp := oF c10 hp
      refine lv_aload_n hx hb dX3_advance_84 rfl (lv_at hl 0 rfl) ?_
      refine lv_iconst (v := 0) hx hb dX3_advance_85 (by decide) ?_
      obtain ⟨M42, hM42, hp⟩ := ob hp
      refine mr_putI C0 cbX3 hM 8 (by decide) rfl rfl tw_234 hM42 dX3_advance_86 (fun H locs hM => ?_)
      exact mr_vret C0 hr hlk hM (Option.some.inj hp) (Nat.le_refl _) (Nat.le_refl _) dX3_advance_89
  refine wl_X3_advance_8 C0 hr hlk hG hZ (fun M57 H locs ls hM hl hp => ?_) FU  _ _ _ _ hM (lv_sub hl [0] rfl) hp
  exact hk4  _ _ _ _ hM (lv_sub hl [0] rfl) hp
abbrev rm_X3_fail : Room := { frames := 0, cells := 0, slots := 0, locals := 0 }
def p_X3_fail (a0 : Nat) (a1 : Int32) (M : Mem) : Option (Mem) :=
  (Option.bind (sV 3 2 M a0 (.int a1)) fun M1 =>
  (Option.bind (gI 3 9 M1 a0) fun v2 =>
  (Option.bind (sV 3 3 M1 a0 (.int v2)) fun M3 =>
  some M3
  )
  )
  )
theorem yk_X3_fail : yok yX3_fail 1 := by decide +kernel
set_option maxHeartbeats 4000000 in
set_option maxRecDepth 100000 in
theorem w_X3_fail {G : gG} (hG : GOK G) {l : Launch} {a0 : Nat} {a1 : Int32} {M : Mem} {M' : Mem} (hp : p_X3_fail a0 a1 M = some M') : CT G l yX3_fail (wT yX3_fail cX3_fail 2 (none)) rm_X3_fail [.ref a0, .int a1] M none M' 0 0 := by
  refine CT_of (own := RX3) (maxL := 2) (ret := (none)) hG (by decide) rfl (Nat.le_of_ble_eq_true rfl) (fun p e s m below meth c A C0 hr hlk hM ls hl => ?_)
  have hl : lv_has ls 2 [(0, .ref a0), (1, .int a1)] := hl
  generalize ([.ref a0, .int a1] : List Value).toArray = args at C0 ⊢
  skip
  have hx := C0.1
  have hb := C0.2.1
  have hown := C0.2.2.2.1
  have hts := C0.2.2.2.2.1
  unfold p_X3_fail at hp
  refine lv_aload_n hx hb dX3_fail_0 rfl (lv_at hl 0 rfl) ?_
  refine lv_iload_n hx hb dX3_fail_1 rfl (lv_at hl 1 rfl) ?_
  obtain ⟨M1, hM1, hp⟩ := ob hp
  refine mr_putI C0 cbX3 hM 2 (by decide) rfl rfl tw_226 hM1 dX3_fail_2 (fun H locs hM => ?_)
  refine lv_aload_n hx hb dX3_fail_5 rfl (lv_at hl 0 rfl) ?_
  refine lv_aload_n hx hb dX3_fail_6 rfl (lv_at hl 0 rfl) ?_
  obtain ⟨v2, hv2, hp⟩ := ob hp
  refine mr_getI C0 cbX3 hM 9 (by decide) tw_235 hv2 dX3_fail_7 ?_
  obtain ⟨M3, hM3, hp⟩ := ob hp
  refine mr_putI C0 cbX3 hM 3 (by decide) rfl rfl tw_228 hM3 dX3_fail_10 (fun H locs hM => ?_)
  exact mr_vret C0 hr hlk hM (Option.some.inj hp) (Nat.le_refl _) (Nat.le_refl _) dX3_fail_13
abbrev rm_X3_passSemicolon : Room := { frames := 6, cells := 0, slots := 0, locals := 131 }
def p_X3_passSemicolon (Z : gZ) (a0 : Nat) (M : Mem) : Option (Int32 × Mem) :=
  (Option.bind (gI 3 8 M a0) fun v1 =>
  (if v1 = (3 : Int32) then
   (Option.bind (isC 3 M a0) fun _ =>
   (Option.bind (p_X3_advance Z a0 M) fun M4 =>
   some ((1 : Int32), M4)
   )
   )
  else
   (Option.bind (isC 3 M a0) fun _ =>
   (Option.bind (p_X3_fail a0 (1 : Int32) M) fun M6 =>
   some ((0 : Int32), M6)
   )
   )
  )
  )
theorem yk_X3_passSemicolon : yok yX3_passSemicolon 0 := by decide +kernel
set_option maxHeartbeats 4000000 in
set_option maxRecDepth 100000 in
theorem w_X3_passSemicolon {G : gG} (hG : GOK G) {Z : gZ} (hZ : GS G Z) {l : Launch} {a0 : Nat} {M : Mem} {r : Int32} {M' : Mem} (hp : p_X3_passSemicolon Z a0 M = some (r, M')) : CT G l yX3_passSemicolon (wT yX3_passSemicolon cX3_passSemicolon 1 (some FieldType.boolean)) rm_X3_passSemicolon [.ref a0] M (some (.int r)) M' 0 0 := by
  refine CT_of (own := RX3) (maxL := 1) (ret := (some FieldType.boolean)) hG (by decide) rfl (Nat.le_of_ble_eq_true rfl) (fun p e s m below meth c A C0 hr hlk hM ls hl => ?_)
  have hl : lv_has ls 1 [(0, .ref a0)] := hl
  generalize ([.ref a0] : List Value).toArray = args at C0 ⊢
  skip
  have hx := C0.1
  have hb := C0.2.1
  have hown := C0.2.2.2.1
  have hts := C0.2.2.2.2.1
  unfold p_X3_passSemicolon at hp
  refine lv_aload_n hx hb dX3_passSemicolon_0 rfl (lv_at hl 0 rfl) ?_
  obtain ⟨v1, hv1, hp⟩ := ob hp
  refine mr_getI C0 cbX3 hM 8 (by decide) tw_234 hv1 dX3_passSemicolon_1 ?_
  refine lv_iconst (v := 3) hx hb dX3_passSemicolon_4 (by decide) ?_
  refine lv_icmp_eq (tgt := 15) hx hb dX3_passSemicolon_5 (by decide) (fun c2 => ?_) (fun c2 => ?_)
  · replace hp := oT c2 hp
    refine lv_aload_n hx hb dX3_passSemicolon_15 rfl (lv_at hl 0 rfl) ?_
    obtain ⟨_, h3, hp⟩ := ob hp
    obtain ⟨M4, hM4, hp⟩ := ob hp
    refine mr_V0 (As := []) (rest := []) C0 cbX3 hM h3 rfl (w_X3_advance hG hZ hM4) tw_345 tw_346 tw_347 tw_16 tw_348 yk_X3_advance (by decide) rfl hl.1 (Nat.le_of_ble_eq_true rfl) dX3_passSemicolon_16 rfl (fun H locs hM => ?_)
    refine lv_iconst (v := 1) hx hb dX3_passSemicolon_19 (by decide) ?_
    exact mr_zret C0 hr hlk hM (Prod.mk.inj (Option.some.inj hp)).2 (Or.inr rfl) (Prod.mk.inj (Option.some.inj hp)).1 (Nat.le_refl _) (Nat.le_refl _) dX3_passSemicolon_20
  · replace hp := oF c2 hp
    refine lv_aload_n hx hb dX3_passSemicolon_8 rfl (lv_at hl 0 rfl) ?_
    refine lv_iconst (v := 1) hx hb dX3_passSemicolon_9 (by decide) ?_
    obtain ⟨_, h5, hp⟩ := ob hp
    obtain ⟨M6, hM6, hp⟩ := ob hp
    refine mr_V0 (As := [.int (1 : Int32)]) (rest := []) C0 cbX3 hM h5 rfl (w_X3_fail hG hM6) tw_412 tw_413 tw_414 tw_16 tw_415 yk_X3_fail (by decide) rfl hl.1 (Nat.le_of_ble_eq_true rfl) dX3_passSemicolon_10 rfl (fun H locs hM => ?_)
    refine lv_iconst (v := 0) hx hb dX3_passSemicolon_13 (by decide) ?_
    exact mr_zret C0 hr hlk hM (Prod.mk.inj (Option.some.inj hp)).2 (Or.inl rfl) (Prod.mk.inj (Option.some.inj hp)).1 (Nat.le_refl _) (Nat.le_refl _) dX3_passSemicolon_14
abbrev rm_X3_readNumber : Room := { frames := 6, cells := 0, slots := 0, locals := 131 }
def pl_X3_readNumber_36 (Z : gZ) (k1 : Int32 → Option (Int32 × Mem)) (f0 : Nat) (f1 : Int32) (f2 : Int32) (M : Mem) : Nat → Int32 → Int32 → Option (Int32 × Mem)
  | 0, _, _ => none
  | n + 1, y3, y4 =>
    (Option.bind (gI 3 10 M f0) fun v10 =>
    (if v10 ≤ y4 then
     (k1 y3)
    else
     (Option.bind (gR 3 0 M f0) fun v12 =>
     (Option.bind (aI 1 M v12 y4) fun v13 =>
     (pl_X3_readNumber_36 Z k1 f0 f1 f2 M n (((y3 * (10 : Int32)) + v13) - (48 : Int32)) (y4 + (1 : Int32)))
     )
     )
    )
    )
set_option maxHeartbeats 4000000 in
set_option maxRecDepth 100000 in
theorem wl_X3_readNumber_36 {G : gG} {p : Program} {l : Launch} {e : Env} {s : State} {m : MethodId} {args : Array Value} {below : List Frame} {meth : Method} {c : Code} {A : Nat → Prop} {Z : gZ} {r : Int32} {M' : Mem} {k1 : Int32 → Option (Int32 × Mem)} {f0 : Nat} {f1 : Int32} {f2 : Int32} {M : Mem} (C0 : cx G p s m args c cX3_readNumber RX3 5 A) (hr : meth.sig.returnType = (some FieldType.int)) (hlk : meth.locks = false) (hG : GOK G) (hZ : GS G Z) (hk1 : ∀ (z3 : Int32) (H : Heap) (locs : List Loc) (ls : Array Slot), mm G A s M H locs → lv_has ls 5 [(0, .ref f0), (1, .int f1), (2, .int f2), (3, .int z3)] → k1 z3 = some (r, M') → W p l e rm_X3_readNumber s m args below meth c H locs 0 0 (MQ below (CQ G M' (some (.int r)) A) args s 0 0 A) (F0 m 67 ls [])) : ∀ (n : Nat) (y3 : Int32) (y4 : Int32) (H : Heap) (locs : List Loc) (ls : Array Slot), mm G A s M H locs → lv_has ls 5 [(0, .ref f0), (1, .int f1), (2, .int f2), (3, .int y3), (4, .int y4)] → pl_X3_readNumber_36 Z k1 f0 f1 f2 M n y3 y4 = some (r, M') → W p l e rm_X3_readNumber s m args below meth c H locs 0 0 (MQ below (CQ G M' (some (.int r)) A) args s 0 0 A) (F0 m 36 ls []) := by
  have hx := C0.1
  have hb := C0.2.1
  have hown := C0.2.2.2.1
  have hts := C0.2.2.2.2.1
  intro n
  induction n with
  | zero => intro y3 y4 H locs ls hM hl hp; rw [pl_X3_readNumber_36] at hp; cases hp
  | succ n ih =>
    intro y3 y4 H locs ls hM hl hp
    rw [pl_X3_readNumber_36] at hp
    refine lv_iload hx hb dX3_readNumber_36 (lv_at hl 4 rfl) ?_
    refine lv_aload_n hx hb dX3_readNumber_38 rfl (lv_at hl 0 rfl) ?_
    obtain ⟨v10, hv10, hp⟩ := ob hp
    refine mr_getI C0 cbX3 hM 10 (by decide) tw_236 hv10 dX3_readNumber_39 ?_
    refine lv_icmp_ge (tgt := 67) hx hb dX3_readNumber_42 (by decide) (fun c11 => ?_) (fun c11 => ?_)
    · replace hp := oT c11 hp
      exact hk1 _ _ _ _ hM (lv_sub hl [0, 1, 2, 3] rfl) hp
    · replace hp := oF c11 hp
      refine lv_iload_n hx hb dX3_readNumber_45 rfl (lv_at hl 3 rfl) ?_
      refine lv_bipush (v := 10) hx hb dX3_readNumber_46 (by decide) ?_
      refine lv_imul hx hb dX3_readNumber_48 ?_
      refine lv_aload_n hx hb dX3_readNumber_49 rfl (lv_at hl 0 rfl) ?_
      obtain ⟨v12, hv12, hp⟩ := ob hp
      refine mr_getR C0 cbX3 hM 0 (by decide) tw_223 hv12 dX3_readNumber_50 ?_
      refine lv_iload hx hb dX3_readNumber_53 (lv_at hl 4 rfl) ?_
      obtain ⟨v13, hv13, hp⟩ := ob hp
      refine mr_bald C0 hM hv13 dX3_readNumber_55 ?_
      refine lv_iadd hx hb dX3_readNumber_56 ?_
      refine lv_bipush (v := 48) hx hb dX3_readNumber_57 (by decide) ?_
      refine lv_isub hx hb dX3_readNumber_59 ?_
      refine lv_istore_n (lv' := [(3, .int (((y3 * (10 : Int32)) + v13) - (48 : Int32))), (0, .ref f0), (1, .int f1), (2, .int f2), (4, .int y4)]) hx hb dX3_readNumber_60 rfl hl (by decide) rfl (fun ls hl => ?_)
      refine lv_iinc (v := (y4 + (1 : Int32))) (lv' := [(4, .int (y4 + (1 : Int32))), (3, .int (((y3 * (10 : Int32)) + v13) - (48 : Int32))), (0, .ref f0), (1, .int f1), (2, .int f2)]) hx hb dX3_readNumber_61 hl (k := 4) rfl rfl (by decide) rfl (fun ls hl => ?_)
      refine lv_goto (tgt := 36) hx hb dX3_readNumber_64 (by decide) ?_
      exact ih _ _ _ _ _ hM (lv_sub hl [2, 3, 4, 1, 0] rfl) hp
def p_X3_readNumber (Z : gZ) (a0 : Nat) (a1 : Int32) (a2 : Int32) (M : Mem) : Option (Int32 × Mem) :=
  (Option.bind (gI 3 8 M a0) fun v1 =>
  (jn (fun (_ : Unit) =>
   (Option.bind (isC 3 M a0) fun _ =>
   (Option.bind (p_X3_fail a0 (1 : Int32) M) fun M4 =>
   some ((-1 : Int32), M4)
   )
   )
  ) fun k2 =>
  (if v1 = (2 : Int32) then
   (Option.bind (gI 3 10 M a0) fun v6 =>
   (Option.bind (gI 3 9 M a0) fun v7 =>
   (if (v6 - v7) ≤ (3 : Int32) then
    (Option.bind (gI 3 9 M a0) fun v9 =>
    (pl_X3_readNumber_36 Z
     (fun (z14 : Int32) =>
      (jn (fun (_ : Unit) =>
       (Option.bind (isC 3 M a0) fun _ =>
       (Option.bind (p_X3_fail a0 (2 : Int32) M) fun M17 =>
       some ((-1 : Int32), M17)
       )
       )
      ) fun k15 =>
      (if z14 < a1 then
       (k15 ())
      else
       (if z14 ≤ a2 then
        (Option.bind (isC 3 M a0) fun _ =>
        (Option.bind (p_X3_advance Z a0 M) fun M21 =>
        some (z14, M21)
        )
        )
       else
        (k15 ())
       )
      )
      )
     )
     a0 a1 a2 M FU (0 : Int32) v9)
    )
   else
    (k2 ())
   )
   )
   )
  else
   (k2 ())
  )
  )
  )
theorem yk_X3_readNumber : yok yX3_readNumber 2 := by decide +kernel
set_option maxHeartbeats 4000000 in
set_option maxRecDepth 100000 in
theorem w_X3_readNumber {G : gG} (hG : GOK G) {Z : gZ} (hZ : GS G Z) {l : Launch} {a0 : Nat} {a1 : Int32} {a2 : Int32} {M : Mem} {r : Int32} {M' : Mem} (hp : p_X3_readNumber Z a0 a1 a2 M = some (r, M')) : CT G l yX3_readNumber (wT yX3_readNumber cX3_readNumber 5 (some FieldType.int)) rm_X3_readNumber [.ref a0, .int a1, .int a2] M (some (.int r)) M' 0 0 := by
  refine CT_of (own := RX3) (maxL := 5) (ret := (some FieldType.int)) hG (by decide) rfl (Nat.le_of_ble_eq_true rfl) (fun p e s m below meth c A C0 hr hlk hM ls hl => ?_)
  have hl : lv_has ls 5 [(0, .ref a0), (1, .int a1), (2, .int a2)] := hl
  generalize ([.ref a0, .int a1, .int a2] : List Value).toArray = args at C0 ⊢
  skip
  have hx := C0.1
  have hb := C0.2.1
  have hown := C0.2.2.2.1
  have hts := C0.2.2.2.2.1
  unfold p_X3_readNumber at hp
  refine lv_aload_n hx hb dX3_readNumber_0 rfl (lv_at hl 0 rfl) ?_
  obtain ⟨v1, hv1, hp⟩ := ob hp
  refine mr_getI C0 cbX3 hM 8 (by decide) tw_234 hv1 dX3_readNumber_1 ?_
  refine lv_iconst (v := 2) hx hb dX3_readNumber_4 (by decide) ?_
  obtain ⟨k2, ek2, hp⟩ := ojn hp
  have hk2 : ∀ (H : Heap) (locs : List Loc) (ls : Array Slot), mm G A s M H locs → lv_has ls 5 [(0, .ref a0)] → k2 () = some (r, M') → W p l e rm_X3_readNumber s m args below meth c H locs 0 0 (MQ below (CQ G M' (some (.int r)) A) args s 0 0 A) (F0 m 21 ls []) := by
    intro  H locs ls hM hl hp
    rw [ek2] at hp
    refine lv_aload_n hx hb dX3_readNumber_21 rfl (lv_at hl 0 rfl) ?_
    refine lv_iconst (v := 1) hx hb dX3_readNumber_22 (by decide) ?_
    obtain ⟨_, h3, hp⟩ := ob hp
    obtain ⟨M4, hM4, hp⟩ := ob hp
    refine mr_V0 (As := [.int (1 : Int32)]) (rest := []) C0 cbX3 hM h3 rfl (w_X3_fail hG hM4) tw_412 tw_413 tw_414 tw_16 tw_415 yk_X3_fail (by decide) rfl hl.1 (Nat.le_of_ble_eq_true rfl) dX3_readNumber_23 rfl (fun H locs hM => ?_)
    refine lv_iconst (v := -1) hx hb dX3_readNumber_26 (by decide) ?_
    exact mr_iret C0 hr hlk hM (Prod.mk.inj (Option.some.inj hp)).2 (Prod.mk.inj (Option.some.inj hp)).1 (Nat.le_refl _) (Nat.le_refl _) dX3_readNumber_27
  refine lv_icmp_ne (tgt := 21) hx hb dX3_readNumber_5 (by decide) (fun c5 => ?_) (fun c5 => ?_)
  · replace hp := oF c5 hp
    exact hk2  _ _ _ hM (lv_sub hl [0] rfl) hp
  · replace hp := oT c5 hp
    refine lv_aload_n hx hb dX3_readNumber_8 rfl (lv_at hl 0 rfl) ?_
    obtain ⟨v6, hv6, hp⟩ := ob hp
    refine mr_getI C0 cbX3 hM 10 (by decide) tw_236 hv6 dX3_readNumber_9 ?_
    refine lv_aload_n hx hb dX3_readNumber_12 rfl (lv_at hl 0 rfl) ?_
    obtain ⟨v7, hv7, hp⟩ := ob hp
    refine mr_getI C0 cbX3 hM 9 (by decide) tw_235 hv7 dX3_readNumber_13 ?_
    refine lv_isub hx hb dX3_readNumber_16 ?_
    refine lv_iconst (v := 3) hx hb dX3_readNumber_17 (by decide) ?_
    refine lv_icmp_le (tgt := 28) hx hb dX3_readNumber_18 (by decide) (fun c8 => ?_) (fun c8 => ?_)
    · replace hp := oT c8 hp
      refine lv_iconst (v := 0) hx hb dX3_readNumber_28 (by decide) ?_
      refine lv_istore_n (lv' := [(3, .int (0 : Int32)), (0, .ref a0), (1, .int a1), (2, .int a2)]) hx hb dX3_readNumber_29 rfl hl (by decide) rfl (fun ls hl => ?_)
      refine lv_aload_n hx hb dX3_readNumber_30 rfl (lv_at hl 1 rfl) ?_
      obtain ⟨v9, hv9, hp⟩ := ob hp
      refine mr_getI C0 cbX3 hM 9 (by decide) tw_235 hv9 dX3_readNumber_31 ?_
      refine lv_istore (lv' := [(4, .int v9), (3, .int (0 : Int32)), (0, .ref a0), (1, .int a1), (2, .int a2)]) hx hb dX3_readNumber_34 hl (by decide) rfl (fun ls hl => ?_)
      refine wl_X3_readNumber_36 C0 hr hlk hG hZ (fun z14 H locs ls hM hl hp => ?_) FU _ _ _ _ _ hM (lv_sub hl [2, 3, 4, 1, 0] rfl) hp
      refine lv_iload_n hx hb dX3_readNumber_67 rfl (lv_at hl 3 rfl) ?_
      refine lv_iload_n hx hb dX3_readNumber_68 rfl (lv_at hl 1 rfl) ?_
      obtain ⟨k15, ek15, hp⟩ := ojn hp
      have hk15 : ∀ (H : Heap) (locs : List Loc) (ls : Array Slot), mm G A s M H locs → lv_has ls 5 [(0, .ref a0)] → k15 () = some (r, M') → W p l e rm_X3_readNumber s m args below meth c H locs 0 0 (MQ below (CQ G M' (some (.int r)) A) args s 0 0 A) (F0 m 77 ls []) := by
        intro  H locs ls hM hl hp
        rw [ek15] at hp
        refine lv_aload_n hx hb dX3_readNumber_77 rfl (lv_at hl 0 rfl) ?_
        refine lv_iconst (v := 2) hx hb dX3_readNumber_78 (by decide) ?_
        obtain ⟨_, h16, hp⟩ := ob hp
        obtain ⟨M17, hM17, hp⟩ := ob hp
        refine mr_V0 (As := [.int (2 : Int32)]) (rest := []) C0 cbX3 hM h16 rfl (w_X3_fail hG hM17) tw_412 tw_413 tw_414 tw_16 tw_415 yk_X3_fail (by decide) rfl hl.1 (Nat.le_of_ble_eq_true rfl) dX3_readNumber_79 rfl (fun H locs hM => ?_)
        refine lv_iconst (v := -1) hx hb dX3_readNumber_82 (by decide) ?_
        exact mr_iret C0 hr hlk hM (Prod.mk.inj (Option.some.inj hp)).2 (Prod.mk.inj (Option.some.inj hp)).1 (Nat.le_refl _) (Nat.le_refl _) dX3_readNumber_83
      refine lv_icmp_lt (tgt := 77) hx hb dX3_readNumber_69 (by decide) (fun c18 => ?_) (fun c18 => ?_)
      · replace hp := oT c18 hp
        exact hk15  _ _ _ hM (lv_sub hl [0] rfl) hp
      · replace hp := oF c18 hp
        refine lv_iload_n hx hb dX3_readNumber_72 rfl (lv_at hl 3 rfl) ?_
        refine lv_iload_n hx hb dX3_readNumber_73 rfl (lv_at hl 2 rfl) ?_
        refine lv_icmp_le (tgt := 84) hx hb dX3_readNumber_74 (by decide) (fun c19 => ?_) (fun c19 => ?_)
        · replace hp := oT c19 hp
          refine lv_aload_n hx hb dX3_readNumber_84 rfl (lv_at hl 0 rfl) ?_
          obtain ⟨_, h20, hp⟩ := ob hp
          obtain ⟨M21, hM21, hp⟩ := ob hp
          refine mr_V0 (As := []) (rest := []) C0 cbX3 hM h20 rfl (w_X3_advance hG hZ hM21) tw_345 tw_346 tw_347 tw_16 tw_348 yk_X3_advance (by decide) rfl hl.1 (Nat.le_of_ble_eq_true rfl) dX3_readNumber_85 rfl (fun H locs hM => ?_)
          refine lv_iload_n hx hb dX3_readNumber_88 rfl (lv_at hl 3 rfl) ?_
          exact mr_iret C0 hr hlk hM (Prod.mk.inj (Option.some.inj hp)).2 (Prod.mk.inj (Option.some.inj hp)).1 (Nat.le_refl _) (Nat.le_refl _) dX3_readNumber_89
        · replace hp := oF c19 hp
          exact hk15  _ _ _ hM (lv_sub hl [0] rfl) hp
    · replace hp := oF c8 hp
      exact hk2  _ _ _ hM (lv_sub hl [0] rfl) hp
abbrev rm_X3_readSetting : Room := { frames := 7, cells := 0, slots := 0, locals := 155 }
def p_X3_readSetting (Z : gZ) (a0 : Nat) (a1 : Int32) (M : Mem) : Option (Int32 × Mem) :=
  (Option.bind (isC 3 M a0) fun _ =>
  (Option.bind (p_X3_advance Z a0 M) fun M2 =>
  (Option.bind (isC 3 M2 a0) fun _ =>
  (ob2 (p_X3_readNumber Z a0 (0 : Int32) a1 M2) fun v4 M5 =>
  (if v4 = (-1 : Int32) then
   some ((-1 : Int32), M5)
  else
   (Option.bind (isC 3 M5 a0) fun _ =>
   (ob2 (p_X3_passSemicolon Z a0 M5) fun v8 M9 =>
   (if v8 = 0 then
    some ((-1 : Int32), M9)
   else
    some (v4, M9)
   )
   )
   )
  )
  )
  )
  )
  )
theorem yk_X3_readSetting : yok yX3_readSetting 1 := by decide +kernel
set_option maxHeartbeats 4000000 in
set_option maxRecDepth 100000 in
theorem w_X3_readSetting {G : gG} (hG : GOK G) {Z : gZ} (hZ : GS G Z) {l : Launch} {a0 : Nat} {a1 : Int32} {M : Mem} {r : Int32} {M' : Mem} (hp : p_X3_readSetting Z a0 a1 M = some (r, M')) : CT G l yX3_readSetting (wT yX3_readSetting cX3_readSetting 3 (some FieldType.int)) rm_X3_readSetting [.ref a0, .int a1] M (some (.int r)) M' 0 0 := by
  refine CT_of (own := RX3) (maxL := 3) (ret := (some FieldType.int)) hG (by decide) rfl (Nat.le_of_ble_eq_true rfl) (fun p e s m below meth c A C0 hr hlk hM ls hl => ?_)
  have hl : lv_has ls 3 [(0, .ref a0), (1, .int a1)] := hl
  generalize ([.ref a0, .int a1] : List Value).toArray = args at C0 ⊢
  skip
  have hx := C0.1
  have hb := C0.2.1
  have hown := C0.2.2.2.1
  have hts := C0.2.2.2.2.1
  unfold p_X3_readSetting at hp
  refine lv_aload_n hx hb dX3_readSetting_0 rfl (lv_at hl 0 rfl) ?_
  obtain ⟨_, h1, hp⟩ := ob hp
  obtain ⟨M2, hM2, hp⟩ := ob hp
  refine mr_V0 (As := []) (rest := []) C0 cbX3 hM h1 rfl (w_X3_advance hG hZ hM2) tw_345 tw_346 tw_347 tw_16 tw_348 yk_X3_advance (by decide) rfl hl.1 (Nat.le_of_ble_eq_true rfl) dX3_readSetting_1 rfl (fun H locs hM => ?_)
  refine lv_aload_n hx hb dX3_readSetting_4 rfl (lv_at hl 0 rfl) ?_
  refine lv_iconst (v := 0) hx hb dX3_readSetting_5 (by decide) ?_
  refine lv_iload_n hx hb dX3_readSetting_6 rfl (lv_at hl 1 rfl) ?_
  obtain ⟨_, h3, hp⟩ := ob hp
  obtain ⟨v4, M5, hv4, hp⟩ := ob3 hp
  refine mr_V1 (As := [.int (0 : Int32), .int a1]) (rest := []) C0 cbX3 hM h3 rfl (w_X3_readNumber hG hZ hv4) tw_424 tw_425 tw_426 tw_16 tw_427 yk_X3_readNumber (by decide) rfl hl.1 (Nat.le_of_ble_eq_true rfl) dX3_readSetting_7 rfl (fun H locs hM => ?_)
  refine lv_istore_n (lv' := [(2, .int v4), (0, .ref a0), (1, .int a1)]) hx hb dX3_readSetting_10 rfl hl (by decide) rfl (fun ls hl => ?_)
  refine lv_iload_n hx hb dX3_readSetting_11 rfl (lv_at hl 0 rfl) ?_
  refine lv_iconst (v := -1) hx hb dX3_readSetting_12 (by decide) ?_
  refine lv_icmp_eq (tgt := 27) hx hb dX3_readSetting_13 (by decide) (fun c6 => ?_) (fun c6 => ?_)
  · replace hp := oT c6 hp
    refine lv_iconst (v := -1) hx hb dX3_readSetting_27 (by decide) ?_
    exact mr_iret C0 hr hlk hM (Prod.mk.inj (Option.some.inj hp)).2 (Prod.mk.inj (Option.some.inj hp)).1 (Nat.le_refl _) (Nat.le_refl _) dX3_readSetting_28
  · replace hp := oF c6 hp
    refine lv_aload_n hx hb dX3_readSetting_16 rfl (lv_at hl 1 rfl) ?_
    obtain ⟨_, h7, hp⟩ := ob hp
    obtain ⟨v8, M9, hv8, hp⟩ := ob3 hp
    refine mr_V1 (As := []) (rest := []) C0 cbX3 hM h7 rfl (w_X3_passSemicolon hG hZ hv8) tw_445 tw_446 tw_447 tw_16 tw_448 yk_X3_passSemicolon (by decide) rfl hl.1 (Nat.le_of_ble_eq_true rfl) dX3_readSetting_17 rfl (fun H locs hM => ?_)
    refine lv_if_eq (tgt := 27) hx hb dX3_readSetting_20 (by decide) (fun c10 => ?_) (fun c10 => ?_)
    · replace hp := oT c10 hp
      refine lv_iconst (v := -1) hx hb dX3_readSetting_27 (by decide) ?_
      exact mr_iret C0 hr hlk hM (Prod.mk.inj (Option.some.inj hp)).2 (Prod.mk.inj (Option.some.inj hp)).1 (Nat.le_refl _) (Nat.le_refl _) dX3_readSetting_28
    · replace hp := oF c10 hp
      refine lv_iload_n hx hb dX3_readSetting_23 rfl (lv_at hl 0 rfl) ?_
      refine lv_goto (tgt := 28) hx hb dX3_readSetting_24 (by decide) ?_
      exact mr_iret C0 hr hlk hM (Prod.mk.inj (Option.some.inj hp)).2 (Prod.mk.inj (Option.some.inj hp)).1 (Nat.le_refl _) (Nat.le_refl _) dX3_readSetting_28
abbrev rm_X3_readAppeals : Room := { frames := 8, cells := 0, slots := 0, locals := 177 }
def p_X3_readAppeals (Z : gZ) (a0 : Nat) (M : Mem) : Option (Mem) :=
  (Option.bind (gI 3 6 M a0) fun v1 =>
  (if v1 = 0 then
   (Option.bind (sZ 3 6 M a0 (1 : Int32)) fun M3 =>
   (Option.bind (gR 3 4 M3 a0) fun v4 =>
   (Option.bind (gR 2 0 M3 v4) fun v5 =>
   (Option.bind (isC 3 M3 a0) fun _ =>
   (ob2 (p_X3_readSetting Z a0 (9 : Int32) M3) fun v7 M8 =>
   (Option.bind (sV 4 2 M8 v5 (.int v7)) fun M9 =>
   some M9
   )
   )
   )
   )
   )
   )
  else
   (Option.bind (isC 3 M a0) fun _ =>
   (Option.bind (p_X3_fail a0 (4 : Int32) M) fun M11 =>
   some M11
   )
   )
  )
  )
theorem yk_X3_readAppeals : yok yX3_readAppeals 0 := by decide +kernel
set_option maxHeartbeats 4000000 in
set_option maxRecDepth 100000 in
theorem w_X3_readAppeals {G : gG} (hG : GOK G) {Z : gZ} (hZ : GS G Z) {l : Launch} {a0 : Nat} {M : Mem} {M' : Mem} (hp : p_X3_readAppeals Z a0 M = some M') : CT G l yX3_readAppeals (wT yX3_readAppeals cX3_readAppeals 1 (none)) rm_X3_readAppeals [.ref a0] M none M' 0 0 := by
  refine CT_of (own := RX3) (maxL := 1) (ret := (none)) hG (by decide) rfl (Nat.le_of_ble_eq_true rfl) (fun p e s m below meth c A C0 hr hlk hM ls hl => ?_)
  have hl : lv_has ls 1 [(0, .ref a0)] := hl
  generalize ([.ref a0] : List Value).toArray = args at C0 ⊢
  skip
  have hx := C0.1
  have hb := C0.2.1
  have hown := C0.2.2.2.1
  have hts := C0.2.2.2.2.1
  unfold p_X3_readAppeals at hp
  refine lv_aload_n hx hb dX3_readAppeals_0 rfl (lv_at hl 0 rfl) ?_
  obtain ⟨v1, hv1, hp⟩ := ob hp
  refine mr_getI C0 cbX3 hM 6 (by decide) tw_232 hv1 dX3_readAppeals_1 ?_
  refine lv_if_eq (tgt := 15) hx hb dX3_readAppeals_4 (by decide) (fun c2 => ?_) (fun c2 => ?_)
  · replace hp := oT c2 hp
    refine lv_aload_n hx hb dX3_readAppeals_15 rfl (lv_at hl 0 rfl) ?_
    refine lv_iconst (v := 1) hx hb dX3_readAppeals_16 (by decide) ?_
    obtain ⟨M3, hM3, hp⟩ := ob hp
    refine mr_putZ C0 cbX3 hM 6 (by decide) rfl rfl tw_232 hM3 dX3_readAppeals_17 (fun H locs hM => ?_)
    refine lv_aload_n hx hb dX3_readAppeals_20 rfl (lv_at hl 0 rfl) ?_
    obtain ⟨v4, hv4, hp⟩ := ob hp
    refine mr_getR C0 cbX3 hM 4 (by decide) tw_229 hv4 dX3_readAppeals_21 ?_
    obtain ⟨v5, hv5, hp⟩ := ob hp
    refine mr_getR C0 cbX2 hM 0 (by decide) tw_134 hv5 dX3_readAppeals_24 ?_
    refine lv_aload_n hx hb dX3_readAppeals_27 rfl (lv_at hl 0 rfl) ?_
    refine lv_bipush (v := 9) hx hb dX3_readAppeals_28 (by decide) ?_
    obtain ⟨_, h6, hp⟩ := ob hp
    obtain ⟨v7, M8, hv7, hp⟩ := ob3 hp
    refine mr_V1 (As := [.int (9 : Int32)]) (rest := [.ref v5]) C0 cbX3 hM h6 rfl (w_X3_readSetting hG hZ hv7) tw_510 tw_511 tw_512 tw_16 tw_513 yk_X3_readSetting (by decide) rfl hl.1 (Nat.le_of_ble_eq_true rfl) dX3_readAppeals_30 rfl (fun H locs hM => ?_)
    obtain ⟨M9, hM9, hp⟩ := ob hp
    refine mr_putI C0 cbX4 hM 2 (by decide) rfl rfl tw_74 hM9 dX3_readAppeals_33 (fun H locs hM => ?_)
    exact mr_vret C0 hr hlk hM (Option.some.inj hp) (Nat.le_refl _) (Nat.le_refl _) dX3_readAppeals_36
  · replace hp := oF c2 hp
    refine lv_aload_n hx hb dX3_readAppeals_7 rfl (lv_at hl 0 rfl) ?_
    refine lv_iconst (v := 4) hx hb dX3_readAppeals_8 (by decide) ?_
    obtain ⟨_, h10, hp⟩ := ob hp
    obtain ⟨M11, hM11, hp⟩ := ob hp
    refine mr_V0 (As := [.int (4 : Int32)]) (rest := []) C0 cbX3 hM h10 rfl (w_X3_fail hG hM11) tw_412 tw_413 tw_414 tw_16 tw_415 yk_X3_fail (by decide) rfl hl.1 (Nat.le_of_ble_eq_true rfl) dX3_readAppeals_9 rfl (fun H locs hM => ?_)
    refine lv_goto (tgt := 36) hx hb dX3_readAppeals_12 (by decide) ?_
    exact mr_vret C0 hr hlk hM (Option.some.inj hp) (Nat.le_refl _) (Nat.le_refl _) dX3_readAppeals_36
abbrev rm_X3_passWord : Room := { frames := 6, cells := 0, slots := 0, locals := 131 }
def p_X3_passWord (Z : gZ) (a0 : Nat) (a1 : Option Nat) (M : Mem) : Option (Int32 × Mem) :=
  (Option.bind (gN 3 11 M a0) fun v1 =>
  (if v1 = a1 then
   (Option.bind (isC 3 M a0) fun _ =>
   (Option.bind (p_X3_advance Z a0 M) fun M4 =>
   some ((1 : Int32), M4)
   )
   )
  else
   some ((0 : Int32), M)
  )
  )
theorem yk_X3_passWord : yok yX3_passWord 1 := by decide +kernel
set_option maxHeartbeats 4000000 in
set_option maxRecDepth 100000 in
theorem w_X3_passWord {G : gG} (hG : GOK G) {Z : gZ} (hZ : GS G Z) {l : Launch} {a0 : Nat} {a1 : Option Nat} {M : Mem} {r : Int32} {M' : Mem} (hp : p_X3_passWord Z a0 a1 M = some (r, M')) : CT G l yX3_passWord (wT yX3_passWord cX3_passWord 2 (some FieldType.boolean)) rm_X3_passWord [.ref a0, va_rf a1] M (some (.int r)) M' 0 0 := by
  refine CT_of (own := RX3) (maxL := 2) (ret := (some FieldType.boolean)) hG (by decide) rfl (by cases a1 <;> exact Nat.le_of_ble_eq_true rfl) (fun p e s m below meth c A C0 hr hlk hM ls hl => ?_)
  have hl : lv_has ls 2 [(0, .ref a0), (1, va_rf a1)] := hl
  generalize ([.ref a0, va_rf a1] : List Value).toArray = args at C0 ⊢
  skip
  have hx := C0.1
  have hb := C0.2.1
  have hown := C0.2.2.2.1
  have hts := C0.2.2.2.2.1
  unfold p_X3_passWord at hp
  refine lv_aload_n hx hb dX3_passWord_0 rfl (lv_at hl 0 rfl) ?_
  obtain ⟨v1, hv1, hp⟩ := ob hp
  refine mr_getN C0 cbX3 hM 11 (by decide) tw_237 hv1 dX3_passWord_1 ?_
  refine mr_aldn C0 dX3_passWord_4 rfl (lv_at hl 1 rfl) ?_
  refine mr_acmp_eq (rx := v1) (ry := a1) (tgt := 10) C0 dX3_passWord_5 (by decide) (fun c2 => ?_) (fun c2 => ?_) rfl rfl
  · replace hp := oT c2 hp
    refine lv_aload_n hx hb dX3_passWord_10 rfl (lv_at hl 0 rfl) ?_
    obtain ⟨_, h3, hp⟩ := ob hp
    obtain ⟨M4, hM4, hp⟩ := ob hp
    refine mr_V0 (As := []) (rest := []) C0 cbX3 hM h3 rfl (w_X3_advance hG hZ hM4) tw_345 tw_346 tw_347 tw_16 tw_348 yk_X3_advance (by decide) rfl hl.1 (Nat.le_of_ble_eq_true rfl) dX3_passWord_11 rfl (fun H locs hM => ?_)
    refine lv_iconst (v := 1) hx hb dX3_passWord_14 (by decide) ?_
    exact mr_zret C0 hr hlk hM (Prod.mk.inj (Option.some.inj hp)).2 (Or.inr rfl) (Prod.mk.inj (Option.some.inj hp)).1 (Nat.le_refl _) (Nat.le_refl _) dX3_passWord_15
  · replace hp := oF c2 hp
    refine lv_iconst (v := 0) hx hb dX3_passWord_8 (by decide) ?_
    exact mr_zret C0 hr hlk hM (Prod.mk.inj (Option.some.inj hp)).2 (Or.inl rfl) (Prod.mk.inj (Option.some.inj hp)).1 (Nat.le_refl _) (Nat.le_refl _) dX3_passWord_9
abbrev rm_X3_nameHere : Room := { frames := 1, cells := 0, slots := 0, locals := 21 }
def pl_X3_nameHere_43 (k1 : Int32 → Option (Int32 × Mem)) (f0 : Nat) (M : Mem) : Nat → Int32 → Int32 → Option (Int32 × Mem)
  | 0, _, _ => none
  | n + 1, y1, y2 =>
    (Option.bind (gI 3 10 M f0) fun v12 =>
    (if v12 ≤ y2 then
     (k1 y1)
    else
     (Option.bind (gR 3 0 M f0) fun v14 =>
     (Option.bind (aI 1 M v14 y2) fun v15 =>
     (pl_X3_nameHere_43 k1 f0 M n ((y1 <<< ((5 : Int32) &&& 31)) ||| ((v15 - (97 : Int32)) + (1 : Int32))) (y2 + (1 : Int32)))
     )
     )
    )
    )
set_option maxHeartbeats 4000000 in
set_option maxRecDepth 100000 in
theorem wl_X3_nameHere_43 {G : gG} {p : Program} {l : Launch} {e : Env} {s : State} {m : MethodId} {args : Array Value} {below : List Frame} {meth : Method} {c : Code} {A : Nat → Prop} {r : Int32} {M' : Mem} {k1 : Int32 → Option (Int32 × Mem)} {f0 : Nat} {M : Mem} (C0 : cx G p s m args c cX3_nameHere RX3 3 A) (hr : meth.sig.returnType = (some FieldType.int)) (hlk : meth.locks = false) (hG : GOK G) (hk1 : ∀ (z1 : Int32) (H : Heap) (locs : List Loc) (ls : Array Slot), mm G A s M H locs → lv_has ls 3 [(1, .int z1)] → k1 z1 = some (r, M') → W p l e rm_X3_nameHere s m args below meth c H locs 0 0 (MQ below (CQ G M' (some (.int r)) A) args s 0 0 A) (F0 m 73 ls [])) : ∀ (n : Nat) (y1 : Int32) (y2 : Int32) (H : Heap) (locs : List Loc) (ls : Array Slot), mm G A s M H locs → lv_has ls 3 [(0, .ref f0), (1, .int y1), (2, .int y2)] → pl_X3_nameHere_43 k1 f0 M n y1 y2 = some (r, M') → W p l e rm_X3_nameHere s m args below meth c H locs 0 0 (MQ below (CQ G M' (some (.int r)) A) args s 0 0 A) (F0 m 43 ls []) := by
  have hx := C0.1
  have hb := C0.2.1
  have hown := C0.2.2.2.1
  have hts := C0.2.2.2.2.1
  intro n
  induction n with
  | zero => intro y1 y2 H locs ls hM hl hp; rw [pl_X3_nameHere_43] at hp; cases hp
  | succ n ih =>
    intro y1 y2 H locs ls hM hl hp
    rw [pl_X3_nameHere_43] at hp
    refine lv_iload_n hx hb dX3_nameHere_43 rfl (lv_at hl 2 rfl) ?_
    refine lv_aload_n hx hb dX3_nameHere_44 rfl (lv_at hl 0 rfl) ?_
    obtain ⟨v12, hv12, hp⟩ := ob hp
    refine mr_getI C0 cbX3 hM 10 (by decide) tw_236 hv12 dX3_nameHere_45 ?_
    refine lv_icmp_ge (tgt := 73) hx hb dX3_nameHere_48 (by decide) (fun c13 => ?_) (fun c13 => ?_)
    · replace hp := oT c13 hp
      exact hk1 _ _ _ _ hM (lv_sub hl [1] rfl) hp
    · replace hp := oF c13 hp
      refine lv_iload_n hx hb dX3_nameHere_51 rfl (lv_at hl 1 rfl) ?_
      refine lv_iconst (v := 5) hx hb dX3_nameHere_52 (by decide) ?_
      refine lv_ishl hx hb dX3_nameHere_53 ?_
      refine lv_aload_n hx hb dX3_nameHere_54 rfl (lv_at hl 0 rfl) ?_
      obtain ⟨v14, hv14, hp⟩ := ob hp
      refine mr_getR C0 cbX3 hM 0 (by decide) tw_223 hv14 dX3_nameHere_55 ?_
      refine lv_iload_n hx hb dX3_nameHere_58 rfl (lv_at hl 2 rfl) ?_
      obtain ⟨v15, hv15, hp⟩ := ob hp
      refine mr_bald C0 hM hv15 dX3_nameHere_59 ?_
      refine lv_bipush (v := 97) hx hb dX3_nameHere_60 (by decide) ?_
      refine lv_isub hx hb dX3_nameHere_62 ?_
      refine lv_iconst (v := 1) hx hb dX3_nameHere_63 (by decide) ?_
      refine lv_iadd hx hb dX3_nameHere_64 ?_
      refine lv_ior hx hb dX3_nameHere_65 ?_
      refine lv_istore_n (lv' := [(1, .int ((y1 <<< ((5 : Int32) &&& 31)) ||| ((v15 - (97 : Int32)) + (1 : Int32)))), (0, .ref f0), (2, .int y2)]) hx hb dX3_nameHere_66 rfl hl (by decide) rfl (fun ls hl => ?_)
      refine lv_iinc (v := (y2 + (1 : Int32))) (lv' := [(2, .int (y2 + (1 : Int32))), (1, .int ((y1 <<< ((5 : Int32) &&& 31)) ||| ((v15 - (97 : Int32)) + (1 : Int32)))), (0, .ref f0)]) hx hb dX3_nameHere_67 hl (k := 2) rfl rfl (by decide) rfl (fun ls hl => ?_)
      refine lv_goto (tgt := 43) hx hb dX3_nameHere_70 (by decide) ?_
      exact ih _ _ _ _ _ hM (lv_sub hl [2, 1, 0] rfl) hp
def p_X3_nameHere (a0 : Nat) (M : Mem) : Option (Int32 × Mem) :=
  (Option.bind (gI 3 8 M a0) fun v1 =>
  (jn (fun (_ : Unit) =>
   (Option.bind (isC 3 M a0) fun _ =>
   (Option.bind (p_X3_fail a0 (1 : Int32) M) fun M4 =>
   some ((-1 : Int32), M4)
   )
   )
  ) fun k2 =>
  (if v1 = (1 : Int32) then
   (Option.bind (gN 3 11 M a0) fun v6 =>
   (if v6 = none then
    (Option.bind (gI 3 10 M a0) fun v8 =>
    (Option.bind (gI 3 9 M a0) fun v9 =>
    (if (v8 - v9) ≤ (6 : Int32) then
     (Option.bind (gI 3 9 M a0) fun v11 =>
     (pl_X3_nameHere_43
      (fun (z16 : Int32) =>
       some (z16, M)
      )
      a0 M FU (0 : Int32) v11)
     )
    else
     (k2 ())
    )
    )
    )
   else
    (k2 ())
   )
   )
  else
   (k2 ())
  )
  )
  )
theorem yk_X3_nameHere : yok yX3_nameHere 0 := by decide +kernel
set_option maxHeartbeats 4000000 in
set_option maxRecDepth 100000 in
theorem w_X3_nameHere {G : gG} (hG : GOK G) {l : Launch} {a0 : Nat} {M : Mem} {r : Int32} {M' : Mem} (hp : p_X3_nameHere a0 M = some (r, M')) : CT G l yX3_nameHere (wT yX3_nameHere cX3_nameHere 3 (some FieldType.int)) rm_X3_nameHere [.ref a0] M (some (.int r)) M' 0 0 := by
  refine CT_of (own := RX3) (maxL := 3) (ret := (some FieldType.int)) hG (by decide) rfl (Nat.le_of_ble_eq_true rfl) (fun p e s m below meth c A C0 hr hlk hM ls hl => ?_)
  have hl : lv_has ls 3 [(0, .ref a0)] := hl
  generalize ([.ref a0] : List Value).toArray = args at C0 ⊢
  skip
  have hx := C0.1
  have hb := C0.2.1
  have hown := C0.2.2.2.1
  have hts := C0.2.2.2.2.1
  unfold p_X3_nameHere at hp
  refine lv_aload_n hx hb dX3_nameHere_0 rfl (lv_at hl 0 rfl) ?_
  obtain ⟨v1, hv1, hp⟩ := ob hp
  refine mr_getI C0 cbX3 hM 8 (by decide) tw_234 hv1 dX3_nameHere_1 ?_
  refine lv_iconst (v := 1) hx hb dX3_nameHere_4 (by decide) ?_
  obtain ⟨k2, ek2, hp⟩ := ojn hp
  have hk2 : ∀ (H : Heap) (locs : List Loc) (ls : Array Slot), mm G A s M H locs → lv_has ls 3 [(0, .ref a0)] → k2 () = some (r, M') → W p l e rm_X3_nameHere s m args below meth c H locs 0 0 (MQ below (CQ G M' (some (.int r)) A) args s 0 0 A) (F0 m 29 ls []) := by
    intro  H locs ls hM hl hp
    rw [ek2] at hp
    refine lv_aload_n hx hb dX3_nameHere_29 rfl (lv_at hl 0 rfl) ?_
    refine lv_iconst (v := 1) hx hb dX3_nameHere_30 (by decide) ?_
    obtain ⟨_, h3, hp⟩ := ob hp
    obtain ⟨M4, hM4, hp⟩ := ob hp
    refine mr_V0 (As := [.int (1 : Int32)]) (rest := []) C0 cbX3 hM h3 rfl (w_X3_fail hG hM4) tw_412 tw_413 tw_414 tw_16 tw_415 yk_X3_fail (by decide) rfl hl.1 (Nat.le_of_ble_eq_true rfl) dX3_nameHere_31 rfl (fun H locs hM => ?_)
    refine lv_iconst (v := -1) hx hb dX3_nameHere_34 (by decide) ?_
    exact mr_iret C0 hr hlk hM (Prod.mk.inj (Option.some.inj hp)).2 (Prod.mk.inj (Option.some.inj hp)).1 (Nat.le_refl _) (Nat.le_refl _) dX3_nameHere_35
  refine lv_icmp_ne (tgt := 29) hx hb dX3_nameHere_5 (by decide) (fun c5 => ?_) (fun c5 => ?_)
  · replace hp := oF c5 hp
    exact hk2  _ _ _ hM (lv_sub hl [0] rfl) hp
  · replace hp := oT c5 hp
    refine lv_aload_n hx hb dX3_nameHere_8 rfl (lv_at hl 0 rfl) ?_
    obtain ⟨v6, hv6, hp⟩ := ob hp
    refine mr_getN C0 cbX3 hM 11 (by decide) tw_237 hv6 dX3_nameHere_9 ?_
    refine mr_ifnonnull (rx := v6) (tgt := 29) C0 dX3_nameHere_12 (by decide) (fun c7 => ?_) (fun c7 => ?_)
    · replace hp := oF c7 hp
      exact hk2  _ _ _ hM (lv_sub hl [0] rfl) hp
    · replace hp := oT c7 hp
      refine lv_aload_n hx hb dX3_nameHere_15 rfl (lv_at hl 0 rfl) ?_
      obtain ⟨v8, hv8, hp⟩ := ob hp
      refine mr_getI C0 cbX3 hM 10 (by decide) tw_236 hv8 dX3_nameHere_16 ?_
      refine lv_aload_n hx hb dX3_nameHere_19 rfl (lv_at hl 0 rfl) ?_
      obtain ⟨v9, hv9, hp⟩ := ob hp
      refine mr_getI C0 cbX3 hM 9 (by decide) tw_235 hv9 dX3_nameHere_20 ?_
      refine lv_isub hx hb dX3_nameHere_23 ?_
      refine lv_bipush (v := 6) hx hb dX3_nameHere_24 (by decide) ?_
      refine lv_icmp_le (tgt := 36) hx hb dX3_nameHere_26 (by decide) (fun c10 => ?_) (fun c10 => ?_)
      · replace hp := oT c10 hp
        refine lv_iconst (v := 0) hx hb dX3_nameHere_36 (by decide) ?_
        refine lv_istore_n (lv' := [(1, .int (0 : Int32)), (0, .ref a0)]) hx hb dX3_nameHere_37 rfl hl (by decide) rfl (fun ls hl => ?_)
        refine lv_aload_n hx hb dX3_nameHere_38 rfl (lv_at hl 1 rfl) ?_
        obtain ⟨v11, hv11, hp⟩ := ob hp
        refine mr_getI C0 cbX3 hM 9 (by decide) tw_235 hv11 dX3_nameHere_39 ?_
        refine lv_istore_n (lv' := [(2, .int v11), (1, .int (0 : Int32)), (0, .ref a0)]) hx hb dX3_nameHere_42 rfl hl (by decide) rfl (fun ls hl => ?_)
        refine wl_X3_nameHere_43 C0 hr hlk hG (fun z16 H locs ls hM hl hp => ?_) FU _ _ _ _ _ hM (lv_sub hl [2, 1, 0] rfl) hp
        refine lv_iload_n hx hb dX3_nameHere_73 rfl (lv_at hl 0 rfl) ?_
        exact mr_iret C0 hr hlk hM (Prod.mk.inj (Option.some.inj hp)).2 (Prod.mk.inj (Option.some.inj hp)).1 (Nat.le_refl _) (Nat.le_refl _) dX3_nameHere_74
      · replace hp := oF c10 hp
        exact hk2  _ _ _ hM (lv_sub hl [0] rfl) hp
abbrev rm_X3_toldSchoolHere : Room := { frames := 2, cells := 0, slots := 0, locals := 43 }
def p_X3_toldSchoolHere (a0 : Nat) (M : Mem) : Option (Int32 × Mem) :=
  (Option.bind (isC 3 M a0) fun _ =>
  (ob2 (p_X3_nameHere a0 M) fun v2 M3 =>
  (if v2 = (-1 : Int32) then
   some ((-1 : Int32), M3)
  else
   (Option.bind (gR 3 4 M3 a0) fun v5 =>
   (Option.bind (gR 2 0 M3 v5) fun v6 =>
   (Option.bind (isC 4 M3 v6) fun _ =>
   (Option.bind (p_X4_find v6 v2 M3) fun v8 =>
   (if v8 = (-1 : Int32) then
    (Option.bind (isC 3 M3 a0) fun _ =>
    (Option.bind (p_X3_fail a0 (3 : Int32) M3) fun M11 =>
    some (v8, M11)
    )
    )
   else
    some (v8, M3)
   )
   )
   )
   )
   )
  )
  )
  )
theorem yk_X3_toldSchoolHere : yok yX3_toldSchoolHere 0 := by decide +kernel
set_option maxHeartbeats 4000000 in
set_option maxRecDepth 100000 in
theorem w_X3_toldSchoolHere {G : gG} (hG : GOK G) {l : Launch} {a0 : Nat} {M : Mem} {r : Int32} {M' : Mem} (hp : p_X3_toldSchoolHere a0 M = some (r, M')) : CT G l yX3_toldSchoolHere (wT yX3_toldSchoolHere cX3_toldSchoolHere 3 (some FieldType.int)) rm_X3_toldSchoolHere [.ref a0] M (some (.int r)) M' 0 0 := by
  refine CT_of (own := RX3) (maxL := 3) (ret := (some FieldType.int)) hG (by decide) rfl (Nat.le_of_ble_eq_true rfl) (fun p e s m below meth c A C0 hr hlk hM ls hl => ?_)
  have hl : lv_has ls 3 [(0, .ref a0)] := hl
  generalize ([.ref a0] : List Value).toArray = args at C0 ⊢
  skip
  have hx := C0.1
  have hb := C0.2.1
  have hown := C0.2.2.2.1
  have hts := C0.2.2.2.2.1
  unfold p_X3_toldSchoolHere at hp
  refine lv_aload_n hx hb dX3_toldSchoolHere_0 rfl (lv_at hl 0 rfl) ?_
  obtain ⟨_, h1, hp⟩ := ob hp
  obtain ⟨v2, M3, hv2, hp⟩ := ob3 hp
  refine mr_V1 (As := []) (rest := []) C0 cbX3 hM h1 rfl (w_X3_nameHere hG hv2) tw_416 tw_417 tw_418 tw_16 tw_419 yk_X3_nameHere (by decide) rfl hl.1 (Nat.le_of_ble_eq_true rfl) dX3_toldSchoolHere_1 rfl (fun H locs hM => ?_)
  refine lv_istore_n (lv' := [(1, .int v2), (0, .ref a0)]) hx hb dX3_toldSchoolHere_4 rfl hl (by decide) rfl (fun ls hl => ?_)
  refine lv_iload_n hx hb dX3_toldSchoolHere_5 rfl (lv_at hl 0 rfl) ?_
  refine lv_iconst (v := -1) hx hb dX3_toldSchoolHere_6 (by decide) ?_
  refine lv_icmp_ne (tgt := 12) hx hb dX3_toldSchoolHere_7 (by decide) (fun c4 => ?_) (fun c4 => ?_)
  · replace hp := oF c4 hp
    refine lv_aload_n hx hb dX3_toldSchoolHere_12 rfl (lv_at hl 1 rfl) ?_
    obtain ⟨v5, hv5, hp⟩ := ob hp
    refine mr_getR C0 cbX3 hM 4 (by decide) tw_229 hv5 dX3_toldSchoolHere_13 ?_
    obtain ⟨v6, hv6, hp⟩ := ob hp
    refine mr_getR C0 cbX2 hM 0 (by decide) tw_134 hv6 dX3_toldSchoolHere_16 ?_
    refine lv_iload_n hx hb dX3_toldSchoolHere_19 rfl (lv_at hl 0 rfl) ?_
    obtain ⟨_, h7, hp⟩ := ob hp
    obtain ⟨v8, hv8, hp⟩ := ob hp
    refine mr_V1 (As := [.int v2]) (rest := []) C0 cbX4 hM h7 rfl (w_X4_find hG hv8) tw_420 tw_421 tw_422 tw_18 tw_423 yk_X4_find (by decide) rfl hl.1 (Nat.le_of_ble_eq_true rfl) dX3_toldSchoolHere_20 rfl (fun H locs hM => ?_)
    refine lv_istore_n (lv' := [(2, .int v8), (1, .int v2), (0, .ref a0)]) hx hb dX3_toldSchoolHere_23 rfl hl (by decide) rfl (fun ls hl => ?_)
    refine lv_iload_n hx hb dX3_toldSchoolHere_24 rfl (lv_at hl 0 rfl) ?_
    refine lv_iconst (v := -1) hx hb dX3_toldSchoolHere_25 (by decide) ?_
    refine lv_icmp_ne (tgt := 34) hx hb dX3_toldSchoolHere_26 (by decide) (fun c9 => ?_) (fun c9 => ?_)
    · replace hp := oF c9 hp
      refine lv_iload_n hx hb dX3_toldSchoolHere_34 rfl (lv_at hl 0 rfl) ?_
      exact mr_iret C0 hr hlk hM (Prod.mk.inj (Option.some.inj hp)).2 (Prod.mk.inj (Option.some.inj hp)).1 (Nat.le_refl _) (Nat.le_refl _) dX3_toldSchoolHere_35
    · replace hp := oT c9 hp
      refine lv_aload_n hx hb dX3_toldSchoolHere_29 rfl (lv_at hl 2 rfl) ?_
      refine lv_iconst (v := 3) hx hb dX3_toldSchoolHere_30 (by decide) ?_
      obtain ⟨_, h10, hp⟩ := ob hp
      obtain ⟨M11, hM11, hp⟩ := ob hp
      refine mr_V0 (As := [.int (3 : Int32)]) (rest := []) C0 cbX3 hM h10 rfl (w_X3_fail hG hM11) tw_412 tw_413 tw_414 tw_16 tw_415 yk_X3_fail (by decide) rfl hl.1 (Nat.le_of_ble_eq_true rfl) dX3_toldSchoolHere_31 rfl (fun H locs hM => ?_)
      refine lv_iload_n hx hb dX3_toldSchoolHere_34 rfl (lv_at hl 0 rfl) ?_
      exact mr_iret C0 hr hlk hM (Prod.mk.inj (Option.some.inj hp)).2 (Prod.mk.inj (Option.some.inj hp)).1 (Nat.le_refl _) (Nat.le_refl _) dX3_toldSchoolHere_35
  · replace hp := oT c4 hp
    refine lv_iconst (v := -1) hx hb dX3_toldSchoolHere_10 (by decide) ?_
    exact mr_iret C0 hr hlk hM (Prod.mk.inj (Option.some.inj hp)).2 (Prod.mk.inj (Option.some.inj hp)).1 (Nat.le_refl _) (Nat.le_refl _) dX3_toldSchoolHere_11
abbrev rm_X3_readWishes : Room := { frames := 6, cells := 0, slots := 0, locals := 131 }
def pl_X3_readWishes_4 (Z : gZ) (k1 : Mem → Option (Int32 × Mem)) (k2 : Mem → Option (Int32 × Mem)) (k3 : Int32 → Mem → Option (Int32 × Mem)) (f0 : Nat) : Nat → Int32 → Int32 → Mem → Option (Int32 × Mem)
  | 0, _, _, _ => none
  | n + 1, y1, y2, M =>
    (if (4 : Int32) ≤ y2 then
     (k3 y1 M)
    else
     (jn (fun (_ : Unit) =>
      (Option.bind (isC 3 M f0) fun _ =>
      (ob2 (p_X3_toldSchoolHere f0 M) fun v7 M8 =>
      (if v7 = (-1 : Int32) then
       (k1  M8)
      else
       (Option.bind (p_X6_rowIndex y1 v7 M8) fun v10 =>
       (if v10 = (-1 : Int32) then
        (Option.bind (isC 3 M8 f0) fun _ =>
        (Option.bind (p_X3_advance Z f0 M8) fun M13 =>
        (pl_X3_readWishes_4 Z k1 k2 k3 f0 n (y1 ||| ((v7 + (1 : Int32)) <<< (((4 : Int32) * y2) &&& 31))) (y2 + (1 : Int32)) M13)
        )
        )
       else
        (k2  M8)
       )
       )
      )
      )
      )
     ) fun k5 =>
     (if y2 = 0 then
      (k5 ())
     else
      (Option.bind (gI 3 8 M f0) fun v15 =>
      (if v15 = (1 : Int32) then
       (k5 ())
      else
       (k3 y1 M)
      )
      )
     )
     )
    )
set_option maxHeartbeats 4000000 in
set_option maxRecDepth 100000 in
theorem wl_X3_readWishes_4 {G : gG} {p : Program} {l : Launch} {e : Env} {s : State} {m : MethodId} {args : Array Value} {below : List Frame} {meth : Method} {c : Code} {A : Nat → Prop} {Z : gZ} {r : Int32} {M' : Mem} {k1 : Mem → Option (Int32 × Mem)} {k2 : Mem → Option (Int32 × Mem)} {k3 : Int32 → Mem → Option (Int32 × Mem)} {f0 : Nat} (C0 : cx G p s m args c cX3_readWishes RX3 4 A) (hr : meth.sig.returnType = (some FieldType.int)) (hlk : meth.locks = false) (hG : GOK G) (hZ : GS G Z) (hk1 : ∀ (M : Mem) (H : Heap) (locs : List Loc) (ls : Array Slot), mm G A s M H locs → lv_has ls 4 [] → k1 M = some (r, M') → W p l e rm_X3_readWishes s m args below meth c H locs 0 0 (MQ below (CQ G M' (some (.int r)) A) args s 0 0 A) (F0 m 31 ls [])) (hk2 : ∀ (M : Mem) (H : Heap) (locs : List Loc) (ls : Array Slot), mm G A s M H locs → lv_has ls 4 [(0, .ref f0)] → k2 M = some (r, M') → W p l e rm_X3_readWishes s m args below meth c H locs 0 0 (MQ below (CQ G M' (some (.int r)) A) args s 0 0 A) (F0 m 42 ls [])) (hk3 : ∀ (z1 : Int32) (M : Mem) (H : Heap) (locs : List Loc) (ls : Array Slot), mm G A s M H locs → lv_has ls 4 [(1, .int z1)] → k3 z1 M = some (r, M') → W p l e rm_X3_readWishes s m args below meth c H locs 0 0 (MQ below (CQ G M' (some (.int r)) A) args s 0 0 A) (F0 m 69 ls [])) : ∀ (n : Nat) (y1 : Int32) (y2 : Int32) (M : Mem) (H : Heap) (locs : List Loc) (ls : Array Slot), mm G A s M H locs → lv_has ls 4 [(0, .ref f0), (1, .int y1), (2, .int y2)] → pl_X3_readWishes_4 Z k1 k2 k3 f0 n y1 y2 M = some (r, M') → W p l e rm_X3_readWishes s m args below meth c H locs 0 0 (MQ below (CQ G M' (some (.int r)) A) args s 0 0 A) (F0 m 4 ls []) := by
  have hx := C0.1
  have hb := C0.2.1
  have hown := C0.2.2.2.1
  have hts := C0.2.2.2.2.1
  intro n
  induction n with
  | zero => intro y1 y2 M H locs ls hM hl hp; rw [pl_X3_readWishes_4] at hp; cases hp
  | succ n ih =>
    intro y1 y2 M H locs ls hM hl hp
    rw [pl_X3_readWishes_4] at hp
    refine lv_iload_n hx hb dX3_readWishes_4 rfl (lv_at hl 2 rfl) ?_
    refine lv_iconst (v := 4) hx hb dX3_readWishes_5 (by decide) ?_
    refine lv_icmp_ge (tgt := 69) hx hb dX3_readWishes_6 (by decide) (fun c4 => ?_) (fun c4 => ?_)
    · replace hp := oT c4 hp
      exact hk3 _ _ _ _ _ hM (lv_sub hl [1] rfl) hp
    · replace hp := oF c4 hp
      refine lv_iload_n hx hb dX3_readWishes_9 rfl (lv_at hl 2 rfl) ?_
      obtain ⟨k5, ek5, hp⟩ := ojn hp
      have hk5 : ∀ (H : Heap) (locs : List Loc) (ls : Array Slot), mm G A s M H locs → lv_has ls 4 [(0, .ref f0), (1, .int y1), (2, .int y2)] → k5 () = some (r, M') → W p l e rm_X3_readWishes s m args below meth c H locs 0 0 (MQ below (CQ G M' (some (.int r)) A) args s 0 0 A) (F0 m 21 ls []) := by
        intro  H locs ls hM hl hp
        rw [ek5] at hp
        refine lv_aload_n hx hb dX3_readWishes_21 rfl (lv_at hl 0 rfl) ?_
        obtain ⟨_, h6, hp⟩ := ob hp
        obtain ⟨v7, M8, hv7, hp⟩ := ob3 hp
        refine mr_V1 (As := []) (rest := []) C0 cbX3 hM h6 rfl (w_X3_toldSchoolHere hG hv7) tw_457 tw_458 tw_459 tw_16 tw_460 yk_X3_toldSchoolHere (by decide) rfl hl.1 (Nat.le_of_ble_eq_true rfl) dX3_readWishes_22 rfl (fun H locs hM => ?_)
        refine lv_istore_n (lv' := [(3, .int v7), (0, .ref f0), (1, .int y1), (2, .int y2)]) hx hb dX3_readWishes_25 rfl hl (by decide) rfl (fun ls hl => ?_)
        refine lv_iload_n hx hb dX3_readWishes_26 rfl (lv_at hl 0 rfl) ?_
        refine lv_iconst (v := -1) hx hb dX3_readWishes_27 (by decide) ?_
        refine lv_icmp_ne (tgt := 33) hx hb dX3_readWishes_28 (by decide) (fun c9 => ?_) (fun c9 => ?_)
        · replace hp := oF c9 hp
          refine lv_iload_n hx hb dX3_readWishes_33 rfl (lv_at hl 2 rfl) ?_
          refine lv_iload_n hx hb dX3_readWishes_34 rfl (lv_at hl 0 rfl) ?_
          obtain ⟨v10, hv10, hp⟩ := ob hp
          refine mr_N1 (As := [.int y1, .int v7]) (rest := []) C0 hM (w_X6_rowIndex hG hv10) tw_442 tw_443 tw_15 tw_444 yk_X6_rowIndex (by decide) rfl hl.1 (Nat.le_of_ble_eq_true rfl) dX3_readWishes_35 rfl (fun H locs hM => ?_)
          refine lv_iconst (v := -1) hx hb dX3_readWishes_38 (by decide) ?_
          refine lv_icmp_eq (tgt := 49) hx hb dX3_readWishes_39 (by decide) (fun c11 => ?_) (fun c11 => ?_)
          · replace hp := oT c11 hp
            refine lv_iload_n hx hb dX3_readWishes_49 rfl (lv_at hl 2 rfl) ?_
            refine lv_iload_n hx hb dX3_readWishes_50 rfl (lv_at hl 0 rfl) ?_
            refine lv_iconst (v := 1) hx hb dX3_readWishes_51 (by decide) ?_
            refine lv_iadd hx hb dX3_readWishes_52 ?_
            refine lv_iconst (v := 4) hx hb dX3_readWishes_53 (by decide) ?_
            refine lv_iload_n hx hb dX3_readWishes_54 rfl (lv_at hl 3 rfl) ?_
            refine lv_imul hx hb dX3_readWishes_55 ?_
            refine lv_ishl hx hb dX3_readWishes_56 ?_
            refine lv_ior hx hb dX3_readWishes_57 ?_
            refine lv_istore_n (lv' := [(1, .int (y1 ||| ((v7 + (1 : Int32)) <<< (((4 : Int32) * y2) &&& 31)))), (3, .int v7), (0, .ref f0), (2, .int y2)]) hx hb dX3_readWishes_58 rfl hl (by decide) rfl (fun ls hl => ?_)
            refine lv_aload_n hx hb dX3_readWishes_59 rfl (lv_at hl 2 rfl) ?_
            obtain ⟨_, h12, hp⟩ := ob hp
            obtain ⟨M13, hM13, hp⟩ := ob hp
            refine mr_V0 (As := []) (rest := []) C0 cbX3 hM h12 rfl (w_X3_advance hG hZ hM13) tw_345 tw_346 tw_347 tw_16 tw_348 yk_X3_advance (by decide) rfl hl.1 (Nat.le_of_ble_eq_true rfl) dX3_readWishes_60 rfl (fun H locs hM => ?_)
            refine lv_iinc (v := (y2 + (1 : Int32))) (lv' := [(2, .int (y2 + (1 : Int32))), (1, .int (y1 ||| ((v7 + (1 : Int32)) <<< (((4 : Int32) * y2) &&& 31)))), (3, .int v7), (0, .ref f0)]) hx hb dX3_readWishes_63 hl (k := 3) rfl rfl (by decide) rfl (fun ls hl => ?_)
            refine lv_goto (tgt := 4) hx hb dX3_readWishes_66 (by decide) ?_
            exact ih _ _ _ _ _ _ hM (lv_sub hl [3, 1, 0] rfl) hp
          · replace hp := oF c11 hp
            exact hk2  _ _ _ _ hM (lv_sub hl [1] rfl) hp
        · replace hp := oT c9 hp
          exact hk1  _ _ _ _ hM (lv_sub hl [] rfl) hp
      refine lv_if_eq (tgt := 21) hx hb dX3_readWishes_10 (by decide) (fun c14 => ?_) (fun c14 => ?_)
      · replace hp := oT c14 hp
        exact hk5  _ _ _ hM (lv_sub hl [0, 1, 2] rfl) hp
      · replace hp := oF c14 hp
        refine lv_aload_n hx hb dX3_readWishes_13 rfl (lv_at hl 0 rfl) ?_
        obtain ⟨v15, hv15, hp⟩ := ob hp
        refine mr_getI C0 cbX3 hM 8 (by decide) tw_234 hv15 dX3_readWishes_14 ?_
        refine lv_iconst (v := 1) hx hb dX3_readWishes_17 (by decide) ?_
        refine lv_icmp_ne (tgt := 69) hx hb dX3_readWishes_18 (by decide) (fun c16 => ?_) (fun c16 => ?_)
        · replace hp := oF c16 hp
          exact hk3 _ _ _ _ _ hM (lv_sub hl [1] rfl) hp
        · replace hp := oT c16 hp
          exact hk5  _ _ _ hM (lv_sub hl [0, 1, 2] rfl) hp
def p_X3_readWishes (Z : gZ) (a0 : Nat) (M : Mem) : Option (Int32 × Mem) :=
  (jn (fun (x1 : Int32) (M2 : Mem) =>
   some (x1, M2)
  ) fun k3 =>
  (pl_X3_readWishes_4 Z
   (fun  (M17 : Mem) =>
    some ((-1 : Int32), M17)
   )
   (fun  (M18 : Mem) =>
    (Option.bind (isC 3 M18 a0) fun _ =>
    (Option.bind (p_X3_fail a0 (3 : Int32) M18) fun M20 =>
    some ((-1 : Int32), M20)
    )
    )
   )
   (fun (z21 : Int32) (M22 : Mem) =>
    (k3 z21 M22)
   )
   a0 FU (0 : Int32) (0 : Int32) M)
  )
theorem yk_X3_readWishes : yok yX3_readWishes 0 := by decide +kernel
set_option maxHeartbeats 4000000 in
set_option maxRecDepth 100000 in
theorem w_X3_readWishes {G : gG} (hG : GOK G) {Z : gZ} (hZ : GS G Z) {l : Launch} {a0 : Nat} {M : Mem} {r : Int32} {M' : Mem} (hp : p_X3_readWishes Z a0 M = some (r, M')) : CT G l yX3_readWishes (wT yX3_readWishes cX3_readWishes 4 (some FieldType.int)) rm_X3_readWishes [.ref a0] M (some (.int r)) M' 0 0 := by
  refine CT_of (own := RX3) (maxL := 4) (ret := (some FieldType.int)) hG (by decide) rfl (Nat.le_of_ble_eq_true rfl) (fun p e s m below meth c A C0 hr hlk hM ls hl => ?_)
  have hl : lv_has ls 4 [(0, .ref a0)] := hl
  generalize ([.ref a0] : List Value).toArray = args at C0 ⊢
  skip
  have hx := C0.1
  have hb := C0.2.1
  have hown := C0.2.2.2.1
  have hts := C0.2.2.2.2.1
  unfold p_X3_readWishes at hp
  refine lv_iconst (v := 0) hx hb dX3_readWishes_0 (by decide) ?_
  refine lv_istore_n (lv' := [(1, .int (0 : Int32)), (0, .ref a0)]) hx hb dX3_readWishes_1 rfl hl (by decide) rfl (fun ls hl => ?_)
  refine lv_iconst (v := 0) hx hb dX3_readWishes_2 (by decide) ?_
  refine lv_istore_n (lv' := [(2, .int (0 : Int32)), (1, .int (0 : Int32)), (0, .ref a0)]) hx hb dX3_readWishes_3 rfl hl (by decide) rfl (fun ls hl => ?_)
  obtain ⟨k3, ek3, hp⟩ := ojn hp
  have hk3 : ∀ (x1 : Int32) (M2 : Mem) (H : Heap) (locs : List Loc) (ls : Array Slot), mm G A s M2 H locs → lv_has ls 4 [(1, .int x1)] → k3 x1 M2 = some (r, M') → W p l e rm_X3_readWishes s m args below meth c H locs 0 0 (MQ below (CQ G M' (some (.int r)) A) args s 0 0 A) (F0 m 69 ls []) := by
    intro x1 M2 H locs ls hM hl hp
    rw [ek3] at hp
    refine lv_iload_n hx hb dX3_readWishes_69 rfl (lv_at hl 0 rfl) ?_
    exact mr_iret C0 hr hlk hM (Prod.mk.inj (Option.some.inj hp)).2 (Prod.mk.inj (Option.some.inj hp)).1 (Nat.le_refl _) (Nat.le_refl _) dX3_readWishes_70
  refine wl_X3_readWishes_4 C0 hr hlk hG hZ (fun M17 H locs ls hM hl hp => ?_) (fun M18 H locs ls hM hl hp => ?_) (fun z21 M22 H locs ls hM hl hp => ?_) FU _ _ _ _ _ _ hM (lv_sub hl [2, 1, 0] rfl) hp
  · refine lv_iconst (v := -1) hx hb dX3_readWishes_31 (by decide) ?_
    exact mr_iret C0 hr hlk hM (Prod.mk.inj (Option.some.inj hp)).2 (Prod.mk.inj (Option.some.inj hp)).1 (Nat.le_refl _) (Nat.le_refl _) dX3_readWishes_32
  · refine lv_aload_n hx hb dX3_readWishes_42 rfl (lv_at hl 0 rfl) ?_
    refine lv_iconst (v := 3) hx hb dX3_readWishes_43 (by decide) ?_
    obtain ⟨_, h19, hp⟩ := ob hp
    obtain ⟨M20, hM20, hp⟩ := ob hp
    refine mr_V0 (As := [.int (3 : Int32)]) (rest := []) C0 cbX3 hM h19 rfl (w_X3_fail hG hM20) tw_412 tw_413 tw_414 tw_16 tw_415 yk_X3_fail (by decide) rfl hl.1 (Nat.le_of_ble_eq_true rfl) dX3_readWishes_44 rfl (fun H locs hM => ?_)
    refine lv_iconst (v := -1) hx hb dX3_readWishes_47 (by decide) ?_
    exact mr_iret C0 hr hlk hM (Prod.mk.inj (Option.some.inj hp)).2 (Prod.mk.inj (Option.some.inj hp)).1 (Nat.le_refl _) (Nat.le_refl _) dX3_readWishes_48
  · exact hk3 _ _ _ _ _ hM (lv_sub hl [0] rfl) hp
abbrev rm_X3_readChild : Room := { frames := 7, cells := 0, slots := 0, locals := 155 }
def p_X3_readChild (Z : gZ) (a0 : Nat) (M : Mem) : Option (Mem) :=
  (Option.bind (gR 3 4 M a0) fun v1 =>
  (Option.bind (gI 2 1 M v1) fun v2 =>
  (if v2 < (40 : Int32) then
   (Option.bind (isC 3 M a0) fun _ =>
   (Option.bind (p_X3_advance Z a0 M) fun M5 =>
   (Option.bind (isC 3 M5 a0) fun _ =>
   (ob2 (p_X3_readNumber Z a0 (0 : Int32) (99 : Int32) M5) fun v7 M8 =>
   (jn (fun (s9 : Int32) (M10 : Mem) =>
    (if s9 = (-1 : Int32) then
     some M10
    else
     (Option.bind (isC 3 M10 a0) fun _ =>
     (ob2 (p_X3_passWord Z a0 (some (Z.2.2.1 7)) M10) fun v14 M15 =>
     (Option.bind (isC 3 M15 a0) fun _ =>
     (ob2 (p_X3_passWord Z a0 (some (Z.2.2.1 9)) M15) fun v17 M18 =>
     (jn (fun (s19 : Int32) (M20 : Mem) =>
      (if s19 = (-1 : Int32) then
       some M20
      else
       (Option.bind (isC 3 M20 a0) fun _ =>
       (ob2 (p_X3_passWord Z a0 (some (Z.2.2.1 10)) M20) fun v24 M25 =>
       (if v24 = 0 then
        (Option.bind (isC 3 M25 a0) fun _ =>
        (Option.bind (p_X3_fail a0 (1 : Int32) M25) fun M40 =>
        some M40
        )
        )
       else
        (Option.bind (isC 3 M25 a0) fun _ =>
        (ob2 (p_X3_readWishes Z a0 M25) fun v28 M29 =>
        (if v28 = (-1 : Int32) then
         some M29
        else
         (Option.bind (isC 3 M29 a0) fun _ =>
         (ob2 (p_X3_passSemicolon Z a0 M29) fun v32 M33 =>
         (if v32 = 0 then
          some M33
         else
          (Option.bind (gR 3 4 M33 a0) fun v35 =>
          (Option.bind (isC 2 M33 v35) fun _ =>
          (ob2 (p_X2_enrol v35 v7 s9 s19 v14 v28 M33) fun v37 M38 =>
          some M38
          )
          )
          )
         )
         )
         )
        )
        )
        )
       )
       )
       )
      )
     ) fun k21 =>
     (if v17 = 0 then
      (k21 (0 : Int32) M18)
     else
      (Option.bind (isC 3 M18 a0) fun _ =>
      (ob2 (p_X3_readNumber Z a0 (1 : Int32) (99 : Int32) M18) fun v43 M44 =>
      (k21 v43 M44)
      )
      )
     )
     )
     )
     )
     )
     )
    )
   ) fun k11 =>
   (if v7 = (-1 : Int32) then
    (k11 (-1 : Int32) M8)
   else
    (Option.bind (isC 3 M8 a0) fun _ =>
    (ob2 (p_X3_readNumber Z a0 (0 : Int32) (99 : Int32) M8) fun v47 M48 =>
    (k11 v47 M48)
    )
    )
   )
   )
   )
   )
   )
   )
  else
   (Option.bind (isC 3 M a0) fun _ =>
   (Option.bind (p_X3_fail a0 (4 : Int32) M) fun M50 =>
   some M50
   )
   )
  )
  )
  )
theorem yk_X3_readChild : yok yX3_readChild 0 := by decide +kernel
set_option maxHeartbeats 4000000 in
set_option maxRecDepth 100000 in
theorem w_X3_readChild {G : gG} (hG : GOK G) {Z : gZ} (hZ : GS G Z) {l : Launch} {a0 : Nat} {M : Mem} {M' : Mem} (hp : p_X3_readChild Z a0 M = some M') : CT G l yX3_readChild (wT yX3_readChild cX3_readChild 6 (none)) rm_X3_readChild [.ref a0] M none M' 0 0 := by
  refine CT_of (own := RX3) (maxL := 6) (ret := (none)) hG (by decide) rfl (Nat.le_of_ble_eq_true rfl) (fun p e s m below meth c A C0 hr hlk hM ls hl => ?_)
  have hl : lv_has ls 6 [(0, .ref a0)] := hl
  generalize ([.ref a0] : List Value).toArray = args at C0 ⊢
  skip
  have hx := C0.1
  have hb := C0.2.1
  have hown := C0.2.2.2.1
  have hts := C0.2.2.2.2.1
  unfold p_X3_readChild at hp
  refine lv_aload_n hx hb dX3_readChild_0 rfl (lv_at hl 0 rfl) ?_
  obtain ⟨v1, hv1, hp⟩ := ob hp
  refine mr_getR C0 cbX3 hM 4 (by decide) tw_229 hv1 dX3_readChild_1 ?_
  obtain ⟨v2, hv2, hp⟩ := ob hp
  refine mr_getI C0 cbX2 hM 1 (by decide) tw_138 hv2 dX3_readChild_4 ?_
  refine lv_bipush (v := 40) hx hb dX3_readChild_7 (by decide) ?_
  refine lv_icmp_lt (tgt := 18) hx hb dX3_readChild_9 (by decide) (fun c3 => ?_) (fun c3 => ?_)
  · replace hp := oT c3 hp
    refine lv_aload_n hx hb dX3_readChild_18 rfl (lv_at hl 0 rfl) ?_
    obtain ⟨_, h4, hp⟩ := ob hp
    obtain ⟨M5, hM5, hp⟩ := ob hp
    refine mr_V0 (As := []) (rest := []) C0 cbX3 hM h4 rfl (w_X3_advance hG hZ hM5) tw_345 tw_346 tw_347 tw_16 tw_348 yk_X3_advance (by decide) rfl hl.1 (Nat.le_of_ble_eq_true rfl) dX3_readChild_19 rfl (fun H locs hM => ?_)
    refine lv_aload_n hx hb dX3_readChild_22 rfl (lv_at hl 0 rfl) ?_
    refine lv_iconst (v := 0) hx hb dX3_readChild_23 (by decide) ?_
    refine lv_bipush (v := 99) hx hb dX3_readChild_24 (by decide) ?_
    obtain ⟨_, h6, hp⟩ := ob hp
    obtain ⟨v7, M8, hv7, hp⟩ := ob3 hp
    refine mr_V1 (As := [.int (0 : Int32), .int (99 : Int32)]) (rest := []) C0 cbX3 hM h6 rfl (w_X3_readNumber hG hZ hv7) tw_424 tw_425 tw_426 tw_16 tw_427 yk_X3_readNumber (by decide) rfl hl.1 (Nat.le_of_ble_eq_true rfl) dX3_readChild_26 rfl (fun H locs hM => ?_)
    refine lv_istore_n (lv' := [(1, .int v7), (0, .ref a0)]) hx hb dX3_readChild_29 rfl hl (by decide) rfl (fun ls hl => ?_)
    refine lv_iload_n hx hb dX3_readChild_30 rfl (lv_at hl 0 rfl) ?_
    refine lv_iconst (v := -1) hx hb dX3_readChild_31 (by decide) ?_
    obtain ⟨k11, ek11, hp⟩ := ojn hp
    have hk11 : ∀ (s9 : Int32) (M10 : Mem) (H : Heap) (locs : List Loc) (ls : Array Slot), mm G A s M10 H locs → lv_has ls 6 [(0, .ref a0), (1, .int v7)] → k11 s9 M10 = some M' → W p l e rm_X3_readChild s m args below meth c H locs 0 0 (MQ below (CQ G M' none A) args s 0 0 A) (F0 m 46 ls [.int s9]) := by
      intro s9 M10 H locs ls hM hl hp
      rw [ek11] at hp
      refine lv_istore_n (lv' := [(2, .int s9), (0, .ref a0), (1, .int v7)]) hx hb dX3_readChild_46 rfl hl (by decide) rfl (fun ls hl => ?_)
      refine lv_iload_n hx hb dX3_readChild_47 rfl (lv_at hl 0 rfl) ?_
      refine lv_iconst (v := -1) hx hb dX3_readChild_48 (by decide) ?_
      refine lv_icmp_ne (tgt := 53) hx hb dX3_readChild_49 (by decide) (fun c12 => ?_) (fun c12 => ?_)
      · replace hp := oF c12 hp
        refine lv_aload_n hx hb dX3_readChild_53 rfl (lv_at hl 1 rfl) ?_
        refine mr_gets C0 hM ((mr_sx C0 hZ).2.2.2.2.1 7 (by decide)).1 tw_436 dX3_readChild_54 ?_
        obtain ⟨_, h13, hp⟩ := ob hp
        obtain ⟨v14, M15, hv14, hp⟩ := ob3 hp
        refine mr_V1 (As := [va_rf (some (Z.2.2.1 7))]) (rest := []) C0 cbX3 hM h13 rfl (w_X3_passWord hG hZ hv14) tw_485 tw_486 tw_487 tw_16 tw_488 yk_X3_passWord (by decide) rfl hl.1 (Nat.le_of_ble_eq_true rfl) dX3_readChild_57 rfl (fun H locs hM => ?_)
        refine lv_istore_n (lv' := [(3, .int v14), (2, .int s9), (0, .ref a0), (1, .int v7)]) hx hb dX3_readChild_60 rfl hl (by decide) rfl (fun ls hl => ?_)
        refine lv_aload_n hx hb dX3_readChild_61 rfl (lv_at hl 2 rfl) ?_
        refine mr_gets C0 hM ((mr_sx C0 hZ).2.2.2.2.1 9 (by decide)).1 tw_489 dX3_readChild_62 ?_
        obtain ⟨_, h16, hp⟩ := ob hp
        obtain ⟨v17, M18, hv17, hp⟩ := ob3 hp
        refine mr_V1 (As := [va_rf (some (Z.2.2.1 9))]) (rest := []) C0 cbX3 hM h16 rfl (w_X3_passWord hG hZ hv17) tw_485 tw_486 tw_487 tw_16 tw_488 yk_X3_passWord (by decide) rfl hl.1 (Nat.le_of_ble_eq_true rfl) dX3_readChild_65 rfl (fun H locs hM => ?_)
        obtain ⟨k21, ek21, hp⟩ := ojn hp
        have hk21 : ∀ (s19 : Int32) (M20 : Mem) (H : Heap) (locs : List Loc) (ls : Array Slot), mm G A s M20 H locs → lv_has ls 6 [(0, .ref a0), (1, .int v7), (2, .int s9), (3, .int v14)] → k21 s19 M20 = some M' → W p l e rm_X3_readChild s m args below meth c H locs 0 0 (MQ below (CQ G M' none A) args s 0 0 A) (F0 m 82 ls [.int s19]) := by
          intro s19 M20 H locs ls hM hl hp
          rw [ek21] at hp
          refine lv_istore (lv' := [(4, .int s19), (0, .ref a0), (1, .int v7), (2, .int s9), (3, .int v14)]) hx hb dX3_readChild_82 hl (by decide) rfl (fun ls hl => ?_)
          refine lv_iload hx hb dX3_readChild_84 (lv_at hl 0 rfl) ?_
          refine lv_iconst (v := -1) hx hb dX3_readChild_86 (by decide) ?_
          refine lv_icmp_ne (tgt := 91) hx hb dX3_readChild_87 (by decide) (fun c22 => ?_) (fun c22 => ?_)
          · replace hp := oF c22 hp
            refine lv_aload_n hx hb dX3_readChild_91 rfl (lv_at hl 1 rfl) ?_
            refine mr_gets C0 hM ((mr_sx C0 hZ).2.2.2.2.1 10 (by decide)).1 tw_491 dX3_readChild_92 ?_
            obtain ⟨_, h23, hp⟩ := ob hp
            obtain ⟨v24, M25, hv24, hp⟩ := ob3 hp
            refine mr_V1 (As := [va_rf (some (Z.2.2.1 10))]) (rest := []) C0 cbX3 hM h23 rfl (w_X3_passWord hG hZ hv24) tw_485 tw_486 tw_487 tw_16 tw_488 yk_X3_passWord (by decide) rfl hl.1 (Nat.le_of_ble_eq_true rfl) dX3_readChild_95 rfl (fun H locs hM => ?_)
            refine lv_if_ne (tgt := 107) hx hb dX3_readChild_98 (by decide) (fun c26 => ?_) (fun c26 => ?_)
            · replace hp := oF c26 hp
              refine lv_aload_n hx hb dX3_readChild_107 rfl (lv_at hl 1 rfl) ?_
              obtain ⟨_, h27, hp⟩ := ob hp
              obtain ⟨v28, M29, hv28, hp⟩ := ob3 hp
              refine mr_V1 (As := []) (rest := []) C0 cbX3 hM h27 rfl (w_X3_readWishes hG hZ hv28) tw_493 tw_494 tw_495 tw_16 tw_496 yk_X3_readWishes (by decide) rfl hl.1 (Nat.le_of_ble_eq_true rfl) dX3_readChild_108 rfl (fun H locs hM => ?_)
              refine lv_istore (lv' := [(5, .int v28), (4, .int s19), (0, .ref a0), (1, .int v7), (2, .int s9), (3, .int v14)]) hx hb dX3_readChild_111 hl (by decide) rfl (fun ls hl => ?_)
              refine lv_iload hx hb dX3_readChild_113 (lv_at hl 0 rfl) ?_
              refine lv_iconst (v := -1) hx hb dX3_readChild_115 (by decide) ?_
              refine lv_icmp_eq (tgt := 141) hx hb dX3_readChild_116 (by decide) (fun c30 => ?_) (fun c30 => ?_)
              · replace hp := oT c30 hp
                exact mr_vret C0 hr hlk hM (Option.some.inj hp) (Nat.le_refl _) (Nat.le_refl _) dX3_readChild_141
              · replace hp := oF c30 hp
                refine lv_aload_n hx hb dX3_readChild_119 rfl (lv_at hl 2 rfl) ?_
                obtain ⟨_, h31, hp⟩ := ob hp
                obtain ⟨v32, M33, hv32, hp⟩ := ob3 hp
                refine mr_V1 (As := []) (rest := []) C0 cbX3 hM h31 rfl (w_X3_passSemicolon hG hZ hv32) tw_445 tw_446 tw_447 tw_16 tw_448 yk_X3_passSemicolon (by decide) rfl hl.1 (Nat.le_of_ble_eq_true rfl) dX3_readChild_120 rfl (fun H locs hM => ?_)
                refine lv_if_eq (tgt := 141) hx hb dX3_readChild_123 (by decide) (fun c34 => ?_) (fun c34 => ?_)
                · replace hp := oT c34 hp
                  exact mr_vret C0 hr hlk hM (Option.some.inj hp) (Nat.le_refl _) (Nat.le_refl _) dX3_readChild_141
                · replace hp := oF c34 hp
                  refine lv_aload_n hx hb dX3_readChild_126 rfl (lv_at hl 2 rfl) ?_
                  obtain ⟨v35, hv35, hp⟩ := ob hp
                  refine mr_getR C0 cbX3 hM 4 (by decide) tw_229 hv35 dX3_readChild_127 ?_
                  refine lv_iload_n hx hb dX3_readChild_130 rfl (lv_at hl 3 rfl) ?_
                  refine lv_iload_n hx hb dX3_readChild_131 rfl (lv_at hl 4 rfl) ?_
                  refine lv_iload hx hb dX3_readChild_132 (lv_at hl 1 rfl) ?_
                  refine lv_iload_n hx hb dX3_readChild_134 rfl (lv_at hl 5 rfl) ?_
                  refine lv_iload hx hb dX3_readChild_135 (lv_at hl 0 rfl) ?_
                  obtain ⟨_, h36, hp⟩ := ob hp
                  obtain ⟨v37, M38, hv37, hp⟩ := ob3 hp
                  refine mr_V1 (As := [.int v7, .int s9, .int s19, .int v14, .int v28]) (rest := []) C0 cbX2 hM h36 rfl (w_X2_enrol hG hv37) tw_497 tw_498 tw_499 tw_17 tw_500 yk_X2_enrol (by decide) rfl hl.1 (Nat.le_of_ble_eq_true rfl) dX3_readChild_137 rfl (fun H locs hM => ?_)
                  refine lv_pop hx hb dX3_readChild_140 rfl ?_
                  exact mr_vret C0 hr hlk hM (Option.some.inj hp) (Nat.le_refl _) (Nat.le_refl _) dX3_readChild_141
            · replace hp := oT c26 hp
              refine lv_aload_n hx hb dX3_readChild_101 rfl (lv_at hl 1 rfl) ?_
              refine lv_iconst (v := 1) hx hb dX3_readChild_102 (by decide) ?_
              obtain ⟨_, h39, hp⟩ := ob hp
              obtain ⟨M40, hM40, hp⟩ := ob hp
              refine mr_V0 (As := [.int (1 : Int32)]) (rest := []) C0 cbX3 hM h39 rfl (w_X3_fail hG hM40) tw_412 tw_413 tw_414 tw_16 tw_415 yk_X3_fail (by decide) rfl hl.1 (Nat.le_of_ble_eq_true rfl) dX3_readChild_103 rfl (fun H locs hM => ?_)
              exact mr_vret C0 hr hlk hM (Option.some.inj hp) (Nat.le_refl _) (Nat.le_refl _) dX3_readChild_106
          · replace hp := oT c22 hp
            exact mr_vret C0 hr hlk hM (Option.some.inj hp) (Nat.le_refl _) (Nat.le_refl _) dX3_readChild_90
        refine lv_if_eq (tgt := 81) hx hb dX3_readChild_68 (by decide) (fun c41 => ?_) (fun c41 => ?_)
        · replace hp := oT c41 hp
          refine lv_iconst (v := 0) hx hb dX3_readChild_81 (by decide) ?_
          exact hk21 _ _ _ _ _ hM (lv_sub hl [2, 3, 1, 0] rfl) hp
        · replace hp := oF c41 hp
          refine lv_aload_n hx hb dX3_readChild_71 rfl (lv_at hl 2 rfl) ?_
          refine lv_iconst (v := 1) hx hb dX3_readChild_72 (by decide) ?_
          refine lv_bipush (v := 99) hx hb dX3_readChild_73 (by decide) ?_
          obtain ⟨_, h42, hp⟩ := ob hp
          obtain ⟨v43, M44, hv43, hp⟩ := ob3 hp
          refine mr_V1 (As := [.int (1 : Int32), .int (99 : Int32)]) (rest := []) C0 cbX3 hM h42 rfl (w_X3_readNumber hG hZ hv43) tw_424 tw_425 tw_426 tw_16 tw_427 yk_X3_readNumber (by decide) rfl hl.1 (Nat.le_of_ble_eq_true rfl) dX3_readChild_75 rfl (fun H locs hM => ?_)
          refine lv_goto (tgt := 82) hx hb dX3_readChild_78 (by decide) ?_
          exact hk21 _ _ _ _ _ hM (lv_sub hl [2, 3, 1, 0] rfl) hp
      · replace hp := oT c12 hp
        exact mr_vret C0 hr hlk hM (Option.some.inj hp) (Nat.le_refl _) (Nat.le_refl _) dX3_readChild_52
    refine lv_icmp_ne (tgt := 39) hx hb dX3_readChild_32 (by decide) (fun c45 => ?_) (fun c45 => ?_)
    · replace hp := oF c45 hp
      refine lv_aload_n hx hb dX3_readChild_39 rfl (lv_at hl 1 rfl) ?_
      refine lv_iconst (v := 0) hx hb dX3_readChild_40 (by decide) ?_
      refine lv_bipush (v := 99) hx hb dX3_readChild_41 (by decide) ?_
      obtain ⟨_, h46, hp⟩ := ob hp
      obtain ⟨v47, M48, hv47, hp⟩ := ob3 hp
      refine mr_V1 (As := [.int (0 : Int32), .int (99 : Int32)]) (rest := []) C0 cbX3 hM h46 rfl (w_X3_readNumber hG hZ hv47) tw_424 tw_425 tw_426 tw_16 tw_427 yk_X3_readNumber (by decide) rfl hl.1 (Nat.le_of_ble_eq_true rfl) dX3_readChild_43 rfl (fun H locs hM => ?_)
      exact hk11 _ _ _ _ _ hM (lv_sub hl [1, 0] rfl) hp
    · replace hp := oT c45 hp
      refine lv_iconst (v := -1) hx hb dX3_readChild_35 (by decide) ?_
      refine lv_goto (tgt := 46) hx hb dX3_readChild_36 (by decide) ?_
      exact hk11 _ _ _ _ _ hM (lv_sub hl [1, 0] rfl) hp
  · replace hp := oF c3 hp
    refine lv_aload_n hx hb dX3_readChild_12 rfl (lv_at hl 0 rfl) ?_
    refine lv_iconst (v := 4) hx hb dX3_readChild_13 (by decide) ?_
    obtain ⟨_, h49, hp⟩ := ob hp
    obtain ⟨M50, hM50, hp⟩ := ob hp
    refine mr_V0 (As := [.int (4 : Int32)]) (rest := []) C0 cbX3 hM h49 rfl (w_X3_fail hG hM50) tw_412 tw_413 tw_414 tw_16 tw_415 yk_X3_fail (by decide) rfl hl.1 (Nat.le_of_ble_eq_true rfl) dX3_readChild_14 rfl (fun H locs hM => ?_)
    exact mr_vret C0 hr hlk hM (Option.some.inj hp) (Nat.le_refl _) (Nat.le_refl _) dX3_readChild_17
abbrev rm_X3_readLate : Room := { frames := 8, cells := 0, slots := 0, locals := 177 }
def p_X3_readLate (Z : gZ) (a0 : Nat) (M : Mem) : Option (Mem) :=
  (Option.bind (gI 3 7 M a0) fun v1 =>
  (if v1 = 0 then
   (Option.bind (sZ 3 7 M a0 (1 : Int32)) fun M3 =>
   (Option.bind (gR 3 4 M3 a0) fun v4 =>
   (Option.bind (isC 3 M3 a0) fun _ =>
   (ob2 (p_X3_readSetting Z a0 (1 : Int32) M3) fun v6 M7 =>
   (if v6 = (1 : Int32) then
    (Option.bind (sZ 2 3 M7 v4 (1 : Int32)) fun M10 =>
    some M10
    )
   else
    (Option.bind (sZ 2 3 M7 v4 (0 : Int32)) fun M9 =>
    some M9
    )
   )
   )
   )
   )
   )
  else
   (Option.bind (isC 3 M a0) fun _ =>
   (Option.bind (p_X3_fail a0 (4 : Int32) M) fun M12 =>
   some M12
   )
   )
  )
  )
theorem yk_X3_readLate : yok yX3_readLate 0 := by decide +kernel
set_option maxHeartbeats 4000000 in
set_option maxRecDepth 100000 in
theorem w_X3_readLate {G : gG} (hG : GOK G) {Z : gZ} (hZ : GS G Z) {l : Launch} {a0 : Nat} {M : Mem} {M' : Mem} (hp : p_X3_readLate Z a0 M = some M') : CT G l yX3_readLate (wT yX3_readLate cX3_readLate 1 (none)) rm_X3_readLate [.ref a0] M none M' 0 0 := by
  refine CT_of (own := RX3) (maxL := 1) (ret := (none)) hG (by decide) rfl (Nat.le_of_ble_eq_true rfl) (fun p e s m below meth c A C0 hr hlk hM ls hl => ?_)
  have hl : lv_has ls 1 [(0, .ref a0)] := hl
  generalize ([.ref a0] : List Value).toArray = args at C0 ⊢
  skip
  have hx := C0.1
  have hb := C0.2.1
  have hown := C0.2.2.2.1
  have hts := C0.2.2.2.2.1
  unfold p_X3_readLate at hp
  refine lv_aload_n hx hb dX3_readLate_0 rfl (lv_at hl 0 rfl) ?_
  obtain ⟨v1, hv1, hp⟩ := ob hp
  refine mr_getI C0 cbX3 hM 7 (by decide) tw_233 hv1 dX3_readLate_1 ?_
  refine lv_if_eq (tgt := 15) hx hb dX3_readLate_4 (by decide) (fun c2 => ?_) (fun c2 => ?_)
  · replace hp := oT c2 hp
    refine lv_aload_n hx hb dX3_readLate_15 rfl (lv_at hl 0 rfl) ?_
    refine lv_iconst (v := 1) hx hb dX3_readLate_16 (by decide) ?_
    obtain ⟨M3, hM3, hp⟩ := ob hp
    refine mr_putZ C0 cbX3 hM 7 (by decide) rfl rfl tw_233 hM3 dX3_readLate_17 (fun H locs hM => ?_)
    refine lv_aload_n hx hb dX3_readLate_20 rfl (lv_at hl 0 rfl) ?_
    obtain ⟨v4, hv4, hp⟩ := ob hp
    refine mr_getR C0 cbX3 hM 4 (by decide) tw_229 hv4 dX3_readLate_21 ?_
    refine lv_aload_n hx hb dX3_readLate_24 rfl (lv_at hl 0 rfl) ?_
    refine lv_iconst (v := 1) hx hb dX3_readLate_25 (by decide) ?_
    obtain ⟨_, h5, hp⟩ := ob hp
    obtain ⟨v6, M7, hv6, hp⟩ := ob3 hp
    refine mr_V1 (As := [.int (1 : Int32)]) (rest := [.ref v4]) C0 cbX3 hM h5 rfl (w_X3_readSetting hG hZ hv6) tw_510 tw_511 tw_512 tw_16 tw_513 yk_X3_readSetting (by decide) rfl hl.1 (Nat.le_of_ble_eq_true rfl) dX3_readLate_26 rfl (fun H locs hM => ?_)
    refine lv_iconst (v := 1) hx hb dX3_readLate_29 (by decide) ?_
    refine lv_icmp_ne (tgt := 37) hx hb dX3_readLate_30 (by decide) (fun c8 => ?_) (fun c8 => ?_)
    · replace hp := oF c8 hp
      refine lv_iconst (v := 0) hx hb dX3_readLate_37 (by decide) ?_
      obtain ⟨M9, hM9, hp⟩ := ob hp
      refine mr_putZ C0 cbX2 hM 3 (by decide) rfl rfl tw_143 hM9 dX3_readLate_38 (fun H locs hM => ?_)
      exact mr_vret C0 hr hlk hM (Option.some.inj hp) (Nat.le_refl _) (Nat.le_refl _) dX3_readLate_41
    · replace hp := oT c8 hp
      refine lv_iconst (v := 1) hx hb dX3_readLate_33 (by decide) ?_
      refine lv_goto (tgt := 38) hx hb dX3_readLate_34 (by decide) ?_
      obtain ⟨M10, hM10, hp⟩ := ob hp
      refine mr_putZ C0 cbX2 hM 3 (by decide) rfl rfl tw_143 hM10 dX3_readLate_38 (fun H locs hM => ?_)
      exact mr_vret C0 hr hlk hM (Option.some.inj hp) (Nat.le_refl _) (Nat.le_refl _) dX3_readLate_41
  · replace hp := oF c2 hp
    refine lv_aload_n hx hb dX3_readLate_7 rfl (lv_at hl 0 rfl) ?_
    refine lv_iconst (v := 4) hx hb dX3_readLate_8 (by decide) ?_
    obtain ⟨_, h11, hp⟩ := ob hp
    obtain ⟨M12, hM12, hp⟩ := ob hp
    refine mr_V0 (As := [.int (4 : Int32)]) (rest := []) C0 cbX3 hM h11 rfl (w_X3_fail hG hM12) tw_412 tw_413 tw_414 tw_16 tw_415 yk_X3_fail (by decide) rfl hl.1 (Nat.le_of_ble_eq_true rfl) dX3_readLate_9 rfl (fun H locs hM => ?_)
    refine lv_goto (tgt := 41) hx hb dX3_readLate_12 (by decide) ?_
    exact mr_vret C0 hr hlk hM (Option.some.inj hp) (Nat.le_refl _) (Nat.le_refl _) dX3_readLate_41
abbrev rm_X3_readPupil : Room := { frames := 7, cells := 0, slots := 0, locals := 155 }
def p_X3_readPupil (Z : gZ) (a0 : Nat) (M : Mem) : Option (Mem) :=
  (Option.bind (gR 3 4 M a0) fun v1 =>
  (Option.bind (gR 2 0 M v1) fun v2 =>
  (Option.bind (gI 4 1 M v2) fun v3 =>
  (if v3 < (20 : Int32) then
   (Option.bind (isC 3 M a0) fun _ =>
   (Option.bind (p_X3_advance Z a0 M) fun M6 =>
   (Option.bind (isC 3 M6 a0) fun _ =>
   (ob2 (p_X3_readNumber Z a0 (1 : Int32) (99 : Int32) M6) fun v8 M9 =>
   (jn (fun (s10 : Int32) (M11 : Mem) =>
    (if s10 = (-1 : Int32) then
     some M11
    else
     (Option.bind (isC 3 M11 a0) fun _ =>
     (Option.bind (p_X3_advance Z a0 M11) fun M15 =>
     (Option.bind (isC 3 M15 a0) fun _ =>
     (ob2 (p_X3_passSemicolon Z a0 M15) fun v17 M18 =>
     (if v17 = 0 then
      some M18
     else
      (Option.bind (gR 3 4 M18 a0) fun v20 =>
      (Option.bind (gR 2 0 M18 v20) fun v21 =>
      (Option.bind (isC 4 M18 v21) fun _ =>
      (Option.bind (p_X4_tellPupil v21 v8 s10 M18) fun M23 =>
      some M23
      )
      )
      )
      )
     )
     )
     )
     )
     )
    )
   ) fun k12 =>
   (if v8 = (-1 : Int32) then
    (k12 (-1 : Int32) M9)
   else
    (Option.bind (isC 3 M9 a0) fun _ =>
    (ob2 (p_X3_toldSchoolHere a0 M9) fun v26 M27 =>
    (k12 v26 M27)
    )
    )
   )
   )
   )
   )
   )
   )
  else
   (Option.bind (isC 3 M a0) fun _ =>
   (Option.bind (p_X3_fail a0 (4 : Int32) M) fun M29 =>
   some M29
   )
   )
  )
  )
  )
  )
theorem yk_X3_readPupil : yok yX3_readPupil 0 := by decide +kernel
set_option maxHeartbeats 4000000 in
set_option maxRecDepth 100000 in
theorem w_X3_readPupil {G : gG} (hG : GOK G) {Z : gZ} (hZ : GS G Z) {l : Launch} {a0 : Nat} {M : Mem} {M' : Mem} (hp : p_X3_readPupil Z a0 M = some M') : CT G l yX3_readPupil (wT yX3_readPupil cX3_readPupil 3 (none)) rm_X3_readPupil [.ref a0] M none M' 0 0 := by
  refine CT_of (own := RX3) (maxL := 3) (ret := (none)) hG (by decide) rfl (Nat.le_of_ble_eq_true rfl) (fun p e s m below meth c A C0 hr hlk hM ls hl => ?_)
  have hl : lv_has ls 3 [(0, .ref a0)] := hl
  generalize ([.ref a0] : List Value).toArray = args at C0 ⊢
  skip
  have hx := C0.1
  have hb := C0.2.1
  have hown := C0.2.2.2.1
  have hts := C0.2.2.2.2.1
  unfold p_X3_readPupil at hp
  refine lv_aload_n hx hb dX3_readPupil_0 rfl (lv_at hl 0 rfl) ?_
  obtain ⟨v1, hv1, hp⟩ := ob hp
  refine mr_getR C0 cbX3 hM 4 (by decide) tw_229 hv1 dX3_readPupil_1 ?_
  obtain ⟨v2, hv2, hp⟩ := ob hp
  refine mr_getR C0 cbX2 hM 0 (by decide) tw_134 hv2 dX3_readPupil_4 ?_
  obtain ⟨v3, hv3, hp⟩ := ob hp
  refine mr_getI C0 cbX4 hM 1 (by decide) tw_70 hv3 dX3_readPupil_7 ?_
  refine lv_bipush (v := 20) hx hb dX3_readPupil_10 (by decide) ?_
  refine lv_icmp_lt (tgt := 21) hx hb dX3_readPupil_12 (by decide) (fun c4 => ?_) (fun c4 => ?_)
  · replace hp := oT c4 hp
    refine lv_aload_n hx hb dX3_readPupil_21 rfl (lv_at hl 0 rfl) ?_
    obtain ⟨_, h5, hp⟩ := ob hp
    obtain ⟨M6, hM6, hp⟩ := ob hp
    refine mr_V0 (As := []) (rest := []) C0 cbX3 hM h5 rfl (w_X3_advance hG hZ hM6) tw_345 tw_346 tw_347 tw_16 tw_348 yk_X3_advance (by decide) rfl hl.1 (Nat.le_of_ble_eq_true rfl) dX3_readPupil_22 rfl (fun H locs hM => ?_)
    refine lv_aload_n hx hb dX3_readPupil_25 rfl (lv_at hl 0 rfl) ?_
    refine lv_iconst (v := 1) hx hb dX3_readPupil_26 (by decide) ?_
    refine lv_bipush (v := 99) hx hb dX3_readPupil_27 (by decide) ?_
    obtain ⟨_, h7, hp⟩ := ob hp
    obtain ⟨v8, M9, hv8, hp⟩ := ob3 hp
    refine mr_V1 (As := [.int (1 : Int32), .int (99 : Int32)]) (rest := []) C0 cbX3 hM h7 rfl (w_X3_readNumber hG hZ hv8) tw_424 tw_425 tw_426 tw_16 tw_427 yk_X3_readNumber (by decide) rfl hl.1 (Nat.le_of_ble_eq_true rfl) dX3_readPupil_29 rfl (fun H locs hM => ?_)
    refine lv_istore_n (lv' := [(1, .int v8), (0, .ref a0)]) hx hb dX3_readPupil_32 rfl hl (by decide) rfl (fun ls hl => ?_)
    refine lv_iload_n hx hb dX3_readPupil_33 rfl (lv_at hl 0 rfl) ?_
    refine lv_iconst (v := -1) hx hb dX3_readPupil_34 (by decide) ?_
    obtain ⟨k12, ek12, hp⟩ := ojn hp
    have hk12 : ∀ (s10 : Int32) (M11 : Mem) (H : Heap) (locs : List Loc) (ls : Array Slot), mm G A s M11 H locs → lv_has ls 3 [(0, .ref a0), (1, .int v8)] → k12 s10 M11 = some M' → W p l e rm_X3_readPupil s m args below meth c H locs 0 0 (MQ below (CQ G M' none A) args s 0 0 A) (F0 m 46 ls [.int s10]) := by
      intro s10 M11 H locs ls hM hl hp
      rw [ek12] at hp
      refine lv_istore_n (lv' := [(2, .int s10), (0, .ref a0), (1, .int v8)]) hx hb dX3_readPupil_46 rfl hl (by decide) rfl (fun ls hl => ?_)
      refine lv_iload_n hx hb dX3_readPupil_47 rfl (lv_at hl 0 rfl) ?_
      refine lv_iconst (v := -1) hx hb dX3_readPupil_48 (by decide) ?_
      refine lv_icmp_ne (tgt := 53) hx hb dX3_readPupil_49 (by decide) (fun c13 => ?_) (fun c13 => ?_)
      · replace hp := oF c13 hp
        refine lv_aload_n hx hb dX3_readPupil_53 rfl (lv_at hl 1 rfl) ?_
        obtain ⟨_, h14, hp⟩ := ob hp
        obtain ⟨M15, hM15, hp⟩ := ob hp
        refine mr_V0 (As := []) (rest := []) C0 cbX3 hM h14 rfl (w_X3_advance hG hZ hM15) tw_345 tw_346 tw_347 tw_16 tw_348 yk_X3_advance (by decide) rfl hl.1 (Nat.le_of_ble_eq_true rfl) dX3_readPupil_54 rfl (fun H locs hM => ?_)
        refine lv_aload_n hx hb dX3_readPupil_57 rfl (lv_at hl 1 rfl) ?_
        obtain ⟨_, h16, hp⟩ := ob hp
        obtain ⟨v17, M18, hv17, hp⟩ := ob3 hp
        refine mr_V1 (As := []) (rest := []) C0 cbX3 hM h16 rfl (w_X3_passSemicolon hG hZ hv17) tw_445 tw_446 tw_447 tw_16 tw_448 yk_X3_passSemicolon (by decide) rfl hl.1 (Nat.le_of_ble_eq_true rfl) dX3_readPupil_58 rfl (fun H locs hM => ?_)
        refine lv_if_eq (tgt := 76) hx hb dX3_readPupil_61 (by decide) (fun c19 => ?_) (fun c19 => ?_)
        · replace hp := oT c19 hp
          exact mr_vret C0 hr hlk hM (Option.some.inj hp) (Nat.le_refl _) (Nat.le_refl _) dX3_readPupil_76
        · replace hp := oF c19 hp
          refine lv_aload_n hx hb dX3_readPupil_64 rfl (lv_at hl 1 rfl) ?_
          obtain ⟨v20, hv20, hp⟩ := ob hp
          refine mr_getR C0 cbX3 hM 4 (by decide) tw_229 hv20 dX3_readPupil_65 ?_
          obtain ⟨v21, hv21, hp⟩ := ob hp
          refine mr_getR C0 cbX2 hM 0 (by decide) tw_134 hv21 dX3_readPupil_68 ?_
          refine lv_iload_n hx hb dX3_readPupil_71 rfl (lv_at hl 2 rfl) ?_
          refine lv_iload_n hx hb dX3_readPupil_72 rfl (lv_at hl 0 rfl) ?_
          obtain ⟨_, h22, hp⟩ := ob hp
          obtain ⟨M23, hM23, hp⟩ := ob hp
          refine mr_V0 (As := [.int v8, .int s10]) (rest := []) C0 cbX4 hM h22 rfl (w_X4_tellPupil hG hM23) tw_475 tw_476 tw_477 tw_18 tw_478 yk_X4_tellPupil (by decide) rfl hl.1 (Nat.le_of_ble_eq_true rfl) dX3_readPupil_73 rfl (fun H locs hM => ?_)
          exact mr_vret C0 hr hlk hM (Option.some.inj hp) (Nat.le_refl _) (Nat.le_refl _) dX3_readPupil_76
      · replace hp := oT c13 hp
        exact mr_vret C0 hr hlk hM (Option.some.inj hp) (Nat.le_refl _) (Nat.le_refl _) dX3_readPupil_52
    refine lv_icmp_ne (tgt := 42) hx hb dX3_readPupil_35 (by decide) (fun c24 => ?_) (fun c24 => ?_)
    · replace hp := oF c24 hp
      refine lv_aload_n hx hb dX3_readPupil_42 rfl (lv_at hl 1 rfl) ?_
      obtain ⟨_, h25, hp⟩ := ob hp
      obtain ⟨v26, M27, hv26, hp⟩ := ob3 hp
      refine mr_V1 (As := []) (rest := []) C0 cbX3 hM h25 rfl (w_X3_toldSchoolHere hG hv26) tw_457 tw_458 tw_459 tw_16 tw_460 yk_X3_toldSchoolHere (by decide) rfl hl.1 (Nat.le_of_ble_eq_true rfl) dX3_readPupil_43 rfl (fun H locs hM => ?_)
      exact hk12 _ _ _ _ _ hM (lv_sub hl [1, 0] rfl) hp
    · replace hp := oT c24 hp
      refine lv_iconst (v := -1) hx hb dX3_readPupil_38 (by decide) ?_
      refine lv_goto (tgt := 46) hx hb dX3_readPupil_39 (by decide) ?_
      exact hk12 _ _ _ _ _ hM (lv_sub hl [1, 0] rfl) hp
  · replace hp := oF c4 hp
    refine lv_aload_n hx hb dX3_readPupil_15 rfl (lv_at hl 0 rfl) ?_
    refine lv_iconst (v := 4) hx hb dX3_readPupil_16 (by decide) ?_
    obtain ⟨_, h28, hp⟩ := ob hp
    obtain ⟨M29, hM29, hp⟩ := ob hp
    refine mr_V0 (As := [.int (4 : Int32)]) (rest := []) C0 cbX3 hM h28 rfl (w_X3_fail hG hM29) tw_412 tw_413 tw_414 tw_16 tw_415 yk_X3_fail (by decide) rfl hl.1 (Nat.le_of_ble_eq_true rfl) dX3_readPupil_17 rfl (fun H locs hM => ?_)
    exact mr_vret C0 hr hlk hM (Option.some.inj hp) (Nat.le_refl _) (Nat.le_refl _) dX3_readPupil_20
abbrev rm_X3_ruleHere : Room := { frames := 0, cells := 0, slots := 0, locals := 0 }
def p_X3_ruleHere (Z : gZ) (a0 : Nat) (M : Mem) : Option (Int32) :=
  (Option.bind (gN 3 11 M a0) fun v1 =>
  (if v1 = (some (Z.2.2.1 7)) then
   some (0 : Int32)
  else
   (Option.bind (gN 3 11 M a0) fun v3 =>
   (if v3 = (some (Z.2.2.1 8)) then
    some (1 : Int32)
   else
    (Option.bind (gN 3 11 M a0) fun v5 =>
    (if v5 = (some (Z.2.2.1 1)) then
     some (2 : Int32)
    else
     some (-1 : Int32)
    )
    )
   )
   )
  )
  )
theorem yk_X3_ruleHere : yok yX3_ruleHere 0 := by decide +kernel
set_option maxHeartbeats 4000000 in
set_option maxRecDepth 100000 in
theorem w_X3_ruleHere {G : gG} (hG : GOK G) {Z : gZ} (hZ : GS G Z) {l : Launch} {a0 : Nat} {M : Mem} {r : Int32} (hp : p_X3_ruleHere Z a0 M = some r) : CT G l yX3_ruleHere (wT yX3_ruleHere cX3_ruleHere 1 (some FieldType.int)) rm_X3_ruleHere [.ref a0] M (some (.int r)) M 0 0 := by
  refine CT_of (own := RX3) (maxL := 1) (ret := (some FieldType.int)) hG (by decide) rfl (Nat.le_of_ble_eq_true rfl) (fun p e s m below meth c A C0 hr hlk hM ls hl => ?_)
  have hl : lv_has ls 1 [(0, .ref a0)] := hl
  generalize ([.ref a0] : List Value).toArray = args at C0 ⊢
  skip
  have hx := C0.1
  have hb := C0.2.1
  have hown := C0.2.2.2.1
  have hts := C0.2.2.2.2.1
  unfold p_X3_ruleHere at hp
  refine lv_aload_n hx hb dX3_ruleHere_0 rfl (lv_at hl 0 rfl) ?_
  obtain ⟨v1, hv1, hp⟩ := ob hp
  refine mr_getN C0 cbX3 hM 11 (by decide) tw_237 hv1 dX3_ruleHere_1 ?_
  refine mr_gets C0 hM ((mr_sx C0 hZ).2.2.2.2.1 7 (by decide)).1 tw_436 dX3_ruleHere_4 ?_
  refine mr_acmp_ne (rx := v1) (ry := (some (Z.2.2.1 7))) (tgt := 12) C0 dX3_ruleHere_7 (by decide) (fun c2 => ?_) (fun c2 => ?_) rfl rfl
  · replace hp := oF c2 hp
    refine lv_aload_n hx hb dX3_ruleHere_12 rfl (lv_at hl 0 rfl) ?_
    obtain ⟨v3, hv3, hp⟩ := ob hp
    refine mr_getN C0 cbX3 hM 11 (by decide) tw_237 hv3 dX3_ruleHere_13 ?_
    refine mr_gets C0 hM ((mr_sx C0 hZ).2.2.2.2.1 8 (by decide)).1 tw_438 dX3_ruleHere_16 ?_
    refine mr_acmp_ne (rx := v3) (ry := (some (Z.2.2.1 8))) (tgt := 24) C0 dX3_ruleHere_19 (by decide) (fun c4 => ?_) (fun c4 => ?_) rfl rfl
    · replace hp := oF c4 hp
      refine lv_aload_n hx hb dX3_ruleHere_24 rfl (lv_at hl 0 rfl) ?_
      obtain ⟨v5, hv5, hp⟩ := ob hp
      refine mr_getN C0 cbX3 hM 11 (by decide) tw_237 hv5 dX3_ruleHere_25 ?_
      refine mr_gets C0 hM ((mr_sx C0 hZ).2.2.2.2.1 1 (by decide)).1 tw_440 dX3_ruleHere_28 ?_
      refine mr_acmp_ne (rx := v5) (ry := (some (Z.2.2.1 1))) (tgt := 38) C0 dX3_ruleHere_31 (by decide) (fun c6 => ?_) (fun c6 => ?_) rfl rfl
      · replace hp := oF c6 hp
        refine lv_iconst (v := -1) hx hb dX3_ruleHere_38 (by decide) ?_
        exact mr_iret C0 hr hlk hM rfl (Option.some.inj hp) (Nat.le_refl _) (Nat.le_refl _) dX3_ruleHere_39
      · replace hp := oT c6 hp
        refine lv_iconst (v := 2) hx hb dX3_ruleHere_34 (by decide) ?_
        refine lv_goto (tgt := 39) hx hb dX3_ruleHere_35 (by decide) ?_
        exact mr_iret C0 hr hlk hM rfl (Option.some.inj hp) (Nat.le_refl _) (Nat.le_refl _) dX3_ruleHere_39
    · replace hp := oT c4 hp
      refine lv_iconst (v := 1) hx hb dX3_ruleHere_22 (by decide) ?_
      exact mr_iret C0 hr hlk hM rfl (Option.some.inj hp) (Nat.le_refl _) (Nat.le_refl _) dX3_ruleHere_23
  · replace hp := oT c2 hp
    refine lv_iconst (v := 0) hx hb dX3_ruleHere_10 (by decide) ?_
    exact mr_iret C0 hr hlk hM rfl (Option.some.inj hp) (Nat.le_refl _) (Nat.le_refl _) dX3_ruleHere_11
abbrev rm_X3_readRules : Room := { frames := 6, cells := 0, slots := 0, locals := 131 }
def pl_X3_readRules_4 (Z : gZ) (k1 : Int32 → Mem → Option (Int32 × Mem)) (k2 : Int32 → Mem → Option (Int32 × Mem)) (f0 : Nat) : Nat → Int32 → Int32 → Mem → Option (Int32 × Mem)
  | 0, _, _, _ => none
  | n + 1, y1, y2, M =>
    (if (3 : Int32) ≤ y2 then
     (k2 y1 M)
    else
     (Option.bind (isC 3 M f0) fun _ =>
     (Option.bind (p_X3_ruleHere Z f0 M) fun v6 =>
     (if v6 = (-1 : Int32) then
      (k1 y1 M)
     else
      (Option.bind (p_X6_rowIndex y1 v6 M) fun v8 =>
      (if v8 = (-1 : Int32) then
       (Option.bind (isC 3 M f0) fun _ =>
       (Option.bind (p_X3_advance Z f0 M) fun M11 =>
       (pl_X3_readRules_4 Z k1 k2 f0 n (y1 ||| ((v6 + (1 : Int32)) <<< (((4 : Int32) * y2) &&& 31))) (y2 + (1 : Int32)) M11)
       )
       )
      else
       (k1 y1 M)
      )
      )
     )
     )
     )
    )
set_option maxHeartbeats 4000000 in
set_option maxRecDepth 100000 in
theorem wl_X3_readRules_4 {G : gG} {p : Program} {l : Launch} {e : Env} {s : State} {m : MethodId} {args : Array Value} {below : List Frame} {meth : Method} {c : Code} {A : Nat → Prop} {Z : gZ} {r : Int32} {M' : Mem} {k1 : Int32 → Mem → Option (Int32 × Mem)} {k2 : Int32 → Mem → Option (Int32 × Mem)} {f0 : Nat} (C0 : cx G p s m args c cX3_readRules RX3 4 A) (hr : meth.sig.returnType = (some FieldType.int)) (hlk : meth.locks = false) (hG : GOK G) (hZ : GS G Z) (hk1 : ∀ (z1 : Int32) (M : Mem) (H : Heap) (locs : List Loc) (ls : Array Slot), mm G A s M H locs → lv_has ls 4 [(1, .int z1)] → k1 z1 M = some (r, M') → W p l e rm_X3_readRules s m args below meth c H locs 0 0 (MQ below (CQ G M' (some (.int r)) A) args s 0 0 A) (F0 m 28 ls [])) (hk2 : ∀ (z1 : Int32) (M : Mem) (H : Heap) (locs : List Loc) (ls : Array Slot), mm G A s M H locs → lv_has ls 4 [(1, .int z1)] → k2 z1 M = some (r, M') → W p l e rm_X3_readRules s m args below meth c H locs 0 0 (MQ below (CQ G M' (some (.int r)) A) args s 0 0 A) (F0 m 50 ls [])) : ∀ (n : Nat) (y1 : Int32) (y2 : Int32) (M : Mem) (H : Heap) (locs : List Loc) (ls : Array Slot), mm G A s M H locs → lv_has ls 4 [(0, .ref f0), (1, .int y1), (2, .int y2)] → pl_X3_readRules_4 Z k1 k2 f0 n y1 y2 M = some (r, M') → W p l e rm_X3_readRules s m args below meth c H locs 0 0 (MQ below (CQ G M' (some (.int r)) A) args s 0 0 A) (F0 m 4 ls []) := by
  have hx := C0.1
  have hb := C0.2.1
  have hown := C0.2.2.2.1
  have hts := C0.2.2.2.2.1
  intro n
  induction n with
  | zero => intro y1 y2 M H locs ls hM hl hp; rw [pl_X3_readRules_4] at hp; cases hp
  | succ n ih =>
    intro y1 y2 M H locs ls hM hl hp
    rw [pl_X3_readRules_4] at hp
    refine lv_iload_n hx hb dX3_readRules_4 rfl (lv_at hl 2 rfl) ?_
    refine lv_iconst (v := 3) hx hb dX3_readRules_5 (by decide) ?_
    refine lv_icmp_ge (tgt := 50) hx hb dX3_readRules_6 (by decide) (fun c4 => ?_) (fun c4 => ?_)
    · replace hp := oT c4 hp
      exact hk2 _ _ _ _ _ hM (lv_sub hl [1] rfl) hp
    · replace hp := oF c4 hp
      refine lv_aload_n hx hb dX3_readRules_9 rfl (lv_at hl 0 rfl) ?_
      obtain ⟨_, h5, hp⟩ := ob hp
      obtain ⟨v6, hv6, hp⟩ := ob hp
      refine mr_V1 (As := []) (rest := []) C0 cbX3 hM h5 rfl (w_X3_ruleHere hG hZ hv6) tw_432 tw_433 tw_434 tw_16 tw_435 yk_X3_ruleHere (by decide) rfl hl.1 (Nat.le_of_ble_eq_true rfl) dX3_readRules_10 rfl (fun H locs hM => ?_)
      refine lv_istore_n (lv' := [(3, .int v6), (0, .ref f0), (1, .int y1), (2, .int y2)]) hx hb dX3_readRules_13 rfl hl (by decide) rfl (fun ls hl => ?_)
      refine lv_iload_n hx hb dX3_readRules_14 rfl (lv_at hl 0 rfl) ?_
      refine lv_iconst (v := -1) hx hb dX3_readRules_15 (by decide) ?_
      refine lv_icmp_eq (tgt := 28) hx hb dX3_readRules_16 (by decide) (fun c7 => ?_) (fun c7 => ?_)
      · replace hp := oT c7 hp
        exact hk1 _ _ _ _ _ hM (lv_sub hl [2] rfl) hp
      · replace hp := oF c7 hp
        refine lv_iload_n hx hb dX3_readRules_19 rfl (lv_at hl 2 rfl) ?_
        refine lv_iload_n hx hb dX3_readRules_20 rfl (lv_at hl 0 rfl) ?_
        obtain ⟨v8, hv8, hp⟩ := ob hp
        refine mr_N1 (As := [.int y1, .int v6]) (rest := []) C0 hM (w_X6_rowIndex hG hv8) tw_442 tw_443 tw_15 tw_444 yk_X6_rowIndex (by decide) rfl hl.1 (Nat.le_of_ble_eq_true rfl) dX3_readRules_21 rfl (fun H locs hM => ?_)
        refine lv_iconst (v := -1) hx hb dX3_readRules_24 (by decide) ?_
        refine lv_icmp_eq (tgt := 30) hx hb dX3_readRules_25 (by decide) (fun c9 => ?_) (fun c9 => ?_)
        · replace hp := oT c9 hp
          refine lv_iload_n hx hb dX3_readRules_30 rfl (lv_at hl 2 rfl) ?_
          refine lv_iload_n hx hb dX3_readRules_31 rfl (lv_at hl 0 rfl) ?_
          refine lv_iconst (v := 1) hx hb dX3_readRules_32 (by decide) ?_
          refine lv_iadd hx hb dX3_readRules_33 ?_
          refine lv_iconst (v := 4) hx hb dX3_readRules_34 (by decide) ?_
          refine lv_iload_n hx hb dX3_readRules_35 rfl (lv_at hl 3 rfl) ?_
          refine lv_imul hx hb dX3_readRules_36 ?_
          refine lv_ishl hx hb dX3_readRules_37 ?_
          refine lv_ior hx hb dX3_readRules_38 ?_
          refine lv_istore_n (lv' := [(1, .int (y1 ||| ((v6 + (1 : Int32)) <<< (((4 : Int32) * y2) &&& 31)))), (3, .int v6), (0, .ref f0), (2, .int y2)]) hx hb dX3_readRules_39 rfl hl (by decide) rfl (fun ls hl => ?_)
          refine lv_aload_n hx hb dX3_readRules_40 rfl (lv_at hl 2 rfl) ?_
          obtain ⟨_, h10, hp⟩ := ob hp
          obtain ⟨M11, hM11, hp⟩ := ob hp
          refine mr_V0 (As := []) (rest := []) C0 cbX3 hM h10 rfl (w_X3_advance hG hZ hM11) tw_345 tw_346 tw_347 tw_16 tw_348 yk_X3_advance (by decide) rfl hl.1 (Nat.le_of_ble_eq_true rfl) dX3_readRules_41 rfl (fun H locs hM => ?_)
          refine lv_iinc (v := (y2 + (1 : Int32))) (lv' := [(2, .int (y2 + (1 : Int32))), (1, .int (y1 ||| ((v6 + (1 : Int32)) <<< (((4 : Int32) * y2) &&& 31)))), (3, .int v6), (0, .ref f0)]) hx hb dX3_readRules_44 hl (k := 3) rfl rfl (by decide) rfl (fun ls hl => ?_)
          refine lv_goto (tgt := 4) hx hb dX3_readRules_47 (by decide) ?_
          exact ih _ _ _ _ _ _ hM (lv_sub hl [3, 1, 0] rfl) hp
        · replace hp := oF c9 hp
          exact hk1 _ _ _ _ _ hM (lv_sub hl [2] rfl) hp
def p_X3_readRules (Z : gZ) (a0 : Nat) (M : Mem) : Option (Int32 × Mem) :=
  (jn (fun (x1 : Int32) (M2 : Mem) =>
   some (x1, M2)
  ) fun k3 =>
  (pl_X3_readRules_4 Z
   (fun (z12 : Int32) (M13 : Mem) =>
    (k3 z12 M13)
   )
   (fun (z14 : Int32) (M15 : Mem) =>
    some (z14, M15)
   )
   a0 FU (0 : Int32) (0 : Int32) M)
  )
theorem yk_X3_readRules : yok yX3_readRules 0 := by decide +kernel
set_option maxHeartbeats 4000000 in
set_option maxRecDepth 100000 in
theorem w_X3_readRules {G : gG} (hG : GOK G) {Z : gZ} (hZ : GS G Z) {l : Launch} {a0 : Nat} {M : Mem} {r : Int32} {M' : Mem} (hp : p_X3_readRules Z a0 M = some (r, M')) : CT G l yX3_readRules (wT yX3_readRules cX3_readRules 4 (some FieldType.int)) rm_X3_readRules [.ref a0] M (some (.int r)) M' 0 0 := by
  refine CT_of (own := RX3) (maxL := 4) (ret := (some FieldType.int)) hG (by decide) rfl (Nat.le_of_ble_eq_true rfl) (fun p e s m below meth c A C0 hr hlk hM ls hl => ?_)
  have hl : lv_has ls 4 [(0, .ref a0)] := hl
  generalize ([.ref a0] : List Value).toArray = args at C0 ⊢
  skip
  have hx := C0.1
  have hb := C0.2.1
  have hown := C0.2.2.2.1
  have hts := C0.2.2.2.2.1
  unfold p_X3_readRules at hp
  refine lv_iconst (v := 0) hx hb dX3_readRules_0 (by decide) ?_
  refine lv_istore_n (lv' := [(1, .int (0 : Int32)), (0, .ref a0)]) hx hb dX3_readRules_1 rfl hl (by decide) rfl (fun ls hl => ?_)
  refine lv_iconst (v := 0) hx hb dX3_readRules_2 (by decide) ?_
  refine lv_istore_n (lv' := [(2, .int (0 : Int32)), (1, .int (0 : Int32)), (0, .ref a0)]) hx hb dX3_readRules_3 rfl hl (by decide) rfl (fun ls hl => ?_)
  obtain ⟨k3, ek3, hp⟩ := ojn hp
  have hk3 : ∀ (x1 : Int32) (M2 : Mem) (H : Heap) (locs : List Loc) (ls : Array Slot), mm G A s M2 H locs → lv_has ls 4 [(1, .int x1)] → k3 x1 M2 = some (r, M') → W p l e rm_X3_readRules s m args below meth c H locs 0 0 (MQ below (CQ G M' (some (.int r)) A) args s 0 0 A) (F0 m 28 ls []) := by
    intro x1 M2 H locs ls hM hl hp
    rw [ek3] at hp
    refine lv_iload_n hx hb dX3_readRules_28 rfl (lv_at hl 0 rfl) ?_
    exact mr_iret C0 hr hlk hM (Prod.mk.inj (Option.some.inj hp)).2 (Prod.mk.inj (Option.some.inj hp)).1 (Nat.le_refl _) (Nat.le_refl _) dX3_readRules_29
  refine wl_X3_readRules_4 C0 hr hlk hG hZ (fun z12 M13 H locs ls hM hl hp => ?_) (fun z14 M15 H locs ls hM hl hp => ?_) FU _ _ _ _ _ _ hM (lv_sub hl [2, 1, 0] rfl) hp
  · exact hk3 _ _ _ _ _ hM (lv_sub hl [0] rfl) hp
  · refine lv_iload_n hx hb dX3_readRules_50 rfl (lv_at hl 0 rfl) ?_
    exact mr_iret C0 hr hlk hM (Prod.mk.inj (Option.some.inj hp)).2 (Prod.mk.inj (Option.some.inj hp)).1 (Nat.le_refl _) (Nat.le_refl _) dX3_readRules_51
abbrev rm_X3_readSchool : Room := { frames := 7, cells := 0, slots := 0, locals := 155 }
def p_X3_readSchool (Z : gZ) (a0 : Nat) (M : Mem) : Option (Mem) :=
  (Option.bind (gR 3 4 M a0) fun v1 =>
  (Option.bind (gR 2 0 M v1) fun v2 =>
  (Option.bind (gI 4 0 M v2) fun v3 =>
  (if v3 < (8 : Int32) then
   (Option.bind (isC 3 M a0) fun _ =>
   (Option.bind (p_X3_advance Z a0 M) fun M6 =>
   (Option.bind (isC 3 M6 a0) fun _ =>
   (ob2 (p_X3_nameHere a0 M6) fun v8 M9 =>
   (if v8 = (-1 : Int32) then
    some M9
   else
    (Option.bind (gR 3 4 M9 a0) fun v11 =>
    (Option.bind (gR 2 0 M9 v11) fun v12 =>
    (Option.bind (isC 4 M9 v12) fun _ =>
    (Option.bind (p_X4_find v12 v8 M9) fun v14 =>
    (if v14 = (-1 : Int32) then
     (Option.bind (isC 3 M9 a0) fun _ =>
     (Option.bind (p_X3_advance Z a0 M9) fun M17 =>
     (Option.bind (isC 3 M17 a0) fun _ =>
     (ob2 (p_X3_readNumber Z a0 (0 : Int32) (40 : Int32) M17) fun v19 M20 =>
     (jn (fun (s21 : Int32) (M22 : Mem) =>
      (jn (fun (s24 : Int32) (M25 : Mem) =>
       (if s24 = (-1 : Int32) then
        some M25
       else
        (Option.bind (isC 3 M25 a0) fun _ =>
        (ob2 (p_X3_readRules Z a0 M25) fun v29 M30 =>
        (Option.bind (isC 3 M30 a0) fun _ =>
        (ob2 (p_X3_passSemicolon Z a0 M30) fun v32 M33 =>
        (if v32 = 0 then
         some M33
        else
         (Option.bind (gR 3 4 M33 a0) fun v35 =>
         (Option.bind (gR 2 18 M33 v35) fun v36 =>
         (Option.bind (gR 3 4 M33 a0) fun v37 =>
         (Option.bind (gR 2 0 M33 v37) fun v38 =>
         (Option.bind (gI 4 0 M33 v38) fun v39 =>
         (Option.bind (aIs M33 v36 v39 v19) fun M40 =>
         (Option.bind (gR 3 4 M40 a0) fun v41 =>
         (Option.bind (gR 2 0 M40 v41) fun v42 =>
         (Option.bind (isC 4 M40 v42) fun _ =>
         (Option.bind (p_X4_tellSchool v42 v8 s21 s24 v29 M40) fun M44 =>
         some M44
         )
         )
         )
         )
         )
         )
         )
         )
         )
         )
        )
        )
        )
        )
        )
       )
      ) fun k26 =>
      (if s21 = (-1 : Int32) then
       (k26 (-1 : Int32) M22)
      else
       (Option.bind (isC 3 M22 a0) fun _ =>
       (ob2 (p_X3_readNumber Z a0 (0 : Int32) (99 : Int32) M22) fun v47 M48 =>
       (k26 v47 M48)
       )
       )
      )
      )
     ) fun k23 =>
     (if v19 = (-1 : Int32) then
      (k23 (-1 : Int32) M20)
     else
      (Option.bind (isC 3 M20 a0) fun _ =>
      (ob2 (p_X3_readNumber Z a0 (0 : Int32) (99 : Int32) M20) fun v51 M52 =>
      (k23 v51 M52)
      )
      )
     )
     )
     )
     )
     )
     )
    else
     (Option.bind (isC 3 M9 a0) fun _ =>
     (Option.bind (p_X3_fail a0 (3 : Int32) M9) fun M54 =>
     some M54
     )
     )
    )
    )
    )
    )
    )
   )
   )
   )
   )
   )
  else
   (Option.bind (isC 3 M a0) fun _ =>
   (Option.bind (p_X3_fail a0 (4 : Int32) M) fun M56 =>
   some M56
   )
   )
  )
  )
  )
  )
theorem yk_X3_readSchool : yok yX3_readSchool 0 := by decide +kernel
set_option maxHeartbeats 4000000 in
set_option maxRecDepth 100000 in
theorem w_X3_readSchool {G : gG} (hG : GOK G) {Z : gZ} (hZ : GS G Z) {l : Launch} {a0 : Nat} {M : Mem} {M' : Mem} (hp : p_X3_readSchool Z a0 M = some M') : CT G l yX3_readSchool (wT yX3_readSchool cX3_readSchool 6 (none)) rm_X3_readSchool [.ref a0] M none M' 0 0 := by
  refine CT_of (own := RX3) (maxL := 6) (ret := (none)) hG (by decide) rfl (Nat.le_of_ble_eq_true rfl) (fun p e s m below meth c A C0 hr hlk hM ls hl => ?_)
  have hl : lv_has ls 6 [(0, .ref a0)] := hl
  generalize ([.ref a0] : List Value).toArray = args at C0 ⊢
  skip
  have hx := C0.1
  have hb := C0.2.1
  have hown := C0.2.2.2.1
  have hts := C0.2.2.2.2.1
  unfold p_X3_readSchool at hp
  refine lv_aload_n hx hb dX3_readSchool_0 rfl (lv_at hl 0 rfl) ?_
  obtain ⟨v1, hv1, hp⟩ := ob hp
  refine mr_getR C0 cbX3 hM 4 (by decide) tw_229 hv1 dX3_readSchool_1 ?_
  obtain ⟨v2, hv2, hp⟩ := ob hp
  refine mr_getR C0 cbX2 hM 0 (by decide) tw_134 hv2 dX3_readSchool_4 ?_
  obtain ⟨v3, hv3, hp⟩ := ob hp
  refine mr_getI C0 cbX4 hM 0 (by decide) tw_66 hv3 dX3_readSchool_7 ?_
  refine lv_bipush (v := 8) hx hb dX3_readSchool_10 (by decide) ?_
  refine lv_icmp_lt (tgt := 21) hx hb dX3_readSchool_12 (by decide) (fun c4 => ?_) (fun c4 => ?_)
  · replace hp := oT c4 hp
    refine lv_aload_n hx hb dX3_readSchool_21 rfl (lv_at hl 0 rfl) ?_
    obtain ⟨_, h5, hp⟩ := ob hp
    obtain ⟨M6, hM6, hp⟩ := ob hp
    refine mr_V0 (As := []) (rest := []) C0 cbX3 hM h5 rfl (w_X3_advance hG hZ hM6) tw_345 tw_346 tw_347 tw_16 tw_348 yk_X3_advance (by decide) rfl hl.1 (Nat.le_of_ble_eq_true rfl) dX3_readSchool_22 rfl (fun H locs hM => ?_)
    refine lv_aload_n hx hb dX3_readSchool_25 rfl (lv_at hl 0 rfl) ?_
    obtain ⟨_, h7, hp⟩ := ob hp
    obtain ⟨v8, M9, hv8, hp⟩ := ob3 hp
    refine mr_V1 (As := []) (rest := []) C0 cbX3 hM h7 rfl (w_X3_nameHere hG hv8) tw_416 tw_417 tw_418 tw_16 tw_419 yk_X3_nameHere (by decide) rfl hl.1 (Nat.le_of_ble_eq_true rfl) dX3_readSchool_26 rfl (fun H locs hM => ?_)
    refine lv_istore_n (lv' := [(1, .int v8), (0, .ref a0)]) hx hb dX3_readSchool_29 rfl hl (by decide) rfl (fun ls hl => ?_)
    refine lv_iload_n hx hb dX3_readSchool_30 rfl (lv_at hl 0 rfl) ?_
    refine lv_iconst (v := -1) hx hb dX3_readSchool_31 (by decide) ?_
    refine lv_icmp_ne (tgt := 36) hx hb dX3_readSchool_32 (by decide) (fun c10 => ?_) (fun c10 => ?_)
    · replace hp := oF c10 hp
      refine lv_aload_n hx hb dX3_readSchool_36 rfl (lv_at hl 1 rfl) ?_
      obtain ⟨v11, hv11, hp⟩ := ob hp
      refine mr_getR C0 cbX3 hM 4 (by decide) tw_229 hv11 dX3_readSchool_37 ?_
      obtain ⟨v12, hv12, hp⟩ := ob hp
      refine mr_getR C0 cbX2 hM 0 (by decide) tw_134 hv12 dX3_readSchool_40 ?_
      refine lv_iload_n hx hb dX3_readSchool_43 rfl (lv_at hl 0 rfl) ?_
      obtain ⟨_, h13, hp⟩ := ob hp
      obtain ⟨v14, hv14, hp⟩ := ob hp
      refine mr_V1 (As := [.int v8]) (rest := []) C0 cbX4 hM h13 rfl (w_X4_find hG hv14) tw_420 tw_421 tw_422 tw_18 tw_423 yk_X4_find (by decide) rfl hl.1 (Nat.le_of_ble_eq_true rfl) dX3_readSchool_44 rfl (fun H locs hM => ?_)
      refine lv_iconst (v := -1) hx hb dX3_readSchool_47 (by decide) ?_
      refine lv_icmp_eq (tgt := 57) hx hb dX3_readSchool_48 (by decide) (fun c15 => ?_) (fun c15 => ?_)
      · replace hp := oT c15 hp
        refine lv_aload_n hx hb dX3_readSchool_57 rfl (lv_at hl 1 rfl) ?_
        obtain ⟨_, h16, hp⟩ := ob hp
        obtain ⟨M17, hM17, hp⟩ := ob hp
        refine mr_V0 (As := []) (rest := []) C0 cbX3 hM h16 rfl (w_X3_advance hG hZ hM17) tw_345 tw_346 tw_347 tw_16 tw_348 yk_X3_advance (by decide) rfl hl.1 (Nat.le_of_ble_eq_true rfl) dX3_readSchool_58 rfl (fun H locs hM => ?_)
        refine lv_aload_n hx hb dX3_readSchool_61 rfl (lv_at hl 1 rfl) ?_
        refine lv_iconst (v := 0) hx hb dX3_readSchool_62 (by decide) ?_
        refine lv_bipush (v := 40) hx hb dX3_readSchool_63 (by decide) ?_
        obtain ⟨_, h18, hp⟩ := ob hp
        obtain ⟨v19, M20, hv19, hp⟩ := ob3 hp
        refine mr_V1 (As := [.int (0 : Int32), .int (40 : Int32)]) (rest := []) C0 cbX3 hM h18 rfl (w_X3_readNumber hG hZ hv19) tw_424 tw_425 tw_426 tw_16 tw_427 yk_X3_readNumber (by decide) rfl hl.1 (Nat.le_of_ble_eq_true rfl) dX3_readSchool_65 rfl (fun H locs hM => ?_)
        refine lv_istore_n (lv' := [(2, .int v19), (1, .int v8), (0, .ref a0)]) hx hb dX3_readSchool_68 rfl hl (by decide) rfl (fun ls hl => ?_)
        refine lv_iload_n hx hb dX3_readSchool_69 rfl (lv_at hl 0 rfl) ?_
        refine lv_iconst (v := -1) hx hb dX3_readSchool_70 (by decide) ?_
        obtain ⟨k23, ek23, hp⟩ := ojn hp
        have hk23 : ∀ (s21 : Int32) (M22 : Mem) (H : Heap) (locs : List Loc) (ls : Array Slot), mm G A s M22 H locs → lv_has ls 6 [(0, .ref a0), (1, .int v8), (2, .int v19)] → k23 s21 M22 = some M' → W p l e rm_X3_readSchool s m args below meth c H locs 0 0 (MQ below (CQ G M' none A) args s 0 0 A) (F0 m 85 ls [.int s21]) := by
          intro s21 M22 H locs ls hM hl hp
          rw [ek23] at hp
          refine lv_istore_n (lv' := [(3, .int s21), (0, .ref a0), (1, .int v8), (2, .int v19)]) hx hb dX3_readSchool_85 rfl hl (by decide) rfl (fun ls hl => ?_)
          refine lv_iload_n hx hb dX3_readSchool_86 rfl (lv_at hl 0 rfl) ?_
          refine lv_iconst (v := -1) hx hb dX3_readSchool_87 (by decide) ?_
          obtain ⟨k26, ek26, hp⟩ := ojn hp
          have hk26 : ∀ (s24 : Int32) (M25 : Mem) (H : Heap) (locs : List Loc) (ls : Array Slot), mm G A s M25 H locs → lv_has ls 6 [(0, .ref a0), (1, .int v8), (2, .int v19), (3, .int s21)] → k26 s24 M25 = some M' → W p l e rm_X3_readSchool s m args below meth c H locs 0 0 (MQ below (CQ G M' none A) args s 0 0 A) (F0 m 102 ls [.int s24]) := by
            intro s24 M25 H locs ls hM hl hp
            rw [ek26] at hp
            refine lv_istore (lv' := [(4, .int s24), (0, .ref a0), (1, .int v8), (2, .int v19), (3, .int s21)]) hx hb dX3_readSchool_102 hl (by decide) rfl (fun ls hl => ?_)
            refine lv_iload hx hb dX3_readSchool_104 (lv_at hl 0 rfl) ?_
            refine lv_iconst (v := -1) hx hb dX3_readSchool_106 (by decide) ?_
            refine lv_icmp_ne (tgt := 111) hx hb dX3_readSchool_107 (by decide) (fun c27 => ?_) (fun c27 => ?_)
            · replace hp := oF c27 hp
              refine lv_aload_n hx hb dX3_readSchool_111 rfl (lv_at hl 1 rfl) ?_
              obtain ⟨_, h28, hp⟩ := ob hp
              obtain ⟨v29, M30, hv29, hp⟩ := ob3 hp
              refine mr_V1 (As := []) (rest := []) C0 cbX3 hM h28 rfl (w_X3_readRules hG hZ hv29) tw_428 tw_429 tw_430 tw_16 tw_431 yk_X3_readRules (by decide) rfl hl.1 (Nat.le_of_ble_eq_true rfl) dX3_readSchool_112 rfl (fun H locs hM => ?_)
              refine lv_istore (lv' := [(5, .int v29), (4, .int s24), (0, .ref a0), (1, .int v8), (2, .int v19), (3, .int s21)]) hx hb dX3_readSchool_115 hl (by decide) rfl (fun ls hl => ?_)
              refine lv_aload_n hx hb dX3_readSchool_117 rfl (lv_at hl 2 rfl) ?_
              obtain ⟨_, h31, hp⟩ := ob hp
              obtain ⟨v32, M33, hv32, hp⟩ := ob3 hp
              refine mr_V1 (As := []) (rest := []) C0 cbX3 hM h31 rfl (w_X3_passSemicolon hG hZ hv32) tw_445 tw_446 tw_447 tw_16 tw_448 yk_X3_passSemicolon (by decide) rfl hl.1 (Nat.le_of_ble_eq_true rfl) dX3_readSchool_118 rfl (fun H locs hM => ?_)
              refine lv_if_eq (tgt := 159) hx hb dX3_readSchool_121 (by decide) (fun c34 => ?_) (fun c34 => ?_)
              · replace hp := oT c34 hp
                exact mr_vret C0 hr hlk hM (Option.some.inj hp) (Nat.le_refl _) (Nat.le_refl _) dX3_readSchool_159
              · replace hp := oF c34 hp
                refine lv_aload_n hx hb dX3_readSchool_124 rfl (lv_at hl 2 rfl) ?_
                obtain ⟨v35, hv35, hp⟩ := ob hp
                refine mr_getR C0 cbX3 hM 4 (by decide) tw_229 hv35 dX3_readSchool_125 ?_
                obtain ⟨v36, hv36, hp⟩ := ob hp
                refine mr_getR C0 cbX2 hM 18 (by decide) tw_178 hv36 dX3_readSchool_128 ?_
                refine lv_aload_n hx hb dX3_readSchool_131 rfl (lv_at hl 2 rfl) ?_
                obtain ⟨v37, hv37, hp⟩ := ob hp
                refine mr_getR C0 cbX3 hM 4 (by decide) tw_229 hv37 dX3_readSchool_132 ?_
                obtain ⟨v38, hv38, hp⟩ := ob hp
                refine mr_getR C0 cbX2 hM 0 (by decide) tw_134 hv38 dX3_readSchool_135 ?_
                obtain ⟨v39, hv39, hp⟩ := ob hp
                refine mr_getI C0 cbX4 hM 0 (by decide) tw_66 hv39 dX3_readSchool_138 ?_
                refine lv_iload_n hx hb dX3_readSchool_141 rfl (lv_at hl 4 rfl) ?_
                obtain ⟨M40, hM40, hp⟩ := ob hp
                refine mr_iast C0 hM hM40 dX3_readSchool_142 (fun H locs hM => ?_)
                refine lv_aload_n hx hb dX3_readSchool_143 rfl (lv_at hl 2 rfl) ?_
                obtain ⟨v41, hv41, hp⟩ := ob hp
                refine mr_getR C0 cbX3 hM 4 (by decide) tw_229 hv41 dX3_readSchool_144 ?_
                obtain ⟨v42, hv42, hp⟩ := ob hp
                refine mr_getR C0 cbX2 hM 0 (by decide) tw_134 hv42 dX3_readSchool_147 ?_
                refine lv_iload_n hx hb dX3_readSchool_150 rfl (lv_at hl 3 rfl) ?_
                refine lv_iload_n hx hb dX3_readSchool_151 rfl (lv_at hl 5 rfl) ?_
                refine lv_iload hx hb dX3_readSchool_152 (lv_at hl 1 rfl) ?_
                refine lv_iload hx hb dX3_readSchool_154 (lv_at hl 0 rfl) ?_
                obtain ⟨_, h43, hp⟩ := ob hp
                obtain ⟨M44, hM44, hp⟩ := ob hp
                refine mr_V0 (As := [.int v8, .int s21, .int s24, .int v29]) (rest := []) C0 cbX4 hM h43 rfl (w_X4_tellSchool hG hM44) tw_449 tw_450 tw_451 tw_18 tw_452 yk_X4_tellSchool (by decide) rfl hl.1 (Nat.le_of_ble_eq_true rfl) dX3_readSchool_156 rfl (fun H locs hM => ?_)
                exact mr_vret C0 hr hlk hM (Option.some.inj hp) (Nat.le_refl _) (Nat.le_refl _) dX3_readSchool_159
            · replace hp := oT c27 hp
              exact mr_vret C0 hr hlk hM (Option.some.inj hp) (Nat.le_refl _) (Nat.le_refl _) dX3_readSchool_110
          refine lv_icmp_ne (tgt := 95) hx hb dX3_readSchool_88 (by decide) (fun c45 => ?_) (fun c45 => ?_)
          · replace hp := oF c45 hp
            refine lv_aload_n hx hb dX3_readSchool_95 rfl (lv_at hl 1 rfl) ?_
            refine lv_iconst (v := 0) hx hb dX3_readSchool_96 (by decide) ?_
            refine lv_bipush (v := 99) hx hb dX3_readSchool_97 (by decide) ?_
            obtain ⟨_, h46, hp⟩ := ob hp
            obtain ⟨v47, M48, hv47, hp⟩ := ob3 hp
            refine mr_V1 (As := [.int (0 : Int32), .int (99 : Int32)]) (rest := []) C0 cbX3 hM h46 rfl (w_X3_readNumber hG hZ hv47) tw_424 tw_425 tw_426 tw_16 tw_427 yk_X3_readNumber (by decide) rfl hl.1 (Nat.le_of_ble_eq_true rfl) dX3_readSchool_99 rfl (fun H locs hM => ?_)
            exact hk26 _ _ _ _ _ hM (lv_sub hl [1, 2, 3, 0] rfl) hp
          · replace hp := oT c45 hp
            refine lv_iconst (v := -1) hx hb dX3_readSchool_91 (by decide) ?_
            refine lv_goto (tgt := 102) hx hb dX3_readSchool_92 (by decide) ?_
            exact hk26 _ _ _ _ _ hM (lv_sub hl [1, 2, 3, 0] rfl) hp
        refine lv_icmp_ne (tgt := 78) hx hb dX3_readSchool_71 (by decide) (fun c49 => ?_) (fun c49 => ?_)
        · replace hp := oF c49 hp
          refine lv_aload_n hx hb dX3_readSchool_78 rfl (lv_at hl 2 rfl) ?_
          refine lv_iconst (v := 0) hx hb dX3_readSchool_79 (by decide) ?_
          refine lv_bipush (v := 99) hx hb dX3_readSchool_80 (by decide) ?_
          obtain ⟨_, h50, hp⟩ := ob hp
          obtain ⟨v51, M52, hv51, hp⟩ := ob3 hp
          refine mr_V1 (As := [.int (0 : Int32), .int (99 : Int32)]) (rest := []) C0 cbX3 hM h50 rfl (w_X3_readNumber hG hZ hv51) tw_424 tw_425 tw_426 tw_16 tw_427 yk_X3_readNumber (by decide) rfl hl.1 (Nat.le_of_ble_eq_true rfl) dX3_readSchool_82 rfl (fun H locs hM => ?_)
          exact hk23 _ _ _ _ _ hM (lv_sub hl [2, 1, 0] rfl) hp
        · replace hp := oT c49 hp
          refine lv_iconst (v := -1) hx hb dX3_readSchool_74 (by decide) ?_
          refine lv_goto (tgt := 85) hx hb dX3_readSchool_75 (by decide) ?_
          exact hk23 _ _ _ _ _ hM (lv_sub hl [2, 1, 0] rfl) hp
      · replace hp := oF c15 hp
        refine lv_aload_n hx hb dX3_readSchool_51 rfl (lv_at hl 1 rfl) ?_
        refine lv_iconst (v := 3) hx hb dX3_readSchool_52 (by decide) ?_
        obtain ⟨_, h53, hp⟩ := ob hp
        obtain ⟨M54, hM54, hp⟩ := ob hp
        refine mr_V0 (As := [.int (3 : Int32)]) (rest := []) C0 cbX3 hM h53 rfl (w_X3_fail hG hM54) tw_412 tw_413 tw_414 tw_16 tw_415 yk_X3_fail (by decide) rfl hl.1 (Nat.le_of_ble_eq_true rfl) dX3_readSchool_53 rfl (fun H locs hM => ?_)
        exact mr_vret C0 hr hlk hM (Option.some.inj hp) (Nat.le_refl _) (Nat.le_refl _) dX3_readSchool_56
    · replace hp := oT c10 hp
      exact mr_vret C0 hr hlk hM (Option.some.inj hp) (Nat.le_refl _) (Nat.le_refl _) dX3_readSchool_35
  · replace hp := oF c4 hp
    refine lv_aload_n hx hb dX3_readSchool_15 rfl (lv_at hl 0 rfl) ?_
    refine lv_iconst (v := 4) hx hb dX3_readSchool_16 (by decide) ?_
    obtain ⟨_, h55, hp⟩ := ob hp
    obtain ⟨M56, hM56, hp⟩ := ob hp
    refine mr_V0 (As := [.int (4 : Int32)]) (rest := []) C0 cbX3 hM h55 rfl (w_X3_fail hG hM56) tw_412 tw_413 tw_414 tw_16 tw_415 yk_X3_fail (by decide) rfl hl.1 (Nat.le_of_ble_eq_true rfl) dX3_readSchool_17 rfl (fun H locs hM => ?_)
    exact mr_vret C0 hr hlk hM (Option.some.inj hp) (Nat.le_refl _) (Nat.le_refl _) dX3_readSchool_20
abbrev rm_X3_readSeed : Room := { frames := 8, cells := 0, slots := 0, locals := 177 }
def p_X3_readSeed (Z : gZ) (a0 : Nat) (M : Mem) : Option (Mem) :=
  (Option.bind (gI 3 5 M a0) fun v1 =>
  (jn (fun (_ : Unit) =>
   (Option.bind (isC 3 M a0) fun _ =>
   (Option.bind (p_X3_fail a0 (4 : Int32) M) fun M4 =>
   some M4
   )
   )
  ) fun k2 =>
  (if v1 = 0 then
   (Option.bind (gR 3 4 M a0) fun v6 =>
   (Option.bind (gI 2 1 M v6) fun v7 =>
   (if v7 ≤ 0 then
    (Option.bind (sZ 3 5 M a0 (1 : Int32)) fun M9 =>
    (Option.bind (gR 3 4 M9 a0) fun v10 =>
    (Option.bind (isC 3 M9 a0) fun _ =>
    (ob2 (p_X3_readSetting Z a0 (999 : Int32) M9) fun v12 M13 =>
    (Option.bind (sV 2 2 M13 v10 (.int v12)) fun M14 =>
    some M14
    )
    )
    )
    )
    )
   else
    (k2 ())
   )
   )
   )
  else
   (k2 ())
  )
  )
  )
theorem yk_X3_readSeed : yok yX3_readSeed 0 := by decide +kernel
set_option maxHeartbeats 4000000 in
set_option maxRecDepth 100000 in
theorem w_X3_readSeed {G : gG} (hG : GOK G) {Z : gZ} (hZ : GS G Z) {l : Launch} {a0 : Nat} {M : Mem} {M' : Mem} (hp : p_X3_readSeed Z a0 M = some M') : CT G l yX3_readSeed (wT yX3_readSeed cX3_readSeed 1 (none)) rm_X3_readSeed [.ref a0] M none M' 0 0 := by
  refine CT_of (own := RX3) (maxL := 1) (ret := (none)) hG (by decide) rfl (Nat.le_of_ble_eq_true rfl) (fun p e s m below meth c A C0 hr hlk hM ls hl => ?_)
  have hl : lv_has ls 1 [(0, .ref a0)] := hl
  generalize ([.ref a0] : List Value).toArray = args at C0 ⊢
  skip
  have hx := C0.1
  have hb := C0.2.1
  have hown := C0.2.2.2.1
  have hts := C0.2.2.2.2.1
  unfold p_X3_readSeed at hp
  refine lv_aload_n hx hb dX3_readSeed_0 rfl (lv_at hl 0 rfl) ?_
  obtain ⟨v1, hv1, hp⟩ := ob hp
  refine mr_getI C0 cbX3 hM 5 (by decide) tw_231 hv1 dX3_readSeed_1 ?_
  obtain ⟨k2, ek2, hp⟩ := ojn hp
  have hk2 : ∀ (H : Heap) (locs : List Loc) (ls : Array Slot), mm G A s M H locs → lv_has ls 1 [(0, .ref a0)] → k2 () = some M' → W p l e rm_X3_readSeed s m args below meth c H locs 0 0 (MQ below (CQ G M' none A) args s 0 0 A) (F0 m 17 ls []) := by
    intro  H locs ls hM hl hp
    rw [ek2] at hp
    refine lv_aload_n hx hb dX3_readSeed_17 rfl (lv_at hl 0 rfl) ?_
    refine lv_iconst (v := 4) hx hb dX3_readSeed_18 (by decide) ?_
    obtain ⟨_, h3, hp⟩ := ob hp
    obtain ⟨M4, hM4, hp⟩ := ob hp
    refine mr_V0 (As := [.int (4 : Int32)]) (rest := []) C0 cbX3 hM h3 rfl (w_X3_fail hG hM4) tw_412 tw_413 tw_414 tw_16 tw_415 yk_X3_fail (by decide) rfl hl.1 (Nat.le_of_ble_eq_true rfl) dX3_readSeed_19 rfl (fun H locs hM => ?_)
    refine lv_goto (tgt := 44) hx hb dX3_readSeed_22 (by decide) ?_
    exact mr_vret C0 hr hlk hM (Option.some.inj hp) (Nat.le_refl _) (Nat.le_refl _) dX3_readSeed_44
  refine lv_if_ne (tgt := 17) hx hb dX3_readSeed_4 (by decide) (fun c5 => ?_) (fun c5 => ?_)
  · replace hp := oF c5 hp
    exact hk2  _ _ _ hM (lv_sub hl [0] rfl) hp
  · replace hp := oT c5 hp
    refine lv_aload_n hx hb dX3_readSeed_7 rfl (lv_at hl 0 rfl) ?_
    obtain ⟨v6, hv6, hp⟩ := ob hp
    refine mr_getR C0 cbX3 hM 4 (by decide) tw_229 hv6 dX3_readSeed_8 ?_
    obtain ⟨v7, hv7, hp⟩ := ob hp
    refine mr_getI C0 cbX2 hM 1 (by decide) tw_138 hv7 dX3_readSeed_11 ?_
    refine lv_if_le (tgt := 25) hx hb dX3_readSeed_14 (by decide) (fun c8 => ?_) (fun c8 => ?_)
    · replace hp := oT c8 hp
      refine lv_aload_n hx hb dX3_readSeed_25 rfl (lv_at hl 0 rfl) ?_
      refine lv_iconst (v := 1) hx hb dX3_readSeed_26 (by decide) ?_
      obtain ⟨M9, hM9, hp⟩ := ob hp
      refine mr_putZ C0 cbX3 hM 5 (by decide) rfl rfl tw_231 hM9 dX3_readSeed_27 (fun H locs hM => ?_)
      refine lv_aload_n hx hb dX3_readSeed_30 rfl (lv_at hl 0 rfl) ?_
      obtain ⟨v10, hv10, hp⟩ := ob hp
      refine mr_getR C0 cbX3 hM 4 (by decide) tw_229 hv10 dX3_readSeed_31 ?_
      refine lv_aload_n hx hb dX3_readSeed_34 rfl (lv_at hl 0 rfl) ?_
      refine lv_sipush (v := 999) hx hb dX3_readSeed_35 (by decide) ?_
      obtain ⟨_, h11, hp⟩ := ob hp
      obtain ⟨v12, M13, hv12, hp⟩ := ob3 hp
      refine mr_V1 (As := [.int (999 : Int32)]) (rest := [.ref v10]) C0 cbX3 hM h11 rfl (w_X3_readSetting hG hZ hv12) tw_510 tw_511 tw_512 tw_16 tw_513 yk_X3_readSetting (by decide) rfl hl.1 (Nat.le_of_ble_eq_true rfl) dX3_readSeed_38 rfl (fun H locs hM => ?_)
      obtain ⟨M14, hM14, hp⟩ := ob hp
      refine mr_putI C0 cbX2 hM 2 (by decide) rfl rfl tw_140 hM14 dX3_readSeed_41 (fun H locs hM => ?_)
      exact mr_vret C0 hr hlk hM (Option.some.inj hp) (Nat.le_refl _) (Nat.le_refl _) dX3_readSeed_44
    · replace hp := oF c8 hp
      exact hk2  _ _ _ hM (lv_sub hl [0] rfl) hp
abbrev rm_X3_readZone : Room := { frames := 7, cells := 0, slots := 0, locals := 155 }
def p_X3_readZone (Z : gZ) (a0 : Nat) (M : Mem) : Option (Mem) :=
  (Option.bind (isC 3 M a0) fun _ =>
  (Option.bind (p_X3_advance Z a0 M) fun M2 =>
  (Option.bind (isC 3 M2 a0) fun _ =>
  (ob2 (p_X3_toldSchoolHere a0 M2) fun v4 M5 =>
  (if v4 = (-1 : Int32) then
   some M5
  else
   (Option.bind (gR 3 4 M5 a0) fun v7 =>
   (Option.bind (gR 2 0 M5 v7) fun v8 =>
   (Option.bind (isC 4 M5 v8) fun _ =>
   (Option.bind (p_X4_isZoned v8 v4 M5) fun v10 =>
   (if v10 = 0 then
    (Option.bind (isC 3 M5 a0) fun _ =>
    (Option.bind (p_X3_advance Z a0 M5) fun M13 =>
    (Option.bind (isC 3 M13 a0) fun _ =>
    (ob2 (p_X3_readNumber Z a0 (0 : Int32) (99 : Int32) M13) fun v15 M16 =>
    (jn (fun (s17 : Int32) (M18 : Mem) =>
     (jn (fun (s20 : Int32) (M21 : Mem) =>
      (jn (fun (s23 : Int32) (M24 : Mem) =>
       (if s23 = (-1 : Int32) then
        some M24
       else
        (Option.bind (isC 3 M24 a0) fun _ =>
        (ob2 (p_X3_passSemicolon Z a0 M24) fun v28 M29 =>
        (if v28 = 0 then
         some M29
        else
         (Option.bind (gR 3 4 M29 a0) fun v31 =>
         (Option.bind (gR 2 0 M29 v31) fun v32 =>
         (Option.bind (isC 4 M29 v32) fun _ =>
         (Option.bind (p_X4_tellZone v32 v4 v15 s17 s20 s23 M29) fun M34 =>
         some M34
         )
         )
         )
         )
        )
        )
        )
       )
      ) fun k25 =>
      (if s20 = (-1 : Int32) then
       (k25 (-1 : Int32) M21)
      else
       (Option.bind (isC 3 M21 a0) fun _ =>
       (ob2 (p_X3_readNumber Z a0 s17 (99 : Int32) M21) fun v37 M38 =>
       (k25 v37 M38)
       )
       )
      )
      )
     ) fun k22 =>
     (if s17 = (-1 : Int32) then
      (k22 (-1 : Int32) M18)
     else
      (Option.bind (isC 3 M18 a0) fun _ =>
      (ob2 (p_X3_readNumber Z a0 v15 (99 : Int32) M18) fun v41 M42 =>
      (k22 v41 M42)
      )
      )
     )
     )
    ) fun k19 =>
    (if v15 = (-1 : Int32) then
     (k19 (-1 : Int32) M16)
    else
     (Option.bind (isC 3 M16 a0) fun _ =>
     (ob2 (p_X3_readNumber Z a0 (0 : Int32) (99 : Int32) M16) fun v45 M46 =>
     (k19 v45 M46)
     )
     )
    )
    )
    )
    )
    )
    )
   else
    (Option.bind (isC 3 M5 a0) fun _ =>
    (Option.bind (p_X3_fail a0 (3 : Int32) M5) fun M48 =>
    some M48
    )
    )
   )
   )
   )
   )
   )
  )
  )
  )
  )
  )
theorem yk_X3_readZone : yok yX3_readZone 0 := by decide +kernel
set_option maxHeartbeats 4000000 in
set_option maxRecDepth 100000 in
theorem w_X3_readZone {G : gG} (hG : GOK G) {Z : gZ} (hZ : GS G Z) {l : Launch} {a0 : Nat} {M : Mem} {M' : Mem} (hp : p_X3_readZone Z a0 M = some M') : CT G l yX3_readZone (wT yX3_readZone cX3_readZone 6 (none)) rm_X3_readZone [.ref a0] M none M' 0 0 := by
  refine CT_of (own := RX3) (maxL := 6) (ret := (none)) hG (by decide) rfl (Nat.le_of_ble_eq_true rfl) (fun p e s m below meth c A C0 hr hlk hM ls hl => ?_)
  have hl : lv_has ls 6 [(0, .ref a0)] := hl
  generalize ([.ref a0] : List Value).toArray = args at C0 ⊢
  skip
  have hx := C0.1
  have hb := C0.2.1
  have hown := C0.2.2.2.1
  have hts := C0.2.2.2.2.1
  unfold p_X3_readZone at hp
  refine lv_aload_n hx hb dX3_readZone_0 rfl (lv_at hl 0 rfl) ?_
  obtain ⟨_, h1, hp⟩ := ob hp
  obtain ⟨M2, hM2, hp⟩ := ob hp
  refine mr_V0 (As := []) (rest := []) C0 cbX3 hM h1 rfl (w_X3_advance hG hZ hM2) tw_345 tw_346 tw_347 tw_16 tw_348 yk_X3_advance (by decide) rfl hl.1 (Nat.le_of_ble_eq_true rfl) dX3_readZone_1 rfl (fun H locs hM => ?_)
  refine lv_aload_n hx hb dX3_readZone_4 rfl (lv_at hl 0 rfl) ?_
  obtain ⟨_, h3, hp⟩ := ob hp
  obtain ⟨v4, M5, hv4, hp⟩ := ob3 hp
  refine mr_V1 (As := []) (rest := []) C0 cbX3 hM h3 rfl (w_X3_toldSchoolHere hG hv4) tw_457 tw_458 tw_459 tw_16 tw_460 yk_X3_toldSchoolHere (by decide) rfl hl.1 (Nat.le_of_ble_eq_true rfl) dX3_readZone_5 rfl (fun H locs hM => ?_)
  refine lv_istore_n (lv' := [(1, .int v4), (0, .ref a0)]) hx hb dX3_readZone_8 rfl hl (by decide) rfl (fun ls hl => ?_)
  refine lv_iload_n hx hb dX3_readZone_9 rfl (lv_at hl 0 rfl) ?_
  refine lv_iconst (v := -1) hx hb dX3_readZone_10 (by decide) ?_
  refine lv_icmp_ne (tgt := 15) hx hb dX3_readZone_11 (by decide) (fun c6 => ?_) (fun c6 => ?_)
  · replace hp := oF c6 hp
    refine lv_aload_n hx hb dX3_readZone_15 rfl (lv_at hl 1 rfl) ?_
    obtain ⟨v7, hv7, hp⟩ := ob hp
    refine mr_getR C0 cbX3 hM 4 (by decide) tw_229 hv7 dX3_readZone_16 ?_
    obtain ⟨v8, hv8, hp⟩ := ob hp
    refine mr_getR C0 cbX2 hM 0 (by decide) tw_134 hv8 dX3_readZone_19 ?_
    refine lv_iload_n hx hb dX3_readZone_22 rfl (lv_at hl 0 rfl) ?_
    obtain ⟨_, h9, hp⟩ := ob hp
    obtain ⟨v10, hv10, hp⟩ := ob hp
    refine mr_V1 (As := [.int v4]) (rest := []) C0 cbX4 hM h9 rfl (w_X4_isZoned hG hv10) tw_461 tw_462 tw_463 tw_18 tw_464 yk_X4_isZoned (by decide) rfl hl.1 (Nat.le_of_ble_eq_true rfl) dX3_readZone_23 rfl (fun H locs hM => ?_)
    refine lv_if_eq (tgt := 35) hx hb dX3_readZone_26 (by decide) (fun c11 => ?_) (fun c11 => ?_)
    · replace hp := oT c11 hp
      refine lv_aload_n hx hb dX3_readZone_35 rfl (lv_at hl 1 rfl) ?_
      obtain ⟨_, h12, hp⟩ := ob hp
      obtain ⟨M13, hM13, hp⟩ := ob hp
      refine mr_V0 (As := []) (rest := []) C0 cbX3 hM h12 rfl (w_X3_advance hG hZ hM13) tw_345 tw_346 tw_347 tw_16 tw_348 yk_X3_advance (by decide) rfl hl.1 (Nat.le_of_ble_eq_true rfl) dX3_readZone_36 rfl (fun H locs hM => ?_)
      refine lv_aload_n hx hb dX3_readZone_39 rfl (lv_at hl 1 rfl) ?_
      refine lv_iconst (v := 0) hx hb dX3_readZone_40 (by decide) ?_
      refine lv_bipush (v := 99) hx hb dX3_readZone_41 (by decide) ?_
      obtain ⟨_, h14, hp⟩ := ob hp
      obtain ⟨v15, M16, hv15, hp⟩ := ob3 hp
      refine mr_V1 (As := [.int (0 : Int32), .int (99 : Int32)]) (rest := []) C0 cbX3 hM h14 rfl (w_X3_readNumber hG hZ hv15) tw_424 tw_425 tw_426 tw_16 tw_427 yk_X3_readNumber (by decide) rfl hl.1 (Nat.le_of_ble_eq_true rfl) dX3_readZone_43 rfl (fun H locs hM => ?_)
      refine lv_istore_n (lv' := [(2, .int v15), (1, .int v4), (0, .ref a0)]) hx hb dX3_readZone_46 rfl hl (by decide) rfl (fun ls hl => ?_)
      refine lv_iload_n hx hb dX3_readZone_47 rfl (lv_at hl 0 rfl) ?_
      refine lv_iconst (v := -1) hx hb dX3_readZone_48 (by decide) ?_
      obtain ⟨k19, ek19, hp⟩ := ojn hp
      have hk19 : ∀ (s17 : Int32) (M18 : Mem) (H : Heap) (locs : List Loc) (ls : Array Slot), mm G A s M18 H locs → lv_has ls 6 [(0, .ref a0), (1, .int v4), (2, .int v15)] → k19 s17 M18 = some M' → W p l e rm_X3_readZone s m args below meth c H locs 0 0 (MQ below (CQ G M' none A) args s 0 0 A) (F0 m 63 ls [.int s17]) := by
        intro s17 M18 H locs ls hM hl hp
        rw [ek19] at hp
        refine lv_istore_n (lv' := [(3, .int s17), (0, .ref a0), (1, .int v4), (2, .int v15)]) hx hb dX3_readZone_63 rfl hl (by decide) rfl (fun ls hl => ?_)
        refine lv_iload_n hx hb dX3_readZone_64 rfl (lv_at hl 0 rfl) ?_
        refine lv_iconst (v := -1) hx hb dX3_readZone_65 (by decide) ?_
        obtain ⟨k22, ek22, hp⟩ := ojn hp
        have hk22 : ∀ (s20 : Int32) (M21 : Mem) (H : Heap) (locs : List Loc) (ls : Array Slot), mm G A s M21 H locs → lv_has ls 6 [(0, .ref a0), (1, .int v4), (2, .int v15), (3, .int s17)] → k22 s20 M21 = some M' → W p l e rm_X3_readZone s m args below meth c H locs 0 0 (MQ below (CQ G M' none A) args s 0 0 A) (F0 m 80 ls [.int s20]) := by
          intro s20 M21 H locs ls hM hl hp
          rw [ek22] at hp
          refine lv_istore (lv' := [(4, .int s20), (0, .ref a0), (1, .int v4), (2, .int v15), (3, .int s17)]) hx hb dX3_readZone_80 hl (by decide) rfl (fun ls hl => ?_)
          refine lv_iload hx hb dX3_readZone_82 (lv_at hl 0 rfl) ?_
          refine lv_iconst (v := -1) hx hb dX3_readZone_84 (by decide) ?_
          obtain ⟨k25, ek25, hp⟩ := ojn hp
          have hk25 : ∀ (s23 : Int32) (M24 : Mem) (H : Heap) (locs : List Loc) (ls : Array Slot), mm G A s M24 H locs → lv_has ls 6 [(0, .ref a0), (1, .int v4), (2, .int v15), (3, .int s17), (4, .int s20)] → k25 s23 M24 = some M' → W p l e rm_X3_readZone s m args below meth c H locs 0 0 (MQ below (CQ G M' none A) args s 0 0 A) (F0 m 99 ls [.int s23]) := by
            intro s23 M24 H locs ls hM hl hp
            rw [ek25] at hp
            refine lv_istore (lv' := [(5, .int s23), (0, .ref a0), (1, .int v4), (2, .int v15), (3, .int s17), (4, .int s20)]) hx hb dX3_readZone_99 hl (by decide) rfl (fun ls hl => ?_)
            refine lv_iload hx hb dX3_readZone_101 (lv_at hl 0 rfl) ?_
            refine lv_iconst (v := -1) hx hb dX3_readZone_103 (by decide) ?_
            refine lv_icmp_eq (tgt := 131) hx hb dX3_readZone_104 (by decide) (fun c26 => ?_) (fun c26 => ?_)
            · replace hp := oT c26 hp
              exact mr_vret C0 hr hlk hM (Option.some.inj hp) (Nat.le_refl _) (Nat.le_refl _) dX3_readZone_131
            · replace hp := oF c26 hp
              refine lv_aload_n hx hb dX3_readZone_107 rfl (lv_at hl 1 rfl) ?_
              obtain ⟨_, h27, hp⟩ := ob hp
              obtain ⟨v28, M29, hv28, hp⟩ := ob3 hp
              refine mr_V1 (As := []) (rest := []) C0 cbX3 hM h27 rfl (w_X3_passSemicolon hG hZ hv28) tw_445 tw_446 tw_447 tw_16 tw_448 yk_X3_passSemicolon (by decide) rfl hl.1 (Nat.le_of_ble_eq_true rfl) dX3_readZone_108 rfl (fun H locs hM => ?_)
              refine lv_if_eq (tgt := 131) hx hb dX3_readZone_111 (by decide) (fun c30 => ?_) (fun c30 => ?_)
              · replace hp := oT c30 hp
                exact mr_vret C0 hr hlk hM (Option.some.inj hp) (Nat.le_refl _) (Nat.le_refl _) dX3_readZone_131
              · replace hp := oF c30 hp
                refine lv_aload_n hx hb dX3_readZone_114 rfl (lv_at hl 1 rfl) ?_
                obtain ⟨v31, hv31, hp⟩ := ob hp
                refine mr_getR C0 cbX3 hM 4 (by decide) tw_229 hv31 dX3_readZone_115 ?_
                obtain ⟨v32, hv32, hp⟩ := ob hp
                refine mr_getR C0 cbX2 hM 0 (by decide) tw_134 hv32 dX3_readZone_118 ?_
                refine lv_iload_n hx hb dX3_readZone_121 rfl (lv_at hl 2 rfl) ?_
                refine lv_iload_n hx hb dX3_readZone_122 rfl (lv_at hl 3 rfl) ?_
                refine lv_iload_n hx hb dX3_readZone_123 rfl (lv_at hl 4 rfl) ?_
                refine lv_iload hx hb dX3_readZone_124 (lv_at hl 5 rfl) ?_
                refine lv_iload hx hb dX3_readZone_126 (lv_at hl 0 rfl) ?_
                obtain ⟨_, h33, hp⟩ := ob hp
                obtain ⟨M34, hM34, hp⟩ := ob hp
                refine mr_V0 (As := [.int v4, .int v15, .int s17, .int s20, .int s23]) (rest := []) C0 cbX4 hM h33 rfl (w_X4_tellZone hG hM34) tw_465 tw_466 tw_467 tw_18 tw_468 yk_X4_tellZone (by decide) rfl hl.1 (Nat.le_of_ble_eq_true rfl) dX3_readZone_128 rfl (fun H locs hM => ?_)
                exact mr_vret C0 hr hlk hM (Option.some.inj hp) (Nat.le_refl _) (Nat.le_refl _) dX3_readZone_131
          refine lv_icmp_ne (tgt := 92) hx hb dX3_readZone_85 (by decide) (fun c35 => ?_) (fun c35 => ?_)
          · replace hp := oF c35 hp
            refine lv_aload_n hx hb dX3_readZone_92 rfl (lv_at hl 1 rfl) ?_
            refine lv_iload_n hx hb dX3_readZone_93 rfl (lv_at hl 4 rfl) ?_
            refine lv_bipush (v := 99) hx hb dX3_readZone_94 (by decide) ?_
            obtain ⟨_, h36, hp⟩ := ob hp
            obtain ⟨v37, M38, hv37, hp⟩ := ob3 hp
            refine mr_V1 (As := [.int s17, .int (99 : Int32)]) (rest := []) C0 cbX3 hM h36 rfl (w_X3_readNumber hG hZ hv37) tw_424 tw_425 tw_426 tw_16 tw_427 yk_X3_readNumber (by decide) rfl hl.1 (Nat.le_of_ble_eq_true rfl) dX3_readZone_96 rfl (fun H locs hM => ?_)
            exact hk25 _ _ _ _ _ hM (lv_sub hl [1, 2, 3, 4, 0] rfl) hp
          · replace hp := oT c35 hp
            refine lv_iconst (v := -1) hx hb dX3_readZone_88 (by decide) ?_
            refine lv_goto (tgt := 99) hx hb dX3_readZone_89 (by decide) ?_
            exact hk25 _ _ _ _ _ hM (lv_sub hl [1, 2, 3, 4, 0] rfl) hp
        refine lv_icmp_ne (tgt := 73) hx hb dX3_readZone_66 (by decide) (fun c39 => ?_) (fun c39 => ?_)
        · replace hp := oF c39 hp
          refine lv_aload_n hx hb dX3_readZone_73 rfl (lv_at hl 1 rfl) ?_
          refine lv_iload_n hx hb dX3_readZone_74 rfl (lv_at hl 3 rfl) ?_
          refine lv_bipush (v := 99) hx hb dX3_readZone_75 (by decide) ?_
          obtain ⟨_, h40, hp⟩ := ob hp
          obtain ⟨v41, M42, hv41, hp⟩ := ob3 hp
          refine mr_V1 (As := [.int v15, .int (99 : Int32)]) (rest := []) C0 cbX3 hM h40 rfl (w_X3_readNumber hG hZ hv41) tw_424 tw_425 tw_426 tw_16 tw_427 yk_X3_readNumber (by decide) rfl hl.1 (Nat.le_of_ble_eq_true rfl) dX3_readZone_77 rfl (fun H locs hM => ?_)
          exact hk22 _ _ _ _ _ hM (lv_sub hl [1, 2, 3, 0] rfl) hp
        · replace hp := oT c39 hp
          refine lv_iconst (v := -1) hx hb dX3_readZone_69 (by decide) ?_
          refine lv_goto (tgt := 80) hx hb dX3_readZone_70 (by decide) ?_
          exact hk22 _ _ _ _ _ hM (lv_sub hl [1, 2, 3, 0] rfl) hp
      refine lv_icmp_ne (tgt := 56) hx hb dX3_readZone_49 (by decide) (fun c43 => ?_) (fun c43 => ?_)
      · replace hp := oF c43 hp
        refine lv_aload_n hx hb dX3_readZone_56 rfl (lv_at hl 2 rfl) ?_
        refine lv_iconst (v := 0) hx hb dX3_readZone_57 (by decide) ?_
        refine lv_bipush (v := 99) hx hb dX3_readZone_58 (by decide) ?_
        obtain ⟨_, h44, hp⟩ := ob hp
        obtain ⟨v45, M46, hv45, hp⟩ := ob3 hp
        refine mr_V1 (As := [.int (0 : Int32), .int (99 : Int32)]) (rest := []) C0 cbX3 hM h44 rfl (w_X3_readNumber hG hZ hv45) tw_424 tw_425 tw_426 tw_16 tw_427 yk_X3_readNumber (by decide) rfl hl.1 (Nat.le_of_ble_eq_true rfl) dX3_readZone_60 rfl (fun H locs hM => ?_)
        exact hk19 _ _ _ _ _ hM (lv_sub hl [2, 1, 0] rfl) hp
      · replace hp := oT c43 hp
        refine lv_iconst (v := -1) hx hb dX3_readZone_52 (by decide) ?_
        refine lv_goto (tgt := 63) hx hb dX3_readZone_53 (by decide) ?_
        exact hk19 _ _ _ _ _ hM (lv_sub hl [2, 1, 0] rfl) hp
    · replace hp := oF c11 hp
      refine lv_aload_n hx hb dX3_readZone_29 rfl (lv_at hl 1 rfl) ?_
      refine lv_iconst (v := 3) hx hb dX3_readZone_30 (by decide) ?_
      obtain ⟨_, h47, hp⟩ := ob hp
      obtain ⟨M48, hM48, hp⟩ := ob hp
      refine mr_V0 (As := [.int (3 : Int32)]) (rest := []) C0 cbX3 hM h47 rfl (w_X3_fail hG hM48) tw_412 tw_413 tw_414 tw_16 tw_415 yk_X3_fail (by decide) rfl hl.1 (Nat.le_of_ble_eq_true rfl) dX3_readZone_31 rfl (fun H locs hM => ?_)
      exact mr_vret C0 hr hlk hM (Option.some.inj hp) (Nat.le_refl _) (Nat.le_refl _) dX3_readZone_34
  · replace hp := oT c6 hp
    exact mr_vret C0 hr hlk hM (Option.some.inj hp) (Nat.le_refl _) (Nat.le_refl _) dX3_readZone_14
abbrev rm_X3_readSetup : Room := { frames := 9, cells := 0, slots := 0, locals := 197 }
def pl_X3_readSetup_56 (Z : gZ) (k1 : Mem → Option (Mem)) (f0 : Nat) : Nat → Int32 → Mem → Option (Mem)
  | 0, _, _ => none
  | n + 1, y1, M =>
    (if y1 ≤ 0 then
     (k1  M)
    else
     (Option.bind (gI 3 8 M f0) fun v20 =>
     (if v20 = 0 then
      (k1  M)
     else
      (Option.bind (gI 3 2 M f0) fun v22 =>
      (if v22 = 0 then
       (Option.bind (gN 3 11 M f0) fun v24 =>
       (if v24 = (some (Z.2.2.1 0)) then
        (Option.bind (isC 3 M f0) fun _ =>
        (Option.bind (p_X3_readSchool Z f0 M) fun M53 =>
        (pl_X3_readSetup_56 Z k1 f0 n (y1 + (-1 : Int32)) M53)
        )
        )
       else
        (Option.bind (gN 3 11 M f0) fun v26 =>
        (if v26 = (some (Z.2.2.1 1)) then
         (Option.bind (isC 3 M f0) fun _ =>
         (Option.bind (p_X3_readZone Z f0 M) fun M51 =>
         (pl_X3_readSetup_56 Z k1 f0 n (y1 + (-1 : Int32)) M51)
         )
         )
        else
         (Option.bind (gN 3 11 M f0) fun v28 =>
         (if v28 = (some (Z.2.2.1 2)) then
          (Option.bind (isC 3 M f0) fun _ =>
          (Option.bind (p_X3_readPupil Z f0 M) fun M49 =>
          (pl_X3_readSetup_56 Z k1 f0 n (y1 + (-1 : Int32)) M49)
          )
          )
         else
          (Option.bind (gN 3 11 M f0) fun v30 =>
          (if v30 = (some (Z.2.2.1 3)) then
           (Option.bind (isC 3 M f0) fun _ =>
           (Option.bind (p_X3_readChild Z f0 M) fun M47 =>
           (pl_X3_readSetup_56 Z k1 f0 n (y1 + (-1 : Int32)) M47)
           )
           )
          else
           (Option.bind (gN 3 11 M f0) fun v32 =>
           (if v32 = (some (Z.2.2.1 4)) then
            (Option.bind (isC 3 M f0) fun _ =>
            (Option.bind (p_X3_readSeed Z f0 M) fun M45 =>
            (pl_X3_readSetup_56 Z k1 f0 n (y1 + (-1 : Int32)) M45)
            )
            )
           else
            (Option.bind (gN 3 11 M f0) fun v34 =>
            (if v34 = (some (Z.2.2.1 5)) then
             (Option.bind (isC 3 M f0) fun _ =>
             (Option.bind (p_X3_readAppeals Z f0 M) fun M43 =>
             (pl_X3_readSetup_56 Z k1 f0 n (y1 + (-1 : Int32)) M43)
             )
             )
            else
             (Option.bind (gN 3 11 M f0) fun v36 =>
             (if v36 = (some (Z.2.2.1 6)) then
              (Option.bind (isC 3 M f0) fun _ =>
              (Option.bind (p_X3_readLate Z f0 M) fun M41 =>
              (pl_X3_readSetup_56 Z k1 f0 n (y1 + (-1 : Int32)) M41)
              )
              )
             else
              (Option.bind (isC 3 M f0) fun _ =>
              (Option.bind (p_X3_fail f0 (1 : Int32) M) fun M39 =>
              (pl_X3_readSetup_56 Z k1 f0 n (y1 + (-1 : Int32)) M39)
              )
              )
             )
             )
            )
            )
           )
           )
          )
          )
         )
         )
        )
        )
       )
       )
      else
       (k1  M)
      )
      )
     )
     )
    )
set_option maxHeartbeats 4000000 in
set_option maxRecDepth 100000 in
theorem wl_X3_readSetup_56 {G : gG} {p : Program} {l : Launch} {e : Env} {s : State} {m : MethodId} {args : Array Value} {below : List Frame} {meth : Method} {c : Code} {A : Nat → Prop} {Z : gZ} {M' : Mem} {k1 : Mem → Option (Mem)} {f0 : Nat} (C0 : cx G p s m args c cX3_readSetup RX3 2 A) (hr : meth.sig.returnType = (none)) (hlk : meth.locks = false) (hG : GOK G) (hZ : GS G Z) (hk1 : ∀ (M : Mem) (H : Heap) (locs : List Loc) (ls : Array Slot), mm G A s M H locs → lv_has ls 2 [] → k1 M = some M' → W p l e rm_X3_readSetup s m args below meth c H locs 0 0 (MQ below (CQ G M' none A) args s 0 0 A) (F0 m 204 ls [])) : ∀ (n : Nat) (y1 : Int32) (M : Mem) (H : Heap) (locs : List Loc) (ls : Array Slot), mm G A s M H locs → lv_has ls 2 [(0, .ref f0), (1, .int y1)] → pl_X3_readSetup_56 Z k1 f0 n y1 M = some M' → W p l e rm_X3_readSetup s m args below meth c H locs 0 0 (MQ below (CQ G M' none A) args s 0 0 A) (F0 m 56 ls []) := by
  have hx := C0.1
  have hb := C0.2.1
  have hown := C0.2.2.2.1
  have hts := C0.2.2.2.2.1
  intro n
  induction n with
  | zero => intro y1 M H locs ls hM hl hp; rw [pl_X3_readSetup_56] at hp; cases hp
  | succ n ih =>
    intro y1 M H locs ls hM hl hp
    rw [pl_X3_readSetup_56] at hp
    refine lv_iload_n hx hb dX3_readSetup_56 rfl (lv_at hl 1 rfl) ?_
    refine lv_if_le (tgt := 204) hx hb dX3_readSetup_57 (by decide) (fun c19 => ?_) (fun c19 => ?_)
    · replace hp := oT c19 hp
      exact hk1  _ _ _ _ hM (lv_sub hl [] rfl) hp
    · replace hp := oF c19 hp
      refine lv_aload_n hx hb dX3_readSetup_60 rfl (lv_at hl 0 rfl) ?_
      obtain ⟨v20, hv20, hp⟩ := ob hp
      refine mr_getI C0 cbX3 hM 8 (by decide) tw_234 hv20 dX3_readSetup_61 ?_
      refine lv_if_eq (tgt := 204) hx hb dX3_readSetup_64 (by decide) (fun c21 => ?_) (fun c21 => ?_)
      · replace hp := oT c21 hp
        exact hk1  _ _ _ _ hM (lv_sub hl [] rfl) hp
      · replace hp := oF c21 hp
        refine lv_aload_n hx hb dX3_readSetup_67 rfl (lv_at hl 0 rfl) ?_
        obtain ⟨v22, hv22, hp⟩ := ob hp
        refine mr_getI C0 cbX3 hM 2 (by decide) tw_226 hv22 dX3_readSetup_68 ?_
        refine lv_if_ne (tgt := 204) hx hb dX3_readSetup_71 (by decide) (fun c23 => ?_) (fun c23 => ?_)
        · replace hp := oF c23 hp
          exact hk1  _ _ _ _ hM (lv_sub hl [] rfl) hp
        · replace hp := oT c23 hp
          refine lv_aload_n hx hb dX3_readSetup_74 rfl (lv_at hl 0 rfl) ?_
          obtain ⟨v24, hv24, hp⟩ := ob hp
          refine mr_getN C0 cbX3 hM 11 (by decide) tw_237 hv24 dX3_readSetup_75 ?_
          refine mr_gets C0 hM ((mr_sx C0 hZ).2.2.2.2.1 0 (by decide)).1 tw_406 dX3_readSetup_78 ?_
          refine mr_acmp_ne (rx := v24) (ry := (some (Z.2.2.1 0))) (tgt := 91) C0 dX3_readSetup_81 (by decide) (fun c25 => ?_) (fun c25 => ?_) rfl rfl
          · replace hp := oF c25 hp
            refine lv_aload_n hx hb dX3_readSetup_91 rfl (lv_at hl 0 rfl) ?_
            obtain ⟨v26, hv26, hp⟩ := ob hp
            refine mr_getN C0 cbX3 hM 11 (by decide) tw_237 hv26 dX3_readSetup_92 ?_
            refine mr_gets C0 hM ((mr_sx C0 hZ).2.2.2.2.1 1 (by decide)).1 tw_440 dX3_readSetup_95 ?_
            refine mr_acmp_ne (rx := v26) (ry := (some (Z.2.2.1 1))) (tgt := 108) C0 dX3_readSetup_98 (by decide) (fun c27 => ?_) (fun c27 => ?_) rfl rfl
            · replace hp := oF c27 hp
              refine lv_aload_n hx hb dX3_readSetup_108 rfl (lv_at hl 0 rfl) ?_
              obtain ⟨v28, hv28, hp⟩ := ob hp
              refine mr_getN C0 cbX3 hM 11 (by decide) tw_237 hv28 dX3_readSetup_109 ?_
              refine mr_gets C0 hM ((mr_sx C0 hZ).2.2.2.2.1 2 (by decide)).1 tw_469 dX3_readSetup_112 ?_
              refine mr_acmp_ne (rx := v28) (ry := (some (Z.2.2.1 2))) (tgt := 125) C0 dX3_readSetup_115 (by decide) (fun c29 => ?_) (fun c29 => ?_) rfl rfl
              · replace hp := oF c29 hp
                refine lv_aload_n hx hb dX3_readSetup_125 rfl (lv_at hl 0 rfl) ?_
                obtain ⟨v30, hv30, hp⟩ := ob hp
                refine mr_getN C0 cbX3 hM 11 (by decide) tw_237 hv30 dX3_readSetup_126 ?_
                refine mr_gets C0 hM ((mr_sx C0 hZ).2.2.2.2.1 3 (by decide)).1 tw_479 dX3_readSetup_129 ?_
                refine mr_acmp_ne (rx := v30) (ry := (some (Z.2.2.1 3))) (tgt := 142) C0 dX3_readSetup_132 (by decide) (fun c31 => ?_) (fun c31 => ?_) rfl rfl
                · replace hp := oF c31 hp
                  refine lv_aload_n hx hb dX3_readSetup_142 rfl (lv_at hl 0 rfl) ?_
                  obtain ⟨v32, hv32, hp⟩ := ob hp
                  refine mr_getN C0 cbX3 hM 11 (by decide) tw_237 hv32 dX3_readSetup_143 ?_
                  refine mr_gets C0 hM ((mr_sx C0 hZ).2.2.2.2.1 4 (by decide)).1 tw_504 dX3_readSetup_146 ?_
                  refine mr_acmp_ne (rx := v32) (ry := (some (Z.2.2.1 4))) (tgt := 159) C0 dX3_readSetup_149 (by decide) (fun c33 => ?_) (fun c33 => ?_) rfl rfl
                  · replace hp := oF c33 hp
                    refine lv_aload_n hx hb dX3_readSetup_159 rfl (lv_at hl 0 rfl) ?_
                    obtain ⟨v34, hv34, hp⟩ := ob hp
                    refine mr_getN C0 cbX3 hM 11 (by decide) tw_237 hv34 dX3_readSetup_160 ?_
                    refine mr_gets C0 hM ((mr_sx C0 hZ).2.2.2.2.1 5 (by decide)).1 tw_514 dX3_readSetup_163 ?_
                    refine mr_acmp_ne (rx := v34) (ry := (some (Z.2.2.1 5))) (tgt := 176) C0 dX3_readSetup_166 (by decide) (fun c35 => ?_) (fun c35 => ?_) rfl rfl
                    · replace hp := oF c35 hp
                      refine lv_aload_n hx hb dX3_readSetup_176 rfl (lv_at hl 0 rfl) ?_
                      obtain ⟨v36, hv36, hp⟩ := ob hp
                      refine mr_getN C0 cbX3 hM 11 (by decide) tw_237 hv36 dX3_readSetup_177 ?_
                      refine mr_gets C0 hM ((mr_sx C0 hZ).2.2.2.2.1 6 (by decide)).1 tw_520 dX3_readSetup_180 ?_
                      refine mr_acmp_ne (rx := v36) (ry := (some (Z.2.2.1 6))) (tgt := 193) C0 dX3_readSetup_183 (by decide) (fun c37 => ?_) (fun c37 => ?_) rfl rfl
                      · replace hp := oF c37 hp
                        refine lv_aload_n hx hb dX3_readSetup_193 rfl (lv_at hl 0 rfl) ?_
                        refine lv_iconst (v := 1) hx hb dX3_readSetup_194 (by decide) ?_
                        obtain ⟨_, h38, hp⟩ := ob hp
                        obtain ⟨M39, hM39, hp⟩ := ob hp
                        refine mr_V0 (As := [.int (1 : Int32)]) (rest := []) C0 cbX3 hM h38 rfl (w_X3_fail hG hM39) tw_412 tw_413 tw_414 tw_16 tw_415 yk_X3_fail (by decide) rfl hl.1 (Nat.le_of_ble_eq_true rfl) dX3_readSetup_195 rfl (fun H locs hM => ?_)
                        refine lv_iinc (v := (y1 + (-1 : Int32))) (lv' := [(1, .int (y1 + (-1 : Int32))), (0, .ref f0)]) hx hb dX3_readSetup_198 hl (k := 1) rfl rfl (by decide) rfl (fun ls hl => ?_)
                        refine lv_goto (tgt := 56) hx hb dX3_readSetup_201 (by decide) ?_
                        exact ih _ _ _ _ _ hM (lv_sub hl [1, 0] rfl) hp
                      · replace hp := oT c37 hp
                        refine lv_aload_n hx hb dX3_readSetup_186 rfl (lv_at hl 0 rfl) ?_
                        obtain ⟨_, h40, hp⟩ := ob hp
                        obtain ⟨M41, hM41, hp⟩ := ob hp
                        refine mr_V0 (As := []) (rest := []) C0 cbX3 hM h40 rfl (w_X3_readLate hG hZ hM41) tw_522 tw_523 tw_524 tw_16 tw_525 yk_X3_readLate (by decide) rfl hl.1 (Nat.le_of_ble_eq_true rfl) dX3_readSetup_187 rfl (fun H locs hM => ?_)
                        refine lv_goto (tgt := 198) hx hb dX3_readSetup_190 (by decide) ?_
                        refine lv_iinc (v := (y1 + (-1 : Int32))) (lv' := [(1, .int (y1 + (-1 : Int32))), (0, .ref f0)]) hx hb dX3_readSetup_198 hl (k := 1) rfl rfl (by decide) rfl (fun ls hl => ?_)
                        refine lv_goto (tgt := 56) hx hb dX3_readSetup_201 (by decide) ?_
                        exact ih _ _ _ _ _ hM (lv_sub hl [1, 0] rfl) hp
                    · replace hp := oT c35 hp
                      refine lv_aload_n hx hb dX3_readSetup_169 rfl (lv_at hl 0 rfl) ?_
                      obtain ⟨_, h42, hp⟩ := ob hp
                      obtain ⟨M43, hM43, hp⟩ := ob hp
                      refine mr_V0 (As := []) (rest := []) C0 cbX3 hM h42 rfl (w_X3_readAppeals hG hZ hM43) tw_516 tw_517 tw_518 tw_16 tw_519 yk_X3_readAppeals (by decide) rfl hl.1 (Nat.le_of_ble_eq_true rfl) dX3_readSetup_170 rfl (fun H locs hM => ?_)
                      refine lv_goto (tgt := 198) hx hb dX3_readSetup_173 (by decide) ?_
                      refine lv_iinc (v := (y1 + (-1 : Int32))) (lv' := [(1, .int (y1 + (-1 : Int32))), (0, .ref f0)]) hx hb dX3_readSetup_198 hl (k := 1) rfl rfl (by decide) rfl (fun ls hl => ?_)
                      refine lv_goto (tgt := 56) hx hb dX3_readSetup_201 (by decide) ?_
                      exact ih _ _ _ _ _ hM (lv_sub hl [1, 0] rfl) hp
                  · replace hp := oT c33 hp
                    refine lv_aload_n hx hb dX3_readSetup_152 rfl (lv_at hl 0 rfl) ?_
                    obtain ⟨_, h44, hp⟩ := ob hp
                    obtain ⟨M45, hM45, hp⟩ := ob hp
                    refine mr_V0 (As := []) (rest := []) C0 cbX3 hM h44 rfl (w_X3_readSeed hG hZ hM45) tw_506 tw_507 tw_508 tw_16 tw_509 yk_X3_readSeed (by decide) rfl hl.1 (Nat.le_of_ble_eq_true rfl) dX3_readSetup_153 rfl (fun H locs hM => ?_)
                    refine lv_goto (tgt := 198) hx hb dX3_readSetup_156 (by decide) ?_
                    refine lv_iinc (v := (y1 + (-1 : Int32))) (lv' := [(1, .int (y1 + (-1 : Int32))), (0, .ref f0)]) hx hb dX3_readSetup_198 hl (k := 1) rfl rfl (by decide) rfl (fun ls hl => ?_)
                    refine lv_goto (tgt := 56) hx hb dX3_readSetup_201 (by decide) ?_
                    exact ih _ _ _ _ _ hM (lv_sub hl [1, 0] rfl) hp
                · replace hp := oT c31 hp
                  refine lv_aload_n hx hb dX3_readSetup_135 rfl (lv_at hl 0 rfl) ?_
                  obtain ⟨_, h46, hp⟩ := ob hp
                  obtain ⟨M47, hM47, hp⟩ := ob hp
                  refine mr_V0 (As := []) (rest := []) C0 cbX3 hM h46 rfl (w_X3_readChild hG hZ hM47) tw_481 tw_482 tw_483 tw_16 tw_484 yk_X3_readChild (by decide) rfl hl.1 (Nat.le_of_ble_eq_true rfl) dX3_readSetup_136 rfl (fun H locs hM => ?_)
                  refine lv_goto (tgt := 198) hx hb dX3_readSetup_139 (by decide) ?_
                  refine lv_iinc (v := (y1 + (-1 : Int32))) (lv' := [(1, .int (y1 + (-1 : Int32))), (0, .ref f0)]) hx hb dX3_readSetup_198 hl (k := 1) rfl rfl (by decide) rfl (fun ls hl => ?_)
                  refine lv_goto (tgt := 56) hx hb dX3_readSetup_201 (by decide) ?_
                  exact ih _ _ _ _ _ hM (lv_sub hl [1, 0] rfl) hp
              · replace hp := oT c29 hp
                refine lv_aload_n hx hb dX3_readSetup_118 rfl (lv_at hl 0 rfl) ?_
                obtain ⟨_, h48, hp⟩ := ob hp
                obtain ⟨M49, hM49, hp⟩ := ob hp
                refine mr_V0 (As := []) (rest := []) C0 cbX3 hM h48 rfl (w_X3_readPupil hG hZ hM49) tw_471 tw_472 tw_473 tw_16 tw_474 yk_X3_readPupil (by decide) rfl hl.1 (Nat.le_of_ble_eq_true rfl) dX3_readSetup_119 rfl (fun H locs hM => ?_)
                refine lv_goto (tgt := 198) hx hb dX3_readSetup_122 (by decide) ?_
                refine lv_iinc (v := (y1 + (-1 : Int32))) (lv' := [(1, .int (y1 + (-1 : Int32))), (0, .ref f0)]) hx hb dX3_readSetup_198 hl (k := 1) rfl rfl (by decide) rfl (fun ls hl => ?_)
                refine lv_goto (tgt := 56) hx hb dX3_readSetup_201 (by decide) ?_
                exact ih _ _ _ _ _ hM (lv_sub hl [1, 0] rfl) hp
            · replace hp := oT c27 hp
              refine lv_aload_n hx hb dX3_readSetup_101 rfl (lv_at hl 0 rfl) ?_
              obtain ⟨_, h50, hp⟩ := ob hp
              obtain ⟨M51, hM51, hp⟩ := ob hp
              refine mr_V0 (As := []) (rest := []) C0 cbX3 hM h50 rfl (w_X3_readZone hG hZ hM51) tw_453 tw_454 tw_455 tw_16 tw_456 yk_X3_readZone (by decide) rfl hl.1 (Nat.le_of_ble_eq_true rfl) dX3_readSetup_102 rfl (fun H locs hM => ?_)
              refine lv_goto (tgt := 198) hx hb dX3_readSetup_105 (by decide) ?_
              refine lv_iinc (v := (y1 + (-1 : Int32))) (lv' := [(1, .int (y1 + (-1 : Int32))), (0, .ref f0)]) hx hb dX3_readSetup_198 hl (k := 1) rfl rfl (by decide) rfl (fun ls hl => ?_)
              refine lv_goto (tgt := 56) hx hb dX3_readSetup_201 (by decide) ?_
              exact ih _ _ _ _ _ hM (lv_sub hl [1, 0] rfl) hp
          · replace hp := oT c25 hp
            refine lv_aload_n hx hb dX3_readSetup_84 rfl (lv_at hl 0 rfl) ?_
            obtain ⟨_, h52, hp⟩ := ob hp
            obtain ⟨M53, hM53, hp⟩ := ob hp
            refine mr_V0 (As := []) (rest := []) C0 cbX3 hM h52 rfl (w_X3_readSchool hG hZ hM53) tw_408 tw_409 tw_410 tw_16 tw_411 yk_X3_readSchool (by decide) rfl hl.1 (Nat.le_of_ble_eq_true rfl) dX3_readSetup_85 rfl (fun H locs hM => ?_)
            refine lv_goto (tgt := 198) hx hb dX3_readSetup_88 (by decide) ?_
            refine lv_iinc (v := (y1 + (-1 : Int32))) (lv' := [(1, .int (y1 + (-1 : Int32))), (0, .ref f0)]) hx hb dX3_readSetup_198 hl (k := 1) rfl rfl (by decide) rfl (fun ls hl => ?_)
            refine lv_goto (tgt := 56) hx hb dX3_readSetup_201 (by decide) ?_
            exact ih _ _ _ _ _ hM (lv_sub hl [1, 0] rfl) hp
def p_X3_readSetup (Z : gZ) (a0 : Nat) (M : Mem) : Option (Mem) :=
  (Option.bind (gR 3 4 M a0) fun v1 =>
  (Option.bind (gR 2 0 M v1) fun v2 =>
  (Option.bind (isC 4 M v2) fun _ =>
  (Option.bind (p_X4_clear v2 M) fun M4 =>
  (Option.bind (gR 3 4 M4 a0) fun v5 =>
  (Option.bind (isC 2 M4 v5) fun _ =>
  (Option.bind (p_X2_clear v5 M4) fun M7 =>
  (Option.bind (sV 3 2 M7 a0 (.int (0 : Int32))) fun M8 =>
  (Option.bind (sV 3 3 M8 a0 (.int (-1 : Int32))) fun M9 =>
  (Option.bind (sZ 3 5 M9 a0 (0 : Int32)) fun M10 =>
  (Option.bind (sZ 3 6 M10 a0 (0 : Int32)) fun M11 =>
  (Option.bind (sZ 3 7 M11 a0 (0 : Int32)) fun M12 =>
  (Option.bind (sV 3 10 M12 a0 (.int (0 : Int32))) fun M13 =>
  (Option.bind (isC 3 M13 a0) fun _ =>
  (Option.bind (p_X3_advance Z a0 M13) fun M15 =>
  (Option.bind (gI 3 1 M15 a0) fun v16 =>
  (jn (fun  (M17 : Mem) =>
   some M17
  ) fun k18 =>
  (pl_X3_readSetup_56 Z
   (fun  (M54 : Mem) =>
    (k18  M54)
   )
   a0 FU v16 M15)
  )
  )
  )
  )
  )
  )
  )
  )
  )
  )
  )
  )
  )
  )
  )
  )
  )
theorem yk_X3_readSetup : yok yX3_readSetup 0 := by decide +kernel
set_option maxHeartbeats 4000000 in
set_option maxRecDepth 100000 in
theorem w_X3_readSetup {G : gG} (hG : GOK G) {Z : gZ} (hZ : GS G Z) {l : Launch} {a0 : Nat} {M : Mem} {M' : Mem} (hp : p_X3_readSetup Z a0 M = some M') : CT G l yX3_readSetup (wT yX3_readSetup cX3_readSetup 2 (none)) rm_X3_readSetup [.ref a0] M none M' 0 0 := by
  refine CT_of (own := RX3) (maxL := 2) (ret := (none)) hG (by decide) rfl (Nat.le_of_ble_eq_true rfl) (fun p e s m below meth c A C0 hr hlk hM ls hl => ?_)
  have hl : lv_has ls 2 [(0, .ref a0)] := hl
  generalize ([.ref a0] : List Value).toArray = args at C0 ⊢
  skip
  have hx := C0.1
  have hb := C0.2.1
  have hown := C0.2.2.2.1
  have hts := C0.2.2.2.2.1
  unfold p_X3_readSetup at hp
  refine lv_aload_n hx hb dX3_readSetup_0 rfl (lv_at hl 0 rfl) ?_
  obtain ⟨v1, hv1, hp⟩ := ob hp
  refine mr_getR C0 cbX3 hM 4 (by decide) tw_229 hv1 dX3_readSetup_1 ?_
  obtain ⟨v2, hv2, hp⟩ := ob hp
  refine mr_getR C0 cbX2 hM 0 (by decide) tw_134 hv2 dX3_readSetup_4 ?_
  obtain ⟨_, h3, hp⟩ := ob hp
  obtain ⟨M4, hM4, hp⟩ := ob hp
  refine mr_V0 (As := []) (rest := []) C0 cbX4 hM h3 rfl (w_X4_clear hG hM4) tw_333 tw_334 tw_335 tw_18 tw_336 yk_X4_clear (by decide) rfl hl.1 (Nat.le_of_ble_eq_true rfl) dX3_readSetup_7 rfl (fun H locs hM => ?_)
  refine lv_aload_n hx hb dX3_readSetup_10 rfl (lv_at hl 0 rfl) ?_
  obtain ⟨v5, hv5, hp⟩ := ob hp
  refine mr_getR C0 cbX3 hM 4 (by decide) tw_229 hv5 dX3_readSetup_11 ?_
  obtain ⟨_, h6, hp⟩ := ob hp
  obtain ⟨M7, hM7, hp⟩ := ob hp
  refine mr_V0 (As := []) (rest := []) C0 cbX2 hM h6 rfl (w_X2_clear hG hM7) tw_340 tw_341 tw_342 tw_17 tw_343 yk_X2_clear (by decide) rfl hl.1 (Nat.le_of_ble_eq_true rfl) dX3_readSetup_14 rfl (fun H locs hM => ?_)
  refine lv_aload_n hx hb dX3_readSetup_17 rfl (lv_at hl 0 rfl) ?_
  refine lv_iconst (v := 0) hx hb dX3_readSetup_18 (by decide) ?_
  obtain ⟨M8, hM8, hp⟩ := ob hp
  refine mr_putI C0 cbX3 hM 2 (by decide) rfl rfl tw_226 hM8 dX3_readSetup_19 (fun H locs hM => ?_)
  refine lv_aload_n hx hb dX3_readSetup_22 rfl (lv_at hl 0 rfl) ?_
  refine lv_iconst (v := -1) hx hb dX3_readSetup_23 (by decide) ?_
  obtain ⟨M9, hM9, hp⟩ := ob hp
  refine mr_putI C0 cbX3 hM 3 (by decide) rfl rfl tw_228 hM9 dX3_readSetup_24 (fun H locs hM => ?_)
  refine lv_aload_n hx hb dX3_readSetup_27 rfl (lv_at hl 0 rfl) ?_
  refine lv_iconst (v := 0) hx hb dX3_readSetup_28 (by decide) ?_
  obtain ⟨M10, hM10, hp⟩ := ob hp
  refine mr_putZ C0 cbX3 hM 5 (by decide) rfl rfl tw_231 hM10 dX3_readSetup_29 (fun H locs hM => ?_)
  refine lv_aload_n hx hb dX3_readSetup_32 rfl (lv_at hl 0 rfl) ?_
  refine lv_iconst (v := 0) hx hb dX3_readSetup_33 (by decide) ?_
  obtain ⟨M11, hM11, hp⟩ := ob hp
  refine mr_putZ C0 cbX3 hM 6 (by decide) rfl rfl tw_232 hM11 dX3_readSetup_34 (fun H locs hM => ?_)
  refine lv_aload_n hx hb dX3_readSetup_37 rfl (lv_at hl 0 rfl) ?_
  refine lv_iconst (v := 0) hx hb dX3_readSetup_38 (by decide) ?_
  obtain ⟨M12, hM12, hp⟩ := ob hp
  refine mr_putZ C0 cbX3 hM 7 (by decide) rfl rfl tw_233 hM12 dX3_readSetup_39 (fun H locs hM => ?_)
  refine lv_aload_n hx hb dX3_readSetup_42 rfl (lv_at hl 0 rfl) ?_
  refine lv_iconst (v := 0) hx hb dX3_readSetup_43 (by decide) ?_
  obtain ⟨M13, hM13, hp⟩ := ob hp
  refine mr_putI C0 cbX3 hM 10 (by decide) rfl rfl tw_236 hM13 dX3_readSetup_44 (fun H locs hM => ?_)
  refine lv_aload_n hx hb dX3_readSetup_47 rfl (lv_at hl 0 rfl) ?_
  obtain ⟨_, h14, hp⟩ := ob hp
  obtain ⟨M15, hM15, hp⟩ := ob hp
  refine mr_V0 (As := []) (rest := []) C0 cbX3 hM h14 rfl (w_X3_advance hG hZ hM15) tw_345 tw_346 tw_347 tw_16 tw_348 yk_X3_advance (by decide) rfl hl.1 (Nat.le_of_ble_eq_true rfl) dX3_readSetup_48 rfl (fun H locs hM => ?_)
  refine lv_aload_n hx hb dX3_readSetup_51 rfl (lv_at hl 0 rfl) ?_
  obtain ⟨v16, hv16, hp⟩ := ob hp
  refine mr_getI C0 cbX3 hM 1 (by decide) tw_224 hv16 dX3_readSetup_52 ?_
  refine lv_istore_n (lv' := [(1, .int v16), (0, .ref a0)]) hx hb dX3_readSetup_55 rfl hl (by decide) rfl (fun ls hl => ?_)
  obtain ⟨k18, ek18, hp⟩ := ojn hp
  have hk18 : ∀ (M17 : Mem) (H : Heap) (locs : List Loc) (ls : Array Slot), mm G A s M17 H locs → lv_has ls 2 [] → k18  M17 = some M' → W p l e rm_X3_readSetup s m args below meth c H locs 0 0 (MQ below (CQ G M' none A) args s 0 0 A) (F0 m 204 ls []) := by
    intro  M17 H locs ls hM hl hp
    rw [ek18] at hp
    exact mr_vret C0 hr hlk hM (Option.some.inj hp) (Nat.le_refl _) (Nat.le_refl _) dX3_readSetup_204
  refine wl_X3_readSetup_56 C0 hr hlk hG hZ (fun M54 H locs ls hM hl hp => ?_) FU _ _ _ _ _ hM (lv_sub hl [1, 0] rfl) hp
  exact hk18  _ _ _ _ hM (lv_sub hl [] rfl) hp
