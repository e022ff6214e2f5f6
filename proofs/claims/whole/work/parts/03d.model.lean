abbrev rm_X7_clear : Room := { frames := 0, cells := 0, slots := 0, locals := 0 }
def pl_X7_clear_2 (k1 : Mem → Option (Mem)) (f0 : Nat) : Nat → Int32 → Mem → Option (Mem)
  | 0, _, _ => none
  | n + 1, y1, M =>
    (if (764 : Int32) ≤ y1 then
     (k1  M)
    else
     (Option.bind (gR 6 0 M f0) fun v2 =>
     (Option.bind (aIs M v2 y1 (0 : Int32)) fun M3 =>
     (pl_X7_clear_2 k1 f0 n (y1 + (1 : Int32)) M3)
     )
     )
    )
set_option maxHeartbeats 4000000 in
set_option maxRecDepth 100000 in
theorem wl_X7_clear_2 {G : gG} {p : Program} {l : Launch} {e : Env} {s : State} {m : MethodId} {args : Array Value} {below : List Frame} {meth : Method} {c : Code} {A : Nat → Prop} {M' : Mem} {k1 : Mem → Option (Mem)} {f0 : Nat} (C0 : cx G p s m args c cX7_clear RX7 2 A) (hr : meth.sig.returnType = (none)) (hlk : meth.locks = false) (hG : GOK G) (hk1 : ∀ (M : Mem) (H : Heap) (locs : List Loc) (ls : Array Slot), mm G A s M H locs → lv_has ls 2 [(0, .ref f0)] → k1 M = some M' → W p l e rm_X7_clear s m args below meth c H locs 0 0 (MQ below (CQ G M' none A) args s 0 0 A) (F0 m 22 ls [])) : ∀ (n : Nat) (y1 : Int32) (M : Mem) (H : Heap) (locs : List Loc) (ls : Array Slot), mm G A s M H locs → lv_has ls 2 [(0, .ref f0), (1, .int y1)] → pl_X7_clear_2 k1 f0 n y1 M = some M' → W p l e rm_X7_clear s m args below meth c H locs 0 0 (MQ below (CQ G M' none A) args s 0 0 A) (F0 m 2 ls []) := by
  have hx := C0.1
  have hb := C0.2.1
  have hown := C0.2.2.2.1
  have hts := C0.2.2.2.2.1
  intro n
  induction n with
  | zero => intro y1 M H locs ls hM hl hp; rw [pl_X7_clear_2] at hp; cases hp
  | succ n ih =>
    intro y1 M H locs ls hM hl hp
    rw [pl_X7_clear_2] at hp
    refine lv_iload_n hx hb dX7_clear_2 rfl (lv_at hl 1 rfl) ?_
    refine lv_sipush (v := 764) hx hb dX7_clear_3 (by decide) ?_
    refine lv_icmp_ge (tgt := 22) hx hb dX7_clear_6 (by decide) (fun c1 => ?_) (fun c1 => ?_)
    · replace hp := oT c1 hp
      exact hk1  _ _ _ _ hM (lv_sub hl [0] rfl) hp
    · replace hp := oF c1 hp
      refine lv_aload_n hx hb dX7_clear_9 rfl (lv_at hl 0 rfl) ?_
      obtain ⟨v2, hv2, hp⟩ := ob hp
      refine mr_getR C0 cbX7 hM 0 (by decide) tw_1224 hv2 dX7_clear_10 ?_
      refine lv_iload_n hx hb dX7_clear_13 rfl (lv_at hl 1 rfl) ?_
      refine lv_iconst (v := 0) hx hb dX7_clear_14 (by decide) ?_
      obtain ⟨M3, hM3, hp⟩ := ob hp
      refine mr_iast C0 hM hM3 dX7_clear_15 (fun H locs hM => ?_)
      refine lv_iinc (v := (y1 + (1 : Int32))) (lv' := [(1, .int (y1 + (1 : Int32))), (0, .ref f0)]) hx hb dX7_clear_16 hl (k := 1) rfl rfl (by decide) rfl (fun ls hl => ?_)
      refine lv_goto (tgt := 2) hx hb dX7_clear_19 (by decide) ?_
      exact ih _ _ _ _ _ hM (lv_sub hl [1, 0] rfl) hp
def pl_X7_clear_24 (k1 : Mem → Option (Mem)) (f0 : Nat) : Nat → Int32 → Mem → Option (Mem)
  | 0, _, _ => none
  | n + 1, y1, M =>
    (if (40 : Int32) ≤ y1 then
     (k1  M)
    else
     (Option.bind (gR 6 0 M f0) fun v6 =>
     (Option.bind (aIs M v6 ((484 : Int32) + y1) (-1 : Int32)) fun M7 =>
     (pl_X7_clear_24 k1 f0 n (y1 + (1 : Int32)) M7)
     )
     )
    )
set_option maxHeartbeats 4000000 in
set_option maxRecDepth 100000 in
theorem wl_X7_clear_24 {G : gG} {p : Program} {l : Launch} {e : Env} {s : State} {m : MethodId} {args : Array Value} {below : List Frame} {meth : Method} {c : Code} {A : Nat → Prop} {M' : Mem} {k1 : Mem → Option (Mem)} {f0 : Nat} (C0 : cx G p s m args c cX7_clear RX7 2 A) (hr : meth.sig.returnType = (none)) (hlk : meth.locks = false) (hG : GOK G) (hk1 : ∀ (M : Mem) (H : Heap) (locs : List Loc) (ls : Array Slot), mm G A s M H locs → lv_has ls 2 [] → k1 M = some M' → W p l e rm_X7_clear s m args below meth c H locs 0 0 (MQ below (CQ G M' none A) args s 0 0 A) (F0 m 47 ls [])) : ∀ (n : Nat) (y1 : Int32) (M : Mem) (H : Heap) (locs : List Loc) (ls : Array Slot), mm G A s M H locs → lv_has ls 2 [(0, .ref f0), (1, .int y1)] → pl_X7_clear_24 k1 f0 n y1 M = some M' → W p l e rm_X7_clear s m args below meth c H locs 0 0 (MQ below (CQ G M' none A) args s 0 0 A) (F0 m 24 ls []) := by
  have hx := C0.1
  have hb := C0.2.1
  have hown := C0.2.2.2.1
  have hts := C0.2.2.2.2.1
  intro n
  induction n with
  | zero => intro y1 M H locs ls hM hl hp; rw [pl_X7_clear_24] at hp; cases hp
  | succ n ih =>
    intro y1 M H locs ls hM hl hp
    rw [pl_X7_clear_24] at hp
    refine lv_iload_n hx hb dX7_clear_24 rfl (lv_at hl 1 rfl) ?_
    refine lv_bipush (v := 40) hx hb dX7_clear_25 (by decide) ?_
    refine lv_icmp_ge (tgt := 47) hx hb dX7_clear_27 (by decide) (fun c5 => ?_) (fun c5 => ?_)
    · replace hp := oT c5 hp
      exact hk1  _ _ _ _ hM (lv_sub hl [] rfl) hp
    · replace hp := oF c5 hp
      refine lv_aload_n hx hb dX7_clear_30 rfl (lv_at hl 0 rfl) ?_
      obtain ⟨v6, hv6, hp⟩ := ob hp
      refine mr_getR C0 cbX7 hM 0 (by decide) tw_1224 hv6 dX7_clear_31 ?_
      refine lv_sipush (v := 484) hx hb dX7_clear_34 (by decide) ?_
      refine lv_iload_n hx hb dX7_clear_37 rfl (lv_at hl 1 rfl) ?_
      refine lv_iadd hx hb dX7_clear_38 ?_
      refine lv_iconst (v := -1) hx hb dX7_clear_39 (by decide) ?_
      obtain ⟨M7, hM7, hp⟩ := ob hp
      refine mr_iast C0 hM hM7 dX7_clear_40 (fun H locs hM => ?_)
      refine lv_iinc (v := (y1 + (1 : Int32))) (lv' := [(1, .int (y1 + (1 : Int32))), (0, .ref f0)]) hx hb dX7_clear_41 hl (k := 1) rfl rfl (by decide) rfl (fun ls hl => ?_)
      refine lv_goto (tgt := 24) hx hb dX7_clear_44 (by decide) ?_
      exact ih _ _ _ _ _ hM (lv_sub hl [1, 0] rfl) hp
def p_X7_clear (a0 : Nat) (M : Mem) : Option (Mem) :=
  (pl_X7_clear_2
   (fun  (M4 : Mem) =>
    (pl_X7_clear_24
     (fun  (M8 : Mem) =>
      some M8
     )
     a0 FU (0 : Int32) M4)
   )
   a0 FU (0 : Int32) M)
theorem yk_X7_clear : yok yX7_clear 0 := by decide +kernel
set_option maxHeartbeats 4000000 in
set_option maxRecDepth 100000 in
theorem w_X7_clear {G : gG} (hG : GOK G) {l : Launch} {a0 : Nat} {M : Mem} {M' : Mem} (hp : p_X7_clear a0 M = some M') : CT G l yX7_clear (wT yX7_clear cX7_clear 2 (none)) rm_X7_clear [.ref a0] M none M' 0 0 := by
  refine CT_of (own := RX7) (maxL := 2) (ret := (none)) hG (by decide) rfl (Nat.le_of_ble_eq_true rfl) (fun p e s m below meth c A C0 hr hlk hM ls hl => ?_)
  have hl : lv_has ls 2 [(0, .ref a0)] := hl
  generalize ([.ref a0] : List Value).toArray = args at C0 ⊢
  skip
  have hx := C0.1
  have hb := C0.2.1
  have hown := C0.2.2.2.1
  have hts := C0.2.2.2.2.1
  unfold p_X7_clear at hp
  refine lv_iconst (v := 0) hx hb dX7_clear_0 (by decide) ?_
  refine lv_istore_n (lv' := [(1, .int (0 : Int32)), (0, .ref a0)]) hx hb dX7_clear_1 rfl hl (by decide) rfl (fun ls hl => ?_)
  refine wl_X7_clear_2 C0 hr hlk hG (fun M4 H locs ls hM hl hp => ?_) FU _ _ _ _ _ hM (lv_sub hl [1, 0] rfl) hp
  refine lv_iconst (v := 0) hx hb dX7_clear_22 (by decide) ?_
  refine lv_istore_n (lv' := [(1, .int (0 : Int32)), (0, .ref a0)]) hx hb dX7_clear_23 rfl hl (by decide) rfl (fun ls hl => ?_)
  refine wl_X7_clear_24 C0 hr hlk hG (fun M8 H locs ls hM hl hp => ?_) FU _ _ _ _ _ hM (lv_sub hl [1, 0] rfl) hp
  exact mr_vret C0 hr hlk hM (Option.some.inj hp) (Nat.le_refl _) (Nat.le_refl _) dX7_clear_47
abbrev rm_X7_thrown : Room := { frames := 0, cells := 0, slots := 0, locals := 0 }
def p_X7_thrown (a0 : Nat) (M : Mem) : Option (Int32) :=
  (Option.bind (gI 6 9 M a0) fun v1 =>
  some v1
  )
theorem yk_X7_thrown : yok yX7_thrown 0 := by decide +kernel
set_option maxHeartbeats 4000000 in
set_option maxRecDepth 100000 in
theorem w_X7_thrown {G : gG} (hG : GOK G) {l : Launch} {a0 : Nat} {M : Mem} {r : Int32} (hp : p_X7_thrown a0 M = some r) : CT G l yX7_thrown (wT yX7_thrown cX7_thrown 1 (some FieldType.int)) rm_X7_thrown [.ref a0] M (some (.int r)) M 0 0 := by
  refine CT_of (own := RX7) (maxL := 1) (ret := (some FieldType.int)) hG (by decide) rfl (Nat.le_of_ble_eq_true rfl) (fun p e s m below meth c A C0 hr hlk hM ls hl => ?_)
  have hl : lv_has ls 1 [(0, .ref a0)] := hl
  generalize ([.ref a0] : List Value).toArray = args at C0 ⊢
  skip
  have hx := C0.1
  have hb := C0.2.1
  have hown := C0.2.2.2.1
  have hts := C0.2.2.2.2.1
  unfold p_X7_thrown at hp
  refine lv_aload_n hx hb dX7_thrown_0 rfl (lv_at hl 0 rfl) ?_
  obtain ⟨v1, hv1, hp⟩ := ob hp
  refine mr_getI C0 cbX7 hM 9 (by decide) tw_1233 hv1 dX7_thrown_1 ?_
  exact mr_iret C0 hr hlk hM rfl (Option.some.inj hp) (Nat.le_refl _) (Nat.le_refl _) dX7_thrown_4
abbrev rm_X7_inRange : Room := { frames := 0, cells := 0, slots := 0, locals := 0 }
def p_X7_inRange (a0 : Int32) (a1 : Int32) (a2 : Int32) (M : Mem) : Option (Int32) :=
  (if a0 < a1 then
   some (0 : Int32)
  else
   (if a2 < a0 then
    some (0 : Int32)
   else
    some (1 : Int32)
   )
  )
theorem yk_X7_inRange : yok yX7_inRange 3 := by decide +kernel
set_option maxHeartbeats 4000000 in
set_option maxRecDepth 100000 in
theorem w_X7_inRange {G : gG} (hG : GOK G) {l : Launch} {a0 : Int32} {a1 : Int32} {a2 : Int32} {M : Mem} {r : Int32} (hp : p_X7_inRange a0 a1 a2 M = some r) : CT G l yX7_inRange (wT yX7_inRange cX7_inRange 3 (some FieldType.boolean)) rm_X7_inRange [.int a0, .int a1, .int a2] M (some (.int r)) M 0 0 := by
  refine CT_of (own := RX7) (maxL := 3) (ret := (some FieldType.boolean)) hG (by decide) rfl (Nat.le_of_ble_eq_true rfl) (fun p e s m below meth c A C0 hr hlk hM ls hl => ?_)
  have hl : lv_has ls 3 [(0, .int a0), (1, .int a1), (2, .int a2)] := hl
  generalize ([.int a0, .int a1, .int a2] : List Value).toArray = args at C0 ⊢
  skip
  have hx := C0.1
  have hb := C0.2.1
  have hown := C0.2.2.2.1
  have hts := C0.2.2.2.2.1
  unfold p_X7_inRange at hp
  refine lv_iload_n hx hb dX7_inRange_0 rfl (lv_at hl 0 rfl) ?_
  refine lv_iload_n hx hb dX7_inRange_1 rfl (lv_at hl 1 rfl) ?_
  refine lv_icmp_lt (tgt := 14) hx hb dX7_inRange_2 (by decide) (fun c1 => ?_) (fun c1 => ?_)
  · replace hp := oT c1 hp
    refine lv_iconst (v := 0) hx hb dX7_inRange_14 (by decide) ?_
    exact mr_zret C0 hr hlk hM rfl (Or.inl rfl) (Option.some.inj hp) (Nat.le_refl _) (Nat.le_refl _) dX7_inRange_15
  · replace hp := oF c1 hp
    refine lv_iload_n hx hb dX7_inRange_5 rfl (lv_at hl 0 rfl) ?_
    refine lv_iload_n hx hb dX7_inRange_6 rfl (lv_at hl 2 rfl) ?_
    refine lv_icmp_gt (tgt := 14) hx hb dX7_inRange_7 (by decide) (fun c2 => ?_) (fun c2 => ?_)
    · replace hp := oT c2 hp
      refine lv_iconst (v := 0) hx hb dX7_inRange_14 (by decide) ?_
      exact mr_zret C0 hr hlk hM rfl (Or.inl rfl) (Option.some.inj hp) (Nat.le_refl _) (Nat.le_refl _) dX7_inRange_15
    · replace hp := oF c2 hp
      refine lv_iconst (v := 1) hx hb dX7_inRange_10 (by decide) ?_
      refine lv_goto (tgt := 15) hx hb dX7_inRange_11 (by decide) ?_
      exact mr_zret C0 hr hlk hM rfl (Or.inr rfl) (Option.some.inj hp) (Nat.le_refl _) (Nat.le_refl _) dX7_inRange_15
abbrev rm_X7_fails : Room := { frames := 0, cells := 0, slots := 0, locals := 0 }
def p_X7_fails (a0 : Nat) (a1 : Int32) (a2 : Int32) (M : Mem) : Option (Int32 × Mem) :=
  (if a1 = 0 then
   (if a1 = 0 ∨ a1 = 1 then some (a1, M) else none)
  else
   (Option.bind (sV 6 9 M a0 (.int a2)) fun M2 =>
   (if a1 = 0 ∨ a1 = 1 then some (a1, M2) else none)
   )
  )
theorem yk_X7_fails : yok yX7_fails 2 := by decide +kernel
set_option maxHeartbeats 4000000 in
set_option maxRecDepth 100000 in
theorem w_X7_fails {G : gG} (hG : GOK G) {l : Launch} {a0 : Nat} {a1 : Int32} {a2 : Int32} {M : Mem} {r : Int32} {M' : Mem} (hp : p_X7_fails a0 a1 a2 M = some (r, M')) : CT G l yX7_fails (wT yX7_fails cX7_fails 3 (some FieldType.boolean)) rm_X7_fails [.ref a0, .int a1, .int a2] M (some (.int r)) M' 0 0 := by
  refine CT_of (own := RX7) (maxL := 3) (ret := (some FieldType.boolean)) hG (by decide) rfl (Nat.le_of_ble_eq_true rfl) (fun p e s m below meth c A C0 hr hlk hM ls hl => ?_)
  have hl : lv_has ls 3 [(0, .ref a0), (1, .int a1), (2, .int a2)] := hl
  generalize ([.ref a0, .int a1, .int a2] : List Value).toArray = args at C0 ⊢
  skip
  have hx := C0.1
  have hb := C0.2.1
  have hown := C0.2.2.2.1
  have hts := C0.2.2.2.2.1
  unfold p_X7_fails at hp
  refine lv_iload_n hx hb dX7_fails_0 rfl (lv_at hl 1 rfl) ?_
  refine lv_if_eq (tgt := 9) hx hb dX7_fails_1 (by decide) (fun c1 => ?_) (fun c1 => ?_)
  · replace hp := oT c1 hp
    refine lv_iload_n hx hb dX7_fails_9 rfl (lv_at hl 1 rfl) ?_
    obtain ⟨hz, hp⟩ := oG hp
    exact mr_zret C0 hr hlk hM (Prod.mk.inj (Option.some.inj hp)).2 hz (Prod.mk.inj (Option.some.inj hp)).1 (Nat.le_refl _) (Nat.le_refl _) dX7_fails_10
  · replace hp := oF c1 hp
    refine lv_aload_n hx hb dX7_fails_4 rfl (lv_at hl 0 rfl) ?_
    refine lv_iload_n hx hb dX7_fails_5 rfl (lv_at hl 2 rfl) ?_
    obtain ⟨M2, hM2, hp⟩ := ob hp
    refine mr_putI C0 cbX7 hM 9 (by decide) rfl rfl tw_1233 hM2 dX7_fails_6 (fun H locs hM => ?_)
    refine lv_iload_n hx hb dX7_fails_9 rfl (lv_at hl 1 rfl) ?_
    obtain ⟨hz, hp⟩ := oG hp
    exact mr_zret C0 hr hlk hM (Prod.mk.inj (Option.some.inj hp)).2 hz (Prod.mk.inj (Option.some.inj hp)).1 (Nat.le_refl _) (Nat.le_refl _) dX7_fails_10
abbrev rm_X7_copies : Room := { frames := 0, cells := 0, slots := 0, locals := 0 }
def pl_X7_copies_3 (k1 : Mem → Option (Mem)) (f0 : Nat) (f1 : Int32) (f2 : Nat) (f3 : Int32) (f4 : Int32) : Nat → Int32 → Mem → Option (Mem)
  | 0, _, _ => none
  | n + 1, y5, M =>
    (if f4 ≤ y5 then
     (k1  M)
    else
     (Option.bind (aI 0 M f0 (f1 + y5)) fun v2 =>
     (Option.bind (aIs M f2 (f3 + y5) v2) fun M3 =>
     (pl_X7_copies_3 k1 f0 f1 f2 f3 f4 n (y5 + (1 : Int32)) M3)
     )
     )
    )
set_option maxHeartbeats 4000000 in
set_option maxRecDepth 100000 in
theorem wl_X7_copies_3 {G : gG} {p : Program} {l : Launch} {e : Env} {s : State} {m : MethodId} {args : Array Value} {below : List Frame} {meth : Method} {c : Code} {A : Nat → Prop} {M' : Mem} {k1 : Mem → Option (Mem)} {f0 : Nat} {f1 : Int32} {f2 : Nat} {f3 : Int32} {f4 : Int32} (C0 : cx G p s m args c cX7_copies RX7 6 A) (hr : meth.sig.returnType = (none)) (hlk : meth.locks = false) (hG : GOK G) (hk1 : ∀ (M : Mem) (H : Heap) (locs : List Loc) (ls : Array Slot), mm G A s M H locs → lv_has ls 6 [] → k1 M = some M' → W p l e rm_X7_copies s m args below meth c H locs 0 0 (MQ below (CQ G M' none A) args s 0 0 A) (F0 m 28 ls [])) : ∀ (n : Nat) (y5 : Int32) (M : Mem) (H : Heap) (locs : List Loc) (ls : Array Slot), mm G A s M H locs → lv_has ls 6 [(0, .ref f0), (1, .int f1), (2, .ref f2), (3, .int f3), (4, .int f4), (5, .int y5)] → pl_X7_copies_3 k1 f0 f1 f2 f3 f4 n y5 M = some M' → W p l e rm_X7_copies s m args below meth c H locs 0 0 (MQ below (CQ G M' none A) args s 0 0 A) (F0 m 3 ls []) := by
  have hx := C0.1
  have hb := C0.2.1
  have hown := C0.2.2.2.1
  have hts := C0.2.2.2.2.1
  intro n
  induction n with
  | zero => intro y5 M H locs ls hM hl hp; rw [pl_X7_copies_3] at hp; cases hp
  | succ n ih =>
    intro y5 M H locs ls hM hl hp
    rw [pl_X7_copies_3] at hp
    refine lv_iload hx hb dX7_copies_3 (lv_at hl 5 rfl) ?_
    refine lv_iload hx hb dX7_copies_5 (lv_at hl 4 rfl) ?_
    refine lv_icmp_ge (tgt := 28) hx hb dX7_copies_7 (by decide) (fun c1 => ?_) (fun c1 => ?_)
    · replace hp := oT c1 hp
      exact hk1  _ _ _ _ hM (lv_sub hl [] rfl) hp
    · replace hp := oF c1 hp
      refine lv_aload_n hx hb dX7_copies_10 rfl (lv_at hl 2 rfl) ?_
      refine lv_iload_n hx hb dX7_copies_11 rfl (lv_at hl 3 rfl) ?_
      refine lv_iload hx hb dX7_copies_12 (lv_at hl 5 rfl) ?_
      refine lv_iadd hx hb dX7_copies_14 ?_
      refine lv_aload_n hx hb dX7_copies_15 rfl (lv_at hl 0 rfl) ?_
      refine lv_iload_n hx hb dX7_copies_16 rfl (lv_at hl 1 rfl) ?_
      refine lv_iload hx hb dX7_copies_17 (lv_at hl 5 rfl) ?_
      refine lv_iadd hx hb dX7_copies_19 ?_
      obtain ⟨v2, hv2, hp⟩ := ob hp
      refine mr_iald C0 hM hv2 dX7_copies_20 ?_
      obtain ⟨M3, hM3, hp⟩ := ob hp
      refine mr_iast C0 hM hM3 dX7_copies_21 (fun H locs hM => ?_)
      refine lv_iinc (v := (y5 + (1 : Int32))) (lv' := [(5, .int (y5 + (1 : Int32))), (0, .ref f0), (1, .int f1), (2, .ref f2), (3, .int f3), (4, .int f4)]) hx hb dX7_copies_22 hl (k := 5) rfl rfl (by decide) rfl (fun ls hl => ?_)
      refine lv_goto (tgt := 3) hx hb dX7_copies_25 (by decide) ?_
      exact ih _ _ _ _ _ hM (lv_sub hl [1, 2, 3, 4, 5, 0] rfl) hp
def p_X7_copies (a0 : Nat) (a1 : Int32) (a2 : Nat) (a3 : Int32) (a4 : Int32) (M : Mem) : Option (Mem) :=
  (pl_X7_copies_3
   (fun  (M4 : Mem) =>
    some M4
   )
   a0 a1 a2 a3 a4 FU (0 : Int32) M)
theorem yk_X7_copies : yok yX7_copies 5 := by decide +kernel
set_option maxHeartbeats 4000000 in
set_option maxRecDepth 100000 in
theorem w_X7_copies {G : gG} (hG : GOK G) {l : Launch} {a0 : Nat} {a1 : Int32} {a2 : Nat} {a3 : Int32} {a4 : Int32} {M : Mem} {M' : Mem} (hp : p_X7_copies a0 a1 a2 a3 a4 M = some M') : CT G l yX7_copies (wT yX7_copies cX7_copies 6 (none)) rm_X7_copies [.ref a0, .int a1, .ref a2, .int a3, .int a4] M none M' 0 0 := by
  refine CT_of (own := RX7) (maxL := 6) (ret := (none)) hG (by decide) rfl (Nat.le_of_ble_eq_true rfl) (fun p e s m below meth c A C0 hr hlk hM ls hl => ?_)
  have hl : lv_has ls 6 [(0, .ref a0), (1, .int a1), (2, .ref a2), (3, .int a3), (4, .int a4)] := hl
  generalize ([.ref a0, .int a1, .ref a2, .int a3, .int a4] : List Value).toArray = args at C0 ⊢
  skip
  have hx := C0.1
  have hb := C0.2.1
  have hown := C0.2.2.2.1
  have hts := C0.2.2.2.2.1
  unfold p_X7_copies at hp
  refine lv_iconst (v := 0) hx hb dX7_copies_0 (by decide) ?_
  refine lv_istore (lv' := [(5, .int (0 : Int32)), (0, .ref a0), (1, .int a1), (2, .ref a2), (3, .int a3), (4, .int a4)]) hx hb dX7_copies_1 hl (by decide) rfl (fun ls hl => ?_)
  refine wl_X7_copies_3 C0 hr hlk hG (fun M4 H locs ls hM hl hp => ?_) FU _ _ _ _ _ hM (lv_sub hl [1, 2, 3, 4, 5, 0] rfl) hp
  exact mr_vret C0 hr hlk hM (Option.some.inj hp) (Nat.le_refl _) (Nat.le_refl _) dX7_copies_28
abbrev rm_X7_remembers : Room := { frames := 1, cells := 0, slots := 0, locals := 25 }
def p_X7_remembers (a0 : Nat) (M : Mem) : Option (Mem) :=
  (Option.bind (gI 6 5 M a0) fun v1 =>
  (jn (fun  (M2 : Mem) =>
   (Option.bind (gR 6 0 M2 a0) fun v4 =>
   (Option.bind (gR 6 4 M2 a0) fun v5 =>
   (Option.bind (gI 6 5 M2 a0) fun v6 =>
   (Option.bind (p_X7_copies v4 (0 : Int32) v5 ((764 : Int32) * v6) (764 : Int32) M2) fun M7 =>
   (Option.bind (gI 6 5 M7 a0) fun v8 =>
   (Option.bind (sV 6 5 M7 a0 (.int (v8 + (1 : Int32)))) fun M9 =>
   some M9
   )
   )
   )
   )
   )
   )
  ) fun k3 =>
  (if v1 = (10 : Int32) then
   (Option.bind (gR 6 4 M a0) fun v11 =>
   (Option.bind (gR 6 4 M a0) fun v12 =>
   (Option.bind (p_X7_copies v11 (764 : Int32) v12 (0 : Int32) (6876 : Int32) M) fun M13 =>
   (Option.bind (gI 6 5 M13 a0) fun v14 =>
   (Option.bind (sV 6 5 M13 a0 (.int (v14 - (1 : Int32)))) fun M15 =>
   (k3  M15)
   )
   )
   )
   )
   )
  else
   (k3  M)
  )
  )
  )
theorem yk_X7_remembers : yok yX7_remembers 0 := by decide +kernel
set_option maxHeartbeats 4000000 in
set_option maxRecDepth 100000 in
theorem w_X7_remembers {G : gG} (hG : GOK G) {l : Launch} {a0 : Nat} {M : Mem} {M' : Mem} (hp : p_X7_remembers a0 M = some M') : CT G l yX7_remembers (wT yX7_remembers cX7_remembers 1 (none)) rm_X7_remembers [.ref a0] M none M' 0 0 := by
  refine CT_of (own := RX7) (maxL := 1) (ret := (none)) hG (by decide) rfl (Nat.le_of_ble_eq_true rfl) (fun p e s m below meth c A C0 hr hlk hM ls hl => ?_)
  have hl : lv_has ls 1 [(0, .ref a0)] := hl
  generalize ([.ref a0] : List Value).toArray = args at C0 ⊢
  skip
  have hx := C0.1
  have hb := C0.2.1
  have hown := C0.2.2.2.1
  have hts := C0.2.2.2.2.1
  unfold p_X7_remembers at hp
  refine lv_aload_n hx hb dX7_remembers_0 rfl (lv_at hl 0 rfl) ?_
  obtain ⟨v1, hv1, hp⟩ := ob hp
  refine mr_getI C0 cbX7 hM 5 (by decide) tw_1229 hv1 dX7_remembers_1 ?_
  refine lv_bipush (v := 10) hx hb dX7_remembers_4 (by decide) ?_
  obtain ⟨k3, ek3, hp⟩ := ojn hp
  have hk3 : ∀ (M2 : Mem) (H : Heap) (locs : List Loc) (ls : Array Slot), mm G A s M2 H locs → lv_has ls 1 [(0, .ref a0)] → k3  M2 = some M' → W p l e rm_X7_remembers s m args below meth c H locs 0 0 (MQ below (CQ G M' none A) args s 0 0 A) (F0 m 37 ls []) := by
    intro  M2 H locs ls hM hl hp
    rw [ek3] at hp
    refine lv_aload_n hx hb dX7_remembers_37 rfl (lv_at hl 0 rfl) ?_
    obtain ⟨v4, hv4, hp⟩ := ob hp
    refine mr_getR C0 cbX7 hM 0 (by decide) tw_1224 hv4 dX7_remembers_38 ?_
    refine lv_iconst (v := 0) hx hb dX7_remembers_41 (by decide) ?_
    refine lv_aload_n hx hb dX7_remembers_42 rfl (lv_at hl 0 rfl) ?_
    obtain ⟨v5, hv5, hp⟩ := ob hp
    refine mr_getR C0 cbX7 hM 4 (by decide) tw_1228 hv5 dX7_remembers_43 ?_
    refine lv_sipush (v := 764) hx hb dX7_remembers_46 (by decide) ?_
    refine lv_aload_n hx hb dX7_remembers_49 rfl (lv_at hl 0 rfl) ?_
    obtain ⟨v6, hv6, hp⟩ := ob hp
    refine mr_getI C0 cbX7 hM 5 (by decide) tw_1229 hv6 dX7_remembers_50 ?_
    refine lv_imul hx hb dX7_remembers_53 ?_
    refine lv_sipush (v := 764) hx hb dX7_remembers_54 (by decide) ?_
    obtain ⟨M7, hM7, hp⟩ := ob hp
    refine mr_S0 (As := [.ref v4, .int (0 : Int32), .ref v5, .int ((764 : Int32) * v6), .int (764 : Int32)]) (rest := []) C0 hM (w_X7_copies hG hM7) tw_1332 tw_1333 tw_7 tw_1334 yk_X7_copies (by decide) rfl hl.1 (Nat.le_of_ble_eq_true rfl) dX7_remembers_57 rfl (fun H locs hM => ?_)
    refine lv_aload_n hx hb dX7_remembers_60 rfl (lv_at hl 0 rfl) ?_
    refine lv_dup hx hb dX7_remembers_61 rfl ?_
    obtain ⟨v8, hv8, hp⟩ := ob hp
    refine mr_getI C0 cbX7 hM 5 (by decide) tw_1229 hv8 dX7_remembers_62 ?_
    refine lv_iconst (v := 1) hx hb dX7_remembers_65 (by decide) ?_
    refine lv_iadd hx hb dX7_remembers_66 ?_
    obtain ⟨M9, hM9, hp⟩ := ob hp
    refine mr_putI C0 cbX7 hM 5 (by decide) rfl rfl tw_1229 hM9 dX7_remembers_67 (fun H locs hM => ?_)
    exact mr_vret C0 hr hlk hM (Option.some.inj hp) (Nat.le_refl _) (Nat.le_refl _) dX7_remembers_70
  refine lv_icmp_ne (tgt := 37) hx hb dX7_remembers_6 (by decide) (fun c10 => ?_) (fun c10 => ?_)
  · replace hp := oF c10 hp
    exact hk3  _ _ _ _ hM (lv_sub hl [0] rfl) hp
  · replace hp := oT c10 hp
    refine lv_aload_n hx hb dX7_remembers_9 rfl (lv_at hl 0 rfl) ?_
    obtain ⟨v11, hv11, hp⟩ := ob hp
    refine mr_getR C0 cbX7 hM 4 (by decide) tw_1228 hv11 dX7_remembers_10 ?_
    refine lv_sipush (v := 764) hx hb dX7_remembers_13 (by decide) ?_
    refine lv_aload_n hx hb dX7_remembers_16 rfl (lv_at hl 0 rfl) ?_
    obtain ⟨v12, hv12, hp⟩ := ob hp
    refine mr_getR C0 cbX7 hM 4 (by decide) tw_1228 hv12 dX7_remembers_17 ?_
    refine lv_iconst (v := 0) hx hb dX7_remembers_20 (by decide) ?_
    refine lv_sipush (v := 6876) hx hb dX7_remembers_21 (by decide) ?_
    obtain ⟨M13, hM13, hp⟩ := ob hp
    refine mr_S0 (As := [.ref v11, .int (764 : Int32), .ref v12, .int (0 : Int32), .int (6876 : Int32)]) (rest := []) C0 hM (w_X7_copies hG hM13) tw_1332 tw_1333 tw_7 tw_1334 yk_X7_copies (by decide) rfl hl.1 (Nat.le_of_ble_eq_true rfl) dX7_remembers_24 rfl (fun H locs hM => ?_)
    refine lv_aload_n hx hb dX7_remembers_27 rfl (lv_at hl 0 rfl) ?_
    refine lv_dup hx hb dX7_remembers_28 rfl ?_
    obtain ⟨v14, hv14, hp⟩ := ob hp
    refine mr_getI C0 cbX7 hM 5 (by decide) tw_1229 hv14 dX7_remembers_29 ?_
    refine lv_iconst (v := 1) hx hb dX7_remembers_32 (by decide) ?_
    refine lv_isub hx hb dX7_remembers_33 ?_
    obtain ⟨M15, hM15, hp⟩ := ob hp
    refine mr_putI C0 cbX7 hM 5 (by decide) rfl rfl tw_1229 hM15 dX7_remembers_34 (fun H locs hM => ?_)
    exact hk3  _ _ _ _ hM (lv_sub hl [0] rfl) hp
abbrev rm_X7_hasPupil : Room := { frames := 0, cells := 0, slots := 0, locals := 0 }
def pl_X7_hasPupil_2 (k1 : Unit → Option (Int32)) (k2 : Unit → Option (Int32)) (f0 : Nat) (f1 : Int32) (f2 : Int32) (M : Mem) : Nat → Int32 → Option (Int32)
  | 0, _ => none
  | n + 1, y3 =>
    (Option.bind (gR 6 0 M f0) fun v1 =>
    (Option.bind (aI 0 M v1 (2 : Int32)) fun v2 =>
    (if v2 ≤ y3 then
     (k2 ())
    else
     (Option.bind (gR 6 0 M f0) fun v4 =>
     (Option.bind (aI 0 M v4 ((724 : Int32) + ((2 : Int32) * y3))) fun v5 =>
     (if v5 = f1 then
      (Option.bind (gR 6 0 M f0) fun v7 =>
      (Option.bind (aI 0 M v7 (((724 : Int32) + ((2 : Int32) * y3)) + (1 : Int32))) fun v8 =>
      (if v8 = f2 then
       (k1 ())
      else
       (pl_X7_hasPupil_2 k1 k2 f0 f1 f2 M n (y3 + (1 : Int32)))
      )
      )
      )
     else
      (pl_X7_hasPupil_2 k1 k2 f0 f1 f2 M n (y3 + (1 : Int32)))
     )
     )
     )
    )
    )
    )
set_option maxHeartbeats 4000000 in
set_option maxRecDepth 100000 in
theorem wl_X7_hasPupil_2 {G : gG} {p : Program} {l : Launch} {e : Env} {s : State} {m : MethodId} {args : Array Value} {below : List Frame} {meth : Method} {c : Code} {A : Nat → Prop} {r : Int32} {k1 : Unit → Option (Int32)} {k2 : Unit → Option (Int32)} {f0 : Nat} {f1 : Int32} {f2 : Int32} {M : Mem} (C0 : cx G p s m args c cX7_hasPupil RX7 4 A) (hr : meth.sig.returnType = (some FieldType.boolean)) (hlk : meth.locks = false) (hG : GOK G) (hk1 : ∀ (H : Heap) (locs : List Loc) (ls : Array Slot), mm G A s M H locs → lv_has ls 4 [] → k1 () = some r → W p l e rm_X7_hasPupil s m args below meth c H locs 0 0 (MQ below (CQ G M (some (.int r)) A) args s 0 0 A) (F0 m 46 ls [])) (hk2 : ∀ (H : Heap) (locs : List Loc) (ls : Array Slot), mm G A s M H locs → lv_has ls 4 [] → k2 () = some r → W p l e rm_X7_hasPupil s m args below meth c H locs 0 0 (MQ below (CQ G M (some (.int r)) A) args s 0 0 A) (F0 m 54 ls [])) : ∀ (n : Nat) (y3 : Int32) (H : Heap) (locs : List Loc) (ls : Array Slot), mm G A s M H locs → lv_has ls 4 [(0, .ref f0), (1, .int f1), (2, .int f2), (3, .int y3)] → pl_X7_hasPupil_2 k1 k2 f0 f1 f2 M n y3 = some r → W p l e rm_X7_hasPupil s m args below meth c H locs 0 0 (MQ below (CQ G M (some (.int r)) A) args s 0 0 A) (F0 m 2 ls []) := by
  have hx := C0.1
  have hb := C0.2.1
  have hown := C0.2.2.2.1
  have hts := C0.2.2.2.2.1
  intro n
  induction n with
  | zero => intro y3 H locs ls hM hl hp; rw [pl_X7_hasPupil_2] at hp; cases hp
  | succ n ih =>
    intro y3 H locs ls hM hl hp
    rw [pl_X7_hasPupil_2] at hp
    refine lv_iload_n hx hb dX7_hasPupil_2 rfl (lv_at hl 3 rfl) ?_
    refine lv_aload_n hx hb dX7_hasPupil_3 rfl (lv_at hl 0 rfl) ?_
    obtain ⟨v1, hv1, hp⟩ := ob hp
    refine mr_getR C0 cbX7 hM 0 (by decide) tw_1224 hv1 dX7_hasPupil_4 ?_
    refine lv_iconst (v := 2) hx hb dX7_hasPupil_7 (by decide) ?_
    obtain ⟨v2, hv2, hp⟩ := ob hp
    refine mr_iald C0 hM hv2 dX7_hasPupil_8 ?_
    refine lv_icmp_ge (tgt := 54) hx hb dX7_hasPupil_9 (by decide) (fun c3 => ?_) (fun c3 => ?_)
    · replace hp := oT c3 hp
      exact hk2  _ _ _ hM (lv_sub hl [] rfl) hp
    · replace hp := oF c3 hp
      refine lv_aload_n hx hb dX7_hasPupil_12 rfl (lv_at hl 0 rfl) ?_
      obtain ⟨v4, hv4, hp⟩ := ob hp
      refine mr_getR C0 cbX7 hM 0 (by decide) tw_1224 hv4 dX7_hasPupil_13 ?_
      refine lv_sipush (v := 724) hx hb dX7_hasPupil_16 (by decide) ?_
      refine lv_iconst (v := 2) hx hb dX7_hasPupil_19 (by decide) ?_
      refine lv_iload_n hx hb dX7_hasPupil_20 rfl (lv_at hl 3 rfl) ?_
      refine lv_imul hx hb dX7_hasPupil_21 ?_
      refine lv_iadd hx hb dX7_hasPupil_22 ?_
      obtain ⟨v5, hv5, hp⟩ := ob hp
      refine mr_iald C0 hM hv5 dX7_hasPupil_23 ?_
      refine lv_iload_n hx hb dX7_hasPupil_24 rfl (lv_at hl 1 rfl) ?_
      refine lv_icmp_ne (tgt := 48) hx hb dX7_hasPupil_25 (by decide) (fun c6 => ?_) (fun c6 => ?_)
      · replace hp := oF c6 hp
        refine lv_iinc (v := (y3 + (1 : Int32))) (lv' := [(3, .int (y3 + (1 : Int32))), (0, .ref f0), (1, .int f1), (2, .int f2)]) hx hb dX7_hasPupil_48 hl (k := 3) rfl rfl (by decide) rfl (fun ls hl => ?_)
        refine lv_goto (tgt := 2) hx hb dX7_hasPupil_51 (by decide) ?_
        exact ih _ _ _ _ hM (lv_sub hl [1, 2, 3, 0] rfl) hp
      · replace hp := oT c6 hp
        refine lv_aload_n hx hb dX7_hasPupil_28 rfl (lv_at hl 0 rfl) ?_
        obtain ⟨v7, hv7, hp⟩ := ob hp
        refine mr_getR C0 cbX7 hM 0 (by decide) tw_1224 hv7 dX7_hasPupil_29 ?_
        refine lv_sipush (v := 724) hx hb dX7_hasPupil_32 (by decide) ?_
        refine lv_iconst (v := 2) hx hb dX7_hasPupil_35 (by decide) ?_
        refine lv_iload_n hx hb dX7_hasPupil_36 rfl (lv_at hl 3 rfl) ?_
        refine lv_imul hx hb dX7_hasPupil_37 ?_
        refine lv_iadd hx hb dX7_hasPupil_38 ?_
        refine lv_iconst (v := 1) hx hb dX7_hasPupil_39 (by decide) ?_
        refine lv_iadd hx hb dX7_hasPupil_40 ?_
        obtain ⟨v8, hv8, hp⟩ := ob hp
        refine mr_iald C0 hM hv8 dX7_hasPupil_41 ?_
        refine lv_iload_n hx hb dX7_hasPupil_42 rfl (lv_at hl 2 rfl) ?_
        refine lv_icmp_ne (tgt := 48) hx hb dX7_hasPupil_43 (by decide) (fun c9 => ?_) (fun c9 => ?_)
        · replace hp := oF c9 hp
          refine lv_iinc (v := (y3 + (1 : Int32))) (lv' := [(3, .int (y3 + (1 : Int32))), (0, .ref f0), (1, .int f1), (2, .int f2)]) hx hb dX7_hasPupil_48 hl (k := 3) rfl rfl (by decide) rfl (fun ls hl => ?_)
          refine lv_goto (tgt := 2) hx hb dX7_hasPupil_51 (by decide) ?_
          exact ih _ _ _ _ hM (lv_sub hl [1, 2, 3, 0] rfl) hp
        · replace hp := oT c9 hp
          exact hk1  _ _ _ hM (lv_sub hl [] rfl) hp
def p_X7_hasPupil (a0 : Nat) (a1 : Int32) (a2 : Int32) (M : Mem) : Option (Int32) :=
  (pl_X7_hasPupil_2
   (fun (_ : Unit) =>
    some (1 : Int32)
   )
   (fun (_ : Unit) =>
    some (0 : Int32)
   )
   a0 a1 a2 M FU (0 : Int32))
theorem yk_X7_hasPupil : yok yX7_hasPupil 2 := by decide +kernel
set_option maxHeartbeats 4000000 in
set_option maxRecDepth 100000 in
theorem w_X7_hasPupil {G : gG} (hG : GOK G) {l : Launch} {a0 : Nat} {a1 : Int32} {a2 : Int32} {M : Mem} {r : Int32} (hp : p_X7_hasPupil a0 a1 a2 M = some r) : CT G l yX7_hasPupil (wT yX7_hasPupil cX7_hasPupil 4 (some FieldType.boolean)) rm_X7_hasPupil [.ref a0, .int a1, .int a2] M (some (.int r)) M 0 0 := by
  refine CT_of (own := RX7) (maxL := 4) (ret := (some FieldType.boolean)) hG (by decide) rfl (Nat.le_of_ble_eq_true rfl) (fun p e s m below meth c A C0 hr hlk hM ls hl => ?_)
  have hl : lv_has ls 4 [(0, .ref a0), (1, .int a1), (2, .int a2)] := hl
  generalize ([.ref a0, .int a1, .int a2] : List Value).toArray = args at C0 ⊢
  skip
  have hx := C0.1
  have hb := C0.2.1
  have hown := C0.2.2.2.1
  have hts := C0.2.2.2.2.1
  unfold p_X7_hasPupil at hp
  refine lv_iconst (v := 0) hx hb dX7_hasPupil_0 (by decide) ?_
  refine lv_istore_n (lv' := [(3, .int (0 : Int32)), (0, .ref a0), (1, .int a1), (2, .int a2)]) hx hb dX7_hasPupil_1 rfl hl (by decide) rfl (fun ls hl => ?_)
  refine wl_X7_hasPupil_2 C0 hr hlk hG (fun  H locs ls hM hl hp => ?_) (fun  H locs ls hM hl hp => ?_) FU _ _ _ _ hM (lv_sub hl [1, 2, 3, 0] rfl) hp
  · refine lv_iconst (v := 1) hx hb dX7_hasPupil_46 (by decide) ?_
    exact mr_zret C0 hr hlk hM rfl (Or.inr rfl) (Option.some.inj hp) (Nat.le_refl _) (Nat.le_refl _) dX7_hasPupil_47
  · refine lv_iconst (v := 0) hx hb dX7_hasPupil_54 (by decide) ?_
    exact mr_zret C0 hr hlk hM rfl (Or.inl rfl) (Option.some.inj hp) (Nat.le_refl _) (Nat.le_refl _) dX7_hasPupil_55
abbrev rm_X7_isInZone : Room := { frames := 1, cells := 0, slots := 0, locals := 22 }
def p_X7_isInZone (a0 : Nat) (a1 : Int32) (a2 : Int32) (M : Mem) : Option (Int32) :=
  (Option.bind (gR 6 0 M a0) fun v1 =>
  (Option.bind (aI 0 M v1 ((52 : Int32) + a2)) fun v2 =>
  (if v2 = (1 : Int32) then
   (Option.bind (gR 6 0 M a0) fun v4 =>
   (Option.bind (aI 0 M v4 ((124 : Int32) + a1)) fun v5 =>
   (Option.bind (gR 6 0 M a0) fun v6 =>
   (Option.bind (aI 0 M v6 ((92 : Int32) + ((4 : Int32) * a2))) fun v7 =>
   (Option.bind (gR 6 0 M a0) fun v8 =>
   (Option.bind (aI 0 M v8 (((92 : Int32) + ((4 : Int32) * a2)) + (2 : Int32))) fun v9 =>
   (Option.bind (p_X7_inRange v5 v7 v9 M) fun v10 =>
   (if v10 = 0 then
    some (0 : Int32)
   else
    (Option.bind (gR 6 0 M a0) fun v12 =>
    (Option.bind (aI 0 M v12 ((164 : Int32) + a1)) fun v13 =>
    (Option.bind (gR 6 0 M a0) fun v14 =>
    (Option.bind (aI 0 M v14 (((92 : Int32) + ((4 : Int32) * a2)) + (1 : Int32))) fun v15 =>
    (Option.bind (gR 6 0 M a0) fun v16 =>
    (Option.bind (aI 0 M v16 (((92 : Int32) + ((4 : Int32) * a2)) + (3 : Int32))) fun v17 =>
    (Option.bind (p_X7_inRange v13 v15 v17 M) fun v18 =>
    (if v18 = 0 then
     some (0 : Int32)
    else
     some (1 : Int32)
    )
    )
    )
    )
    )
    )
    )
    )
   )
   )
   )
   )
   )
   )
   )
   )
  else
   some (0 : Int32)
  )
  )
  )
theorem yk_X7_isInZone : yok yX7_isInZone 2 := by decide +kernel
set_option maxHeartbeats 4000000 in
set_option maxRecDepth 100000 in
theorem w_X7_isInZone {G : gG} (hG : GOK G) {l : Launch} {a0 : Nat} {a1 : Int32} {a2 : Int32} {M : Mem} {r : Int32} (hp : p_X7_isInZone a0 a1 a2 M = some r) : CT G l yX7_isInZone (wT yX7_isInZone cX7_isInZone 4 (some FieldType.boolean)) rm_X7_isInZone [.ref a0, .int a1, .int a2] M (some (.int r)) M 0 0 := by
  refine CT_of (own := RX7) (maxL := 4) (ret := (some FieldType.boolean)) hG (by decide) rfl (Nat.le_of_ble_eq_true rfl) (fun p e s m below meth c A C0 hr hlk hM ls hl => ?_)
  have hl : lv_has ls 4 [(0, .ref a0), (1, .int a1), (2, .int a2)] := hl
  generalize ([.ref a0, .int a1, .int a2] : List Value).toArray = args at C0 ⊢
  skip
  have hx := C0.1
  have hb := C0.2.1
  have hown := C0.2.2.2.1
  have hts := C0.2.2.2.2.1
  unfold p_X7_isInZone at hp
  refine lv_bipush (v := 92) hx hb dX7_isInZone_0 (by decide) ?_
  refine lv_iconst (v := 4) hx hb dX7_isInZone_2 (by decide) ?_
  refine lv_iload_n hx hb dX7_isInZone_3 rfl (lv_at hl 2 rfl) ?_
  refine lv_imul hx hb dX7_isInZone_4 ?_
  refine lv_iadd hx hb dX7_isInZone_5 ?_
  refine lv_istore_n (lv' := [(3, .int ((92 : Int32) + ((4 : Int32) * a2))), (0, .ref a0), (1, .int a1), (2, .int a2)]) hx hb dX7_isInZone_6 rfl hl (by decide) rfl (fun ls hl => ?_)
  refine lv_aload_n hx hb dX7_isInZone_7 rfl (lv_at hl 1 rfl) ?_
  obtain ⟨v1, hv1, hp⟩ := ob hp
  refine mr_getR C0 cbX7 hM 0 (by decide) tw_1224 hv1 dX7_isInZone_8 ?_
  refine lv_bipush (v := 52) hx hb dX7_isInZone_11 (by decide) ?_
  refine lv_iload_n hx hb dX7_isInZone_13 rfl (lv_at hl 3 rfl) ?_
  refine lv_iadd hx hb dX7_isInZone_14 ?_
  obtain ⟨v2, hv2, hp⟩ := ob hp
  refine mr_iald C0 hM hv2 dX7_isInZone_15 ?_
  refine lv_iconst (v := 1) hx hb dX7_isInZone_16 (by decide) ?_
  refine lv_icmp_ne (tgt := 85) hx hb dX7_isInZone_17 (by decide) (fun c3 => ?_) (fun c3 => ?_)
  · replace hp := oF c3 hp
    refine lv_iconst (v := 0) hx hb dX7_isInZone_85 (by decide) ?_
    exact mr_zret C0 hr hlk hM rfl (Or.inl rfl) (Option.some.inj hp) (Nat.le_refl _) (Nat.le_refl _) dX7_isInZone_86
  · replace hp := oT c3 hp
    refine lv_aload_n hx hb dX7_isInZone_20 rfl (lv_at hl 1 rfl) ?_
    obtain ⟨v4, hv4, hp⟩ := ob hp
    refine mr_getR C0 cbX7 hM 0 (by decide) tw_1224 hv4 dX7_isInZone_21 ?_
    refine lv_bipush (v := 124) hx hb dX7_isInZone_24 (by decide) ?_
    refine lv_iload_n hx hb dX7_isInZone_26 rfl (lv_at hl 2 rfl) ?_
    refine lv_iadd hx hb dX7_isInZone_27 ?_
    obtain ⟨v5, hv5, hp⟩ := ob hp
    refine mr_iald C0 hM hv5 dX7_isInZone_28 ?_
    refine lv_aload_n hx hb dX7_isInZone_29 rfl (lv_at hl 1 rfl) ?_
    obtain ⟨v6, hv6, hp⟩ := ob hp
    refine mr_getR C0 cbX7 hM 0 (by decide) tw_1224 hv6 dX7_isInZone_30 ?_
    refine lv_iload_n hx hb dX7_isInZone_33 rfl (lv_at hl 0 rfl) ?_
    obtain ⟨v7, hv7, hp⟩ := ob hp
    refine mr_iald C0 hM hv7 dX7_isInZone_34 ?_
    refine lv_aload_n hx hb dX7_isInZone_35 rfl (lv_at hl 1 rfl) ?_
    obtain ⟨v8, hv8, hp⟩ := ob hp
    refine mr_getR C0 cbX7 hM 0 (by decide) tw_1224 hv8 dX7_isInZone_36 ?_
    refine lv_iload_n hx hb dX7_isInZone_39 rfl (lv_at hl 0 rfl) ?_
    refine lv_iconst (v := 2) hx hb dX7_isInZone_40 (by decide) ?_
    refine lv_iadd hx hb dX7_isInZone_41 ?_
    obtain ⟨v9, hv9, hp⟩ := ob hp
    refine mr_iald C0 hM hv9 dX7_isInZone_42 ?_
    obtain ⟨v10, hv10, hp⟩ := ob hp
    refine mr_S1 (As := [.int v5, .int v7, .int v9]) (rest := []) C0 hM (w_X7_inRange hG hv10) tw_1325 tw_1326 tw_7 tw_1327 yk_X7_inRange (by decide) rfl hl.1 (Nat.le_of_ble_eq_true rfl) dX7_isInZone_43 rfl (fun H locs hM => ?_)
    refine lv_if_eq (tgt := 85) hx hb dX7_isInZone_46 (by decide) (fun c11 => ?_) (fun c11 => ?_)
    · replace hp := oT c11 hp
      refine lv_iconst (v := 0) hx hb dX7_isInZone_85 (by decide) ?_
      exact mr_zret C0 hr hlk hM rfl (Or.inl rfl) (Option.some.inj hp) (Nat.le_refl _) (Nat.le_refl _) dX7_isInZone_86
    · replace hp := oF c11 hp
      refine lv_aload_n hx hb dX7_isInZone_49 rfl (lv_at hl 1 rfl) ?_
      obtain ⟨v12, hv12, hp⟩ := ob hp
      refine mr_getR C0 cbX7 hM 0 (by decide) tw_1224 hv12 dX7_isInZone_50 ?_
      refine lv_sipush (v := 164) hx hb dX7_isInZone_53 (by decide) ?_
      refine lv_iload_n hx hb dX7_isInZone_56 rfl (lv_at hl 2 rfl) ?_
      refine lv_iadd hx hb dX7_isInZone_57 ?_
      obtain ⟨v13, hv13, hp⟩ := ob hp
      refine mr_iald C0 hM hv13 dX7_isInZone_58 ?_
      refine lv_aload_n hx hb dX7_isInZone_59 rfl (lv_at hl 1 rfl) ?_
      obtain ⟨v14, hv14, hp⟩ := ob hp
      refine mr_getR C0 cbX7 hM 0 (by decide) tw_1224 hv14 dX7_isInZone_60 ?_
      refine lv_iload_n hx hb dX7_isInZone_63 rfl (lv_at hl 0 rfl) ?_
      refine lv_iconst (v := 1) hx hb dX7_isInZone_64 (by decide) ?_
      refine lv_iadd hx hb dX7_isInZone_65 ?_
      obtain ⟨v15, hv15, hp⟩ := ob hp
      refine mr_iald C0 hM hv15 dX7_isInZone_66 ?_
      refine lv_aload_n hx hb dX7_isInZone_67 rfl (lv_at hl 1 rfl) ?_
      obtain ⟨v16, hv16, hp⟩ := ob hp
      refine mr_getR C0 cbX7 hM 0 (by decide) tw_1224 hv16 dX7_isInZone_68 ?_
      refine lv_iload_n hx hb dX7_isInZone_71 rfl (lv_at hl 0 rfl) ?_
      refine lv_iconst (v := 3) hx hb dX7_isInZone_72 (by decide) ?_
      refine lv_iadd hx hb dX7_isInZone_73 ?_
      obtain ⟨v17, hv17, hp⟩ := ob hp
      refine mr_iald C0 hM hv17 dX7_isInZone_74 ?_
      obtain ⟨v18, hv18, hp⟩ := ob hp
      refine mr_S1 (As := [.int v13, .int v15, .int v17]) (rest := []) C0 hM (w_X7_inRange hG hv18) tw_1325 tw_1326 tw_7 tw_1327 yk_X7_inRange (by decide) rfl hl.1 (Nat.le_of_ble_eq_true rfl) dX7_isInZone_75 rfl (fun H locs hM => ?_)
      refine lv_if_eq (tgt := 85) hx hb dX7_isInZone_78 (by decide) (fun c19 => ?_) (fun c19 => ?_)
      · replace hp := oT c19 hp
        refine lv_iconst (v := 0) hx hb dX7_isInZone_85 (by decide) ?_
        exact mr_zret C0 hr hlk hM rfl (Or.inl rfl) (Option.some.inj hp) (Nat.le_refl _) (Nat.le_refl _) dX7_isInZone_86
      · replace hp := oF c19 hp
        refine lv_iconst (v := 1) hx hb dX7_isInZone_81 (by decide) ?_
        refine lv_goto (tgt := 86) hx hb dX7_isInZone_82 (by decide) ?_
        exact mr_zret C0 hr hlk hM rfl (Or.inr rfl) (Option.some.inj hp) (Nat.le_refl _) (Nat.le_refl _) dX7_isInZone_86
abbrev rm_X7_meetsRule : Room := { frames := 2, cells := 0, slots := 0, locals := 45 }
def p_X7_meetsRule (a0 : Nat) (a1 : Int32) (a2 : Int32) (a3 : Int32) (M : Mem) : Option (Int32) :=
  (if a3 = 0 then
   (Option.bind (gR 6 0 M a0) fun v13 =>
   (Option.bind (aI 0 M v13 ((244 : Int32) + a1)) fun v14 =>
   (if v14 = (1 : Int32) then
    some (1 : Int32)
   else
    some (0 : Int32)
   )
   )
   )
  else
   (if a3 = (1 : Int32) then
    (Option.bind (gR 6 0 M a0) fun v5 =>
    (Option.bind (aI 0 M v5 ((204 : Int32) + a1)) fun v6 =>
    (if v6 = 0 then
     some (0 : Int32)
    else
     (Option.bind (gR 6 0 M a0) fun v8 =>
     (Option.bind (aI 0 M v8 ((204 : Int32) + a1)) fun v9 =>
     (Option.bind (isC 6 M a0) fun _ =>
     (Option.bind (p_X7_hasPupil a0 v9 a2 M) fun v11 =>
     (if v11 = 0 then
      some (0 : Int32)
     else
      some (1 : Int32)
     )
     )
     )
     )
     )
    )
    )
    )
   else
    (Option.bind (isC 6 M a0) fun _ =>
    (Option.bind (p_X7_isInZone a0 a1 a2 M) fun v4 =>
    (if v4 = 0 ∨ v4 = 1 then some v4 else none)
    )
    )
   )
  )
theorem yk_X7_meetsRule : yok yX7_meetsRule 3 := by decide +kernel
set_option maxHeartbeats 4000000 in
set_option maxRecDepth 100000 in
theorem w_X7_meetsRule {G : gG} (hG : GOK G) {l : Launch} {a0 : Nat} {a1 : Int32} {a2 : Int32} {a3 : Int32} {M : Mem} {r : Int32} (hp : p_X7_meetsRule a0 a1 a2 a3 M = some r) : CT G l yX7_meetsRule (wT yX7_meetsRule cX7_meetsRule 4 (some FieldType.boolean)) rm_X7_meetsRule [.ref a0, .int a1, .int a2, .int a3] M (some (.int r)) M 0 0 := by
  refine CT_of (own := RX7) (maxL := 4) (ret := (some FieldType.boolean)) hG (by decide) rfl (Nat.le_of_ble_eq_true rfl) (fun p e s m below meth c A C0 hr hlk hM ls hl => ?_)
  have hl : lv_has ls 4 [(0, .ref a0), (1, .int a1), (2, .int a2), (3, .int a3)] := hl
  generalize ([.ref a0, .int a1, .int a2, .int a3] : List Value).toArray = args at C0 ⊢
  skip
  have hx := C0.1
  have hb := C0.2.1
  have hown := C0.2.2.2.1
  have hts := C0.2.2.2.2.1
  unfold p_X7_meetsRule at hp
  refine lv_iload_n hx hb dX7_meetsRule_0 rfl (lv_at hl 3 rfl) ?_
  refine lv_if_ne (tgt := 24) hx hb dX7_meetsRule_1 (by decide) (fun c1 => ?_) (fun c1 => ?_)
  · replace hp := oF c1 hp
    refine lv_iload_n hx hb dX7_meetsRule_24 rfl (lv_at hl 3 rfl) ?_
    refine lv_iconst (v := 1) hx hb dX7_meetsRule_25 (by decide) ?_
    refine lv_icmp_ne (tgt := 66) hx hb dX7_meetsRule_26 (by decide) (fun c2 => ?_) (fun c2 => ?_)
    · replace hp := oF c2 hp
      refine lv_aload_n hx hb dX7_meetsRule_66 rfl (lv_at hl 0 rfl) ?_
      refine lv_iload_n hx hb dX7_meetsRule_67 rfl (lv_at hl 1 rfl) ?_
      refine lv_iload_n hx hb dX7_meetsRule_68 rfl (lv_at hl 2 rfl) ?_
      obtain ⟨_, h3, hp⟩ := ob hp
      obtain ⟨v4, hv4, hp⟩ := ob hp
      refine mr_V1 (As := [.int a1, .int a2]) (rest := []) C0 cbX7 hM h3 rfl (w_X7_isInZone hG hv4) tw_1543 tw_1545 tws_46 tw_7 tw_1546 yk_X7_isInZone (by decide) rfl hl.1 (Nat.le_of_ble_eq_true rfl) dX7_meetsRule_69 rfl (fun H locs hM => ?_)
      obtain ⟨hz, hp⟩ := oG hp
      exact mr_zret C0 hr hlk hM rfl hz (Option.some.inj hp) (Nat.le_refl _) (Nat.le_refl _) dX7_meetsRule_72
    · replace hp := oT c2 hp
      refine lv_aload_n hx hb dX7_meetsRule_29 rfl (lv_at hl 0 rfl) ?_
      obtain ⟨v5, hv5, hp⟩ := ob hp
      refine mr_getR C0 cbX7 hM 0 (by decide) tw_1224 hv5 dX7_meetsRule_30 ?_
      refine lv_sipush (v := 204) hx hb dX7_meetsRule_33 (by decide) ?_
      refine lv_iload_n hx hb dX7_meetsRule_36 rfl (lv_at hl 1 rfl) ?_
      refine lv_iadd hx hb dX7_meetsRule_37 ?_
      obtain ⟨v6, hv6, hp⟩ := ob hp
      refine mr_iald C0 hM hv6 dX7_meetsRule_38 ?_
      refine lv_if_eq (tgt := 64) hx hb dX7_meetsRule_39 (by decide) (fun c7 => ?_) (fun c7 => ?_)
      · replace hp := oT c7 hp
        refine lv_iconst (v := 0) hx hb dX7_meetsRule_64 (by decide) ?_
        exact mr_zret C0 hr hlk hM rfl (Or.inl rfl) (Option.some.inj hp) (Nat.le_refl _) (Nat.le_refl _) dX7_meetsRule_65
      · replace hp := oF c7 hp
        refine lv_aload_n hx hb dX7_meetsRule_42 rfl (lv_at hl 0 rfl) ?_
        refine lv_aload_n hx hb dX7_meetsRule_43 rfl (lv_at hl 0 rfl) ?_
        obtain ⟨v8, hv8, hp⟩ := ob hp
        refine mr_getR C0 cbX7 hM 0 (by decide) tw_1224 hv8 dX7_meetsRule_44 ?_
        refine lv_sipush (v := 204) hx hb dX7_meetsRule_47 (by decide) ?_
        refine lv_iload_n hx hb dX7_meetsRule_50 rfl (lv_at hl 1 rfl) ?_
        refine lv_iadd hx hb dX7_meetsRule_51 ?_
        obtain ⟨v9, hv9, hp⟩ := ob hp
        refine mr_iald C0 hM hv9 dX7_meetsRule_52 ?_
        refine lv_iload_n hx hb dX7_meetsRule_53 rfl (lv_at hl 2 rfl) ?_
        obtain ⟨_, h10, hp⟩ := ob hp
        obtain ⟨v11, hv11, hp⟩ := ob hp
        refine mr_V1 (As := [.int v9, .int a2]) (rest := []) C0 cbX7 hM h10 rfl (w_X7_hasPupil hG hv11) tw_1539 tw_1541 tws_45 tw_7 tw_1542 yk_X7_hasPupil (by decide) rfl hl.1 (Nat.le_of_ble_eq_true rfl) dX7_meetsRule_54 rfl (fun H locs hM => ?_)
        refine lv_if_eq (tgt := 64) hx hb dX7_meetsRule_57 (by decide) (fun c12 => ?_) (fun c12 => ?_)
        · replace hp := oT c12 hp
          refine lv_iconst (v := 0) hx hb dX7_meetsRule_64 (by decide) ?_
          exact mr_zret C0 hr hlk hM rfl (Or.inl rfl) (Option.some.inj hp) (Nat.le_refl _) (Nat.le_refl _) dX7_meetsRule_65
        · replace hp := oF c12 hp
          refine lv_iconst (v := 1) hx hb dX7_meetsRule_60 (by decide) ?_
          refine lv_goto (tgt := 65) hx hb dX7_meetsRule_61 (by decide) ?_
          exact mr_zret C0 hr hlk hM rfl (Or.inr rfl) (Option.some.inj hp) (Nat.le_refl _) (Nat.le_refl _) dX7_meetsRule_65
  · replace hp := oT c1 hp
    refine lv_aload_n hx hb dX7_meetsRule_4 rfl (lv_at hl 0 rfl) ?_
    obtain ⟨v13, hv13, hp⟩ := ob hp
    refine mr_getR C0 cbX7 hM 0 (by decide) tw_1224 hv13 dX7_meetsRule_5 ?_
    refine lv_sipush (v := 244) hx hb dX7_meetsRule_8 (by decide) ?_
    refine lv_iload_n hx hb dX7_meetsRule_11 rfl (lv_at hl 1 rfl) ?_
    refine lv_iadd hx hb dX7_meetsRule_12 ?_
    obtain ⟨v14, hv14, hp⟩ := ob hp
    refine mr_iald C0 hM hv14 dX7_meetsRule_13 ?_
    refine lv_iconst (v := 1) hx hb dX7_meetsRule_14 (by decide) ?_
    refine lv_icmp_ne (tgt := 22) hx hb dX7_meetsRule_15 (by decide) (fun c15 => ?_) (fun c15 => ?_)
    · replace hp := oF c15 hp
      refine lv_iconst (v := 0) hx hb dX7_meetsRule_22 (by decide) ?_
      exact mr_zret C0 hr hlk hM rfl (Or.inl rfl) (Option.some.inj hp) (Nat.le_refl _) (Nat.le_refl _) dX7_meetsRule_23
    · replace hp := oT c15 hp
      refine lv_iconst (v := 1) hx hb dX7_meetsRule_18 (by decide) ?_
      refine lv_goto (tgt := 23) hx hb dX7_meetsRule_19 (by decide) ?_
      exact mr_zret C0 hr hlk hM rfl (Or.inr rfl) (Option.some.inj hp) (Nat.le_refl _) (Nat.le_refl _) dX7_meetsRule_23
abbrev rm_X7_classAt : Room := { frames := 3, cells := 0, slots := 0, locals := 68 }
def pl_X7_classAt_2 (k1 : Int32 → Option (Int32)) (f0 : Nat) (f1 : Int32) (f2 : Int32) (M : Mem) : Nat → Int32 → Option (Int32)
  | 0, _ => none
  | n + 1, y3 =>
    (Option.bind (gR 6 0 M f0) fun v3 =>
    (Option.bind (aI 0 M v3 ((44 : Int32) + f2)) fun v4 =>
    (if v4 ≤ y3 then
     (k1 y3)
    else
     (Option.bind (gR 6 0 M f0) fun v6 =>
     (Option.bind (aI 0 M v6 (((68 : Int32) + ((3 : Int32) * f2)) + y3)) fun v7 =>
     (Option.bind (isC 6 M f0) fun _ =>
     (Option.bind (p_X7_meetsRule f0 f1 f2 v7 M) fun v9 =>
     (if v9 = 0 then
      (pl_X7_classAt_2 k1 f0 f1 f2 M n (y3 + (1 : Int32)))
     else
      (k1 y3)
     )
     )
     )
     )
     )
    )
    )
    )
set_option maxHeartbeats 4000000 in
set_option maxRecDepth 100000 in
theorem wl_X7_classAt_2 {G : gG} {p : Program} {l : Launch} {e : Env} {s : State} {m : MethodId} {args : Array Value} {below : List Frame} {meth : Method} {c : Code} {A : Nat → Prop} {r : Int32} {k1 : Int32 → Option (Int32)} {f0 : Nat} {f1 : Int32} {f2 : Int32} {M : Mem} (C0 : cx G p s m args c cX7_classAt RX7 4 A) (hr : meth.sig.returnType = (some FieldType.int)) (hlk : meth.locks = false) (hG : GOK G) (hk1 : ∀ (z3 : Int32) (H : Heap) (locs : List Loc) (ls : Array Slot), mm G A s M H locs → lv_has ls 4 [(3, .int z3)] → k1 z3 = some r → W p l e rm_X7_classAt s m args below meth c H locs 0 0 (MQ below (CQ G M (some (.int r)) A) args s 0 0 A) (F0 m 43 ls [])) : ∀ (n : Nat) (y3 : Int32) (H : Heap) (locs : List Loc) (ls : Array Slot), mm G A s M H locs → lv_has ls 4 [(0, .ref f0), (1, .int f1), (2, .int f2), (3, .int y3)] → pl_X7_classAt_2 k1 f0 f1 f2 M n y3 = some r → W p l e rm_X7_classAt s m args below meth c H locs 0 0 (MQ below (CQ G M (some (.int r)) A) args s 0 0 A) (F0 m 2 ls []) := by
  have hx := C0.1
  have hb := C0.2.1
  have hown := C0.2.2.2.1
  have hts := C0.2.2.2.2.1
  intro n
  induction n with
  | zero => intro y3 H locs ls hM hl hp; rw [pl_X7_classAt_2] at hp; cases hp
  | succ n ih =>
    intro y3 H locs ls hM hl hp
    rw [pl_X7_classAt_2] at hp
    refine lv_iload_n hx hb dX7_classAt_2 rfl (lv_at hl 3 rfl) ?_
    refine lv_aload_n hx hb dX7_classAt_3 rfl (lv_at hl 0 rfl) ?_
    obtain ⟨v3, hv3, hp⟩ := ob hp
    refine mr_getR C0 cbX7 hM 0 (by decide) tw_1224 hv3 dX7_classAt_4 ?_
    refine lv_bipush (v := 44) hx hb dX7_classAt_7 (by decide) ?_
    refine lv_iload_n hx hb dX7_classAt_9 rfl (lv_at hl 2 rfl) ?_
    refine lv_iadd hx hb dX7_classAt_10 ?_
    obtain ⟨v4, hv4, hp⟩ := ob hp
    refine mr_iald C0 hM hv4 dX7_classAt_11 ?_
    refine lv_icmp_ge (tgt := 43) hx hb dX7_classAt_12 (by decide) (fun c5 => ?_) (fun c5 => ?_)
    · replace hp := oT c5 hp
      exact hk1 _ _ _ _ hM (lv_sub hl [3] rfl) hp
    · replace hp := oF c5 hp
      refine lv_aload_n hx hb dX7_classAt_15 rfl (lv_at hl 0 rfl) ?_
      refine lv_iload_n hx hb dX7_classAt_16 rfl (lv_at hl 1 rfl) ?_
      refine lv_iload_n hx hb dX7_classAt_17 rfl (lv_at hl 2 rfl) ?_
      refine lv_aload_n hx hb dX7_classAt_18 rfl (lv_at hl 0 rfl) ?_
      obtain ⟨v6, hv6, hp⟩ := ob hp
      refine mr_getR C0 cbX7 hM 0 (by decide) tw_1224 hv6 dX7_classAt_19 ?_
      refine lv_bipush (v := 68) hx hb dX7_classAt_22 (by decide) ?_
      refine lv_iconst (v := 3) hx hb dX7_classAt_24 (by decide) ?_
      refine lv_iload_n hx hb dX7_classAt_25 rfl (lv_at hl 2 rfl) ?_
      refine lv_imul hx hb dX7_classAt_26 ?_
      refine lv_iadd hx hb dX7_classAt_27 ?_
      refine lv_iload_n hx hb dX7_classAt_28 rfl (lv_at hl 3 rfl) ?_
      refine lv_iadd hx hb dX7_classAt_29 ?_
      obtain ⟨v7, hv7, hp⟩ := ob hp
      refine mr_iald C0 hM hv7 dX7_classAt_30 ?_
      obtain ⟨_, h8, hp⟩ := ob hp
      obtain ⟨v9, hv9, hp⟩ := ob hp
      refine mr_V1 (As := [.int f1, .int f2, .int v7]) (rest := []) C0 cbX7 hM h8 rfl (w_X7_meetsRule hG hv9) tw_1535 tw_1537 tws_44 tw_7 tw_1538 yk_X7_meetsRule (by decide) rfl hl.1 (Nat.le_of_ble_eq_true rfl) dX7_classAt_31 rfl (fun H locs hM => ?_)
      refine lv_if_ne (tgt := 43) hx hb dX7_classAt_34 (by decide) (fun c10 => ?_) (fun c10 => ?_)
      · replace hp := oF c10 hp
        exact hk1 _ _ _ _ hM (lv_sub hl [3] rfl) hp
      · replace hp := oT c10 hp
        refine lv_iinc (v := (y3 + (1 : Int32))) (lv' := [(3, .int (y3 + (1 : Int32))), (0, .ref f0), (1, .int f1), (2, .int f2)]) hx hb dX7_classAt_37 hl (k := 3) rfl rfl (by decide) rfl (fun ls hl => ?_)
        refine lv_goto (tgt := 2) hx hb dX7_classAt_40 (by decide) ?_
        exact ih _ _ _ _ hM (lv_sub hl [1, 2, 3, 0] rfl) hp
def p_X7_classAt (a0 : Nat) (a1 : Int32) (a2 : Int32) (M : Mem) : Option (Int32) :=
  (jn (fun (x1 : Int32) =>
   some x1
  ) fun k2 =>
  (pl_X7_classAt_2
   (fun (z11 : Int32) =>
    (k2 z11)
   )
   a0 a1 a2 M FU (0 : Int32))
  )
theorem yk_X7_classAt : yok yX7_classAt 2 := by decide +kernel
set_option maxHeartbeats 4000000 in
set_option maxRecDepth 100000 in
theorem w_X7_classAt {G : gG} (hG : GOK G) {l : Launch} {a0 : Nat} {a1 : Int32} {a2 : Int32} {M : Mem} {r : Int32} (hp : p_X7_classAt a0 a1 a2 M = some r) : CT G l yX7_classAt (wT yX7_classAt cX7_classAt 4 (some FieldType.int)) rm_X7_classAt [.ref a0, .int a1, .int a2] M (some (.int r)) M 0 0 := by
  refine CT_of (own := RX7) (maxL := 4) (ret := (some FieldType.int)) hG (by decide) rfl (Nat.le_of_ble_eq_true rfl) (fun p e s m below meth c A C0 hr hlk hM ls hl => ?_)
  have hl : lv_has ls 4 [(0, .ref a0), (1, .int a1), (2, .int a2)] := hl
  generalize ([.ref a0, .int a1, .int a2] : List Value).toArray = args at C0 ⊢
  skip
  have hx := C0.1
  have hb := C0.2.1
  have hown := C0.2.2.2.1
  have hts := C0.2.2.2.2.1
  unfold p_X7_classAt at hp
  refine lv_iconst (v := 0) hx hb dX7_classAt_0 (by decide) ?_
  refine lv_istore_n (lv' := [(3, .int (0 : Int32)), (0, .ref a0), (1, .int a1), (2, .int a2)]) hx hb dX7_classAt_1 rfl hl (by decide) rfl (fun ls hl => ?_)
  obtain ⟨k2, ek2, hp⟩ := ojn hp
  have hk2 : ∀ (x1 : Int32) (H : Heap) (locs : List Loc) (ls : Array Slot), mm G A s M H locs → lv_has ls 4 [(3, .int x1)] → k2 x1 = some r → W p l e rm_X7_classAt s m args below meth c H locs 0 0 (MQ below (CQ G M (some (.int r)) A) args s 0 0 A) (F0 m 43 ls []) := by
    intro x1 H locs ls hM hl hp
    rw [ek2] at hp
    refine lv_iload_n hx hb dX7_classAt_43 rfl (lv_at hl 0 rfl) ?_
    exact mr_iret C0 hr hlk hM rfl (Option.some.inj hp) (Nat.le_refl _) (Nat.le_refl _) dX7_classAt_44
  refine wl_X7_classAt_2 C0 hr hlk hG (fun z11 H locs ls hM hl hp => ?_) FU _ _ _ _ hM (lv_sub hl [1, 2, 3, 0] rfl) hp
  exact hk2 _ _ _ _ hM (lv_sub hl [0] rfl) hp
abbrev rm_X7_far : Room := { frames := 0, cells := 0, slots := 0, locals := 0 }
def p_X7_far (a0 : Nat) (a1 : Int32) (a2 : Int32) (M : Mem) : Option (Int32) :=
  (Option.bind (gR 6 0 M a0) fun v1 =>
  (Option.bind (aI 0 M v1 ((124 : Int32) + a1)) fun v2 =>
  (Option.bind (gR 6 0 M a0) fun v3 =>
  (Option.bind (aI 0 M v3 ((28 : Int32) + a2)) fun v4 =>
  (Option.bind (gR 6 0 M a0) fun v5 =>
  (Option.bind (aI 0 M v5 ((164 : Int32) + a1)) fun v6 =>
  (Option.bind (gR 6 0 M a0) fun v7 =>
  (Option.bind (aI 0 M v7 ((36 : Int32) + a2)) fun v8 =>
  some (((v2 - v4) * (v2 - v4)) + ((v6 - v8) * (v6 - v8)))
  )
  )
  )
  )
  )
  )
  )
  )
theorem yk_X7_far : yok yX7_far 2 := by decide +kernel
set_option maxHeartbeats 4000000 in
set_option maxRecDepth 100000 in
theorem w_X7_far {G : gG} (hG : GOK G) {l : Launch} {a0 : Nat} {a1 : Int32} {a2 : Int32} {M : Mem} {r : Int32} (hp : p_X7_far a0 a1 a2 M = some r) : CT G l yX7_far (wT yX7_far cX7_far 5 (some FieldType.int)) rm_X7_far [.ref a0, .int a1, .int a2] M (some (.int r)) M 0 0 := by
  refine CT_of (own := RX7) (maxL := 5) (ret := (some FieldType.int)) hG (by decide) rfl (Nat.le_of_ble_eq_true rfl) (fun p e s m below meth c A C0 hr hlk hM ls hl => ?_)
  have hl : lv_has ls 5 [(0, .ref a0), (1, .int a1), (2, .int a2)] := hl
  generalize ([.ref a0, .int a1, .int a2] : List Value).toArray = args at C0 ⊢
  skip
  have hx := C0.1
  have hb := C0.2.1
  have hown := C0.2.2.2.1
  have hts := C0.2.2.2.2.1
  unfold p_X7_far at hp
  refine lv_aload_n hx hb dX7_far_0 rfl (lv_at hl 0 rfl) ?_
  obtain ⟨v1, hv1, hp⟩ := ob hp
  refine mr_getR C0 cbX7 hM 0 (by decide) tw_1224 hv1 dX7_far_1 ?_
  refine lv_bipush (v := 124) hx hb dX7_far_4 (by decide) ?_
  refine lv_iload_n hx hb dX7_far_6 rfl (lv_at hl 1 rfl) ?_
  refine lv_iadd hx hb dX7_far_7 ?_
  obtain ⟨v2, hv2, hp⟩ := ob hp
  refine mr_iald C0 hM hv2 dX7_far_8 ?_
  refine lv_aload_n hx hb dX7_far_9 rfl (lv_at hl 0 rfl) ?_
  obtain ⟨v3, hv3, hp⟩ := ob hp
  refine mr_getR C0 cbX7 hM 0 (by decide) tw_1224 hv3 dX7_far_10 ?_
  refine lv_bipush (v := 28) hx hb dX7_far_13 (by decide) ?_
  refine lv_iload_n hx hb dX7_far_15 rfl (lv_at hl 2 rfl) ?_
  refine lv_iadd hx hb dX7_far_16 ?_
  obtain ⟨v4, hv4, hp⟩ := ob hp
  refine mr_iald C0 hM hv4 dX7_far_17 ?_
  refine lv_isub hx hb dX7_far_18 ?_
  refine lv_istore_n (lv' := [(3, .int (v2 - v4)), (0, .ref a0), (1, .int a1), (2, .int a2)]) hx hb dX7_far_19 rfl hl (by decide) rfl (fun ls hl => ?_)
  refine lv_aload_n hx hb dX7_far_20 rfl (lv_at hl 1 rfl) ?_
  obtain ⟨v5, hv5, hp⟩ := ob hp
  refine mr_getR C0 cbX7 hM 0 (by decide) tw_1224 hv5 dX7_far_21 ?_
  refine lv_sipush (v := 164) hx hb dX7_far_24 (by decide) ?_
  refine lv_iload_n hx hb dX7_far_27 rfl (lv_at hl 2 rfl) ?_
  refine lv_iadd hx hb dX7_far_28 ?_
  obtain ⟨v6, hv6, hp⟩ := ob hp
  refine mr_iald C0 hM hv6 dX7_far_29 ?_
  refine lv_aload_n hx hb dX7_far_30 rfl (lv_at hl 1 rfl) ?_
  obtain ⟨v7, hv7, hp⟩ := ob hp
  refine mr_getR C0 cbX7 hM 0 (by decide) tw_1224 hv7 dX7_far_31 ?_
  refine lv_bipush (v := 36) hx hb dX7_far_34 (by decide) ?_
  refine lv_iload_n hx hb dX7_far_36 rfl (lv_at hl 3 rfl) ?_
  refine lv_iadd hx hb dX7_far_37 ?_
  obtain ⟨v8, hv8, hp⟩ := ob hp
  refine mr_iald C0 hM hv8 dX7_far_38 ?_
  refine lv_isub hx hb dX7_far_39 ?_
  refine lv_istore (lv' := [(4, .int (v6 - v8)), (3, .int (v2 - v4)), (0, .ref a0), (1, .int a1), (2, .int a2)]) hx hb dX7_far_40 hl (by decide) rfl (fun ls hl => ?_)
  refine lv_iload_n hx hb dX7_far_42 rfl (lv_at hl 1 rfl) ?_
  refine lv_iload_n hx hb dX7_far_43 rfl (lv_at hl 1 rfl) ?_
  refine lv_imul hx hb dX7_far_44 ?_
  refine lv_iload hx hb dX7_far_45 (lv_at hl 0 rfl) ?_
  refine lv_iload hx hb dX7_far_47 (lv_at hl 0 rfl) ?_
  refine lv_imul hx hb dX7_far_49 ?_
  refine lv_iadd hx hb dX7_far_50 ?_
  exact mr_iret C0 hr hlk hM rfl (Option.some.inj hp) (Nat.le_refl _) (Nat.le_refl _) dX7_far_51
abbrev rm_X7_isAhead : Room := { frames := 4, cells := 0, slots := 0, locals := 91 }
def p_X7_isAhead (a0 : Nat) (a1 : Int32) (a2 : Int32) (a3 : Int32) (M : Mem) : Option (Int32) :=
  (Option.bind (gR 6 0 M a0) fun v1 =>
  (Option.bind (aI 0 M v1 (7 : Int32)) fun v2 =>
  (jn (fun (_ : Unit) =>
   (Option.bind (isC 6 M a0) fun _ =>
   (Option.bind (p_X7_classAt a0 a2 a1 M) fun v5 =>
   (Option.bind (isC 6 M a0) fun _ =>
   (Option.bind (p_X7_classAt a0 a3 a1 M) fun v7 =>
   (if v5 = v7 then
    (Option.bind (isC 6 M a0) fun _ =>
    (Option.bind (p_X7_far a0 a2 a1 M) fun v10 =>
    (Option.bind (isC 6 M a0) fun _ =>
    (Option.bind (p_X7_far a0 a3 a1 M) fun v12 =>
    (if v10 = v12 then
     (Option.bind (gR 6 0 M a0) fun v14 =>
     (Option.bind (aI 0 M v14 ((284 : Int32) + a2)) fun v15 =>
     (Option.bind (gR 6 0 M a0) fun v16 =>
     (Option.bind (aI 0 M v16 ((284 : Int32) + a3)) fun v17 =>
     (if v15 = v17 then
      (if a3 ≤ a2 then
       some (0 : Int32)
      else
       some (1 : Int32)
      )
     else
      (Option.bind (gR 6 0 M a0) fun v20 =>
      (Option.bind (aI 0 M v20 ((284 : Int32) + a2)) fun v21 =>
      (Option.bind (gR 6 0 M a0) fun v22 =>
      (Option.bind (aI 0 M v22 ((284 : Int32) + a3)) fun v23 =>
      (if v23 ≤ v21 then
       some (0 : Int32)
      else
       some (1 : Int32)
      )
      )
      )
      )
      )
     )
     )
     )
     )
     )
    else
     (Option.bind (isC 6 M a0) fun _ =>
     (Option.bind (p_X7_far a0 a2 a1 M) fun v26 =>
     (Option.bind (isC 6 M a0) fun _ =>
     (Option.bind (p_X7_far a0 a3 a1 M) fun v28 =>
     (if v28 ≤ v26 then
      some (0 : Int32)
     else
      some (1 : Int32)
     )
     )
     )
     )
     )
    )
    )
    )
    )
    )
   else
    (if v7 ≤ v5 then
     some (0 : Int32)
    else
     some (1 : Int32)
    )
   )
   )
   )
   )
   )
  ) fun k3 =>
  (if v2 = (1 : Int32) then
   (Option.bind (gR 6 0 M a0) fun v32 =>
   (Option.bind (aI 0 M v32 ((364 : Int32) + a2)) fun v33 =>
   (Option.bind (gR 6 0 M a0) fun v34 =>
   (Option.bind (aI 0 M v34 ((364 : Int32) + a3)) fun v35 =>
   (if v33 = v35 then
    (k3 ())
   else
    (Option.bind (gR 6 0 M a0) fun v37 =>
    (Option.bind (aI 0 M v37 ((364 : Int32) + a2)) fun v38 =>
    (Option.bind (gR 6 0 M a0) fun v39 =>
    (Option.bind (aI 0 M v39 ((364 : Int32) + a3)) fun v40 =>
    (if v40 ≤ v38 then
     some (0 : Int32)
    else
     some (1 : Int32)
    )
    )
    )
    )
    )
   )
   )
   )
   )
   )
  else
   (k3 ())
  )
  )
  )
  )
theorem yk_X7_isAhead : yok yX7_isAhead 3 := by decide +kernel
set_option maxHeartbeats 4000000 in
set_option maxRecDepth 100000 in
theorem w_X7_isAhead {G : gG} (hG : GOK G) {l : Launch} {a0 : Nat} {a1 : Int32} {a2 : Int32} {a3 : Int32} {M : Mem} {r : Int32} (hp : p_X7_isAhead a0 a1 a2 a3 M = some r) : CT G l yX7_isAhead (wT yX7_isAhead cX7_isAhead 6 (some FieldType.boolean)) rm_X7_isAhead [.ref a0, .int a1, .int a2, .int a3] M (some (.int r)) M 0 0 := by
  refine CT_of (own := RX7) (maxL := 6) (ret := (some FieldType.boolean)) hG (by decide) rfl (Nat.le_of_ble_eq_true rfl) (fun p e s m below meth c A C0 hr hlk hM ls hl => ?_)
  have hl : lv_has ls 6 [(0, .ref a0), (1, .int a1), (2, .int a2), (3, .int a3)] := hl
  generalize ([.ref a0, .int a1, .int a2, .int a3] : List Value).toArray = args at C0 ⊢
  skip
  have hx := C0.1
  have hb := C0.2.1
  have hown := C0.2.2.2.1
  have hts := C0.2.2.2.2.1
  unfold p_X7_isAhead at hp
  refine lv_aload_n hx hb dX7_isAhead_0 rfl (lv_at hl 0 rfl) ?_
  obtain ⟨v1, hv1, hp⟩ := ob hp
  refine mr_getR C0 cbX7 hM 0 (by decide) tw_1224 hv1 dX7_isAhead_1 ?_
  refine lv_bipush (v := 7) hx hb dX7_isAhead_4 (by decide) ?_
  obtain ⟨v2, hv2, hp⟩ := ob hp
  refine mr_iald C0 hM hv2 dX7_isAhead_6 ?_
  refine lv_iconst (v := 1) hx hb dX7_isAhead_7 (by decide) ?_
  obtain ⟨k3, ek3, hp⟩ := ojn hp
  have hk3 : ∀ (H : Heap) (locs : List Loc) (ls : Array Slot), mm G A s M H locs → lv_has ls 6 [(0, .ref a0), (1, .int a1), (2, .int a2), (3, .int a3)] → k3 () = some r → W p l e rm_X7_isAhead s m args below meth c H locs 0 0 (MQ below (CQ G M (some (.int r)) A) args s 0 0 A) (F0 m 63 ls []) := by
    intro  H locs ls hM hl hp
    rw [ek3] at hp
    refine lv_aload_n hx hb dX7_isAhead_63 rfl (lv_at hl 0 rfl) ?_
    refine lv_iload_n hx hb dX7_isAhead_64 rfl (lv_at hl 2 rfl) ?_
    refine lv_iload_n hx hb dX7_isAhead_65 rfl (lv_at hl 1 rfl) ?_
    obtain ⟨_, h4, hp⟩ := ob hp
    obtain ⟨v5, hv5, hp⟩ := ob hp
    refine mr_V1 (As := [.int a2, .int a1]) (rest := []) C0 cbX7 hM h4 rfl (w_X7_classAt hG hv5) tw_1551 tw_1553 tws_47 tw_7 tw_1554 yk_X7_classAt (by decide) rfl hl.1 (Nat.le_of_ble_eq_true rfl) dX7_isAhead_66 rfl (fun H locs hM => ?_)
    refine lv_istore (lv' := [(4, .int v5), (0, .ref a0), (1, .int a1), (2, .int a2), (3, .int a3)]) hx hb dX7_isAhead_69 hl (by decide) rfl (fun ls hl => ?_)
    refine lv_aload_n hx hb dX7_isAhead_71 rfl (lv_at hl 1 rfl) ?_
    refine lv_iload_n hx hb dX7_isAhead_72 rfl (lv_at hl 4 rfl) ?_
    refine lv_iload_n hx hb dX7_isAhead_73 rfl (lv_at hl 2 rfl) ?_
    obtain ⟨_, h6, hp⟩ := ob hp
    obtain ⟨v7, hv7, hp⟩ := ob hp
    refine mr_V1 (As := [.int a3, .int a1]) (rest := []) C0 cbX7 hM h6 rfl (w_X7_classAt hG hv7) tw_1551 tw_1553 tws_47 tw_7 tw_1554 yk_X7_classAt (by decide) rfl hl.1 (Nat.le_of_ble_eq_true rfl) dX7_isAhead_74 rfl (fun H locs hM => ?_)
    refine lv_istore (lv' := [(5, .int v7), (4, .int v5), (0, .ref a0), (1, .int a1), (2, .int a2), (3, .int a3)]) hx hb dX7_isAhead_77 hl (by decide) rfl (fun ls hl => ?_)
    refine lv_iload hx hb dX7_isAhead_79 (lv_at hl 1 rfl) ?_
    refine lv_iload hx hb dX7_isAhead_81 (lv_at hl 0 rfl) ?_
    refine lv_icmp_eq (tgt := 99) hx hb dX7_isAhead_83 (by decide) (fun c8 => ?_) (fun c8 => ?_)
    · replace hp := oT c8 hp
      refine lv_aload_n hx hb dX7_isAhead_99 rfl (lv_at hl 2 rfl) ?_
      refine lv_iload_n hx hb dX7_isAhead_100 rfl (lv_at hl 4 rfl) ?_
      refine lv_iload_n hx hb dX7_isAhead_101 rfl (lv_at hl 3 rfl) ?_
      obtain ⟨_, h9, hp⟩ := ob hp
      obtain ⟨v10, hv10, hp⟩ := ob hp
      refine mr_V1 (As := [.int a2, .int a1]) (rest := []) C0 cbX7 hM h9 rfl (w_X7_far hG hv10) tw_1559 tw_1561 tws_48 tw_7 tw_1562 yk_X7_far (by decide) rfl hl.1 (Nat.le_of_ble_eq_true rfl) dX7_isAhead_102 rfl (fun H locs hM => ?_)
      refine lv_aload_n hx hb dX7_isAhead_105 rfl (lv_at hl 2 rfl) ?_
      refine lv_iload_n hx hb dX7_isAhead_106 rfl (lv_at hl 5 rfl) ?_
      refine lv_iload_n hx hb dX7_isAhead_107 rfl (lv_at hl 3 rfl) ?_
      obtain ⟨_, h11, hp⟩ := ob hp
      obtain ⟨v12, hv12, hp⟩ := ob hp
      refine mr_V1 (As := [.int a3, .int a1]) (rest := [.int v10]) C0 cbX7 hM h11 rfl (w_X7_far hG hv12) tw_1559 tw_1561 tws_48 tw_7 tw_1562 yk_X7_far (by decide) rfl hl.1 (Nat.le_of_ble_eq_true rfl) dX7_isAhead_108 rfl (fun H locs hM => ?_)
      refine lv_icmp_eq (tgt := 135) hx hb dX7_isAhead_111 (by decide) (fun c13 => ?_) (fun c13 => ?_)
      · replace hp := oT c13 hp
        refine lv_aload_n hx hb dX7_isAhead_135 rfl (lv_at hl 2 rfl) ?_
        obtain ⟨v14, hv14, hp⟩ := ob hp
        refine mr_getR C0 cbX7 hM 0 (by decide) tw_1224 hv14 dX7_isAhead_136 ?_
        refine lv_sipush (v := 284) hx hb dX7_isAhead_139 (by decide) ?_
        refine lv_iload_n hx hb dX7_isAhead_142 rfl (lv_at hl 4 rfl) ?_
        refine lv_iadd hx hb dX7_isAhead_143 ?_
        obtain ⟨v15, hv15, hp⟩ := ob hp
        refine mr_iald C0 hM hv15 dX7_isAhead_144 ?_
        refine lv_aload_n hx hb dX7_isAhead_145 rfl (lv_at hl 2 rfl) ?_
        obtain ⟨v16, hv16, hp⟩ := ob hp
        refine mr_getR C0 cbX7 hM 0 (by decide) tw_1224 hv16 dX7_isAhead_146 ?_
        refine lv_sipush (v := 284) hx hb dX7_isAhead_149 (by decide) ?_
        refine lv_iload_n hx hb dX7_isAhead_152 rfl (lv_at hl 5 rfl) ?_
        refine lv_iadd hx hb dX7_isAhead_153 ?_
        obtain ⟨v17, hv17, hp⟩ := ob hp
        refine mr_iald C0 hM hv17 dX7_isAhead_154 ?_
        refine lv_icmp_eq (tgt := 187) hx hb dX7_isAhead_155 (by decide) (fun c18 => ?_) (fun c18 => ?_)
        · replace hp := oT c18 hp
          refine lv_iload_n hx hb dX7_isAhead_187 rfl (lv_at hl 4 rfl) ?_
          refine lv_iload_n hx hb dX7_isAhead_188 rfl (lv_at hl 5 rfl) ?_
          refine lv_icmp_ge (tgt := 196) hx hb dX7_isAhead_189 (by decide) (fun c19 => ?_) (fun c19 => ?_)
          · replace hp := oT c19 hp
            refine lv_iconst (v := 0) hx hb dX7_isAhead_196 (by decide) ?_
            exact mr_zret C0 hr hlk hM rfl (Or.inl rfl) (Option.some.inj hp) (Nat.le_refl _) (Nat.le_refl _) dX7_isAhead_197
          · replace hp := oF c19 hp
            refine lv_iconst (v := 1) hx hb dX7_isAhead_192 (by decide) ?_
            refine lv_goto (tgt := 197) hx hb dX7_isAhead_193 (by decide) ?_
            exact mr_zret C0 hr hlk hM rfl (Or.inr rfl) (Option.some.inj hp) (Nat.le_refl _) (Nat.le_refl _) dX7_isAhead_197
        · replace hp := oF c18 hp
          refine lv_aload_n hx hb dX7_isAhead_158 rfl (lv_at hl 2 rfl) ?_
          obtain ⟨v20, hv20, hp⟩ := ob hp
          refine mr_getR C0 cbX7 hM 0 (by decide) tw_1224 hv20 dX7_isAhead_159 ?_
          refine lv_sipush (v := 284) hx hb dX7_isAhead_162 (by decide) ?_
          refine lv_iload_n hx hb dX7_isAhead_165 rfl (lv_at hl 4 rfl) ?_
          refine lv_iadd hx hb dX7_isAhead_166 ?_
          obtain ⟨v21, hv21, hp⟩ := ob hp
          refine mr_iald C0 hM hv21 dX7_isAhead_167 ?_
          refine lv_aload_n hx hb dX7_isAhead_168 rfl (lv_at hl 2 rfl) ?_
          obtain ⟨v22, hv22, hp⟩ := ob hp
          refine mr_getR C0 cbX7 hM 0 (by decide) tw_1224 hv22 dX7_isAhead_169 ?_
          refine lv_sipush (v := 284) hx hb dX7_isAhead_172 (by decide) ?_
          refine lv_iload_n hx hb dX7_isAhead_175 rfl (lv_at hl 5 rfl) ?_
          refine lv_iadd hx hb dX7_isAhead_176 ?_
          obtain ⟨v23, hv23, hp⟩ := ob hp
          refine mr_iald C0 hM hv23 dX7_isAhead_177 ?_
          refine lv_icmp_ge (tgt := 185) hx hb dX7_isAhead_178 (by decide) (fun c24 => ?_) (fun c24 => ?_)
          · replace hp := oT c24 hp
            refine lv_iconst (v := 0) hx hb dX7_isAhead_185 (by decide) ?_
            exact mr_zret C0 hr hlk hM rfl (Or.inl rfl) (Option.some.inj hp) (Nat.le_refl _) (Nat.le_refl _) dX7_isAhead_186
          · replace hp := oF c24 hp
            refine lv_iconst (v := 1) hx hb dX7_isAhead_181 (by decide) ?_
            refine lv_goto (tgt := 186) hx hb dX7_isAhead_182 (by decide) ?_
            exact mr_zret C0 hr hlk hM rfl (Or.inr rfl) (Option.some.inj hp) (Nat.le_refl _) (Nat.le_refl _) dX7_isAhead_186
      · replace hp := oF c13 hp
        refine lv_aload_n hx hb dX7_isAhead_114 rfl (lv_at hl 2 rfl) ?_
        refine lv_iload_n hx hb dX7_isAhead_115 rfl (lv_at hl 4 rfl) ?_
        refine lv_iload_n hx hb dX7_isAhead_116 rfl (lv_at hl 3 rfl) ?_
        obtain ⟨_, h25, hp⟩ := ob hp
        obtain ⟨v26, hv26, hp⟩ := ob hp
        refine mr_V1 (As := [.int a2, .int a1]) (rest := []) C0 cbX7 hM h25 rfl (w_X7_far hG hv26) tw_1559 tw_1561 tws_48 tw_7 tw_1562 yk_X7_far (by decide) rfl hl.1 (Nat.le_of_ble_eq_true rfl) dX7_isAhead_117 rfl (fun H locs hM => ?_)
        refine lv_aload_n hx hb dX7_isAhead_120 rfl (lv_at hl 2 rfl) ?_
        refine lv_iload_n hx hb dX7_isAhead_121 rfl (lv_at hl 5 rfl) ?_
        refine lv_iload_n hx hb dX7_isAhead_122 rfl (lv_at hl 3 rfl) ?_
        obtain ⟨_, h27, hp⟩ := ob hp
        obtain ⟨v28, hv28, hp⟩ := ob hp
        refine mr_V1 (As := [.int a3, .int a1]) (rest := [.int v26]) C0 cbX7 hM h27 rfl (w_X7_far hG hv28) tw_1559 tw_1561 tws_48 tw_7 tw_1562 yk_X7_far (by decide) rfl hl.1 (Nat.le_of_ble_eq_true rfl) dX7_isAhead_123 rfl (fun H locs hM => ?_)
        refine lv_icmp_ge (tgt := 133) hx hb dX7_isAhead_126 (by decide) (fun c29 => ?_) (fun c29 => ?_)
        · replace hp := oT c29 hp
          refine lv_iconst (v := 0) hx hb dX7_isAhead_133 (by decide) ?_
          exact mr_zret C0 hr hlk hM rfl (Or.inl rfl) (Option.some.inj hp) (Nat.le_refl _) (Nat.le_refl _) dX7_isAhead_134
        · replace hp := oF c29 hp
          refine lv_iconst (v := 1) hx hb dX7_isAhead_129 (by decide) ?_
          refine lv_goto (tgt := 134) hx hb dX7_isAhead_130 (by decide) ?_
          exact mr_zret C0 hr hlk hM rfl (Or.inr rfl) (Option.some.inj hp) (Nat.le_refl _) (Nat.le_refl _) dX7_isAhead_134
    · replace hp := oF c8 hp
      refine lv_iload hx hb dX7_isAhead_86 (lv_at hl 1 rfl) ?_
      refine lv_iload hx hb dX7_isAhead_88 (lv_at hl 0 rfl) ?_
      refine lv_icmp_ge (tgt := 97) hx hb dX7_isAhead_90 (by decide) (fun c30 => ?_) (fun c30 => ?_)
      · replace hp := oT c30 hp
        refine lv_iconst (v := 0) hx hb dX7_isAhead_97 (by decide) ?_
        exact mr_zret C0 hr hlk hM rfl (Or.inl rfl) (Option.some.inj hp) (Nat.le_refl _) (Nat.le_refl _) dX7_isAhead_98
      · replace hp := oF c30 hp
        refine lv_iconst (v := 1) hx hb dX7_isAhead_93 (by decide) ?_
        refine lv_goto (tgt := 98) hx hb dX7_isAhead_94 (by decide) ?_
        exact mr_zret C0 hr hlk hM rfl (Or.inr rfl) (Option.some.inj hp) (Nat.le_refl _) (Nat.le_refl _) dX7_isAhead_98
  refine lv_icmp_ne (tgt := 63) hx hb dX7_isAhead_8 (by decide) (fun c31 => ?_) (fun c31 => ?_)
  · replace hp := oF c31 hp
    exact hk3  _ _ _ hM (lv_sub hl [0, 1, 2, 3] rfl) hp
  · replace hp := oT c31 hp
    refine lv_aload_n hx hb dX7_isAhead_11 rfl (lv_at hl 0 rfl) ?_
    obtain ⟨v32, hv32, hp⟩ := ob hp
    refine mr_getR C0 cbX7 hM 0 (by decide) tw_1224 hv32 dX7_isAhead_12 ?_
    refine lv_sipush (v := 364) hx hb dX7_isAhead_15 (by decide) ?_
    refine lv_iload_n hx hb dX7_isAhead_18 rfl (lv_at hl 2 rfl) ?_
    refine lv_iadd hx hb dX7_isAhead_19 ?_
    obtain ⟨v33, hv33, hp⟩ := ob hp
    refine mr_iald C0 hM hv33 dX7_isAhead_20 ?_
    refine lv_aload_n hx hb dX7_isAhead_21 rfl (lv_at hl 0 rfl) ?_
    obtain ⟨v34, hv34, hp⟩ := ob hp
    refine mr_getR C0 cbX7 hM 0 (by decide) tw_1224 hv34 dX7_isAhead_22 ?_
    refine lv_sipush (v := 364) hx hb dX7_isAhead_25 (by decide) ?_
    refine lv_iload_n hx hb dX7_isAhead_28 rfl (lv_at hl 3 rfl) ?_
    refine lv_iadd hx hb dX7_isAhead_29 ?_
    obtain ⟨v35, hv35, hp⟩ := ob hp
    refine mr_iald C0 hM hv35 dX7_isAhead_30 ?_
    refine lv_icmp_eq (tgt := 63) hx hb dX7_isAhead_31 (by decide) (fun c36 => ?_) (fun c36 => ?_)
    · replace hp := oT c36 hp
      exact hk3  _ _ _ hM (lv_sub hl [0, 1, 2, 3] rfl) hp
    · replace hp := oF c36 hp
      refine lv_aload_n hx hb dX7_isAhead_34 rfl (lv_at hl 0 rfl) ?_
      obtain ⟨v37, hv37, hp⟩ := ob hp
      refine mr_getR C0 cbX7 hM 0 (by decide) tw_1224 hv37 dX7_isAhead_35 ?_
      refine lv_sipush (v := 364) hx hb dX7_isAhead_38 (by decide) ?_
      refine lv_iload_n hx hb dX7_isAhead_41 rfl (lv_at hl 2 rfl) ?_
      refine lv_iadd hx hb dX7_isAhead_42 ?_
      obtain ⟨v38, hv38, hp⟩ := ob hp
      refine mr_iald C0 hM hv38 dX7_isAhead_43 ?_
      refine lv_aload_n hx hb dX7_isAhead_44 rfl (lv_at hl 0 rfl) ?_
      obtain ⟨v39, hv39, hp⟩ := ob hp
      refine mr_getR C0 cbX7 hM 0 (by decide) tw_1224 hv39 dX7_isAhead_45 ?_
      refine lv_sipush (v := 364) hx hb dX7_isAhead_48 (by decide) ?_
      refine lv_iload_n hx hb dX7_isAhead_51 rfl (lv_at hl 3 rfl) ?_
      refine lv_iadd hx hb dX7_isAhead_52 ?_
      obtain ⟨v40, hv40, hp⟩ := ob hp
      refine mr_iald C0 hM hv40 dX7_isAhead_53 ?_
      refine lv_icmp_ge (tgt := 61) hx hb dX7_isAhead_54 (by decide) (fun c41 => ?_) (fun c41 => ?_)
      · replace hp := oT c41 hp
        refine lv_iconst (v := 0) hx hb dX7_isAhead_61 (by decide) ?_
        exact mr_zret C0 hr hlk hM rfl (Or.inl rfl) (Option.some.inj hp) (Nat.le_refl _) (Nat.le_refl _) dX7_isAhead_62
      · replace hp := oF c41 hp
        refine lv_iconst (v := 1) hx hb dX7_isAhead_57 (by decide) ?_
        refine lv_goto (tgt := 62) hx hb dX7_isAhead_58 (by decide) ?_
        exact mr_zret C0 hr hlk hM rfl (Or.inr rfl) (Option.some.inj hp) (Nat.le_refl _) (Nat.le_refl _) dX7_isAhead_62
abbrev rm_X7_isHere : Room := { frames := 0, cells := 0, slots := 0, locals := 0 }
def p_X7_isHere (a0 : Nat) (a1 : Int32) (M : Mem) : Option (Int32) :=
  (Option.bind (gR 6 0 M a0) fun v1 =>
  (Option.bind (aI 0 M v1 ((404 : Int32) + a1)) fun v2 =>
  (if v2 = 0 then
   some (1 : Int32)
  else
   some (0 : Int32)
  )
  )
  )
theorem yk_X7_isHere : yok yX7_isHere 1 := by decide +kernel
set_option maxHeartbeats 4000000 in
set_option maxRecDepth 100000 in
theorem w_X7_isHere {G : gG} (hG : GOK G) {l : Launch} {a0 : Nat} {a1 : Int32} {M : Mem} {r : Int32} (hp : p_X7_isHere a0 a1 M = some r) : CT G l yX7_isHere (wT yX7_isHere cX7_isHere 2 (some FieldType.boolean)) rm_X7_isHere [.ref a0, .int a1] M (some (.int r)) M 0 0 := by
  refine CT_of (own := RX7) (maxL := 2) (ret := (some FieldType.boolean)) hG (by decide) rfl (Nat.le_of_ble_eq_true rfl) (fun p e s m below meth c A C0 hr hlk hM ls hl => ?_)
  have hl : lv_has ls 2 [(0, .ref a0), (1, .int a1)] := hl
  generalize ([.ref a0, .int a1] : List Value).toArray = args at C0 ⊢
  skip
  have hx := C0.1
  have hb := C0.2.1
  have hown := C0.2.2.2.1
  have hts := C0.2.2.2.2.1
  unfold p_X7_isHere at hp
  refine lv_aload_n hx hb dX7_isHere_0 rfl (lv_at hl 0 rfl) ?_
  obtain ⟨v1, hv1, hp⟩ := ob hp
  refine mr_getR C0 cbX7 hM 0 (by decide) tw_1224 hv1 dX7_isHere_1 ?_
  refine lv_sipush (v := 404) hx hb dX7_isHere_4 (by decide) ?_
  refine lv_iload_n hx hb dX7_isHere_7 rfl (lv_at hl 1 rfl) ?_
  refine lv_iadd hx hb dX7_isHere_8 ?_
  obtain ⟨v2, hv2, hp⟩ := ob hp
  refine mr_iald C0 hM hv2 dX7_isHere_9 ?_
  refine lv_if_ne (tgt := 17) hx hb dX7_isHere_10 (by decide) (fun c3 => ?_) (fun c3 => ?_)
  · replace hp := oF c3 hp
    refine lv_iconst (v := 0) hx hb dX7_isHere_17 (by decide) ?_
    exact mr_zret C0 hr hlk hM rfl (Or.inl rfl) (Option.some.inj hp) (Nat.le_refl _) (Nat.le_refl _) dX7_isHere_18
  · replace hp := oT c3 hp
    refine lv_iconst (v := 1) hx hb dX7_isHere_13 (by decide) ?_
    refine lv_goto (tgt := 18) hx hb dX7_isHere_14 (by decide) ?_
    exact mr_zret C0 hr hlk hM rfl (Or.inr rfl) (Option.some.inj hp) (Nat.le_refl _) (Nat.le_refl _) dX7_isHere_18
abbrev rm_X7_wishOf : Room := { frames := 0, cells := 0, slots := 0, locals := 0 }
def pl_X7_wishOf_2 (k1 : Int32 → Option (Int32)) (k2 : Unit → Option (Int32)) (f0 : Nat) (f1 : Int32) (f2 : Int32) (M : Mem) : Nat → Int32 → Option (Int32)
  | 0, _ => none
  | n + 1, y3 =>
    (Option.bind (gR 6 0 M f0) fun v1 =>
    (Option.bind (aI 0 M v1 ((324 : Int32) + f1)) fun v2 =>
    (if v2 ≤ y3 then
     (k2 ())
    else
     (Option.bind (gR 6 0 M f0) fun v4 =>
     (Option.bind (aI 0 M v4 (((564 : Int32) + ((4 : Int32) * f1)) + y3)) fun v5 =>
     (if v5 = f2 then
      (k1 y3)
     else
      (pl_X7_wishOf_2 k1 k2 f0 f1 f2 M n (y3 + (1 : Int32)))
     )
     )
     )
    )
    )
    )
set_option maxHeartbeats 4000000 in
set_option maxRecDepth 100000 in
theorem wl_X7_wishOf_2 {G : gG} {p : Program} {l : Launch} {e : Env} {s : State} {m : MethodId} {args : Array Value} {below : List Frame} {meth : Method} {c : Code} {A : Nat → Prop} {r : Int32} {k1 : Int32 → Option (Int32)} {k2 : Unit → Option (Int32)} {f0 : Nat} {f1 : Int32} {f2 : Int32} {M : Mem} (C0 : cx G p s m args c cX7_wishOf RX7 4 A) (hr : meth.sig.returnType = (some FieldType.int)) (hlk : meth.locks = false) (hG : GOK G) (hk1 : ∀ (z3 : Int32) (H : Heap) (locs : List Loc) (ls : Array Slot), mm G A s M H locs → lv_has ls 4 [(3, .int z3)] → k1 z3 = some r → W p l e rm_X7_wishOf s m args below meth c H locs 0 0 (MQ below (CQ G M (some (.int r)) A) args s 0 0 A) (F0 m 34 ls [])) (hk2 : ∀ (H : Heap) (locs : List Loc) (ls : Array Slot), mm G A s M H locs → lv_has ls 4 [] → k2 () = some r → W p l e rm_X7_wishOf s m args below meth c H locs 0 0 (MQ below (CQ G M (some (.int r)) A) args s 0 0 A) (F0 m 42 ls [])) : ∀ (n : Nat) (y3 : Int32) (H : Heap) (locs : List Loc) (ls : Array Slot), mm G A s M H locs → lv_has ls 4 [(0, .ref f0), (1, .int f1), (2, .int f2), (3, .int y3)] → pl_X7_wishOf_2 k1 k2 f0 f1 f2 M n y3 = some r → W p l e rm_X7_wishOf s m args below meth c H locs 0 0 (MQ below (CQ G M (some (.int r)) A) args s 0 0 A) (F0 m 2 ls []) := by
  have hx := C0.1
  have hb := C0.2.1
  have hown := C0.2.2.2.1
  have hts := C0.2.2.2.2.1
  intro n
  induction n with
  | zero => intro y3 H locs ls hM hl hp; rw [pl_X7_wishOf_2] at hp; cases hp
  | succ n ih =>
    intro y3 H locs ls hM hl hp
    rw [pl_X7_wishOf_2] at hp
    refine lv_iload_n hx hb dX7_wishOf_2 rfl (lv_at hl 3 rfl) ?_
    refine lv_aload_n hx hb dX7_wishOf_3 rfl (lv_at hl 0 rfl) ?_
    obtain ⟨v1, hv1, hp⟩ := ob hp
    refine mr_getR C0 cbX7 hM 0 (by decide) tw_1224 hv1 dX7_wishOf_4 ?_
    refine lv_sipush (v := 324) hx hb dX7_wishOf_7 (by decide) ?_
    refine lv_iload_n hx hb dX7_wishOf_10 rfl (lv_at hl 1 rfl) ?_
    refine lv_iadd hx hb dX7_wishOf_11 ?_
    obtain ⟨v2, hv2, hp⟩ := ob hp
    refine mr_iald C0 hM hv2 dX7_wishOf_12 ?_
    refine lv_icmp_ge (tgt := 42) hx hb dX7_wishOf_13 (by decide) (fun c3 => ?_) (fun c3 => ?_)
    · replace hp := oT c3 hp
      exact hk2  _ _ _ hM (lv_sub hl [] rfl) hp
    · replace hp := oF c3 hp
      refine lv_aload_n hx hb dX7_wishOf_16 rfl (lv_at hl 0 rfl) ?_
      obtain ⟨v4, hv4, hp⟩ := ob hp
      refine mr_getR C0 cbX7 hM 0 (by decide) tw_1224 hv4 dX7_wishOf_17 ?_
      refine lv_sipush (v := 564) hx hb dX7_wishOf_20 (by decide) ?_
      refine lv_iconst (v := 4) hx hb dX7_wishOf_23 (by decide) ?_
      refine lv_iload_n hx hb dX7_wishOf_24 rfl (lv_at hl 1 rfl) ?_
      refine lv_imul hx hb dX7_wishOf_25 ?_
      refine lv_iadd hx hb dX7_wishOf_26 ?_
      refine lv_iload_n hx hb dX7_wishOf_27 rfl (lv_at hl 3 rfl) ?_
      refine lv_iadd hx hb dX7_wishOf_28 ?_
      obtain ⟨v5, hv5, hp⟩ := ob hp
      refine mr_iald C0 hM hv5 dX7_wishOf_29 ?_
      refine lv_iload_n hx hb dX7_wishOf_30 rfl (lv_at hl 2 rfl) ?_
      refine lv_icmp_ne (tgt := 36) hx hb dX7_wishOf_31 (by decide) (fun c6 => ?_) (fun c6 => ?_)
      · replace hp := oF c6 hp
        refine lv_iinc (v := (y3 + (1 : Int32))) (lv' := [(3, .int (y3 + (1 : Int32))), (0, .ref f0), (1, .int f1), (2, .int f2)]) hx hb dX7_wishOf_36 hl (k := 3) rfl rfl (by decide) rfl (fun ls hl => ?_)
        refine lv_goto (tgt := 2) hx hb dX7_wishOf_39 (by decide) ?_
        exact ih _ _ _ _ hM (lv_sub hl [1, 2, 3, 0] rfl) hp
      · replace hp := oT c6 hp
        exact hk1 _ _ _ _ hM (lv_sub hl [3] rfl) hp
def p_X7_wishOf (a0 : Nat) (a1 : Int32) (a2 : Int32) (M : Mem) : Option (Int32) :=
  (pl_X7_wishOf_2
   (fun (z7 : Int32) =>
    some z7
   )
   (fun (_ : Unit) =>
    some (-1 : Int32)
   )
   a0 a1 a2 M FU (0 : Int32))
theorem yk_X7_wishOf : yok yX7_wishOf 2 := by decide +kernel
set_option maxHeartbeats 4000000 in
set_option maxRecDepth 100000 in
theorem w_X7_wishOf {G : gG} (hG : GOK G) {l : Launch} {a0 : Nat} {a1 : Int32} {a2 : Int32} {M : Mem} {r : Int32} (hp : p_X7_wishOf a0 a1 a2 M = some r) : CT G l yX7_wishOf (wT yX7_wishOf cX7_wishOf 4 (some FieldType.int)) rm_X7_wishOf [.ref a0, .int a1, .int a2] M (some (.int r)) M 0 0 := by
  refine CT_of (own := RX7) (maxL := 4) (ret := (some FieldType.int)) hG (by decide) rfl (Nat.le_of_ble_eq_true rfl) (fun p e s m below meth c A C0 hr hlk hM ls hl => ?_)
  have hl : lv_has ls 4 [(0, .ref a0), (1, .int a1), (2, .int a2)] := hl
  generalize ([.ref a0, .int a1, .int a2] : List Value).toArray = args at C0 ⊢
  skip
  have hx := C0.1
  have hb := C0.2.1
  have hown := C0.2.2.2.1
  have hts := C0.2.2.2.2.1
  unfold p_X7_wishOf at hp
  refine lv_iconst (v := 0) hx hb dX7_wishOf_0 (by decide) ?_
  refine lv_istore_n (lv' := [(3, .int (0 : Int32)), (0, .ref a0), (1, .int a1), (2, .int a2)]) hx hb dX7_wishOf_1 rfl hl (by decide) rfl (fun ls hl => ?_)
  refine wl_X7_wishOf_2 C0 hr hlk hG (fun z7 H locs ls hM hl hp => ?_) (fun  H locs ls hM hl hp => ?_) FU _ _ _ _ hM (lv_sub hl [1, 2, 3, 0] rfl) hp
  · refine lv_iload_n hx hb dX7_wishOf_34 rfl (lv_at hl 0 rfl) ?_
    exact mr_iret C0 hr hlk hM rfl (Option.some.inj hp) (Nat.le_refl _) (Nat.le_refl _) dX7_wishOf_35
  · refine lv_iconst (v := -1) hx hb dX7_wishOf_42 (by decide) ?_
    exact mr_iret C0 hr hlk hM rfl (Option.some.inj hp) (Nat.le_refl _) (Nat.le_refl _) dX7_wishOf_43
abbrev rm_X7_gotOf : Room := { frames := 1, cells := 0, slots := 0, locals := 23 }
def p_X7_gotOf (a0 : Nat) (a1 : Int32) (M : Mem) : Option (Int32) :=
  (Option.bind (gR 6 0 M a0) fun v1 =>
  (Option.bind (aI 0 M v1 ((484 : Int32) + a1)) fun v2 =>
  (if v2 = (-1 : Int32) then
   some (-1 : Int32)
  else
   (Option.bind (gR 6 0 M a0) fun v4 =>
   (Option.bind (aI 0 M v4 ((484 : Int32) + a1)) fun v5 =>
   (Option.bind (isC 6 M a0) fun _ =>
   (Option.bind (p_X7_wishOf a0 a1 v5 M) fun v7 =>
   some v7
   )
   )
   )
   )
  )
  )
  )
theorem yk_X7_gotOf : yok yX7_gotOf 1 := by decide +kernel
set_option maxHeartbeats 4000000 in
set_option maxRecDepth 100000 in
theorem w_X7_gotOf {G : gG} (hG : GOK G) {l : Launch} {a0 : Nat} {a1 : Int32} {M : Mem} {r : Int32} (hp : p_X7_gotOf a0 a1 M = some r) : CT G l yX7_gotOf (wT yX7_gotOf cX7_gotOf 2 (some FieldType.int)) rm_X7_gotOf [.ref a0, .int a1] M (some (.int r)) M 0 0 := by
  refine CT_of (own := RX7) (maxL := 2) (ret := (some FieldType.int)) hG (by decide) rfl (Nat.le_of_ble_eq_true rfl) (fun p e s m below meth c A C0 hr hlk hM ls hl => ?_)
  have hl : lv_has ls 2 [(0, .ref a0), (1, .int a1)] := hl
  generalize ([.ref a0, .int a1] : List Value).toArray = args at C0 ⊢
  skip
  have hx := C0.1
  have hb := C0.2.1
  have hown := C0.2.2.2.1
  have hts := C0.2.2.2.2.1
  unfold p_X7_gotOf at hp
  refine lv_aload_n hx hb dX7_gotOf_0 rfl (lv_at hl 0 rfl) ?_
  obtain ⟨v1, hv1, hp⟩ := ob hp
  refine mr_getR C0 cbX7 hM 0 (by decide) tw_1224 hv1 dX7_gotOf_1 ?_
  refine lv_sipush (v := 484) hx hb dX7_gotOf_4 (by decide) ?_
  refine lv_iload_n hx hb dX7_gotOf_7 rfl (lv_at hl 1 rfl) ?_
  refine lv_iadd hx hb dX7_gotOf_8 ?_
  obtain ⟨v2, hv2, hp⟩ := ob hp
  refine mr_iald C0 hM hv2 dX7_gotOf_9 ?_
  refine lv_iconst (v := -1) hx hb dX7_gotOf_10 (by decide) ?_
  refine lv_icmp_ne (tgt := 18) hx hb dX7_gotOf_11 (by decide) (fun c3 => ?_) (fun c3 => ?_)
  · replace hp := oF c3 hp
    refine lv_aload_n hx hb dX7_gotOf_18 rfl (lv_at hl 0 rfl) ?_
    refine lv_iload_n hx hb dX7_gotOf_19 rfl (lv_at hl 1 rfl) ?_
    refine lv_aload_n hx hb dX7_gotOf_20 rfl (lv_at hl 0 rfl) ?_
    obtain ⟨v4, hv4, hp⟩ := ob hp
    refine mr_getR C0 cbX7 hM 0 (by decide) tw_1224 hv4 dX7_gotOf_21 ?_
    refine lv_sipush (v := 484) hx hb dX7_gotOf_24 (by decide) ?_
    refine lv_iload_n hx hb dX7_gotOf_27 rfl (lv_at hl 1 rfl) ?_
    refine lv_iadd hx hb dX7_gotOf_28 ?_
    obtain ⟨v5, hv5, hp⟩ := ob hp
    refine mr_iald C0 hM hv5 dX7_gotOf_29 ?_
    obtain ⟨_, h6, hp⟩ := ob hp
    obtain ⟨v7, hv7, hp⟩ := ob hp
    refine mr_V1 (As := [.int a1, .int v5]) (rest := []) C0 cbX7 hM h6 rfl (w_X7_wishOf hG hv7) tw_1428 tw_1430 tws_28 tw_7 tw_1431 yk_X7_wishOf (by decide) rfl hl.1 (Nat.le_of_ble_eq_true rfl) dX7_gotOf_30 rfl (fun H locs hM => ?_)
    exact mr_iret C0 hr hlk hM rfl (Option.some.inj hp) (Nat.le_refl _) (Nat.le_refl _) dX7_gotOf_33
  · replace hp := oT c3 hp
    refine lv_iconst (v := -1) hx hb dX7_gotOf_14 (by decide) ?_
    refine lv_goto (tgt := 33) hx hb dX7_gotOf_15 (by decide) ?_
    exact mr_iret C0 hr hlk hM rfl (Option.some.inj hp) (Nat.le_refl _) (Nat.le_refl _) dX7_gotOf_33
abbrev rm_X7_holders : Room := { frames := 0, cells := 0, slots := 0, locals := 0 }
def pl_X7_holders_4 (k1 : Int32 → Option (Int32)) (f0 : Nat) (f1 : Int32) (M : Mem) : Nat → Int32 → Int32 → Option (Int32)
  | 0, _, _ => none
  | n + 1, y2, y3 =>
    (Option.bind (gR 6 0 M f0) fun v1 =>
    (Option.bind (aI 0 M v1 (1 : Int32)) fun v2 =>
    (if v2 ≤ y3 then
     (k1 y2)
    else
     (Option.bind (gR 6 0 M f0) fun v4 =>
     (Option.bind (aI 0 M v4 ((484 : Int32) + y3)) fun v5 =>
     (jn (fun (s6 : Int32) =>
      (pl_X7_holders_4 k1 f0 f1 M n (y2 + s6) (y3 + (1 : Int32)))
     ) fun k7 =>
     (if v5 = f1 then
      (k7 (1 : Int32))
     else
      (k7 (0 : Int32))
     )
     )
     )
     )
    )
    )
    )
set_option maxHeartbeats 4000000 in
set_option maxRecDepth 100000 in
theorem wl_X7_holders_4 {G : gG} {p : Program} {l : Launch} {e : Env} {s : State} {m : MethodId} {args : Array Value} {below : List Frame} {meth : Method} {c : Code} {A : Nat → Prop} {r : Int32} {k1 : Int32 → Option (Int32)} {f0 : Nat} {f1 : Int32} {M : Mem} (C0 : cx G p s m args c cX7_holders RX7 4 A) (hr : meth.sig.returnType = (some FieldType.int)) (hlk : meth.locks = false) (hG : GOK G) (hk1 : ∀ (z2 : Int32) (H : Heap) (locs : List Loc) (ls : Array Slot), mm G A s M H locs → lv_has ls 4 [(2, .int z2)] → k1 z2 = some r → W p l e rm_X7_holders s m args below meth c H locs 0 0 (MQ below (CQ G M (some (.int r)) A) args s 0 0 A) (F0 m 42 ls [])) : ∀ (n : Nat) (y2 : Int32) (y3 : Int32) (H : Heap) (locs : List Loc) (ls : Array Slot), mm G A s M H locs → lv_has ls 4 [(0, .ref f0), (1, .int f1), (2, .int y2), (3, .int y3)] → pl_X7_holders_4 k1 f0 f1 M n y2 y3 = some r → W p l e rm_X7_holders s m args below meth c H locs 0 0 (MQ below (CQ G M (some (.int r)) A) args s 0 0 A) (F0 m 4 ls []) := by
  have hx := C0.1
  have hb := C0.2.1
  have hown := C0.2.2.2.1
  have hts := C0.2.2.2.2.1
  intro n
  induction n with
  | zero => intro y2 y3 H locs ls hM hl hp; rw [pl_X7_holders_4] at hp; cases hp
  | succ n ih =>
    intro y2 y3 H locs ls hM hl hp
    rw [pl_X7_holders_4] at hp
    refine lv_iload_n hx hb dX7_holders_4 rfl (lv_at hl 3 rfl) ?_
    refine lv_aload_n hx hb dX7_holders_5 rfl (lv_at hl 0 rfl) ?_
    obtain ⟨v1, hv1, hp⟩ := ob hp
    refine mr_getR C0 cbX7 hM 0 (by decide) tw_1224 hv1 dX7_holders_6 ?_
    refine lv_iconst (v := 1) hx hb dX7_holders_9 (by decide) ?_
    obtain ⟨v2, hv2, hp⟩ := ob hp
    refine mr_iald C0 hM hv2 dX7_holders_10 ?_
    refine lv_icmp_ge (tgt := 42) hx hb dX7_holders_11 (by decide) (fun c3 => ?_) (fun c3 => ?_)
    · replace hp := oT c3 hp
      exact hk1 _ _ _ _ hM (lv_sub hl [2] rfl) hp
    · replace hp := oF c3 hp
      refine lv_iload_n hx hb dX7_holders_14 rfl (lv_at hl 2 rfl) ?_
      refine lv_aload_n hx hb dX7_holders_15 rfl (lv_at hl 0 rfl) ?_
      obtain ⟨v4, hv4, hp⟩ := ob hp
      refine mr_getR C0 cbX7 hM 0 (by decide) tw_1224 hv4 dX7_holders_16 ?_
      refine lv_sipush (v := 484) hx hb dX7_holders_19 (by decide) ?_
      refine lv_iload_n hx hb dX7_holders_22 rfl (lv_at hl 3 rfl) ?_
      refine lv_iadd hx hb dX7_holders_23 ?_
      obtain ⟨v5, hv5, hp⟩ := ob hp
      refine mr_iald C0 hM hv5 dX7_holders_24 ?_
      refine lv_iload_n hx hb dX7_holders_25 rfl (lv_at hl 1 rfl) ?_
      obtain ⟨k7, ek7, hp⟩ := ojn hp
      have hk7 : ∀ (s6 : Int32) (H : Heap) (locs : List Loc) (ls : Array Slot), mm G A s M H locs → lv_has ls 4 [(0, .ref f0), (1, .int f1), (3, .int y3)] → k7 s6 = some r → W p l e rm_X7_holders s m args below meth c H locs 0 0 (MQ below (CQ G M (some (.int r)) A) args s 0 0 A) (F0 m 34 ls [.int s6, .int y2]) := by
        intro s6 H locs ls hM hl hp
        rw [ek7] at hp
        refine lv_iadd hx hb dX7_holders_34 ?_
        refine lv_istore_n (lv' := [(2, .int (y2 + s6)), (0, .ref f0), (1, .int f1), (3, .int y3)]) hx hb dX7_holders_35 rfl hl (by decide) rfl (fun ls hl => ?_)
        refine lv_iinc (v := (y3 + (1 : Int32))) (lv' := [(3, .int (y3 + (1 : Int32))), (2, .int (y2 + s6)), (0, .ref f0), (1, .int f1)]) hx hb dX7_holders_36 hl (k := 3) rfl rfl (by decide) rfl (fun ls hl => ?_)
        refine lv_goto (tgt := 4) hx hb dX7_holders_39 (by decide) ?_
        exact ih _ _ _ _ _ hM (lv_sub hl [2, 3, 1, 0] rfl) hp
      refine lv_icmp_ne (tgt := 33) hx hb dX7_holders_26 (by decide) (fun c8 => ?_) (fun c8 => ?_)
      · replace hp := oF c8 hp
        refine lv_iconst (v := 0) hx hb dX7_holders_33 (by decide) ?_
        exact hk7 _ _ _ _ hM (lv_sub hl [0, 1, 3] rfl) hp
      · replace hp := oT c8 hp
        refine lv_iconst (v := 1) hx hb dX7_holders_29 (by decide) ?_
        refine lv_goto (tgt := 34) hx hb dX7_holders_30 (by decide) ?_
        exact hk7 _ _ _ _ hM (lv_sub hl [0, 1, 3] rfl) hp
def p_X7_holders (a0 : Nat) (a1 : Int32) (M : Mem) : Option (Int32) :=
  (pl_X7_holders_4
   (fun (z9 : Int32) =>
    some z9
   )
   a0 a1 M FU (0 : Int32) (0 : Int32))
theorem yk_X7_holders : yok yX7_holders 1 := by decide +kernel
set_option maxHeartbeats 4000000 in
set_option maxRecDepth 100000 in
theorem w_X7_holders {G : gG} (hG : GOK G) {l : Launch} {a0 : Nat} {a1 : Int32} {M : Mem} {r : Int32} (hp : p_X7_holders a0 a1 M = some r) : CT G l yX7_holders (wT yX7_holders cX7_holders 4 (some FieldType.int)) rm_X7_holders [.ref a0, .int a1] M (some (.int r)) M 0 0 := by
  refine CT_of (own := RX7) (maxL := 4) (ret := (some FieldType.int)) hG (by decide) rfl (Nat.le_of_ble_eq_true rfl) (fun p e s m below meth c A C0 hr hlk hM ls hl => ?_)
  have hl : lv_has ls 4 [(0, .ref a0), (1, .int a1)] := hl
  generalize ([.ref a0, .int a1] : List Value).toArray = args at C0 ⊢
  skip
  have hx := C0.1
  have hb := C0.2.1
  have hown := C0.2.2.2.1
  have hts := C0.2.2.2.2.1
  unfold p_X7_holders at hp
  refine lv_iconst (v := 0) hx hb dX7_holders_0 (by decide) ?_
  refine lv_istore_n (lv' := [(2, .int (0 : Int32)), (0, .ref a0), (1, .int a1)]) hx hb dX7_holders_1 rfl hl (by decide) rfl (fun ls hl => ?_)
  refine lv_iconst (v := 0) hx hb dX7_holders_2 (by decide) ?_
  refine lv_istore_n (lv' := [(3, .int (0 : Int32)), (2, .int (0 : Int32)), (0, .ref a0), (1, .int a1)]) hx hb dX7_holders_3 rfl hl (by decide) rfl (fun ls hl => ?_)
  refine wl_X7_holders_4 C0 hr hlk hG (fun z9 H locs ls hM hl hp => ?_) FU _ _ _ _ _ hM (lv_sub hl [2, 3, 1, 0] rfl) hp
  refine lv_iload_n hx hb dX7_holders_42 rfl (lv_at hl 0 rfl) ?_
  exact mr_iret C0 hr hlk hM rfl (Option.some.inj hp) (Nat.le_refl _) (Nat.le_refl _) dX7_holders_43
abbrev rm_X7_waits : Room := { frames := 2, cells := 0, slots := 0, locals := 44 }
def p_X7_waits (a0 : Nat) (a1 : Int32) (a2 : Int32) (M : Mem) : Option (Int32) :=
  (Option.bind (gR 6 0 M a0) fun v1 =>
  (Option.bind (aI 0 M v1 (8 : Int32)) fun v2 =>
  (if v2 = 0 then
   some (0 : Int32)
  else
   (Option.bind (isC 6 M a0) fun _ =>
   (Option.bind (p_X7_isHere a0 a1 M) fun v5 =>
   (if v5 = 0 then
    some (0 : Int32)
   else
    (Option.bind (isC 6 M a0) fun _ =>
    (Option.bind (p_X7_wishOf a0 a1 a2 M) fun v8 =>
    (if v8 = (-1 : Int32) then
     some (0 : Int32)
    else
     (Option.bind (gR 6 0 M a0) fun v10 =>
     (Option.bind (aI 0 M v10 ((484 : Int32) + a1)) fun v11 =>
     (if v11 = (-1 : Int32) then
      some (1 : Int32)
     else
      (Option.bind (isC 6 M a0) fun _ =>
      (Option.bind (p_X7_gotOf a0 a1 M) fun v14 =>
      (if v14 ≤ v8 then
       some (0 : Int32)
      else
       some (1 : Int32)
      )
      )
      )
     )
     )
     )
    )
    )
    )
   )
   )
   )
  )
  )
  )
theorem yk_X7_waits : yok yX7_waits 2 := by decide +kernel
set_option maxHeartbeats 4000000 in
set_option maxRecDepth 100000 in
theorem w_X7_waits {G : gG} (hG : GOK G) {l : Launch} {a0 : Nat} {a1 : Int32} {a2 : Int32} {M : Mem} {r : Int32} (hp : p_X7_waits a0 a1 a2 M = some r) : CT G l yX7_waits (wT yX7_waits cX7_waits 4 (some FieldType.boolean)) rm_X7_waits [.ref a0, .int a1, .int a2] M (some (.int r)) M 0 0 := by
  refine CT_of (own := RX7) (maxL := 4) (ret := (some FieldType.boolean)) hG (by decide) rfl (Nat.le_of_ble_eq_true rfl) (fun p e s m below meth c A C0 hr hlk hM ls hl => ?_)
  have hl : lv_has ls 4 [(0, .ref a0), (1, .int a1), (2, .int a2)] := hl
  generalize ([.ref a0, .int a1, .int a2] : List Value).toArray = args at C0 ⊢
  skip
  have hx := C0.1
  have hb := C0.2.1
  have hown := C0.2.2.2.1
  have hts := C0.2.2.2.2.1
  unfold p_X7_waits at hp
  refine lv_aload_n hx hb dX7_waits_0 rfl (lv_at hl 0 rfl) ?_
  obtain ⟨v1, hv1, hp⟩ := ob hp
  refine mr_getR C0 cbX7 hM 0 (by decide) tw_1224 hv1 dX7_waits_1 ?_
  refine lv_bipush (v := 8) hx hb dX7_waits_4 (by decide) ?_
  obtain ⟨v2, hv2, hp⟩ := ob hp
  refine mr_iald C0 hM hv2 dX7_waits_6 ?_
  refine lv_if_eq (tgt := 18) hx hb dX7_waits_7 (by decide) (fun c3 => ?_) (fun c3 => ?_)
  · replace hp := oT c3 hp
    refine lv_iconst (v := 0) hx hb dX7_waits_18 (by decide) ?_
    exact mr_zret C0 hr hlk hM rfl (Or.inl rfl) (Option.some.inj hp) (Nat.le_refl _) (Nat.le_refl _) dX7_waits_19
  · replace hp := oF c3 hp
    refine lv_aload_n hx hb dX7_waits_10 rfl (lv_at hl 0 rfl) ?_
    refine lv_iload_n hx hb dX7_waits_11 rfl (lv_at hl 1 rfl) ?_
    obtain ⟨_, h4, hp⟩ := ob hp
    obtain ⟨v5, hv5, hp⟩ := ob hp
    refine mr_V1 (As := [.int a1]) (rest := []) C0 cbX7 hM h4 rfl (w_X7_isHere hG hv5) tw_1495 tw_1497 tws_40 tw_7 tw_1498 yk_X7_isHere (by decide) rfl hl.1 (Nat.le_of_ble_eq_true rfl) dX7_waits_12 rfl (fun H locs hM => ?_)
    refine lv_if_ne (tgt := 20) hx hb dX7_waits_15 (by decide) (fun c6 => ?_) (fun c6 => ?_)
    · replace hp := oF c6 hp
      refine lv_aload_n hx hb dX7_waits_20 rfl (lv_at hl 0 rfl) ?_
      refine lv_iload_n hx hb dX7_waits_21 rfl (lv_at hl 1 rfl) ?_
      refine lv_iload_n hx hb dX7_waits_22 rfl (lv_at hl 2 rfl) ?_
      obtain ⟨_, h7, hp⟩ := ob hp
      obtain ⟨v8, hv8, hp⟩ := ob hp
      refine mr_V1 (As := [.int a1, .int a2]) (rest := []) C0 cbX7 hM h7 rfl (w_X7_wishOf hG hv8) tw_1428 tw_1430 tws_28 tw_7 tw_1431 yk_X7_wishOf (by decide) rfl hl.1 (Nat.le_of_ble_eq_true rfl) dX7_waits_23 rfl (fun H locs hM => ?_)
      refine lv_istore_n (lv' := [(3, .int v8), (0, .ref a0), (1, .int a1), (2, .int a2)]) hx hb dX7_waits_26 rfl hl (by decide) rfl (fun ls hl => ?_)
      refine lv_iload_n hx hb dX7_waits_27 rfl (lv_at hl 0 rfl) ?_
      refine lv_iconst (v := -1) hx hb dX7_waits_28 (by decide) ?_
      refine lv_icmp_eq (tgt := 59) hx hb dX7_waits_29 (by decide) (fun c9 => ?_) (fun c9 => ?_)
      · replace hp := oT c9 hp
        refine lv_iconst (v := 0) hx hb dX7_waits_59 (by decide) ?_
        exact mr_zret C0 hr hlk hM rfl (Or.inl rfl) (Option.some.inj hp) (Nat.le_refl _) (Nat.le_refl _) dX7_waits_60
      · replace hp := oF c9 hp
        refine lv_aload_n hx hb dX7_waits_32 rfl (lv_at hl 1 rfl) ?_
        obtain ⟨v10, hv10, hp⟩ := ob hp
        refine mr_getR C0 cbX7 hM 0 (by decide) tw_1224 hv10 dX7_waits_33 ?_
        refine lv_sipush (v := 484) hx hb dX7_waits_36 (by decide) ?_
        refine lv_iload_n hx hb dX7_waits_39 rfl (lv_at hl 2 rfl) ?_
        refine lv_iadd hx hb dX7_waits_40 ?_
        obtain ⟨v11, hv11, hp⟩ := ob hp
        refine mr_iald C0 hM hv11 dX7_waits_41 ?_
        refine lv_iconst (v := -1) hx hb dX7_waits_42 (by decide) ?_
        refine lv_icmp_eq (tgt := 55) hx hb dX7_waits_43 (by decide) (fun c12 => ?_) (fun c12 => ?_)
        · replace hp := oT c12 hp
          refine lv_iconst (v := 1) hx hb dX7_waits_55 (by decide) ?_
          refine lv_goto (tgt := 60) hx hb dX7_waits_56 (by decide) ?_
          exact mr_zret C0 hr hlk hM rfl (Or.inr rfl) (Option.some.inj hp) (Nat.le_refl _) (Nat.le_refl _) dX7_waits_60
        · replace hp := oF c12 hp
          refine lv_iload_n hx hb dX7_waits_46 rfl (lv_at hl 0 rfl) ?_
          refine lv_aload_n hx hb dX7_waits_47 rfl (lv_at hl 1 rfl) ?_
          refine lv_iload_n hx hb dX7_waits_48 rfl (lv_at hl 2 rfl) ?_
          obtain ⟨_, h13, hp⟩ := ob hp
          obtain ⟨v14, hv14, hp⟩ := ob hp
          refine mr_V1 (As := [.int a1]) (rest := [.int v8]) C0 cbX7 hM h13 rfl (w_X7_gotOf hG hv14) tw_1499 tw_1501 tws_41 tw_7 tw_1502 yk_X7_gotOf (by decide) rfl hl.1 (Nat.le_of_ble_eq_true rfl) dX7_waits_49 rfl (fun H locs hM => ?_)
          refine lv_icmp_ge (tgt := 59) hx hb dX7_waits_52 (by decide) (fun c15 => ?_) (fun c15 => ?_)
          · replace hp := oT c15 hp
            refine lv_iconst (v := 0) hx hb dX7_waits_59 (by decide) ?_
            exact mr_zret C0 hr hlk hM rfl (Or.inl rfl) (Option.some.inj hp) (Nat.le_refl _) (Nat.le_refl _) dX7_waits_60
          · replace hp := oF c15 hp
            refine lv_iconst (v := 1) hx hb dX7_waits_55 (by decide) ?_
            refine lv_goto (tgt := 60) hx hb dX7_waits_56 (by decide) ?_
            exact mr_zret C0 hr hlk hM rfl (Or.inr rfl) (Option.some.inj hp) (Nat.le_refl _) (Nat.le_refl _) dX7_waits_60
    · replace hp := oT c6 hp
      refine lv_iconst (v := 0) hx hb dX7_waits_18 (by decide) ?_
      exact mr_zret C0 hr hlk hM rfl (Or.inl rfl) (Option.some.inj hp) (Nat.le_refl _) (Nat.le_refl _) dX7_waits_19
abbrev rm_X7_waitingMany : Room := { frames := 3, cells := 0, slots := 0, locals := 67 }
def pl_X7_waitingMany_4 (k1 : Int32 → Option (Int32)) (f0 : Nat) (f1 : Int32) (M : Mem) : Nat → Int32 → Int32 → Option (Int32)
  | 0, _, _ => none
  | n + 1, y2, y3 =>
    (Option.bind (gR 6 0 M f0) fun v1 =>
    (Option.bind (aI 0 M v1 (1 : Int32)) fun v2 =>
    (if v2 ≤ y3 then
     (k1 y2)
    else
     (Option.bind (isC 6 M f0) fun _ =>
     (Option.bind (p_X7_waits f0 y3 f1 M) fun v5 =>
     (jn (fun (s6 : Int32) =>
      (pl_X7_waitingMany_4 k1 f0 f1 M n (y2 + s6) (y3 + (1 : Int32)))
     ) fun k7 =>
     (if v5 = 0 then
      (k7 (0 : Int32))
     else
      (k7 (1 : Int32))
     )
     )
     )
     )
    )
    )
    )
set_option maxHeartbeats 4000000 in
set_option maxRecDepth 100000 in
theorem wl_X7_waitingMany_4 {G : gG} {p : Program} {l : Launch} {e : Env} {s : State} {m : MethodId} {args : Array Value} {below : List Frame} {meth : Method} {c : Code} {A : Nat → Prop} {r : Int32} {k1 : Int32 → Option (Int32)} {f0 : Nat} {f1 : Int32} {M : Mem} (C0 : cx G p s m args c cX7_waitingMany RX7 4 A) (hr : meth.sig.returnType = (some FieldType.int)) (hlk : meth.locks = false) (hG : GOK G) (hk1 : ∀ (z2 : Int32) (H : Heap) (locs : List Loc) (ls : Array Slot), mm G A s M H locs → lv_has ls 4 [(2, .int z2)] → k1 z2 = some r → W p l e rm_X7_waitingMany s m args below meth c H locs 0 0 (MQ below (CQ G M (some (.int r)) A) args s 0 0 A) (F0 m 37 ls [])) : ∀ (n : Nat) (y2 : Int32) (y3 : Int32) (H : Heap) (locs : List Loc) (ls : Array Slot), mm G A s M H locs → lv_has ls 4 [(0, .ref f0), (1, .int f1), (2, .int y2), (3, .int y3)] → pl_X7_waitingMany_4 k1 f0 f1 M n y2 y3 = some r → W p l e rm_X7_waitingMany s m args below meth c H locs 0 0 (MQ below (CQ G M (some (.int r)) A) args s 0 0 A) (F0 m 4 ls []) := by
  have hx := C0.1
  have hb := C0.2.1
  have hown := C0.2.2.2.1
  have hts := C0.2.2.2.2.1
  intro n
  induction n with
  | zero => intro y2 y3 H locs ls hM hl hp; rw [pl_X7_waitingMany_4] at hp; cases hp
  | succ n ih =>
    intro y2 y3 H locs ls hM hl hp
    rw [pl_X7_waitingMany_4] at hp
    refine lv_iload_n hx hb dX7_waitingMany_4 rfl (lv_at hl 3 rfl) ?_
    refine lv_aload_n hx hb dX7_waitingMany_5 rfl (lv_at hl 0 rfl) ?_
    obtain ⟨v1, hv1, hp⟩ := ob hp
    refine mr_getR C0 cbX7 hM 0 (by decide) tw_1224 hv1 dX7_waitingMany_6 ?_
    refine lv_iconst (v := 1) hx hb dX7_waitingMany_9 (by decide) ?_
    obtain ⟨v2, hv2, hp⟩ := ob hp
    refine mr_iald C0 hM hv2 dX7_waitingMany_10 ?_
    refine lv_icmp_ge (tgt := 37) hx hb dX7_waitingMany_11 (by decide) (fun c3 => ?_) (fun c3 => ?_)
    · replace hp := oT c3 hp
      exact hk1 _ _ _ _ hM (lv_sub hl [2] rfl) hp
    · replace hp := oF c3 hp
      refine lv_iload_n hx hb dX7_waitingMany_14 rfl (lv_at hl 2 rfl) ?_
      refine lv_aload_n hx hb dX7_waitingMany_15 rfl (lv_at hl 0 rfl) ?_
      refine lv_iload_n hx hb dX7_waitingMany_16 rfl (lv_at hl 3 rfl) ?_
      refine lv_iload_n hx hb dX7_waitingMany_17 rfl (lv_at hl 1 rfl) ?_
      obtain ⟨_, h4, hp⟩ := ob hp
      obtain ⟨v5, hv5, hp⟩ := ob hp
      refine mr_V1 (As := [.int y3, .int f1]) (rest := [.int y2]) C0 cbX7 hM h4 rfl (w_X7_waits hG hv5) tw_1491 tw_1493 tws_39 tw_7 tw_1494 yk_X7_waits (by decide) rfl hl.1 (Nat.le_of_ble_eq_true rfl) dX7_waitingMany_18 rfl (fun H locs hM => ?_)
      obtain ⟨k7, ek7, hp⟩ := ojn hp
      have hk7 : ∀ (s6 : Int32) (H : Heap) (locs : List Loc) (ls : Array Slot), mm G A s M H locs → lv_has ls 4 [(0, .ref f0), (1, .int f1), (3, .int y3)] → k7 s6 = some r → W p l e rm_X7_waitingMany s m args below meth c H locs 0 0 (MQ below (CQ G M (some (.int r)) A) args s 0 0 A) (F0 m 29 ls [.int s6, .int y2]) := by
        intro s6 H locs ls hM hl hp
        rw [ek7] at hp
        refine lv_iadd hx hb dX7_waitingMany_29 ?_
        refine lv_istore_n (lv' := [(2, .int (y2 + s6)), (0, .ref f0), (1, .int f1), (3, .int y3)]) hx hb dX7_waitingMany_30 rfl hl (by decide) rfl (fun ls hl => ?_)
        refine lv_iinc (v := (y3 + (1 : Int32))) (lv' := [(3, .int (y3 + (1 : Int32))), (2, .int (y2 + s6)), (0, .ref f0), (1, .int f1)]) hx hb dX7_waitingMany_31 hl (k := 3) rfl rfl (by decide) rfl (fun ls hl => ?_)
        refine lv_goto (tgt := 4) hx hb dX7_waitingMany_34 (by decide) ?_
        exact ih _ _ _ _ _ hM (lv_sub hl [2, 3, 1, 0] rfl) hp
      refine lv_if_eq (tgt := 28) hx hb dX7_waitingMany_21 (by decide) (fun c8 => ?_) (fun c8 => ?_)
      · replace hp := oT c8 hp
        refine lv_iconst (v := 0) hx hb dX7_waitingMany_28 (by decide) ?_
        exact hk7 _ _ _ _ hM (lv_sub hl [0, 1, 3] rfl) hp
      · replace hp := oF c8 hp
        refine lv_iconst (v := 1) hx hb dX7_waitingMany_24 (by decide) ?_
        refine lv_goto (tgt := 29) hx hb dX7_waitingMany_25 (by decide) ?_
        exact hk7 _ _ _ _ hM (lv_sub hl [0, 1, 3] rfl) hp
def p_X7_waitingMany (a0 : Nat) (a1 : Int32) (M : Mem) : Option (Int32) :=
  (pl_X7_waitingMany_4
   (fun (z9 : Int32) =>
    some z9
   )
   a0 a1 M FU (0 : Int32) (0 : Int32))
theorem yk_X7_waitingMany : yok yX7_waitingMany 1 := by decide +kernel
set_option maxHeartbeats 4000000 in
set_option maxRecDepth 100000 in
theorem w_X7_waitingMany {G : gG} (hG : GOK G) {l : Launch} {a0 : Nat} {a1 : Int32} {M : Mem} {r : Int32} (hp : p_X7_waitingMany a0 a1 M = some r) : CT G l yX7_waitingMany (wT yX7_waitingMany cX7_waitingMany 4 (some FieldType.int)) rm_X7_waitingMany [.ref a0, .int a1] M (some (.int r)) M 0 0 := by
  refine CT_of (own := RX7) (maxL := 4) (ret := (some FieldType.int)) hG (by decide) rfl (Nat.le_of_ble_eq_true rfl) (fun p e s m below meth c A C0 hr hlk hM ls hl => ?_)
  have hl : lv_has ls 4 [(0, .ref a0), (1, .int a1)] := hl
  generalize ([.ref a0, .int a1] : List Value).toArray = args at C0 ⊢
  skip
  have hx := C0.1
  have hb := C0.2.1
  have hown := C0.2.2.2.1
  have hts := C0.2.2.2.2.1
  unfold p_X7_waitingMany at hp
  refine lv_iconst (v := 0) hx hb dX7_waitingMany_0 (by decide) ?_
  refine lv_istore_n (lv' := [(2, .int (0 : Int32)), (0, .ref a0), (1, .int a1)]) hx hb dX7_waitingMany_1 rfl hl (by decide) rfl (fun ls hl => ?_)
  refine lv_iconst (v := 0) hx hb dX7_waitingMany_2 (by decide) ?_
  refine lv_istore_n (lv' := [(3, .int (0 : Int32)), (2, .int (0 : Int32)), (0, .ref a0), (1, .int a1)]) hx hb dX7_waitingMany_3 rfl hl (by decide) rfl (fun ls hl => ?_)
  refine wl_X7_waitingMany_4 C0 hr hlk hG (fun z9 H locs ls hM hl hp => ?_) FU _ _ _ _ _ hM (lv_sub hl [2, 3, 1, 0] rfl) hp
  refine lv_iload_n hx hb dX7_waitingMany_37 rfl (lv_at hl 0 rfl) ?_
  exact mr_iret C0 hr hlk hM rfl (Option.some.inj hp) (Nat.le_refl _) (Nat.le_refl _) dX7_waitingMany_38
abbrev rm_X7_isOf : Room := { frames := 3, cells := 0, slots := 0, locals := 67 }
def p_X7_isOf (a0 : Nat) (a1 : Int32) (a2 : Int32) (a3 : Int32) (M : Mem) : Option (Int32) :=
  (if a3 = 0 then
   (Option.bind (gR 6 0 M a0) fun v2 =>
   (Option.bind (aI 0 M v2 ((484 : Int32) + a1)) fun v3 =>
   (if v3 = a2 then
    some (1 : Int32)
   else
    some (0 : Int32)
   )
   )
   )
  else
   (Option.bind (isC 6 M a0) fun _ =>
   (Option.bind (p_X7_waits a0 a1 a2 M) fun v6 =>
   (if v6 = 0 ∨ v6 = 1 then some v6 else none)
   )
   )
  )
theorem yk_X7_isOf : yok yX7_isOf 3 := by decide +kernel
set_option maxHeartbeats 4000000 in
set_option maxRecDepth 100000 in
theorem w_X7_isOf {G : gG} (hG : GOK G) {l : Launch} {a0 : Nat} {a1 : Int32} {a2 : Int32} {a3 : Int32} {M : Mem} {r : Int32} (hp : p_X7_isOf a0 a1 a2 a3 M = some r) : CT G l yX7_isOf (wT yX7_isOf cX7_isOf 4 (some FieldType.boolean)) rm_X7_isOf [.ref a0, .int a1, .int a2, .int a3] M (some (.int r)) M 0 0 := by
  refine CT_of (own := RX7) (maxL := 4) (ret := (some FieldType.boolean)) hG (by decide) rfl (Nat.le_of_ble_eq_true rfl) (fun p e s m below meth c A C0 hr hlk hM ls hl => ?_)
  have hl : lv_has ls 4 [(0, .ref a0), (1, .int a1), (2, .int a2), (3, .int a3)] := hl
  generalize ([.ref a0, .int a1, .int a2, .int a3] : List Value).toArray = args at C0 ⊢
  skip
  have hx := C0.1
  have hb := C0.2.1
  have hown := C0.2.2.2.1
  have hts := C0.2.2.2.2.1
  unfold p_X7_isOf at hp
  refine lv_iload_n hx hb dX7_isOf_0 rfl (lv_at hl 3 rfl) ?_
  refine lv_if_eq (tgt := 13) hx hb dX7_isOf_1 (by decide) (fun c1 => ?_) (fun c1 => ?_)
  · replace hp := oT c1 hp
    refine lv_aload_n hx hb dX7_isOf_13 rfl (lv_at hl 0 rfl) ?_
    obtain ⟨v2, hv2, hp⟩ := ob hp
    refine mr_getR C0 cbX7 hM 0 (by decide) tw_1224 hv2 dX7_isOf_14 ?_
    refine lv_sipush (v := 484) hx hb dX7_isOf_17 (by decide) ?_
    refine lv_iload_n hx hb dX7_isOf_20 rfl (lv_at hl 1 rfl) ?_
    refine lv_iadd hx hb dX7_isOf_21 ?_
    obtain ⟨v3, hv3, hp⟩ := ob hp
    refine mr_iald C0 hM hv3 dX7_isOf_22 ?_
    refine lv_iload_n hx hb dX7_isOf_23 rfl (lv_at hl 2 rfl) ?_
    refine lv_icmp_ne (tgt := 31) hx hb dX7_isOf_24 (by decide) (fun c4 => ?_) (fun c4 => ?_)
    · replace hp := oF c4 hp
      refine lv_iconst (v := 0) hx hb dX7_isOf_31 (by decide) ?_
      exact mr_zret C0 hr hlk hM rfl (Or.inl rfl) (Option.some.inj hp) (Nat.le_refl _) (Nat.le_refl _) dX7_isOf_32
    · replace hp := oT c4 hp
      refine lv_iconst (v := 1) hx hb dX7_isOf_27 (by decide) ?_
      refine lv_goto (tgt := 32) hx hb dX7_isOf_28 (by decide) ?_
      exact mr_zret C0 hr hlk hM rfl (Or.inr rfl) (Option.some.inj hp) (Nat.le_refl _) (Nat.le_refl _) dX7_isOf_32
  · replace hp := oF c1 hp
    refine lv_aload_n hx hb dX7_isOf_4 rfl (lv_at hl 0 rfl) ?_
    refine lv_iload_n hx hb dX7_isOf_5 rfl (lv_at hl 1 rfl) ?_
    refine lv_iload_n hx hb dX7_isOf_6 rfl (lv_at hl 2 rfl) ?_
    obtain ⟨_, h5, hp⟩ := ob hp
    obtain ⟨v6, hv6, hp⟩ := ob hp
    refine mr_V1 (As := [.int a1, .int a2]) (rest := []) C0 cbX7 hM h5 rfl (w_X7_waits hG hv6) tw_1491 tw_1493 tws_39 tw_7 tw_1494 yk_X7_waits (by decide) rfl hl.1 (Nat.le_of_ble_eq_true rfl) dX7_isOf_7 rfl (fun H locs hM => ?_)
    refine lv_goto (tgt := 32) hx hb dX7_isOf_10 (by decide) ?_
    obtain ⟨hz, hp⟩ := oG hp
    exact mr_zret C0 hr hlk hM rfl hz (Option.some.inj hp) (Nat.le_refl _) (Nat.le_refl _) dX7_isOf_32
abbrev rm_X7_aheadOf : Room := { frames := 5, cells := 0, slots := 0, locals := 116 }
def pl_X7_aheadOf_6 (k1 : Int32 → Option (Int32)) (f0 : Nat) (f1 : Int32) (f2 : Int32) (f3 : Int32) (M : Mem) : Nat → Int32 → Int32 → Option (Int32)
  | 0, _, _ => none
  | n + 1, y4, y5 =>
    (Option.bind (gR 6 0 M f0) fun v1 =>
    (Option.bind (aI 0 M v1 (1 : Int32)) fun v2 =>
    (if v2 ≤ y5 then
     (k1 y4)
    else
     (jn (fun (s4 : Int32) =>
      (pl_X7_aheadOf_6 k1 f0 f1 f2 f3 M n (y4 + s4) (y5 + (1 : Int32)))
     ) fun k5 =>
     (if y5 = f1 then
      (k5 (0 : Int32))
     else
      (Option.bind (isC 6 M f0) fun _ =>
      (Option.bind (p_X7_isOf f0 y5 f2 f3 M) fun v8 =>
      (if v8 = 0 then
       (k5 (0 : Int32))
      else
       (Option.bind (isC 6 M f0) fun _ =>
       (Option.bind (p_X7_isAhead f0 f2 y5 f1 M) fun v11 =>
       (if v11 = 0 then
        (k5 (0 : Int32))
       else
        (k5 (1 : Int32))
       )
       )
       )
      )
      )
      )
     )
     )
    )
    )
    )
set_option maxHeartbeats 4000000 in
set_option maxRecDepth 100000 in
theorem wl_X7_aheadOf_6 {G : gG} {p : Program} {l : Launch} {e : Env} {s : State} {m : MethodId} {args : Array Value} {below : List Frame} {meth : Method} {c : Code} {A : Nat → Prop} {r : Int32} {k1 : Int32 → Option (Int32)} {f0 : Nat} {f1 : Int32} {f2 : Int32} {f3 : Int32} {M : Mem} (C0 : cx G p s m args c cX7_aheadOf RX7 6 A) (hr : meth.sig.returnType = (some FieldType.int)) (hlk : meth.locks = false) (hG : GOK G) (hk1 : ∀ (z4 : Int32) (H : Heap) (locs : List Loc) (ls : Array Slot), mm G A s M H locs → lv_has ls 6 [(4, .int z4)] → k1 z4 = some r → W p l e rm_X7_aheadOf s m args below meth c H locs 0 0 (MQ below (CQ G M (some (.int r)) A) args s 0 0 A) (F0 m 61 ls [])) : ∀ (n : Nat) (y4 : Int32) (y5 : Int32) (H : Heap) (locs : List Loc) (ls : Array Slot), mm G A s M H locs → lv_has ls 6 [(0, .ref f0), (1, .int f1), (2, .int f2), (3, .int f3), (4, .int y4), (5, .int y5)] → pl_X7_aheadOf_6 k1 f0 f1 f2 f3 M n y4 y5 = some r → W p l e rm_X7_aheadOf s m args below meth c H locs 0 0 (MQ below (CQ G M (some (.int r)) A) args s 0 0 A) (F0 m 6 ls []) := by
  have hx := C0.1
  have hb := C0.2.1
  have hown := C0.2.2.2.1
  have hts := C0.2.2.2.2.1
  intro n
  induction n with
  | zero => intro y4 y5 H locs ls hM hl hp; rw [pl_X7_aheadOf_6] at hp; cases hp
  | succ n ih =>
    intro y4 y5 H locs ls hM hl hp
    rw [pl_X7_aheadOf_6] at hp
    refine lv_iload hx hb dX7_aheadOf_6 (lv_at hl 5 rfl) ?_
    refine lv_aload_n hx hb dX7_aheadOf_8 rfl (lv_at hl 0 rfl) ?_
    obtain ⟨v1, hv1, hp⟩ := ob hp
    refine mr_getR C0 cbX7 hM 0 (by decide) tw_1224 hv1 dX7_aheadOf_9 ?_
    refine lv_iconst (v := 1) hx hb dX7_aheadOf_12 (by decide) ?_
    obtain ⟨v2, hv2, hp⟩ := ob hp
    refine mr_iald C0 hM hv2 dX7_aheadOf_13 ?_
    refine lv_icmp_ge (tgt := 61) hx hb dX7_aheadOf_14 (by decide) (fun c3 => ?_) (fun c3 => ?_)
    · replace hp := oT c3 hp
      exact hk1 _ _ _ _ hM (lv_sub hl [4] rfl) hp
    · replace hp := oF c3 hp
      refine lv_iload hx hb dX7_aheadOf_17 (lv_at hl 4 rfl) ?_
      refine lv_iload hx hb dX7_aheadOf_19 (lv_at hl 5 rfl) ?_
      refine lv_iload_n hx hb dX7_aheadOf_21 rfl (lv_at hl 1 rfl) ?_
      obtain ⟨k5, ek5, hp⟩ := ojn hp
      have hk5 : ∀ (s4 : Int32) (H : Heap) (locs : List Loc) (ls : Array Slot), mm G A s M H locs → lv_has ls 6 [(0, .ref f0), (1, .int f1), (2, .int f2), (3, .int f3), (5, .int y5)] → k5 s4 = some r → W p l e rm_X7_aheadOf s m args below meth c H locs 0 0 (MQ below (CQ G M (some (.int r)) A) args s 0 0 A) (F0 m 52 ls [.int s4, .int y4]) := by
        intro s4 H locs ls hM hl hp
        rw [ek5] at hp
        refine lv_iadd hx hb dX7_aheadOf_52 ?_
        refine lv_istore (lv' := [(4, .int (y4 + s4)), (0, .ref f0), (1, .int f1), (2, .int f2), (3, .int f3), (5, .int y5)]) hx hb dX7_aheadOf_53 hl (by decide) rfl (fun ls hl => ?_)
        refine lv_iinc (v := (y5 + (1 : Int32))) (lv' := [(5, .int (y5 + (1 : Int32))), (4, .int (y4 + s4)), (0, .ref f0), (1, .int f1), (2, .int f2), (3, .int f3)]) hx hb dX7_aheadOf_55 hl (k := 5) rfl rfl (by decide) rfl (fun ls hl => ?_)
        refine lv_goto (tgt := 6) hx hb dX7_aheadOf_58 (by decide) ?_
        exact ih _ _ _ _ _ hM (lv_sub hl [2, 3, 4, 5, 1, 0] rfl) hp
      refine lv_icmp_eq (tgt := 51) hx hb dX7_aheadOf_22 (by decide) (fun c6 => ?_) (fun c6 => ?_)
      · replace hp := oT c6 hp
        refine lv_iconst (v := 0) hx hb dX7_aheadOf_51 (by decide) ?_
        exact hk5 _ _ _ _ hM (lv_sub hl [0, 1, 2, 3, 5] rfl) hp
      · replace hp := oF c6 hp
        refine lv_aload_n hx hb dX7_aheadOf_25 rfl (lv_at hl 0 rfl) ?_
        refine lv_iload hx hb dX7_aheadOf_26 (lv_at hl 5 rfl) ?_
        refine lv_iload_n hx hb dX7_aheadOf_28 rfl (lv_at hl 2 rfl) ?_
        refine lv_iload_n hx hb dX7_aheadOf_29 rfl (lv_at hl 3 rfl) ?_
        obtain ⟨_, h7, hp⟩ := ob hp
        obtain ⟨v8, hv8, hp⟩ := ob hp
        refine mr_V1 (As := [.int y5, .int f2, .int f3]) (rest := [.int y4]) C0 cbX7 hM h7 rfl (w_X7_isOf hG hv8) tw_1579 tw_1581 tws_51 tw_7 tw_1582 yk_X7_isOf (by decide) rfl hl.1 (Nat.le_of_ble_eq_true rfl) dX7_aheadOf_30 rfl (fun H locs hM => ?_)
        refine lv_if_eq (tgt := 51) hx hb dX7_aheadOf_33 (by decide) (fun c9 => ?_) (fun c9 => ?_)
        · replace hp := oT c9 hp
          refine lv_iconst (v := 0) hx hb dX7_aheadOf_51 (by decide) ?_
          exact hk5 _ _ _ _ hM (lv_sub hl [0, 1, 2, 3, 5] rfl) hp
        · replace hp := oF c9 hp
          refine lv_aload_n hx hb dX7_aheadOf_36 rfl (lv_at hl 0 rfl) ?_
          refine lv_iload_n hx hb dX7_aheadOf_37 rfl (lv_at hl 2 rfl) ?_
          refine lv_iload hx hb dX7_aheadOf_38 (lv_at hl 5 rfl) ?_
          refine lv_iload_n hx hb dX7_aheadOf_40 rfl (lv_at hl 1 rfl) ?_
          obtain ⟨_, h10, hp⟩ := ob hp
          obtain ⟨v11, hv11, hp⟩ := ob hp
          refine mr_V1 (As := [.int f2, .int y5, .int f1]) (rest := [.int y4]) C0 cbX7 hM h10 rfl (w_X7_isAhead hG hv11) tw_1567 tw_1569 tws_49 tw_7 tw_1570 yk_X7_isAhead (by decide) rfl hl.1 (Nat.le_of_ble_eq_true rfl) dX7_aheadOf_41 rfl (fun H locs hM => ?_)
          refine lv_if_eq (tgt := 51) hx hb dX7_aheadOf_44 (by decide) (fun c12 => ?_) (fun c12 => ?_)
          · replace hp := oT c12 hp
            refine lv_iconst (v := 0) hx hb dX7_aheadOf_51 (by decide) ?_
            exact hk5 _ _ _ _ hM (lv_sub hl [0, 1, 2, 3, 5] rfl) hp
          · replace hp := oF c12 hp
            refine lv_iconst (v := 1) hx hb dX7_aheadOf_47 (by decide) ?_
            refine lv_goto (tgt := 52) hx hb dX7_aheadOf_48 (by decide) ?_
            exact hk5 _ _ _ _ hM (lv_sub hl [0, 1, 2, 3, 5] rfl) hp
def p_X7_aheadOf (a0 : Nat) (a1 : Int32) (a2 : Int32) (a3 : Int32) (M : Mem) : Option (Int32) :=
  (pl_X7_aheadOf_6
   (fun (z13 : Int32) =>
    some z13
   )
   a0 a1 a2 a3 M FU (0 : Int32) (0 : Int32))
theorem yk_X7_aheadOf : yok yX7_aheadOf 3 := by decide +kernel
set_option maxHeartbeats 4000000 in
set_option maxRecDepth 100000 in
theorem w_X7_aheadOf {G : gG} (hG : GOK G) {l : Launch} {a0 : Nat} {a1 : Int32} {a2 : Int32} {a3 : Int32} {M : Mem} {r : Int32} (hp : p_X7_aheadOf a0 a1 a2 a3 M = some r) : CT G l yX7_aheadOf (wT yX7_aheadOf cX7_aheadOf 6 (some FieldType.int)) rm_X7_aheadOf [.ref a0, .int a1, .int a2, .int a3] M (some (.int r)) M 0 0 := by
  refine CT_of (own := RX7) (maxL := 6) (ret := (some FieldType.int)) hG (by decide) rfl (Nat.le_of_ble_eq_true rfl) (fun p e s m below meth c A C0 hr hlk hM ls hl => ?_)
  have hl : lv_has ls 6 [(0, .ref a0), (1, .int a1), (2, .int a2), (3, .int a3)] := hl
  generalize ([.ref a0, .int a1, .int a2, .int a3] : List Value).toArray = args at C0 ⊢
  skip
  have hx := C0.1
  have hb := C0.2.1
  have hown := C0.2.2.2.1
  have hts := C0.2.2.2.2.1
  unfold p_X7_aheadOf at hp
  refine lv_iconst (v := 0) hx hb dX7_aheadOf_0 (by decide) ?_
  refine lv_istore (lv' := [(4, .int (0 : Int32)), (0, .ref a0), (1, .int a1), (2, .int a2), (3, .int a3)]) hx hb dX7_aheadOf_1 hl (by decide) rfl (fun ls hl => ?_)
  refine lv_iconst (v := 0) hx hb dX7_aheadOf_3 (by decide) ?_
  refine lv_istore (lv' := [(5, .int (0 : Int32)), (4, .int (0 : Int32)), (0, .ref a0), (1, .int a1), (2, .int a2), (3, .int a3)]) hx hb dX7_aheadOf_4 hl (by decide) rfl (fun ls hl => ?_)
  refine wl_X7_aheadOf_6 C0 hr hlk hG (fun z13 H locs ls hM hl hp => ?_) FU _ _ _ _ _ hM (lv_sub hl [2, 3, 4, 5, 1, 0] rfl) hp
  refine lv_iload hx hb dX7_aheadOf_61 (lv_at hl 0 rfl) ?_
  exact mr_iret C0 hr hlk hM rfl (Option.some.inj hp) (Nat.le_refl _) (Nat.le_refl _) dX7_aheadOf_63
abbrev rm_X7_standsAt : Room := { frames := 6, cells := 0, slots := 0, locals := 141 }
def pl_X7_standsAt_3 (k1 : Int32 → Option (Int32)) (k2 : Unit → Option (Int32)) (f0 : Nat) (f1 : Int32) (f2 : Int32) (f3 : Int32) (M : Mem) : Nat → Int32 → Option (Int32)
  | 0, _ => none
  | n + 1, y4 =>
    (Option.bind (gR 6 0 M f0) fun v1 =>
    (Option.bind (aI 0 M v1 (1 : Int32)) fun v2 =>
    (if v2 ≤ y4 then
     (k2 ())
    else
     (Option.bind (isC 6 M f0) fun _ =>
     (Option.bind (p_X7_isOf f0 y4 f1 f3 M) fun v5 =>
     (if v5 = 0 then
      (pl_X7_standsAt_3 k1 k2 f0 f1 f2 f3 M n (y4 + (1 : Int32)))
     else
      (Option.bind (isC 6 M f0) fun _ =>
      (Option.bind (p_X7_aheadOf f0 y4 f1 f3 M) fun v8 =>
      (if v8 = f2 then
       (k1 y4)
      else
       (pl_X7_standsAt_3 k1 k2 f0 f1 f2 f3 M n (y4 + (1 : Int32)))
      )
      )
      )
     )
     )
     )
    )
    )
    )
set_option maxHeartbeats 4000000 in
set_option maxRecDepth 100000 in
theorem wl_X7_standsAt_3 {G : gG} {p : Program} {l : Launch} {e : Env} {s : State} {m : MethodId} {args : Array Value} {below : List Frame} {meth : Method} {c : Code} {A : Nat → Prop} {r : Int32} {k1 : Int32 → Option (Int32)} {k2 : Unit → Option (Int32)} {f0 : Nat} {f1 : Int32} {f2 : Int32} {f3 : Int32} {M : Mem} (C0 : cx G p s m args c cX7_standsAt RX7 5 A) (hr : meth.sig.returnType = (some FieldType.int)) (hlk : meth.locks = false) (hG : GOK G) (hk1 : ∀ (z4 : Int32) (H : Heap) (locs : List Loc) (ls : Array Slot), mm G A s M H locs → lv_has ls 5 [(4, .int z4)] → k1 z4 = some r → W p l e rm_X7_standsAt s m args below meth c H locs 0 0 (MQ below (CQ G M (some (.int r)) A) args s 0 0 A) (F0 m 37 ls [])) (hk2 : ∀ (H : Heap) (locs : List Loc) (ls : Array Slot), mm G A s M H locs → lv_has ls 5 [] → k2 () = some r → W p l e rm_X7_standsAt s m args below meth c H locs 0 0 (MQ below (CQ G M (some (.int r)) A) args s 0 0 A) (F0 m 46 ls [])) : ∀ (n : Nat) (y4 : Int32) (H : Heap) (locs : List Loc) (ls : Array Slot), mm G A s M H locs → lv_has ls 5 [(0, .ref f0), (1, .int f1), (2, .int f2), (3, .int f3), (4, .int y4)] → pl_X7_standsAt_3 k1 k2 f0 f1 f2 f3 M n y4 = some r → W p l e rm_X7_standsAt s m args below meth c H locs 0 0 (MQ below (CQ G M (some (.int r)) A) args s 0 0 A) (F0 m 3 ls []) := by
  have hx := C0.1
  have hb := C0.2.1
  have hown := C0.2.2.2.1
  have hts := C0.2.2.2.2.1
  intro n
  induction n with
  | zero => intro y4 H locs ls hM hl hp; rw [pl_X7_standsAt_3] at hp; cases hp
  | succ n ih =>
    intro y4 H locs ls hM hl hp
    rw [pl_X7_standsAt_3] at hp
    refine lv_iload hx hb dX7_standsAt_3 (lv_at hl 4 rfl) ?_
    refine lv_aload_n hx hb dX7_standsAt_5 rfl (lv_at hl 0 rfl) ?_
    obtain ⟨v1, hv1, hp⟩ := ob hp
    refine mr_getR C0 cbX7 hM 0 (by decide) tw_1224 hv1 dX7_standsAt_6 ?_
    refine lv_iconst (v := 1) hx hb dX7_standsAt_9 (by decide) ?_
    obtain ⟨v2, hv2, hp⟩ := ob hp
    refine mr_iald C0 hM hv2 dX7_standsAt_10 ?_
    refine lv_icmp_ge (tgt := 46) hx hb dX7_standsAt_11 (by decide) (fun c3 => ?_) (fun c3 => ?_)
    · replace hp := oT c3 hp
      exact hk2  _ _ _ hM (lv_sub hl [] rfl) hp
    · replace hp := oF c3 hp
      refine lv_aload_n hx hb dX7_standsAt_14 rfl (lv_at hl 0 rfl) ?_
      refine lv_iload hx hb dX7_standsAt_15 (lv_at hl 4 rfl) ?_
      refine lv_iload_n hx hb dX7_standsAt_17 rfl (lv_at hl 1 rfl) ?_
      refine lv_iload_n hx hb dX7_standsAt_18 rfl (lv_at hl 3 rfl) ?_
      obtain ⟨_, h4, hp⟩ := ob hp
      obtain ⟨v5, hv5, hp⟩ := ob hp
      refine mr_V1 (As := [.int y4, .int f1, .int f3]) (rest := []) C0 cbX7 hM h4 rfl (w_X7_isOf hG hv5) tw_1579 tw_1581 tws_51 tw_7 tw_1582 yk_X7_isOf (by decide) rfl hl.1 (Nat.le_of_ble_eq_true rfl) dX7_standsAt_19 rfl (fun H locs hM => ?_)
      refine lv_if_eq (tgt := 40) hx hb dX7_standsAt_22 (by decide) (fun c6 => ?_) (fun c6 => ?_)
      · replace hp := oT c6 hp
        refine lv_iinc (v := (y4 + (1 : Int32))) (lv' := [(4, .int (y4 + (1 : Int32))), (0, .ref f0), (1, .int f1), (2, .int f2), (3, .int f3)]) hx hb dX7_standsAt_40 hl (k := 4) rfl rfl (by decide) rfl (fun ls hl => ?_)
        refine lv_goto (tgt := 3) hx hb dX7_standsAt_43 (by decide) ?_
        exact ih _ _ _ _ hM (lv_sub hl [1, 2, 3, 4, 0] rfl) hp
      · replace hp := oF c6 hp
        refine lv_aload_n hx hb dX7_standsAt_25 rfl (lv_at hl 0 rfl) ?_
        refine lv_iload hx hb dX7_standsAt_26 (lv_at hl 4 rfl) ?_
        refine lv_iload_n hx hb dX7_standsAt_28 rfl (lv_at hl 1 rfl) ?_
        refine lv_iload_n hx hb dX7_standsAt_29 rfl (lv_at hl 3 rfl) ?_
        obtain ⟨_, h7, hp⟩ := ob hp
        obtain ⟨v8, hv8, hp⟩ := ob hp
        refine mr_V1 (As := [.int y4, .int f1, .int f3]) (rest := []) C0 cbX7 hM h7 rfl (w_X7_aheadOf hG hv8) tw_1583 tw_1585 tws_52 tw_7 tw_1586 yk_X7_aheadOf (by decide) rfl hl.1 (Nat.le_of_ble_eq_true rfl) dX7_standsAt_30 rfl (fun H locs hM => ?_)
        refine lv_iload_n hx hb dX7_standsAt_33 rfl (lv_at hl 2 rfl) ?_
        refine lv_icmp_ne (tgt := 40) hx hb dX7_standsAt_34 (by decide) (fun c9 => ?_) (fun c9 => ?_)
        · replace hp := oF c9 hp
          refine lv_iinc (v := (y4 + (1 : Int32))) (lv' := [(4, .int (y4 + (1 : Int32))), (0, .ref f0), (1, .int f1), (2, .int f2), (3, .int f3)]) hx hb dX7_standsAt_40 hl (k := 4) rfl rfl (by decide) rfl (fun ls hl => ?_)
          refine lv_goto (tgt := 3) hx hb dX7_standsAt_43 (by decide) ?_
          exact ih _ _ _ _ hM (lv_sub hl [1, 2, 3, 4, 0] rfl) hp
        · replace hp := oT c9 hp
          exact hk1 _ _ _ _ hM (lv_sub hl [4] rfl) hp
def p_X7_standsAt (a0 : Nat) (a1 : Int32) (a2 : Int32) (a3 : Int32) (M : Mem) : Option (Int32) :=
  (pl_X7_standsAt_3
   (fun (z10 : Int32) =>
    some z10
   )
   (fun (_ : Unit) =>
    some (-1 : Int32)
   )
   a0 a1 a2 a3 M FU (0 : Int32))
theorem yk_X7_standsAt : yok yX7_standsAt 3 := by decide +kernel
set_option maxHeartbeats 4000000 in
set_option maxRecDepth 100000 in
theorem w_X7_standsAt {G : gG} (hG : GOK G) {l : Launch} {a0 : Nat} {a1 : Int32} {a2 : Int32} {a3 : Int32} {M : Mem} {r : Int32} (hp : p_X7_standsAt a0 a1 a2 a3 M = some r) : CT G l yX7_standsAt (wT yX7_standsAt cX7_standsAt 5 (some FieldType.int)) rm_X7_standsAt [.ref a0, .int a1, .int a2, .int a3] M (some (.int r)) M 0 0 := by
  refine CT_of (own := RX7) (maxL := 5) (ret := (some FieldType.int)) hG (by decide) rfl (Nat.le_of_ble_eq_true rfl) (fun p e s m below meth c A C0 hr hlk hM ls hl => ?_)
  have hl : lv_has ls 5 [(0, .ref a0), (1, .int a1), (2, .int a2), (3, .int a3)] := hl
  generalize ([.ref a0, .int a1, .int a2, .int a3] : List Value).toArray = args at C0 ⊢
  skip
  have hx := C0.1
  have hb := C0.2.1
  have hown := C0.2.2.2.1
  have hts := C0.2.2.2.2.1
  unfold p_X7_standsAt at hp
  refine lv_iconst (v := 0) hx hb dX7_standsAt_0 (by decide) ?_
  refine lv_istore (lv' := [(4, .int (0 : Int32)), (0, .ref a0), (1, .int a1), (2, .int a2), (3, .int a3)]) hx hb dX7_standsAt_1 hl (by decide) rfl (fun ls hl => ?_)
  refine wl_X7_standsAt_3 C0 hr hlk hG (fun z10 H locs ls hM hl hp => ?_) (fun  H locs ls hM hl hp => ?_) FU _ _ _ _ hM (lv_sub hl [1, 2, 3, 4, 0] rfl) hp
  · refine lv_iload hx hb dX7_standsAt_37 (lv_at hl 0 rfl) ?_
    exact mr_iret C0 hr hlk hM rfl (Option.some.inj hp) (Nat.le_refl _) (Nat.le_refl _) dX7_standsAt_39
  · refine lv_iconst (v := -1) hx hb dX7_standsAt_46 (by decide) ?_
    exact mr_iret C0 hr hlk hM rfl (Option.some.inj hp) (Nat.le_refl _) (Nat.le_refl _) dX7_standsAt_47
abbrev rm_X7_puts : Room := { frames := 0, cells := 0, slots := 0, locals := 0 }
def p_X7_puts (a0 : Nat) (a1 : Int32) (a2 : Int32) (a3 : Int32) (M : Mem) : Option (Mem) :=
  (Option.bind (gR 6 0 M a0) fun v1 =>
  (Option.bind (aIs M v1 ((484 : Int32) + a1) a2) fun M2 =>
  (Option.bind (gR 6 0 M2 a0) fun v3 =>
  (Option.bind (aIs M2 v3 ((444 : Int32) + a1) a3) fun M4 =>
  some M4
  )
  )
  )
  )
theorem yk_X7_puts : yok yX7_puts 3 := by decide +kernel
set_option maxHeartbeats 4000000 in
set_option maxRecDepth 100000 in
theorem w_X7_puts {G : gG} (hG : GOK G) {l : Launch} {a0 : Nat} {a1 : Int32} {a2 : Int32} {a3 : Int32} {M : Mem} {M' : Mem} (hp : p_X7_puts a0 a1 a2 a3 M = some M') : CT G l yX7_puts (wT yX7_puts cX7_puts 4 (none)) rm_X7_puts [.ref a0, .int a1, .int a2, .int a3] M none M' 0 0 := by
  refine CT_of (own := RX7) (maxL := 4) (ret := (none)) hG (by decide) rfl (Nat.le_of_ble_eq_true rfl) (fun p e s m below meth c A C0 hr hlk hM ls hl => ?_)
  have hl : lv_has ls 4 [(0, .ref a0), (1, .int a1), (2, .int a2), (3, .int a3)] := hl
  generalize ([.ref a0, .int a1, .int a2, .int a3] : List Value).toArray = args at C0 ⊢
  skip
  have hx := C0.1
  have hb := C0.2.1
  have hown := C0.2.2.2.1
  have hts := C0.2.2.2.2.1
  unfold p_X7_puts at hp
  refine lv_aload_n hx hb dX7_puts_0 rfl (lv_at hl 0 rfl) ?_
  obtain ⟨v1, hv1, hp⟩ := ob hp
  refine mr_getR C0 cbX7 hM 0 (by decide) tw_1224 hv1 dX7_puts_1 ?_
  refine lv_sipush (v := 484) hx hb dX7_puts_4 (by decide) ?_
  refine lv_iload_n hx hb dX7_puts_7 rfl (lv_at hl 1 rfl) ?_
  refine lv_iadd hx hb dX7_puts_8 ?_
  refine lv_iload_n hx hb dX7_puts_9 rfl (lv_at hl 2 rfl) ?_
  obtain ⟨M2, hM2, hp⟩ := ob hp
  refine mr_iast C0 hM hM2 dX7_puts_10 (fun H locs hM => ?_)
  refine lv_aload_n hx hb dX7_puts_11 rfl (lv_at hl 0 rfl) ?_
  obtain ⟨v3, hv3, hp⟩ := ob hp
  refine mr_getR C0 cbX7 hM 0 (by decide) tw_1224 hv3 dX7_puts_12 ?_
  refine lv_sipush (v := 444) hx hb dX7_puts_15 (by decide) ?_
  refine lv_iload_n hx hb dX7_puts_18 rfl (lv_at hl 1 rfl) ?_
  refine lv_iadd hx hb dX7_puts_19 ?_
  refine lv_iload_n hx hb dX7_puts_20 rfl (lv_at hl 3 rfl) ?_
  obtain ⟨M4, hM4, hp⟩ := ob hp
  refine mr_iast C0 hM hM4 dX7_puts_21 (fun H locs hM => ?_)
  exact mr_vret C0 hr hlk hM (Option.some.inj hp) (Nat.le_refl _) (Nat.le_refl _) dX7_puts_22
abbrev rm_X7_fillable : Room := { frames := 4, cells := 0, slots := 0, locals := 90 }
def pl_X7_fillable_2 (k1 : Int32 → Option (Int32)) (k2 : Unit → Option (Int32)) (f0 : Nat) (M : Mem) : Nat → Int32 → Option (Int32)
  | 0, _ => none
  | n + 1, y1 =>
    (Option.bind (gR 6 0 M f0) fun v1 =>
    (Option.bind (aI 0 M v1 (0 : Int32)) fun v2 =>
    (if v2 ≤ y1 then
     (k2 ())
    else
     (Option.bind (isC 6 M f0) fun _ =>
     (Option.bind (p_X7_holders f0 y1 M) fun v5 =>
     (Option.bind (gR 6 0 M f0) fun v6 =>
     (Option.bind (aI 0 M v6 ((20 : Int32) + y1)) fun v7 =>
     (if v7 ≤ v5 then
      (pl_X7_fillable_2 k1 k2 f0 M n (y1 + (1 : Int32)))
     else
      (Option.bind (isC 6 M f0) fun _ =>
      (Option.bind (p_X7_waitingMany f0 y1 M) fun v10 =>
      (if v10 ≤ 0 then
       (pl_X7_fillable_2 k1 k2 f0 M n (y1 + (1 : Int32)))
      else
       (k1 y1)
      )
      )
      )
     )
     )
     )
     )
     )
    )
    )
    )
set_option maxHeartbeats 4000000 in
set_option maxRecDepth 100000 in
theorem wl_X7_fillable_2 {G : gG} {p : Program} {l : Launch} {e : Env} {s : State} {m : MethodId} {args : Array Value} {below : List Frame} {meth : Method} {c : Code} {A : Nat → Prop} {r : Int32} {k1 : Int32 → Option (Int32)} {k2 : Unit → Option (Int32)} {f0 : Nat} {M : Mem} (C0 : cx G p s m args c cX7_fillable RX7 2 A) (hr : meth.sig.returnType = (some FieldType.int)) (hlk : meth.locks = false) (hG : GOK G) (hk1 : ∀ (z1 : Int32) (H : Heap) (locs : List Loc) (ls : Array Slot), mm G A s M H locs → lv_has ls 2 [(1, .int z1)] → k1 z1 = some r → W p l e rm_X7_fillable s m args below meth c H locs 0 0 (MQ below (CQ G M (some (.int r)) A) args s 0 0 A) (F0 m 37 ls [])) (hk2 : ∀ (H : Heap) (locs : List Loc) (ls : Array Slot), mm G A s M H locs → lv_has ls 2 [] → k2 () = some r → W p l e rm_X7_fillable s m args below meth c H locs 0 0 (MQ below (CQ G M (some (.int r)) A) args s 0 0 A) (F0 m 45 ls [])) : ∀ (n : Nat) (y1 : Int32) (H : Heap) (locs : List Loc) (ls : Array Slot), mm G A s M H locs → lv_has ls 2 [(0, .ref f0), (1, .int y1)] → pl_X7_fillable_2 k1 k2 f0 M n y1 = some r → W p l e rm_X7_fillable s m args below meth c H locs 0 0 (MQ below (CQ G M (some (.int r)) A) args s 0 0 A) (F0 m 2 ls []) := by
  have hx := C0.1
  have hb := C0.2.1
  have hown := C0.2.2.2.1
  have hts := C0.2.2.2.2.1
  intro n
  induction n with
  | zero => intro y1 H locs ls hM hl hp; rw [pl_X7_fillable_2] at hp; cases hp
  | succ n ih =>
    intro y1 H locs ls hM hl hp
    rw [pl_X7_fillable_2] at hp
    refine lv_iload_n hx hb dX7_fillable_2 rfl (lv_at hl 1 rfl) ?_
    refine lv_aload_n hx hb dX7_fillable_3 rfl (lv_at hl 0 rfl) ?_
    obtain ⟨v1, hv1, hp⟩ := ob hp
    refine mr_getR C0 cbX7 hM 0 (by decide) tw_1224 hv1 dX7_fillable_4 ?_
    refine lv_iconst (v := 0) hx hb dX7_fillable_7 (by decide) ?_
    obtain ⟨v2, hv2, hp⟩ := ob hp
    refine mr_iald C0 hM hv2 dX7_fillable_8 ?_
    refine lv_icmp_ge (tgt := 45) hx hb dX7_fillable_9 (by decide) (fun c3 => ?_) (fun c3 => ?_)
    · replace hp := oT c3 hp
      exact hk2  _ _ _ hM (lv_sub hl [] rfl) hp
    · replace hp := oF c3 hp
      refine lv_aload_n hx hb dX7_fillable_12 rfl (lv_at hl 0 rfl) ?_
      refine lv_iload_n hx hb dX7_fillable_13 rfl (lv_at hl 1 rfl) ?_
      obtain ⟨_, h4, hp⟩ := ob hp
      obtain ⟨v5, hv5, hp⟩ := ob hp
      refine mr_V1 (As := [.int y1]) (rest := []) C0 cbX7 hM h4 rfl (w_X7_holders hG hv5) tw_1479 tw_1481 tws_36 tw_7 tw_1482 yk_X7_holders (by decide) rfl hl.1 (Nat.le_of_ble_eq_true rfl) dX7_fillable_14 rfl (fun H locs hM => ?_)
      refine lv_aload_n hx hb dX7_fillable_17 rfl (lv_at hl 0 rfl) ?_
      obtain ⟨v6, hv6, hp⟩ := ob hp
      refine mr_getR C0 cbX7 hM 0 (by decide) tw_1224 hv6 dX7_fillable_18 ?_
      refine lv_bipush (v := 20) hx hb dX7_fillable_21 (by decide) ?_
      refine lv_iload_n hx hb dX7_fillable_23 rfl (lv_at hl 1 rfl) ?_
      refine lv_iadd hx hb dX7_fillable_24 ?_
      obtain ⟨v7, hv7, hp⟩ := ob hp
      refine mr_iald C0 hM hv7 dX7_fillable_25 ?_
      refine lv_icmp_ge (tgt := 39) hx hb dX7_fillable_26 (by decide) (fun c8 => ?_) (fun c8 => ?_)
      · replace hp := oT c8 hp
        refine lv_iinc (v := (y1 + (1 : Int32))) (lv' := [(1, .int (y1 + (1 : Int32))), (0, .ref f0)]) hx hb dX7_fillable_39 hl (k := 1) rfl rfl (by decide) rfl (fun ls hl => ?_)
        refine lv_goto (tgt := 2) hx hb dX7_fillable_42 (by decide) ?_
        exact ih _ _ _ _ hM (lv_sub hl [1, 0] rfl) hp
      · replace hp := oF c8 hp
        refine lv_aload_n hx hb dX7_fillable_29 rfl (lv_at hl 0 rfl) ?_
        refine lv_iload_n hx hb dX7_fillable_30 rfl (lv_at hl 1 rfl) ?_
        obtain ⟨_, h9, hp⟩ := ob hp
        obtain ⟨v10, hv10, hp⟩ := ob hp
        refine mr_V1 (As := [.int y1]) (rest := []) C0 cbX7 hM h9 rfl (w_X7_waitingMany hG hv10) tw_1487 tw_1489 tws_38 tw_7 tw_1490 yk_X7_waitingMany (by decide) rfl hl.1 (Nat.le_of_ble_eq_true rfl) dX7_fillable_31 rfl (fun H locs hM => ?_)
        refine lv_if_le (tgt := 39) hx hb dX7_fillable_34 (by decide) (fun c11 => ?_) (fun c11 => ?_)
        · replace hp := oT c11 hp
          refine lv_iinc (v := (y1 + (1 : Int32))) (lv' := [(1, .int (y1 + (1 : Int32))), (0, .ref f0)]) hx hb dX7_fillable_39 hl (k := 1) rfl rfl (by decide) rfl (fun ls hl => ?_)
          refine lv_goto (tgt := 2) hx hb dX7_fillable_42 (by decide) ?_
          exact ih _ _ _ _ hM (lv_sub hl [1, 0] rfl) hp
        · replace hp := oF c11 hp
          exact hk1 _ _ _ _ hM (lv_sub hl [1] rfl) hp
def p_X7_fillable (a0 : Nat) (M : Mem) : Option (Int32) :=
  (pl_X7_fillable_2
   (fun (z12 : Int32) =>
    some z12
   )
   (fun (_ : Unit) =>
    some (-1 : Int32)
   )
   a0 M FU (0 : Int32))
theorem yk_X7_fillable : yok yX7_fillable 0 := by decide +kernel
set_option maxHeartbeats 4000000 in
set_option maxRecDepth 100000 in
theorem w_X7_fillable {G : gG} (hG : GOK G) {l : Launch} {a0 : Nat} {M : Mem} {r : Int32} (hp : p_X7_fillable a0 M = some r) : CT G l yX7_fillable (wT yX7_fillable cX7_fillable 2 (some FieldType.int)) rm_X7_fillable [.ref a0] M (some (.int r)) M 0 0 := by
  refine CT_of (own := RX7) (maxL := 2) (ret := (some FieldType.int)) hG (by decide) rfl (Nat.le_of_ble_eq_true rfl) (fun p e s m below meth c A C0 hr hlk hM ls hl => ?_)
  have hl : lv_has ls 2 [(0, .ref a0)] := hl
  generalize ([.ref a0] : List Value).toArray = args at C0 ⊢
  skip
  have hx := C0.1
  have hb := C0.2.1
  have hown := C0.2.2.2.1
  have hts := C0.2.2.2.2.1
  unfold p_X7_fillable at hp
  refine lv_iconst (v := 0) hx hb dX7_fillable_0 (by decide) ?_
  refine lv_istore_n (lv' := [(1, .int (0 : Int32)), (0, .ref a0)]) hx hb dX7_fillable_1 rfl hl (by decide) rfl (fun ls hl => ?_)
  refine wl_X7_fillable_2 C0 hr hlk hG (fun z12 H locs ls hM hl hp => ?_) (fun  H locs ls hM hl hp => ?_) FU _ _ _ _ hM (lv_sub hl [1, 0] rfl) hp
  · refine lv_iload_n hx hb dX7_fillable_37 rfl (lv_at hl 0 rfl) ?_
    exact mr_iret C0 hr hlk hM rfl (Option.some.inj hp) (Nat.le_refl _) (Nat.le_refl _) dX7_fillable_38
  · refine lv_iconst (v := -1) hx hb dX7_fillable_45 (by decide) ?_
    exact mr_iret C0 hr hlk hM rfl (Option.some.inj hp) (Nat.le_refl _) (Nat.le_refl _) dX7_fillable_46
abbrev rm_X7_fills : Room := { frames := 7, cells := 0, slots := 0, locals := 165 }
def pl_X7_fills_16 (k1 : Mem → Option (Mem)) (f0 : Nat) : Nat → Int32 → Mem → Option (Mem)
  | 0, _, _ => none
  | n + 1, y1, M =>
    (if y1 = (-1 : Int32) then
     (k1  M)
    else
     (Option.bind (isC 6 M f0) fun _ =>
     (Option.bind (p_X7_standsAt f0 y1 (0 : Int32) (1 : Int32) M) fun v8 =>
     (Option.bind (isC 6 M f0) fun _ =>
     (Option.bind (p_X7_puts f0 v8 y1 (0 : Int32) M) fun M10 =>
     (Option.bind (gR 6 0 M10 f0) fun v11 =>
     (Option.bind (aI 0 M10 v11 (10 : Int32)) fun v12 =>
     (Option.bind (aIs M10 v11 (10 : Int32) (v12 + (1 : Int32))) fun M13 =>
     (Option.bind (isC 6 M13 f0) fun _ =>
     (Option.bind (p_X7_fillable f0 M13) fun v15 =>
     (pl_X7_fills_16 k1 f0 n v15 M13)
     )
     )
     )
     )
     )
     )
     )
     )
     )
    )
set_option maxHeartbeats 4000000 in
set_option maxRecDepth 100000 in
theorem wl_X7_fills_16 {G : gG} {p : Program} {l : Launch} {e : Env} {s : State} {m : MethodId} {args : Array Value} {below : List Frame} {meth : Method} {c : Code} {A : Nat → Prop} {M' : Mem} {k1 : Mem → Option (Mem)} {f0 : Nat} (C0 : cx G p s m args c cX7_fills RX7 2 A) (hr : meth.sig.returnType = (none)) (hlk : meth.locks = false) (hG : GOK G) (hk1 : ∀ (M : Mem) (H : Heap) (locs : List Loc) (ls : Array Slot), mm G A s M H locs → lv_has ls 2 [] → k1 M = some M' → W p l e rm_X7_fills s m args below meth c H locs 0 0 (MQ below (CQ G M' none A) args s 0 0 A) (F0 m 53 ls [])) : ∀ (n : Nat) (y1 : Int32) (M : Mem) (H : Heap) (locs : List Loc) (ls : Array Slot), mm G A s M H locs → lv_has ls 2 [(0, .ref f0), (1, .int y1)] → pl_X7_fills_16 k1 f0 n y1 M = some M' → W p l e rm_X7_fills s m args below meth c H locs 0 0 (MQ below (CQ G M' none A) args s 0 0 A) (F0 m 16 ls []) := by
  have hx := C0.1
  have hb := C0.2.1
  have hown := C0.2.2.2.1
  have hts := C0.2.2.2.2.1
  intro n
  induction n with
  | zero => intro y1 M H locs ls hM hl hp; rw [pl_X7_fills_16] at hp; cases hp
  | succ n ih =>
    intro y1 M H locs ls hM hl hp
    rw [pl_X7_fills_16] at hp
    refine lv_iload_n hx hb dX7_fills_16 rfl (lv_at hl 1 rfl) ?_
    refine lv_iconst (v := -1) hx hb dX7_fills_17 (by decide) ?_
    refine lv_icmp_eq (tgt := 53) hx hb dX7_fills_18 (by decide) (fun c6 => ?_) (fun c6 => ?_)
    · replace hp := oT c6 hp
      exact hk1  _ _ _ _ hM (lv_sub hl [] rfl) hp
    · replace hp := oF c6 hp
      refine lv_aload_n hx hb dX7_fills_21 rfl (lv_at hl 0 rfl) ?_
      refine lv_aload_n hx hb dX7_fills_22 rfl (lv_at hl 0 rfl) ?_
      refine lv_iload_n hx hb dX7_fills_23 rfl (lv_at hl 1 rfl) ?_
      refine lv_iconst (v := 0) hx hb dX7_fills_24 (by decide) ?_
      refine lv_iconst (v := 1) hx hb dX7_fills_25 (by decide) ?_
      obtain ⟨_, h7, hp⟩ := ob hp
      obtain ⟨v8, hv8, hp⟩ := ob hp
      refine mr_V1 (As := [.int y1, .int (0 : Int32), .int (1 : Int32)]) (rest := [.ref f0]) C0 cbX7 hM h7 rfl (w_X7_standsAt hG hv8) tw_1575 tw_1577 tws_50 tw_7 tw_1578 yk_X7_standsAt (by decide) rfl hl.1 (Nat.le_of_ble_eq_true rfl) dX7_fills_26 rfl (fun H locs hM => ?_)
      refine lv_iload_n hx hb dX7_fills_29 rfl (lv_at hl 1 rfl) ?_
      refine lv_iconst (v := 0) hx hb dX7_fills_30 (by decide) ?_
      obtain ⟨_, h9, hp⟩ := ob hp
      obtain ⟨M10, hM10, hp⟩ := ob hp
      refine mr_V0 (As := [.int v8, .int y1, .int (0 : Int32)]) (rest := []) C0 cbX7 hM h9 rfl (w_X7_puts hG hM10) tw_1619 tw_1621 tws_56 tw_7 tw_1622 yk_X7_puts (by decide) rfl hl.1 (Nat.le_of_ble_eq_true rfl) dX7_fills_31 rfl (fun H locs hM => ?_)
      refine lv_aload_n hx hb dX7_fills_34 rfl (lv_at hl 0 rfl) ?_
      obtain ⟨v11, hv11, hp⟩ := ob hp
      refine mr_getR C0 cbX7 hM 0 (by decide) tw_1224 hv11 dX7_fills_35 ?_
      refine lv_bipush (v := 10) hx hb dX7_fills_38 (by decide) ?_
      refine lv_dup2_11 hx hb dX7_fills_40 rfl rfl ?_
      obtain ⟨v12, hv12, hp⟩ := ob hp
      refine mr_iald C0 hM hv12 dX7_fills_41 ?_
      refine lv_iconst (v := 1) hx hb dX7_fills_42 (by decide) ?_
      refine lv_iadd hx hb dX7_fills_43 ?_
      obtain ⟨M13, hM13, hp⟩ := ob hp
      refine mr_iast C0 hM hM13 dX7_fills_44 (fun H locs hM => ?_)
      refine lv_aload_n hx hb dX7_fills_45 rfl (lv_at hl 0 rfl) ?_
      obtain ⟨_, h14, hp⟩ := ob hp
      obtain ⟨v15, hv15, hp⟩ := ob hp
      refine mr_V1 (As := []) (rest := []) C0 cbX7 hM h14 rfl (w_X7_fillable hG hv15) tw_1651 tw_1653 tws_62 tw_7 tw_1654 yk_X7_fillable (by decide) rfl hl.1 (Nat.le_of_ble_eq_true rfl) dX7_fills_46 rfl (fun H locs hM => ?_)
      refine lv_istore_n (lv' := [(1, .int v15), (0, .ref f0)]) hx hb dX7_fills_49 rfl hl (by decide) rfl (fun ls hl => ?_)
      refine lv_goto (tgt := 16) hx hb dX7_fills_50 (by decide) ?_
      exact ih _ _ _ _ _ hM (lv_sub hl [1, 0] rfl) hp
def p_X7_fills (a0 : Nat) (M : Mem) : Option (Mem) :=
  (Option.bind (gR 6 0 M a0) fun v1 =>
  (Option.bind (aI 0 M v1 (8 : Int32)) fun v2 =>
  (if v2 = 0 then
   some M
  else
   (Option.bind (isC 6 M a0) fun _ =>
   (Option.bind (p_X7_fillable a0 M) fun v5 =>
   (pl_X7_fills_16
    (fun  (M16 : Mem) =>
     some M16
    )
    a0 FU v5 M)
   )
   )
  )
  )
  )
theorem yk_X7_fills : yok yX7_fills 0 := by decide +kernel
set_option maxHeartbeats 4000000 in
set_option maxRecDepth 100000 in
theorem w_X7_fills {G : gG} (hG : GOK G) {l : Launch} {a0 : Nat} {M : Mem} {M' : Mem} (hp : p_X7_fills a0 M = some M') : CT G l yX7_fills (wT yX7_fills cX7_fills 2 (none)) rm_X7_fills [.ref a0] M none M' 0 0 := by
  refine CT_of (own := RX7) (maxL := 2) (ret := (none)) hG (by decide) rfl (Nat.le_of_ble_eq_true rfl) (fun p e s m below meth c A C0 hr hlk hM ls hl => ?_)
  have hl : lv_has ls 2 [(0, .ref a0)] := hl
  generalize ([.ref a0] : List Value).toArray = args at C0 ⊢
  skip
  have hx := C0.1
  have hb := C0.2.1
  have hown := C0.2.2.2.1
  have hts := C0.2.2.2.2.1
  unfold p_X7_fills at hp
  refine lv_aload_n hx hb dX7_fills_0 rfl (lv_at hl 0 rfl) ?_
  obtain ⟨v1, hv1, hp⟩ := ob hp
  refine mr_getR C0 cbX7 hM 0 (by decide) tw_1224 hv1 dX7_fills_1 ?_
  refine lv_bipush (v := 8) hx hb dX7_fills_4 (by decide) ?_
  obtain ⟨v2, hv2, hp⟩ := ob hp
  refine mr_iald C0 hM hv2 dX7_fills_6 ?_
  refine lv_if_ne (tgt := 11) hx hb dX7_fills_7 (by decide) (fun c3 => ?_) (fun c3 => ?_)
  · replace hp := oF c3 hp
    refine lv_aload_n hx hb dX7_fills_11 rfl (lv_at hl 0 rfl) ?_
    obtain ⟨_, h4, hp⟩ := ob hp
    obtain ⟨v5, hv5, hp⟩ := ob hp
    refine mr_V1 (As := []) (rest := []) C0 cbX7 hM h4 rfl (w_X7_fillable hG hv5) tw_1651 tw_1653 tws_62 tw_7 tw_1654 yk_X7_fillable (by decide) rfl hl.1 (Nat.le_of_ble_eq_true rfl) dX7_fills_12 rfl (fun H locs hM => ?_)
    refine lv_istore_n (lv' := [(1, .int v5), (0, .ref a0)]) hx hb dX7_fills_15 rfl hl (by decide) rfl (fun ls hl => ?_)
    refine wl_X7_fills_16 C0 hr hlk hG (fun M16 H locs ls hM hl hp => ?_) FU _ _ _ _ _ hM (lv_sub hl [1, 0] rfl) hp
    exact mr_vret C0 hr hlk hM (Option.some.inj hp) (Nat.le_refl _) (Nat.le_refl _) dX7_fills_53
  · replace hp := oT c3 hp
    exact mr_vret C0 hr hlk hM (Option.some.inj hp) (Nat.le_refl _) (Nat.le_refl _) dX7_fills_10
abbrev rm_X7_tries : Room := { frames := 1, cells := 0, slots := 0, locals := 21 }
def p_X7_tries (a0 : Nat) (a1 : Int32) (M : Mem) : Option (Int32) :=
  (Option.bind (isC 6 M a0) fun _ =>
  (Option.bind (p_X7_isHere a0 a1 M) fun v2 =>
  (if v2 = 0 then
   some (0 : Int32)
  else
   (Option.bind (gR 6 0 M a0) fun v4 =>
   (Option.bind (aI 0 M v4 ((484 : Int32) + a1)) fun v5 =>
   (if v5 = (-1 : Int32) then
    (Option.bind (gR 6 10 M a0) fun v7 =>
    (Option.bind (aI 0 M v7 a1) fun v8 =>
    (Option.bind (gR 6 0 M a0) fun v9 =>
    (Option.bind (aI 0 M v9 ((324 : Int32) + a1)) fun v10 =>
    (if v10 ≤ v8 then
     some (0 : Int32)
    else
     some (1 : Int32)
    )
    )
    )
    )
    )
   else
    some (0 : Int32)
   )
   )
   )
  )
  )
  )
theorem yk_X7_tries : yok yX7_tries 1 := by decide +kernel
set_option maxHeartbeats 4000000 in
set_option maxRecDepth 100000 in
theorem w_X7_tries {G : gG} (hG : GOK G) {l : Launch} {a0 : Nat} {a1 : Int32} {M : Mem} {r : Int32} (hp : p_X7_tries a0 a1 M = some r) : CT G l yX7_tries (wT yX7_tries cX7_tries 2 (some FieldType.boolean)) rm_X7_tries [.ref a0, .int a1] M (some (.int r)) M 0 0 := by
  refine CT_of (own := RX7) (maxL := 2) (ret := (some FieldType.boolean)) hG (by decide) rfl (Nat.le_of_ble_eq_true rfl) (fun p e s m below meth c A C0 hr hlk hM ls hl => ?_)
  have hl : lv_has ls 2 [(0, .ref a0), (1, .int a1)] := hl
  generalize ([.ref a0, .int a1] : List Value).toArray = args at C0 ⊢
  skip
  have hx := C0.1
  have hb := C0.2.1
  have hown := C0.2.2.2.1
  have hts := C0.2.2.2.2.1
  unfold p_X7_tries at hp
  refine lv_aload_n hx hb dX7_tries_0 rfl (lv_at hl 0 rfl) ?_
  refine lv_iload_n hx hb dX7_tries_1 rfl (lv_at hl 1 rfl) ?_
  obtain ⟨_, h1, hp⟩ := ob hp
  obtain ⟨v2, hv2, hp⟩ := ob hp
  refine mr_V1 (As := [.int a1]) (rest := []) C0 cbX7 hM h1 rfl (w_X7_isHere hG hv2) tw_1495 tw_1497 tws_40 tw_7 tw_1498 yk_X7_isHere (by decide) rfl hl.1 (Nat.le_of_ble_eq_true rfl) dX7_tries_2 rfl (fun H locs hM => ?_)
  refine lv_if_eq (tgt := 45) hx hb dX7_tries_5 (by decide) (fun c3 => ?_) (fun c3 => ?_)
  · replace hp := oT c3 hp
    refine lv_iconst (v := 0) hx hb dX7_tries_45 (by decide) ?_
    exact mr_zret C0 hr hlk hM rfl (Or.inl rfl) (Option.some.inj hp) (Nat.le_refl _) (Nat.le_refl _) dX7_tries_46
  · replace hp := oF c3 hp
    refine lv_aload_n hx hb dX7_tries_8 rfl (lv_at hl 0 rfl) ?_
    obtain ⟨v4, hv4, hp⟩ := ob hp
    refine mr_getR C0 cbX7 hM 0 (by decide) tw_1224 hv4 dX7_tries_9 ?_
    refine lv_sipush (v := 484) hx hb dX7_tries_12 (by decide) ?_
    refine lv_iload_n hx hb dX7_tries_15 rfl (lv_at hl 1 rfl) ?_
    refine lv_iadd hx hb dX7_tries_16 ?_
    obtain ⟨v5, hv5, hp⟩ := ob hp
    refine mr_iald C0 hM hv5 dX7_tries_17 ?_
    refine lv_iconst (v := -1) hx hb dX7_tries_18 (by decide) ?_
    refine lv_icmp_ne (tgt := 45) hx hb dX7_tries_19 (by decide) (fun c6 => ?_) (fun c6 => ?_)
    · replace hp := oF c6 hp
      refine lv_iconst (v := 0) hx hb dX7_tries_45 (by decide) ?_
      exact mr_zret C0 hr hlk hM rfl (Or.inl rfl) (Option.some.inj hp) (Nat.le_refl _) (Nat.le_refl _) dX7_tries_46
    · replace hp := oT c6 hp
      refine lv_aload_n hx hb dX7_tries_22 rfl (lv_at hl 0 rfl) ?_
      obtain ⟨v7, hv7, hp⟩ := ob hp
      refine mr_getR C0 cbX7 hM 10 (by decide) tw_1234 hv7 dX7_tries_23 ?_
      refine lv_iload_n hx hb dX7_tries_26 rfl (lv_at hl 1 rfl) ?_
      obtain ⟨v8, hv8, hp⟩ := ob hp
      refine mr_iald C0 hM hv8 dX7_tries_27 ?_
      refine lv_aload_n hx hb dX7_tries_28 rfl (lv_at hl 0 rfl) ?_
      obtain ⟨v9, hv9, hp⟩ := ob hp
      refine mr_getR C0 cbX7 hM 0 (by decide) tw_1224 hv9 dX7_tries_29 ?_
      refine lv_sipush (v := 324) hx hb dX7_tries_32 (by decide) ?_
      refine lv_iload_n hx hb dX7_tries_35 rfl (lv_at hl 1 rfl) ?_
      refine lv_iadd hx hb dX7_tries_36 ?_
      obtain ⟨v10, hv10, hp⟩ := ob hp
      refine mr_iald C0 hM hv10 dX7_tries_37 ?_
      refine lv_icmp_ge (tgt := 45) hx hb dX7_tries_38 (by decide) (fun c11 => ?_) (fun c11 => ?_)
      · replace hp := oT c11 hp
        refine lv_iconst (v := 0) hx hb dX7_tries_45 (by decide) ?_
        exact mr_zret C0 hr hlk hM rfl (Or.inl rfl) (Option.some.inj hp) (Nat.le_refl _) (Nat.le_refl _) dX7_tries_46
      · replace hp := oF c11 hp
        refine lv_iconst (v := 1) hx hb dX7_tries_41 (by decide) ?_
        refine lv_goto (tgt := 46) hx hb dX7_tries_42 (by decide) ?_
        exact mr_zret C0 hr hlk hM rfl (Or.inr rfl) (Option.some.inj hp) (Nat.le_refl _) (Nat.le_refl _) dX7_tries_46
abbrev rm_X7_lastOf : Room := { frames := 5, cells := 0, slots := 0, locals := 116 }
def pl_X7_lastOf_4 (k1 : Int32 → Option (Int32)) (f0 : Nat) (f1 : Int32) (M : Mem) : Nat → Int32 → Int32 → Option (Int32)
  | 0, _, _ => none
  | n + 1, y2, y3 =>
    (Option.bind (gR 6 0 M f0) fun v1 =>
    (Option.bind (aI 0 M v1 (1 : Int32)) fun v2 =>
    (if v2 ≤ y3 then
     (k1 y2)
    else
     (Option.bind (gR 6 0 M f0) fun v4 =>
     (Option.bind (aI 0 M v4 ((484 : Int32) + y3)) fun v5 =>
     (if v5 = f1 then
      (jn (fun (_ : Unit) =>
       (pl_X7_lastOf_4 k1 f0 f1 M n y3 (y3 + (1 : Int32)))
      ) fun k7 =>
      (if y2 = (-1 : Int32) then
       (k7 ())
      else
       (Option.bind (isC 6 M f0) fun _ =>
       (Option.bind (p_X7_isAhead f0 f1 y2 y3 M) fun v10 =>
       (if v10 = 0 then
        (pl_X7_lastOf_4 k1 f0 f1 M n y2 (y3 + (1 : Int32)))
       else
        (k7 ())
       )
       )
       )
      )
      )
     else
      (pl_X7_lastOf_4 k1 f0 f1 M n y2 (y3 + (1 : Int32)))
     )
     )
     )
    )
    )
    )
set_option maxHeartbeats 4000000 in
set_option maxRecDepth 100000 in
theorem wl_X7_lastOf_4 {G : gG} {p : Program} {l : Launch} {e : Env} {s : State} {m : MethodId} {args : Array Value} {below : List Frame} {meth : Method} {c : Code} {A : Nat → Prop} {r : Int32} {k1 : Int32 → Option (Int32)} {f0 : Nat} {f1 : Int32} {M : Mem} (C0 : cx G p s m args c cX7_lastOf RX7 4 A) (hr : meth.sig.returnType = (some FieldType.int)) (hlk : meth.locks = false) (hG : GOK G) (hk1 : ∀ (z2 : Int32) (H : Heap) (locs : List Loc) (ls : Array Slot), mm G A s M H locs → lv_has ls 4 [(2, .int z2)] → k1 z2 = some r → W p l e rm_X7_lastOf s m args below meth c H locs 0 0 (MQ below (CQ G M (some (.int r)) A) args s 0 0 A) (F0 m 51 ls [])) : ∀ (n : Nat) (y2 : Int32) (y3 : Int32) (H : Heap) (locs : List Loc) (ls : Array Slot), mm G A s M H locs → lv_has ls 4 [(0, .ref f0), (1, .int f1), (2, .int y2), (3, .int y3)] → pl_X7_lastOf_4 k1 f0 f1 M n y2 y3 = some r → W p l e rm_X7_lastOf s m args below meth c H locs 0 0 (MQ below (CQ G M (some (.int r)) A) args s 0 0 A) (F0 m 4 ls []) := by
  have hx := C0.1
  have hb := C0.2.1
  have hown := C0.2.2.2.1
  have hts := C0.2.2.2.2.1
  intro n
  induction n with
  | zero => intro y2 y3 H locs ls hM hl hp; rw [pl_X7_lastOf_4] at hp; cases hp
  | succ n ih =>
    intro y2 y3 H locs ls hM hl hp
    rw [pl_X7_lastOf_4] at hp
    refine lv_iload_n hx hb dX7_lastOf_4 rfl (lv_at hl 3 rfl) ?_
    refine lv_aload_n hx hb dX7_lastOf_5 rfl (lv_at hl 0 rfl) ?_
    obtain ⟨v1, hv1, hp⟩ := ob hp
    refine mr_getR C0 cbX7 hM 0 (by decide) tw_1224 hv1 dX7_lastOf_6 ?_
    refine lv_iconst (v := 1) hx hb dX7_lastOf_9 (by decide) ?_
    obtain ⟨v2, hv2, hp⟩ := ob hp
    refine mr_iald C0 hM hv2 dX7_lastOf_10 ?_
    refine lv_icmp_ge (tgt := 51) hx hb dX7_lastOf_11 (by decide) (fun c3 => ?_) (fun c3 => ?_)
    · replace hp := oT c3 hp
      exact hk1 _ _ _ _ hM (lv_sub hl [2] rfl) hp
    · replace hp := oF c3 hp
      refine lv_aload_n hx hb dX7_lastOf_14 rfl (lv_at hl 0 rfl) ?_
      obtain ⟨v4, hv4, hp⟩ := ob hp
      refine mr_getR C0 cbX7 hM 0 (by decide) tw_1224 hv4 dX7_lastOf_15 ?_
      refine lv_sipush (v := 484) hx hb dX7_lastOf_18 (by decide) ?_
      refine lv_iload_n hx hb dX7_lastOf_21 rfl (lv_at hl 3 rfl) ?_
      refine lv_iadd hx hb dX7_lastOf_22 ?_
      obtain ⟨v5, hv5, hp⟩ := ob hp
      refine mr_iald C0 hM hv5 dX7_lastOf_23 ?_
      refine lv_iload_n hx hb dX7_lastOf_24 rfl (lv_at hl 1 rfl) ?_
      refine lv_icmp_ne (tgt := 45) hx hb dX7_lastOf_25 (by decide) (fun c6 => ?_) (fun c6 => ?_)
      · replace hp := oF c6 hp
        refine lv_iinc (v := (y3 + (1 : Int32))) (lv' := [(3, .int (y3 + (1 : Int32))), (0, .ref f0), (1, .int f1), (2, .int y2)]) hx hb dX7_lastOf_45 hl (k := 3) rfl rfl (by decide) rfl (fun ls hl => ?_)
        refine lv_goto (tgt := 4) hx hb dX7_lastOf_48 (by decide) ?_
        exact ih _ _ _ _ _ hM (lv_sub hl [1, 2, 3, 0] rfl) hp
      · replace hp := oT c6 hp
        refine lv_iload_n hx hb dX7_lastOf_28 rfl (lv_at hl 2 rfl) ?_
        refine lv_iconst (v := -1) hx hb dX7_lastOf_29 (by decide) ?_
        obtain ⟨k7, ek7, hp⟩ := ojn hp
        have hk7 : ∀ (H : Heap) (locs : List Loc) (ls : Array Slot), mm G A s M H locs → lv_has ls 4 [(0, .ref f0), (1, .int f1), (3, .int y3)] → k7 () = some r → W p l e rm_X7_lastOf s m args below meth c H locs 0 0 (MQ below (CQ G M (some (.int r)) A) args s 0 0 A) (F0 m 43 ls []) := by
          intro  H locs ls hM hl hp
          rw [ek7] at hp
          refine lv_iload_n hx hb dX7_lastOf_43 rfl (lv_at hl 2 rfl) ?_
          refine lv_istore_n (lv' := [(2, .int y3), (0, .ref f0), (1, .int f1), (3, .int y3)]) hx hb dX7_lastOf_44 rfl hl (by decide) rfl (fun ls hl => ?_)
          refine lv_iinc (v := (y3 + (1 : Int32))) (lv' := [(3, .int (y3 + (1 : Int32))), (2, .int y3), (0, .ref f0), (1, .int f1)]) hx hb dX7_lastOf_45 hl (k := 3) rfl rfl (by decide) rfl (fun ls hl => ?_)
          refine lv_goto (tgt := 4) hx hb dX7_lastOf_48 (by decide) ?_
          exact ih _ _ _ _ _ hM (lv_sub hl [2, 3, 1, 0] rfl) hp
        refine lv_icmp_eq (tgt := 43) hx hb dX7_lastOf_30 (by decide) (fun c8 => ?_) (fun c8 => ?_)
        · replace hp := oT c8 hp
          exact hk7  _ _ _ hM (lv_sub hl [0, 1, 3] rfl) hp
        · replace hp := oF c8 hp
          refine lv_aload_n hx hb dX7_lastOf_33 rfl (lv_at hl 0 rfl) ?_
          refine lv_iload_n hx hb dX7_lastOf_34 rfl (lv_at hl 1 rfl) ?_
          refine lv_iload_n hx hb dX7_lastOf_35 rfl (lv_at hl 2 rfl) ?_
          refine lv_iload_n hx hb dX7_lastOf_36 rfl (lv_at hl 3 rfl) ?_
          obtain ⟨_, h9, hp⟩ := ob hp
          obtain ⟨v10, hv10, hp⟩ := ob hp
          refine mr_V1 (As := [.int f1, .int y2, .int y3]) (rest := []) C0 cbX7 hM h9 rfl (w_X7_isAhead hG hv10) tw_1567 tw_1569 tws_49 tw_7 tw_1570 yk_X7_isAhead (by decide) rfl hl.1 (Nat.le_of_ble_eq_true rfl) dX7_lastOf_37 rfl (fun H locs hM => ?_)
          refine lv_if_eq (tgt := 45) hx hb dX7_lastOf_40 (by decide) (fun c11 => ?_) (fun c11 => ?_)
          · replace hp := oT c11 hp
            refine lv_iinc (v := (y3 + (1 : Int32))) (lv' := [(3, .int (y3 + (1 : Int32))), (0, .ref f0), (1, .int f1), (2, .int y2)]) hx hb dX7_lastOf_45 hl (k := 3) rfl rfl (by decide) rfl (fun ls hl => ?_)
            refine lv_goto (tgt := 4) hx hb dX7_lastOf_48 (by decide) ?_
            exact ih _ _ _ _ _ hM (lv_sub hl [1, 2, 3, 0] rfl) hp
          · replace hp := oF c11 hp
            exact hk7  _ _ _ hM (lv_sub hl [0, 1, 3] rfl) hp
def p_X7_lastOf (a0 : Nat) (a1 : Int32) (M : Mem) : Option (Int32) :=
  (pl_X7_lastOf_4
   (fun (z12 : Int32) =>
    some z12
   )
   a0 a1 M FU (-1 : Int32) (0 : Int32))
theorem yk_X7_lastOf : yok yX7_lastOf 1 := by decide +kernel
set_option maxHeartbeats 4000000 in
set_option maxRecDepth 100000 in
theorem w_X7_lastOf {G : gG} (hG : GOK G) {l : Launch} {a0 : Nat} {a1 : Int32} {M : Mem} {r : Int32} (hp : p_X7_lastOf a0 a1 M = some r) : CT G l yX7_lastOf (wT yX7_lastOf cX7_lastOf 4 (some FieldType.int)) rm_X7_lastOf [.ref a0, .int a1] M (some (.int r)) M 0 0 := by
  refine CT_of (own := RX7) (maxL := 4) (ret := (some FieldType.int)) hG (by decide) rfl (Nat.le_of_ble_eq_true rfl) (fun p e s m below meth c A C0 hr hlk hM ls hl => ?_)
  have hl : lv_has ls 4 [(0, .ref a0), (1, .int a1)] := hl
  generalize ([.ref a0, .int a1] : List Value).toArray = args at C0 ⊢
  skip
  have hx := C0.1
  have hb := C0.2.1
  have hown := C0.2.2.2.1
  have hts := C0.2.2.2.2.1
  unfold p_X7_lastOf at hp
  refine lv_iconst (v := -1) hx hb dX7_lastOf_0 (by decide) ?_
  refine lv_istore_n (lv' := [(2, .int (-1 : Int32)), (0, .ref a0), (1, .int a1)]) hx hb dX7_lastOf_1 rfl hl (by decide) rfl (fun ls hl => ?_)
  refine lv_iconst (v := 0) hx hb dX7_lastOf_2 (by decide) ?_
  refine lv_istore_n (lv' := [(3, .int (0 : Int32)), (2, .int (-1 : Int32)), (0, .ref a0), (1, .int a1)]) hx hb dX7_lastOf_3 rfl hl (by decide) rfl (fun ls hl => ?_)
  refine wl_X7_lastOf_4 C0 hr hlk hG (fun z12 H locs ls hM hl hp => ?_) FU _ _ _ _ _ hM (lv_sub hl [2, 3, 1, 0] rfl) hp
  refine lv_iload_n hx hb dX7_lastOf_51 rfl (lv_at hl 0 rfl) ?_
  exact mr_iret C0 hr hlk hM rfl (Option.some.inj hp) (Nat.le_refl _) (Nat.le_refl _) dX7_lastOf_52
abbrev rm_X7_keeps : Room := { frames := 6, cells := 0, slots := 0, locals := 139 }
def pl_X7_keeps_0 (k1 : Mem → Option (Mem)) (f0 : Nat) (f1 : Int32) : Nat → Mem → Option (Mem)
  | 0, _ => none
  | n + 1, M =>
    (Option.bind (isC 6 M f0) fun _ =>
    (Option.bind (p_X7_holders f0 f1 M) fun v2 =>
    (Option.bind (gR 6 0 M f0) fun v3 =>
    (Option.bind (aI 0 M v3 ((20 : Int32) + f1)) fun v4 =>
    (if v2 ≤ v4 then
     (k1  M)
    else
     (Option.bind (isC 6 M f0) fun _ =>
     (Option.bind (p_X7_lastOf f0 f1 M) fun v7 =>
     (Option.bind (gR 6 0 M f0) fun v8 =>
     (Option.bind (aIs M v8 ((484 : Int32) + v7) (-1 : Int32)) fun M9 =>
     (Option.bind (gR 6 0 M9 f0) fun v10 =>
     (Option.bind (aIs M9 v10 ((524 : Int32) + v7) (0 : Int32)) fun M11 =>
     (pl_X7_keeps_0 k1 f0 f1 n M11)
     )
     )
     )
     )
     )
     )
    )
    )
    )
    )
    )
set_option maxHeartbeats 4000000 in
set_option maxRecDepth 100000 in
theorem wl_X7_keeps_0 {G : gG} {p : Program} {l : Launch} {e : Env} {s : State} {m : MethodId} {args : Array Value} {below : List Frame} {meth : Method} {c : Code} {A : Nat → Prop} {M' : Mem} {k1 : Mem → Option (Mem)} {f0 : Nat} {f1 : Int32} (C0 : cx G p s m args c cX7_keeps RX7 3 A) (hr : meth.sig.returnType = (none)) (hlk : meth.locks = false) (hG : GOK G) (hk1 : ∀ (M : Mem) (H : Heap) (locs : List Loc) (ls : Array Slot), mm G A s M H locs → lv_has ls 3 [] → k1 M = some M' → W p l e rm_X7_keeps s m args below meth c H locs 0 0 (MQ below (CQ G M' none A) args s 0 0 A) (F0 m 48 ls [])) : ∀ (n : Nat) (M : Mem) (H : Heap) (locs : List Loc) (ls : Array Slot), mm G A s M H locs → lv_has ls 3 [(0, .ref f0), (1, .int f1)] → pl_X7_keeps_0 k1 f0 f1 n M = some M' → W p l e rm_X7_keeps s m args below meth c H locs 0 0 (MQ below (CQ G M' none A) args s 0 0 A) (F0 m 0 ls []) := by
  have hx := C0.1
  have hb := C0.2.1
  have hown := C0.2.2.2.1
  have hts := C0.2.2.2.2.1
  intro n
  induction n with
  | zero => intro M H locs ls hM hl hp; rw [pl_X7_keeps_0] at hp; cases hp
  | succ n ih =>
    intro M H locs ls hM hl hp
    rw [pl_X7_keeps_0] at hp
    refine lv_aload_n hx hb dX7_keeps_0 rfl (lv_at hl 0 rfl) ?_
    refine lv_iload_n hx hb dX7_keeps_1 rfl (lv_at hl 1 rfl) ?_
    obtain ⟨_, h1, hp⟩ := ob hp
    obtain ⟨v2, hv2, hp⟩ := ob hp
    refine mr_V1 (As := [.int f1]) (rest := []) C0 cbX7 hM h1 rfl (w_X7_holders hG hv2) tw_1479 tw_1481 tws_36 tw_7 tw_1482 yk_X7_holders (by decide) rfl hl.1 (Nat.le_of_ble_eq_true rfl) dX7_keeps_2 rfl (fun H locs hM => ?_)
    refine lv_aload_n hx hb dX7_keeps_5 rfl (lv_at hl 0 rfl) ?_
    obtain ⟨v3, hv3, hp⟩ := ob hp
    refine mr_getR C0 cbX7 hM 0 (by decide) tw_1224 hv3 dX7_keeps_6 ?_
    refine lv_bipush (v := 20) hx hb dX7_keeps_9 (by decide) ?_
    refine lv_iload_n hx hb dX7_keeps_11 rfl (lv_at hl 1 rfl) ?_
    refine lv_iadd hx hb dX7_keeps_12 ?_
    obtain ⟨v4, hv4, hp⟩ := ob hp
    refine mr_iald C0 hM hv4 dX7_keeps_13 ?_
    refine lv_icmp_le (tgt := 48) hx hb dX7_keeps_14 (by decide) (fun c5 => ?_) (fun c5 => ?_)
    · replace hp := oT c5 hp
      exact hk1  _ _ _ _ hM (lv_sub hl [] rfl) hp
    · replace hp := oF c5 hp
      refine lv_aload_n hx hb dX7_keeps_17 rfl (lv_at hl 0 rfl) ?_
      refine lv_iload_n hx hb dX7_keeps_18 rfl (lv_at hl 1 rfl) ?_
      obtain ⟨_, h6, hp⟩ := ob hp
      obtain ⟨v7, hv7, hp⟩ := ob hp
      refine mr_V1 (As := [.int f1]) (rest := []) C0 cbX7 hM h6 rfl (w_X7_lastOf hG hv7) tw_1631 tw_1633 tws_59 tw_7 tw_1634 yk_X7_lastOf (by decide) rfl hl.1 (Nat.le_of_ble_eq_true rfl) dX7_keeps_19 rfl (fun H locs hM => ?_)
      refine lv_istore_n (lv' := [(2, .int v7), (0, .ref f0), (1, .int f1)]) hx hb dX7_keeps_22 rfl hl (by decide) rfl (fun ls hl => ?_)
      refine lv_aload_n hx hb dX7_keeps_23 rfl (lv_at hl 1 rfl) ?_
      obtain ⟨v8, hv8, hp⟩ := ob hp
      refine mr_getR C0 cbX7 hM 0 (by decide) tw_1224 hv8 dX7_keeps_24 ?_
      refine lv_sipush (v := 484) hx hb dX7_keeps_27 (by decide) ?_
      refine lv_iload_n hx hb dX7_keeps_30 rfl (lv_at hl 0 rfl) ?_
      refine lv_iadd hx hb dX7_keeps_31 ?_
      refine lv_iconst (v := -1) hx hb dX7_keeps_32 (by decide) ?_
      obtain ⟨M9, hM9, hp⟩ := ob hp
      refine mr_iast C0 hM hM9 dX7_keeps_33 (fun H locs hM => ?_)
      refine lv_aload_n hx hb dX7_keeps_34 rfl (lv_at hl 1 rfl) ?_
      obtain ⟨v10, hv10, hp⟩ := ob hp
      refine mr_getR C0 cbX7 hM 0 (by decide) tw_1224 hv10 dX7_keeps_35 ?_
      refine lv_sipush (v := 524) hx hb dX7_keeps_38 (by decide) ?_
      refine lv_iload_n hx hb dX7_keeps_41 rfl (lv_at hl 0 rfl) ?_
      refine lv_iadd hx hb dX7_keeps_42 ?_
      refine lv_iconst (v := 0) hx hb dX7_keeps_43 (by decide) ?_
      obtain ⟨M11, hM11, hp⟩ := ob hp
      refine mr_iast C0 hM hM11 dX7_keeps_44 (fun H locs hM => ?_)
      refine lv_goto (tgt := 0) hx hb dX7_keeps_45 (by decide) ?_
      exact ih  _ _ _ _ hM (lv_sub hl [1, 2] rfl) hp
def p_X7_keeps (a0 : Nat) (a1 : Int32) (M : Mem) : Option (Mem) :=
  (pl_X7_keeps_0
   (fun  (M12 : Mem) =>
    some M12
   )
   a0 a1 FU M)
theorem yk_X7_keeps : yok yX7_keeps 1 := by decide +kernel
set_option maxHeartbeats 4000000 in
set_option maxRecDepth 100000 in
theorem w_X7_keeps {G : gG} (hG : GOK G) {l : Launch} {a0 : Nat} {a1 : Int32} {M : Mem} {M' : Mem} (hp : p_X7_keeps a0 a1 M = some M') : CT G l yX7_keeps (wT yX7_keeps cX7_keeps 3 (none)) rm_X7_keeps [.ref a0, .int a1] M none M' 0 0 := by
  refine CT_of (own := RX7) (maxL := 3) (ret := (none)) hG (by decide) rfl (Nat.le_of_ble_eq_true rfl) (fun p e s m below meth c A C0 hr hlk hM ls hl => ?_)
  have hl : lv_has ls 3 [(0, .ref a0), (1, .int a1)] := hl
  generalize ([.ref a0, .int a1] : List Value).toArray = args at C0 ⊢
  skip
  have hx := C0.1
  have hb := C0.2.1
  have hown := C0.2.2.2.1
  have hts := C0.2.2.2.2.1
  unfold p_X7_keeps at hp
  refine wl_X7_keeps_0 C0 hr hlk hG (fun M12 H locs ls hM hl hp => ?_) FU  _ _ _ _ hM (lv_sub hl [0, 1] rfl) hp
  exact mr_vret C0 hr hlk hM (Option.some.inj hp) (Nat.le_refl _) (Nat.le_refl _) dX7_keeps_48
abbrev rm_X7_allocates : Room := { frames := 7, cells := 0, slots := 0, locals := 161 }
def pl_X7_allocates_26 (k1 : Mem → Option (Int32 × Mem)) (f0 : Nat) : Nat → Int32 → Mem → Option (Int32 × Mem)
  | 0, _, _ => none
  | n + 1, y1, M =>
    (if (8 : Int32) ≤ y1 then
     (k1  M)
    else
     (Option.bind (gR 6 0 M f0) fun v8 =>
     (Option.bind (aIs M v8 ((60 : Int32) + y1) (0 : Int32)) fun M9 =>
     (pl_X7_allocates_26 k1 f0 n (y1 + (1 : Int32)) M9)
     )
     )
    )
set_option maxHeartbeats 4000000 in
set_option maxRecDepth 100000 in
theorem wl_X7_allocates_26 {G : gG} {p : Program} {l : Launch} {e : Env} {s : State} {m : MethodId} {args : Array Value} {below : List Frame} {meth : Method} {c : Code} {A : Nat → Prop} {r : Int32} {M' : Mem} {k1 : Mem → Option (Int32 × Mem)} {f0 : Nat} (C0 : cx G p s m args c cX7_allocates RX7 3 A) (hr : meth.sig.returnType = (some FieldType.int)) (hlk : meth.locks = false) (hG : GOK G) (hk1 : ∀ (M : Mem) (H : Heap) (locs : List Loc) (ls : Array Slot), mm G A s M H locs → lv_has ls 3 [(0, .ref f0)] → k1 M = some (r, M') → W p l e rm_X7_allocates s m args below meth c H locs 0 0 (MQ below (CQ G M' (some (.int r)) A) args s 0 0 A) (F0 m 48 ls [])) : ∀ (n : Nat) (y1 : Int32) (M : Mem) (H : Heap) (locs : List Loc) (ls : Array Slot), mm G A s M H locs → lv_has ls 3 [(0, .ref f0), (1, .int y1)] → pl_X7_allocates_26 k1 f0 n y1 M = some (r, M') → W p l e rm_X7_allocates s m args below meth c H locs 0 0 (MQ below (CQ G M' (some (.int r)) A) args s 0 0 A) (F0 m 26 ls []) := by
  have hx := C0.1
  have hb := C0.2.1
  have hown := C0.2.2.2.1
  have hts := C0.2.2.2.2.1
  intro n
  induction n with
  | zero => intro y1 M H locs ls hM hl hp; rw [pl_X7_allocates_26] at hp; cases hp
  | succ n ih =>
    intro y1 M H locs ls hM hl hp
    rw [pl_X7_allocates_26] at hp
    refine lv_iload_n hx hb dX7_allocates_26 rfl (lv_at hl 1 rfl) ?_
    refine lv_bipush (v := 8) hx hb dX7_allocates_27 (by decide) ?_
    refine lv_icmp_ge (tgt := 48) hx hb dX7_allocates_29 (by decide) (fun c7 => ?_) (fun c7 => ?_)
    · replace hp := oT c7 hp
      exact hk1  _ _ _ _ hM (lv_sub hl [0] rfl) hp
    · replace hp := oF c7 hp
      refine lv_aload_n hx hb dX7_allocates_32 rfl (lv_at hl 0 rfl) ?_
      obtain ⟨v8, hv8, hp⟩ := ob hp
      refine mr_getR C0 cbX7 hM 0 (by decide) tw_1224 hv8 dX7_allocates_33 ?_
      refine lv_bipush (v := 60) hx hb dX7_allocates_36 (by decide) ?_
      refine lv_iload_n hx hb dX7_allocates_38 rfl (lv_at hl 1 rfl) ?_
      refine lv_iadd hx hb dX7_allocates_39 ?_
      refine lv_iconst (v := 0) hx hb dX7_allocates_40 (by decide) ?_
      obtain ⟨M9, hM9, hp⟩ := ob hp
      refine mr_iast C0 hM hM9 dX7_allocates_41 (fun H locs hM => ?_)
      refine lv_iinc (v := (y1 + (1 : Int32))) (lv' := [(1, .int (y1 + (1 : Int32))), (0, .ref f0)]) hx hb dX7_allocates_42 hl (k := 1) rfl rfl (by decide) rfl (fun ls hl => ?_)
      refine lv_goto (tgt := 26) hx hb dX7_allocates_45 (by decide) ?_
      exact ih _ _ _ _ _ hM (lv_sub hl [1, 0] rfl) hp
def pl_X7_allocates_50 (k1 : Mem → Option (Int32 × Mem)) (f0 : Nat) : Nat → Int32 → Mem → Option (Int32 × Mem)
  | 0, _, _ => none
  | n + 1, y1, M =>
    (if (40 : Int32) ≤ y1 then
     (k1  M)
    else
     (Option.bind (isC 6 M f0) fun _ =>
     (Option.bind (p_X7_puts f0 y1 (-1 : Int32) (0 : Int32) M) fun M13 =>
     (Option.bind (gR 6 0 M13 f0) fun v14 =>
     (Option.bind (aIs M13 v14 ((524 : Int32) + y1) (0 : Int32)) fun M15 =>
     (Option.bind (gR 6 10 M15 f0) fun v16 =>
     (Option.bind (aIs M15 v16 y1 (0 : Int32)) fun M17 =>
     (pl_X7_allocates_50 k1 f0 n (y1 + (1 : Int32)) M17)
     )
     )
     )
     )
     )
     )
    )
set_option maxHeartbeats 4000000 in
set_option maxRecDepth 100000 in
theorem wl_X7_allocates_50 {G : gG} {p : Program} {l : Launch} {e : Env} {s : State} {m : MethodId} {args : Array Value} {below : List Frame} {meth : Method} {c : Code} {A : Nat → Prop} {r : Int32} {M' : Mem} {k1 : Mem → Option (Int32 × Mem)} {f0 : Nat} (C0 : cx G p s m args c cX7_allocates RX7 3 A) (hr : meth.sig.returnType = (some FieldType.int)) (hlk : meth.locks = false) (hG : GOK G) (hk1 : ∀ (M : Mem) (H : Heap) (locs : List Loc) (ls : Array Slot), mm G A s M H locs → lv_has ls 3 [(0, .ref f0)] → k1 M = some (r, M') → W p l e rm_X7_allocates s m args below meth c H locs 0 0 (MQ below (CQ G M' (some (.int r)) A) args s 0 0 A) (F0 m 87 ls [])) : ∀ (n : Nat) (y1 : Int32) (M : Mem) (H : Heap) (locs : List Loc) (ls : Array Slot), mm G A s M H locs → lv_has ls 3 [(0, .ref f0), (1, .int y1)] → pl_X7_allocates_50 k1 f0 n y1 M = some (r, M') → W p l e rm_X7_allocates s m args below meth c H locs 0 0 (MQ below (CQ G M' (some (.int r)) A) args s 0 0 A) (F0 m 50 ls []) := by
  have hx := C0.1
  have hb := C0.2.1
  have hown := C0.2.2.2.1
  have hts := C0.2.2.2.2.1
  intro n
  induction n with
  | zero => intro y1 M H locs ls hM hl hp; rw [pl_X7_allocates_50] at hp; cases hp
  | succ n ih =>
    intro y1 M H locs ls hM hl hp
    rw [pl_X7_allocates_50] at hp
    refine lv_iload_n hx hb dX7_allocates_50 rfl (lv_at hl 1 rfl) ?_
    refine lv_bipush (v := 40) hx hb dX7_allocates_51 (by decide) ?_
    refine lv_icmp_ge (tgt := 87) hx hb dX7_allocates_53 (by decide) (fun c11 => ?_) (fun c11 => ?_)
    · replace hp := oT c11 hp
      exact hk1  _ _ _ _ hM (lv_sub hl [0] rfl) hp
    · replace hp := oF c11 hp
      refine lv_aload_n hx hb dX7_allocates_56 rfl (lv_at hl 0 rfl) ?_
      refine lv_iload_n hx hb dX7_allocates_57 rfl (lv_at hl 1 rfl) ?_
      refine lv_iconst (v := -1) hx hb dX7_allocates_58 (by decide) ?_
      refine lv_iconst (v := 0) hx hb dX7_allocates_59 (by decide) ?_
      obtain ⟨_, h12, hp⟩ := ob hp
      obtain ⟨M13, hM13, hp⟩ := ob hp
      refine mr_V0 (As := [.int y1, .int (-1 : Int32), .int (0 : Int32)]) (rest := []) C0 cbX7 hM h12 rfl (w_X7_puts hG hM13) tw_1619 tw_1621 tws_56 tw_7 tw_1622 yk_X7_puts (by decide) rfl hl.1 (Nat.le_of_ble_eq_true rfl) dX7_allocates_60 rfl (fun H locs hM => ?_)
      refine lv_aload_n hx hb dX7_allocates_63 rfl (lv_at hl 0 rfl) ?_
      obtain ⟨v14, hv14, hp⟩ := ob hp
      refine mr_getR C0 cbX7 hM 0 (by decide) tw_1224 hv14 dX7_allocates_64 ?_
      refine lv_sipush (v := 524) hx hb dX7_allocates_67 (by decide) ?_
      refine lv_iload_n hx hb dX7_allocates_70 rfl (lv_at hl 1 rfl) ?_
      refine lv_iadd hx hb dX7_allocates_71 ?_
      refine lv_iconst (v := 0) hx hb dX7_allocates_72 (by decide) ?_
      obtain ⟨M15, hM15, hp⟩ := ob hp
      refine mr_iast C0 hM hM15 dX7_allocates_73 (fun H locs hM => ?_)
      refine lv_aload_n hx hb dX7_allocates_74 rfl (lv_at hl 0 rfl) ?_
      obtain ⟨v16, hv16, hp⟩ := ob hp
      refine mr_getR C0 cbX7 hM 10 (by decide) tw_1234 hv16 dX7_allocates_75 ?_
      refine lv_iload_n hx hb dX7_allocates_78 rfl (lv_at hl 1 rfl) ?_
      refine lv_iconst (v := 0) hx hb dX7_allocates_79 (by decide) ?_
      obtain ⟨M17, hM17, hp⟩ := ob hp
      refine mr_iast C0 hM hM17 dX7_allocates_80 (fun H locs hM => ?_)
      refine lv_iinc (v := (y1 + (1 : Int32))) (lv' := [(1, .int (y1 + (1 : Int32))), (0, .ref f0)]) hx hb dX7_allocates_81 hl (k := 1) rfl rfl (by decide) rfl (fun ls hl => ?_)
      refine lv_goto (tgt := 50) hx hb dX7_allocates_84 (by decide) ?_
      exact ih _ _ _ _ _ hM (lv_sub hl [1, 0] rfl) hp
def pl_X7_allocates_97 (k1 : Int32 → Mem → Option (Int32 × Mem)) (f0 : Nat) : Nat → Int32 → Int32 → Mem → Option (Int32 × Mem)
  | 0, _, _, _ => none
  | n + 1, y1, y2, M =>
    (Option.bind (gR 6 0 M f0) fun v20 =>
    (Option.bind (aI 0 M v20 (1 : Int32)) fun v21 =>
    (if v21 ≤ y2 then
     (k1 y1 M)
    else
     (Option.bind (isC 6 M f0) fun _ =>
     (Option.bind (p_X7_tries f0 y2 M) fun v24 =>
     (if v24 = 0 then
      (pl_X7_allocates_97 k1 f0 n y1 (y2 + (1 : Int32)) M)
     else
      (Option.bind (gR 6 0 M f0) fun v26 =>
      (Option.bind (gR 6 0 M f0) fun v27 =>
      (Option.bind (gR 6 10 M f0) fun v28 =>
      (Option.bind (aI 0 M v28 y2) fun v29 =>
      (Option.bind (aI 0 M v27 (((564 : Int32) + ((4 : Int32) * y2)) + v29)) fun v30 =>
      (Option.bind (aIs M v26 ((484 : Int32) + y2) v30) fun M31 =>
      (Option.bind (gR 6 0 M31 f0) fun v32 =>
      (Option.bind (gR 6 0 M31 f0) fun v33 =>
      (Option.bind (aI 0 M31 v33 (9 : Int32)) fun v34 =>
      (Option.bind (aIs M31 v32 ((524 : Int32) + y2) (v34 + (1 : Int32))) fun M35 =>
      (Option.bind (gR 6 10 M35 f0) fun v36 =>
      (Option.bind (aI 0 M35 v36 y2) fun v37 =>
      (Option.bind (aIs M35 v36 y2 (v37 + (1 : Int32))) fun M38 =>
      (pl_X7_allocates_97 k1 f0 n (1 : Int32) (y2 + (1 : Int32)) M38)
      )
      )
      )
      )
      )
      )
      )
      )
      )
      )
      )
      )
      )
     )
     )
     )
    )
    )
    )
set_option maxHeartbeats 4000000 in
set_option maxRecDepth 100000 in
theorem wl_X7_allocates_97 {G : gG} {p : Program} {l : Launch} {e : Env} {s : State} {m : MethodId} {args : Array Value} {below : List Frame} {meth : Method} {c : Code} {A : Nat → Prop} {r : Int32} {M' : Mem} {k1 : Int32 → Mem → Option (Int32 × Mem)} {f0 : Nat} (C0 : cx G p s m args c cX7_allocates RX7 3 A) (hr : meth.sig.returnType = (some FieldType.int)) (hlk : meth.locks = false) (hG : GOK G) (hk1 : ∀ (z1 : Int32) (M : Mem) (H : Heap) (locs : List Loc) (ls : Array Slot), mm G A s M H locs → lv_has ls 3 [(0, .ref f0), (1, .int z1)] → k1 z1 M = some (r, M') → W p l e rm_X7_allocates s m args below meth c H locs 0 0 (MQ below (CQ G M' (some (.int r)) A) args s 0 0 A) (F0 m 184 ls [])) : ∀ (n : Nat) (y1 : Int32) (y2 : Int32) (M : Mem) (H : Heap) (locs : List Loc) (ls : Array Slot), mm G A s M H locs → lv_has ls 3 [(0, .ref f0), (1, .int y1), (2, .int y2)] → pl_X7_allocates_97 k1 f0 n y1 y2 M = some (r, M') → W p l e rm_X7_allocates s m args below meth c H locs 0 0 (MQ below (CQ G M' (some (.int r)) A) args s 0 0 A) (F0 m 97 ls []) := by
  have hx := C0.1
  have hb := C0.2.1
  have hown := C0.2.2.2.1
  have hts := C0.2.2.2.2.1
  intro n
  induction n with
  | zero => intro y1 y2 M H locs ls hM hl hp; rw [pl_X7_allocates_97] at hp; cases hp
  | succ n ih =>
    intro y1 y2 M H locs ls hM hl hp
    rw [pl_X7_allocates_97] at hp
    refine lv_iload_n hx hb dX7_allocates_97 rfl (lv_at hl 2 rfl) ?_
    refine lv_aload_n hx hb dX7_allocates_98 rfl (lv_at hl 0 rfl) ?_
    obtain ⟨v20, hv20, hp⟩ := ob hp
    refine mr_getR C0 cbX7 hM 0 (by decide) tw_1224 hv20 dX7_allocates_99 ?_
    refine lv_iconst (v := 1) hx hb dX7_allocates_102 (by decide) ?_
    obtain ⟨v21, hv21, hp⟩ := ob hp
    refine mr_iald C0 hM hv21 dX7_allocates_103 ?_
    refine lv_icmp_ge (tgt := 184) hx hb dX7_allocates_104 (by decide) (fun c22 => ?_) (fun c22 => ?_)
    · replace hp := oT c22 hp
      exact hk1 _ _ _ _ _ hM (lv_sub hl [0, 1] rfl) hp
    · replace hp := oF c22 hp
      refine lv_aload_n hx hb dX7_allocates_107 rfl (lv_at hl 0 rfl) ?_
      refine lv_iload_n hx hb dX7_allocates_108 rfl (lv_at hl 2 rfl) ?_
      obtain ⟨_, h23, hp⟩ := ob hp
      obtain ⟨v24, hv24, hp⟩ := ob hp
      refine mr_V1 (As := [.int y2]) (rest := []) C0 cbX7 hM h23 rfl (w_X7_tries hG hv24) tw_1623 tw_1625 tws_57 tw_7 tw_1626 yk_X7_tries (by decide) rfl hl.1 (Nat.le_of_ble_eq_true rfl) dX7_allocates_109 rfl (fun H locs hM => ?_)
      refine lv_if_ne (tgt := 118) hx hb dX7_allocates_112 (by decide) (fun c25 => ?_) (fun c25 => ?_)
      · replace hp := oF c25 hp
        refine lv_iconst (v := 1) hx hb dX7_allocates_118 (by decide) ?_
        refine lv_istore_n (lv' := [(1, .int (1 : Int32)), (0, .ref f0), (2, .int y2)]) hx hb dX7_allocates_119 rfl hl (by decide) rfl (fun ls hl => ?_)
        refine lv_aload_n hx hb dX7_allocates_120 rfl (lv_at hl 1 rfl) ?_
        obtain ⟨v26, hv26, hp⟩ := ob hp
        refine mr_getR C0 cbX7 hM 0 (by decide) tw_1224 hv26 dX7_allocates_121 ?_
        refine lv_sipush (v := 484) hx hb dX7_allocates_124 (by decide) ?_
        refine lv_iload_n hx hb dX7_allocates_127 rfl (lv_at hl 2 rfl) ?_
        refine lv_iadd hx hb dX7_allocates_128 ?_
        refine lv_aload_n hx hb dX7_allocates_129 rfl (lv_at hl 1 rfl) ?_
        obtain ⟨v27, hv27, hp⟩ := ob hp
        refine mr_getR C0 cbX7 hM 0 (by decide) tw_1224 hv27 dX7_allocates_130 ?_
        refine lv_sipush (v := 564) hx hb dX7_allocates_133 (by decide) ?_
        refine lv_iconst (v := 4) hx hb dX7_allocates_136 (by decide) ?_
        refine lv_iload_n hx hb dX7_allocates_137 rfl (lv_at hl 2 rfl) ?_
        refine lv_imul hx hb dX7_allocates_138 ?_
        refine lv_iadd hx hb dX7_allocates_139 ?_
        refine lv_aload_n hx hb dX7_allocates_140 rfl (lv_at hl 1 rfl) ?_
        obtain ⟨v28, hv28, hp⟩ := ob hp
        refine mr_getR C0 cbX7 hM 10 (by decide) tw_1234 hv28 dX7_allocates_141 ?_
        refine lv_iload_n hx hb dX7_allocates_144 rfl (lv_at hl 2 rfl) ?_
        obtain ⟨v29, hv29, hp⟩ := ob hp
        refine mr_iald C0 hM hv29 dX7_allocates_145 ?_
        refine lv_iadd hx hb dX7_allocates_146 ?_
        obtain ⟨v30, hv30, hp⟩ := ob hp
        refine mr_iald C0 hM hv30 dX7_allocates_147 ?_
        obtain ⟨M31, hM31, hp⟩ := ob hp
        refine mr_iast C0 hM hM31 dX7_allocates_148 (fun H locs hM => ?_)
        refine lv_aload_n hx hb dX7_allocates_149 rfl (lv_at hl 1 rfl) ?_
        obtain ⟨v32, hv32, hp⟩ := ob hp
        refine mr_getR C0 cbX7 hM 0 (by decide) tw_1224 hv32 dX7_allocates_150 ?_
        refine lv_sipush (v := 524) hx hb dX7_allocates_153 (by decide) ?_
        refine lv_iload_n hx hb dX7_allocates_156 rfl (lv_at hl 2 rfl) ?_
        refine lv_iadd hx hb dX7_allocates_157 ?_
        refine lv_aload_n hx hb dX7_allocates_158 rfl (lv_at hl 1 rfl) ?_
        obtain ⟨v33, hv33, hp⟩ := ob hp
        refine mr_getR C0 cbX7 hM 0 (by decide) tw_1224 hv33 dX7_allocates_159 ?_
        refine lv_bipush (v := 9) hx hb dX7_allocates_162 (by decide) ?_
        obtain ⟨v34, hv34, hp⟩ := ob hp
        refine mr_iald C0 hM hv34 dX7_allocates_164 ?_
        refine lv_iconst (v := 1) hx hb dX7_allocates_165 (by decide) ?_
        refine lv_iadd hx hb dX7_allocates_166 ?_
        obtain ⟨M35, hM35, hp⟩ := ob hp
        refine mr_iast C0 hM hM35 dX7_allocates_167 (fun H locs hM => ?_)
        refine lv_aload_n hx hb dX7_allocates_168 rfl (lv_at hl 1 rfl) ?_
        obtain ⟨v36, hv36, hp⟩ := ob hp
        refine mr_getR C0 cbX7 hM 10 (by decide) tw_1234 hv36 dX7_allocates_169 ?_
        refine lv_iload_n hx hb dX7_allocates_172 rfl (lv_at hl 2 rfl) ?_
        refine lv_dup2_11 hx hb dX7_allocates_173 rfl rfl ?_
        obtain ⟨v37, hv37, hp⟩ := ob hp
        refine mr_iald C0 hM hv37 dX7_allocates_174 ?_
        refine lv_iconst (v := 1) hx hb dX7_allocates_175 (by decide) ?_
        refine lv_iadd hx hb dX7_allocates_176 ?_
        obtain ⟨M38, hM38, hp⟩ := ob hp
        refine mr_iast C0 hM hM38 dX7_allocates_177 (fun H locs hM => ?_)
        refine lv_iinc (v := (y2 + (1 : Int32))) (lv' := [(2, .int (y2 + (1 : Int32))), (1, .int (1 : Int32)), (0, .ref f0)]) hx hb dX7_allocates_178 hl (k := 2) rfl rfl (by decide) rfl (fun ls hl => ?_)
        refine lv_goto (tgt := 97) hx hb dX7_allocates_181 (by decide) ?_
        exact ih _ _ _ _ _ _ hM (lv_sub hl [2, 1, 0] rfl) hp
      · replace hp := oT c25 hp
        refine lv_goto (tgt := 178) hx hb dX7_allocates_115 (by decide) ?_
        refine lv_iinc (v := (y2 + (1 : Int32))) (lv' := [(2, .int (y2 + (1 : Int32))), (0, .ref f0), (1, .int y1)]) hx hb dX7_allocates_178 hl (k := 2) rfl rfl (by decide) rfl (fun ls hl => ?_)
        refine lv_goto (tgt := 97) hx hb dX7_allocates_181 (by decide) ?_
        exact ih _ _ _ _ _ _ hM (lv_sub hl [1, 2, 0] rfl) hp
def pl_X7_allocates_186 (k1 : Mem → Option (Int32 × Mem)) (f0 : Nat) (f1 : Int32) : Nat → Int32 → Mem → Option (Int32 × Mem)
  | 0, _, _ => none
  | n + 1, y2, M =>
    (Option.bind (gR 6 0 M f0) fun v41 =>
    (Option.bind (aI 0 M v41 (0 : Int32)) fun v42 =>
    (if v42 ≤ y2 then
     (k1  M)
    else
     (Option.bind (isC 6 M f0) fun _ =>
     (Option.bind (p_X7_keeps f0 y2 M) fun M45 =>
     (pl_X7_allocates_186 k1 f0 f1 n (y2 + (1 : Int32)) M45)
     )
     )
    )
    )
    )
set_option maxHeartbeats 4000000 in
set_option maxRecDepth 100000 in
theorem wl_X7_allocates_186 {G : gG} {p : Program} {l : Launch} {e : Env} {s : State} {m : MethodId} {args : Array Value} {below : List Frame} {meth : Method} {c : Code} {A : Nat → Prop} {r : Int32} {M' : Mem} {k1 : Mem → Option (Int32 × Mem)} {f0 : Nat} {f1 : Int32} (C0 : cx G p s m args c cX7_allocates RX7 3 A) (hr : meth.sig.returnType = (some FieldType.int)) (hlk : meth.locks = false) (hG : GOK G) (hk1 : ∀ (M : Mem) (H : Heap) (locs : List Loc) (ls : Array Slot), mm G A s M H locs → lv_has ls 3 [(0, .ref f0), (1, .int f1)] → k1 M = some (r, M') → W p l e rm_X7_allocates s m args below meth c H locs 0 0 (MQ below (CQ G M' (some (.int r)) A) args s 0 0 A) (F0 m 207 ls [])) : ∀ (n : Nat) (y2 : Int32) (M : Mem) (H : Heap) (locs : List Loc) (ls : Array Slot), mm G A s M H locs → lv_has ls 3 [(0, .ref f0), (1, .int f1), (2, .int y2)] → pl_X7_allocates_186 k1 f0 f1 n y2 M = some (r, M') → W p l e rm_X7_allocates s m args below meth c H locs 0 0 (MQ below (CQ G M' (some (.int r)) A) args s 0 0 A) (F0 m 186 ls []) := by
  have hx := C0.1
  have hb := C0.2.1
  have hown := C0.2.2.2.1
  have hts := C0.2.2.2.2.1
  intro n
  induction n with
  | zero => intro y2 M H locs ls hM hl hp; rw [pl_X7_allocates_186] at hp; cases hp
  | succ n ih =>
    intro y2 M H locs ls hM hl hp
    rw [pl_X7_allocates_186] at hp
    refine lv_iload_n hx hb dX7_allocates_186 rfl (lv_at hl 2 rfl) ?_
    refine lv_aload_n hx hb dX7_allocates_187 rfl (lv_at hl 0 rfl) ?_
    obtain ⟨v41, hv41, hp⟩ := ob hp
    refine mr_getR C0 cbX7 hM 0 (by decide) tw_1224 hv41 dX7_allocates_188 ?_
    refine lv_iconst (v := 0) hx hb dX7_allocates_191 (by decide) ?_
    obtain ⟨v42, hv42, hp⟩ := ob hp
    refine mr_iald C0 hM hv42 dX7_allocates_192 ?_
    refine lv_icmp_ge (tgt := 207) hx hb dX7_allocates_193 (by decide) (fun c43 => ?_) (fun c43 => ?_)
    · replace hp := oT c43 hp
      exact hk1  _ _ _ _ hM (lv_sub hl [0, 1] rfl) hp
    · replace hp := oF c43 hp
      refine lv_aload_n hx hb dX7_allocates_196 rfl (lv_at hl 0 rfl) ?_
      refine lv_iload_n hx hb dX7_allocates_197 rfl (lv_at hl 2 rfl) ?_
      obtain ⟨_, h44, hp⟩ := ob hp
      obtain ⟨M45, hM45, hp⟩ := ob hp
      refine mr_V0 (As := [.int y2]) (rest := []) C0 cbX7 hM h44 rfl (w_X7_keeps hG hM45) tw_1627 tw_1629 tws_58 tw_7 tw_1630 yk_X7_keeps (by decide) rfl hl.1 (Nat.le_of_ble_eq_true rfl) dX7_allocates_198 rfl (fun H locs hM => ?_)
      refine lv_iinc (v := (y2 + (1 : Int32))) (lv' := [(2, .int (y2 + (1 : Int32))), (0, .ref f0), (1, .int f1)]) hx hb dX7_allocates_201 hl (k := 2) rfl rfl (by decide) rfl (fun ls hl => ?_)
      refine lv_goto (tgt := 186) hx hb dX7_allocates_204 (by decide) ?_
      exact ih _ _ _ _ _ hM (lv_sub hl [1, 2, 0] rfl) hp
def pl_X7_allocates_89 (k1 : Mem → Option (Int32 × Mem)) (f0 : Nat) : Nat → Int32 → Mem → Option (Int32 × Mem)
  | 0, _, _ => none
  | n + 1, y1, M =>
    (if y1 = 0 then
     (k1  M)
    else
     (pl_X7_allocates_97
      (fun (z39 : Int32) (M40 : Mem) =>
       (pl_X7_allocates_186
        (fun  (M46 : Mem) =>
         (Option.bind (gR 6 0 M46 f0) fun v47 =>
         (Option.bind (aI 0 M46 v47 (9 : Int32)) fun v48 =>
         (if z39 = 0 then
          (Option.bind (aIs M46 v47 (9 : Int32) (v48 + (0 : Int32))) fun M50 =>
          (pl_X7_allocates_89 k1 f0 n z39 M50)
          )
         else
          (Option.bind (aIs M46 v47 (9 : Int32) (v48 + (1 : Int32))) fun M51 =>
          (pl_X7_allocates_89 k1 f0 n z39 M51)
          )
         )
         )
         )
        )
        f0 z39 FU (0 : Int32) M40)
      )
      f0 FU (0 : Int32) (0 : Int32) M)
    )
set_option maxHeartbeats 4000000 in
set_option maxRecDepth 100000 in
theorem wl_X7_allocates_89 {G : gG} {p : Program} {l : Launch} {e : Env} {s : State} {m : MethodId} {args : Array Value} {below : List Frame} {meth : Method} {c : Code} {A : Nat → Prop} {r : Int32} {M' : Mem} {k1 : Mem → Option (Int32 × Mem)} {f0 : Nat} (C0 : cx G p s m args c cX7_allocates RX7 3 A) (hr : meth.sig.returnType = (some FieldType.int)) (hlk : meth.locks = false) (hG : GOK G) (hk1 : ∀ (M : Mem) (H : Heap) (locs : List Loc) (ls : Array Slot), mm G A s M H locs → lv_has ls 3 [(0, .ref f0)] → k1 M = some (r, M') → W p l e rm_X7_allocates s m args below meth c H locs 0 0 (MQ below (CQ G M' (some (.int r)) A) args s 0 0 A) (F0 m 229 ls [])) : ∀ (n : Nat) (y1 : Int32) (M : Mem) (H : Heap) (locs : List Loc) (ls : Array Slot), mm G A s M H locs → lv_has ls 3 [(0, .ref f0), (1, .int y1)] → pl_X7_allocates_89 k1 f0 n y1 M = some (r, M') → W p l e rm_X7_allocates s m args below meth c H locs 0 0 (MQ below (CQ G M' (some (.int r)) A) args s 0 0 A) (F0 m 89 ls []) := by
  have hx := C0.1
  have hb := C0.2.1
  have hown := C0.2.2.2.1
  have hts := C0.2.2.2.2.1
  intro n
  induction n with
  | zero => intro y1 M H locs ls hM hl hp; rw [pl_X7_allocates_89] at hp; cases hp
  | succ n ih =>
    intro y1 M H locs ls hM hl hp
    rw [pl_X7_allocates_89] at hp
    refine lv_iload_n hx hb dX7_allocates_89 rfl (lv_at hl 1 rfl) ?_
    refine lv_if_eq (tgt := 229) hx hb dX7_allocates_90 (by decide) (fun c19 => ?_) (fun c19 => ?_)
    · replace hp := oT c19 hp
      exact hk1  _ _ _ _ hM (lv_sub hl [0] rfl) hp
    · replace hp := oF c19 hp
      refine lv_iconst (v := 0) hx hb dX7_allocates_93 (by decide) ?_
      refine lv_istore_n (lv' := [(1, .int (0 : Int32)), (0, .ref f0)]) hx hb dX7_allocates_94 rfl hl (by decide) rfl (fun ls hl => ?_)
      refine lv_iconst (v := 0) hx hb dX7_allocates_95 (by decide) ?_
      refine lv_istore_n (lv' := [(2, .int (0 : Int32)), (1, .int (0 : Int32)), (0, .ref f0)]) hx hb dX7_allocates_96 rfl hl (by decide) rfl (fun ls hl => ?_)
      refine wl_X7_allocates_97 C0 hr hlk hG (fun z39 M40 H locs ls hM hl hp => ?_) FU _ _ _ _ _ _ hM (lv_sub hl [2, 1, 0] rfl) hp
      refine lv_iconst (v := 0) hx hb dX7_allocates_184 (by decide) ?_
      refine lv_istore_n (lv' := [(2, .int (0 : Int32)), (0, .ref f0), (1, .int z39)]) hx hb dX7_allocates_185 rfl hl (by decide) rfl (fun ls hl => ?_)
      refine wl_X7_allocates_186 C0 hr hlk hG (fun M46 H locs ls hM hl hp => ?_) FU _ _ _ _ _ hM (lv_sub hl [1, 2, 0] rfl) hp
      refine lv_aload_n hx hb dX7_allocates_207 rfl (lv_at hl 0 rfl) ?_
      obtain ⟨v47, hv47, hp⟩ := ob hp
      refine mr_getR C0 cbX7 hM 0 (by decide) tw_1224 hv47 dX7_allocates_208 ?_
      refine lv_bipush (v := 9) hx hb dX7_allocates_211 (by decide) ?_
      refine lv_dup2_11 hx hb dX7_allocates_213 rfl rfl ?_
      obtain ⟨v48, hv48, hp⟩ := ob hp
      refine mr_iald C0 hM hv48 dX7_allocates_214 ?_
      refine lv_iload_n hx hb dX7_allocates_215 rfl (lv_at hl 1 rfl) ?_
      refine lv_if_eq (tgt := 223) hx hb dX7_allocates_216 (by decide) (fun c49 => ?_) (fun c49 => ?_)
      · replace hp := oT c49 hp
        refine lv_iconst (v := 0) hx hb dX7_allocates_223 (by decide) ?_
        refine lv_iadd hx hb dX7_allocates_224 ?_
        obtain ⟨M50, hM50, hp⟩ := ob hp
        refine mr_iast C0 hM hM50 dX7_allocates_225 (fun H locs hM => ?_)
        refine lv_goto (tgt := 89) hx hb dX7_allocates_226 (by decide) ?_
        exact ih _ _ _ _ _ hM (lv_sub hl [0, 1] rfl) hp
      · replace hp := oF c49 hp
        refine lv_iconst (v := 1) hx hb dX7_allocates_219 (by decide) ?_
        refine lv_goto (tgt := 224) hx hb dX7_allocates_220 (by decide) ?_
        refine lv_iadd hx hb dX7_allocates_224 ?_
        obtain ⟨M51, hM51, hp⟩ := ob hp
        refine mr_iast C0 hM hM51 dX7_allocates_225 (fun H locs hM => ?_)
        refine lv_goto (tgt := 89) hx hb dX7_allocates_226 (by decide) ?_
        exact ih _ _ _ _ _ hM (lv_sub hl [0, 1] rfl) hp
def p_X7_allocates (a0 : Nat) (M : Mem) : Option (Int32 × Mem) :=
  (Option.bind (gR 6 0 M a0) fun v1 =>
  (Option.bind (aIs M v1 (8 : Int32) (1 : Int32)) fun M2 =>
  (Option.bind (gR 6 0 M2 a0) fun v3 =>
  (Option.bind (aIs M2 v3 (9 : Int32) (0 : Int32)) fun M4 =>
  (Option.bind (gR 6 0 M4 a0) fun v5 =>
  (Option.bind (aIs M4 v5 (10 : Int32) (0 : Int32)) fun M6 =>
  (pl_X7_allocates_26
   (fun  (M10 : Mem) =>
    (pl_X7_allocates_50
     (fun  (M18 : Mem) =>
      (pl_X7_allocates_89
       (fun  (M52 : Mem) =>
        (Option.bind (gR 6 0 M52 a0) fun v53 =>
        (Option.bind (aI 0 M52 v53 (9 : Int32)) fun v54 =>
        some (v54, M52)
        )
        )
       )
       a0 FU (1 : Int32) M18)
     )
     a0 FU (0 : Int32) M10)
   )
   a0 FU (0 : Int32) M6)
  )
  )
  )
  )
  )
  )
theorem yk_X7_allocates : yok yX7_allocates 0 := by decide +kernel
set_option maxHeartbeats 4000000 in
set_option maxRecDepth 100000 in
theorem w_X7_allocates {G : gG} (hG : GOK G) {l : Launch} {a0 : Nat} {M : Mem} {r : Int32} {M' : Mem} (hp : p_X7_allocates a0 M = some (r, M')) : CT G l yX7_allocates (wT yX7_allocates cX7_allocates 3 (some FieldType.int)) rm_X7_allocates [.ref a0] M (some (.int r)) M' 0 0 := by
  refine CT_of (own := RX7) (maxL := 3) (ret := (some FieldType.int)) hG (by decide) rfl (Nat.le_of_ble_eq_true rfl) (fun p e s m below meth c A C0 hr hlk hM ls hl => ?_)
  have hl : lv_has ls 3 [(0, .ref a0)] := hl
  generalize ([.ref a0] : List Value).toArray = args at C0 ⊢
  skip
  have hx := C0.1
  have hb := C0.2.1
  have hown := C0.2.2.2.1
  have hts := C0.2.2.2.2.1
  unfold p_X7_allocates at hp
  refine lv_aload_n hx hb dX7_allocates_0 rfl (lv_at hl 0 rfl) ?_
  obtain ⟨v1, hv1, hp⟩ := ob hp
  refine mr_getR C0 cbX7 hM 0 (by decide) tw_1224 hv1 dX7_allocates_1 ?_
  refine lv_bipush (v := 8) hx hb dX7_allocates_4 (by decide) ?_
  refine lv_iconst (v := 1) hx hb dX7_allocates_6 (by decide) ?_
  obtain ⟨M2, hM2, hp⟩ := ob hp
  refine mr_iast C0 hM hM2 dX7_allocates_7 (fun H locs hM => ?_)
  refine lv_aload_n hx hb dX7_allocates_8 rfl (lv_at hl 0 rfl) ?_
  obtain ⟨v3, hv3, hp⟩ := ob hp
  refine mr_getR C0 cbX7 hM 0 (by decide) tw_1224 hv3 dX7_allocates_9 ?_
  refine lv_bipush (v := 9) hx hb dX7_allocates_12 (by decide) ?_
  refine lv_iconst (v := 0) hx hb dX7_allocates_14 (by decide) ?_
  obtain ⟨M4, hM4, hp⟩ := ob hp
  refine mr_iast C0 hM hM4 dX7_allocates_15 (fun H locs hM => ?_)
  refine lv_aload_n hx hb dX7_allocates_16 rfl (lv_at hl 0 rfl) ?_
  obtain ⟨v5, hv5, hp⟩ := ob hp
  refine mr_getR C0 cbX7 hM 0 (by decide) tw_1224 hv5 dX7_allocates_17 ?_
  refine lv_bipush (v := 10) hx hb dX7_allocates_20 (by decide) ?_
  refine lv_iconst (v := 0) hx hb dX7_allocates_22 (by decide) ?_
  obtain ⟨M6, hM6, hp⟩ := ob hp
  refine mr_iast C0 hM hM6 dX7_allocates_23 (fun H locs hM => ?_)
  refine lv_iconst (v := 0) hx hb dX7_allocates_24 (by decide) ?_
  refine lv_istore_n (lv' := [(1, .int (0 : Int32)), (0, .ref a0)]) hx hb dX7_allocates_25 rfl hl (by decide) rfl (fun ls hl => ?_)
  refine wl_X7_allocates_26 C0 hr hlk hG (fun M10 H locs ls hM hl hp => ?_) FU _ _ _ _ _ hM (lv_sub hl [1, 0] rfl) hp
  refine lv_iconst (v := 0) hx hb dX7_allocates_48 (by decide) ?_
  refine lv_istore_n (lv' := [(1, .int (0 : Int32)), (0, .ref a0)]) hx hb dX7_allocates_49 rfl hl (by decide) rfl (fun ls hl => ?_)
  refine wl_X7_allocates_50 C0 hr hlk hG (fun M18 H locs ls hM hl hp => ?_) FU _ _ _ _ _ hM (lv_sub hl [1, 0] rfl) hp
  refine lv_iconst (v := 1) hx hb dX7_allocates_87 (by decide) ?_
  refine lv_istore_n (lv' := [(1, .int (1 : Int32)), (0, .ref a0)]) hx hb dX7_allocates_88 rfl hl (by decide) rfl (fun ls hl => ?_)
  refine wl_X7_allocates_89 C0 hr hlk hG (fun M52 H locs ls hM hl hp => ?_) FU _ _ _ _ _ hM (lv_sub hl [1, 0] rfl) hp
  refine lv_aload_n hx hb dX7_allocates_229 rfl (lv_at hl 0 rfl) ?_
  obtain ⟨v53, hv53, hp⟩ := ob hp
  refine mr_getR C0 cbX7 hM 0 (by decide) tw_1224 hv53 dX7_allocates_230 ?_
  refine lv_bipush (v := 9) hx hb dX7_allocates_233 (by decide) ?_
  obtain ⟨v54, hv54, hp⟩ := ob hp
  refine mr_iald C0 hM hv54 dX7_allocates_235 ?_
  exact mr_iret C0 hr hlk hM (Prod.mk.inj (Option.some.inj hp)).2 (Prod.mk.inj (Option.some.inj hp)).1 (Nat.le_refl _) (Nat.le_refl _) dX7_allocates_236
abbrev rm_X7_appendWord : Room := { frames := 0, cells := 0, slots := 0, locals := 0 }
def pl_X7_appendWord_3 (k1 : Mem → Option (Mem)) (f0 : Nat) (f1 : Int32) : Nat → Int32 → Mem → Option (Mem)
  | 0, _, _ => none
  | n + 1, y2, M =>
    (if y2 < 0 then
     (k1  M)
    else
     (Option.bind (gR 6 11 M f0) fun v2 =>
     (Option.bind (gI 6 12 M f0) fun v3 =>
     (Option.bind (aIs M v2 v3 ((f1 >>> (y2 &&& 31)) &&& (255 : Int32))) fun M4 =>
     (Option.bind (gI 6 12 M4 f0) fun v5 =>
     (Option.bind (sV 6 12 M4 f0 (.int (v5 + (1 : Int32)))) fun M6 =>
     (pl_X7_appendWord_3 k1 f0 f1 n (y2 + (-8 : Int32)) M6)
     )
     )
     )
     )
     )
    )
set_option maxHeartbeats 4000000 in
set_option maxRecDepth 100000 in
theorem wl_X7_appendWord_3 {G : gG} {p : Program} {l : Launch} {e : Env} {s : State} {m : MethodId} {args : Array Value} {below : List Frame} {meth : Method} {c : Code} {A : Nat → Prop} {M' : Mem} {k1 : Mem → Option (Mem)} {f0 : Nat} {f1 : Int32} (C0 : cx G p s m args c cX7_appendWord RX7 3 A) (hr : meth.sig.returnType = (none)) (hlk : meth.locks = false) (hG : GOK G) (hk1 : ∀ (M : Mem) (H : Heap) (locs : List Loc) (ls : Array Slot), mm G A s M H locs → lv_has ls 3 [] → k1 M = some M' → W p l e rm_X7_appendWord s m args below meth c H locs 0 0 (MQ below (CQ G M' none A) args s 0 0 A) (F0 m 39 ls [])) : ∀ (n : Nat) (y2 : Int32) (M : Mem) (H : Heap) (locs : List Loc) (ls : Array Slot), mm G A s M H locs → lv_has ls 3 [(0, .ref f0), (1, .int f1), (2, .int y2)] → pl_X7_appendWord_3 k1 f0 f1 n y2 M = some M' → W p l e rm_X7_appendWord s m args below meth c H locs 0 0 (MQ below (CQ G M' none A) args s 0 0 A) (F0 m 3 ls []) := by
  have hx := C0.1
  have hb := C0.2.1
  have hown := C0.2.2.2.1
  have hts := C0.2.2.2.2.1
  intro n
  induction n with
  | zero => intro y2 M H locs ls hM hl hp; rw [pl_X7_appendWord_3] at hp; cases hp
  | succ n ih =>
    intro y2 M H locs ls hM hl hp
    rw [pl_X7_appendWord_3] at hp
    refine lv_iload_n hx hb dX7_appendWord_3 rfl (lv_at hl 2 rfl) ?_
    refine lv_if_lt (tgt := 39) hx hb dX7_appendWord_4 (by decide) (fun c1 => ?_) (fun c1 => ?_)
    · replace hp := oT c1 hp
      exact hk1  _ _ _ _ hM (lv_sub hl [] rfl) hp
    · replace hp := oF c1 hp
      refine lv_aload_n hx hb dX7_appendWord_7 rfl (lv_at hl 0 rfl) ?_
      obtain ⟨v2, hv2, hp⟩ := ob hp
      refine mr_getR C0 cbX7 hM 11 (by decide) tw_1235 hv2 dX7_appendWord_8 ?_
      refine lv_aload_n hx hb dX7_appendWord_11 rfl (lv_at hl 0 rfl) ?_
      obtain ⟨v3, hv3, hp⟩ := ob hp
      refine mr_getI C0 cbX7 hM 12 (by decide) tw_1236 hv3 dX7_appendWord_12 ?_
      refine lv_iload_n hx hb dX7_appendWord_15 rfl (lv_at hl 1 rfl) ?_
      refine lv_iload_n hx hb dX7_appendWord_16 rfl (lv_at hl 2 rfl) ?_
      refine lv_ishr hx hb dX7_appendWord_17 ?_
      refine lv_sipush (v := 255) hx hb dX7_appendWord_18 (by decide) ?_
      refine lv_iand hx hb dX7_appendWord_21 ?_
      obtain ⟨M4, hM4, hp⟩ := ob hp
      refine mr_iast C0 hM hM4 dX7_appendWord_22 (fun H locs hM => ?_)
      refine lv_aload_n hx hb dX7_appendWord_23 rfl (lv_at hl 0 rfl) ?_
      refine lv_dup hx hb dX7_appendWord_24 rfl ?_
      obtain ⟨v5, hv5, hp⟩ := ob hp
      refine mr_getI C0 cbX7 hM 12 (by decide) tw_1236 hv5 dX7_appendWord_25 ?_
      refine lv_iconst (v := 1) hx hb dX7_appendWord_28 (by decide) ?_
      refine lv_iadd hx hb dX7_appendWord_29 ?_
      obtain ⟨M6, hM6, hp⟩ := ob hp
      refine mr_putI C0 cbX7 hM 12 (by decide) rfl rfl tw_1236 hM6 dX7_appendWord_30 (fun H locs hM => ?_)
      refine lv_iinc (v := (y2 + (-8 : Int32))) (lv' := [(2, .int (y2 + (-8 : Int32))), (0, .ref f0), (1, .int f1)]) hx hb dX7_appendWord_33 hl (k := 2) rfl rfl (by decide) rfl (fun ls hl => ?_)
      refine lv_goto (tgt := 3) hx hb dX7_appendWord_36 (by decide) ?_
      exact ih _ _ _ _ _ hM (lv_sub hl [1, 2, 0] rfl) hp
def p_X7_appendWord (a0 : Nat) (a1 : Int32) (M : Mem) : Option (Mem) :=
  (pl_X7_appendWord_3
   (fun  (M7 : Mem) =>
    some M7
   )
   a0 a1 FU (24 : Int32) M)
theorem yk_X7_appendWord : yok yX7_appendWord 1 := by decide +kernel
set_option maxHeartbeats 4000000 in
set_option maxRecDepth 100000 in
theorem w_X7_appendWord {G : gG} (hG : GOK G) {l : Launch} {a0 : Nat} {a1 : Int32} {M : Mem} {M' : Mem} (hp : p_X7_appendWord a0 a1 M = some M') : CT G l yX7_appendWord (wT yX7_appendWord cX7_appendWord 3 (none)) rm_X7_appendWord [.ref a0, .int a1] M none M' 0 0 := by
  refine CT_of (own := RX7) (maxL := 3) (ret := (none)) hG (by decide) rfl (Nat.le_of_ble_eq_true rfl) (fun p e s m below meth c A C0 hr hlk hM ls hl => ?_)
  have hl : lv_has ls 3 [(0, .ref a0), (1, .int a1)] := hl
  generalize ([.ref a0, .int a1] : List Value).toArray = args at C0 ⊢
  skip
  have hx := C0.1
  have hb := C0.2.1
  have hown := C0.2.2.2.1
  have hts := C0.2.2.2.2.1
  unfold p_X7_appendWord at hp
  refine lv_bipush (v := 24) hx hb dX7_appendWord_0 (by decide) ?_
  refine lv_istore_n (lv' := [(2, .int (24 : Int32)), (0, .ref a0), (1, .int a1)]) hx hb dX7_appendWord_2 rfl hl (by decide) rfl (fun ls hl => ?_)
  refine wl_X7_appendWord_3 C0 hr hlk hG (fun M7 H locs ls hM hl hp => ?_) FU _ _ _ _ _ hM (lv_sub hl [1, 2, 0] rfl) hp
  exact mr_vret C0 hr hlk hM (Option.some.inj hp) (Nat.le_refl _) (Nat.le_refl _) dX7_appendWord_39
abbrev rm_X7_appendInput : Room := { frames := 1, cells := 0, slots := 0, locals := 22 }
def p_X7_appendInput (a0 : Nat) (a1 : Int32) (a2 : Int32) (a3 : Int32) (a4 : Int32) (a5 : Int32) (M : Mem) : Option (Int32 × Mem) :=
  (Option.bind (sV 6 9 M a0 (.int (0 : Int32))) fun M1 =>
  (Option.bind (gI 6 12 M1 a0) fun v2 =>
  (if (v2 + (20 : Int32)) ≤ (900 : Int32) then
   (Option.bind (isC 6 M1 a0) fun _ =>
   (Option.bind (p_X7_appendWord a0 a1 M1) fun M5 =>
   (Option.bind (isC 6 M5 a0) fun _ =>
   (Option.bind (p_X7_appendWord a0 a2 M5) fun M7 =>
   (Option.bind (isC 6 M7 a0) fun _ =>
   (Option.bind (p_X7_appendWord a0 a3 M7) fun M9 =>
   (Option.bind (isC 6 M9 a0) fun _ =>
   (Option.bind (p_X7_appendWord a0 a4 M9) fun M11 =>
   (Option.bind (isC 6 M11 a0) fun _ =>
   (Option.bind (p_X7_appendWord a0 a5 M11) fun M13 =>
   (Option.bind (gI 6 12 M13 a0) fun v14 =>
   some (v14, M13)
   )
   )
   )
   )
   )
   )
   )
   )
   )
   )
   )
  else
   some ((-1 : Int32), M1)
  )
  )
  )
theorem yk_X7_appendInput : yok yX7_appendInput 5 := by decide +kernel
set_option maxHeartbeats 4000000 in
set_option maxRecDepth 100000 in
theorem w_X7_appendInput {G : gG} (hG : GOK G) {l : Launch} {a0 : Nat} {a1 : Int32} {a2 : Int32} {a3 : Int32} {a4 : Int32} {a5 : Int32} {M : Mem} {r : Int32} {M' : Mem} (hp : p_X7_appendInput a0 a1 a2 a3 a4 a5 M = some (r, M')) : CT G l yX7_appendInput (wT yX7_appendInput cX7_appendInput 6 (some FieldType.int)) rm_X7_appendInput [.ref a0, .int a1, .int a2, .int a3, .int a4, .int a5] M (some (.int r)) M' 0 0 := by
  refine CT_of (own := RX7) (maxL := 6) (ret := (some FieldType.int)) hG (by decide) rfl (Nat.le_of_ble_eq_true rfl) (fun p e s m below meth c A C0 hr hlk hM ls hl => ?_)
  have hl : lv_has ls 6 [(0, .ref a0), (1, .int a1), (2, .int a2), (3, .int a3), (4, .int a4), (5, .int a5)] := hl
  generalize ([.ref a0, .int a1, .int a2, .int a3, .int a4, .int a5] : List Value).toArray = args at C0 ⊢
  skip
  have hx := C0.1
  have hb := C0.2.1
  have hown := C0.2.2.2.1
  have hts := C0.2.2.2.2.1
  unfold p_X7_appendInput at hp
  refine lv_aload_n hx hb dX7_appendInput_0 rfl (lv_at hl 0 rfl) ?_
  refine lv_iconst (v := 0) hx hb dX7_appendInput_1 (by decide) ?_
  obtain ⟨M1, hM1, hp⟩ := ob hp
  refine mr_putI C0 cbX7 hM 9 (by decide) rfl rfl tw_1233 hM1 dX7_appendInput_2 (fun H locs hM => ?_)
  refine lv_aload_n hx hb dX7_appendInput_5 rfl (lv_at hl 0 rfl) ?_
  obtain ⟨v2, hv2, hp⟩ := ob hp
  refine mr_getI C0 cbX7 hM 12 (by decide) tw_1236 hv2 dX7_appendInput_6 ?_
  refine lv_bipush (v := 20) hx hb dX7_appendInput_9 (by decide) ?_
  refine lv_iadd hx hb dX7_appendInput_11 ?_
  refine lv_sipush (v := 900) hx hb dX7_appendInput_12 (by decide) ?_
  refine lv_icmp_le (tgt := 20) hx hb dX7_appendInput_15 (by decide) (fun c3 => ?_) (fun c3 => ?_)
  · replace hp := oT c3 hp
    refine lv_aload_n hx hb dX7_appendInput_20 rfl (lv_at hl 0 rfl) ?_
    refine lv_iload_n hx hb dX7_appendInput_21 rfl (lv_at hl 1 rfl) ?_
    obtain ⟨_, h4, hp⟩ := ob hp
    obtain ⟨M5, hM5, hp⟩ := ob hp
    refine mr_V0 (As := [.int a1]) (rest := []) C0 cbX7 hM h4 rfl (w_X7_appendWord hG hM5) tw_1317 tw_1319 tws_7 tw_7 tw_1320 yk_X7_appendWord (by decide) rfl hl.1 (Nat.le_of_ble_eq_true rfl) dX7_appendInput_22 rfl (fun H locs hM => ?_)
    refine lv_aload_n hx hb dX7_appendInput_25 rfl (lv_at hl 0 rfl) ?_
    refine lv_iload_n hx hb dX7_appendInput_26 rfl (lv_at hl 2 rfl) ?_
    obtain ⟨_, h6, hp⟩ := ob hp
    obtain ⟨M7, hM7, hp⟩ := ob hp
    refine mr_V0 (As := [.int a2]) (rest := []) C0 cbX7 hM h6 rfl (w_X7_appendWord hG hM7) tw_1317 tw_1319 tws_7 tw_7 tw_1320 yk_X7_appendWord (by decide) rfl hl.1 (Nat.le_of_ble_eq_true rfl) dX7_appendInput_27 rfl (fun H locs hM => ?_)
    refine lv_aload_n hx hb dX7_appendInput_30 rfl (lv_at hl 0 rfl) ?_
    refine lv_iload_n hx hb dX7_appendInput_31 rfl (lv_at hl 3 rfl) ?_
    obtain ⟨_, h8, hp⟩ := ob hp
    obtain ⟨M9, hM9, hp⟩ := ob hp
    refine mr_V0 (As := [.int a3]) (rest := []) C0 cbX7 hM h8 rfl (w_X7_appendWord hG hM9) tw_1317 tw_1319 tws_7 tw_7 tw_1320 yk_X7_appendWord (by decide) rfl hl.1 (Nat.le_of_ble_eq_true rfl) dX7_appendInput_32 rfl (fun H locs hM => ?_)
    refine lv_aload_n hx hb dX7_appendInput_35 rfl (lv_at hl 0 rfl) ?_
    refine lv_iload hx hb dX7_appendInput_36 (lv_at hl 4 rfl) ?_
    obtain ⟨_, h10, hp⟩ := ob hp
    obtain ⟨M11, hM11, hp⟩ := ob hp
    refine mr_V0 (As := [.int a4]) (rest := []) C0 cbX7 hM h10 rfl (w_X7_appendWord hG hM11) tw_1317 tw_1319 tws_7 tw_7 tw_1320 yk_X7_appendWord (by decide) rfl hl.1 (Nat.le_of_ble_eq_true rfl) dX7_appendInput_38 rfl (fun H locs hM => ?_)
    refine lv_aload_n hx hb dX7_appendInput_41 rfl (lv_at hl 0 rfl) ?_
    refine lv_iload hx hb dX7_appendInput_42 (lv_at hl 5 rfl) ?_
    obtain ⟨_, h12, hp⟩ := ob hp
    obtain ⟨M13, hM13, hp⟩ := ob hp
    refine mr_V0 (As := [.int a5]) (rest := []) C0 cbX7 hM h12 rfl (w_X7_appendWord hG hM13) tw_1317 tw_1319 tws_7 tw_7 tw_1320 yk_X7_appendWord (by decide) rfl hl.1 (Nat.le_of_ble_eq_true rfl) dX7_appendInput_44 rfl (fun H locs hM => ?_)
    refine lv_aload_n hx hb dX7_appendInput_47 rfl (lv_at hl 0 rfl) ?_
    obtain ⟨v14, hv14, hp⟩ := ob hp
    refine mr_getI C0 cbX7 hM 12 (by decide) tw_1236 hv14 dX7_appendInput_48 ?_
    exact mr_iret C0 hr hlk hM (Prod.mk.inj (Option.some.inj hp)).2 (Prod.mk.inj (Option.some.inj hp)).1 (Nat.le_refl _) (Nat.le_refl _) dX7_appendInput_51
  · replace hp := oF c3 hp
    refine lv_iconst (v := -1) hx hb dX7_appendInput_18 (by decide) ?_
    exact mr_iret C0 hr hlk hM (Prod.mk.inj (Option.some.inj hp)).2 (Prod.mk.inj (Option.some.inj hp)).1 (Nat.le_refl _) (Nat.le_refl _) dX7_appendInput_19
abbrev rm_X7_truncateInput : Room := { frames := 1, cells := 0, slots := 0, locals := 22 }
def p_X7_truncateInput (a0 : Nat) (a1 : Int32) (M : Mem) : Option (Int32 × Mem) :=
  (Option.bind (sV 6 9 M a0 (.int (0 : Int32))) fun M1 =>
  (Option.bind (gI 6 12 M1 a0) fun v2 =>
  (Option.bind (p_X7_inRange a1 (0 : Int32) v2 M1) fun v3 =>
  (if v3 = 0 then
   some ((0 : Int32), M1)
  else
   (Option.bind (sV 6 12 M1 a0 (.int a1)) fun M5 =>
   some ((1 : Int32), M5)
   )
  )
  )
  )
  )
theorem yk_X7_truncateInput : yok yX7_truncateInput 1 := by decide +kernel
set_option maxHeartbeats 4000000 in
set_option maxRecDepth 100000 in
theorem w_X7_truncateInput {G : gG} (hG : GOK G) {l : Launch} {a0 : Nat} {a1 : Int32} {M : Mem} {r : Int32} {M' : Mem} (hp : p_X7_truncateInput a0 a1 M = some (r, M')) : CT G l yX7_truncateInput (wT yX7_truncateInput cX7_truncateInput 2 (some FieldType.boolean)) rm_X7_truncateInput [.ref a0, .int a1] M (some (.int r)) M' 0 0 := by
  refine CT_of (own := RX7) (maxL := 2) (ret := (some FieldType.boolean)) hG (by decide) rfl (Nat.le_of_ble_eq_true rfl) (fun p e s m below meth c A C0 hr hlk hM ls hl => ?_)
  have hl : lv_has ls 2 [(0, .ref a0), (1, .int a1)] := hl
  generalize ([.ref a0, .int a1] : List Value).toArray = args at C0 ⊢
  skip
  have hx := C0.1
  have hb := C0.2.1
  have hown := C0.2.2.2.1
  have hts := C0.2.2.2.2.1
  unfold p_X7_truncateInput at hp
  refine lv_aload_n hx hb dX7_truncateInput_0 rfl (lv_at hl 0 rfl) ?_
  refine lv_iconst (v := 0) hx hb dX7_truncateInput_1 (by decide) ?_
  obtain ⟨M1, hM1, hp⟩ := ob hp
  refine mr_putI C0 cbX7 hM 9 (by decide) rfl rfl tw_1233 hM1 dX7_truncateInput_2 (fun H locs hM => ?_)
  refine lv_iload_n hx hb dX7_truncateInput_5 rfl (lv_at hl 1 rfl) ?_
  refine lv_iconst (v := 0) hx hb dX7_truncateInput_6 (by decide) ?_
  refine lv_aload_n hx hb dX7_truncateInput_7 rfl (lv_at hl 0 rfl) ?_
  obtain ⟨v2, hv2, hp⟩ := ob hp
  refine mr_getI C0 cbX7 hM 12 (by decide) tw_1236 hv2 dX7_truncateInput_8 ?_
  obtain ⟨v3, hv3, hp⟩ := ob hp
  refine mr_S1 (As := [.int a1, .int (0 : Int32), .int v2]) (rest := []) C0 hM (w_X7_inRange hG hv3) tw_1325 tw_1326 tw_7 tw_1327 yk_X7_inRange (by decide) rfl hl.1 (Nat.le_of_ble_eq_true rfl) dX7_truncateInput_11 rfl (fun H locs hM => ?_)
  refine lv_if_ne (tgt := 19) hx hb dX7_truncateInput_14 (by decide) (fun c4 => ?_) (fun c4 => ?_)
  · replace hp := oF c4 hp
    refine lv_aload_n hx hb dX7_truncateInput_19 rfl (lv_at hl 0 rfl) ?_
    refine lv_iload_n hx hb dX7_truncateInput_20 rfl (lv_at hl 1 rfl) ?_
    obtain ⟨M5, hM5, hp⟩ := ob hp
    refine mr_putI C0 cbX7 hM 12 (by decide) rfl rfl tw_1236 hM5 dX7_truncateInput_21 (fun H locs hM => ?_)
    refine lv_iconst (v := 1) hx hb dX7_truncateInput_24 (by decide) ?_
    exact mr_zret C0 hr hlk hM (Prod.mk.inj (Option.some.inj hp)).2 (Or.inr rfl) (Prod.mk.inj (Option.some.inj hp)).1 (Nat.le_refl _) (Nat.le_refl _) dX7_truncateInput_25
  · replace hp := oT c4 hp
    refine lv_iconst (v := 0) hx hb dX7_truncateInput_17 (by decide) ?_
    exact mr_zret C0 hr hlk hM (Prod.mk.inj (Option.some.inj hp)).2 (Or.inl rfl) (Prod.mk.inj (Option.some.inj hp)).1 (Nat.le_refl _) (Nat.le_refl _) dX7_truncateInput_18
abbrev rm_X7_byteAt : Room := { frames := 0, cells := 0, slots := 0, locals := 0 }
def p_X7_byteAt (a0 : Nat) (a1 : Int32) (M : Mem) : Option (Int32) :=
  (Option.bind (gI 6 12 M a0) fun v1 =>
  (if v1 ≤ a1 then
   some (-1 : Int32)
  else
   (Option.bind (gR 6 11 M a0) fun v3 =>
   (Option.bind (aI 0 M v3 a1) fun v4 =>
   some v4
   )
   )
  )
  )
theorem yk_X7_byteAt : yok yX7_byteAt 1 := by decide +kernel
set_option maxHeartbeats 4000000 in
set_option maxRecDepth 100000 in
theorem w_X7_byteAt {G : gG} (hG : GOK G) {l : Launch} {a0 : Nat} {a1 : Int32} {M : Mem} {r : Int32} (hp : p_X7_byteAt a0 a1 M = some r) : CT G l yX7_byteAt (wT yX7_byteAt cX7_byteAt 2 (some FieldType.int)) rm_X7_byteAt [.ref a0, .int a1] M (some (.int r)) M 0 0 := by
  refine CT_of (own := RX7) (maxL := 2) (ret := (some FieldType.int)) hG (by decide) rfl (Nat.le_of_ble_eq_true rfl) (fun p e s m below meth c A C0 hr hlk hM ls hl => ?_)
  have hl : lv_has ls 2 [(0, .ref a0), (1, .int a1)] := hl
  generalize ([.ref a0, .int a1] : List Value).toArray = args at C0 ⊢
  skip
  have hx := C0.1
  have hb := C0.2.1
  have hown := C0.2.2.2.1
  have hts := C0.2.2.2.2.1
  unfold p_X7_byteAt at hp
  refine lv_iload_n hx hb dX7_byteAt_0 rfl (lv_at hl 1 rfl) ?_
  refine lv_aload_n hx hb dX7_byteAt_1 rfl (lv_at hl 0 rfl) ?_
  obtain ⟨v1, hv1, hp⟩ := ob hp
  refine mr_getI C0 cbX7 hM 12 (by decide) tw_1236 hv1 dX7_byteAt_2 ?_
  refine lv_icmp_ge (tgt := 17) hx hb dX7_byteAt_5 (by decide) (fun c2 => ?_) (fun c2 => ?_)
  · replace hp := oT c2 hp
    refine lv_iconst (v := -1) hx hb dX7_byteAt_17 (by decide) ?_
    exact mr_iret C0 hr hlk hM rfl (Option.some.inj hp) (Nat.le_refl _) (Nat.le_refl _) dX7_byteAt_18
  · replace hp := oF c2 hp
    refine lv_aload_n hx hb dX7_byteAt_8 rfl (lv_at hl 0 rfl) ?_
    obtain ⟨v3, hv3, hp⟩ := ob hp
    refine mr_getR C0 cbX7 hM 11 (by decide) tw_1235 hv3 dX7_byteAt_9 ?_
    refine lv_iload_n hx hb dX7_byteAt_12 rfl (lv_at hl 1 rfl) ?_
    obtain ⟨v4, hv4, hp⟩ := ob hp
    refine mr_iald C0 hM hv4 dX7_byteAt_13 ?_
    refine lv_goto (tgt := 18) hx hb dX7_byteAt_14 (by decide) ?_
    exact mr_iret C0 hr hlk hM rfl (Option.some.inj hp) (Nat.le_refl _) (Nat.le_refl _) dX7_byteAt_18
abbrev rm_X7_advanceToken : Room := { frames := 1, cells := 0, slots := 0, locals := 22 }
def pl_X7_advanceToken_0 (k1 : Mem → Option (Mem)) (f0 : Nat) : Nat → Mem → Option (Mem)
  | 0, _ => none
  | n + 1, M =>
    (Option.bind (gI 6 17 M f0) fun v1 =>
    (Option.bind (isC 6 M f0) fun _ =>
    (Option.bind (p_X7_byteAt f0 v1 M) fun v3 =>
    (jn (fun (_ : Unit) =>
     (Option.bind (gI 6 17 M f0) fun v5 =>
     (Option.bind (sV 6 17 M f0 (.int (v5 + (1 : Int32)))) fun M6 =>
     (pl_X7_advanceToken_0 k1 f0 n M6)
     )
     )
    ) fun k4 =>
    (if v3 = (32 : Int32) then
     (k4 ())
    else
     (Option.bind (gI 6 17 M f0) fun v8 =>
     (Option.bind (isC 6 M f0) fun _ =>
     (Option.bind (p_X7_byteAt f0 v8 M) fun v10 =>
     (if v10 = (10 : Int32) then
      (k4 ())
     else
      (k1  M)
     )
     )
     )
     )
    )
    )
    )
    )
    )
set_option maxHeartbeats 4000000 in
set_option maxRecDepth 100000 in
theorem wl_X7_advanceToken_0 {G : gG} {p : Program} {l : Launch} {e : Env} {s : State} {m : MethodId} {args : Array Value} {below : List Frame} {meth : Method} {c : Code} {A : Nat → Prop} {M' : Mem} {k1 : Mem → Option (Mem)} {f0 : Nat} (C0 : cx G p s m args c cX7_advanceToken RX7 2 A) (hr : meth.sig.returnType = (none)) (hlk : meth.locks = false) (hG : GOK G) (hk1 : ∀ (M : Mem) (H : Heap) (locs : List Loc) (ls : Array Slot), mm G A s M H locs → lv_has ls 2 [(0, .ref f0)] → k1 M = some M' → W p l e rm_X7_advanceToken s m args below meth c H locs 0 0 (MQ below (CQ G M' none A) args s 0 0 A) (F0 m 39 ls [])) : ∀ (n : Nat) (M : Mem) (H : Heap) (locs : List Loc) (ls : Array Slot), mm G A s M H locs → lv_has ls 2 [(0, .ref f0)] → pl_X7_advanceToken_0 k1 f0 n M = some M' → W p l e rm_X7_advanceToken s m args below meth c H locs 0 0 (MQ below (CQ G M' none A) args s 0 0 A) (F0 m 0 ls []) := by
  have hx := C0.1
  have hb := C0.2.1
  have hown := C0.2.2.2.1
  have hts := C0.2.2.2.2.1
  intro n
  induction n with
  | zero => intro M H locs ls hM hl hp; rw [pl_X7_advanceToken_0] at hp; cases hp
  | succ n ih =>
    intro M H locs ls hM hl hp
    rw [pl_X7_advanceToken_0] at hp
    refine lv_aload_n hx hb dX7_advanceToken_0 rfl (lv_at hl 0 rfl) ?_
    refine lv_aload_n hx hb dX7_advanceToken_1 rfl (lv_at hl 0 rfl) ?_
    obtain ⟨v1, hv1, hp⟩ := ob hp
    refine mr_getI C0 cbX7 hM 17 (by decide) tw_1241 hv1 dX7_advanceToken_2 ?_
    obtain ⟨_, h2, hp⟩ := ob hp
    obtain ⟨v3, hv3, hp⟩ := ob hp
    refine mr_V1 (As := [.int v1]) (rest := []) C0 cbX7 hM h2 rfl (w_X7_byteAt hG hv3) tw_1339 tw_1341 tws_9 tw_7 tw_1342 yk_X7_byteAt (by decide) rfl hl.1 (Nat.le_of_ble_eq_true rfl) dX7_advanceToken_5 rfl (fun H locs hM => ?_)
    refine lv_bipush (v := 32) hx hb dX7_advanceToken_8 (by decide) ?_
    obtain ⟨k4, ek4, hp⟩ := ojn hp
    have hk4 : ∀ (H : Heap) (locs : List Loc) (ls : Array Slot), mm G A s M H locs → lv_has ls 2 [(0, .ref f0)] → k4 () = some M' → W p l e rm_X7_advanceToken s m args below meth c H locs 0 0 (MQ below (CQ G M' none A) args s 0 0 A) (F0 m 26 ls []) := by
      intro  H locs ls hM hl hp
      rw [ek4] at hp
      refine lv_aload_n hx hb dX7_advanceToken_26 rfl (lv_at hl 0 rfl) ?_
      refine lv_dup hx hb dX7_advanceToken_27 rfl ?_
      obtain ⟨v5, hv5, hp⟩ := ob hp
      refine mr_getI C0 cbX7 hM 17 (by decide) tw_1241 hv5 dX7_advanceToken_28 ?_
      refine lv_iconst (v := 1) hx hb dX7_advanceToken_31 (by decide) ?_
      refine lv_iadd hx hb dX7_advanceToken_32 ?_
      obtain ⟨M6, hM6, hp⟩ := ob hp
      refine mr_putI C0 cbX7 hM 17 (by decide) rfl rfl tw_1241 hM6 dX7_advanceToken_33 (fun H locs hM => ?_)
      refine lv_goto (tgt := 0) hx hb dX7_advanceToken_36 (by decide) ?_
      exact ih  _ _ _ _ hM (lv_sub hl [0] rfl) hp
    refine lv_icmp_eq (tgt := 26) hx hb dX7_advanceToken_10 (by decide) (fun c7 => ?_) (fun c7 => ?_)
    · replace hp := oT c7 hp
      exact hk4  _ _ _ hM (lv_sub hl [0] rfl) hp
    · replace hp := oF c7 hp
      refine lv_aload_n hx hb dX7_advanceToken_13 rfl (lv_at hl 0 rfl) ?_
      refine lv_aload_n hx hb dX7_advanceToken_14 rfl (lv_at hl 0 rfl) ?_
      obtain ⟨v8, hv8, hp⟩ := ob hp
      refine mr_getI C0 cbX7 hM 17 (by decide) tw_1241 hv8 dX7_advanceToken_15 ?_
      obtain ⟨_, h9, hp⟩ := ob hp
      obtain ⟨v10, hv10, hp⟩ := ob hp
      refine mr_V1 (As := [.int v8]) (rest := []) C0 cbX7 hM h9 rfl (w_X7_byteAt hG hv10) tw_1339 tw_1341 tws_9 tw_7 tw_1342 yk_X7_byteAt (by decide) rfl hl.1 (Nat.le_of_ble_eq_true rfl) dX7_advanceToken_18 rfl (fun H locs hM => ?_)
      refine lv_bipush (v := 10) hx hb dX7_advanceToken_21 (by decide) ?_
      refine lv_icmp_ne (tgt := 39) hx hb dX7_advanceToken_23 (by decide) (fun c11 => ?_) (fun c11 => ?_)
      · replace hp := oF c11 hp
        exact hk1  _ _ _ _ hM (lv_sub hl [0] rfl) hp
      · replace hp := oT c11 hp
        exact hk4  _ _ _ hM (lv_sub hl [0] rfl) hp
def pl_X7_advanceToken_137 (k1 : Mem → Option (Mem)) (f0 : Nat) : Nat → Mem → Option (Mem)
  | 0, _ => none
  | n + 1, M =>
    (Option.bind (gI 6 17 M f0) fun v31 =>
    (Option.bind (isC 6 M f0) fun _ =>
    (Option.bind (p_X7_byteAt f0 v31 M) fun v33 =>
    (Option.bind (p_X7_inRange v33 (48 : Int32) (57 : Int32) M) fun v34 =>
    (if v34 = 0 then
     (k1  M)
    else
     (Option.bind (gI 6 17 M f0) fun v36 =>
     (Option.bind (gI 6 18 M f0) fun v37 =>
     (jn (fun  (M38 : Mem) =>
      (Option.bind (gI 6 17 M38 f0) fun v40 =>
      (Option.bind (sV 6 17 M38 f0 (.int (v40 + (1 : Int32)))) fun M41 =>
      (pl_X7_advanceToken_137 k1 f0 n M41)
      )
      )
     ) fun k39 =>
     (if (3 : Int32) ≤ (v36 - v37) then
      (k39  M)
     else
      (Option.bind (gI 6 19 M f0) fun v43 =>
      (Option.bind (gI 6 17 M f0) fun v44 =>
      (Option.bind (isC 6 M f0) fun _ =>
      (Option.bind (p_X7_byteAt f0 v44 M) fun v46 =>
      (Option.bind (sV 6 19 M f0 (.int ((((10 : Int32) * v43) + v46) - (48 : Int32)))) fun M47 =>
      (k39  M47)
      )
      )
      )
      )
      )
     )
     )
     )
     )
    )
    )
    )
    )
    )
set_option maxHeartbeats 4000000 in
set_option maxRecDepth 100000 in
theorem wl_X7_advanceToken_137 {G : gG} {p : Program} {l : Launch} {e : Env} {s : State} {m : MethodId} {args : Array Value} {below : List Frame} {meth : Method} {c : Code} {A : Nat → Prop} {M' : Mem} {k1 : Mem → Option (Mem)} {f0 : Nat} (C0 : cx G p s m args c cX7_advanceToken RX7 2 A) (hr : meth.sig.returnType = (none)) (hlk : meth.locks = false) (hG : GOK G) (hk1 : ∀ (M : Mem) (H : Heap) (locs : List Loc) (ls : Array Slot), mm G A s M H locs → lv_has ls 2 [] → k1 M = some M' → W p l e rm_X7_advanceToken s m args below meth c H locs 0 0 (MQ below (CQ G M' none A) args s 0 0 A) (F0 m 229 ls [])) : ∀ (n : Nat) (M : Mem) (H : Heap) (locs : List Loc) (ls : Array Slot), mm G A s M H locs → lv_has ls 2 [(0, .ref f0)] → pl_X7_advanceToken_137 k1 f0 n M = some M' → W p l e rm_X7_advanceToken s m args below meth c H locs 0 0 (MQ below (CQ G M' none A) args s 0 0 A) (F0 m 137 ls []) := by
  have hx := C0.1
  have hb := C0.2.1
  have hown := C0.2.2.2.1
  have hts := C0.2.2.2.2.1
  intro n
  induction n with
  | zero => intro M H locs ls hM hl hp; rw [pl_X7_advanceToken_137] at hp; cases hp
  | succ n ih =>
    intro M H locs ls hM hl hp
    rw [pl_X7_advanceToken_137] at hp
    refine lv_aload_n hx hb dX7_advanceToken_137 rfl (lv_at hl 0 rfl) ?_
    refine lv_aload_n hx hb dX7_advanceToken_138 rfl (lv_at hl 0 rfl) ?_
    obtain ⟨v31, hv31, hp⟩ := ob hp
    refine mr_getI C0 cbX7 hM 17 (by decide) tw_1241 hv31 dX7_advanceToken_139 ?_
    obtain ⟨_, h32, hp⟩ := ob hp
    obtain ⟨v33, hv33, hp⟩ := ob hp
    refine mr_V1 (As := [.int v31]) (rest := []) C0 cbX7 hM h32 rfl (w_X7_byteAt hG hv33) tw_1339 tw_1341 tws_9 tw_7 tw_1342 yk_X7_byteAt (by decide) rfl hl.1 (Nat.le_of_ble_eq_true rfl) dX7_advanceToken_142 rfl (fun H locs hM => ?_)
    refine lv_bipush (v := 48) hx hb dX7_advanceToken_145 (by decide) ?_
    refine lv_bipush (v := 57) hx hb dX7_advanceToken_147 (by decide) ?_
    obtain ⟨v34, hv34, hp⟩ := ob hp
    refine mr_S1 (As := [.int v33, .int (48 : Int32), .int (57 : Int32)]) (rest := []) C0 hM (w_X7_inRange hG hv34) tw_1325 tw_1326 tw_7 tw_1327 yk_X7_inRange (by decide) rfl hl.1 (Nat.le_of_ble_eq_true rfl) dX7_advanceToken_149 rfl (fun H locs hM => ?_)
    refine lv_if_eq (tgt := 229) hx hb dX7_advanceToken_152 (by decide) (fun c35 => ?_) (fun c35 => ?_)
    · replace hp := oT c35 hp
      exact hk1  _ _ _ _ hM (lv_sub hl [] rfl) hp
    · replace hp := oF c35 hp
      refine lv_aload_n hx hb dX7_advanceToken_155 rfl (lv_at hl 0 rfl) ?_
      obtain ⟨v36, hv36, hp⟩ := ob hp
      refine mr_getI C0 cbX7 hM 17 (by decide) tw_1241 hv36 dX7_advanceToken_156 ?_
      refine lv_aload_n hx hb dX7_advanceToken_159 rfl (lv_at hl 0 rfl) ?_
      obtain ⟨v37, hv37, hp⟩ := ob hp
      refine mr_getI C0 cbX7 hM 18 (by decide) tw_1242 hv37 dX7_advanceToken_160 ?_
      refine lv_isub hx hb dX7_advanceToken_163 ?_
      refine lv_iconst (v := 3) hx hb dX7_advanceToken_164 (by decide) ?_
      obtain ⟨k39, ek39, hp⟩ := ojn hp
      have hk39 : ∀ (M38 : Mem) (H : Heap) (locs : List Loc) (ls : Array Slot), mm G A s M38 H locs → lv_has ls 2 [(0, .ref f0)] → k39  M38 = some M' → W p l e rm_X7_advanceToken s m args below meth c H locs 0 0 (MQ below (CQ G M' none A) args s 0 0 A) (F0 m 191 ls []) := by
        intro  M38 H locs ls hM hl hp
        rw [ek39] at hp
        refine lv_aload_n hx hb dX7_advanceToken_191 rfl (lv_at hl 0 rfl) ?_
        refine lv_dup hx hb dX7_advanceToken_192 rfl ?_
        obtain ⟨v40, hv40, hp⟩ := ob hp
        refine mr_getI C0 cbX7 hM 17 (by decide) tw_1241 hv40 dX7_advanceToken_193 ?_
        refine lv_iconst (v := 1) hx hb dX7_advanceToken_196 (by decide) ?_
        refine lv_iadd hx hb dX7_advanceToken_197 ?_
        obtain ⟨M41, hM41, hp⟩ := ob hp
        refine mr_putI C0 cbX7 hM 17 (by decide) rfl rfl tw_1241 hM41 dX7_advanceToken_198 (fun H locs hM => ?_)
        refine lv_goto (tgt := 137) hx hb dX7_advanceToken_201 (by decide) ?_
        exact ih  _ _ _ _ hM (lv_sub hl [0] rfl) hp
      refine lv_icmp_ge (tgt := 191) hx hb dX7_advanceToken_165 (by decide) (fun c42 => ?_) (fun c42 => ?_)
      · replace hp := oT c42 hp
        exact hk39  _ _ _ _ hM (lv_sub hl [0] rfl) hp
      · replace hp := oF c42 hp
        refine lv_aload_n hx hb dX7_advanceToken_168 rfl (lv_at hl 0 rfl) ?_
        refine lv_bipush (v := 10) hx hb dX7_advanceToken_169 (by decide) ?_
        refine lv_aload_n hx hb dX7_advanceToken_171 rfl (lv_at hl 0 rfl) ?_
        obtain ⟨v43, hv43, hp⟩ := ob hp
        refine mr_getI C0 cbX7 hM 19 (by decide) tw_1243 hv43 dX7_advanceToken_172 ?_
        refine lv_imul hx hb dX7_advanceToken_175 ?_
        refine lv_aload_n hx hb dX7_advanceToken_176 rfl (lv_at hl 0 rfl) ?_
        refine lv_aload_n hx hb dX7_advanceToken_177 rfl (lv_at hl 0 rfl) ?_
        obtain ⟨v44, hv44, hp⟩ := ob hp
        refine mr_getI C0 cbX7 hM 17 (by decide) tw_1241 hv44 dX7_advanceToken_178 ?_
        obtain ⟨_, h45, hp⟩ := ob hp
        obtain ⟨v46, hv46, hp⟩ := ob hp
        refine mr_V1 (As := [.int v44]) (rest := [.int ((10 : Int32) * v43), .ref f0]) C0 cbX7 hM h45 rfl (w_X7_byteAt hG hv46) tw_1339 tw_1341 tws_9 tw_7 tw_1342 yk_X7_byteAt (by decide) rfl hl.1 (Nat.le_of_ble_eq_true rfl) dX7_advanceToken_181 rfl (fun H locs hM => ?_)
        refine lv_iadd hx hb dX7_advanceToken_184 ?_
        refine lv_bipush (v := 48) hx hb dX7_advanceToken_185 (by decide) ?_
        refine lv_isub hx hb dX7_advanceToken_187 ?_
        obtain ⟨M47, hM47, hp⟩ := ob hp
        refine mr_putI C0 cbX7 hM 19 (by decide) rfl rfl tw_1243 hM47 dX7_advanceToken_188 (fun H locs hM => ?_)
        exact hk39  _ _ _ _ hM (lv_sub hl [0] rfl) hp
def pl_X7_advanceToken_90 (k1 : Mem → Option (Mem)) (f0 : Nat) : Nat → Mem → Option (Mem)
  | 0, _ => none
  | n + 1, M =>
    (Option.bind (gI 6 17 M f0) fun v50 =>
    (Option.bind (isC 6 M f0) fun _ =>
    (Option.bind (p_X7_byteAt f0 v50 M) fun v52 =>
    (Option.bind (p_X7_inRange v52 (97 : Int32) (122 : Int32) M) fun v53 =>
    (if v53 = 0 then
     (k1  M)
    else
     (Option.bind (gI 6 17 M f0) fun v55 =>
     (Option.bind (sV 6 17 M f0 (.int (v55 + (1 : Int32)))) fun M56 =>
     (pl_X7_advanceToken_90 k1 f0 n M56)
     )
     )
    )
    )
    )
    )
    )
set_option maxHeartbeats 4000000 in
set_option maxRecDepth 100000 in
theorem wl_X7_advanceToken_90 {G : gG} {p : Program} {l : Launch} {e : Env} {s : State} {m : MethodId} {args : Array Value} {below : List Frame} {meth : Method} {c : Code} {A : Nat → Prop} {M' : Mem} {k1 : Mem → Option (Mem)} {f0 : Nat} (C0 : cx G p s m args c cX7_advanceToken RX7 2 A) (hr : meth.sig.returnType = (none)) (hlk : meth.locks = false) (hG : GOK G) (hk1 : ∀ (M : Mem) (H : Heap) (locs : List Loc) (ls : Array Slot), mm G A s M H locs → lv_has ls 2 [] → k1 M = some M' → W p l e rm_X7_advanceToken s m args below meth c H locs 0 0 (MQ below (CQ G M' none A) args s 0 0 A) (F0 m 229 ls [])) : ∀ (n : Nat) (M : Mem) (H : Heap) (locs : List Loc) (ls : Array Slot), mm G A s M H locs → lv_has ls 2 [(0, .ref f0)] → pl_X7_advanceToken_90 k1 f0 n M = some M' → W p l e rm_X7_advanceToken s m args below meth c H locs 0 0 (MQ below (CQ G M' none A) args s 0 0 A) (F0 m 90 ls []) := by
  have hx := C0.1
  have hb := C0.2.1
  have hown := C0.2.2.2.1
  have hts := C0.2.2.2.2.1
  intro n
  induction n with
  | zero => intro M H locs ls hM hl hp; rw [pl_X7_advanceToken_90] at hp; cases hp
  | succ n ih =>
    intro M H locs ls hM hl hp
    rw [pl_X7_advanceToken_90] at hp
    refine lv_aload_n hx hb dX7_advanceToken_90 rfl (lv_at hl 0 rfl) ?_
    refine lv_aload_n hx hb dX7_advanceToken_91 rfl (lv_at hl 0 rfl) ?_
    obtain ⟨v50, hv50, hp⟩ := ob hp
    refine mr_getI C0 cbX7 hM 17 (by decide) tw_1241 hv50 dX7_advanceToken_92 ?_
    obtain ⟨_, h51, hp⟩ := ob hp
    obtain ⟨v52, hv52, hp⟩ := ob hp
    refine mr_V1 (As := [.int v50]) (rest := []) C0 cbX7 hM h51 rfl (w_X7_byteAt hG hv52) tw_1339 tw_1341 tws_9 tw_7 tw_1342 yk_X7_byteAt (by decide) rfl hl.1 (Nat.le_of_ble_eq_true rfl) dX7_advanceToken_95 rfl (fun H locs hM => ?_)
    refine lv_bipush (v := 97) hx hb dX7_advanceToken_98 (by decide) ?_
    refine lv_bipush (v := 122) hx hb dX7_advanceToken_100 (by decide) ?_
    obtain ⟨v53, hv53, hp⟩ := ob hp
    refine mr_S1 (As := [.int v52, .int (97 : Int32), .int (122 : Int32)]) (rest := []) C0 hM (w_X7_inRange hG hv53) tw_1325 tw_1326 tw_7 tw_1327 yk_X7_inRange (by decide) rfl hl.1 (Nat.le_of_ble_eq_true rfl) dX7_advanceToken_102 rfl (fun H locs hM => ?_)
    refine lv_if_eq (tgt := 229) hx hb dX7_advanceToken_105 (by decide) (fun c54 => ?_) (fun c54 => ?_)
    · replace hp := oT c54 hp
      exact hk1  _ _ _ _ hM (lv_sub hl [] rfl) hp
    · replace hp := oF c54 hp
      refine lv_aload_n hx hb dX7_advanceToken_108 rfl (lv_at hl 0 rfl) ?_
      refine lv_dup hx hb dX7_advanceToken_109 rfl ?_
      obtain ⟨v55, hv55, hp⟩ := ob hp
      refine mr_getI C0 cbX7 hM 17 (by decide) tw_1241 hv55 dX7_advanceToken_110 ?_
      refine lv_iconst (v := 1) hx hb dX7_advanceToken_113 (by decide) ?_
      refine lv_iadd hx hb dX7_advanceToken_114 ?_
      obtain ⟨M56, hM56, hp⟩ := ob hp
      refine mr_putI C0 cbX7 hM 17 (by decide) rfl rfl tw_1241 hM56 dX7_advanceToken_115 (fun H locs hM => ?_)
      refine lv_goto (tgt := 90) hx hb dX7_advanceToken_118 (by decide) ?_
      exact ih  _ _ _ _ hM (lv_sub hl [0] rfl) hp
def p_X7_advanceToken (a0 : Nat) (M : Mem) : Option (Mem) :=
  (pl_X7_advanceToken_0
   (fun  (M12 : Mem) =>
    (Option.bind (gI 6 17 M12 a0) fun v13 =>
    (Option.bind (sV 6 18 M12 a0 (.int v13)) fun M14 =>
    (Option.bind (gI 6 17 M14 a0) fun v15 =>
    (Option.bind (isC 6 M14 a0) fun _ =>
    (Option.bind (p_X7_byteAt a0 v15 M14) fun v17 =>
    (Option.bind (sV 6 19 M14 a0 (.int (0 : Int32))) fun M18 =>
    (if v17 = (-1 : Int32) then
     (Option.bind (sV 6 20 M18 a0 (.int (0 : Int32))) fun M58 =>
     some M58
     )
    else
     (Option.bind (p_X7_inRange v17 (97 : Int32) (122 : Int32) M18) fun v20 =>
     (if v20 = 0 then
      (Option.bind (p_X7_inRange v17 (48 : Int32) (57 : Int32) M18) fun v22 =>
      (if v22 = 0 then
       (jn (fun (s24 : Int32) =>
        (Option.bind (sV 6 20 M18 a0 (.int s24)) fun M26 =>
        (Option.bind (gI 6 17 M26 a0) fun v27 =>
        (Option.bind (sV 6 17 M26 a0 (.int (v27 + (1 : Int32)))) fun M28 =>
        some M28
        )
        )
        )
       ) fun k25 =>
       (if v17 = (59 : Int32) then
        (k25 (3 : Int32))
       else
        (k25 (4 : Int32))
       )
       )
      else
       (Option.bind (sV 6 20 M18 a0 (.int (2 : Int32))) fun M30 =>
       (pl_X7_advanceToken_137
        (fun  (M48 : Mem) =>
         some M48
        )
        a0 FU M30)
       )
      )
      )
     else
      (Option.bind (sV 6 20 M18 a0 (.int (1 : Int32))) fun M49 =>
      (pl_X7_advanceToken_90
       (fun  (M57 : Mem) =>
        some M57
       )
       a0 FU M49)
      )
     )
     )
    )
    )
    )
    )
    )
    )
    )
   )
   a0 FU M)
theorem yk_X7_advanceToken : yok yX7_advanceToken 0 := by decide +kernel
set_option maxHeartbeats 4000000 in
set_option maxRecDepth 100000 in
theorem w_X7_advanceToken {G : gG} (hG : GOK G) {l : Launch} {a0 : Nat} {M : Mem} {M' : Mem} (hp : p_X7_advanceToken a0 M = some M') : CT G l yX7_advanceToken (wT yX7_advanceToken cX7_advanceToken 2 (none)) rm_X7_advanceToken [.ref a0] M none M' 0 0 := by
  refine CT_of (own := RX7) (maxL := 2) (ret := (none)) hG (by decide) rfl (Nat.le_of_ble_eq_true rfl) (fun p e s m below meth c A C0 hr hlk hM ls hl => ?_)
  have hl : lv_has ls 2 [(0, .ref a0)] := hl
  generalize ([.ref a0] : List Value).toArray = args at C0 ⊢
  skip
  have hx := C0.1
  have hb := C0.2.1
  have hown := C0.2.2.2.1
  have hts := C0.2.2.2.2.1
  unfold p_X7_advanceToken at hp
  refine wl_X7_advanceToken_0 C0 hr hlk hG (fun M12 H locs ls hM hl hp => ?_) FU  _ _ _ _ hM (lv_sub hl [0] rfl) hp
  refine lv_aload_n hx hb dX7_advanceToken_39 rfl (lv_at hl 0 rfl) ?_
  refine lv_aload_n hx hb dX7_advanceToken_40 rfl (lv_at hl 0 rfl) ?_
  obtain ⟨v13, hv13, hp⟩ := ob hp
  refine mr_getI C0 cbX7 hM 17 (by decide) tw_1241 hv13 dX7_advanceToken_41 ?_
  obtain ⟨M14, hM14, hp⟩ := ob hp
  refine mr_putI C0 cbX7 hM 18 (by decide) rfl rfl tw_1242 hM14 dX7_advanceToken_44 (fun H locs hM => ?_)
  refine lv_aload_n hx hb dX7_advanceToken_47 rfl (lv_at hl 0 rfl) ?_
  refine lv_aload_n hx hb dX7_advanceToken_48 rfl (lv_at hl 0 rfl) ?_
  obtain ⟨v15, hv15, hp⟩ := ob hp
  refine mr_getI C0 cbX7 hM 17 (by decide) tw_1241 hv15 dX7_advanceToken_49 ?_
  obtain ⟨_, h16, hp⟩ := ob hp
  obtain ⟨v17, hv17, hp⟩ := ob hp
  refine mr_V1 (As := [.int v15]) (rest := []) C0 cbX7 hM h16 rfl (w_X7_byteAt hG hv17) tw_1339 tw_1341 tws_9 tw_7 tw_1342 yk_X7_byteAt (by decide) rfl hl.1 (Nat.le_of_ble_eq_true rfl) dX7_advanceToken_52 rfl (fun H locs hM => ?_)
  refine lv_istore_n (lv' := [(1, .int v17), (0, .ref a0)]) hx hb dX7_advanceToken_55 rfl hl (by decide) rfl (fun ls hl => ?_)
  refine lv_aload_n hx hb dX7_advanceToken_56 rfl (lv_at hl 1 rfl) ?_
  refine lv_iconst (v := 0) hx hb dX7_advanceToken_57 (by decide) ?_
  obtain ⟨M18, hM18, hp⟩ := ob hp
  refine mr_putI C0 cbX7 hM 19 (by decide) rfl rfl tw_1243 hM18 dX7_advanceToken_58 (fun H locs hM => ?_)
  refine lv_iload_n hx hb dX7_advanceToken_61 rfl (lv_at hl 0 rfl) ?_
  refine lv_iconst (v := -1) hx hb dX7_advanceToken_62 (by decide) ?_
  refine lv_icmp_ne (tgt := 74) hx hb dX7_advanceToken_63 (by decide) (fun c19 => ?_) (fun c19 => ?_)
  · replace hp := oF c19 hp
    refine lv_iload_n hx hb dX7_advanceToken_74 rfl (lv_at hl 0 rfl) ?_
    refine lv_bipush (v := 97) hx hb dX7_advanceToken_75 (by decide) ?_
    refine lv_bipush (v := 122) hx hb dX7_advanceToken_77 (by decide) ?_
    obtain ⟨v20, hv20, hp⟩ := ob hp
    refine mr_S1 (As := [.int v17, .int (97 : Int32), .int (122 : Int32)]) (rest := []) C0 hM (w_X7_inRange hG hv20) tw_1325 tw_1326 tw_7 tw_1327 yk_X7_inRange (by decide) rfl hl.1 (Nat.le_of_ble_eq_true rfl) dX7_advanceToken_79 rfl (fun H locs hM => ?_)
    refine lv_if_eq (tgt := 121) hx hb dX7_advanceToken_82 (by decide) (fun c21 => ?_) (fun c21 => ?_)
    · replace hp := oT c21 hp
      refine lv_iload_n hx hb dX7_advanceToken_121 rfl (lv_at hl 0 rfl) ?_
      refine lv_bipush (v := 48) hx hb dX7_advanceToken_122 (by decide) ?_
      refine lv_bipush (v := 57) hx hb dX7_advanceToken_124 (by decide) ?_
      obtain ⟨v22, hv22, hp⟩ := ob hp
      refine mr_S1 (As := [.int v17, .int (48 : Int32), .int (57 : Int32)]) (rest := []) C0 hM (w_X7_inRange hG hv22) tw_1325 tw_1326 tw_7 tw_1327 yk_X7_inRange (by decide) rfl hl.1 (Nat.le_of_ble_eq_true rfl) dX7_advanceToken_126 rfl (fun H locs hM => ?_)
      refine lv_if_eq (tgt := 204) hx hb dX7_advanceToken_129 (by decide) (fun c23 => ?_) (fun c23 => ?_)
      · replace hp := oT c23 hp
        refine lv_aload_n hx hb dX7_advanceToken_204 rfl (lv_at hl 1 rfl) ?_
        refine lv_iload_n hx hb dX7_advanceToken_205 rfl (lv_at hl 0 rfl) ?_
        refine lv_bipush (v := 59) hx hb dX7_advanceToken_206 (by decide) ?_
        obtain ⟨k25, ek25, hp⟩ := ojn hp
        have hk25 : ∀ (s24 : Int32) (H : Heap) (locs : List Loc) (ls : Array Slot), mm G A s M18 H locs → lv_has ls 2 [(0, .ref a0)] → k25 s24 = some M' → W p l e rm_X7_advanceToken s m args below meth c H locs 0 0 (MQ below (CQ G M' none A) args s 0 0 A) (F0 m 216 ls [.int s24, .ref a0]) := by
          intro s24 H locs ls hM hl hp
          rw [ek25] at hp
          obtain ⟨M26, hM26, hp⟩ := ob hp
          refine mr_putI C0 cbX7 hM 20 (by decide) rfl rfl tw_1244 hM26 dX7_advanceToken_216 (fun H locs hM => ?_)
          refine lv_aload_n hx hb dX7_advanceToken_219 rfl (lv_at hl 0 rfl) ?_
          refine lv_dup hx hb dX7_advanceToken_220 rfl ?_
          obtain ⟨v27, hv27, hp⟩ := ob hp
          refine mr_getI C0 cbX7 hM 17 (by decide) tw_1241 hv27 dX7_advanceToken_221 ?_
          refine lv_iconst (v := 1) hx hb dX7_advanceToken_224 (by decide) ?_
          refine lv_iadd hx hb dX7_advanceToken_225 ?_
          obtain ⟨M28, hM28, hp⟩ := ob hp
          refine mr_putI C0 cbX7 hM 17 (by decide) rfl rfl tw_1241 hM28 dX7_advanceToken_226 (fun H locs hM => ?_)
          exact mr_vret C0 hr hlk hM (Option.some.inj hp) (Nat.le_refl _) (Nat.le_refl _) dX7_advanceToken_229
        refine lv_icmp_ne (tgt := 215) hx hb dX7_advanceToken_208 (by decide) (fun c29 => ?_) (fun c29 => ?_)
        · replace hp := oF c29 hp
          refine lv_iconst (v := 4) hx hb dX7_advanceToken_215 (by decide) ?_
          exact hk25 _ _ _ _ hM (lv_sub hl [1] rfl) hp
        · replace hp := oT c29 hp
          refine lv_iconst (v := 3) hx hb dX7_advanceToken_211 (by decide) ?_
          refine lv_goto (tgt := 216) hx hb dX7_advanceToken_212 (by decide) ?_
          exact hk25 _ _ _ _ hM (lv_sub hl [1] rfl) hp
      · replace hp := oF c23 hp
        refine lv_aload_n hx hb dX7_advanceToken_132 rfl (lv_at hl 1 rfl) ?_
        refine lv_iconst (v := 2) hx hb dX7_advanceToken_133 (by decide) ?_
        obtain ⟨M30, hM30, hp⟩ := ob hp
        refine mr_putI C0 cbX7 hM 20 (by decide) rfl rfl tw_1244 hM30 dX7_advanceToken_134 (fun H locs hM => ?_)
        refine wl_X7_advanceToken_137 C0 hr hlk hG (fun M48 H locs ls hM hl hp => ?_) FU  _ _ _ _ hM (lv_sub hl [1] rfl) hp
        exact mr_vret C0 hr hlk hM (Option.some.inj hp) (Nat.le_refl _) (Nat.le_refl _) dX7_advanceToken_229
    · replace hp := oF c21 hp
      refine lv_aload_n hx hb dX7_advanceToken_85 rfl (lv_at hl 1 rfl) ?_
      refine lv_iconst (v := 1) hx hb dX7_advanceToken_86 (by decide) ?_
      obtain ⟨M49, hM49, hp⟩ := ob hp
      refine mr_putI C0 cbX7 hM 20 (by decide) rfl rfl tw_1244 hM49 dX7_advanceToken_87 (fun H locs hM => ?_)
      refine wl_X7_advanceToken_90 C0 hr hlk hG (fun M57 H locs ls hM hl hp => ?_) FU  _ _ _ _ hM (lv_sub hl [1] rfl) hp
      exact mr_vret C0 hr hlk hM (Option.some.inj hp) (Nat.le_refl _) (Nat.le_refl _) dX7_advanceToken_229
  · replace hp := oT c19 hp
    refine lv_aload_n hx hb dX7_advanceToken_66 rfl (lv_at hl 1 rfl) ?_
    refine lv_iconst (v := 0) hx hb dX7_advanceToken_67 (by decide) ?_
    obtain ⟨M58, hM58, hp⟩ := ob hp
    refine mr_putI C0 cbX7 hM 20 (by decide) rfl rfl tw_1244 hM58 dX7_advanceToken_68 (fun H locs hM => ?_)
    refine lv_goto (tgt := 229) hx hb dX7_advanceToken_71 (by decide) ?_
    exact mr_vret C0 hr hlk hM (Option.some.inj hp) (Nat.le_refl _) (Nat.le_refl _) dX7_advanceToken_229
abbrev rm_X7_tokenLength : Room := { frames := 0, cells := 0, slots := 0, locals := 0 }
def p_X7_tokenLength (a0 : Nat) (M : Mem) : Option (Int32) :=
  (Option.bind (gI 6 17 M a0) fun v1 =>
  (Option.bind (gI 6 18 M a0) fun v2 =>
  some (v1 - v2)
  )
  )
theorem yk_X7_tokenLength : yok yX7_tokenLength 0 := by decide +kernel
set_option maxHeartbeats 4000000 in
set_option maxRecDepth 100000 in
theorem w_X7_tokenLength {G : gG} (hG : GOK G) {l : Launch} {a0 : Nat} {M : Mem} {r : Int32} (hp : p_X7_tokenLength a0 M = some r) : CT G l yX7_tokenLength (wT yX7_tokenLength cX7_tokenLength 1 (some FieldType.int)) rm_X7_tokenLength [.ref a0] M (some (.int r)) M 0 0 := by
  refine CT_of (own := RX7) (maxL := 1) (ret := (some FieldType.int)) hG (by decide) rfl (Nat.le_of_ble_eq_true rfl) (fun p e s m below meth c A C0 hr hlk hM ls hl => ?_)
  have hl : lv_has ls 1 [(0, .ref a0)] := hl
  generalize ([.ref a0] : List Value).toArray = args at C0 ⊢
  skip
  have hx := C0.1
  have hb := C0.2.1
  have hown := C0.2.2.2.1
  have hts := C0.2.2.2.2.1
  unfold p_X7_tokenLength at hp
  refine lv_aload_n hx hb dX7_tokenLength_0 rfl (lv_at hl 0 rfl) ?_
  obtain ⟨v1, hv1, hp⟩ := ob hp
  refine mr_getI C0 cbX7 hM 17 (by decide) tw_1241 hv1 dX7_tokenLength_1 ?_
  refine lv_aload_n hx hb dX7_tokenLength_4 rfl (lv_at hl 0 rfl) ?_
  obtain ⟨v2, hv2, hp⟩ := ob hp
  refine mr_getI C0 cbX7 hM 18 (by decide) tw_1242 hv2 dX7_tokenLength_5 ?_
  refine lv_isub hx hb dX7_tokenLength_8 ?_
  exact mr_iret C0 hr hlk hM rfl (Option.some.inj hp) (Nat.le_refl _) (Nat.le_refl _) dX7_tokenLength_9
abbrev rm_X7_failsAt : Room := { frames := 0, cells := 0, slots := 0, locals := 0 }
def p_X7_failsAt (a0 : Nat) (a1 : Int32) (M : Mem) : Option (Int32 × Mem) :=
  (Option.bind (gI 6 15 M a0) fun v1 =>
  (if v1 = 0 then
   (Option.bind (sV 6 15 M a0 (.int a1)) fun M3 =>
   (Option.bind (gI 6 18 M3 a0) fun v4 =>
   (Option.bind (sV 6 16 M3 a0 (.int v4)) fun M5 =>
   some ((0 : Int32), M5)
   )
   )
   )
  else
   some ((0 : Int32), M)
  )
  )
theorem yk_X7_failsAt : yok yX7_failsAt 1 := by decide +kernel
set_option maxHeartbeats 4000000 in
set_option maxRecDepth 100000 in
theorem w_X7_failsAt {G : gG} (hG : GOK G) {l : Launch} {a0 : Nat} {a1 : Int32} {M : Mem} {r : Int32} {M' : Mem} (hp : p_X7_failsAt a0 a1 M = some (r, M')) : CT G l yX7_failsAt (wT yX7_failsAt cX7_failsAt 2 (some FieldType.boolean)) rm_X7_failsAt [.ref a0, .int a1] M (some (.int r)) M' 0 0 := by
  refine CT_of (own := RX7) (maxL := 2) (ret := (some FieldType.boolean)) hG (by decide) rfl (Nat.le_of_ble_eq_true rfl) (fun p e s m below meth c A C0 hr hlk hM ls hl => ?_)
  have hl : lv_has ls 2 [(0, .ref a0), (1, .int a1)] := hl
  generalize ([.ref a0, .int a1] : List Value).toArray = args at C0 ⊢
  skip
  have hx := C0.1
  have hb := C0.2.1
  have hown := C0.2.2.2.1
  have hts := C0.2.2.2.2.1
  unfold p_X7_failsAt at hp
  refine lv_aload_n hx hb dX7_failsAt_0 rfl (lv_at hl 0 rfl) ?_
  obtain ⟨v1, hv1, hp⟩ := ob hp
  refine mr_getI C0 cbX7 hM 15 (by decide) tw_1239 hv1 dX7_failsAt_1 ?_
  refine lv_if_ne (tgt := 20) hx hb dX7_failsAt_4 (by decide) (fun c2 => ?_) (fun c2 => ?_)
  · replace hp := oF c2 hp
    refine lv_iconst (v := 0) hx hb dX7_failsAt_20 (by decide) ?_
    exact mr_zret C0 hr hlk hM (Prod.mk.inj (Option.some.inj hp)).2 (Or.inl rfl) (Prod.mk.inj (Option.some.inj hp)).1 (Nat.le_refl _) (Nat.le_refl _) dX7_failsAt_21
  · replace hp := oT c2 hp
    refine lv_aload_n hx hb dX7_failsAt_7 rfl (lv_at hl 0 rfl) ?_
    refine lv_iload_n hx hb dX7_failsAt_8 rfl (lv_at hl 1 rfl) ?_
    obtain ⟨M3, hM3, hp⟩ := ob hp
    refine mr_putI C0 cbX7 hM 15 (by decide) rfl rfl tw_1239 hM3 dX7_failsAt_9 (fun H locs hM => ?_)
    refine lv_aload_n hx hb dX7_failsAt_12 rfl (lv_at hl 0 rfl) ?_
    refine lv_aload_n hx hb dX7_failsAt_13 rfl (lv_at hl 0 rfl) ?_
    obtain ⟨v4, hv4, hp⟩ := ob hp
    refine mr_getI C0 cbX7 hM 18 (by decide) tw_1242 hv4 dX7_failsAt_14 ?_
    obtain ⟨M5, hM5, hp⟩ := ob hp
    refine mr_putI C0 cbX7 hM 16 (by decide) rfl rfl tw_1240 hM5 dX7_failsAt_17 (fun H locs hM => ?_)
    refine lv_iconst (v := 0) hx hb dX7_failsAt_20 (by decide) ?_
    exact mr_zret C0 hr hlk hM (Prod.mk.inj (Option.some.inj hp)).2 (Or.inl rfl) (Prod.mk.inj (Option.some.inj hp)).1 (Nat.le_refl _) (Nat.le_refl _) dX7_failsAt_21
abbrev rm_X7_isWord : Room := { frames := 4, cells := 0, slots := 0, locals := 85 }
def pl_X7_isWord_23 (k1 : Unit → Option (Int32)) (k2 : Unit → Option (Int32)) (f0 : Nat) (f1 : Nat) (M : Mem) : Nat → Int32 → Option (Int32)
  | 0, _ => none
  | n + 1, y2 =>
    (Option.bind (sLen f1) fun v7 =>
    (if v7 ≤ y2 then
     (k2 ())
    else
     (Option.bind (gR 6 11 M f0) fun v9 =>
     (Option.bind (gI 6 18 M f0) fun v10 =>
     (Option.bind (aI 0 M v9 (v10 + y2)) fun v11 =>
     (Option.bind (sAt f1 y2) fun v12 =>
     (if v11 = v12 then
      (pl_X7_isWord_23 k1 k2 f0 f1 M n (y2 + (1 : Int32)))
     else
      (k1 ())
     )
     )
     )
     )
     )
    )
    )
set_option maxHeartbeats 4000000 in
set_option maxRecDepth 100000 in
theorem wl_X7_isWord_23 {G : gG} {p : Program} {l : Launch} {e : Env} {s : State} {m : MethodId} {args : Array Value} {below : List Frame} {meth : Method} {c : Code} {A : Nat → Prop} {Z : gZ} {r : Int32} {k1 : Unit → Option (Int32)} {k2 : Unit → Option (Int32)} {f0 : Nat} {f1 : Nat} {M : Mem} (C0 : cx G p s m args c cX7_isWord RX7 3 A) (hr : meth.sig.returnType = (some FieldType.boolean)) (hlk : meth.locks = false) (hG : GOK G) (hZ : GS G Z) (hk1 : ∀ (H : Heap) (locs : List Loc) (ls : Array Slot), mm G A s M H locs → lv_has ls 3 [] → k1 () = some r → W p l e rm_X7_isWord s m args below meth c H locs 0 0 (MQ below (CQ G M (some (.int r)) A) args s 0 0 A) (F0 m 50 ls [])) (hk2 : ∀ (H : Heap) (locs : List Loc) (ls : Array Slot), mm G A s M H locs → lv_has ls 3 [] → k2 () = some r → W p l e rm_X7_isWord s m args below meth c H locs 0 0 (MQ below (CQ G M (some (.int r)) A) args s 0 0 A) (F0 m 58 ls [])) : ∀ (n : Nat) (y2 : Int32) (H : Heap) (locs : List Loc) (ls : Array Slot), mm G A s M H locs → lv_has ls 3 [(0, .ref f0), (1, .ref (Z.1 f1)), (2, .int y2)] → pl_X7_isWord_23 k1 k2 f0 f1 M n y2 = some r → W p l e rm_X7_isWord s m args below meth c H locs 0 0 (MQ below (CQ G M (some (.int r)) A) args s 0 0 A) (F0 m 23 ls []) := by
  have hx := C0.1
  have hb := C0.2.1
  have hown := C0.2.2.2.1
  have hts := C0.2.2.2.2.1
  intro n
  induction n with
  | zero => intro y2 H locs ls hM hl hp; rw [pl_X7_isWord_23] at hp; cases hp
  | succ n ih =>
    intro y2 H locs ls hM hl hp
    rw [pl_X7_isWord_23] at hp
    refine lv_iload_n hx hb dX7_isWord_23 rfl (lv_at hl 2 rfl) ?_
    refine lv_aload_n hx hb dX7_isWord_24 rfl (lv_at hl 1 rfl) ?_
    obtain ⟨v7, hv7, hp⟩ := ob hp
    refine mr_K1 (As := []) (rest := [.int y2]) C0 hZ hM (oG hv7).1 rfl (w_J0_length_8abf5 hG hZ hv7) tw_1360 tw_359 tw_360 tw_9 tw_361 yk_J0_length_8abf5 (by decide) rfl hl.1 (Nat.le_of_ble_eq_true rfl) dX7_isWord_25 rfl (fun H locs hM => ?_)
    refine lv_icmp_ge (tgt := 58) hx hb dX7_isWord_28 (by decide) (fun c8 => ?_) (fun c8 => ?_)
    · replace hp := oT c8 hp
      exact hk2  _ _ _ hM (lv_sub hl [] rfl) hp
    · replace hp := oF c8 hp
      refine lv_aload_n hx hb dX7_isWord_31 rfl (lv_at hl 0 rfl) ?_
      obtain ⟨v9, hv9, hp⟩ := ob hp
      refine mr_getR C0 cbX7 hM 11 (by decide) tw_1235 hv9 dX7_isWord_32 ?_
      refine lv_aload_n hx hb dX7_isWord_35 rfl (lv_at hl 0 rfl) ?_
      obtain ⟨v10, hv10, hp⟩ := ob hp
      refine mr_getI C0 cbX7 hM 18 (by decide) tw_1242 hv10 dX7_isWord_36 ?_
      refine lv_iload_n hx hb dX7_isWord_39 rfl (lv_at hl 2 rfl) ?_
      refine lv_iadd hx hb dX7_isWord_40 ?_
      obtain ⟨v11, hv11, hp⟩ := ob hp
      refine mr_iald C0 hM hv11 dX7_isWord_41 ?_
      refine lv_aload_n hx hb dX7_isWord_42 rfl (lv_at hl 1 rfl) ?_
      refine lv_iload_n hx hb dX7_isWord_43 rfl (lv_at hl 2 rfl) ?_
      obtain ⟨v12, hv12, hp⟩ := ob hp
      refine mr_K1 (As := [.int y2]) (rest := [.int v11]) C0 hZ hM (oG hv12).1.1 rfl (w_J0_charAt_5068e hG hZ hv12) tw_1361 tw_369 tw_370 tw_9 tw_371 yk_J0_charAt_5068e (by decide) rfl hl.1 (Nat.le_of_ble_eq_true rfl) dX7_isWord_44 rfl (fun H locs hM => ?_)
      refine lv_icmp_eq (tgt := 52) hx hb dX7_isWord_47 (by decide) (fun c13 => ?_) (fun c13 => ?_)
      · replace hp := oT c13 hp
        refine lv_iinc (v := (y2 + (1 : Int32))) (lv' := [(2, .int (y2 + (1 : Int32))), (0, .ref f0), (1, .ref (Z.1 f1))]) hx hb dX7_isWord_52 hl (k := 2) rfl rfl (by decide) rfl (fun ls hl => ?_)
        refine lv_goto (tgt := 23) hx hb dX7_isWord_55 (by decide) ?_
        exact ih _ _ _ _ hM (lv_sub hl [1, 2, 0] rfl) hp
      · replace hp := oF c13 hp
        exact hk1  _ _ _ hM (lv_sub hl [] rfl) hp
def p_X7_isWord (a0 : Nat) (a1 : Nat) (M : Mem) : Option (Int32) :=
  (Option.bind (gI 6 20 M a0) fun v1 =>
  (if v1 = (1 : Int32) then
   (Option.bind (isC 6 M a0) fun _ =>
   (Option.bind (p_X7_tokenLength a0 M) fun v4 =>
   (Option.bind (sLen a1) fun v5 =>
   (if v4 = v5 then
    (pl_X7_isWord_23
     (fun (_ : Unit) =>
      some (0 : Int32)
     )
     (fun (_ : Unit) =>
      some (1 : Int32)
     )
     a0 a1 M FU (0 : Int32))
   else
    some (0 : Int32)
   )
   )
   )
   )
  else
   some (0 : Int32)
  )
  )
theorem yk_X7_isWord : yok yX7_isWord 1 := by decide +kernel
set_option maxHeartbeats 4000000 in
set_option maxRecDepth 100000 in
theorem w_X7_isWord {G : gG} (hG : GOK G) {Z : gZ} (hZ : GS G Z) {l : Launch} {a0 : Nat} {a1 : Nat} {M : Mem} {r : Int32} (hp : p_X7_isWord a0 a1 M = some r) : CT G l yX7_isWord (wT yX7_isWord cX7_isWord 3 (some FieldType.boolean)) rm_X7_isWord [.ref a0, .ref (Z.1 a1)] M (some (.int r)) M 0 0 := by
  refine CT_of (own := RX7) (maxL := 3) (ret := (some FieldType.boolean)) hG (by decide) rfl (Nat.le_of_ble_eq_true rfl) (fun p e s m below meth c A C0 hr hlk hM ls hl => ?_)
  have hl : lv_has ls 3 [(0, .ref a0), (1, .ref (Z.1 a1))] := hl
  generalize ([.ref a0, .ref (Z.1 a1)] : List Value).toArray = args at C0 ⊢
  skip
  have hx := C0.1
  have hb := C0.2.1
  have hown := C0.2.2.2.1
  have hts := C0.2.2.2.2.1
  unfold p_X7_isWord at hp
  refine lv_aload_n hx hb dX7_isWord_0 rfl (lv_at hl 0 rfl) ?_
  obtain ⟨v1, hv1, hp⟩ := ob hp
  refine mr_getI C0 cbX7 hM 20 (by decide) tw_1244 hv1 dX7_isWord_1 ?_
  refine lv_iconst (v := 1) hx hb dX7_isWord_4 (by decide) ?_
  refine lv_icmp_ne (tgt := 19) hx hb dX7_isWord_5 (by decide) (fun c2 => ?_) (fun c2 => ?_)
  · replace hp := oF c2 hp
    refine lv_iconst (v := 0) hx hb dX7_isWord_19 (by decide) ?_
    exact mr_zret C0 hr hlk hM rfl (Or.inl rfl) (Option.some.inj hp) (Nat.le_refl _) (Nat.le_refl _) dX7_isWord_20
  · replace hp := oT c2 hp
    refine lv_aload_n hx hb dX7_isWord_8 rfl (lv_at hl 0 rfl) ?_
    obtain ⟨_, h3, hp⟩ := ob hp
    obtain ⟨v4, hv4, hp⟩ := ob hp
    refine mr_V1 (As := []) (rest := []) C0 cbX7 hM h3 rfl (w_X7_tokenLength hG hv4) tw_1356 tw_1358 tws_13 tw_7 tw_1359 yk_X7_tokenLength (by decide) rfl hl.1 (Nat.le_of_ble_eq_true rfl) dX7_isWord_9 rfl (fun H locs hM => ?_)
    refine lv_aload_n hx hb dX7_isWord_12 rfl (lv_at hl 1 rfl) ?_
    obtain ⟨v5, hv5, hp⟩ := ob hp
    refine mr_K1 (As := []) (rest := [.int v4]) C0 hZ hM (oG hv5).1 rfl (w_J0_length_8abf5 hG hZ hv5) tw_1360 tw_359 tw_360 tw_9 tw_361 yk_J0_length_8abf5 (by decide) rfl hl.1 (Nat.le_of_ble_eq_true rfl) dX7_isWord_13 rfl (fun H locs hM => ?_)
    refine lv_icmp_eq (tgt := 21) hx hb dX7_isWord_16 (by decide) (fun c6 => ?_) (fun c6 => ?_)
    · replace hp := oT c6 hp
      refine lv_iconst (v := 0) hx hb dX7_isWord_21 (by decide) ?_
      refine lv_istore_n (lv' := [(2, .int (0 : Int32)), (0, .ref a0), (1, .ref (Z.1 a1))]) hx hb dX7_isWord_22 rfl hl (by decide) rfl (fun ls hl => ?_)
      refine wl_X7_isWord_23 C0 hr hlk hG hZ (fun  H locs ls hM hl hp => ?_) (fun  H locs ls hM hl hp => ?_) FU _ _ _ _ hM (lv_sub hl [1, 2, 0] rfl) hp
      · refine lv_iconst (v := 0) hx hb dX7_isWord_50 (by decide) ?_
        exact mr_zret C0 hr hlk hM rfl (Or.inl rfl) (Option.some.inj hp) (Nat.le_refl _) (Nat.le_refl _) dX7_isWord_51
      · refine lv_iconst (v := 1) hx hb dX7_isWord_58 (by decide) ?_
        exact mr_zret C0 hr hlk hM rfl (Or.inr rfl) (Option.some.inj hp) (Nat.le_refl _) (Nat.le_refl _) dX7_isWord_59
    · replace hp := oF c6 hp
      refine lv_iconst (v := 0) hx hb dX7_isWord_19 (by decide) ?_
      exact mr_zret C0 hr hlk hM rfl (Or.inl rfl) (Option.some.inj hp) (Nat.le_refl _) (Nat.le_refl _) dX7_isWord_20
abbrev rm_X7_takesInto : Room := { frames := 2, cells := 0, slots := 0, locals := 43 }
def p_X7_takesInto (a0 : Nat) (a1 : Int32) (a2 : Int32) (a3 : Int32) (M : Mem) : Option (Int32 × Mem) :=
  (Option.bind (gI 6 20 M a0) fun v1 =>
  (jn (fun (_ : Unit) =>
   (Option.bind (isC 6 M a0) fun _ =>
   (ob2 (p_X7_failsAt a0 (1 : Int32) M) fun v4 M5 =>
   (if v4 = 0 ∨ v4 = 1 then some (v4, M5) else none)
   )
   )
  ) fun k2 =>
  (if v1 = (2 : Int32) then
   (Option.bind (isC 6 M a0) fun _ =>
   (Option.bind (p_X7_tokenLength a0 M) fun v8 =>
   (if v8 ≤ (3 : Int32) then
    (Option.bind (gI 6 19 M a0) fun v10 =>
    (Option.bind (p_X7_inRange v10 a2 a3 M) fun v11 =>
    (if v11 = 0 then
     (Option.bind (isC 6 M a0) fun _ =>
     (ob2 (p_X7_failsAt a0 (2 : Int32) M) fun v19 M20 =>
     (if v19 = 0 ∨ v19 = 1 then some (v19, M20) else none)
     )
     )
    else
     (Option.bind (gR 6 0 M a0) fun v13 =>
     (Option.bind (gI 6 19 M a0) fun v14 =>
     (Option.bind (aIs M v13 a1 v14) fun M15 =>
     (Option.bind (isC 6 M15 a0) fun _ =>
     (Option.bind (p_X7_advanceToken a0 M15) fun M17 =>
     some ((1 : Int32), M17)
     )
     )
     )
     )
     )
    )
    )
    )
   else
    (k2 ())
   )
   )
   )
  else
   (k2 ())
  )
  )
  )
theorem yk_X7_takesInto : yok yX7_takesInto 3 := by decide +kernel
set_option maxHeartbeats 4000000 in
set_option maxRecDepth 100000 in
theorem w_X7_takesInto {G : gG} (hG : GOK G) {l : Launch} {a0 : Nat} {a1 : Int32} {a2 : Int32} {a3 : Int32} {M : Mem} {r : Int32} {M' : Mem} (hp : p_X7_takesInto a0 a1 a2 a3 M = some (r, M')) : CT G l yX7_takesInto (wT yX7_takesInto cX7_takesInto 4 (some FieldType.boolean)) rm_X7_takesInto [.ref a0, .int a1, .int a2, .int a3] M (some (.int r)) M' 0 0 := by
  refine CT_of (own := RX7) (maxL := 4) (ret := (some FieldType.boolean)) hG (by decide) rfl (Nat.le_of_ble_eq_true rfl) (fun p e s m below meth c A C0 hr hlk hM ls hl => ?_)
  have hl : lv_has ls 4 [(0, .ref a0), (1, .int a1), (2, .int a2), (3, .int a3)] := hl
  generalize ([.ref a0, .int a1, .int a2, .int a3] : List Value).toArray = args at C0 ⊢
  skip
  have hx := C0.1
  have hb := C0.2.1
  have hown := C0.2.2.2.1
  have hts := C0.2.2.2.2.1
  unfold p_X7_takesInto at hp
  refine lv_aload_n hx hb dX7_takesInto_0 rfl (lv_at hl 0 rfl) ?_
  obtain ⟨v1, hv1, hp⟩ := ob hp
  refine mr_getI C0 cbX7 hM 20 (by decide) tw_1244 hv1 dX7_takesInto_1 ?_
  refine lv_iconst (v := 2) hx hb dX7_takesInto_4 (by decide) ?_
  obtain ⟨k2, ek2, hp⟩ := ojn hp
  have hk2 : ∀ (H : Heap) (locs : List Loc) (ls : Array Slot), mm G A s M H locs → lv_has ls 4 [(0, .ref a0)] → k2 () = some (r, M') → W p l e rm_X7_takesInto s m args below meth c H locs 0 0 (MQ below (CQ G M' (some (.int r)) A) args s 0 0 A) (F0 m 16 ls []) := by
    intro  H locs ls hM hl hp
    rw [ek2] at hp
    refine lv_aload_n hx hb dX7_takesInto_16 rfl (lv_at hl 0 rfl) ?_
    refine lv_iconst (v := 1) hx hb dX7_takesInto_17 (by decide) ?_
    obtain ⟨_, h3, hp⟩ := ob hp
    obtain ⟨v4, M5, hv4, hp⟩ := ob3 hp
    refine mr_V1 (As := [.int (1 : Int32)]) (rest := []) C0 cbX7 hM h3 rfl (w_X7_failsAt hG hv4) tw_1370 tw_1372 tws_16 tw_7 tw_1373 yk_X7_failsAt (by decide) rfl hl.1 (Nat.le_of_ble_eq_true rfl) dX7_takesInto_18 rfl (fun H locs hM => ?_)
    obtain ⟨hz, hp⟩ := oG hp
    exact mr_zret C0 hr hlk hM (Prod.mk.inj (Option.some.inj hp)).2 hz (Prod.mk.inj (Option.some.inj hp)).1 (Nat.le_refl _) (Nat.le_refl _) dX7_takesInto_21
  refine lv_icmp_ne (tgt := 16) hx hb dX7_takesInto_5 (by decide) (fun c6 => ?_) (fun c6 => ?_)
  · replace hp := oF c6 hp
    exact hk2  _ _ _ hM (lv_sub hl [0] rfl) hp
  · replace hp := oT c6 hp
    refine lv_aload_n hx hb dX7_takesInto_8 rfl (lv_at hl 0 rfl) ?_
    obtain ⟨_, h7, hp⟩ := ob hp
    obtain ⟨v8, hv8, hp⟩ := ob hp
    refine mr_V1 (As := []) (rest := []) C0 cbX7 hM h7 rfl (w_X7_tokenLength hG hv8) tw_1356 tw_1358 tws_13 tw_7 tw_1359 yk_X7_tokenLength (by decide) rfl hl.1 (Nat.le_of_ble_eq_true rfl) dX7_takesInto_9 rfl (fun H locs hM => ?_)
    refine lv_iconst (v := 3) hx hb dX7_takesInto_12 (by decide) ?_
    refine lv_icmp_le (tgt := 22) hx hb dX7_takesInto_13 (by decide) (fun c9 => ?_) (fun c9 => ?_)
    · replace hp := oT c9 hp
      refine lv_aload_n hx hb dX7_takesInto_22 rfl (lv_at hl 0 rfl) ?_
      obtain ⟨v10, hv10, hp⟩ := ob hp
      refine mr_getI C0 cbX7 hM 19 (by decide) tw_1243 hv10 dX7_takesInto_23 ?_
      refine lv_iload_n hx hb dX7_takesInto_26 rfl (lv_at hl 2 rfl) ?_
      refine lv_iload_n hx hb dX7_takesInto_27 rfl (lv_at hl 3 rfl) ?_
      obtain ⟨v11, hv11, hp⟩ := ob hp
      refine mr_S1 (As := [.int v10, .int a2, .int a3]) (rest := []) C0 hM (w_X7_inRange hG hv11) tw_1325 tw_1326 tw_7 tw_1327 yk_X7_inRange (by decide) rfl hl.1 (Nat.le_of_ble_eq_true rfl) dX7_takesInto_28 rfl (fun H locs hM => ?_)
      refine lv_if_ne (tgt := 40) hx hb dX7_takesInto_31 (by decide) (fun c12 => ?_) (fun c12 => ?_)
      · replace hp := oF c12 hp
        refine lv_aload_n hx hb dX7_takesInto_40 rfl (lv_at hl 0 rfl) ?_
        obtain ⟨v13, hv13, hp⟩ := ob hp
        refine mr_getR C0 cbX7 hM 0 (by decide) tw_1224 hv13 dX7_takesInto_41 ?_
        refine lv_iload_n hx hb dX7_takesInto_44 rfl (lv_at hl 1 rfl) ?_
        refine lv_aload_n hx hb dX7_takesInto_45 rfl (lv_at hl 0 rfl) ?_
        obtain ⟨v14, hv14, hp⟩ := ob hp
        refine mr_getI C0 cbX7 hM 19 (by decide) tw_1243 hv14 dX7_takesInto_46 ?_
        obtain ⟨M15, hM15, hp⟩ := ob hp
        refine mr_iast C0 hM hM15 dX7_takesInto_49 (fun H locs hM => ?_)
        refine lv_aload_n hx hb dX7_takesInto_50 rfl (lv_at hl 0 rfl) ?_
        obtain ⟨_, h16, hp⟩ := ob hp
        obtain ⟨M17, hM17, hp⟩ := ob hp
        refine mr_V0 (As := []) (rest := []) C0 cbX7 hM h16 rfl (w_X7_advanceToken hG hM17) tw_1335 tw_1337 tws_8 tw_7 tw_1338 yk_X7_advanceToken (by decide) rfl hl.1 (Nat.le_of_ble_eq_true rfl) dX7_takesInto_51 rfl (fun H locs hM => ?_)
        refine lv_iconst (v := 1) hx hb dX7_takesInto_54 (by decide) ?_
        exact mr_zret C0 hr hlk hM (Prod.mk.inj (Option.some.inj hp)).2 (Or.inr rfl) (Prod.mk.inj (Option.some.inj hp)).1 (Nat.le_refl _) (Nat.le_refl _) dX7_takesInto_55
      · replace hp := oT c12 hp
        refine lv_aload_n hx hb dX7_takesInto_34 rfl (lv_at hl 0 rfl) ?_
        refine lv_iconst (v := 2) hx hb dX7_takesInto_35 (by decide) ?_
        obtain ⟨_, h18, hp⟩ := ob hp
        obtain ⟨v19, M20, hv19, hp⟩ := ob3 hp
        refine mr_V1 (As := [.int (2 : Int32)]) (rest := []) C0 cbX7 hM h18 rfl (w_X7_failsAt hG hv19) tw_1370 tw_1372 tws_16 tw_7 tw_1373 yk_X7_failsAt (by decide) rfl hl.1 (Nat.le_of_ble_eq_true rfl) dX7_takesInto_36 rfl (fun H locs hM => ?_)
        obtain ⟨hz, hp⟩ := oG hp
        exact mr_zret C0 hr hlk hM (Prod.mk.inj (Option.some.inj hp)).2 hz (Prod.mk.inj (Option.some.inj hp)).1 (Nat.le_refl _) (Nat.le_refl _) dX7_takesInto_39
    · replace hp := oF c9 hp
      exact hk2  _ _ _ hM (lv_sub hl [0] rfl) hp
abbrev rm_X7_starts : Room := { frames := 2, cells := 0, slots := 0, locals := 43 }
def p_X7_starts (a0 : Nat) (a1 : Int32) (M : Mem) : Option (Int32 × Mem) :=
  (if a1 = 0 then
   (Option.bind (isC 6 M a0) fun _ =>
   (ob2 (p_X7_failsAt a0 (4 : Int32) M) fun v5 M6 =>
   (if v5 = 0 ∨ v5 = 1 then some (v5, M6) else none)
   )
   )
  else
   (Option.bind (isC 6 M a0) fun _ =>
   (Option.bind (p_X7_advanceToken a0 M) fun M3 =>
   some ((1 : Int32), M3)
   )
   )
  )
theorem yk_X7_starts : yok yX7_starts 1 := by decide +kernel
set_option maxHeartbeats 4000000 in
set_option maxRecDepth 100000 in
theorem w_X7_starts {G : gG} (hG : GOK G) {l : Launch} {a0 : Nat} {a1 : Int32} {M : Mem} {r : Int32} {M' : Mem} (hp : p_X7_starts a0 a1 M = some (r, M')) : CT G l yX7_starts (wT yX7_starts cX7_starts 2 (some FieldType.boolean)) rm_X7_starts [.ref a0, .int a1] M (some (.int r)) M' 0 0 := by
  refine CT_of (own := RX7) (maxL := 2) (ret := (some FieldType.boolean)) hG (by decide) rfl (Nat.le_of_ble_eq_true rfl) (fun p e s m below meth c A C0 hr hlk hM ls hl => ?_)
  have hl : lv_has ls 2 [(0, .ref a0), (1, .int a1)] := hl
  generalize ([.ref a0, .int a1] : List Value).toArray = args at C0 ⊢
  skip
  have hx := C0.1
  have hb := C0.2.1
  have hown := C0.2.2.2.1
  have hts := C0.2.2.2.2.1
  unfold p_X7_starts at hp
  refine lv_iload_n hx hb dX7_starts_0 rfl (lv_at hl 1 rfl) ?_
  refine lv_if_ne (tgt := 10) hx hb dX7_starts_1 (by decide) (fun c1 => ?_) (fun c1 => ?_)
  · replace hp := oF c1 hp
    refine lv_aload_n hx hb dX7_starts_10 rfl (lv_at hl 0 rfl) ?_
    obtain ⟨_, h2, hp⟩ := ob hp
    obtain ⟨M3, hM3, hp⟩ := ob hp
    refine mr_V0 (As := []) (rest := []) C0 cbX7 hM h2 rfl (w_X7_advanceToken hG hM3) tw_1335 tw_1337 tws_8 tw_7 tw_1338 yk_X7_advanceToken (by decide) rfl hl.1 (Nat.le_of_ble_eq_true rfl) dX7_starts_11 rfl (fun H locs hM => ?_)
    refine lv_iconst (v := 1) hx hb dX7_starts_14 (by decide) ?_
    exact mr_zret C0 hr hlk hM (Prod.mk.inj (Option.some.inj hp)).2 (Or.inr rfl) (Prod.mk.inj (Option.some.inj hp)).1 (Nat.le_refl _) (Nat.le_refl _) dX7_starts_15
  · replace hp := oT c1 hp
    refine lv_aload_n hx hb dX7_starts_4 rfl (lv_at hl 0 rfl) ?_
    refine lv_iconst (v := 4) hx hb dX7_starts_5 (by decide) ?_
    obtain ⟨_, h4, hp⟩ := ob hp
    obtain ⟨v5, M6, hv5, hp⟩ := ob3 hp
    refine mr_V1 (As := [.int (4 : Int32)]) (rest := []) C0 cbX7 hM h4 rfl (w_X7_failsAt hG hv5) tw_1370 tw_1372 tws_16 tw_7 tw_1373 yk_X7_failsAt (by decide) rfl hl.1 (Nat.le_of_ble_eq_true rfl) dX7_starts_6 rfl (fun H locs hM => ?_)
    obtain ⟨hz, hp⟩ := oG hp
    exact mr_zret C0 hr hlk hM (Prod.mk.inj (Option.some.inj hp)).2 hz (Prod.mk.inj (Option.some.inj hp)).1 (Nat.le_refl _) (Nat.le_refl _) dX7_starts_9
abbrev rm_X7_startsOnce : Room := { frames := 3, cells := 0, slots := 0, locals := 64 }
def p_X7_startsOnce (a0 : Nat) (a1 : Int32) (M : Mem) : Option (Int32 × Mem) :=
  (Option.bind (gI 6 21 M a0) fun v1 =>
  (jn (fun (s2 : Int32) =>
   (Option.bind (gI 6 21 M a0) fun v4 =>
   (Option.bind (sV 6 21 M a0 (.int (v4 ||| a1))) fun M5 =>
   (Option.bind (isC 6 M5 a0) fun _ =>
   (ob2 (p_X7_starts a0 s2 M5) fun v7 M8 =>
   (if v7 = 0 ∨ v7 = 1 then some (v7, M8) else none)
   )
   )
   )
   )
  ) fun k3 =>
  (if (v1 &&& a1) = 0 then
   (k3 (1 : Int32))
  else
   (k3 (0 : Int32))
  )
  )
  )
theorem yk_X7_startsOnce : yok yX7_startsOnce 1 := by decide +kernel
set_option maxHeartbeats 4000000 in
set_option maxRecDepth 100000 in
theorem w_X7_startsOnce {G : gG} (hG : GOK G) {l : Launch} {a0 : Nat} {a1 : Int32} {M : Mem} {r : Int32} {M' : Mem} (hp : p_X7_startsOnce a0 a1 M = some (r, M')) : CT G l yX7_startsOnce (wT yX7_startsOnce cX7_startsOnce 3 (some FieldType.boolean)) rm_X7_startsOnce [.ref a0, .int a1] M (some (.int r)) M' 0 0 := by
  refine CT_of (own := RX7) (maxL := 3) (ret := (some FieldType.boolean)) hG (by decide) rfl (Nat.le_of_ble_eq_true rfl) (fun p e s m below meth c A C0 hr hlk hM ls hl => ?_)
  have hl : lv_has ls 3 [(0, .ref a0), (1, .int a1)] := hl
  generalize ([.ref a0, .int a1] : List Value).toArray = args at C0 ⊢
  skip
  have hx := C0.1
  have hb := C0.2.1
  have hown := C0.2.2.2.1
  have hts := C0.2.2.2.2.1
  unfold p_X7_startsOnce at hp
  refine lv_aload_n hx hb dX7_startsOnce_0 rfl (lv_at hl 0 rfl) ?_
  obtain ⟨v1, hv1, hp⟩ := ob hp
  refine mr_getI C0 cbX7 hM 21 (by decide) tw_1245 hv1 dX7_startsOnce_1 ?_
  refine lv_iload_n hx hb dX7_startsOnce_4 rfl (lv_at hl 1 rfl) ?_
  refine lv_iand hx hb dX7_startsOnce_5 ?_
  obtain ⟨k3, ek3, hp⟩ := ojn hp
  have hk3 : ∀ (s2 : Int32) (H : Heap) (locs : List Loc) (ls : Array Slot), mm G A s M H locs → lv_has ls 3 [(0, .ref a0), (1, .int a1)] → k3 s2 = some (r, M') → W p l e rm_X7_startsOnce s m args below meth c H locs 0 0 (MQ below (CQ G M' (some (.int r)) A) args s 0 0 A) (F0 m 14 ls [.int s2]) := by
    intro s2 H locs ls hM hl hp
    rw [ek3] at hp
    refine lv_istore_n (lv' := [(2, .int s2), (0, .ref a0), (1, .int a1)]) hx hb dX7_startsOnce_14 rfl hl (by decide) rfl (fun ls hl => ?_)
    refine lv_aload_n hx hb dX7_startsOnce_15 rfl (lv_at hl 1 rfl) ?_
    refine lv_dup hx hb dX7_startsOnce_16 rfl ?_
    obtain ⟨v4, hv4, hp⟩ := ob hp
    refine mr_getI C0 cbX7 hM 21 (by decide) tw_1245 hv4 dX7_startsOnce_17 ?_
    refine lv_iload_n hx hb dX7_startsOnce_20 rfl (lv_at hl 2 rfl) ?_
    refine lv_ior hx hb dX7_startsOnce_21 ?_
    obtain ⟨M5, hM5, hp⟩ := ob hp
    refine mr_putI C0 cbX7 hM 21 (by decide) rfl rfl tw_1245 hM5 dX7_startsOnce_22 (fun H locs hM => ?_)
    refine lv_aload_n hx hb dX7_startsOnce_25 rfl (lv_at hl 1 rfl) ?_
    refine lv_iload_n hx hb dX7_startsOnce_26 rfl (lv_at hl 0 rfl) ?_
    obtain ⟨_, h6, hp⟩ := ob hp
    obtain ⟨v7, M8, hv7, hp⟩ := ob3 hp
    refine mr_V1 (As := [.int s2]) (rest := []) C0 cbX7 hM h6 rfl (w_X7_starts hG hv7) tw_1366 tw_1368 tws_15 tw_7 tw_1369 yk_X7_starts (by decide) rfl hl.1 (Nat.le_of_ble_eq_true rfl) dX7_startsOnce_27 rfl (fun H locs hM => ?_)
    obtain ⟨hz, hp⟩ := oG hp
    exact mr_zret C0 hr hlk hM (Prod.mk.inj (Option.some.inj hp)).2 hz (Prod.mk.inj (Option.some.inj hp)).1 (Nat.le_refl _) (Nat.le_refl _) dX7_startsOnce_30
  refine lv_if_ne (tgt := 13) hx hb dX7_startsOnce_6 (by decide) (fun c9 => ?_) (fun c9 => ?_)
  · replace hp := oF c9 hp
    refine lv_iconst (v := 0) hx hb dX7_startsOnce_13 (by decide) ?_
    exact hk3 _ _ _ _ hM (lv_sub hl [0, 1] rfl) hp
  · replace hp := oT c9 hp
    refine lv_iconst (v := 1) hx hb dX7_startsOnce_9 (by decide) ?_
    refine lv_goto (tgt := 14) hx hb dX7_startsOnce_10 (by decide) ?_
    exact hk3 _ _ _ _ hM (lv_sub hl [0, 1] rfl) hp
abbrev rm_X7_letterHere : Room := { frames := 1, cells := 0, slots := 0, locals := 20 }
def p_X7_letterHere (a0 : Nat) (a1 : Int32) (M : Mem) : Option (Int32) :=
  (Option.bind (isC 6 M a0) fun _ =>
  (Option.bind (p_X7_tokenLength a0 M) fun v2 =>
  (if v2 ≤ a1 then
   some (0 : Int32)
  else
   (Option.bind (gR 6 11 M a0) fun v4 =>
   (Option.bind (gI 6 18 M a0) fun v5 =>
   (Option.bind (aI 0 M v4 (v5 + a1)) fun v6 =>
   some v6
   )
   )
   )
  )
  )
  )
theorem yk_X7_letterHere : yok yX7_letterHere 1 := by decide +kernel
set_option maxHeartbeats 4000000 in
set_option maxRecDepth 100000 in
theorem w_X7_letterHere {G : gG} (hG : GOK G) {l : Launch} {a0 : Nat} {a1 : Int32} {M : Mem} {r : Int32} (hp : p_X7_letterHere a0 a1 M = some r) : CT G l yX7_letterHere (wT yX7_letterHere cX7_letterHere 2 (some FieldType.int)) rm_X7_letterHere [.ref a0, .int a1] M (some (.int r)) M 0 0 := by
  refine CT_of (own := RX7) (maxL := 2) (ret := (some FieldType.int)) hG (by decide) rfl (Nat.le_of_ble_eq_true rfl) (fun p e s m below meth c A C0 hr hlk hM ls hl => ?_)
  have hl : lv_has ls 2 [(0, .ref a0), (1, .int a1)] := hl
  generalize ([.ref a0, .int a1] : List Value).toArray = args at C0 ⊢
  skip
  have hx := C0.1
  have hb := C0.2.1
  have hown := C0.2.2.2.1
  have hts := C0.2.2.2.2.1
  unfold p_X7_letterHere at hp
  refine lv_iload_n hx hb dX7_letterHere_0 rfl (lv_at hl 1 rfl) ?_
  refine lv_aload_n hx hb dX7_letterHere_1 rfl (lv_at hl 0 rfl) ?_
  obtain ⟨_, h1, hp⟩ := ob hp
  obtain ⟨v2, hv2, hp⟩ := ob hp
  refine mr_V1 (As := []) (rest := [.int a1]) C0 cbX7 hM h1 rfl (w_X7_tokenLength hG hv2) tw_1356 tw_1358 tws_13 tw_7 tw_1359 yk_X7_tokenLength (by decide) rfl hl.1 (Nat.le_of_ble_eq_true rfl) dX7_letterHere_2 rfl (fun H locs hM => ?_)
  refine lv_icmp_ge (tgt := 22) hx hb dX7_letterHere_5 (by decide) (fun c3 => ?_) (fun c3 => ?_)
  · replace hp := oT c3 hp
    refine lv_iconst (v := 0) hx hb dX7_letterHere_22 (by decide) ?_
    exact mr_iret C0 hr hlk hM rfl (Option.some.inj hp) (Nat.le_refl _) (Nat.le_refl _) dX7_letterHere_23
  · replace hp := oF c3 hp
    refine lv_aload_n hx hb dX7_letterHere_8 rfl (lv_at hl 0 rfl) ?_
    obtain ⟨v4, hv4, hp⟩ := ob hp
    refine mr_getR C0 cbX7 hM 11 (by decide) tw_1235 hv4 dX7_letterHere_9 ?_
    refine lv_aload_n hx hb dX7_letterHere_12 rfl (lv_at hl 0 rfl) ?_
    obtain ⟨v5, hv5, hp⟩ := ob hp
    refine mr_getI C0 cbX7 hM 18 (by decide) tw_1242 hv5 dX7_letterHere_13 ?_
    refine lv_iload_n hx hb dX7_letterHere_16 rfl (lv_at hl 1 rfl) ?_
    refine lv_iadd hx hb dX7_letterHere_17 ?_
    obtain ⟨v6, hv6, hp⟩ := ob hp
    refine mr_iald C0 hM hv6 dX7_letterHere_18 ?_
    refine lv_goto (tgt := 23) hx hb dX7_letterHere_19 (by decide) ?_
    exact mr_iret C0 hr hlk hM rfl (Option.some.inj hp) (Nat.le_refl _) (Nat.le_refl _) dX7_letterHere_23
abbrev rm_X7_isName : Room := { frames := 5, cells := 0, slots := 0, locals := 107 }
def p_X7_isName (a0 : Nat) (M : Mem) : Option (Int32) :=
  (Option.bind (isC 6 M a0) fun _ =>
  (Option.bind (p_X7_isWord a0 0 M) fun v2 =>
  (jn (fun (s3 : Int32) =>
   (Option.bind (gI 6 20 M a0) fun v5 =>
   (if v5 = (1 : Int32) then
    (Option.bind (isC 6 M a0) fun _ =>
    (Option.bind (p_X7_tokenLength a0 M) fun v8 =>
    (if (6 : Int32) < v8 then
     some (0 : Int32)
    else
     (if s3 = 0 then
      some (1 : Int32)
     else
      some (0 : Int32)
     )
    )
    )
    )
   else
    some (0 : Int32)
   )
   )
  ) fun k4 =>
  (if v2 = 0 then
   (Option.bind (isC 6 M a0) fun _ =>
   (Option.bind (p_X7_isWord a0 1 M) fun v13 =>
   (if v13 = 0 then
    (Option.bind (isC 6 M a0) fun _ =>
    (Option.bind (p_X7_isWord a0 2 M) fun v16 =>
    (if v16 = 0 then
     (Option.bind (isC 6 M a0) fun _ =>
     (Option.bind (p_X7_isWord a0 3 M) fun v19 =>
     (if v19 = 0 then
      (Option.bind (isC 6 M a0) fun _ =>
      (Option.bind (p_X7_isWord a0 4 M) fun v22 =>
      (if v22 = 0 then
       (Option.bind (isC 6 M a0) fun _ =>
       (Option.bind (p_X7_isWord a0 5 M) fun v25 =>
       (if v25 = 0 then
        (Option.bind (isC 6 M a0) fun _ =>
        (Option.bind (p_X7_isWord a0 6 M) fun v28 =>
        (if v28 = 0 then
         (Option.bind (isC 6 M a0) fun _ =>
         (Option.bind (p_X7_isWord a0 7 M) fun v31 =>
         (if v31 = 0 then
          (Option.bind (isC 6 M a0) fun _ =>
          (Option.bind (p_X7_isWord a0 8 M) fun v34 =>
          (if v34 = 0 then
           (Option.bind (isC 6 M a0) fun _ =>
           (Option.bind (p_X7_isWord a0 9 M) fun v37 =>
           (if v37 = 0 then
            (Option.bind (isC 6 M a0) fun _ =>
            (Option.bind (p_X7_isWord a0 10 M) fun v40 =>
            (if v40 = 0 then
             (k4 (0 : Int32))
            else
             (k4 (1 : Int32))
            )
            )
            )
           else
            (k4 (1 : Int32))
           )
           )
           )
          else
           (k4 (1 : Int32))
          )
          )
          )
         else
          (k4 (1 : Int32))
         )
         )
         )
        else
         (k4 (1 : Int32))
        )
        )
        )
       else
        (k4 (1 : Int32))
       )
       )
       )
      else
       (k4 (1 : Int32))
      )
      )
      )
     else
      (k4 (1 : Int32))
     )
     )
     )
    else
     (k4 (1 : Int32))
    )
    )
    )
   else
    (k4 (1 : Int32))
   )
   )
   )
  else
   (k4 (1 : Int32))
  )
  )
  )
  )
theorem yk_X7_isName : yok yX7_isName 0 := by decide +kernel
set_option maxHeartbeats 4000000 in
set_option maxRecDepth 100000 in
theorem w_X7_isName {G : gG} (hG : GOK G) {Z : gZ} (hZ : GS G Z) {l : Launch} {a0 : Nat} {M : Mem} {r : Int32} (hp : p_X7_isName a0 M = some r) : CT G l yX7_isName (wT yX7_isName cX7_isName 2 (some FieldType.boolean)) rm_X7_isName [.ref a0] M (some (.int r)) M 0 0 := by
  refine CT_of (own := RX7) (maxL := 2) (ret := (some FieldType.boolean)) hG (by decide) rfl (Nat.le_of_ble_eq_true rfl) (fun p e s m below meth c A C0 hr hlk hM ls hl => ?_)
  have hl : lv_has ls 2 [(0, .ref a0)] := hl
  generalize ([.ref a0] : List Value).toArray = args at C0 ⊢
  skip
  have hx := C0.1
  have hb := C0.2.1
  have hown := C0.2.2.2.1
  have hts := C0.2.2.2.2.1
  unfold p_X7_isName at hp
  refine lv_aload_n hx hb dX7_isName_0 rfl (lv_at hl 0 rfl) ?_
  refine mr_ldcS (i := 0) C0 hZ (by decide +kernel) rfl dX7_isName_1 ?_
  obtain ⟨_, h1, hp⟩ := ob hp
  obtain ⟨v2, hv2, hp⟩ := ob hp
  refine mr_V1 (As := [.ref (Z.1 0)]) (rest := []) C0 cbX7 hM h1 rfl (w_X7_isWord hG hZ hv2) tw_1352 tw_1354 tws_12 tw_7 tw_1355 yk_X7_isWord (by decide) rfl hl.1 (Nat.le_of_ble_eq_true rfl) dX7_isName_3 rfl (fun H locs hM => ?_)
  obtain ⟨k4, ek4, hp⟩ := ojn hp
  have hk4 : ∀ (s3 : Int32) (H : Heap) (locs : List Loc) (ls : Array Slot), mm G A s M H locs → lv_has ls 2 [(0, .ref a0)] → k4 s3 = some r → W p l e rm_X7_isName s m args below meth c H locs 0 0 (MQ below (CQ G M (some (.int r)) A) args s 0 0 A) (F0 m 104 ls [.int s3]) := by
    intro s3 H locs ls hM hl hp
    rw [ek4] at hp
    refine lv_istore_n (lv' := [(1, .int s3), (0, .ref a0)]) hx hb dX7_isName_104 rfl hl (by decide) rfl (fun ls hl => ?_)
    refine lv_aload_n hx hb dX7_isName_105 rfl (lv_at hl 1 rfl) ?_
    obtain ⟨v5, hv5, hp⟩ := ob hp
    refine mr_getI C0 cbX7 hM 20 (by decide) tw_1244 hv5 dX7_isName_106 ?_
    refine lv_iconst (v := 1) hx hb dX7_isName_109 (by decide) ?_
    refine lv_icmp_ne (tgt := 130) hx hb dX7_isName_110 (by decide) (fun c6 => ?_) (fun c6 => ?_)
    · replace hp := oF c6 hp
      refine lv_iconst (v := 0) hx hb dX7_isName_130 (by decide) ?_
      exact mr_zret C0 hr hlk hM rfl (Or.inl rfl) (Option.some.inj hp) (Nat.le_refl _) (Nat.le_refl _) dX7_isName_131
    · replace hp := oT c6 hp
      refine lv_aload_n hx hb dX7_isName_113 rfl (lv_at hl 1 rfl) ?_
      obtain ⟨_, h7, hp⟩ := ob hp
      obtain ⟨v8, hv8, hp⟩ := ob hp
      refine mr_V1 (As := []) (rest := []) C0 cbX7 hM h7 rfl (w_X7_tokenLength hG hv8) tw_1356 tw_1358 tws_13 tw_7 tw_1359 yk_X7_tokenLength (by decide) rfl hl.1 (Nat.le_of_ble_eq_true rfl) dX7_isName_114 rfl (fun H locs hM => ?_)
      refine lv_bipush (v := 6) hx hb dX7_isName_117 (by decide) ?_
      refine lv_icmp_gt (tgt := 130) hx hb dX7_isName_119 (by decide) (fun c9 => ?_) (fun c9 => ?_)
      · replace hp := oT c9 hp
        refine lv_iconst (v := 0) hx hb dX7_isName_130 (by decide) ?_
        exact mr_zret C0 hr hlk hM rfl (Or.inl rfl) (Option.some.inj hp) (Nat.le_refl _) (Nat.le_refl _) dX7_isName_131
      · replace hp := oF c9 hp
        refine lv_iload_n hx hb dX7_isName_122 rfl (lv_at hl 0 rfl) ?_
        refine lv_if_ne (tgt := 130) hx hb dX7_isName_123 (by decide) (fun c10 => ?_) (fun c10 => ?_)
        · replace hp := oF c10 hp
          refine lv_iconst (v := 0) hx hb dX7_isName_130 (by decide) ?_
          exact mr_zret C0 hr hlk hM rfl (Or.inl rfl) (Option.some.inj hp) (Nat.le_refl _) (Nat.le_refl _) dX7_isName_131
        · replace hp := oT c10 hp
          refine lv_iconst (v := 1) hx hb dX7_isName_126 (by decide) ?_
          refine lv_goto (tgt := 131) hx hb dX7_isName_127 (by decide) ?_
          exact mr_zret C0 hr hlk hM rfl (Or.inr rfl) (Option.some.inj hp) (Nat.le_refl _) (Nat.le_refl _) dX7_isName_131
  refine lv_if_ne (tgt := 99) hx hb dX7_isName_6 (by decide) (fun c11 => ?_) (fun c11 => ?_)
  · replace hp := oF c11 hp
    refine lv_iconst (v := 1) hx hb dX7_isName_99 (by decide) ?_
    refine lv_goto (tgt := 104) hx hb dX7_isName_100 (by decide) ?_
    exact hk4 _ _ _ _ hM (lv_sub hl [0] rfl) hp
  · replace hp := oT c11 hp
    refine lv_aload_n hx hb dX7_isName_9 rfl (lv_at hl 0 rfl) ?_
    refine mr_ldcS (i := 1) C0 hZ (by decide +kernel) rfl dX7_isName_10 ?_
    obtain ⟨_, h12, hp⟩ := ob hp
    obtain ⟨v13, hv13, hp⟩ := ob hp
    refine mr_V1 (As := [.ref (Z.1 1)]) (rest := []) C0 cbX7 hM h12 rfl (w_X7_isWord hG hZ hv13) tw_1352 tw_1354 tws_12 tw_7 tw_1355 yk_X7_isWord (by decide) rfl hl.1 (Nat.le_of_ble_eq_true rfl) dX7_isName_12 rfl (fun H locs hM => ?_)
    refine lv_if_ne (tgt := 99) hx hb dX7_isName_15 (by decide) (fun c14 => ?_) (fun c14 => ?_)
    · replace hp := oF c14 hp
      refine lv_iconst (v := 1) hx hb dX7_isName_99 (by decide) ?_
      refine lv_goto (tgt := 104) hx hb dX7_isName_100 (by decide) ?_
      exact hk4 _ _ _ _ hM (lv_sub hl [0] rfl) hp
    · replace hp := oT c14 hp
      refine lv_aload_n hx hb dX7_isName_18 rfl (lv_at hl 0 rfl) ?_
      refine mr_ldcS (i := 2) C0 hZ (by decide +kernel) rfl dX7_isName_19 ?_
      obtain ⟨_, h15, hp⟩ := ob hp
      obtain ⟨v16, hv16, hp⟩ := ob hp
      refine mr_V1 (As := [.ref (Z.1 2)]) (rest := []) C0 cbX7 hM h15 rfl (w_X7_isWord hG hZ hv16) tw_1352 tw_1354 tws_12 tw_7 tw_1355 yk_X7_isWord (by decide) rfl hl.1 (Nat.le_of_ble_eq_true rfl) dX7_isName_21 rfl (fun H locs hM => ?_)
      refine lv_if_ne (tgt := 99) hx hb dX7_isName_24 (by decide) (fun c17 => ?_) (fun c17 => ?_)
      · replace hp := oF c17 hp
        refine lv_iconst (v := 1) hx hb dX7_isName_99 (by decide) ?_
        refine lv_goto (tgt := 104) hx hb dX7_isName_100 (by decide) ?_
        exact hk4 _ _ _ _ hM (lv_sub hl [0] rfl) hp
      · replace hp := oT c17 hp
        refine lv_aload_n hx hb dX7_isName_27 rfl (lv_at hl 0 rfl) ?_
        refine mr_ldcS (i := 3) C0 hZ (by decide +kernel) rfl dX7_isName_28 ?_
        obtain ⟨_, h18, hp⟩ := ob hp
        obtain ⟨v19, hv19, hp⟩ := ob hp
        refine mr_V1 (As := [.ref (Z.1 3)]) (rest := []) C0 cbX7 hM h18 rfl (w_X7_isWord hG hZ hv19) tw_1352 tw_1354 tws_12 tw_7 tw_1355 yk_X7_isWord (by decide) rfl hl.1 (Nat.le_of_ble_eq_true rfl) dX7_isName_30 rfl (fun H locs hM => ?_)
        refine lv_if_ne (tgt := 99) hx hb dX7_isName_33 (by decide) (fun c20 => ?_) (fun c20 => ?_)
        · replace hp := oF c20 hp
          refine lv_iconst (v := 1) hx hb dX7_isName_99 (by decide) ?_
          refine lv_goto (tgt := 104) hx hb dX7_isName_100 (by decide) ?_
          exact hk4 _ _ _ _ hM (lv_sub hl [0] rfl) hp
        · replace hp := oT c20 hp
          refine lv_aload_n hx hb dX7_isName_36 rfl (lv_at hl 0 rfl) ?_
          refine mr_ldcS (i := 4) C0 hZ (by decide +kernel) rfl dX7_isName_37 ?_
          obtain ⟨_, h21, hp⟩ := ob hp
          obtain ⟨v22, hv22, hp⟩ := ob hp
          refine mr_V1 (As := [.ref (Z.1 4)]) (rest := []) C0 cbX7 hM h21 rfl (w_X7_isWord hG hZ hv22) tw_1352 tw_1354 tws_12 tw_7 tw_1355 yk_X7_isWord (by decide) rfl hl.1 (Nat.le_of_ble_eq_true rfl) dX7_isName_39 rfl (fun H locs hM => ?_)
          refine lv_if_ne (tgt := 99) hx hb dX7_isName_42 (by decide) (fun c23 => ?_) (fun c23 => ?_)
          · replace hp := oF c23 hp
            refine lv_iconst (v := 1) hx hb dX7_isName_99 (by decide) ?_
            refine lv_goto (tgt := 104) hx hb dX7_isName_100 (by decide) ?_
            exact hk4 _ _ _ _ hM (lv_sub hl [0] rfl) hp
          · replace hp := oT c23 hp
            refine lv_aload_n hx hb dX7_isName_45 rfl (lv_at hl 0 rfl) ?_
            refine mr_ldcS (i := 5) C0 hZ (by decide +kernel) rfl dX7_isName_46 ?_
            obtain ⟨_, h24, hp⟩ := ob hp
            obtain ⟨v25, hv25, hp⟩ := ob hp
            refine mr_V1 (As := [.ref (Z.1 5)]) (rest := []) C0 cbX7 hM h24 rfl (w_X7_isWord hG hZ hv25) tw_1352 tw_1354 tws_12 tw_7 tw_1355 yk_X7_isWord (by decide) rfl hl.1 (Nat.le_of_ble_eq_true rfl) dX7_isName_48 rfl (fun H locs hM => ?_)
            refine lv_if_ne (tgt := 99) hx hb dX7_isName_51 (by decide) (fun c26 => ?_) (fun c26 => ?_)
            · replace hp := oF c26 hp
              refine lv_iconst (v := 1) hx hb dX7_isName_99 (by decide) ?_
              refine lv_goto (tgt := 104) hx hb dX7_isName_100 (by decide) ?_
              exact hk4 _ _ _ _ hM (lv_sub hl [0] rfl) hp
            · replace hp := oT c26 hp
              refine lv_aload_n hx hb dX7_isName_54 rfl (lv_at hl 0 rfl) ?_
              refine mr_ldcS (i := 6) C0 hZ (by decide +kernel) rfl dX7_isName_55 ?_
              obtain ⟨_, h27, hp⟩ := ob hp
              obtain ⟨v28, hv28, hp⟩ := ob hp
              refine mr_V1 (As := [.ref (Z.1 6)]) (rest := []) C0 cbX7 hM h27 rfl (w_X7_isWord hG hZ hv28) tw_1352 tw_1354 tws_12 tw_7 tw_1355 yk_X7_isWord (by decide) rfl hl.1 (Nat.le_of_ble_eq_true rfl) dX7_isName_57 rfl (fun H locs hM => ?_)
              refine lv_if_ne (tgt := 99) hx hb dX7_isName_60 (by decide) (fun c29 => ?_) (fun c29 => ?_)
              · replace hp := oF c29 hp
                refine lv_iconst (v := 1) hx hb dX7_isName_99 (by decide) ?_
                refine lv_goto (tgt := 104) hx hb dX7_isName_100 (by decide) ?_
                exact hk4 _ _ _ _ hM (lv_sub hl [0] rfl) hp
              · replace hp := oT c29 hp
                refine lv_aload_n hx hb dX7_isName_63 rfl (lv_at hl 0 rfl) ?_
                refine mr_ldcS (i := 7) C0 hZ (by decide +kernel) rfl dX7_isName_64 ?_
                obtain ⟨_, h30, hp⟩ := ob hp
                obtain ⟨v31, hv31, hp⟩ := ob hp
                refine mr_V1 (As := [.ref (Z.1 7)]) (rest := []) C0 cbX7 hM h30 rfl (w_X7_isWord hG hZ hv31) tw_1352 tw_1354 tws_12 tw_7 tw_1355 yk_X7_isWord (by decide) rfl hl.1 (Nat.le_of_ble_eq_true rfl) dX7_isName_66 rfl (fun H locs hM => ?_)
                refine lv_if_ne (tgt := 99) hx hb dX7_isName_69 (by decide) (fun c32 => ?_) (fun c32 => ?_)
                · replace hp := oF c32 hp
                  refine lv_iconst (v := 1) hx hb dX7_isName_99 (by decide) ?_
                  refine lv_goto (tgt := 104) hx hb dX7_isName_100 (by decide) ?_
                  exact hk4 _ _ _ _ hM (lv_sub hl [0] rfl) hp
                · replace hp := oT c32 hp
                  refine lv_aload_n hx hb dX7_isName_72 rfl (lv_at hl 0 rfl) ?_
                  refine mr_ldcS (i := 8) C0 hZ (by decide +kernel) rfl dX7_isName_73 ?_
                  obtain ⟨_, h33, hp⟩ := ob hp
                  obtain ⟨v34, hv34, hp⟩ := ob hp
                  refine mr_V1 (As := [.ref (Z.1 8)]) (rest := []) C0 cbX7 hM h33 rfl (w_X7_isWord hG hZ hv34) tw_1352 tw_1354 tws_12 tw_7 tw_1355 yk_X7_isWord (by decide) rfl hl.1 (Nat.le_of_ble_eq_true rfl) dX7_isName_75 rfl (fun H locs hM => ?_)
                  refine lv_if_ne (tgt := 99) hx hb dX7_isName_78 (by decide) (fun c35 => ?_) (fun c35 => ?_)
                  · replace hp := oF c35 hp
                    refine lv_iconst (v := 1) hx hb dX7_isName_99 (by decide) ?_
                    refine lv_goto (tgt := 104) hx hb dX7_isName_100 (by decide) ?_
                    exact hk4 _ _ _ _ hM (lv_sub hl [0] rfl) hp
                  · replace hp := oT c35 hp
                    refine lv_aload_n hx hb dX7_isName_81 rfl (lv_at hl 0 rfl) ?_
                    refine mr_ldcS (i := 9) C0 hZ (by decide +kernel) rfl dX7_isName_82 ?_
                    obtain ⟨_, h36, hp⟩ := ob hp
                    obtain ⟨v37, hv37, hp⟩ := ob hp
                    refine mr_V1 (As := [.ref (Z.1 9)]) (rest := []) C0 cbX7 hM h36 rfl (w_X7_isWord hG hZ hv37) tw_1352 tw_1354 tws_12 tw_7 tw_1355 yk_X7_isWord (by decide) rfl hl.1 (Nat.le_of_ble_eq_true rfl) dX7_isName_84 rfl (fun H locs hM => ?_)
                    refine lv_if_ne (tgt := 99) hx hb dX7_isName_87 (by decide) (fun c38 => ?_) (fun c38 => ?_)
                    · replace hp := oF c38 hp
                      refine lv_iconst (v := 1) hx hb dX7_isName_99 (by decide) ?_
                      refine lv_goto (tgt := 104) hx hb dX7_isName_100 (by decide) ?_
                      exact hk4 _ _ _ _ hM (lv_sub hl [0] rfl) hp
                    · replace hp := oT c38 hp
                      refine lv_aload_n hx hb dX7_isName_90 rfl (lv_at hl 0 rfl) ?_
                      refine mr_ldcS (i := 10) C0 hZ (by decide +kernel) rfl dX7_isName_91 ?_
                      obtain ⟨_, h39, hp⟩ := ob hp
                      obtain ⟨v40, hv40, hp⟩ := ob hp
                      refine mr_V1 (As := [.ref (Z.1 10)]) (rest := []) C0 cbX7 hM h39 rfl (w_X7_isWord hG hZ hv40) tw_1352 tw_1354 tws_12 tw_7 tw_1355 yk_X7_isWord (by decide) rfl hl.1 (Nat.le_of_ble_eq_true rfl) dX7_isName_93 rfl (fun H locs hM => ?_)
                      refine lv_if_eq (tgt := 103) hx hb dX7_isName_96 (by decide) (fun c41 => ?_) (fun c41 => ?_)
                      · replace hp := oT c41 hp
                        refine lv_iconst (v := 0) hx hb dX7_isName_103 (by decide) ?_
                        exact hk4 _ _ _ _ hM (lv_sub hl [0] rfl) hp
                      · replace hp := oF c41 hp
                        refine lv_iconst (v := 1) hx hb dX7_isName_99 (by decide) ?_
                        refine lv_goto (tgt := 104) hx hb dX7_isName_100 (by decide) ?_
                        exact hk4 _ _ _ _ hM (lv_sub hl [0] rfl) hp
abbrev rm_X7_find : Room := { frames := 2, cells := 0, slots := 0, locals := 41 }
def pl_X7_find_16 (k1 : Int32 → Option (Int32)) (f0 : Nat) (f1 : Int32) (M : Mem) : Nat → Int32 → Int32 → Option (Int32)
  | 0, _, _ => none
  | n + 1, y2, y3 =>
    (if (6 : Int32) ≤ y3 then
     (k1 y2)
    else
     (if y2 = 0 then
      (k1 y2)
     else
      (Option.bind (gR 6 7 M f0) fun v9 =>
      (Option.bind (aI 0 M v9 (((6 : Int32) * f1) + y3)) fun v10 =>
      (Option.bind (isC 6 M f0) fun _ =>
      (Option.bind (p_X7_letterHere f0 y3 M) fun v12 =>
      (if v10 = v12 then
       (pl_X7_find_16 k1 f0 f1 M n (1 : Int32) (y3 + (1 : Int32)))
      else
       (pl_X7_find_16 k1 f0 f1 M n (0 : Int32) (y3 + (1 : Int32)))
      )
      )
      )
      )
      )
     )
    )
set_option maxHeartbeats 4000000 in
set_option maxRecDepth 100000 in
theorem wl_X7_find_16 {G : gG} {p : Program} {l : Launch} {e : Env} {s : State} {m : MethodId} {args : Array Value} {below : List Frame} {meth : Method} {c : Code} {A : Nat → Prop} {r : Int32} {k1 : Int32 → Option (Int32)} {f0 : Nat} {f1 : Int32} {M : Mem} (C0 : cx G p s m args c cX7_find RX7 4 A) (hr : meth.sig.returnType = (some FieldType.int)) (hlk : meth.locks = false) (hG : GOK G) (hk1 : ∀ (z2 : Int32) (H : Heap) (locs : List Loc) (ls : Array Slot), mm G A s M H locs → lv_has ls 4 [(0, .ref f0), (1, .int f1), (2, .int z2)] → k1 z2 = some r → W p l e rm_X7_find s m args below meth c H locs 0 0 (MQ below (CQ G M (some (.int r)) A) args s 0 0 A) (F0 m 57 ls [])) : ∀ (n : Nat) (y2 : Int32) (y3 : Int32) (H : Heap) (locs : List Loc) (ls : Array Slot), mm G A s M H locs → lv_has ls 4 [(0, .ref f0), (1, .int f1), (2, .int y2), (3, .int y3)] → pl_X7_find_16 k1 f0 f1 M n y2 y3 = some r → W p l e rm_X7_find s m args below meth c H locs 0 0 (MQ below (CQ G M (some (.int r)) A) args s 0 0 A) (F0 m 16 ls []) := by
  have hx := C0.1
  have hb := C0.2.1
  have hown := C0.2.2.2.1
  have hts := C0.2.2.2.2.1
  intro n
  induction n with
  | zero => intro y2 y3 H locs ls hM hl hp; rw [pl_X7_find_16] at hp; cases hp
  | succ n ih =>
    intro y2 y3 H locs ls hM hl hp
    rw [pl_X7_find_16] at hp
    refine lv_iload_n hx hb dX7_find_16 rfl (lv_at hl 3 rfl) ?_
    refine lv_bipush (v := 6) hx hb dX7_find_17 (by decide) ?_
    refine lv_icmp_ge (tgt := 57) hx hb dX7_find_19 (by decide) (fun c7 => ?_) (fun c7 => ?_)
    · replace hp := oT c7 hp
      exact hk1 _ _ _ _ hM (lv_sub hl [0, 1, 2] rfl) hp
    · replace hp := oF c7 hp
      refine lv_iload_n hx hb dX7_find_22 rfl (lv_at hl 2 rfl) ?_
      refine lv_if_eq (tgt := 57) hx hb dX7_find_23 (by decide) (fun c8 => ?_) (fun c8 => ?_)
      · replace hp := oT c8 hp
        exact hk1 _ _ _ _ hM (lv_sub hl [0, 1, 2] rfl) hp
      · replace hp := oF c8 hp
        refine lv_aload_n hx hb dX7_find_26 rfl (lv_at hl 0 rfl) ?_
        obtain ⟨v9, hv9, hp⟩ := ob hp
        refine mr_getR C0 cbX7 hM 7 (by decide) tw_1231 hv9 dX7_find_27 ?_
        refine lv_bipush (v := 6) hx hb dX7_find_30 (by decide) ?_
        refine lv_iload_n hx hb dX7_find_32 rfl (lv_at hl 1 rfl) ?_
        refine lv_imul hx hb dX7_find_33 ?_
        refine lv_iload_n hx hb dX7_find_34 rfl (lv_at hl 3 rfl) ?_
        refine lv_iadd hx hb dX7_find_35 ?_
        obtain ⟨v10, hv10, hp⟩ := ob hp
        refine mr_iald C0 hM hv10 dX7_find_36 ?_
        refine lv_aload_n hx hb dX7_find_37 rfl (lv_at hl 0 rfl) ?_
        refine lv_iload_n hx hb dX7_find_38 rfl (lv_at hl 3 rfl) ?_
        obtain ⟨_, h11, hp⟩ := ob hp
        obtain ⟨v12, hv12, hp⟩ := ob hp
        refine mr_V1 (As := [.int y3]) (rest := [.int v10]) C0 cbX7 hM h11 rfl (w_X7_letterHere hG hv12) tw_1392 tw_1394 tws_19 tw_7 tw_1395 yk_X7_letterHere (by decide) rfl hl.1 (Nat.le_of_ble_eq_true rfl) dX7_find_39 rfl (fun H locs hM => ?_)
        refine lv_icmp_ne (tgt := 49) hx hb dX7_find_42 (by decide) (fun c13 => ?_) (fun c13 => ?_)
        · replace hp := oF c13 hp
          refine lv_iconst (v := 0) hx hb dX7_find_49 (by decide) ?_
          refine lv_istore_n (lv' := [(2, .int (0 : Int32)), (0, .ref f0), (1, .int f1), (3, .int y3)]) hx hb dX7_find_50 rfl hl (by decide) rfl (fun ls hl => ?_)
          refine lv_iinc (v := (y3 + (1 : Int32))) (lv' := [(3, .int (y3 + (1 : Int32))), (2, .int (0 : Int32)), (0, .ref f0), (1, .int f1)]) hx hb dX7_find_51 hl (k := 3) rfl rfl (by decide) rfl (fun ls hl => ?_)
          refine lv_goto (tgt := 16) hx hb dX7_find_54 (by decide) ?_
          exact ih _ _ _ _ _ hM (lv_sub hl [2, 3, 1, 0] rfl) hp
        · replace hp := oT c13 hp
          refine lv_iconst (v := 1) hx hb dX7_find_45 (by decide) ?_
          refine lv_goto (tgt := 50) hx hb dX7_find_46 (by decide) ?_
          refine lv_istore_n (lv' := [(2, .int (1 : Int32)), (0, .ref f0), (1, .int f1), (3, .int y3)]) hx hb dX7_find_50 rfl hl (by decide) rfl (fun ls hl => ?_)
          refine lv_iinc (v := (y3 + (1 : Int32))) (lv' := [(3, .int (y3 + (1 : Int32))), (2, .int (1 : Int32)), (0, .ref f0), (1, .int f1)]) hx hb dX7_find_51 hl (k := 3) rfl rfl (by decide) rfl (fun ls hl => ?_)
          refine lv_goto (tgt := 16) hx hb dX7_find_54 (by decide) ?_
          exact ih _ _ _ _ _ hM (lv_sub hl [2, 3, 1, 0] rfl) hp
def pl_X7_find_2 (k1 : Int32 → Option (Int32)) (k2 : Unit → Option (Int32)) (f0 : Nat) (M : Mem) : Nat → Int32 → Option (Int32)
  | 0, _ => none
  | n + 1, y1 =>
    (Option.bind (gR 6 0 M f0) fun v1 =>
    (Option.bind (aI 0 M v1 (0 : Int32)) fun v2 =>
    (if v2 ≤ y1 then
     (k2 ())
    else
     (jn (fun (x4 : Int32) =>
      (if x4 = 0 then
       (pl_X7_find_2 k1 k2 f0 M n (y1 + (1 : Int32)))
      else
       (k1 y1)
      )
     ) fun k5 =>
     (pl_X7_find_16
      (fun (z14 : Int32) =>
       (k5 z14)
      )
      f0 y1 M FU (1 : Int32) (0 : Int32))
     )
    )
    )
    )
set_option maxHeartbeats 4000000 in
set_option maxRecDepth 100000 in
theorem wl_X7_find_2 {G : gG} {p : Program} {l : Launch} {e : Env} {s : State} {m : MethodId} {args : Array Value} {below : List Frame} {meth : Method} {c : Code} {A : Nat → Prop} {r : Int32} {k1 : Int32 → Option (Int32)} {k2 : Unit → Option (Int32)} {f0 : Nat} {M : Mem} (C0 : cx G p s m args c cX7_find RX7 4 A) (hr : meth.sig.returnType = (some FieldType.int)) (hlk : meth.locks = false) (hG : GOK G) (hk1 : ∀ (z1 : Int32) (H : Heap) (locs : List Loc) (ls : Array Slot), mm G A s M H locs → lv_has ls 4 [(1, .int z1)] → k1 z1 = some r → W p l e rm_X7_find s m args below meth c H locs 0 0 (MQ below (CQ G M (some (.int r)) A) args s 0 0 A) (F0 m 61 ls [])) (hk2 : ∀ (H : Heap) (locs : List Loc) (ls : Array Slot), mm G A s M H locs → lv_has ls 4 [] → k2 () = some r → W p l e rm_X7_find s m args below meth c H locs 0 0 (MQ below (CQ G M (some (.int r)) A) args s 0 0 A) (F0 m 69 ls [])) : ∀ (n : Nat) (y1 : Int32) (H : Heap) (locs : List Loc) (ls : Array Slot), mm G A s M H locs → lv_has ls 4 [(0, .ref f0), (1, .int y1)] → pl_X7_find_2 k1 k2 f0 M n y1 = some r → W p l e rm_X7_find s m args below meth c H locs 0 0 (MQ below (CQ G M (some (.int r)) A) args s 0 0 A) (F0 m 2 ls []) := by
  have hx := C0.1
  have hb := C0.2.1
  have hown := C0.2.2.2.1
  have hts := C0.2.2.2.2.1
  intro n
  induction n with
  | zero => intro y1 H locs ls hM hl hp; rw [pl_X7_find_2] at hp; cases hp
  | succ n ih =>
    intro y1 H locs ls hM hl hp
    rw [pl_X7_find_2] at hp
    refine lv_iload_n hx hb dX7_find_2 rfl (lv_at hl 1 rfl) ?_
    refine lv_aload_n hx hb dX7_find_3 rfl (lv_at hl 0 rfl) ?_
    obtain ⟨v1, hv1, hp⟩ := ob hp
    refine mr_getR C0 cbX7 hM 0 (by decide) tw_1224 hv1 dX7_find_4 ?_
    refine lv_iconst (v := 0) hx hb dX7_find_7 (by decide) ?_
    obtain ⟨v2, hv2, hp⟩ := ob hp
    refine mr_iald C0 hM hv2 dX7_find_8 ?_
    refine lv_icmp_ge (tgt := 69) hx hb dX7_find_9 (by decide) (fun c3 => ?_) (fun c3 => ?_)
    · replace hp := oT c3 hp
      exact hk2  _ _ _ hM (lv_sub hl [] rfl) hp
    · replace hp := oF c3 hp
      refine lv_iconst (v := 1) hx hb dX7_find_12 (by decide) ?_
      refine lv_istore_n (lv' := [(2, .int (1 : Int32)), (0, .ref f0), (1, .int y1)]) hx hb dX7_find_13 rfl hl (by decide) rfl (fun ls hl => ?_)
      refine lv_iconst (v := 0) hx hb dX7_find_14 (by decide) ?_
      refine lv_istore_n (lv' := [(3, .int (0 : Int32)), (2, .int (1 : Int32)), (0, .ref f0), (1, .int y1)]) hx hb dX7_find_15 rfl hl (by decide) rfl (fun ls hl => ?_)
      obtain ⟨k5, ek5, hp⟩ := ojn hp
      have hk5 : ∀ (x4 : Int32) (H : Heap) (locs : List Loc) (ls : Array Slot), mm G A s M H locs → lv_has ls 4 [(0, .ref f0), (1, .int y1), (2, .int x4)] → k5 x4 = some r → W p l e rm_X7_find s m args below meth c H locs 0 0 (MQ below (CQ G M (some (.int r)) A) args s 0 0 A) (F0 m 57 ls []) := by
        intro x4 H locs ls hM hl hp
        rw [ek5] at hp
        refine lv_iload_n hx hb dX7_find_57 rfl (lv_at hl 2 rfl) ?_
        refine lv_if_eq (tgt := 63) hx hb dX7_find_58 (by decide) (fun c6 => ?_) (fun c6 => ?_)
        · replace hp := oT c6 hp
          refine lv_iinc (v := (y1 + (1 : Int32))) (lv' := [(1, .int (y1 + (1 : Int32))), (0, .ref f0), (2, .int x4)]) hx hb dX7_find_63 hl (k := 1) rfl rfl (by decide) rfl (fun ls hl => ?_)
          refine lv_goto (tgt := 2) hx hb dX7_find_66 (by decide) ?_
          exact ih _ _ _ _ hM (lv_sub hl [1, 0] rfl) hp
        · replace hp := oF c6 hp
          exact hk1 _ _ _ _ hM (lv_sub hl [1] rfl) hp
      refine wl_X7_find_16 C0 hr hlk hG (fun z14 H locs ls hM hl hp => ?_) FU _ _ _ _ _ hM (lv_sub hl [2, 3, 1, 0] rfl) hp
      exact hk5 _ _ _ _ hM (lv_sub hl [0, 1, 2] rfl) hp
def p_X7_find (a0 : Nat) (M : Mem) : Option (Int32) :=
  (pl_X7_find_2
   (fun (z15 : Int32) =>
    some z15
   )
   (fun (_ : Unit) =>
    some (-1 : Int32)
   )
   a0 M FU (0 : Int32))
theorem yk_X7_find : yok yX7_find 0 := by decide +kernel
set_option maxHeartbeats 4000000 in
set_option maxRecDepth 100000 in
theorem w_X7_find {G : gG} (hG : GOK G) {l : Launch} {a0 : Nat} {M : Mem} {r : Int32} (hp : p_X7_find a0 M = some r) : CT G l yX7_find (wT yX7_find cX7_find 4 (some FieldType.int)) rm_X7_find [.ref a0] M (some (.int r)) M 0 0 := by
  refine CT_of (own := RX7) (maxL := 4) (ret := (some FieldType.int)) hG (by decide) rfl (Nat.le_of_ble_eq_true rfl) (fun p e s m below meth c A C0 hr hlk hM ls hl => ?_)
  have hl : lv_has ls 4 [(0, .ref a0)] := hl
  generalize ([.ref a0] : List Value).toArray = args at C0 ⊢
  skip
  have hx := C0.1
  have hb := C0.2.1
  have hown := C0.2.2.2.1
  have hts := C0.2.2.2.2.1
  unfold p_X7_find at hp
  refine lv_iconst (v := 0) hx hb dX7_find_0 (by decide) ?_
  refine lv_istore_n (lv' := [(1, .int (0 : Int32)), (0, .ref a0)]) hx hb dX7_find_1 rfl hl (by decide) rfl (fun ls hl => ?_)
  refine wl_X7_find_2 C0 hr hlk hG (fun z15 H locs ls hM hl hp => ?_) (fun  H locs ls hM hl hp => ?_) FU _ _ _ _ hM (lv_sub hl [1, 0] rfl) hp
  · refine lv_iload_n hx hb dX7_find_61 rfl (lv_at hl 0 rfl) ?_
    exact mr_iret C0 hr hlk hM rfl (Option.some.inj hp) (Nat.le_refl _) (Nat.le_refl _) dX7_find_62
  · refine lv_iconst (v := -1) hx hb dX7_find_69 (by decide) ?_
    exact mr_iret C0 hr hlk hM rfl (Option.some.inj hp) (Nat.le_refl _) (Nat.le_refl _) dX7_find_70
abbrev rm_X7_ruleHere : Room := { frames := 5, cells := 0, slots := 0, locals := 107 }
def p_X7_ruleHere (a0 : Nat) (M : Mem) : Option (Int32) :=
  (Option.bind (isC 6 M a0) fun _ =>
  (Option.bind (p_X7_isWord a0 7 M) fun v2 =>
  (if v2 = 0 then
   (Option.bind (isC 6 M a0) fun _ =>
   (Option.bind (p_X7_isWord a0 8 M) fun v5 =>
   (if v5 = 0 then
    (Option.bind (isC 6 M a0) fun _ =>
    (Option.bind (p_X7_isWord a0 1 M) fun v8 =>
    (if v8 = 0 then
     some (-1 : Int32)
    else
     some (2 : Int32)
    )
    )
    )
   else
    some (1 : Int32)
   )
   )
   )
  else
   some (0 : Int32)
  )
  )
  )
theorem yk_X7_ruleHere : yok yX7_ruleHere 0 := by decide +kernel
set_option maxHeartbeats 4000000 in
set_option maxRecDepth 100000 in
theorem w_X7_ruleHere {G : gG} (hG : GOK G) {Z : gZ} (hZ : GS G Z) {l : Launch} {a0 : Nat} {M : Mem} {r : Int32} (hp : p_X7_ruleHere a0 M = some r) : CT G l yX7_ruleHere (wT yX7_ruleHere cX7_ruleHere 1 (some FieldType.int)) rm_X7_ruleHere [.ref a0] M (some (.int r)) M 0 0 := by
  refine CT_of (own := RX7) (maxL := 1) (ret := (some FieldType.int)) hG (by decide) rfl (Nat.le_of_ble_eq_true rfl) (fun p e s m below meth c A C0 hr hlk hM ls hl => ?_)
  have hl : lv_has ls 1 [(0, .ref a0)] := hl
  generalize ([.ref a0] : List Value).toArray = args at C0 ⊢
  skip
  have hx := C0.1
  have hb := C0.2.1
  have hown := C0.2.2.2.1
  have hts := C0.2.2.2.2.1
  unfold p_X7_ruleHere at hp
  refine lv_aload_n hx hb dX7_ruleHere_0 rfl (lv_at hl 0 rfl) ?_
  refine mr_ldcS (i := 7) C0 hZ (by decide +kernel) rfl dX7_ruleHere_1 ?_
  obtain ⟨_, h1, hp⟩ := ob hp
  obtain ⟨v2, hv2, hp⟩ := ob hp
  refine mr_V1 (As := [.ref (Z.1 7)]) (rest := []) C0 cbX7 hM h1 rfl (w_X7_isWord hG hZ hv2) tw_1352 tw_1354 tws_12 tw_7 tw_1355 yk_X7_isWord (by decide) rfl hl.1 (Nat.le_of_ble_eq_true rfl) dX7_ruleHere_3 rfl (fun H locs hM => ?_)
  refine lv_if_eq (tgt := 13) hx hb dX7_ruleHere_6 (by decide) (fun c3 => ?_) (fun c3 => ?_)
  · replace hp := oT c3 hp
    refine lv_aload_n hx hb dX7_ruleHere_13 rfl (lv_at hl 0 rfl) ?_
    refine mr_ldcS (i := 8) C0 hZ (by decide +kernel) rfl dX7_ruleHere_14 ?_
    obtain ⟨_, h4, hp⟩ := ob hp
    obtain ⟨v5, hv5, hp⟩ := ob hp
    refine mr_V1 (As := [.ref (Z.1 8)]) (rest := []) C0 cbX7 hM h4 rfl (w_X7_isWord hG hZ hv5) tw_1352 tw_1354 tws_12 tw_7 tw_1355 yk_X7_isWord (by decide) rfl hl.1 (Nat.le_of_ble_eq_true rfl) dX7_ruleHere_16 rfl (fun H locs hM => ?_)
    refine lv_if_eq (tgt := 26) hx hb dX7_ruleHere_19 (by decide) (fun c6 => ?_) (fun c6 => ?_)
    · replace hp := oT c6 hp
      refine lv_aload_n hx hb dX7_ruleHere_26 rfl (lv_at hl 0 rfl) ?_
      refine mr_ldcS (i := 1) C0 hZ (by decide +kernel) rfl dX7_ruleHere_27 ?_
      obtain ⟨_, h7, hp⟩ := ob hp
      obtain ⟨v8, hv8, hp⟩ := ob hp
      refine mr_V1 (As := [.ref (Z.1 1)]) (rest := []) C0 cbX7 hM h7 rfl (w_X7_isWord hG hZ hv8) tw_1352 tw_1354 tws_12 tw_7 tw_1355 yk_X7_isWord (by decide) rfl hl.1 (Nat.le_of_ble_eq_true rfl) dX7_ruleHere_29 rfl (fun H locs hM => ?_)
      refine lv_if_eq (tgt := 39) hx hb dX7_ruleHere_32 (by decide) (fun c9 => ?_) (fun c9 => ?_)
      · replace hp := oT c9 hp
        refine lv_iconst (v := -1) hx hb dX7_ruleHere_39 (by decide) ?_
        exact mr_iret C0 hr hlk hM rfl (Option.some.inj hp) (Nat.le_refl _) (Nat.le_refl _) dX7_ruleHere_40
      · replace hp := oF c9 hp
        refine lv_iconst (v := 2) hx hb dX7_ruleHere_35 (by decide) ?_
        refine lv_goto (tgt := 40) hx hb dX7_ruleHere_36 (by decide) ?_
        exact mr_iret C0 hr hlk hM rfl (Option.some.inj hp) (Nat.le_refl _) (Nat.le_refl _) dX7_ruleHere_40
    · replace hp := oF c6 hp
      refine lv_iconst (v := 1) hx hb dX7_ruleHere_22 (by decide) ?_
      refine lv_goto (tgt := 40) hx hb dX7_ruleHere_23 (by decide) ?_
      exact mr_iret C0 hr hlk hM rfl (Option.some.inj hp) (Nat.le_refl _) (Nat.le_refl _) dX7_ruleHere_40
  · replace hp := oF c3 hp
    refine lv_iconst (v := 0) hx hb dX7_ruleHere_9 (by decide) ?_
    refine lv_goto (tgt := 40) hx hb dX7_ruleHere_10 (by decide) ?_
    exact mr_iret C0 hr hlk hM rfl (Option.some.inj hp) (Nat.le_refl _) (Nat.le_refl _) dX7_ruleHere_40
abbrev rm_X7_readRules : Room := { frames := 6, cells := 0, slots := 0, locals := 127 }
def pl_X7_readRules_12 (k1 : Unit → Option (Int32 × Mem)) (k2 : Unit → Option (Int32 × Mem)) (f0 : Nat) (f1 : Int32) (f2 : Int32) (M : Mem) : Nat → Int32 → Option (Int32 × Mem)
  | 0, _ => none
  | n + 1, y3 =>
    (Option.bind (gR 6 0 M f0) fun v4 =>
    (Option.bind (aI 0 M v4 ((44 : Int32) + f1)) fun v5 =>
    (if v5 ≤ y3 then
     (k2 ())
    else
     (Option.bind (gR 6 0 M f0) fun v7 =>
     (Option.bind (aI 0 M v7 (((68 : Int32) + ((3 : Int32) * f1)) + y3)) fun v8 =>
     (if v8 = f2 then
      (k1 ())
     else
      (pl_X7_readRules_12 k1 k2 f0 f1 f2 M n (y3 + (1 : Int32)))
     )
     )
     )
    )
    )
    )
set_option maxHeartbeats 4000000 in
set_option maxRecDepth 100000 in
theorem wl_X7_readRules_12 {G : gG} {p : Program} {l : Launch} {e : Env} {s : State} {m : MethodId} {args : Array Value} {below : List Frame} {meth : Method} {c : Code} {A : Nat → Prop} {Z : gZ} {r : Int32} {M' : Mem} {k1 : Unit → Option (Int32 × Mem)} {k2 : Unit → Option (Int32 × Mem)} {f0 : Nat} {f1 : Int32} {f2 : Int32} {M : Mem} (C0 : cx G p s m args c cX7_readRules RX7 4 A) (hr : meth.sig.returnType = (some FieldType.boolean)) (hlk : meth.locks = false) (hG : GOK G) (hZ : GS G Z) (hk1 : ∀ (H : Heap) (locs : List Loc) (ls : Array Slot), mm G A s M H locs → lv_has ls 4 [(0, .ref f0)] → k1 () = some (r, M') → W p l e rm_X7_readRules s m args below meth c H locs 0 0 (MQ below (CQ G M' (some (.int r)) A) args s 0 0 A) (F0 m 42 ls [])) (hk2 : ∀ (H : Heap) (locs : List Loc) (ls : Array Slot), mm G A s M H locs → lv_has ls 4 [(0, .ref f0), (1, .int f1), (2, .int f2)] → k2 () = some (r, M') → W p l e rm_X7_readRules s m args below meth c H locs 0 0 (MQ below (CQ G M' (some (.int r)) A) args s 0 0 A) (F0 m 54 ls [])) : ∀ (n : Nat) (y3 : Int32) (H : Heap) (locs : List Loc) (ls : Array Slot), mm G A s M H locs → lv_has ls 4 [(0, .ref f0), (1, .int f1), (2, .int f2), (3, .int y3)] → pl_X7_readRules_12 k1 k2 f0 f1 f2 M n y3 = some (r, M') → W p l e rm_X7_readRules s m args below meth c H locs 0 0 (MQ below (CQ G M' (some (.int r)) A) args s 0 0 A) (F0 m 12 ls []) := by
  have hx := C0.1
  have hb := C0.2.1
  have hown := C0.2.2.2.1
  have hts := C0.2.2.2.2.1
  intro n
  induction n with
  | zero => intro y3 H locs ls hM hl hp; rw [pl_X7_readRules_12] at hp; cases hp
  | succ n ih =>
    intro y3 H locs ls hM hl hp
    rw [pl_X7_readRules_12] at hp
    refine lv_iload_n hx hb dX7_readRules_12 rfl (lv_at hl 3 rfl) ?_
    refine lv_aload_n hx hb dX7_readRules_13 rfl (lv_at hl 0 rfl) ?_
    obtain ⟨v4, hv4, hp⟩ := ob hp
    refine mr_getR C0 cbX7 hM 0 (by decide) tw_1224 hv4 dX7_readRules_14 ?_
    refine lv_bipush (v := 44) hx hb dX7_readRules_17 (by decide) ?_
    refine lv_iload_n hx hb dX7_readRules_19 rfl (lv_at hl 1 rfl) ?_
    refine lv_iadd hx hb dX7_readRules_20 ?_
    obtain ⟨v5, hv5, hp⟩ := ob hp
    refine mr_iald C0 hM hv5 dX7_readRules_21 ?_
    refine lv_icmp_ge (tgt := 54) hx hb dX7_readRules_22 (by decide) (fun c6 => ?_) (fun c6 => ?_)
    · replace hp := oT c6 hp
      exact hk2  _ _ _ hM (lv_sub hl [0, 1, 2] rfl) hp
    · replace hp := oF c6 hp
      refine lv_aload_n hx hb dX7_readRules_25 rfl (lv_at hl 0 rfl) ?_
      obtain ⟨v7, hv7, hp⟩ := ob hp
      refine mr_getR C0 cbX7 hM 0 (by decide) tw_1224 hv7 dX7_readRules_26 ?_
      refine lv_bipush (v := 68) hx hb dX7_readRules_29 (by decide) ?_
      refine lv_iconst (v := 3) hx hb dX7_readRules_31 (by decide) ?_
      refine lv_iload_n hx hb dX7_readRules_32 rfl (lv_at hl 1 rfl) ?_
      refine lv_imul hx hb dX7_readRules_33 ?_
      refine lv_iadd hx hb dX7_readRules_34 ?_
      refine lv_iload_n hx hb dX7_readRules_35 rfl (lv_at hl 3 rfl) ?_
      refine lv_iadd hx hb dX7_readRules_36 ?_
      obtain ⟨v8, hv8, hp⟩ := ob hp
      refine mr_iald C0 hM hv8 dX7_readRules_37 ?_
      refine lv_iload_n hx hb dX7_readRules_38 rfl (lv_at hl 2 rfl) ?_
      refine lv_icmp_ne (tgt := 48) hx hb dX7_readRules_39 (by decide) (fun c9 => ?_) (fun c9 => ?_)
      · replace hp := oF c9 hp
        refine lv_iinc (v := (y3 + (1 : Int32))) (lv' := [(3, .int (y3 + (1 : Int32))), (0, .ref f0), (1, .int f1), (2, .int f2)]) hx hb dX7_readRules_48 hl (k := 3) rfl rfl (by decide) rfl (fun ls hl => ?_)
        refine lv_goto (tgt := 12) hx hb dX7_readRules_51 (by decide) ?_
        exact ih _ _ _ _ hM (lv_sub hl [1, 2, 3, 0] rfl) hp
      · replace hp := oT c9 hp
        exact hk1  _ _ _ hM (lv_sub hl [0] rfl) hp
def pl_X7_readRules_5 (k1 : Mem → Option (Int32 × Mem)) (k2 : Mem → Option (Int32 × Mem)) (f0 : Nat) (f1 : Int32) : Nat → Int32 → Mem → Option (Int32 × Mem)
  | 0, _, _ => none
  | n + 1, y2, M =>
    (if y2 = (-1 : Int32) then
     (k2  M)
    else
     (pl_X7_readRules_12
      (fun (_ : Unit) =>
       (k1  M)
      )
      (fun (_ : Unit) =>
       (Option.bind (gR 6 0 M f0) fun v10 =>
       (Option.bind (gR 6 0 M f0) fun v11 =>
       (Option.bind (aI 0 M v11 ((44 : Int32) + f1)) fun v12 =>
       (Option.bind (aIs M v10 (((68 : Int32) + ((3 : Int32) * f1)) + v12) y2) fun M13 =>
       (Option.bind (gR 6 0 M13 f0) fun v14 =>
       (Option.bind (aI 0 M13 v14 ((44 : Int32) + f1)) fun v15 =>
       (Option.bind (aIs M13 v14 ((44 : Int32) + f1) (v15 + (1 : Int32))) fun M16 =>
       (Option.bind (isC 6 M16 f0) fun _ =>
       (Option.bind (p_X7_advanceToken f0 M16) fun M18 =>
       (Option.bind (isC 6 M18 f0) fun _ =>
       (Option.bind (p_X7_ruleHere f0 M18) fun v20 =>
       (pl_X7_readRules_5 k1 k2 f0 f1 n v20 M18)
       )
       )
       )
       )
       )
       )
       )
       )
       )
       )
       )
      )
      f0 f1 y2 M FU (0 : Int32))
    )
set_option maxHeartbeats 4000000 in
set_option maxRecDepth 100000 in
theorem wl_X7_readRules_5 {G : gG} {p : Program} {l : Launch} {e : Env} {s : State} {m : MethodId} {args : Array Value} {below : List Frame} {meth : Method} {c : Code} {A : Nat → Prop} {Z : gZ} {r : Int32} {M' : Mem} {k1 : Mem → Option (Int32 × Mem)} {k2 : Mem → Option (Int32 × Mem)} {f0 : Nat} {f1 : Int32} (C0 : cx G p s m args c cX7_readRules RX7 4 A) (hr : meth.sig.returnType = (some FieldType.boolean)) (hlk : meth.locks = false) (hG : GOK G) (hZ : GS G Z) (hk1 : ∀ (M : Mem) (H : Heap) (locs : List Loc) (ls : Array Slot), mm G A s M H locs → lv_has ls 4 [(0, .ref f0)] → k1 M = some (r, M') → W p l e rm_X7_readRules s m args below meth c H locs 0 0 (MQ below (CQ G M' (some (.int r)) A) args s 0 0 A) (F0 m 42 ls [])) (hk2 : ∀ (M : Mem) (H : Heap) (locs : List Loc) (ls : Array Slot), mm G A s M H locs → lv_has ls 4 [] → k2 M = some (r, M') → W p l e rm_X7_readRules s m args below meth c H locs 0 0 (MQ below (CQ G M' (some (.int r)) A) args s 0 0 A) (F0 m 101 ls [])) : ∀ (n : Nat) (y2 : Int32) (M : Mem) (H : Heap) (locs : List Loc) (ls : Array Slot), mm G A s M H locs → lv_has ls 4 [(0, .ref f0), (1, .int f1), (2, .int y2)] → pl_X7_readRules_5 k1 k2 f0 f1 n y2 M = some (r, M') → W p l e rm_X7_readRules s m args below meth c H locs 0 0 (MQ below (CQ G M' (some (.int r)) A) args s 0 0 A) (F0 m 5 ls []) := by
  have hx := C0.1
  have hb := C0.2.1
  have hown := C0.2.2.2.1
  have hts := C0.2.2.2.2.1
  intro n
  induction n with
  | zero => intro y2 M H locs ls hM hl hp; rw [pl_X7_readRules_5] at hp; cases hp
  | succ n ih =>
    intro y2 M H locs ls hM hl hp
    rw [pl_X7_readRules_5] at hp
    refine lv_iload_n hx hb dX7_readRules_5 rfl (lv_at hl 2 rfl) ?_
    refine lv_iconst (v := -1) hx hb dX7_readRules_6 (by decide) ?_
    refine lv_icmp_eq (tgt := 101) hx hb dX7_readRules_7 (by decide) (fun c3 => ?_) (fun c3 => ?_)
    · replace hp := oT c3 hp
      exact hk2  _ _ _ _ hM (lv_sub hl [] rfl) hp
    · replace hp := oF c3 hp
      refine lv_iconst (v := 0) hx hb dX7_readRules_10 (by decide) ?_
      refine lv_istore_n (lv' := [(3, .int (0 : Int32)), (0, .ref f0), (1, .int f1), (2, .int y2)]) hx hb dX7_readRules_11 rfl hl (by decide) rfl (fun ls hl => ?_)
      refine wl_X7_readRules_12 C0 hr hlk hG hZ (fun  H locs ls hM hl hp => ?_) (fun  H locs ls hM hl hp => ?_) FU _ _ _ _ hM (lv_sub hl [1, 2, 3, 0] rfl) hp
      · exact hk1  _ _ _ _ hM (lv_sub hl [0] rfl) hp
      · refine lv_aload_n hx hb dX7_readRules_54 rfl (lv_at hl 0 rfl) ?_
        obtain ⟨v10, hv10, hp⟩ := ob hp
        refine mr_getR C0 cbX7 hM 0 (by decide) tw_1224 hv10 dX7_readRules_55 ?_
        refine lv_bipush (v := 68) hx hb dX7_readRules_58 (by decide) ?_
        refine lv_iconst (v := 3) hx hb dX7_readRules_60 (by decide) ?_
        refine lv_iload_n hx hb dX7_readRules_61 rfl (lv_at hl 1 rfl) ?_
        refine lv_imul hx hb dX7_readRules_62 ?_
        refine lv_iadd hx hb dX7_readRules_63 ?_
        refine lv_aload_n hx hb dX7_readRules_64 rfl (lv_at hl 0 rfl) ?_
        obtain ⟨v11, hv11, hp⟩ := ob hp
        refine mr_getR C0 cbX7 hM 0 (by decide) tw_1224 hv11 dX7_readRules_65 ?_
        refine lv_bipush (v := 44) hx hb dX7_readRules_68 (by decide) ?_
        refine lv_iload_n hx hb dX7_readRules_70 rfl (lv_at hl 1 rfl) ?_
        refine lv_iadd hx hb dX7_readRules_71 ?_
        obtain ⟨v12, hv12, hp⟩ := ob hp
        refine mr_iald C0 hM hv12 dX7_readRules_72 ?_
        refine lv_iadd hx hb dX7_readRules_73 ?_
        refine lv_iload_n hx hb dX7_readRules_74 rfl (lv_at hl 2 rfl) ?_
        obtain ⟨M13, hM13, hp⟩ := ob hp
        refine mr_iast C0 hM hM13 dX7_readRules_75 (fun H locs hM => ?_)
        refine lv_aload_n hx hb dX7_readRules_76 rfl (lv_at hl 0 rfl) ?_
        obtain ⟨v14, hv14, hp⟩ := ob hp
        refine mr_getR C0 cbX7 hM 0 (by decide) tw_1224 hv14 dX7_readRules_77 ?_
        refine lv_bipush (v := 44) hx hb dX7_readRules_80 (by decide) ?_
        refine lv_iload_n hx hb dX7_readRules_82 rfl (lv_at hl 1 rfl) ?_
        refine lv_iadd hx hb dX7_readRules_83 ?_
        refine lv_dup2_11 hx hb dX7_readRules_84 rfl rfl ?_
        obtain ⟨v15, hv15, hp⟩ := ob hp
        refine mr_iald C0 hM hv15 dX7_readRules_85 ?_
        refine lv_iconst (v := 1) hx hb dX7_readRules_86 (by decide) ?_
        refine lv_iadd hx hb dX7_readRules_87 ?_
        obtain ⟨M16, hM16, hp⟩ := ob hp
        refine mr_iast C0 hM hM16 dX7_readRules_88 (fun H locs hM => ?_)
        refine lv_aload_n hx hb dX7_readRules_89 rfl (lv_at hl 0 rfl) ?_
        obtain ⟨_, h17, hp⟩ := ob hp
        obtain ⟨M18, hM18, hp⟩ := ob hp
        refine mr_V0 (As := []) (rest := []) C0 cbX7 hM h17 rfl (w_X7_advanceToken hG hM18) tw_1335 tw_1337 tws_8 tw_7 tw_1338 yk_X7_advanceToken (by decide) rfl hl.1 (Nat.le_of_ble_eq_true rfl) dX7_readRules_90 rfl (fun H locs hM => ?_)
        refine lv_aload_n hx hb dX7_readRules_93 rfl (lv_at hl 0 rfl) ?_
        obtain ⟨_, h19, hp⟩ := ob hp
        obtain ⟨v20, hv20, hp⟩ := ob hp
        refine mr_V1 (As := []) (rest := []) C0 cbX7 hM h19 rfl (w_X7_ruleHere hG hZ hv20) tw_1404 tw_1406 tws_22 tw_7 tw_1407 yk_X7_ruleHere (by decide) rfl hl.1 (Nat.le_of_ble_eq_true rfl) dX7_readRules_94 rfl (fun H locs hM => ?_)
        refine lv_istore_n (lv' := [(2, .int v20), (0, .ref f0), (1, .int f1)]) hx hb dX7_readRules_97 rfl hl (by decide) rfl (fun ls hl => ?_)
        refine lv_goto (tgt := 5) hx hb dX7_readRules_98 (by decide) ?_
        exact ih _ _ _ _ _ hM (lv_sub hl [1, 2, 0] rfl) hp
def p_X7_readRules (a0 : Nat) (a1 : Int32) (M : Mem) : Option (Int32 × Mem) :=
  (Option.bind (isC 6 M a0) fun _ =>
  (Option.bind (p_X7_ruleHere a0 M) fun v2 =>
  (pl_X7_readRules_5
   (fun  (M21 : Mem) =>
    (Option.bind (isC 6 M21 a0) fun _ =>
    (ob2 (p_X7_failsAt a0 (1 : Int32) M21) fun v23 M24 =>
    (if v23 = 0 ∨ v23 = 1 then some (v23, M24) else none)
    )
    )
   )
   (fun  (M25 : Mem) =>
    some ((1 : Int32), M25)
   )
   a0 a1 FU v2 M)
  )
  )
theorem yk_X7_readRules : yok yX7_readRules 1 := by decide +kernel
set_option maxHeartbeats 4000000 in
set_option maxRecDepth 100000 in
theorem w_X7_readRules {G : gG} (hG : GOK G) {Z : gZ} (hZ : GS G Z) {l : Launch} {a0 : Nat} {a1 : Int32} {M : Mem} {r : Int32} {M' : Mem} (hp : p_X7_readRules a0 a1 M = some (r, M')) : CT G l yX7_readRules (wT yX7_readRules cX7_readRules 4 (some FieldType.boolean)) rm_X7_readRules [.ref a0, .int a1] M (some (.int r)) M' 0 0 := by
  refine CT_of (own := RX7) (maxL := 4) (ret := (some FieldType.boolean)) hG (by decide) rfl (Nat.le_of_ble_eq_true rfl) (fun p e s m below meth c A C0 hr hlk hM ls hl => ?_)
  have hl : lv_has ls 4 [(0, .ref a0), (1, .int a1)] := hl
  generalize ([.ref a0, .int a1] : List Value).toArray = args at C0 ⊢
  skip
  have hx := C0.1
  have hb := C0.2.1
  have hown := C0.2.2.2.1
  have hts := C0.2.2.2.2.1
  unfold p_X7_readRules at hp
  refine lv_aload_n hx hb dX7_readRules_0 rfl (lv_at hl 0 rfl) ?_
  obtain ⟨_, h1, hp⟩ := ob hp
  obtain ⟨v2, hv2, hp⟩ := ob hp
  refine mr_V1 (As := []) (rest := []) C0 cbX7 hM h1 rfl (w_X7_ruleHere hG hZ hv2) tw_1404 tw_1406 tws_22 tw_7 tw_1407 yk_X7_ruleHere (by decide) rfl hl.1 (Nat.le_of_ble_eq_true rfl) dX7_readRules_1 rfl (fun H locs hM => ?_)
  refine lv_istore_n (lv' := [(2, .int v2), (0, .ref a0), (1, .int a1)]) hx hb dX7_readRules_4 rfl hl (by decide) rfl (fun ls hl => ?_)
  refine wl_X7_readRules_5 C0 hr hlk hG hZ (fun M21 H locs ls hM hl hp => ?_) (fun M25 H locs ls hM hl hp => ?_) FU _ _ _ _ _ hM (lv_sub hl [1, 2, 0] rfl) hp
  · refine lv_aload_n hx hb dX7_readRules_42 rfl (lv_at hl 0 rfl) ?_
    refine lv_iconst (v := 1) hx hb dX7_readRules_43 (by decide) ?_
    obtain ⟨_, h22, hp⟩ := ob hp
    obtain ⟨v23, M24, hv23, hp⟩ := ob3 hp
    refine mr_V1 (As := [.int (1 : Int32)]) (rest := []) C0 cbX7 hM h22 rfl (w_X7_failsAt hG hv23) tw_1370 tw_1372 tws_16 tw_7 tw_1373 yk_X7_failsAt (by decide) rfl hl.1 (Nat.le_of_ble_eq_true rfl) dX7_readRules_44 rfl (fun H locs hM => ?_)
    obtain ⟨hz, hp⟩ := oG hp
    exact mr_zret C0 hr hlk hM (Prod.mk.inj (Option.some.inj hp)).2 hz (Prod.mk.inj (Option.some.inj hp)).1 (Nat.le_refl _) (Nat.le_refl _) dX7_readRules_47
  · refine lv_iconst (v := 1) hx hb dX7_readRules_101 (by decide) ?_
    exact mr_zret C0 hr hlk hM (Prod.mk.inj (Option.some.inj hp)).2 (Or.inr rfl) (Prod.mk.inj (Option.some.inj hp)).1 (Nat.le_refl _) (Nat.le_refl _) dX7_readRules_102
abbrev rm_X7_readSchool : Room := { frames := 7, cells := 0, slots := 0, locals := 150 }
def pl_X7_readSchool_56 (k1 : Mem → Option (Int32 × Mem)) (f0 : Nat) (f1 : Int32) : Nat → Int32 → Mem → Option (Int32 × Mem)
  | 0, _, _ => none
  | n + 1, y2, M =>
    (if (6 : Int32) ≤ y2 then
     (k1  M)
    else
     (Option.bind (gR 6 7 M f0) fun v16 =>
     (Option.bind (isC 6 M f0) fun _ =>
     (Option.bind (p_X7_letterHere f0 y2 M) fun v18 =>
     (Option.bind (aIs M v16 (((6 : Int32) * f1) + y2) v18) fun M19 =>
     (pl_X7_readSchool_56 k1 f0 f1 n (y2 + (1 : Int32)) M19)
     )
     )
     )
     )
    )
set_option maxHeartbeats 4000000 in
set_option maxRecDepth 100000 in
theorem wl_X7_readSchool_56 {G : gG} {p : Program} {l : Launch} {e : Env} {s : State} {m : MethodId} {args : Array Value} {below : List Frame} {meth : Method} {c : Code} {A : Nat → Prop} {Z : gZ} {r : Int32} {M' : Mem} {k1 : Mem → Option (Int32 × Mem)} {f0 : Nat} {f1 : Int32} (C0 : cx G p s m args c cX7_readSchool RX7 3 A) (hr : meth.sig.returnType = (some FieldType.boolean)) (hlk : meth.locks = false) (hG : GOK G) (hZ : GS G Z) (hk1 : ∀ (M : Mem) (H : Heap) (locs : List Loc) (ls : Array Slot), mm G A s M H locs → lv_has ls 3 [(0, .ref f0), (1, .int f1)] → k1 M = some (r, M') → W p l e rm_X7_readSchool s m args below meth c H locs 0 0 (MQ below (CQ G M' (some (.int r)) A) args s 0 0 A) (F0 m 84 ls [])) : ∀ (n : Nat) (y2 : Int32) (M : Mem) (H : Heap) (locs : List Loc) (ls : Array Slot), mm G A s M H locs → lv_has ls 3 [(0, .ref f0), (1, .int f1), (2, .int y2)] → pl_X7_readSchool_56 k1 f0 f1 n y2 M = some (r, M') → W p l e rm_X7_readSchool s m args below meth c H locs 0 0 (MQ below (CQ G M' (some (.int r)) A) args s 0 0 A) (F0 m 56 ls []) := by
  have hx := C0.1
  have hb := C0.2.1
  have hown := C0.2.2.2.1
  have hts := C0.2.2.2.2.1
  intro n
  induction n with
  | zero => intro y2 M H locs ls hM hl hp; rw [pl_X7_readSchool_56] at hp; cases hp
  | succ n ih =>
    intro y2 M H locs ls hM hl hp
    rw [pl_X7_readSchool_56] at hp
    refine lv_iload_n hx hb dX7_readSchool_56 rfl (lv_at hl 2 rfl) ?_
    refine lv_bipush (v := 6) hx hb dX7_readSchool_57 (by decide) ?_
    refine lv_icmp_ge (tgt := 84) hx hb dX7_readSchool_59 (by decide) (fun c15 => ?_) (fun c15 => ?_)
    · replace hp := oT c15 hp
      exact hk1  _ _ _ _ hM (lv_sub hl [0, 1] rfl) hp
    · replace hp := oF c15 hp
      refine lv_aload_n hx hb dX7_readSchool_62 rfl (lv_at hl 0 rfl) ?_
      obtain ⟨v16, hv16, hp⟩ := ob hp
      refine mr_getR C0 cbX7 hM 7 (by decide) tw_1231 hv16 dX7_readSchool_63 ?_
      refine lv_bipush (v := 6) hx hb dX7_readSchool_66 (by decide) ?_
      refine lv_iload_n hx hb dX7_readSchool_68 rfl (lv_at hl 1 rfl) ?_
      refine lv_imul hx hb dX7_readSchool_69 ?_
      refine lv_iload_n hx hb dX7_readSchool_70 rfl (lv_at hl 2 rfl) ?_
      refine lv_iadd hx hb dX7_readSchool_71 ?_
      refine lv_aload_n hx hb dX7_readSchool_72 rfl (lv_at hl 0 rfl) ?_
      refine lv_iload_n hx hb dX7_readSchool_73 rfl (lv_at hl 2 rfl) ?_
      obtain ⟨_, h17, hp⟩ := ob hp
      obtain ⟨v18, hv18, hp⟩ := ob hp
      refine mr_V1 (As := [.int y2]) (rest := [.int (((6 : Int32) * f1) + y2), .ref v16]) C0 cbX7 hM h17 rfl (w_X7_letterHere hG hv18) tw_1392 tw_1394 tws_19 tw_7 tw_1395 yk_X7_letterHere (by decide) rfl hl.1 (Nat.le_of_ble_eq_true rfl) dX7_readSchool_74 rfl (fun H locs hM => ?_)
      obtain ⟨M19, hM19, hp⟩ := ob hp
      refine mr_iast C0 hM hM19 dX7_readSchool_77 (fun H locs hM => ?_)
      refine lv_iinc (v := (y2 + (1 : Int32))) (lv' := [(2, .int (y2 + (1 : Int32))), (0, .ref f0), (1, .int f1)]) hx hb dX7_readSchool_78 hl (k := 2) rfl rfl (by decide) rfl (fun ls hl => ?_)
      refine lv_goto (tgt := 56) hx hb dX7_readSchool_81 (by decide) ?_
      exact ih _ _ _ _ _ hM (lv_sub hl [1, 2, 0] rfl) hp
def p_X7_readSchool (a0 : Nat) (M : Mem) : Option (Int32 × Mem) :=
  (Option.bind (gR 6 0 M a0) fun v1 =>
  (Option.bind (aI 0 M v1 (0 : Int32)) fun v2 =>
  (jn (fun (s3 : Int32) =>
   (Option.bind (isC 6 M a0) fun _ =>
   (ob2 (p_X7_starts a0 s3 M) fun v6 M7 =>
   (if v6 = 0 then
    some ((0 : Int32), M7)
   else
    (Option.bind (isC 6 M7 a0) fun _ =>
    (Option.bind (p_X7_isName a0 M7) fun v10 =>
    (if v10 = 0 then
     (Option.bind (isC 6 M7 a0) fun _ =>
     (ob2 (p_X7_failsAt a0 (1 : Int32) M7) fun v46 M47 =>
     (if v46 = 0 ∨ v46 = 1 then some (v46, M47) else none)
     )
     )
    else
     (Option.bind (isC 6 M7 a0) fun _ =>
     (Option.bind (p_X7_find a0 M7) fun v13 =>
     (if v13 = (-1 : Int32) then
      (pl_X7_readSchool_56
       (fun  (M20 : Mem) =>
        (Option.bind (isC 6 M20 a0) fun _ =>
        (Option.bind (p_X7_advanceToken a0 M20) fun M22 =>
        (Option.bind (isC 6 M22 a0) fun _ =>
        (ob2 (p_X7_takesInto a0 ((20 : Int32) + v2) (0 : Int32) (40 : Int32) M22) fun v24 M25 =>
        (if v24 = 0 then
         some ((0 : Int32), M25)
        else
         (Option.bind (isC 6 M25 a0) fun _ =>
         (ob2 (p_X7_takesInto a0 ((28 : Int32) + v2) (0 : Int32) (99 : Int32) M25) fun v28 M29 =>
         (if v28 = 0 then
          some ((0 : Int32), M29)
         else
          (Option.bind (isC 6 M29 a0) fun _ =>
          (ob2 (p_X7_takesInto a0 ((36 : Int32) + v2) (0 : Int32) (99 : Int32) M29) fun v32 M33 =>
          (if v32 = 0 then
           some ((0 : Int32), M33)
          else
           (Option.bind (isC 6 M33 a0) fun _ =>
           (ob2 (p_X7_readRules a0 v2 M33) fun v36 M37 =>
           (if v36 = 0 then
            some ((0 : Int32), M37)
           else
            (Option.bind (gR 6 0 M37 a0) fun v39 =>
            (Option.bind (aI 0 M37 v39 (0 : Int32)) fun v40 =>
            (Option.bind (aIs M37 v39 (0 : Int32) (v40 + (1 : Int32))) fun M41 =>
            some ((1 : Int32), M41)
            )
            )
            )
           )
           )
           )
          )
          )
          )
         )
         )
         )
        )
        )
        )
        )
        )
       )
       a0 v2 FU (0 : Int32) M7)
     else
      (Option.bind (isC 6 M7 a0) fun _ =>
      (ob2 (p_X7_failsAt a0 (3 : Int32) M7) fun v43 M44 =>
      (if v43 = 0 ∨ v43 = 1 then some (v43, M44) else none)
      )
      )
     )
     )
     )
    )
    )
    )
   )
   )
   )
  ) fun k4 =>
  (if (8 : Int32) ≤ v2 then
   (k4 (0 : Int32))
  else
   (k4 (1 : Int32))
  )
  )
  )
  )
theorem yk_X7_readSchool : yok yX7_readSchool 0 := by decide +kernel
set_option maxHeartbeats 4000000 in
set_option maxRecDepth 100000 in
theorem w_X7_readSchool {G : gG} (hG : GOK G) {Z : gZ} (hZ : GS G Z) {l : Launch} {a0 : Nat} {M : Mem} {r : Int32} {M' : Mem} (hp : p_X7_readSchool a0 M = some (r, M')) : CT G l yX7_readSchool (wT yX7_readSchool cX7_readSchool 3 (some FieldType.boolean)) rm_X7_readSchool [.ref a0] M (some (.int r)) M' 0 0 := by
  refine CT_of (own := RX7) (maxL := 3) (ret := (some FieldType.boolean)) hG (by decide) rfl (Nat.le_of_ble_eq_true rfl) (fun p e s m below meth c A C0 hr hlk hM ls hl => ?_)
  have hl : lv_has ls 3 [(0, .ref a0)] := hl
  generalize ([.ref a0] : List Value).toArray = args at C0 ⊢
  skip
  have hx := C0.1
  have hb := C0.2.1
  have hown := C0.2.2.2.1
  have hts := C0.2.2.2.2.1
  unfold p_X7_readSchool at hp
  refine lv_aload_n hx hb dX7_readSchool_0 rfl (lv_at hl 0 rfl) ?_
  obtain ⟨v1, hv1, hp⟩ := ob hp
  refine mr_getR C0 cbX7 hM 0 (by decide) tw_1224 hv1 dX7_readSchool_1 ?_
  refine lv_iconst (v := 0) hx hb dX7_readSchool_4 (by decide) ?_
  obtain ⟨v2, hv2, hp⟩ := ob hp
  refine mr_iald C0 hM hv2 dX7_readSchool_5 ?_
  refine lv_istore_n (lv' := [(1, .int v2), (0, .ref a0)]) hx hb dX7_readSchool_6 rfl hl (by decide) rfl (fun ls hl => ?_)
  refine lv_aload_n hx hb dX7_readSchool_7 rfl (lv_at hl 1 rfl) ?_
  refine lv_iload_n hx hb dX7_readSchool_8 rfl (lv_at hl 0 rfl) ?_
  refine lv_bipush (v := 8) hx hb dX7_readSchool_9 (by decide) ?_
  obtain ⟨k4, ek4, hp⟩ := ojn hp
  have hk4 : ∀ (s3 : Int32) (H : Heap) (locs : List Loc) (ls : Array Slot), mm G A s M H locs → lv_has ls 3 [(0, .ref a0), (1, .int v2)] → k4 s3 = some (r, M') → W p l e rm_X7_readSchool s m args below meth c H locs 0 0 (MQ below (CQ G M' (some (.int r)) A) args s 0 0 A) (F0 m 19 ls [.int s3, .ref a0]) := by
    intro s3 H locs ls hM hl hp
    rw [ek4] at hp
    obtain ⟨_, h5, hp⟩ := ob hp
    obtain ⟨v6, M7, hv6, hp⟩ := ob3 hp
    refine mr_V1 (As := [.int s3]) (rest := []) C0 cbX7 hM h5 rfl (w_X7_starts hG hv6) tw_1366 tw_1368 tws_15 tw_7 tw_1369 yk_X7_starts (by decide) rfl hl.1 (Nat.le_of_ble_eq_true rfl) dX7_readSchool_19 rfl (fun H locs hM => ?_)
    refine lv_if_ne (tgt := 27) hx hb dX7_readSchool_22 (by decide) (fun c8 => ?_) (fun c8 => ?_)
    · replace hp := oF c8 hp
      refine lv_aload_n hx hb dX7_readSchool_27 rfl (lv_at hl 0 rfl) ?_
      obtain ⟨_, h9, hp⟩ := ob hp
      obtain ⟨v10, hv10, hp⟩ := ob hp
      refine mr_V1 (As := []) (rest := []) C0 cbX7 hM h9 rfl (w_X7_isName hG hZ hv10) tw_1374 tw_1376 tws_17 tw_7 tw_1377 yk_X7_isName (by decide) rfl hl.1 (Nat.le_of_ble_eq_true rfl) dX7_readSchool_28 rfl (fun H locs hM => ?_)
      refine lv_if_ne (tgt := 40) hx hb dX7_readSchool_31 (by decide) (fun c11 => ?_) (fun c11 => ?_)
      · replace hp := oF c11 hp
        refine lv_aload_n hx hb dX7_readSchool_40 rfl (lv_at hl 0 rfl) ?_
        obtain ⟨_, h12, hp⟩ := ob hp
        obtain ⟨v13, hv13, hp⟩ := ob hp
        refine mr_V1 (As := []) (rest := []) C0 cbX7 hM h12 rfl (w_X7_find hG hv13) tw_1388 tw_1390 tws_18 tw_7 tw_1391 yk_X7_find (by decide) rfl hl.1 (Nat.le_of_ble_eq_true rfl) dX7_readSchool_41 rfl (fun H locs hM => ?_)
        refine lv_iconst (v := -1) hx hb dX7_readSchool_44 (by decide) ?_
        refine lv_icmp_eq (tgt := 54) hx hb dX7_readSchool_45 (by decide) (fun c14 => ?_) (fun c14 => ?_)
        · replace hp := oT c14 hp
          refine lv_iconst (v := 0) hx hb dX7_readSchool_54 (by decide) ?_
          refine lv_istore_n (lv' := [(2, .int (0 : Int32)), (0, .ref a0), (1, .int v2)]) hx hb dX7_readSchool_55 rfl hl (by decide) rfl (fun ls hl => ?_)
          refine wl_X7_readSchool_56 C0 hr hlk hG hZ (fun M20 H locs ls hM hl hp => ?_) FU _ _ _ _ _ hM (lv_sub hl [1, 2, 0] rfl) hp
          refine lv_aload_n hx hb dX7_readSchool_84 rfl (lv_at hl 0 rfl) ?_
          obtain ⟨_, h21, hp⟩ := ob hp
          obtain ⟨M22, hM22, hp⟩ := ob hp
          refine mr_V0 (As := []) (rest := []) C0 cbX7 hM h21 rfl (w_X7_advanceToken hG hM22) tw_1335 tw_1337 tws_8 tw_7 tw_1338 yk_X7_advanceToken (by decide) rfl hl.1 (Nat.le_of_ble_eq_true rfl) dX7_readSchool_85 rfl (fun H locs hM => ?_)
          refine lv_aload_n hx hb dX7_readSchool_88 rfl (lv_at hl 0 rfl) ?_
          refine lv_bipush (v := 20) hx hb dX7_readSchool_89 (by decide) ?_
          refine lv_iload_n hx hb dX7_readSchool_91 rfl (lv_at hl 1 rfl) ?_
          refine lv_iadd hx hb dX7_readSchool_92 ?_
          refine lv_iconst (v := 0) hx hb dX7_readSchool_93 (by decide) ?_
          refine lv_bipush (v := 40) hx hb dX7_readSchool_94 (by decide) ?_
          obtain ⟨_, h23, hp⟩ := ob hp
          obtain ⟨v24, M25, hv24, hp⟩ := ob3 hp
          refine mr_V1 (As := [.int ((20 : Int32) + v2), .int (0 : Int32), .int (40 : Int32)]) (rest := []) C0 cbX7 hM h23 rfl (w_X7_takesInto hG hv24) tw_1396 tw_1398 tws_20 tw_7 tw_1399 yk_X7_takesInto (by decide) rfl hl.1 (Nat.le_of_ble_eq_true rfl) dX7_readSchool_96 rfl (fun H locs hM => ?_)
          refine lv_if_eq (tgt := 138) hx hb dX7_readSchool_99 (by decide) (fun c26 => ?_) (fun c26 => ?_)
          · replace hp := oT c26 hp
            refine lv_iconst (v := 0) hx hb dX7_readSchool_138 (by decide) ?_
            exact mr_zret C0 hr hlk hM (Prod.mk.inj (Option.some.inj hp)).2 (Or.inl rfl) (Prod.mk.inj (Option.some.inj hp)).1 (Nat.le_refl _) (Nat.le_refl _) dX7_readSchool_139
          · replace hp := oF c26 hp
            refine lv_aload_n hx hb dX7_readSchool_102 rfl (lv_at hl 0 rfl) ?_
            refine lv_bipush (v := 28) hx hb dX7_readSchool_103 (by decide) ?_
            refine lv_iload_n hx hb dX7_readSchool_105 rfl (lv_at hl 1 rfl) ?_
            refine lv_iadd hx hb dX7_readSchool_106 ?_
            refine lv_iconst (v := 0) hx hb dX7_readSchool_107 (by decide) ?_
            refine lv_bipush (v := 99) hx hb dX7_readSchool_108 (by decide) ?_
            obtain ⟨_, h27, hp⟩ := ob hp
            obtain ⟨v28, M29, hv28, hp⟩ := ob3 hp
            refine mr_V1 (As := [.int ((28 : Int32) + v2), .int (0 : Int32), .int (99 : Int32)]) (rest := []) C0 cbX7 hM h27 rfl (w_X7_takesInto hG hv28) tw_1396 tw_1398 tws_20 tw_7 tw_1399 yk_X7_takesInto (by decide) rfl hl.1 (Nat.le_of_ble_eq_true rfl) dX7_readSchool_110 rfl (fun H locs hM => ?_)
            refine lv_if_eq (tgt := 138) hx hb dX7_readSchool_113 (by decide) (fun c30 => ?_) (fun c30 => ?_)
            · replace hp := oT c30 hp
              refine lv_iconst (v := 0) hx hb dX7_readSchool_138 (by decide) ?_
              exact mr_zret C0 hr hlk hM (Prod.mk.inj (Option.some.inj hp)).2 (Or.inl rfl) (Prod.mk.inj (Option.some.inj hp)).1 (Nat.le_refl _) (Nat.le_refl _) dX7_readSchool_139
            · replace hp := oF c30 hp
              refine lv_aload_n hx hb dX7_readSchool_116 rfl (lv_at hl 0 rfl) ?_
              refine lv_bipush (v := 36) hx hb dX7_readSchool_117 (by decide) ?_
              refine lv_iload_n hx hb dX7_readSchool_119 rfl (lv_at hl 1 rfl) ?_
              refine lv_iadd hx hb dX7_readSchool_120 ?_
              refine lv_iconst (v := 0) hx hb dX7_readSchool_121 (by decide) ?_
              refine lv_bipush (v := 99) hx hb dX7_readSchool_122 (by decide) ?_
              obtain ⟨_, h31, hp⟩ := ob hp
              obtain ⟨v32, M33, hv32, hp⟩ := ob3 hp
              refine mr_V1 (As := [.int ((36 : Int32) + v2), .int (0 : Int32), .int (99 : Int32)]) (rest := []) C0 cbX7 hM h31 rfl (w_X7_takesInto hG hv32) tw_1396 tw_1398 tws_20 tw_7 tw_1399 yk_X7_takesInto (by decide) rfl hl.1 (Nat.le_of_ble_eq_true rfl) dX7_readSchool_124 rfl (fun H locs hM => ?_)
              refine lv_if_eq (tgt := 138) hx hb dX7_readSchool_127 (by decide) (fun c34 => ?_) (fun c34 => ?_)
              · replace hp := oT c34 hp
                refine lv_iconst (v := 0) hx hb dX7_readSchool_138 (by decide) ?_
                exact mr_zret C0 hr hlk hM (Prod.mk.inj (Option.some.inj hp)).2 (Or.inl rfl) (Prod.mk.inj (Option.some.inj hp)).1 (Nat.le_refl _) (Nat.le_refl _) dX7_readSchool_139
              · replace hp := oF c34 hp
                refine lv_aload_n hx hb dX7_readSchool_130 rfl (lv_at hl 0 rfl) ?_
                refine lv_iload_n hx hb dX7_readSchool_131 rfl (lv_at hl 1 rfl) ?_
                obtain ⟨_, h35, hp⟩ := ob hp
                obtain ⟨v36, M37, hv36, hp⟩ := ob3 hp
                refine mr_V1 (As := [.int v2]) (rest := []) C0 cbX7 hM h35 rfl (w_X7_readRules hG hZ hv36) tw_1400 tw_1402 tws_21 tw_7 tw_1403 yk_X7_readRules (by decide) rfl hl.1 (Nat.le_of_ble_eq_true rfl) dX7_readSchool_132 rfl (fun H locs hM => ?_)
                refine lv_if_ne (tgt := 140) hx hb dX7_readSchool_135 (by decide) (fun c38 => ?_) (fun c38 => ?_)
                · replace hp := oF c38 hp
                  refine lv_aload_n hx hb dX7_readSchool_140 rfl (lv_at hl 0 rfl) ?_
                  obtain ⟨v39, hv39, hp⟩ := ob hp
                  refine mr_getR C0 cbX7 hM 0 (by decide) tw_1224 hv39 dX7_readSchool_141 ?_
                  refine lv_iconst (v := 0) hx hb dX7_readSchool_144 (by decide) ?_
                  refine lv_dup2_11 hx hb dX7_readSchool_145 rfl rfl ?_
                  obtain ⟨v40, hv40, hp⟩ := ob hp
                  refine mr_iald C0 hM hv40 dX7_readSchool_146 ?_
                  refine lv_iconst (v := 1) hx hb dX7_readSchool_147 (by decide) ?_
                  refine lv_iadd hx hb dX7_readSchool_148 ?_
                  obtain ⟨M41, hM41, hp⟩ := ob hp
                  refine mr_iast C0 hM hM41 dX7_readSchool_149 (fun H locs hM => ?_)
                  refine lv_iconst (v := 1) hx hb dX7_readSchool_150 (by decide) ?_
                  exact mr_zret C0 hr hlk hM (Prod.mk.inj (Option.some.inj hp)).2 (Or.inr rfl) (Prod.mk.inj (Option.some.inj hp)).1 (Nat.le_refl _) (Nat.le_refl _) dX7_readSchool_151
                · replace hp := oT c38 hp
                  refine lv_iconst (v := 0) hx hb dX7_readSchool_138 (by decide) ?_
                  exact mr_zret C0 hr hlk hM (Prod.mk.inj (Option.some.inj hp)).2 (Or.inl rfl) (Prod.mk.inj (Option.some.inj hp)).1 (Nat.le_refl _) (Nat.le_refl _) dX7_readSchool_139
        · replace hp := oF c14 hp
          refine lv_aload_n hx hb dX7_readSchool_48 rfl (lv_at hl 0 rfl) ?_
          refine lv_iconst (v := 3) hx hb dX7_readSchool_49 (by decide) ?_
          obtain ⟨_, h42, hp⟩ := ob hp
          obtain ⟨v43, M44, hv43, hp⟩ := ob3 hp
          refine mr_V1 (As := [.int (3 : Int32)]) (rest := []) C0 cbX7 hM h42 rfl (w_X7_failsAt hG hv43) tw_1370 tw_1372 tws_16 tw_7 tw_1373 yk_X7_failsAt (by decide) rfl hl.1 (Nat.le_of_ble_eq_true rfl) dX7_readSchool_50 rfl (fun H locs hM => ?_)
          obtain ⟨hz, hp⟩ := oG hp
          exact mr_zret C0 hr hlk hM (Prod.mk.inj (Option.some.inj hp)).2 hz (Prod.mk.inj (Option.some.inj hp)).1 (Nat.le_refl _) (Nat.le_refl _) dX7_readSchool_53
      · replace hp := oT c11 hp
        refine lv_aload_n hx hb dX7_readSchool_34 rfl (lv_at hl 0 rfl) ?_
        refine lv_iconst (v := 1) hx hb dX7_readSchool_35 (by decide) ?_
        obtain ⟨_, h45, hp⟩ := ob hp
        obtain ⟨v46, M47, hv46, hp⟩ := ob3 hp
        refine mr_V1 (As := [.int (1 : Int32)]) (rest := []) C0 cbX7 hM h45 rfl (w_X7_failsAt hG hv46) tw_1370 tw_1372 tws_16 tw_7 tw_1373 yk_X7_failsAt (by decide) rfl hl.1 (Nat.le_of_ble_eq_true rfl) dX7_readSchool_36 rfl (fun H locs hM => ?_)
        obtain ⟨hz, hp⟩ := oG hp
        exact mr_zret C0 hr hlk hM (Prod.mk.inj (Option.some.inj hp)).2 hz (Prod.mk.inj (Option.some.inj hp)).1 (Nat.le_refl _) (Nat.le_refl _) dX7_readSchool_39
    · replace hp := oT c8 hp
      refine lv_iconst (v := 0) hx hb dX7_readSchool_25 (by decide) ?_
      exact mr_zret C0 hr hlk hM (Prod.mk.inj (Option.some.inj hp)).2 (Or.inl rfl) (Prod.mk.inj (Option.some.inj hp)).1 (Nat.le_refl _) (Nat.le_refl _) dX7_readSchool_26
  refine lv_icmp_ge (tgt := 18) hx hb dX7_readSchool_11 (by decide) (fun c48 => ?_) (fun c48 => ?_)
  · replace hp := oT c48 hp
    refine lv_iconst (v := 0) hx hb dX7_readSchool_18 (by decide) ?_
    exact hk4 _ _ _ _ hM (lv_sub hl [1, 0] rfl) hp
  · replace hp := oF c48 hp
    refine lv_iconst (v := 1) hx hb dX7_readSchool_14 (by decide) ?_
    refine lv_goto (tgt := 19) hx hb dX7_readSchool_15 (by decide) ?_
    exact hk4 _ _ _ _ hM (lv_sub hl [1, 0] rfl) hp
abbrev rm_X7_takesSchool : Room := { frames := 6, cells := 0, slots := 0, locals := 128 }
def p_X7_takesSchool (a0 : Nat) (a1 : Int32) (M : Mem) : Option (Int32 × Mem) :=
  (Option.bind (isC 6 M a0) fun _ =>
  (Option.bind (p_X7_isName a0 M) fun v2 =>
  (if v2 = 0 then
   (Option.bind (isC 6 M a0) fun _ =>
   (ob2 (p_X7_failsAt a0 (1 : Int32) M) fun v15 M16 =>
   (if v15 = 0 ∨ v15 = 1 then some (v15, M16) else none)
   )
   )
  else
   (Option.bind (isC 6 M a0) fun _ =>
   (Option.bind (p_X7_find a0 M) fun v5 =>
   (if v5 = (-1 : Int32) then
    (Option.bind (isC 6 M a0) fun _ =>
    (ob2 (p_X7_failsAt a0 (3 : Int32) M) fun v12 M13 =>
    (if v12 = 0 ∨ v12 = 1 then some (v12, M13) else none)
    )
    )
   else
    (Option.bind (gR 6 0 M a0) fun v7 =>
    (Option.bind (aIs M v7 a1 v5) fun M8 =>
    (Option.bind (isC 6 M8 a0) fun _ =>
    (Option.bind (p_X7_advanceToken a0 M8) fun M10 =>
    some ((1 : Int32), M10)
    )
    )
    )
    )
   )
   )
   )
  )
  )
  )
theorem yk_X7_takesSchool : yok yX7_takesSchool 1 := by decide +kernel
set_option maxHeartbeats 4000000 in
set_option maxRecDepth 100000 in
theorem w_X7_takesSchool {G : gG} (hG : GOK G) {Z : gZ} (hZ : GS G Z) {l : Launch} {a0 : Nat} {a1 : Int32} {M : Mem} {r : Int32} {M' : Mem} (hp : p_X7_takesSchool a0 a1 M = some (r, M')) : CT G l yX7_takesSchool (wT yX7_takesSchool cX7_takesSchool 3 (some FieldType.boolean)) rm_X7_takesSchool [.ref a0, .int a1] M (some (.int r)) M' 0 0 := by
  refine CT_of (own := RX7) (maxL := 3) (ret := (some FieldType.boolean)) hG (by decide) rfl (Nat.le_of_ble_eq_true rfl) (fun p e s m below meth c A C0 hr hlk hM ls hl => ?_)
  have hl : lv_has ls 3 [(0, .ref a0), (1, .int a1)] := hl
  generalize ([.ref a0, .int a1] : List Value).toArray = args at C0 ⊢
  skip
  have hx := C0.1
  have hb := C0.2.1
  have hown := C0.2.2.2.1
  have hts := C0.2.2.2.2.1
  unfold p_X7_takesSchool at hp
  refine lv_aload_n hx hb dX7_takesSchool_0 rfl (lv_at hl 0 rfl) ?_
  obtain ⟨_, h1, hp⟩ := ob hp
  obtain ⟨v2, hv2, hp⟩ := ob hp
  refine mr_V1 (As := []) (rest := []) C0 cbX7 hM h1 rfl (w_X7_isName hG hZ hv2) tw_1374 tw_1376 tws_17 tw_7 tw_1377 yk_X7_isName (by decide) rfl hl.1 (Nat.le_of_ble_eq_true rfl) dX7_takesSchool_1 rfl (fun H locs hM => ?_)
  refine lv_if_ne (tgt := 13) hx hb dX7_takesSchool_4 (by decide) (fun c3 => ?_) (fun c3 => ?_)
  · replace hp := oF c3 hp
    refine lv_aload_n hx hb dX7_takesSchool_13 rfl (lv_at hl 0 rfl) ?_
    obtain ⟨_, h4, hp⟩ := ob hp
    obtain ⟨v5, hv5, hp⟩ := ob hp
    refine mr_V1 (As := []) (rest := []) C0 cbX7 hM h4 rfl (w_X7_find hG hv5) tw_1388 tw_1390 tws_18 tw_7 tw_1391 yk_X7_find (by decide) rfl hl.1 (Nat.le_of_ble_eq_true rfl) dX7_takesSchool_14 rfl (fun H locs hM => ?_)
    refine lv_istore_n (lv' := [(2, .int v5), (0, .ref a0), (1, .int a1)]) hx hb dX7_takesSchool_17 rfl hl (by decide) rfl (fun ls hl => ?_)
    refine lv_iload_n hx hb dX7_takesSchool_18 rfl (lv_at hl 0 rfl) ?_
    refine lv_iconst (v := -1) hx hb dX7_takesSchool_19 (by decide) ?_
    refine lv_icmp_ne (tgt := 29) hx hb dX7_takesSchool_20 (by decide) (fun c6 => ?_) (fun c6 => ?_)
    · replace hp := oF c6 hp
      refine lv_aload_n hx hb dX7_takesSchool_29 rfl (lv_at hl 1 rfl) ?_
      obtain ⟨v7, hv7, hp⟩ := ob hp
      refine mr_getR C0 cbX7 hM 0 (by decide) tw_1224 hv7 dX7_takesSchool_30 ?_
      refine lv_iload_n hx hb dX7_takesSchool_33 rfl (lv_at hl 2 rfl) ?_
      refine lv_iload_n hx hb dX7_takesSchool_34 rfl (lv_at hl 0 rfl) ?_
      obtain ⟨M8, hM8, hp⟩ := ob hp
      refine mr_iast C0 hM hM8 dX7_takesSchool_35 (fun H locs hM => ?_)
      refine lv_aload_n hx hb dX7_takesSchool_36 rfl (lv_at hl 1 rfl) ?_
      obtain ⟨_, h9, hp⟩ := ob hp
      obtain ⟨M10, hM10, hp⟩ := ob hp
      refine mr_V0 (As := []) (rest := []) C0 cbX7 hM h9 rfl (w_X7_advanceToken hG hM10) tw_1335 tw_1337 tws_8 tw_7 tw_1338 yk_X7_advanceToken (by decide) rfl hl.1 (Nat.le_of_ble_eq_true rfl) dX7_takesSchool_37 rfl (fun H locs hM => ?_)
      refine lv_iconst (v := 1) hx hb dX7_takesSchool_40 (by decide) ?_
      exact mr_zret C0 hr hlk hM (Prod.mk.inj (Option.some.inj hp)).2 (Or.inr rfl) (Prod.mk.inj (Option.some.inj hp)).1 (Nat.le_refl _) (Nat.le_refl _) dX7_takesSchool_41
    · replace hp := oT c6 hp
      refine lv_aload_n hx hb dX7_takesSchool_23 rfl (lv_at hl 1 rfl) ?_
      refine lv_iconst (v := 3) hx hb dX7_takesSchool_24 (by decide) ?_
      obtain ⟨_, h11, hp⟩ := ob hp
      obtain ⟨v12, M13, hv12, hp⟩ := ob3 hp
      refine mr_V1 (As := [.int (3 : Int32)]) (rest := []) C0 cbX7 hM h11 rfl (w_X7_failsAt hG hv12) tw_1370 tw_1372 tws_16 tw_7 tw_1373 yk_X7_failsAt (by decide) rfl hl.1 (Nat.le_of_ble_eq_true rfl) dX7_takesSchool_25 rfl (fun H locs hM => ?_)
      obtain ⟨hz, hp⟩ := oG hp
      exact mr_zret C0 hr hlk hM (Prod.mk.inj (Option.some.inj hp)).2 hz (Prod.mk.inj (Option.some.inj hp)).1 (Nat.le_refl _) (Nat.le_refl _) dX7_takesSchool_28
  · replace hp := oT c3 hp
    refine lv_aload_n hx hb dX7_takesSchool_7 rfl (lv_at hl 0 rfl) ?_
    refine lv_iconst (v := 1) hx hb dX7_takesSchool_8 (by decide) ?_
    obtain ⟨_, h14, hp⟩ := ob hp
    obtain ⟨v15, M16, hv15, hp⟩ := ob3 hp
    refine mr_V1 (As := [.int (1 : Int32)]) (rest := []) C0 cbX7 hM h14 rfl (w_X7_failsAt hG hv15) tw_1370 tw_1372 tws_16 tw_7 tw_1373 yk_X7_failsAt (by decide) rfl hl.1 (Nat.le_of_ble_eq_true rfl) dX7_takesSchool_9 rfl (fun H locs hM => ?_)
    obtain ⟨hz, hp⟩ := oG hp
    exact mr_zret C0 hr hlk hM (Prod.mk.inj (Option.some.inj hp)).2 hz (Prod.mk.inj (Option.some.inj hp)).1 (Nat.le_refl _) (Nat.le_refl _) dX7_takesSchool_12
abbrev rm_X7_readZone : Room := { frames := 6, cells := 0, slots := 0, locals := 128 }
def p_X7_readZone (a0 : Nat) (M : Mem) : Option (Int32 × Mem) :=
  (Option.bind (isC 6 M a0) fun _ =>
  (Option.bind (p_X7_advanceToken a0 M) fun M2 =>
  (Option.bind (isC 6 M2 a0) fun _ =>
  (Option.bind (p_X7_isName a0 M2) fun v4 =>
  (if v4 = 0 then
   (Option.bind (isC 6 M2 a0) fun _ =>
   (ob2 (p_X7_failsAt a0 (1 : Int32) M2) fun v41 M42 =>
   (if v41 = 0 ∨ v41 = 1 then some (v41, M42) else none)
   )
   )
  else
   (Option.bind (isC 6 M2 a0) fun _ =>
   (Option.bind (p_X7_find a0 M2) fun v7 =>
   (jn (fun (_ : Unit) =>
    (Option.bind (isC 6 M2 a0) fun _ =>
    (ob2 (p_X7_failsAt a0 (3 : Int32) M2) fun v10 M11 =>
    (if v10 = 0 ∨ v10 = 1 then some (v10, M11) else none)
    )
    )
   ) fun k8 =>
   (if v7 = (-1 : Int32) then
    (k8 ())
   else
    (Option.bind (gR 6 0 M2 a0) fun v13 =>
    (Option.bind (aI 0 M2 v13 ((52 : Int32) + v7)) fun v14 =>
    (if v14 = (1 : Int32) then
     (k8 ())
    else
     (Option.bind (isC 6 M2 a0) fun _ =>
     (Option.bind (p_X7_advanceToken a0 M2) fun M17 =>
     (Option.bind (gR 6 0 M17 a0) fun v18 =>
     (Option.bind (aIs M17 v18 ((52 : Int32) + v7) (1 : Int32)) fun M19 =>
     (Option.bind (isC 6 M19 a0) fun _ =>
     (ob2 (p_X7_takesInto a0 ((92 : Int32) + ((4 : Int32) * v7)) (0 : Int32) (99 : Int32) M19) fun v21 M22 =>
     (if v21 = 0 then
      some ((0 : Int32), M22)
     else
      (Option.bind (isC 6 M22 a0) fun _ =>
      (ob2 (p_X7_takesInto a0 (((92 : Int32) + ((4 : Int32) * v7)) + (1 : Int32)) (0 : Int32) (99 : Int32) M22) fun v25 M26 =>
      (if v25 = 0 then
       some ((0 : Int32), M26)
      else
       (Option.bind (gR 6 0 M26 a0) fun v28 =>
       (Option.bind (aI 0 M26 v28 ((92 : Int32) + ((4 : Int32) * v7))) fun v29 =>
       (Option.bind (isC 6 M26 a0) fun _ =>
       (ob2 (p_X7_takesInto a0 (((92 : Int32) + ((4 : Int32) * v7)) + (2 : Int32)) v29 (99 : Int32) M26) fun v31 M32 =>
       (if v31 = 0 then
        some ((0 : Int32), M32)
       else
        (Option.bind (gR 6 0 M32 a0) fun v34 =>
        (Option.bind (aI 0 M32 v34 (((92 : Int32) + ((4 : Int32) * v7)) + (1 : Int32))) fun v35 =>
        (Option.bind (isC 6 M32 a0) fun _ =>
        (ob2 (p_X7_takesInto a0 (((92 : Int32) + ((4 : Int32) * v7)) + (3 : Int32)) v35 (99 : Int32) M32) fun v37 M38 =>
        (if v37 = 0 then
         some ((0 : Int32), M38)
        else
         some ((1 : Int32), M38)
        )
        )
        )
        )
        )
       )
       )
       )
       )
       )
      )
      )
      )
     )
     )
     )
     )
     )
     )
     )
    )
    )
    )
   )
   )
   )
   )
  )
  )
  )
  )
  )
theorem yk_X7_readZone : yok yX7_readZone 0 := by decide +kernel
set_option maxHeartbeats 4000000 in
set_option maxRecDepth 100000 in
theorem w_X7_readZone {G : gG} (hG : GOK G) {Z : gZ} (hZ : GS G Z) {l : Launch} {a0 : Nat} {M : Mem} {r : Int32} {M' : Mem} (hp : p_X7_readZone a0 M = some (r, M')) : CT G l yX7_readZone (wT yX7_readZone cX7_readZone 3 (some FieldType.boolean)) rm_X7_readZone [.ref a0] M (some (.int r)) M' 0 0 := by
  refine CT_of (own := RX7) (maxL := 3) (ret := (some FieldType.boolean)) hG (by decide) rfl (Nat.le_of_ble_eq_true rfl) (fun p e s m below meth c A C0 hr hlk hM ls hl => ?_)
  have hl : lv_has ls 3 [(0, .ref a0)] := hl
  generalize ([.ref a0] : List Value).toArray = args at C0 ⊢
  skip
  have hx := C0.1
  have hb := C0.2.1
  have hown := C0.2.2.2.1
  have hts := C0.2.2.2.2.1
  unfold p_X7_readZone at hp
  refine lv_aload_n hx hb dX7_readZone_0 rfl (lv_at hl 0 rfl) ?_
  obtain ⟨_, h1, hp⟩ := ob hp
  obtain ⟨M2, hM2, hp⟩ := ob hp
  refine mr_V0 (As := []) (rest := []) C0 cbX7 hM h1 rfl (w_X7_advanceToken hG hM2) tw_1335 tw_1337 tws_8 tw_7 tw_1338 yk_X7_advanceToken (by decide) rfl hl.1 (Nat.le_of_ble_eq_true rfl) dX7_readZone_1 rfl (fun H locs hM => ?_)
  refine lv_aload_n hx hb dX7_readZone_4 rfl (lv_at hl 0 rfl) ?_
  obtain ⟨_, h3, hp⟩ := ob hp
  obtain ⟨v4, hv4, hp⟩ := ob hp
  refine mr_V1 (As := []) (rest := []) C0 cbX7 hM h3 rfl (w_X7_isName hG hZ hv4) tw_1374 tw_1376 tws_17 tw_7 tw_1377 yk_X7_isName (by decide) rfl hl.1 (Nat.le_of_ble_eq_true rfl) dX7_readZone_5 rfl (fun H locs hM => ?_)
  refine lv_if_ne (tgt := 17) hx hb dX7_readZone_8 (by decide) (fun c5 => ?_) (fun c5 => ?_)
  · replace hp := oF c5 hp
    refine lv_aload_n hx hb dX7_readZone_17 rfl (lv_at hl 0 rfl) ?_
    obtain ⟨_, h6, hp⟩ := ob hp
    obtain ⟨v7, hv7, hp⟩ := ob hp
    refine mr_V1 (As := []) (rest := []) C0 cbX7 hM h6 rfl (w_X7_find hG hv7) tw_1388 tw_1390 tws_18 tw_7 tw_1391 yk_X7_find (by decide) rfl hl.1 (Nat.le_of_ble_eq_true rfl) dX7_readZone_18 rfl (fun H locs hM => ?_)
    refine lv_istore_n (lv' := [(1, .int v7), (0, .ref a0)]) hx hb dX7_readZone_21 rfl hl (by decide) rfl (fun ls hl => ?_)
    refine lv_iload_n hx hb dX7_readZone_22 rfl (lv_at hl 0 rfl) ?_
    refine lv_iconst (v := -1) hx hb dX7_readZone_23 (by decide) ?_
    obtain ⟨k8, ek8, hp⟩ := ojn hp
    have hk8 : ∀ (H : Heap) (locs : List Loc) (ls : Array Slot), mm G A s M2 H locs → lv_has ls 3 [(0, .ref a0)] → k8 () = some (r, M') → W p l e rm_X7_readZone s m args below meth c H locs 0 0 (MQ below (CQ G M' (some (.int r)) A) args s 0 0 A) (F0 m 40 ls []) := by
      intro  H locs ls hM hl hp
      rw [ek8] at hp
      refine lv_aload_n hx hb dX7_readZone_40 rfl (lv_at hl 0 rfl) ?_
      refine lv_iconst (v := 3) hx hb dX7_readZone_41 (by decide) ?_
      obtain ⟨_, h9, hp⟩ := ob hp
      obtain ⟨v10, M11, hv10, hp⟩ := ob3 hp
      refine mr_V1 (As := [.int (3 : Int32)]) (rest := []) C0 cbX7 hM h9 rfl (w_X7_failsAt hG hv10) tw_1370 tw_1372 tws_16 tw_7 tw_1373 yk_X7_failsAt (by decide) rfl hl.1 (Nat.le_of_ble_eq_true rfl) dX7_readZone_42 rfl (fun H locs hM => ?_)
      obtain ⟨hz, hp⟩ := oG hp
      exact mr_zret C0 hr hlk hM (Prod.mk.inj (Option.some.inj hp)).2 hz (Prod.mk.inj (Option.some.inj hp)).1 (Nat.le_refl _) (Nat.le_refl _) dX7_readZone_45
    refine lv_icmp_eq (tgt := 40) hx hb dX7_readZone_24 (by decide) (fun c12 => ?_) (fun c12 => ?_)
    · replace hp := oT c12 hp
      exact hk8  _ _ _ hM (lv_sub hl [1] rfl) hp
    · replace hp := oF c12 hp
      refine lv_aload_n hx hb dX7_readZone_27 rfl (lv_at hl 1 rfl) ?_
      obtain ⟨v13, hv13, hp⟩ := ob hp
      refine mr_getR C0 cbX7 hM 0 (by decide) tw_1224 hv13 dX7_readZone_28 ?_
      refine lv_bipush (v := 52) hx hb dX7_readZone_31 (by decide) ?_
      refine lv_iload_n hx hb dX7_readZone_33 rfl (lv_at hl 0 rfl) ?_
      refine lv_iadd hx hb dX7_readZone_34 ?_
      obtain ⟨v14, hv14, hp⟩ := ob hp
      refine mr_iald C0 hM hv14 dX7_readZone_35 ?_
      refine lv_iconst (v := 1) hx hb dX7_readZone_36 (by decide) ?_
      refine lv_icmp_ne (tgt := 46) hx hb dX7_readZone_37 (by decide) (fun c15 => ?_) (fun c15 => ?_)
      · replace hp := oF c15 hp
        refine lv_aload_n hx hb dX7_readZone_46 rfl (lv_at hl 1 rfl) ?_
        obtain ⟨_, h16, hp⟩ := ob hp
        obtain ⟨M17, hM17, hp⟩ := ob hp
        refine mr_V0 (As := []) (rest := []) C0 cbX7 hM h16 rfl (w_X7_advanceToken hG hM17) tw_1335 tw_1337 tws_8 tw_7 tw_1338 yk_X7_advanceToken (by decide) rfl hl.1 (Nat.le_of_ble_eq_true rfl) dX7_readZone_47 rfl (fun H locs hM => ?_)
        refine lv_aload_n hx hb dX7_readZone_50 rfl (lv_at hl 1 rfl) ?_
        obtain ⟨v18, hv18, hp⟩ := ob hp
        refine mr_getR C0 cbX7 hM 0 (by decide) tw_1224 hv18 dX7_readZone_51 ?_
        refine lv_bipush (v := 52) hx hb dX7_readZone_54 (by decide) ?_
        refine lv_iload_n hx hb dX7_readZone_56 rfl (lv_at hl 0 rfl) ?_
        refine lv_iadd hx hb dX7_readZone_57 ?_
        refine lv_iconst (v := 1) hx hb dX7_readZone_58 (by decide) ?_
        obtain ⟨M19, hM19, hp⟩ := ob hp
        refine mr_iast C0 hM hM19 dX7_readZone_59 (fun H locs hM => ?_)
        refine lv_bipush (v := 92) hx hb dX7_readZone_60 (by decide) ?_
        refine lv_iconst (v := 4) hx hb dX7_readZone_62 (by decide) ?_
        refine lv_iload_n hx hb dX7_readZone_63 rfl (lv_at hl 0 rfl) ?_
        refine lv_imul hx hb dX7_readZone_64 ?_
        refine lv_iadd hx hb dX7_readZone_65 ?_
        refine lv_istore_n (lv' := [(2, .int ((92 : Int32) + ((4 : Int32) * v7))), (1, .int v7), (0, .ref a0)]) hx hb dX7_readZone_66 rfl hl (by decide) rfl (fun ls hl => ?_)
        refine lv_aload_n hx hb dX7_readZone_67 rfl (lv_at hl 2 rfl) ?_
        refine lv_iload_n hx hb dX7_readZone_68 rfl (lv_at hl 0 rfl) ?_
        refine lv_iconst (v := 0) hx hb dX7_readZone_69 (by decide) ?_
        refine lv_bipush (v := 99) hx hb dX7_readZone_70 (by decide) ?_
        obtain ⟨_, h20, hp⟩ := ob hp
        obtain ⟨v21, M22, hv21, hp⟩ := ob3 hp
        refine mr_V1 (As := [.int ((92 : Int32) + ((4 : Int32) * v7)), .int (0 : Int32), .int (99 : Int32)]) (rest := []) C0 cbX7 hM h20 rfl (w_X7_takesInto hG hv21) tw_1396 tw_1398 tws_20 tw_7 tw_1399 yk_X7_takesInto (by decide) rfl hl.1 (Nat.le_of_ble_eq_true rfl) dX7_readZone_72 rfl (fun H locs hM => ?_)
        refine lv_if_eq (tgt := 133) hx hb dX7_readZone_75 (by decide) (fun c23 => ?_) (fun c23 => ?_)
        · replace hp := oT c23 hp
          refine lv_iconst (v := 0) hx hb dX7_readZone_133 (by decide) ?_
          exact mr_zret C0 hr hlk hM (Prod.mk.inj (Option.some.inj hp)).2 (Or.inl rfl) (Prod.mk.inj (Option.some.inj hp)).1 (Nat.le_refl _) (Nat.le_refl _) dX7_readZone_134
        · replace hp := oF c23 hp
          refine lv_aload_n hx hb dX7_readZone_78 rfl (lv_at hl 2 rfl) ?_
          refine lv_iload_n hx hb dX7_readZone_79 rfl (lv_at hl 0 rfl) ?_
          refine lv_iconst (v := 1) hx hb dX7_readZone_80 (by decide) ?_
          refine lv_iadd hx hb dX7_readZone_81 ?_
          refine lv_iconst (v := 0) hx hb dX7_readZone_82 (by decide) ?_
          refine lv_bipush (v := 99) hx hb dX7_readZone_83 (by decide) ?_
          obtain ⟨_, h24, hp⟩ := ob hp
          obtain ⟨v25, M26, hv25, hp⟩ := ob3 hp
          refine mr_V1 (As := [.int (((92 : Int32) + ((4 : Int32) * v7)) + (1 : Int32)), .int (0 : Int32), .int (99 : Int32)]) (rest := []) C0 cbX7 hM h24 rfl (w_X7_takesInto hG hv25) tw_1396 tw_1398 tws_20 tw_7 tw_1399 yk_X7_takesInto (by decide) rfl hl.1 (Nat.le_of_ble_eq_true rfl) dX7_readZone_85 rfl (fun H locs hM => ?_)
          refine lv_if_eq (tgt := 133) hx hb dX7_readZone_88 (by decide) (fun c27 => ?_) (fun c27 => ?_)
          · replace hp := oT c27 hp
            refine lv_iconst (v := 0) hx hb dX7_readZone_133 (by decide) ?_
            exact mr_zret C0 hr hlk hM (Prod.mk.inj (Option.some.inj hp)).2 (Or.inl rfl) (Prod.mk.inj (Option.some.inj hp)).1 (Nat.le_refl _) (Nat.le_refl _) dX7_readZone_134
          · replace hp := oF c27 hp
            refine lv_aload_n hx hb dX7_readZone_91 rfl (lv_at hl 2 rfl) ?_
            refine lv_iload_n hx hb dX7_readZone_92 rfl (lv_at hl 0 rfl) ?_
            refine lv_iconst (v := 2) hx hb dX7_readZone_93 (by decide) ?_
            refine lv_iadd hx hb dX7_readZone_94 ?_
            refine lv_aload_n hx hb dX7_readZone_95 rfl (lv_at hl 2 rfl) ?_
            obtain ⟨v28, hv28, hp⟩ := ob hp
            refine mr_getR C0 cbX7 hM 0 (by decide) tw_1224 hv28 dX7_readZone_96 ?_
            refine lv_iload_n hx hb dX7_readZone_99 rfl (lv_at hl 0 rfl) ?_
            obtain ⟨v29, hv29, hp⟩ := ob hp
            refine mr_iald C0 hM hv29 dX7_readZone_100 ?_
            refine lv_bipush (v := 99) hx hb dX7_readZone_101 (by decide) ?_
            obtain ⟨_, h30, hp⟩ := ob hp
            obtain ⟨v31, M32, hv31, hp⟩ := ob3 hp
            refine mr_V1 (As := [.int (((92 : Int32) + ((4 : Int32) * v7)) + (2 : Int32)), .int v29, .int (99 : Int32)]) (rest := []) C0 cbX7 hM h30 rfl (w_X7_takesInto hG hv31) tw_1396 tw_1398 tws_20 tw_7 tw_1399 yk_X7_takesInto (by decide) rfl hl.1 (Nat.le_of_ble_eq_true rfl) dX7_readZone_103 rfl (fun H locs hM => ?_)
            refine lv_if_eq (tgt := 133) hx hb dX7_readZone_106 (by decide) (fun c33 => ?_) (fun c33 => ?_)
            · replace hp := oT c33 hp
              refine lv_iconst (v := 0) hx hb dX7_readZone_133 (by decide) ?_
              exact mr_zret C0 hr hlk hM (Prod.mk.inj (Option.some.inj hp)).2 (Or.inl rfl) (Prod.mk.inj (Option.some.inj hp)).1 (Nat.le_refl _) (Nat.le_refl _) dX7_readZone_134
            · replace hp := oF c33 hp
              refine lv_aload_n hx hb dX7_readZone_109 rfl (lv_at hl 2 rfl) ?_
              refine lv_iload_n hx hb dX7_readZone_110 rfl (lv_at hl 0 rfl) ?_
              refine lv_iconst (v := 3) hx hb dX7_readZone_111 (by decide) ?_
              refine lv_iadd hx hb dX7_readZone_112 ?_
              refine lv_aload_n hx hb dX7_readZone_113 rfl (lv_at hl 2 rfl) ?_
              obtain ⟨v34, hv34, hp⟩ := ob hp
              refine mr_getR C0 cbX7 hM 0 (by decide) tw_1224 hv34 dX7_readZone_114 ?_
              refine lv_iload_n hx hb dX7_readZone_117 rfl (lv_at hl 0 rfl) ?_
              refine lv_iconst (v := 1) hx hb dX7_readZone_118 (by decide) ?_
              refine lv_iadd hx hb dX7_readZone_119 ?_
              obtain ⟨v35, hv35, hp⟩ := ob hp
              refine mr_iald C0 hM hv35 dX7_readZone_120 ?_
              refine lv_bipush (v := 99) hx hb dX7_readZone_121 (by decide) ?_
              obtain ⟨_, h36, hp⟩ := ob hp
              obtain ⟨v37, M38, hv37, hp⟩ := ob3 hp
              refine mr_V1 (As := [.int (((92 : Int32) + ((4 : Int32) * v7)) + (3 : Int32)), .int v35, .int (99 : Int32)]) (rest := []) C0 cbX7 hM h36 rfl (w_X7_takesInto hG hv37) tw_1396 tw_1398 tws_20 tw_7 tw_1399 yk_X7_takesInto (by decide) rfl hl.1 (Nat.le_of_ble_eq_true rfl) dX7_readZone_123 rfl (fun H locs hM => ?_)
              refine lv_if_eq (tgt := 133) hx hb dX7_readZone_126 (by decide) (fun c39 => ?_) (fun c39 => ?_)
              · replace hp := oT c39 hp
                refine lv_iconst (v := 0) hx hb dX7_readZone_133 (by decide) ?_
                exact mr_zret C0 hr hlk hM (Prod.mk.inj (Option.some.inj hp)).2 (Or.inl rfl) (Prod.mk.inj (Option.some.inj hp)).1 (Nat.le_refl _) (Nat.le_refl _) dX7_readZone_134
              · replace hp := oF c39 hp
                refine lv_iconst (v := 1) hx hb dX7_readZone_129 (by decide) ?_
                refine lv_goto (tgt := 134) hx hb dX7_readZone_130 (by decide) ?_
                exact mr_zret C0 hr hlk hM (Prod.mk.inj (Option.some.inj hp)).2 (Or.inr rfl) (Prod.mk.inj (Option.some.inj hp)).1 (Nat.le_refl _) (Nat.le_refl _) dX7_readZone_134
      · replace hp := oT c15 hp
        exact hk8  _ _ _ hM (lv_sub hl [1] rfl) hp
  · replace hp := oT c5 hp
    refine lv_aload_n hx hb dX7_readZone_11 rfl (lv_at hl 0 rfl) ?_
    refine lv_iconst (v := 1) hx hb dX7_readZone_12 (by decide) ?_
    obtain ⟨_, h40, hp⟩ := ob hp
    obtain ⟨v41, M42, hv41, hp⟩ := ob3 hp
    refine mr_V1 (As := [.int (1 : Int32)]) (rest := []) C0 cbX7 hM h40 rfl (w_X7_failsAt hG hv41) tw_1370 tw_1372 tws_16 tw_7 tw_1373 yk_X7_failsAt (by decide) rfl hl.1 (Nat.le_of_ble_eq_true rfl) dX7_readZone_13 rfl (fun H locs hM => ?_)
    obtain ⟨hz, hp⟩ := oG hp
    exact mr_zret C0 hr hlk hM (Prod.mk.inj (Option.some.inj hp)).2 hz (Prod.mk.inj (Option.some.inj hp)).1 (Nat.le_refl _) (Nat.le_refl _) dX7_readZone_16
abbrev rm_X7_readPupil : Room := { frames := 7, cells := 0, slots := 0, locals := 150 }
def p_X7_readPupil (a0 : Nat) (M : Mem) : Option (Int32 × Mem) :=
  (Option.bind (gR 6 0 M a0) fun v1 =>
  (Option.bind (aI 0 M v1 (2 : Int32)) fun v2 =>
  (jn (fun (s3 : Int32) =>
   (Option.bind (isC 6 M a0) fun _ =>
   (ob2 (p_X7_starts a0 s3 M) fun v6 M7 =>
   (if v6 = 0 then
    some ((0 : Int32), M7)
   else
    (Option.bind (isC 6 M7 a0) fun _ =>
    (ob2 (p_X7_takesInto a0 ((724 : Int32) + ((2 : Int32) * v2)) (1 : Int32) (99 : Int32) M7) fun v10 M11 =>
    (if v10 = 0 then
     some ((0 : Int32), M11)
    else
     (Option.bind (isC 6 M11 a0) fun _ =>
     (ob2 (p_X7_takesSchool a0 (((724 : Int32) + ((2 : Int32) * v2)) + (1 : Int32)) M11) fun v14 M15 =>
     (if v14 = 0 then
      some ((0 : Int32), M15)
     else
      (Option.bind (gR 6 0 M15 a0) fun v17 =>
      (Option.bind (aI 0 M15 v17 (2 : Int32)) fun v18 =>
      (Option.bind (aIs M15 v17 (2 : Int32) (v18 + (1 : Int32))) fun M19 =>
      some ((1 : Int32), M19)
      )
      )
      )
     )
     )
     )
    )
    )
    )
   )
   )
   )
  ) fun k4 =>
  (if (20 : Int32) ≤ v2 then
   (k4 (0 : Int32))
  else
   (k4 (1 : Int32))
  )
  )
  )
  )
theorem yk_X7_readPupil : yok yX7_readPupil 0 := by decide +kernel
set_option maxHeartbeats 4000000 in
set_option maxRecDepth 100000 in
theorem w_X7_readPupil {G : gG} (hG : GOK G) {Z : gZ} (hZ : GS G Z) {l : Launch} {a0 : Nat} {M : Mem} {r : Int32} {M' : Mem} (hp : p_X7_readPupil a0 M = some (r, M')) : CT G l yX7_readPupil (wT yX7_readPupil cX7_readPupil 2 (some FieldType.boolean)) rm_X7_readPupil [.ref a0] M (some (.int r)) M' 0 0 := by
  refine CT_of (own := RX7) (maxL := 2) (ret := (some FieldType.boolean)) hG (by decide) rfl (Nat.le_of_ble_eq_true rfl) (fun p e s m below meth c A C0 hr hlk hM ls hl => ?_)
  have hl : lv_has ls 2 [(0, .ref a0)] := hl
  generalize ([.ref a0] : List Value).toArray = args at C0 ⊢
  skip
  have hx := C0.1
  have hb := C0.2.1
  have hown := C0.2.2.2.1
  have hts := C0.2.2.2.2.1
  unfold p_X7_readPupil at hp
  refine lv_aload_n hx hb dX7_readPupil_0 rfl (lv_at hl 0 rfl) ?_
  obtain ⟨v1, hv1, hp⟩ := ob hp
  refine mr_getR C0 cbX7 hM 0 (by decide) tw_1224 hv1 dX7_readPupil_1 ?_
  refine lv_iconst (v := 2) hx hb dX7_readPupil_4 (by decide) ?_
  obtain ⟨v2, hv2, hp⟩ := ob hp
  refine mr_iald C0 hM hv2 dX7_readPupil_5 ?_
  refine lv_istore_n (lv' := [(1, .int v2), (0, .ref a0)]) hx hb dX7_readPupil_6 rfl hl (by decide) rfl (fun ls hl => ?_)
  refine lv_aload_n hx hb dX7_readPupil_7 rfl (lv_at hl 1 rfl) ?_
  refine lv_iload_n hx hb dX7_readPupil_8 rfl (lv_at hl 0 rfl) ?_
  refine lv_bipush (v := 20) hx hb dX7_readPupil_9 (by decide) ?_
  obtain ⟨k4, ek4, hp⟩ := ojn hp
  have hk4 : ∀ (s3 : Int32) (H : Heap) (locs : List Loc) (ls : Array Slot), mm G A s M H locs → lv_has ls 2 [(0, .ref a0), (1, .int v2)] → k4 s3 = some (r, M') → W p l e rm_X7_readPupil s m args below meth c H locs 0 0 (MQ below (CQ G M' (some (.int r)) A) args s 0 0 A) (F0 m 19 ls [.int s3, .ref a0]) := by
    intro s3 H locs ls hM hl hp
    rw [ek4] at hp
    obtain ⟨_, h5, hp⟩ := ob hp
    obtain ⟨v6, M7, hv6, hp⟩ := ob3 hp
    refine mr_V1 (As := [.int s3]) (rest := []) C0 cbX7 hM h5 rfl (w_X7_starts hG hv6) tw_1366 tw_1368 tws_15 tw_7 tw_1369 yk_X7_starts (by decide) rfl hl.1 (Nat.le_of_ble_eq_true rfl) dX7_readPupil_19 rfl (fun H locs hM => ?_)
    refine lv_if_eq (tgt := 58) hx hb dX7_readPupil_22 (by decide) (fun c8 => ?_) (fun c8 => ?_)
    · replace hp := oT c8 hp
      refine lv_iconst (v := 0) hx hb dX7_readPupil_58 (by decide) ?_
      exact mr_zret C0 hr hlk hM (Prod.mk.inj (Option.some.inj hp)).2 (Or.inl rfl) (Prod.mk.inj (Option.some.inj hp)).1 (Nat.le_refl _) (Nat.le_refl _) dX7_readPupil_59
    · replace hp := oF c8 hp
      refine lv_aload_n hx hb dX7_readPupil_25 rfl (lv_at hl 0 rfl) ?_
      refine lv_sipush (v := 724) hx hb dX7_readPupil_26 (by decide) ?_
      refine lv_iconst (v := 2) hx hb dX7_readPupil_29 (by decide) ?_
      refine lv_iload_n hx hb dX7_readPupil_30 rfl (lv_at hl 1 rfl) ?_
      refine lv_imul hx hb dX7_readPupil_31 ?_
      refine lv_iadd hx hb dX7_readPupil_32 ?_
      refine lv_iconst (v := 1) hx hb dX7_readPupil_33 (by decide) ?_
      refine lv_bipush (v := 99) hx hb dX7_readPupil_34 (by decide) ?_
      obtain ⟨_, h9, hp⟩ := ob hp
      obtain ⟨v10, M11, hv10, hp⟩ := ob3 hp
      refine mr_V1 (As := [.int ((724 : Int32) + ((2 : Int32) * v2)), .int (1 : Int32), .int (99 : Int32)]) (rest := []) C0 cbX7 hM h9 rfl (w_X7_takesInto hG hv10) tw_1396 tw_1398 tws_20 tw_7 tw_1399 yk_X7_takesInto (by decide) rfl hl.1 (Nat.le_of_ble_eq_true rfl) dX7_readPupil_36 rfl (fun H locs hM => ?_)
      refine lv_if_eq (tgt := 58) hx hb dX7_readPupil_39 (by decide) (fun c12 => ?_) (fun c12 => ?_)
      · replace hp := oT c12 hp
        refine lv_iconst (v := 0) hx hb dX7_readPupil_58 (by decide) ?_
        exact mr_zret C0 hr hlk hM (Prod.mk.inj (Option.some.inj hp)).2 (Or.inl rfl) (Prod.mk.inj (Option.some.inj hp)).1 (Nat.le_refl _) (Nat.le_refl _) dX7_readPupil_59
      · replace hp := oF c12 hp
        refine lv_aload_n hx hb dX7_readPupil_42 rfl (lv_at hl 0 rfl) ?_
        refine lv_sipush (v := 724) hx hb dX7_readPupil_43 (by decide) ?_
        refine lv_iconst (v := 2) hx hb dX7_readPupil_46 (by decide) ?_
        refine lv_iload_n hx hb dX7_readPupil_47 rfl (lv_at hl 1 rfl) ?_
        refine lv_imul hx hb dX7_readPupil_48 ?_
        refine lv_iadd hx hb dX7_readPupil_49 ?_
        refine lv_iconst (v := 1) hx hb dX7_readPupil_50 (by decide) ?_
        refine lv_iadd hx hb dX7_readPupil_51 ?_
        obtain ⟨_, h13, hp⟩ := ob hp
        obtain ⟨v14, M15, hv14, hp⟩ := ob3 hp
        refine mr_V1 (As := [.int (((724 : Int32) + ((2 : Int32) * v2)) + (1 : Int32))]) (rest := []) C0 cbX7 hM h13 rfl (w_X7_takesSchool hG hZ hv14) tw_1416 tw_1418 tws_25 tw_7 tw_1419 yk_X7_takesSchool (by decide) rfl hl.1 (Nat.le_of_ble_eq_true rfl) dX7_readPupil_52 rfl (fun H locs hM => ?_)
        refine lv_if_ne (tgt := 60) hx hb dX7_readPupil_55 (by decide) (fun c16 => ?_) (fun c16 => ?_)
        · replace hp := oF c16 hp
          refine lv_aload_n hx hb dX7_readPupil_60 rfl (lv_at hl 0 rfl) ?_
          obtain ⟨v17, hv17, hp⟩ := ob hp
          refine mr_getR C0 cbX7 hM 0 (by decide) tw_1224 hv17 dX7_readPupil_61 ?_
          refine lv_iconst (v := 2) hx hb dX7_readPupil_64 (by decide) ?_
          refine lv_dup2_11 hx hb dX7_readPupil_65 rfl rfl ?_
          obtain ⟨v18, hv18, hp⟩ := ob hp
          refine mr_iald C0 hM hv18 dX7_readPupil_66 ?_
          refine lv_iconst (v := 1) hx hb dX7_readPupil_67 (by decide) ?_
          refine lv_iadd hx hb dX7_readPupil_68 ?_
          obtain ⟨M19, hM19, hp⟩ := ob hp
          refine mr_iast C0 hM hM19 dX7_readPupil_69 (fun H locs hM => ?_)
          refine lv_iconst (v := 1) hx hb dX7_readPupil_70 (by decide) ?_
          exact mr_zret C0 hr hlk hM (Prod.mk.inj (Option.some.inj hp)).2 (Or.inr rfl) (Prod.mk.inj (Option.some.inj hp)).1 (Nat.le_refl _) (Nat.le_refl _) dX7_readPupil_71
        · replace hp := oT c16 hp
          refine lv_iconst (v := 0) hx hb dX7_readPupil_58 (by decide) ?_
          exact mr_zret C0 hr hlk hM (Prod.mk.inj (Option.some.inj hp)).2 (Or.inl rfl) (Prod.mk.inj (Option.some.inj hp)).1 (Nat.le_refl _) (Nat.le_refl _) dX7_readPupil_59
  refine lv_icmp_ge (tgt := 18) hx hb dX7_readPupil_11 (by decide) (fun c20 => ?_) (fun c20 => ?_)
  · replace hp := oT c20 hp
    refine lv_iconst (v := 0) hx hb dX7_readPupil_18 (by decide) ?_
    exact hk4 _ _ _ _ hM (lv_sub hl [1, 0] rfl) hp
  · replace hp := oF c20 hp
    refine lv_iconst (v := 1) hx hb dX7_readPupil_14 (by decide) ?_
    refine lv_goto (tgt := 19) hx hb dX7_readPupil_15 (by decide) ?_
    exact hk4 _ _ _ _ hM (lv_sub hl [1, 0] rfl) hp
abbrev rm_X7_readWishes : Room := { frames := 6, cells := 0, slots := 0, locals := 128 }
def pl_X7_readWishes_0 (k1 : Mem → Option (Int32 × Mem)) (k2 : Mem → Option (Int32 × Mem)) (k3 : Mem → Option (Int32 × Mem)) (f0 : Nat) (f1 : Int32) : Nat → Mem → Option (Int32 × Mem)
  | 0, _ => none
  | n + 1, M =>
    (Option.bind (isC 6 M f0) fun _ =>
    (Option.bind (p_X7_isName f0 M) fun v12 =>
    (if v12 = 0 then
     (k1  M)
    else
     (Option.bind (gR 6 0 M f0) fun v14 =>
     (Option.bind (aI 0 M v14 ((324 : Int32) + f1)) fun v15 =>
     (if v15 = (4 : Int32) then
      (k1  M)
     else
      (Option.bind (isC 6 M f0) fun _ =>
      (Option.bind (p_X7_find f0 M) fun v18 =>
      (if v18 = (-1 : Int32) then
       (k2  M)
      else
       (Option.bind (isC 6 M f0) fun _ =>
       (Option.bind (p_X7_wishOf f0 f1 v18 M) fun v21 =>
       (if v21 = (-1 : Int32) then
        (Option.bind (gR 6 0 M f0) fun v23 =>
        (Option.bind (gR 6 0 M f0) fun v24 =>
        (Option.bind (aI 0 M v24 ((324 : Int32) + f1)) fun v25 =>
        (Option.bind (aIs M v23 (((564 : Int32) + ((4 : Int32) * f1)) + v25) v18) fun M26 =>
        (Option.bind (gR 6 0 M26 f0) fun v27 =>
        (Option.bind (aI 0 M26 v27 ((324 : Int32) + f1)) fun v28 =>
        (Option.bind (aIs M26 v27 ((324 : Int32) + f1) (v28 + (1 : Int32))) fun M29 =>
        (Option.bind (isC 6 M29 f0) fun _ =>
        (Option.bind (p_X7_advanceToken f0 M29) fun M31 =>
        (Option.bind (gI 6 20 M31 f0) fun v32 =>
        (if v32 = (1 : Int32) then
         (pl_X7_readWishes_0 k1 k2 k3 f0 f1 n M31)
        else
         (k3  M31)
        )
        )
        )
        )
        )
        )
        )
        )
        )
        )
        )
       else
        (k2  M)
       )
       )
       )
      )
      )
      )
     )
     )
     )
    )
    )
    )
set_option maxHeartbeats 4000000 in
set_option maxRecDepth 100000 in
theorem wl_X7_readWishes_0 {G : gG} {p : Program} {l : Launch} {e : Env} {s : State} {m : MethodId} {args : Array Value} {below : List Frame} {meth : Method} {c : Code} {A : Nat → Prop} {Z : gZ} {r : Int32} {M' : Mem} {k1 : Mem → Option (Int32 × Mem)} {k2 : Mem → Option (Int32 × Mem)} {k3 : Mem → Option (Int32 × Mem)} {f0 : Nat} {f1 : Int32} (C0 : cx G p s m args c cX7_readWishes RX7 3 A) (hr : meth.sig.returnType = (some FieldType.boolean)) (hlk : meth.locks = false) (hG : GOK G) (hZ : GS G Z) (hk1 : ∀ (M : Mem) (H : Heap) (locs : List Loc) (ls : Array Slot), mm G A s M H locs → lv_has ls 3 [(0, .ref f0)] → k1 M = some (r, M') → W p l e rm_X7_readWishes s m args below meth c H locs 0 0 (MQ below (CQ G M' (some (.int r)) A) args s 0 0 A) (F0 m 21 ls [])) (hk2 : ∀ (M : Mem) (H : Heap) (locs : List Loc) (ls : Array Slot), mm G A s M H locs → lv_has ls 3 [(0, .ref f0)] → k2 M = some (r, M') → W p l e rm_X7_readWishes s m args below meth c H locs 0 0 (MQ below (CQ G M' (some (.int r)) A) args s 0 0 A) (F0 m 47 ls [])) (hk3 : ∀ (M : Mem) (H : Heap) (locs : List Loc) (ls : Array Slot), mm G A s M H locs → lv_has ls 3 [] → k3 M = some (r, M') → W p l e rm_X7_readWishes s m args below meth c H locs 0 0 (MQ below (CQ G M' (some (.int r)) A) args s 0 0 A) (F0 m 103 ls [])) : ∀ (n : Nat) (M : Mem) (H : Heap) (locs : List Loc) (ls : Array Slot), mm G A s M H locs → lv_has ls 3 [(0, .ref f0), (1, .int f1)] → pl_X7_readWishes_0 k1 k2 k3 f0 f1 n M = some (r, M') → W p l e rm_X7_readWishes s m args below meth c H locs 0 0 (MQ below (CQ G M' (some (.int r)) A) args s 0 0 A) (F0 m 0 ls []) := by
  have hx := C0.1
  have hb := C0.2.1
  have hown := C0.2.2.2.1
  have hts := C0.2.2.2.2.1
  intro n
  induction n with
  | zero => intro M H locs ls hM hl hp; rw [pl_X7_readWishes_0] at hp; cases hp
  | succ n ih =>
    intro M H locs ls hM hl hp
    rw [pl_X7_readWishes_0] at hp
    refine lv_aload_n hx hb dX7_readWishes_0 rfl (lv_at hl 0 rfl) ?_
    obtain ⟨_, h11, hp⟩ := ob hp
    obtain ⟨v12, hv12, hp⟩ := ob hp
    refine mr_V1 (As := []) (rest := []) C0 cbX7 hM h11 rfl (w_X7_isName hG hZ hv12) tw_1374 tw_1376 tws_17 tw_7 tw_1377 yk_X7_isName (by decide) rfl hl.1 (Nat.le_of_ble_eq_true rfl) dX7_readWishes_1 rfl (fun H locs hM => ?_)
    refine lv_if_eq (tgt := 21) hx hb dX7_readWishes_4 (by decide) (fun c13 => ?_) (fun c13 => ?_)
    · replace hp := oT c13 hp
      exact hk1  _ _ _ _ hM (lv_sub hl [0] rfl) hp
    · replace hp := oF c13 hp
      refine lv_aload_n hx hb dX7_readWishes_7 rfl (lv_at hl 0 rfl) ?_
      obtain ⟨v14, hv14, hp⟩ := ob hp
      refine mr_getR C0 cbX7 hM 0 (by decide) tw_1224 hv14 dX7_readWishes_8 ?_
      refine lv_sipush (v := 324) hx hb dX7_readWishes_11 (by decide) ?_
      refine lv_iload_n hx hb dX7_readWishes_14 rfl (lv_at hl 1 rfl) ?_
      refine lv_iadd hx hb dX7_readWishes_15 ?_
      obtain ⟨v15, hv15, hp⟩ := ob hp
      refine mr_iald C0 hM hv15 dX7_readWishes_16 ?_
      refine lv_iconst (v := 4) hx hb dX7_readWishes_17 (by decide) ?_
      refine lv_icmp_ne (tgt := 27) hx hb dX7_readWishes_18 (by decide) (fun c16 => ?_) (fun c16 => ?_)
      · replace hp := oF c16 hp
        refine lv_aload_n hx hb dX7_readWishes_27 rfl (lv_at hl 0 rfl) ?_
        obtain ⟨_, h17, hp⟩ := ob hp
        obtain ⟨v18, hv18, hp⟩ := ob hp
        refine mr_V1 (As := []) (rest := []) C0 cbX7 hM h17 rfl (w_X7_find hG hv18) tw_1388 tw_1390 tws_18 tw_7 tw_1391 yk_X7_find (by decide) rfl hl.1 (Nat.le_of_ble_eq_true rfl) dX7_readWishes_28 rfl (fun H locs hM => ?_)
        refine lv_istore_n (lv' := [(2, .int v18), (0, .ref f0), (1, .int f1)]) hx hb dX7_readWishes_31 rfl hl (by decide) rfl (fun ls hl => ?_)
        refine lv_iload_n hx hb dX7_readWishes_32 rfl (lv_at hl 0 rfl) ?_
        refine lv_iconst (v := -1) hx hb dX7_readWishes_33 (by decide) ?_
        refine lv_icmp_eq (tgt := 47) hx hb dX7_readWishes_34 (by decide) (fun c19 => ?_) (fun c19 => ?_)
        · replace hp := oT c19 hp
          exact hk2  _ _ _ _ hM (lv_sub hl [1] rfl) hp
        · replace hp := oF c19 hp
          refine lv_aload_n hx hb dX7_readWishes_37 rfl (lv_at hl 1 rfl) ?_
          refine lv_iload_n hx hb dX7_readWishes_38 rfl (lv_at hl 2 rfl) ?_
          refine lv_iload_n hx hb dX7_readWishes_39 rfl (lv_at hl 0 rfl) ?_
          obtain ⟨_, h20, hp⟩ := ob hp
          obtain ⟨v21, hv21, hp⟩ := ob hp
          refine mr_V1 (As := [.int f1, .int v18]) (rest := []) C0 cbX7 hM h20 rfl (w_X7_wishOf hG hv21) tw_1428 tw_1430 tws_28 tw_7 tw_1431 yk_X7_wishOf (by decide) rfl hl.1 (Nat.le_of_ble_eq_true rfl) dX7_readWishes_40 rfl (fun H locs hM => ?_)
          refine lv_iconst (v := -1) hx hb dX7_readWishes_43 (by decide) ?_
          refine lv_icmp_eq (tgt := 53) hx hb dX7_readWishes_44 (by decide) (fun c22 => ?_) (fun c22 => ?_)
          · replace hp := oT c22 hp
            refine lv_aload_n hx hb dX7_readWishes_53 rfl (lv_at hl 1 rfl) ?_
            obtain ⟨v23, hv23, hp⟩ := ob hp
            refine mr_getR C0 cbX7 hM 0 (by decide) tw_1224 hv23 dX7_readWishes_54 ?_
            refine lv_sipush (v := 564) hx hb dX7_readWishes_57 (by decide) ?_
            refine lv_iconst (v := 4) hx hb dX7_readWishes_60 (by decide) ?_
            refine lv_iload_n hx hb dX7_readWishes_61 rfl (lv_at hl 2 rfl) ?_
            refine lv_imul hx hb dX7_readWishes_62 ?_
            refine lv_iadd hx hb dX7_readWishes_63 ?_
            refine lv_aload_n hx hb dX7_readWishes_64 rfl (lv_at hl 1 rfl) ?_
            obtain ⟨v24, hv24, hp⟩ := ob hp
            refine mr_getR C0 cbX7 hM 0 (by decide) tw_1224 hv24 dX7_readWishes_65 ?_
            refine lv_sipush (v := 324) hx hb dX7_readWishes_68 (by decide) ?_
            refine lv_iload_n hx hb dX7_readWishes_71 rfl (lv_at hl 2 rfl) ?_
            refine lv_iadd hx hb dX7_readWishes_72 ?_
            obtain ⟨v25, hv25, hp⟩ := ob hp
            refine mr_iald C0 hM hv25 dX7_readWishes_73 ?_
            refine lv_iadd hx hb dX7_readWishes_74 ?_
            refine lv_iload_n hx hb dX7_readWishes_75 rfl (lv_at hl 0 rfl) ?_
            obtain ⟨M26, hM26, hp⟩ := ob hp
            refine mr_iast C0 hM hM26 dX7_readWishes_76 (fun H locs hM => ?_)
            refine lv_aload_n hx hb dX7_readWishes_77 rfl (lv_at hl 1 rfl) ?_
            obtain ⟨v27, hv27, hp⟩ := ob hp
            refine mr_getR C0 cbX7 hM 0 (by decide) tw_1224 hv27 dX7_readWishes_78 ?_
            refine lv_sipush (v := 324) hx hb dX7_readWishes_81 (by decide) ?_
            refine lv_iload_n hx hb dX7_readWishes_84 rfl (lv_at hl 2 rfl) ?_
            refine lv_iadd hx hb dX7_readWishes_85 ?_
            refine lv_dup2_11 hx hb dX7_readWishes_86 rfl rfl ?_
            obtain ⟨v28, hv28, hp⟩ := ob hp
            refine mr_iald C0 hM hv28 dX7_readWishes_87 ?_
            refine lv_iconst (v := 1) hx hb dX7_readWishes_88 (by decide) ?_
            refine lv_iadd hx hb dX7_readWishes_89 ?_
            obtain ⟨M29, hM29, hp⟩ := ob hp
            refine mr_iast C0 hM hM29 dX7_readWishes_90 (fun H locs hM => ?_)
            refine lv_aload_n hx hb dX7_readWishes_91 rfl (lv_at hl 1 rfl) ?_
            obtain ⟨_, h30, hp⟩ := ob hp
            obtain ⟨M31, hM31, hp⟩ := ob hp
            refine mr_V0 (As := []) (rest := []) C0 cbX7 hM h30 rfl (w_X7_advanceToken hG hM31) tw_1335 tw_1337 tws_8 tw_7 tw_1338 yk_X7_advanceToken (by decide) rfl hl.1 (Nat.le_of_ble_eq_true rfl) dX7_readWishes_92 rfl (fun H locs hM => ?_)
            refine lv_aload_n hx hb dX7_readWishes_95 rfl (lv_at hl 1 rfl) ?_
            obtain ⟨v32, hv32, hp⟩ := ob hp
            refine mr_getI C0 cbX7 hM 20 (by decide) tw_1244 hv32 dX7_readWishes_96 ?_
            refine lv_iconst (v := 1) hx hb dX7_readWishes_99 (by decide) ?_
            refine lv_icmp_eq (tgt := 0) hx hb dX7_readWishes_100 (by decide) (fun c33 => ?_) (fun c33 => ?_)
            · replace hp := oT c33 hp
              exact ih  _ _ _ _ hM (lv_sub hl [1, 2] rfl) hp
            · replace hp := oF c33 hp
              exact hk3  _ _ _ _ hM (lv_sub hl [] rfl) hp
          · replace hp := oF c22 hp
            exact hk2  _ _ _ _ hM (lv_sub hl [1] rfl) hp
      · replace hp := oT c16 hp
        exact hk1  _ _ _ _ hM (lv_sub hl [0] rfl) hp
def p_X7_readWishes (a0 : Nat) (a1 : Int32) (M : Mem) : Option (Int32 × Mem) :=
  (jn (fun  (M1 : Mem) =>
   (Option.bind (isC 6 M1 a0) fun _ =>
   (ob2 (p_X7_failsAt a0 (1 : Int32) M1) fun v4 M5 =>
   (if v4 = 0 ∨ v4 = 1 then some (v4, M5) else none)
   )
   )
  ) fun k2 =>
  (jn (fun  (M6 : Mem) =>
   (Option.bind (isC 6 M6 a0) fun _ =>
   (ob2 (p_X7_failsAt a0 (3 : Int32) M6) fun v9 M10 =>
   (if v9 = 0 ∨ v9 = 1 then some (v9, M10) else none)
   )
   )
  ) fun k7 =>
  (pl_X7_readWishes_0
   (fun  (M34 : Mem) =>
    (k2  M34)
   )
   (fun  (M35 : Mem) =>
    (k7  M35)
   )
   (fun  (M36 : Mem) =>
    some ((1 : Int32), M36)
   )
   a0 a1 FU M)
  )
  )
theorem yk_X7_readWishes : yok yX7_readWishes 1 := by decide +kernel
set_option maxHeartbeats 4000000 in
set_option maxRecDepth 100000 in
theorem w_X7_readWishes {G : gG} (hG : GOK G) {Z : gZ} (hZ : GS G Z) {l : Launch} {a0 : Nat} {a1 : Int32} {M : Mem} {r : Int32} {M' : Mem} (hp : p_X7_readWishes a0 a1 M = some (r, M')) : CT G l yX7_readWishes (wT yX7_readWishes cX7_readWishes 3 (some FieldType.boolean)) rm_X7_readWishes [.ref a0, .int a1] M (some (.int r)) M' 0 0 := by
  refine CT_of (own := RX7) (maxL := 3) (ret := (some FieldType.boolean)) hG (by decide) rfl (Nat.le_of_ble_eq_true rfl) (fun p e s m below meth c A C0 hr hlk hM ls hl => ?_)
  have hl : lv_has ls 3 [(0, .ref a0), (1, .int a1)] := hl
  generalize ([.ref a0, .int a1] : List Value).toArray = args at C0 ⊢
  skip
  have hx := C0.1
  have hb := C0.2.1
  have hown := C0.2.2.2.1
  have hts := C0.2.2.2.2.1
  unfold p_X7_readWishes at hp
  obtain ⟨k2, ek2, hp⟩ := ojn hp
  have hk2 : ∀ (M1 : Mem) (H : Heap) (locs : List Loc) (ls : Array Slot), mm G A s M1 H locs → lv_has ls 3 [(0, .ref a0)] → k2  M1 = some (r, M') → W p l e rm_X7_readWishes s m args below meth c H locs 0 0 (MQ below (CQ G M' (some (.int r)) A) args s 0 0 A) (F0 m 21 ls []) := by
    intro  M1 H locs ls hM hl hp
    rw [ek2] at hp
    refine lv_aload_n hx hb dX7_readWishes_21 rfl (lv_at hl 0 rfl) ?_
    refine lv_iconst (v := 1) hx hb dX7_readWishes_22 (by decide) ?_
    obtain ⟨_, h3, hp⟩ := ob hp
    obtain ⟨v4, M5, hv4, hp⟩ := ob3 hp
    refine mr_V1 (As := [.int (1 : Int32)]) (rest := []) C0 cbX7 hM h3 rfl (w_X7_failsAt hG hv4) tw_1370 tw_1372 tws_16 tw_7 tw_1373 yk_X7_failsAt (by decide) rfl hl.1 (Nat.le_of_ble_eq_true rfl) dX7_readWishes_23 rfl (fun H locs hM => ?_)
    obtain ⟨hz, hp⟩ := oG hp
    exact mr_zret C0 hr hlk hM (Prod.mk.inj (Option.some.inj hp)).2 hz (Prod.mk.inj (Option.some.inj hp)).1 (Nat.le_refl _) (Nat.le_refl _) dX7_readWishes_26
  obtain ⟨k7, ek7, hp⟩ := ojn hp
  have hk7 : ∀ (M6 : Mem) (H : Heap) (locs : List Loc) (ls : Array Slot), mm G A s M6 H locs → lv_has ls 3 [(0, .ref a0)] → k7  M6 = some (r, M') → W p l e rm_X7_readWishes s m args below meth c H locs 0 0 (MQ below (CQ G M' (some (.int r)) A) args s 0 0 A) (F0 m 47 ls []) := by
    intro  M6 H locs ls hM hl hp
    rw [ek7] at hp
    refine lv_aload_n hx hb dX7_readWishes_47 rfl (lv_at hl 0 rfl) ?_
    refine lv_iconst (v := 3) hx hb dX7_readWishes_48 (by decide) ?_
    obtain ⟨_, h8, hp⟩ := ob hp
    obtain ⟨v9, M10, hv9, hp⟩ := ob3 hp
    refine mr_V1 (As := [.int (3 : Int32)]) (rest := []) C0 cbX7 hM h8 rfl (w_X7_failsAt hG hv9) tw_1370 tw_1372 tws_16 tw_7 tw_1373 yk_X7_failsAt (by decide) rfl hl.1 (Nat.le_of_ble_eq_true rfl) dX7_readWishes_49 rfl (fun H locs hM => ?_)
    obtain ⟨hz, hp⟩ := oG hp
    exact mr_zret C0 hr hlk hM (Prod.mk.inj (Option.some.inj hp)).2 hz (Prod.mk.inj (Option.some.inj hp)).1 (Nat.le_refl _) (Nat.le_refl _) dX7_readWishes_52
  refine wl_X7_readWishes_0 C0 hr hlk hG hZ (fun M34 H locs ls hM hl hp => ?_) (fun M35 H locs ls hM hl hp => ?_) (fun M36 H locs ls hM hl hp => ?_) FU  _ _ _ _ hM (lv_sub hl [0, 1] rfl) hp
  · exact hk2  _ _ _ _ hM (lv_sub hl [0] rfl) hp
  · exact hk7  _ _ _ _ hM (lv_sub hl [0] rfl) hp
  · refine lv_iconst (v := 1) hx hb dX7_readWishes_103 (by decide) ?_
    exact mr_zret C0 hr hlk hM (Prod.mk.inj (Option.some.inj hp)).2 (Or.inr rfl) (Prod.mk.inj (Option.some.inj hp)).1 (Nat.le_refl _) (Nat.le_refl _) dX7_readWishes_104
abbrev rm_X7_draws : Room := { frames := 0, cells := 0, slots := 0, locals := 0 }
def p_X7_draws (a0 : Nat) (a1 : Int32) (M : Mem) : Option (Mem) :=
  (Option.bind (gR 6 0 M a0) fun v1 =>
  (Option.bind (gR 6 0 M a0) fun v2 =>
  (Option.bind (aI 0 M v2 (11 : Int32)) fun v3 =>
  (Option.bind (aIs M v1 (11 : Int32) (((v3 * (1103515245 : Int32)) + (12345 : Int32)) &&& (2147483647 : Int32))) fun M4 =>
  (Option.bind (gR 6 0 M4 a0) fun v5 =>
  (Option.bind (gR 6 0 M4 a0) fun v6 =>
  (Option.bind (aI 0 M4 v6 (11 : Int32)) fun v7 =>
  (Option.bind (aIs M4 v5 ((284 : Int32) + a1) ((v7 / (65536 : Int32)) - (v7 / (65536 : Int32)) / (10000 : Int32) * (10000 : Int32))) fun M8 =>
  some M8
  )
  )
  )
  )
  )
  )
  )
  )
theorem yk_X7_draws : yok yX7_draws 1 := by decide +kernel
set_option maxHeartbeats 4000000 in
set_option maxRecDepth 100000 in
theorem w_X7_draws {G : gG} (hG : GOK G) {l : Launch} {a0 : Nat} {a1 : Int32} {M : Mem} {M' : Mem} (hp : p_X7_draws a0 a1 M = some M') : CT G l yX7_draws (wT yX7_draws cX7_draws 2 (none)) rm_X7_draws [.ref a0, .int a1] M none M' 0 0 := by
  refine CT_of (own := RX7) (maxL := 2) (ret := (none)) hG (by decide) rfl (Nat.le_of_ble_eq_true rfl) (fun p e s m below meth c A C0 hr hlk hM ls hl => ?_)
  have hl : lv_has ls 2 [(0, .ref a0), (1, .int a1)] := hl
  generalize ([.ref a0, .int a1] : List Value).toArray = args at C0 ⊢
  skip
  have hx := C0.1
  have hb := C0.2.1
  have hown := C0.2.2.2.1
  have hts := C0.2.2.2.2.1
  unfold p_X7_draws at hp
  refine lv_aload_n hx hb dX7_draws_0 rfl (lv_at hl 0 rfl) ?_
  obtain ⟨v1, hv1, hp⟩ := ob hp
  refine mr_getR C0 cbX7 hM 0 (by decide) tw_1224 hv1 dX7_draws_1 ?_
  refine lv_bipush (v := 11) hx hb dX7_draws_4 (by decide) ?_
  refine lv_aload_n hx hb dX7_draws_6 rfl (lv_at hl 0 rfl) ?_
  obtain ⟨v2, hv2, hp⟩ := ob hp
  refine mr_getR C0 cbX7 hM 0 (by decide) tw_1224 hv2 dX7_draws_7 ?_
  refine lv_bipush (v := 11) hx hb dX7_draws_10 (by decide) ?_
  obtain ⟨v3, hv3, hp⟩ := ob hp
  refine mr_iald C0 hM hv3 dX7_draws_12 ?_
  refine lv_ldc (v := 1103515245) hx hb hown (hts _ tw_1436) dX7_draws_13 ?_
  refine lv_imul hx hb dX7_draws_15 ?_
  refine lv_sipush (v := 12345) hx hb dX7_draws_16 (by decide) ?_
  refine lv_iadd hx hb dX7_draws_19 ?_
  refine lv_ldc (v := 2147483647) hx hb hown (hts _ tw_1437) dX7_draws_20 ?_
  refine lv_iand hx hb dX7_draws_22 ?_
  obtain ⟨M4, hM4, hp⟩ := ob hp
  refine mr_iast C0 hM hM4 dX7_draws_23 (fun H locs hM => ?_)
  refine lv_aload_n hx hb dX7_draws_24 rfl (lv_at hl 0 rfl) ?_
  obtain ⟨v5, hv5, hp⟩ := ob hp
  refine mr_getR C0 cbX7 hM 0 (by decide) tw_1224 hv5 dX7_draws_25 ?_
  refine lv_sipush (v := 284) hx hb dX7_draws_28 (by decide) ?_
  refine lv_iload_n hx hb dX7_draws_31 rfl (lv_at hl 1 rfl) ?_
  refine lv_iadd hx hb dX7_draws_32 ?_
  refine lv_aload_n hx hb dX7_draws_33 rfl (lv_at hl 0 rfl) ?_
  obtain ⟨v6, hv6, hp⟩ := ob hp
  refine mr_getR C0 cbX7 hM 0 (by decide) tw_1224 hv6 dX7_draws_34 ?_
  refine lv_bipush (v := 11) hx hb dX7_draws_37 (by decide) ?_
  obtain ⟨v7, hv7, hp⟩ := ob hp
  refine mr_iald C0 hM hv7 dX7_draws_39 ?_
  refine lv_ldc (v := 65536) hx hb hown (hts _ tw_1438) dX7_draws_40 ?_
  refine lv_idiv hx hb dX7_draws_42 (by decide) ?_
  refine lv_sipush (v := 10000) hx hb dX7_draws_43 (by decide) ?_
  refine lv_irem hx hb dX7_draws_46 (by decide) ?_
  obtain ⟨M8, hM8, hp⟩ := ob hp
  refine mr_iast C0 hM hM8 dX7_draws_47 (fun H locs hM => ?_)
  exact mr_vret C0 hr hlk hM (Option.some.inj hp) (Nat.le_refl _) (Nat.le_refl _) dX7_draws_48
abbrev rm_X7_readChild : Room := { frames := 7, cells := 0, slots := 0, locals := 150 }
def p_X7_readChild (a0 : Nat) (M : Mem) : Option (Int32 × Mem) :=
  (Option.bind (gR 6 0 M a0) fun v1 =>
  (Option.bind (aI 0 M v1 (1 : Int32)) fun v2 =>
  (jn (fun (s3 : Int32) =>
   (Option.bind (isC 6 M a0) fun _ =>
   (ob2 (p_X7_starts a0 s3 M) fun v6 M7 =>
   (if v6 = 0 then
    some ((0 : Int32), M7)
   else
    (Option.bind (isC 6 M7 a0) fun _ =>
    (ob2 (p_X7_takesInto a0 ((124 : Int32) + v2) (0 : Int32) (99 : Int32) M7) fun v10 M11 =>
    (if v10 = 0 then
     some ((0 : Int32), M11)
    else
     (Option.bind (isC 6 M11 a0) fun _ =>
     (ob2 (p_X7_takesInto a0 ((164 : Int32) + v2) (0 : Int32) (99 : Int32) M11) fun v14 M15 =>
     (if v14 = 0 then
      some ((0 : Int32), M15)
     else
      (Option.bind (isC 6 M15 a0) fun _ =>
      (Option.bind (p_X7_isWord a0 7 M15) fun v18 =>
      (jn (fun  (M19 : Mem) =>
       (Option.bind (isC 6 M19 a0) fun _ =>
       (Option.bind (p_X7_isWord a0 9 M19) fun v22 =>
       (jn (fun  (M23 : Mem) =>
        (Option.bind (isC 6 M23 a0) fun _ =>
        (Option.bind (p_X7_isWord a0 10 M23) fun v26 =>
        (if v26 = 0 then
         (Option.bind (isC 6 M23 a0) fun _ =>
         (ob2 (p_X7_failsAt a0 (1 : Int32) M23) fun v40 M41 =>
         (if v40 = 0 ∨ v40 = 1 then some (v40, M41) else none)
         )
         )
        else
         (Option.bind (isC 6 M23 a0) fun _ =>
         (Option.bind (p_X7_advanceToken a0 M23) fun M29 =>
         (Option.bind (isC 6 M29 a0) fun _ =>
         (ob2 (p_X7_readWishes a0 v2 M29) fun v31 M32 =>
         (if v31 = 0 then
          some ((0 : Int32), M32)
         else
          (Option.bind (isC 6 M32 a0) fun _ =>
          (Option.bind (p_X7_draws a0 v2 M32) fun M35 =>
          (Option.bind (gR 6 0 M35 a0) fun v36 =>
          (Option.bind (aI 0 M35 v36 (1 : Int32)) fun v37 =>
          (Option.bind (aIs M35 v36 (1 : Int32) (v37 + (1 : Int32))) fun M38 =>
          some ((1 : Int32), M38)
          )
          )
          )
          )
          )
         )
         )
         )
         )
         )
        )
        )
        )
       ) fun k24 =>
       (if v22 = 0 then
        (k24  M19)
       else
        (Option.bind (isC 6 M19 a0) fun _ =>
        (Option.bind (p_X7_advanceToken a0 M19) fun M44 =>
        (Option.bind (isC 6 M44 a0) fun _ =>
        (ob2 (p_X7_takesInto a0 ((204 : Int32) + v2) (1 : Int32) (99 : Int32) M44) fun v46 M47 =>
        (if v46 = 0 then
         some ((0 : Int32), M47)
        else
         (k24  M47)
        )
        )
        )
        )
        )
       )
       )
       )
       )
      ) fun k20 =>
      (if v18 = 0 then
       (k20  M15)
      else
       (Option.bind (gR 6 0 M15 a0) fun v50 =>
       (Option.bind (aIs M15 v50 ((244 : Int32) + v2) (1 : Int32)) fun M51 =>
       (Option.bind (isC 6 M51 a0) fun _ =>
       (Option.bind (p_X7_advanceToken a0 M51) fun M53 =>
       (k20  M53)
       )
       )
       )
       )
      )
      )
      )
      )
     )
     )
     )
    )
    )
    )
   )
   )
   )
  ) fun k4 =>
  (if (40 : Int32) ≤ v2 then
   (k4 (0 : Int32))
  else
   (k4 (1 : Int32))
  )
  )
  )
  )
theorem yk_X7_readChild : yok yX7_readChild 0 := by decide +kernel
set_option maxHeartbeats 4000000 in
set_option maxRecDepth 100000 in
theorem w_X7_readChild {G : gG} (hG : GOK G) {Z : gZ} (hZ : GS G Z) {l : Launch} {a0 : Nat} {M : Mem} {r : Int32} {M' : Mem} (hp : p_X7_readChild a0 M = some (r, M')) : CT G l yX7_readChild (wT yX7_readChild cX7_readChild 2 (some FieldType.boolean)) rm_X7_readChild [.ref a0] M (some (.int r)) M' 0 0 := by
  refine CT_of (own := RX7) (maxL := 2) (ret := (some FieldType.boolean)) hG (by decide) rfl (Nat.le_of_ble_eq_true rfl) (fun p e s m below meth c A C0 hr hlk hM ls hl => ?_)
  have hl : lv_has ls 2 [(0, .ref a0)] := hl
  generalize ([.ref a0] : List Value).toArray = args at C0 ⊢
  skip
  have hx := C0.1
  have hb := C0.2.1
  have hown := C0.2.2.2.1
  have hts := C0.2.2.2.2.1
  unfold p_X7_readChild at hp
  refine lv_aload_n hx hb dX7_readChild_0 rfl (lv_at hl 0 rfl) ?_
  obtain ⟨v1, hv1, hp⟩ := ob hp
  refine mr_getR C0 cbX7 hM 0 (by decide) tw_1224 hv1 dX7_readChild_1 ?_
  refine lv_iconst (v := 1) hx hb dX7_readChild_4 (by decide) ?_
  obtain ⟨v2, hv2, hp⟩ := ob hp
  refine mr_iald C0 hM hv2 dX7_readChild_5 ?_
  refine lv_istore_n (lv' := [(1, .int v2), (0, .ref a0)]) hx hb dX7_readChild_6 rfl hl (by decide) rfl (fun ls hl => ?_)
  refine lv_aload_n hx hb dX7_readChild_7 rfl (lv_at hl 1 rfl) ?_
  refine lv_iload_n hx hb dX7_readChild_8 rfl (lv_at hl 0 rfl) ?_
  refine lv_bipush (v := 40) hx hb dX7_readChild_9 (by decide) ?_
  obtain ⟨k4, ek4, hp⟩ := ojn hp
  have hk4 : ∀ (s3 : Int32) (H : Heap) (locs : List Loc) (ls : Array Slot), mm G A s M H locs → lv_has ls 2 [(0, .ref a0), (1, .int v2)] → k4 s3 = some (r, M') → W p l e rm_X7_readChild s m args below meth c H locs 0 0 (MQ below (CQ G M' (some (.int r)) A) args s 0 0 A) (F0 m 19 ls [.int s3, .ref a0]) := by
    intro s3 H locs ls hM hl hp
    rw [ek4] at hp
    obtain ⟨_, h5, hp⟩ := ob hp
    obtain ⟨v6, M7, hv6, hp⟩ := ob3 hp
    refine mr_V1 (As := [.int s3]) (rest := []) C0 cbX7 hM h5 rfl (w_X7_starts hG hv6) tw_1366 tw_1368 tws_15 tw_7 tw_1369 yk_X7_starts (by decide) rfl hl.1 (Nat.le_of_ble_eq_true rfl) dX7_readChild_19 rfl (fun H locs hM => ?_)
    refine lv_if_eq (tgt := 54) hx hb dX7_readChild_22 (by decide) (fun c8 => ?_) (fun c8 => ?_)
    · replace hp := oT c8 hp
      refine lv_iconst (v := 0) hx hb dX7_readChild_54 (by decide) ?_
      exact mr_zret C0 hr hlk hM (Prod.mk.inj (Option.some.inj hp)).2 (Or.inl rfl) (Prod.mk.inj (Option.some.inj hp)).1 (Nat.le_refl _) (Nat.le_refl _) dX7_readChild_55
    · replace hp := oF c8 hp
      refine lv_aload_n hx hb dX7_readChild_25 rfl (lv_at hl 0 rfl) ?_
      refine lv_bipush (v := 124) hx hb dX7_readChild_26 (by decide) ?_
      refine lv_iload_n hx hb dX7_readChild_28 rfl (lv_at hl 1 rfl) ?_
      refine lv_iadd hx hb dX7_readChild_29 ?_
      refine lv_iconst (v := 0) hx hb dX7_readChild_30 (by decide) ?_
      refine lv_bipush (v := 99) hx hb dX7_readChild_31 (by decide) ?_
      obtain ⟨_, h9, hp⟩ := ob hp
      obtain ⟨v10, M11, hv10, hp⟩ := ob3 hp
      refine mr_V1 (As := [.int ((124 : Int32) + v2), .int (0 : Int32), .int (99 : Int32)]) (rest := []) C0 cbX7 hM h9 rfl (w_X7_takesInto hG hv10) tw_1396 tw_1398 tws_20 tw_7 tw_1399 yk_X7_takesInto (by decide) rfl hl.1 (Nat.le_of_ble_eq_true rfl) dX7_readChild_33 rfl (fun H locs hM => ?_)
      refine lv_if_eq (tgt := 54) hx hb dX7_readChild_36 (by decide) (fun c12 => ?_) (fun c12 => ?_)
      · replace hp := oT c12 hp
        refine lv_iconst (v := 0) hx hb dX7_readChild_54 (by decide) ?_
        exact mr_zret C0 hr hlk hM (Prod.mk.inj (Option.some.inj hp)).2 (Or.inl rfl) (Prod.mk.inj (Option.some.inj hp)).1 (Nat.le_refl _) (Nat.le_refl _) dX7_readChild_55
      · replace hp := oF c12 hp
        refine lv_aload_n hx hb dX7_readChild_39 rfl (lv_at hl 0 rfl) ?_
        refine lv_sipush (v := 164) hx hb dX7_readChild_40 (by decide) ?_
        refine lv_iload_n hx hb dX7_readChild_43 rfl (lv_at hl 1 rfl) ?_
        refine lv_iadd hx hb dX7_readChild_44 ?_
        refine lv_iconst (v := 0) hx hb dX7_readChild_45 (by decide) ?_
        refine lv_bipush (v := 99) hx hb dX7_readChild_46 (by decide) ?_
        obtain ⟨_, h13, hp⟩ := ob hp
        obtain ⟨v14, M15, hv14, hp⟩ := ob3 hp
        refine mr_V1 (As := [.int ((164 : Int32) + v2), .int (0 : Int32), .int (99 : Int32)]) (rest := []) C0 cbX7 hM h13 rfl (w_X7_takesInto hG hv14) tw_1396 tw_1398 tws_20 tw_7 tw_1399 yk_X7_takesInto (by decide) rfl hl.1 (Nat.le_of_ble_eq_true rfl) dX7_readChild_48 rfl (fun H locs hM => ?_)
        refine lv_if_ne (tgt := 56) hx hb dX7_readChild_51 (by decide) (fun c16 => ?_) (fun c16 => ?_)
        · replace hp := oF c16 hp
          refine lv_aload_n hx hb dX7_readChild_56 rfl (lv_at hl 0 rfl) ?_
          refine mr_ldcS (i := 7) C0 hZ (by decide +kernel) rfl dX7_readChild_57 ?_
          obtain ⟨_, h17, hp⟩ := ob hp
          obtain ⟨v18, hv18, hp⟩ := ob hp
          refine mr_V1 (As := [.ref (Z.1 7)]) (rest := []) C0 cbX7 hM h17 rfl (w_X7_isWord hG hZ hv18) tw_1352 tw_1354 tws_12 tw_7 tw_1355 yk_X7_isWord (by decide) rfl hl.1 (Nat.le_of_ble_eq_true rfl) dX7_readChild_59 rfl (fun H locs hM => ?_)
          obtain ⟨k20, ek20, hp⟩ := ojn hp
          have hk20 : ∀ (M19 : Mem) (H : Heap) (locs : List Loc) (ls : Array Slot), mm G A s M19 H locs → lv_has ls 2 [(0, .ref a0), (1, .int v2)] → k20  M19 = some (r, M') → W p l e rm_X7_readChild s m args below meth c H locs 0 0 (MQ below (CQ G M' (some (.int r)) A) args s 0 0 A) (F0 m 80 ls []) := by
            intro  M19 H locs ls hM hl hp
            rw [ek20] at hp
            refine lv_aload_n hx hb dX7_readChild_80 rfl (lv_at hl 0 rfl) ?_
            refine mr_ldcS (i := 9) C0 hZ (by decide +kernel) rfl dX7_readChild_81 ?_
            obtain ⟨_, h21, hp⟩ := ob hp
            obtain ⟨v22, hv22, hp⟩ := ob hp
            refine mr_V1 (As := [.ref (Z.1 9)]) (rest := []) C0 cbX7 hM h21 rfl (w_X7_isWord hG hZ hv22) tw_1352 tw_1354 tws_12 tw_7 tw_1355 yk_X7_isWord (by decide) rfl hl.1 (Nat.le_of_ble_eq_true rfl) dX7_readChild_83 rfl (fun H locs hM => ?_)
            obtain ⟨k24, ek24, hp⟩ := ojn hp
            have hk24 : ∀ (M23 : Mem) (H : Heap) (locs : List Loc) (ls : Array Slot), mm G A s M23 H locs → lv_has ls 2 [(0, .ref a0), (1, .int v2)] → k24  M23 = some (r, M') → W p l e rm_X7_readChild s m args below meth c H locs 0 0 (MQ below (CQ G M' (some (.int r)) A) args s 0 0 A) (F0 m 110 ls []) := by
              intro  M23 H locs ls hM hl hp
              rw [ek24] at hp
              refine lv_aload_n hx hb dX7_readChild_110 rfl (lv_at hl 0 rfl) ?_
              refine mr_ldcS (i := 10) C0 hZ (by decide +kernel) rfl dX7_readChild_111 ?_
              obtain ⟨_, h25, hp⟩ := ob hp
              obtain ⟨v26, hv26, hp⟩ := ob hp
              refine mr_V1 (As := [.ref (Z.1 10)]) (rest := []) C0 cbX7 hM h25 rfl (w_X7_isWord hG hZ hv26) tw_1352 tw_1354 tws_12 tw_7 tw_1355 yk_X7_isWord (by decide) rfl hl.1 (Nat.le_of_ble_eq_true rfl) dX7_readChild_113 rfl (fun H locs hM => ?_)
              refine lv_if_ne (tgt := 125) hx hb dX7_readChild_116 (by decide) (fun c27 => ?_) (fun c27 => ?_)
              · replace hp := oF c27 hp
                refine lv_aload_n hx hb dX7_readChild_125 rfl (lv_at hl 0 rfl) ?_
                obtain ⟨_, h28, hp⟩ := ob hp
                obtain ⟨M29, hM29, hp⟩ := ob hp
                refine mr_V0 (As := []) (rest := []) C0 cbX7 hM h28 rfl (w_X7_advanceToken hG hM29) tw_1335 tw_1337 tws_8 tw_7 tw_1338 yk_X7_advanceToken (by decide) rfl hl.1 (Nat.le_of_ble_eq_true rfl) dX7_readChild_126 rfl (fun H locs hM => ?_)
                refine lv_aload_n hx hb dX7_readChild_129 rfl (lv_at hl 0 rfl) ?_
                refine lv_iload_n hx hb dX7_readChild_130 rfl (lv_at hl 1 rfl) ?_
                obtain ⟨_, h30, hp⟩ := ob hp
                obtain ⟨v31, M32, hv31, hp⟩ := ob3 hp
                refine mr_V1 (As := [.int v2]) (rest := []) C0 cbX7 hM h30 rfl (w_X7_readWishes hG hZ hv31) tw_1424 tw_1426 tws_27 tw_7 tw_1427 yk_X7_readWishes (by decide) rfl hl.1 (Nat.le_of_ble_eq_true rfl) dX7_readChild_131 rfl (fun H locs hM => ?_)
                refine lv_if_ne (tgt := 139) hx hb dX7_readChild_134 (by decide) (fun c33 => ?_) (fun c33 => ?_)
                · replace hp := oF c33 hp
                  refine lv_aload_n hx hb dX7_readChild_139 rfl (lv_at hl 0 rfl) ?_
                  refine lv_iload_n hx hb dX7_readChild_140 rfl (lv_at hl 1 rfl) ?_
                  obtain ⟨_, h34, hp⟩ := ob hp
                  obtain ⟨M35, hM35, hp⟩ := ob hp
                  refine mr_V0 (As := [.int v2]) (rest := []) C0 cbX7 hM h34 rfl (w_X7_draws hG hM35) tw_1432 tw_1434 tws_29 tw_7 tw_1435 yk_X7_draws (by decide) rfl hl.1 (Nat.le_of_ble_eq_true rfl) dX7_readChild_141 rfl (fun H locs hM => ?_)
                  refine lv_aload_n hx hb dX7_readChild_144 rfl (lv_at hl 0 rfl) ?_
                  obtain ⟨v36, hv36, hp⟩ := ob hp
                  refine mr_getR C0 cbX7 hM 0 (by decide) tw_1224 hv36 dX7_readChild_145 ?_
                  refine lv_iconst (v := 1) hx hb dX7_readChild_148 (by decide) ?_
                  refine lv_dup2_11 hx hb dX7_readChild_149 rfl rfl ?_
                  obtain ⟨v37, hv37, hp⟩ := ob hp
                  refine mr_iald C0 hM hv37 dX7_readChild_150 ?_
                  refine lv_iconst (v := 1) hx hb dX7_readChild_151 (by decide) ?_
                  refine lv_iadd hx hb dX7_readChild_152 ?_
                  obtain ⟨M38, hM38, hp⟩ := ob hp
                  refine mr_iast C0 hM hM38 dX7_readChild_153 (fun H locs hM => ?_)
                  refine lv_iconst (v := 1) hx hb dX7_readChild_154 (by decide) ?_
                  exact mr_zret C0 hr hlk hM (Prod.mk.inj (Option.some.inj hp)).2 (Or.inr rfl) (Prod.mk.inj (Option.some.inj hp)).1 (Nat.le_refl _) (Nat.le_refl _) dX7_readChild_155
                · replace hp := oT c33 hp
                  refine lv_iconst (v := 0) hx hb dX7_readChild_137 (by decide) ?_
                  exact mr_zret C0 hr hlk hM (Prod.mk.inj (Option.some.inj hp)).2 (Or.inl rfl) (Prod.mk.inj (Option.some.inj hp)).1 (Nat.le_refl _) (Nat.le_refl _) dX7_readChild_138
              · replace hp := oT c27 hp
                refine lv_aload_n hx hb dX7_readChild_119 rfl (lv_at hl 0 rfl) ?_
                refine lv_iconst (v := 1) hx hb dX7_readChild_120 (by decide) ?_
                obtain ⟨_, h39, hp⟩ := ob hp
                obtain ⟨v40, M41, hv40, hp⟩ := ob3 hp
                refine mr_V1 (As := [.int (1 : Int32)]) (rest := []) C0 cbX7 hM h39 rfl (w_X7_failsAt hG hv40) tw_1370 tw_1372 tws_16 tw_7 tw_1373 yk_X7_failsAt (by decide) rfl hl.1 (Nat.le_of_ble_eq_true rfl) dX7_readChild_121 rfl (fun H locs hM => ?_)
                obtain ⟨hz, hp⟩ := oG hp
                exact mr_zret C0 hr hlk hM (Prod.mk.inj (Option.some.inj hp)).2 hz (Prod.mk.inj (Option.some.inj hp)).1 (Nat.le_refl _) (Nat.le_refl _) dX7_readChild_124
            refine lv_if_eq (tgt := 110) hx hb dX7_readChild_86 (by decide) (fun c42 => ?_) (fun c42 => ?_)
            · replace hp := oT c42 hp
              exact hk24  _ _ _ _ hM (lv_sub hl [0, 1] rfl) hp
            · replace hp := oF c42 hp
              refine lv_aload_n hx hb dX7_readChild_89 rfl (lv_at hl 0 rfl) ?_
              obtain ⟨_, h43, hp⟩ := ob hp
              obtain ⟨M44, hM44, hp⟩ := ob hp
              refine mr_V0 (As := []) (rest := []) C0 cbX7 hM h43 rfl (w_X7_advanceToken hG hM44) tw_1335 tw_1337 tws_8 tw_7 tw_1338 yk_X7_advanceToken (by decide) rfl hl.1 (Nat.le_of_ble_eq_true rfl) dX7_readChild_90 rfl (fun H locs hM => ?_)
              refine lv_aload_n hx hb dX7_readChild_93 rfl (lv_at hl 0 rfl) ?_
              refine lv_sipush (v := 204) hx hb dX7_readChild_94 (by decide) ?_
              refine lv_iload_n hx hb dX7_readChild_97 rfl (lv_at hl 1 rfl) ?_
              refine lv_iadd hx hb dX7_readChild_98 ?_
              refine lv_iconst (v := 1) hx hb dX7_readChild_99 (by decide) ?_
              refine lv_bipush (v := 99) hx hb dX7_readChild_100 (by decide) ?_
              obtain ⟨_, h45, hp⟩ := ob hp
              obtain ⟨v46, M47, hv46, hp⟩ := ob3 hp
              refine mr_V1 (As := [.int ((204 : Int32) + v2), .int (1 : Int32), .int (99 : Int32)]) (rest := []) C0 cbX7 hM h45 rfl (w_X7_takesInto hG hv46) tw_1396 tw_1398 tws_20 tw_7 tw_1399 yk_X7_takesInto (by decide) rfl hl.1 (Nat.le_of_ble_eq_true rfl) dX7_readChild_102 rfl (fun H locs hM => ?_)
              refine lv_if_ne (tgt := 110) hx hb dX7_readChild_105 (by decide) (fun c48 => ?_) (fun c48 => ?_)
              · replace hp := oF c48 hp
                exact hk24  _ _ _ _ hM (lv_sub hl [0, 1] rfl) hp
              · replace hp := oT c48 hp
                refine lv_iconst (v := 0) hx hb dX7_readChild_108 (by decide) ?_
                exact mr_zret C0 hr hlk hM (Prod.mk.inj (Option.some.inj hp)).2 (Or.inl rfl) (Prod.mk.inj (Option.some.inj hp)).1 (Nat.le_refl _) (Nat.le_refl _) dX7_readChild_109
          refine lv_if_eq (tgt := 80) hx hb dX7_readChild_62 (by decide) (fun c49 => ?_) (fun c49 => ?_)
          · replace hp := oT c49 hp
            exact hk20  _ _ _ _ hM (lv_sub hl [0, 1] rfl) hp
          · replace hp := oF c49 hp
            refine lv_aload_n hx hb dX7_readChild_65 rfl (lv_at hl 0 rfl) ?_
            obtain ⟨v50, hv50, hp⟩ := ob hp
            refine mr_getR C0 cbX7 hM 0 (by decide) tw_1224 hv50 dX7_readChild_66 ?_
            refine lv_sipush (v := 244) hx hb dX7_readChild_69 (by decide) ?_
            refine lv_iload_n hx hb dX7_readChild_72 rfl (lv_at hl 1 rfl) ?_
            refine lv_iadd hx hb dX7_readChild_73 ?_
            refine lv_iconst (v := 1) hx hb dX7_readChild_74 (by decide) ?_
            obtain ⟨M51, hM51, hp⟩ := ob hp
            refine mr_iast C0 hM hM51 dX7_readChild_75 (fun H locs hM => ?_)
            refine lv_aload_n hx hb dX7_readChild_76 rfl (lv_at hl 0 rfl) ?_
            obtain ⟨_, h52, hp⟩ := ob hp
            obtain ⟨M53, hM53, hp⟩ := ob hp
            refine mr_V0 (As := []) (rest := []) C0 cbX7 hM h52 rfl (w_X7_advanceToken hG hM53) tw_1335 tw_1337 tws_8 tw_7 tw_1338 yk_X7_advanceToken (by decide) rfl hl.1 (Nat.le_of_ble_eq_true rfl) dX7_readChild_77 rfl (fun H locs hM => ?_)
            exact hk20  _ _ _ _ hM (lv_sub hl [0, 1] rfl) hp
        · replace hp := oT c16 hp
          refine lv_iconst (v := 0) hx hb dX7_readChild_54 (by decide) ?_
          exact mr_zret C0 hr hlk hM (Prod.mk.inj (Option.some.inj hp)).2 (Or.inl rfl) (Prod.mk.inj (Option.some.inj hp)).1 (Nat.le_refl _) (Nat.le_refl _) dX7_readChild_55
  refine lv_icmp_ge (tgt := 18) hx hb dX7_readChild_11 (by decide) (fun c54 => ?_) (fun c54 => ?_)
  · replace hp := oT c54 hp
    refine lv_iconst (v := 0) hx hb dX7_readChild_18 (by decide) ?_
    exact hk4 _ _ _ _ hM (lv_sub hl [1, 0] rfl) hp
  · replace hp := oF c54 hp
    refine lv_iconst (v := 1) hx hb dX7_readChild_14 (by decide) ?_
    refine lv_goto (tgt := 19) hx hb dX7_readChild_15 (by decide) ?_
    exact hk4 _ _ _ _ hM (lv_sub hl [1, 0] rfl) hp
abbrev rm_X7_readSeed : Room := { frames := 3, cells := 0, slots := 0, locals := 66 }
def p_X7_readSeed (a0 : Nat) (M : Mem) : Option (Int32 × Mem) :=
  (Option.bind (gI 6 21 M a0) fun v1 =>
  (jn (fun (s2 : Int32) =>
   (Option.bind (gI 6 21 M a0) fun v4 =>
   (Option.bind (sV 6 21 M a0 (.int (v4 ||| (1 : Int32)))) fun M5 =>
   (Option.bind (isC 6 M5 a0) fun _ =>
   (ob2 (p_X7_starts a0 s2 M5) fun v7 M8 =>
   (if v7 = 0 then
    some ((0 : Int32), M8)
   else
    (Option.bind (isC 6 M8 a0) fun _ =>
    (ob2 (p_X7_takesInto a0 (11 : Int32) (0 : Int32) (999 : Int32) M8) fun v11 M12 =>
    (if v11 = 0 then
     some ((0 : Int32), M12)
    else
     some ((1 : Int32), M12)
    )
    )
    )
   )
   )
   )
   )
   )
  ) fun k3 =>
  (if (v1 &&& (1 : Int32)) = 0 then
   (Option.bind (gR 6 0 M a0) fun v15 =>
   (Option.bind (aI 0 M v15 (1 : Int32)) fun v16 =>
   (if v16 = 0 then
    (k3 (1 : Int32))
   else
    (k3 (0 : Int32))
   )
   )
   )
  else
   (k3 (0 : Int32))
  )
  )
  )
theorem yk_X7_readSeed : yok yX7_readSeed 0 := by decide +kernel
set_option maxHeartbeats 4000000 in
set_option maxRecDepth 100000 in
theorem w_X7_readSeed {G : gG} (hG : GOK G) {l : Launch} {a0 : Nat} {M : Mem} {r : Int32} {M' : Mem} (hp : p_X7_readSeed a0 M = some (r, M')) : CT G l yX7_readSeed (wT yX7_readSeed cX7_readSeed 2 (some FieldType.boolean)) rm_X7_readSeed [.ref a0] M (some (.int r)) M' 0 0 := by
  refine CT_of (own := RX7) (maxL := 2) (ret := (some FieldType.boolean)) hG (by decide) rfl (Nat.le_of_ble_eq_true rfl) (fun p e s m below meth c A C0 hr hlk hM ls hl => ?_)
  have hl : lv_has ls 2 [(0, .ref a0)] := hl
  generalize ([.ref a0] : List Value).toArray = args at C0 ⊢
  skip
  have hx := C0.1
  have hb := C0.2.1
  have hown := C0.2.2.2.1
  have hts := C0.2.2.2.2.1
  unfold p_X7_readSeed at hp
  refine lv_aload_n hx hb dX7_readSeed_0 rfl (lv_at hl 0 rfl) ?_
  obtain ⟨v1, hv1, hp⟩ := ob hp
  refine mr_getI C0 cbX7 hM 21 (by decide) tw_1245 hv1 dX7_readSeed_1 ?_
  refine lv_iconst (v := 1) hx hb dX7_readSeed_4 (by decide) ?_
  refine lv_iand hx hb dX7_readSeed_5 ?_
  obtain ⟨k3, ek3, hp⟩ := ojn hp
  have hk3 : ∀ (s2 : Int32) (H : Heap) (locs : List Loc) (ls : Array Slot), mm G A s M H locs → lv_has ls 2 [(0, .ref a0)] → k3 s2 = some (r, M') → W p l e rm_X7_readSeed s m args below meth c H locs 0 0 (MQ below (CQ G M' (some (.int r)) A) args s 0 0 A) (F0 m 23 ls [.int s2]) := by
    intro s2 H locs ls hM hl hp
    rw [ek3] at hp
    refine lv_istore_n (lv' := [(1, .int s2), (0, .ref a0)]) hx hb dX7_readSeed_23 rfl hl (by decide) rfl (fun ls hl => ?_)
    refine lv_aload_n hx hb dX7_readSeed_24 rfl (lv_at hl 1 rfl) ?_
    refine lv_dup hx hb dX7_readSeed_25 rfl ?_
    obtain ⟨v4, hv4, hp⟩ := ob hp
    refine mr_getI C0 cbX7 hM 21 (by decide) tw_1245 hv4 dX7_readSeed_26 ?_
    refine lv_iconst (v := 1) hx hb dX7_readSeed_29 (by decide) ?_
    refine lv_ior hx hb dX7_readSeed_30 ?_
    obtain ⟨M5, hM5, hp⟩ := ob hp
    refine mr_putI C0 cbX7 hM 21 (by decide) rfl rfl tw_1245 hM5 dX7_readSeed_31 (fun H locs hM => ?_)
    refine lv_aload_n hx hb dX7_readSeed_34 rfl (lv_at hl 1 rfl) ?_
    refine lv_iload_n hx hb dX7_readSeed_35 rfl (lv_at hl 0 rfl) ?_
    obtain ⟨_, h6, hp⟩ := ob hp
    obtain ⟨v7, M8, hv7, hp⟩ := ob3 hp
    refine mr_V1 (As := [.int s2]) (rest := []) C0 cbX7 hM h6 rfl (w_X7_starts hG hv7) tw_1366 tw_1368 tws_15 tw_7 tw_1369 yk_X7_starts (by decide) rfl hl.1 (Nat.le_of_ble_eq_true rfl) dX7_readSeed_36 rfl (fun H locs hM => ?_)
    refine lv_if_eq (tgt := 59) hx hb dX7_readSeed_39 (by decide) (fun c9 => ?_) (fun c9 => ?_)
    · replace hp := oT c9 hp
      refine lv_iconst (v := 0) hx hb dX7_readSeed_59 (by decide) ?_
      exact mr_zret C0 hr hlk hM (Prod.mk.inj (Option.some.inj hp)).2 (Or.inl rfl) (Prod.mk.inj (Option.some.inj hp)).1 (Nat.le_refl _) (Nat.le_refl _) dX7_readSeed_60
    · replace hp := oF c9 hp
      refine lv_aload_n hx hb dX7_readSeed_42 rfl (lv_at hl 1 rfl) ?_
      refine lv_bipush (v := 11) hx hb dX7_readSeed_43 (by decide) ?_
      refine lv_iconst (v := 0) hx hb dX7_readSeed_45 (by decide) ?_
      refine lv_sipush (v := 999) hx hb dX7_readSeed_46 (by decide) ?_
      obtain ⟨_, h10, hp⟩ := ob hp
      obtain ⟨v11, M12, hv11, hp⟩ := ob3 hp
      refine mr_V1 (As := [.int (11 : Int32), .int (0 : Int32), .int (999 : Int32)]) (rest := []) C0 cbX7 hM h10 rfl (w_X7_takesInto hG hv11) tw_1396 tw_1398 tws_20 tw_7 tw_1399 yk_X7_takesInto (by decide) rfl hl.1 (Nat.le_of_ble_eq_true rfl) dX7_readSeed_49 rfl (fun H locs hM => ?_)
      refine lv_if_eq (tgt := 59) hx hb dX7_readSeed_52 (by decide) (fun c13 => ?_) (fun c13 => ?_)
      · replace hp := oT c13 hp
        refine lv_iconst (v := 0) hx hb dX7_readSeed_59 (by decide) ?_
        exact mr_zret C0 hr hlk hM (Prod.mk.inj (Option.some.inj hp)).2 (Or.inl rfl) (Prod.mk.inj (Option.some.inj hp)).1 (Nat.le_refl _) (Nat.le_refl _) dX7_readSeed_60
      · replace hp := oF c13 hp
        refine lv_iconst (v := 1) hx hb dX7_readSeed_55 (by decide) ?_
        refine lv_goto (tgt := 60) hx hb dX7_readSeed_56 (by decide) ?_
        exact mr_zret C0 hr hlk hM (Prod.mk.inj (Option.some.inj hp)).2 (Or.inr rfl) (Prod.mk.inj (Option.some.inj hp)).1 (Nat.le_refl _) (Nat.le_refl _) dX7_readSeed_60
  refine lv_if_ne (tgt := 22) hx hb dX7_readSeed_6 (by decide) (fun c14 => ?_) (fun c14 => ?_)
  · replace hp := oF c14 hp
    refine lv_iconst (v := 0) hx hb dX7_readSeed_22 (by decide) ?_
    exact hk3 _ _ _ _ hM (lv_sub hl [0] rfl) hp
  · replace hp := oT c14 hp
    refine lv_aload_n hx hb dX7_readSeed_9 rfl (lv_at hl 0 rfl) ?_
    obtain ⟨v15, hv15, hp⟩ := ob hp
    refine mr_getR C0 cbX7 hM 0 (by decide) tw_1224 hv15 dX7_readSeed_10 ?_
    refine lv_iconst (v := 1) hx hb dX7_readSeed_13 (by decide) ?_
    obtain ⟨v16, hv16, hp⟩ := ob hp
    refine mr_iald C0 hM hv16 dX7_readSeed_14 ?_
    refine lv_if_ne (tgt := 22) hx hb dX7_readSeed_15 (by decide) (fun c17 => ?_) (fun c17 => ?_)
    · replace hp := oF c17 hp
      refine lv_iconst (v := 0) hx hb dX7_readSeed_22 (by decide) ?_
      exact hk3 _ _ _ _ hM (lv_sub hl [0] rfl) hp
    · replace hp := oT c17 hp
      refine lv_iconst (v := 1) hx hb dX7_readSeed_18 (by decide) ?_
      refine lv_goto (tgt := 23) hx hb dX7_readSeed_19 (by decide) ?_
      exact hk3 _ _ _ _ hM (lv_sub hl [0] rfl) hp
abbrev rm_X7_readStatement : Room := { frames := 8, cells := 0, slots := 0, locals := 172 }
def p_X7_readStatement (a0 : Nat) (M : Mem) : Option (Int32 × Mem) :=
  (Option.bind (isC 6 M a0) fun _ =>
  (Option.bind (p_X7_isWord a0 0 M) fun v2 =>
  (if v2 = 0 then
   (Option.bind (isC 6 M a0) fun _ =>
   (Option.bind (p_X7_isWord a0 1 M) fun v5 =>
   (if v5 = 0 then
    (Option.bind (isC 6 M a0) fun _ =>
    (Option.bind (p_X7_isWord a0 2 M) fun v8 =>
    (if v8 = 0 then
     (Option.bind (isC 6 M a0) fun _ =>
     (Option.bind (p_X7_isWord a0 3 M) fun v11 =>
     (if v11 = 0 then
      (Option.bind (isC 6 M a0) fun _ =>
      (Option.bind (p_X7_isWord a0 4 M) fun v14 =>
      (if v14 = 0 then
       (Option.bind (isC 6 M a0) fun _ =>
       (Option.bind (p_X7_isWord a0 5 M) fun v17 =>
       (if v17 = 0 then
        (Option.bind (isC 6 M a0) fun _ =>
        (Option.bind (p_X7_isWord a0 6 M) fun v20 =>
        (if v20 = 0 then
         (Option.bind (isC 6 M a0) fun _ =>
         (ob2 (p_X7_failsAt a0 (1 : Int32) M) fun v23 M24 =>
         (if v23 = 0 ∨ v23 = 1 then some (v23, M24) else none)
         )
         )
        else
         (Option.bind (isC 6 M a0) fun _ =>
         (ob2 (p_X7_startsOnce a0 (4 : Int32) M) fun v26 M27 =>
         (if v26 = 0 then
          some ((0 : Int32), M27)
         else
          (Option.bind (isC 6 M27 a0) fun _ =>
          (ob2 (p_X7_takesInto a0 (7 : Int32) (0 : Int32) (1 : Int32) M27) fun v30 M31 =>
          (if v30 = 0 then
           some ((0 : Int32), M31)
          else
           some ((1 : Int32), M31)
          )
          )
          )
         )
         )
         )
        )
        )
        )
       else
        (Option.bind (isC 6 M a0) fun _ =>
        (ob2 (p_X7_startsOnce a0 (2 : Int32) M) fun v34 M35 =>
        (if v34 = 0 then
         some ((0 : Int32), M35)
        else
         (Option.bind (isC 6 M35 a0) fun _ =>
         (ob2 (p_X7_takesInto a0 (6 : Int32) (0 : Int32) (9 : Int32) M35) fun v38 M39 =>
         (if v38 = 0 then
          some ((0 : Int32), M39)
         else
          some ((1 : Int32), M39)
         )
         )
         )
        )
        )
        )
       )
       )
       )
      else
       (Option.bind (isC 6 M a0) fun _ =>
       (ob2 (p_X7_readSeed a0 M) fun v42 M43 =>
       (if v42 = 0 ∨ v42 = 1 then some (v42, M43) else none)
       )
       )
      )
      )
      )
     else
      (Option.bind (isC 6 M a0) fun _ =>
      (ob2 (p_X7_readChild a0 M) fun v45 M46 =>
      (if v45 = 0 ∨ v45 = 1 then some (v45, M46) else none)
      )
      )
     )
     )
     )
    else
     (Option.bind (isC 6 M a0) fun _ =>
     (ob2 (p_X7_readPupil a0 M) fun v48 M49 =>
     (if v48 = 0 ∨ v48 = 1 then some (v48, M49) else none)
     )
     )
    )
    )
    )
   else
    (Option.bind (isC 6 M a0) fun _ =>
    (ob2 (p_X7_readZone a0 M) fun v51 M52 =>
    (if v51 = 0 ∨ v51 = 1 then some (v51, M52) else none)
    )
    )
   )
   )
   )
  else
   (Option.bind (isC 6 M a0) fun _ =>
   (ob2 (p_X7_readSchool a0 M) fun v54 M55 =>
   (if v54 = 0 ∨ v54 = 1 then some (v54, M55) else none)
   )
   )
  )
  )
  )
theorem yk_X7_readStatement : yok yX7_readStatement 0 := by decide +kernel
set_option maxHeartbeats 4000000 in
set_option maxRecDepth 100000 in
theorem w_X7_readStatement {G : gG} (hG : GOK G) {Z : gZ} (hZ : GS G Z) {l : Launch} {a0 : Nat} {M : Mem} {r : Int32} {M' : Mem} (hp : p_X7_readStatement a0 M = some (r, M')) : CT G l yX7_readStatement (wT yX7_readStatement cX7_readStatement 1 (some FieldType.boolean)) rm_X7_readStatement [.ref a0] M (some (.int r)) M' 0 0 := by
  refine CT_of (own := RX7) (maxL := 1) (ret := (some FieldType.boolean)) hG (by decide) rfl (Nat.le_of_ble_eq_true rfl) (fun p e s m below meth c A C0 hr hlk hM ls hl => ?_)
  have hl : lv_has ls 1 [(0, .ref a0)] := hl
  generalize ([.ref a0] : List Value).toArray = args at C0 ⊢
  skip
  have hx := C0.1
  have hb := C0.2.1
  have hown := C0.2.2.2.1
  have hts := C0.2.2.2.2.1
  unfold p_X7_readStatement at hp
  refine lv_aload_n hx hb dX7_readStatement_0 rfl (lv_at hl 0 rfl) ?_
  refine mr_ldcS (i := 0) C0 hZ (by decide +kernel) rfl dX7_readStatement_1 ?_
  obtain ⟨_, h1, hp⟩ := ob hp
  obtain ⟨v2, hv2, hp⟩ := ob hp
  refine mr_V1 (As := [.ref (Z.1 0)]) (rest := []) C0 cbX7 hM h1 rfl (w_X7_isWord hG hZ hv2) tw_1352 tw_1354 tws_12 tw_7 tw_1355 yk_X7_isWord (by decide) rfl hl.1 (Nat.le_of_ble_eq_true rfl) dX7_readStatement_3 rfl (fun H locs hM => ?_)
  refine lv_if_eq (tgt := 14) hx hb dX7_readStatement_6 (by decide) (fun c3 => ?_) (fun c3 => ?_)
  · replace hp := oT c3 hp
    refine lv_aload_n hx hb dX7_readStatement_14 rfl (lv_at hl 0 rfl) ?_
    refine mr_ldcS (i := 1) C0 hZ (by decide +kernel) rfl dX7_readStatement_15 ?_
    obtain ⟨_, h4, hp⟩ := ob hp
    obtain ⟨v5, hv5, hp⟩ := ob hp
    refine mr_V1 (As := [.ref (Z.1 1)]) (rest := []) C0 cbX7 hM h4 rfl (w_X7_isWord hG hZ hv5) tw_1352 tw_1354 tws_12 tw_7 tw_1355 yk_X7_isWord (by decide) rfl hl.1 (Nat.le_of_ble_eq_true rfl) dX7_readStatement_17 rfl (fun H locs hM => ?_)
    refine lv_if_eq (tgt := 28) hx hb dX7_readStatement_20 (by decide) (fun c6 => ?_) (fun c6 => ?_)
    · replace hp := oT c6 hp
      refine lv_aload_n hx hb dX7_readStatement_28 rfl (lv_at hl 0 rfl) ?_
      refine mr_ldcS (i := 2) C0 hZ (by decide +kernel) rfl dX7_readStatement_29 ?_
      obtain ⟨_, h7, hp⟩ := ob hp
      obtain ⟨v8, hv8, hp⟩ := ob hp
      refine mr_V1 (As := [.ref (Z.1 2)]) (rest := []) C0 cbX7 hM h7 rfl (w_X7_isWord hG hZ hv8) tw_1352 tw_1354 tws_12 tw_7 tw_1355 yk_X7_isWord (by decide) rfl hl.1 (Nat.le_of_ble_eq_true rfl) dX7_readStatement_31 rfl (fun H locs hM => ?_)
      refine lv_if_eq (tgt := 42) hx hb dX7_readStatement_34 (by decide) (fun c9 => ?_) (fun c9 => ?_)
      · replace hp := oT c9 hp
        refine lv_aload_n hx hb dX7_readStatement_42 rfl (lv_at hl 0 rfl) ?_
        refine mr_ldcS (i := 3) C0 hZ (by decide +kernel) rfl dX7_readStatement_43 ?_
        obtain ⟨_, h10, hp⟩ := ob hp
        obtain ⟨v11, hv11, hp⟩ := ob hp
        refine mr_V1 (As := [.ref (Z.1 3)]) (rest := []) C0 cbX7 hM h10 rfl (w_X7_isWord hG hZ hv11) tw_1352 tw_1354 tws_12 tw_7 tw_1355 yk_X7_isWord (by decide) rfl hl.1 (Nat.le_of_ble_eq_true rfl) dX7_readStatement_45 rfl (fun H locs hM => ?_)
        refine lv_if_eq (tgt := 56) hx hb dX7_readStatement_48 (by decide) (fun c12 => ?_) (fun c12 => ?_)
        · replace hp := oT c12 hp
          refine lv_aload_n hx hb dX7_readStatement_56 rfl (lv_at hl 0 rfl) ?_
          refine mr_ldcS (i := 4) C0 hZ (by decide +kernel) rfl dX7_readStatement_57 ?_
          obtain ⟨_, h13, hp⟩ := ob hp
          obtain ⟨v14, hv14, hp⟩ := ob hp
          refine mr_V1 (As := [.ref (Z.1 4)]) (rest := []) C0 cbX7 hM h13 rfl (w_X7_isWord hG hZ hv14) tw_1352 tw_1354 tws_12 tw_7 tw_1355 yk_X7_isWord (by decide) rfl hl.1 (Nat.le_of_ble_eq_true rfl) dX7_readStatement_59 rfl (fun H locs hM => ?_)
          refine lv_if_eq (tgt := 70) hx hb dX7_readStatement_62 (by decide) (fun c15 => ?_) (fun c15 => ?_)
          · replace hp := oT c15 hp
            refine lv_aload_n hx hb dX7_readStatement_70 rfl (lv_at hl 0 rfl) ?_
            refine mr_ldcS (i := 5) C0 hZ (by decide +kernel) rfl dX7_readStatement_71 ?_
            obtain ⟨_, h16, hp⟩ := ob hp
            obtain ⟨v17, hv17, hp⟩ := ob hp
            refine mr_V1 (As := [.ref (Z.1 5)]) (rest := []) C0 cbX7 hM h16 rfl (w_X7_isWord hG hZ hv17) tw_1352 tw_1354 tws_12 tw_7 tw_1355 yk_X7_isWord (by decide) rfl hl.1 (Nat.le_of_ble_eq_true rfl) dX7_readStatement_73 rfl (fun H locs hM => ?_)
            refine lv_if_eq (tgt := 105) hx hb dX7_readStatement_76 (by decide) (fun c18 => ?_) (fun c18 => ?_)
            · replace hp := oT c18 hp
              refine lv_aload_n hx hb dX7_readStatement_105 rfl (lv_at hl 0 rfl) ?_
              refine mr_ldcS (i := 6) C0 hZ (by decide +kernel) rfl dX7_readStatement_106 ?_
              obtain ⟨_, h19, hp⟩ := ob hp
              obtain ⟨v20, hv20, hp⟩ := ob hp
              refine mr_V1 (As := [.ref (Z.1 6)]) (rest := []) C0 cbX7 hM h19 rfl (w_X7_isWord hG hZ hv20) tw_1352 tw_1354 tws_12 tw_7 tw_1355 yk_X7_isWord (by decide) rfl hl.1 (Nat.le_of_ble_eq_true rfl) dX7_readStatement_108 rfl (fun H locs hM => ?_)
              refine lv_if_eq (tgt := 141) hx hb dX7_readStatement_111 (by decide) (fun c21 => ?_) (fun c21 => ?_)
              · replace hp := oT c21 hp
                refine lv_aload_n hx hb dX7_readStatement_141 rfl (lv_at hl 0 rfl) ?_
                refine lv_iconst (v := 1) hx hb dX7_readStatement_142 (by decide) ?_
                obtain ⟨_, h22, hp⟩ := ob hp
                obtain ⟨v23, M24, hv23, hp⟩ := ob3 hp
                refine mr_V1 (As := [.int (1 : Int32)]) (rest := []) C0 cbX7 hM h22 rfl (w_X7_failsAt hG hv23) tw_1370 tw_1372 tws_16 tw_7 tw_1373 yk_X7_failsAt (by decide) rfl hl.1 (Nat.le_of_ble_eq_true rfl) dX7_readStatement_143 rfl (fun H locs hM => ?_)
                obtain ⟨hz, hp⟩ := oG hp
                exact mr_zret C0 hr hlk hM (Prod.mk.inj (Option.some.inj hp)).2 hz (Prod.mk.inj (Option.some.inj hp)).1 (Nat.le_refl _) (Nat.le_refl _) dX7_readStatement_146
              · replace hp := oF c21 hp
                refine lv_aload_n hx hb dX7_readStatement_114 rfl (lv_at hl 0 rfl) ?_
                refine lv_iconst (v := 4) hx hb dX7_readStatement_115 (by decide) ?_
                obtain ⟨_, h25, hp⟩ := ob hp
                obtain ⟨v26, M27, hv26, hp⟩ := ob3 hp
                refine mr_V1 (As := [.int (4 : Int32)]) (rest := []) C0 cbX7 hM h25 rfl (w_X7_startsOnce hG hv26) tw_1443 tw_1445 tws_31 tw_7 tw_1446 yk_X7_startsOnce (by decide) rfl hl.1 (Nat.le_of_ble_eq_true rfl) dX7_readStatement_116 rfl (fun H locs hM => ?_)
                refine lv_if_eq (tgt := 137) hx hb dX7_readStatement_119 (by decide) (fun c28 => ?_) (fun c28 => ?_)
                · replace hp := oT c28 hp
                  refine lv_iconst (v := 0) hx hb dX7_readStatement_137 (by decide) ?_
                  refine lv_goto (tgt := 146) hx hb dX7_readStatement_138 (by decide) ?_
                  exact mr_zret C0 hr hlk hM (Prod.mk.inj (Option.some.inj hp)).2 (Or.inl rfl) (Prod.mk.inj (Option.some.inj hp)).1 (Nat.le_refl _) (Nat.le_refl _) dX7_readStatement_146
                · replace hp := oF c28 hp
                  refine lv_aload_n hx hb dX7_readStatement_122 rfl (lv_at hl 0 rfl) ?_
                  refine lv_bipush (v := 7) hx hb dX7_readStatement_123 (by decide) ?_
                  refine lv_iconst (v := 0) hx hb dX7_readStatement_125 (by decide) ?_
                  refine lv_iconst (v := 1) hx hb dX7_readStatement_126 (by decide) ?_
                  obtain ⟨_, h29, hp⟩ := ob hp
                  obtain ⟨v30, M31, hv30, hp⟩ := ob3 hp
                  refine mr_V1 (As := [.int (7 : Int32), .int (0 : Int32), .int (1 : Int32)]) (rest := []) C0 cbX7 hM h29 rfl (w_X7_takesInto hG hv30) tw_1396 tw_1398 tws_20 tw_7 tw_1399 yk_X7_takesInto (by decide) rfl hl.1 (Nat.le_of_ble_eq_true rfl) dX7_readStatement_127 rfl (fun H locs hM => ?_)
                  refine lv_if_eq (tgt := 137) hx hb dX7_readStatement_130 (by decide) (fun c32 => ?_) (fun c32 => ?_)
                  · replace hp := oT c32 hp
                    refine lv_iconst (v := 0) hx hb dX7_readStatement_137 (by decide) ?_
                    refine lv_goto (tgt := 146) hx hb dX7_readStatement_138 (by decide) ?_
                    exact mr_zret C0 hr hlk hM (Prod.mk.inj (Option.some.inj hp)).2 (Or.inl rfl) (Prod.mk.inj (Option.some.inj hp)).1 (Nat.le_refl _) (Nat.le_refl _) dX7_readStatement_146
                  · replace hp := oF c32 hp
                    refine lv_iconst (v := 1) hx hb dX7_readStatement_133 (by decide) ?_
                    refine lv_goto (tgt := 146) hx hb dX7_readStatement_134 (by decide) ?_
                    exact mr_zret C0 hr hlk hM (Prod.mk.inj (Option.some.inj hp)).2 (Or.inr rfl) (Prod.mk.inj (Option.some.inj hp)).1 (Nat.le_refl _) (Nat.le_refl _) dX7_readStatement_146
            · replace hp := oF c18 hp
              refine lv_aload_n hx hb dX7_readStatement_79 rfl (lv_at hl 0 rfl) ?_
              refine lv_iconst (v := 2) hx hb dX7_readStatement_80 (by decide) ?_
              obtain ⟨_, h33, hp⟩ := ob hp
              obtain ⟨v34, M35, hv34, hp⟩ := ob3 hp
              refine mr_V1 (As := [.int (2 : Int32)]) (rest := []) C0 cbX7 hM h33 rfl (w_X7_startsOnce hG hv34) tw_1443 tw_1445 tws_31 tw_7 tw_1446 yk_X7_startsOnce (by decide) rfl hl.1 (Nat.le_of_ble_eq_true rfl) dX7_readStatement_81 rfl (fun H locs hM => ?_)
              refine lv_if_eq (tgt := 103) hx hb dX7_readStatement_84 (by decide) (fun c36 => ?_) (fun c36 => ?_)
              · replace hp := oT c36 hp
                refine lv_iconst (v := 0) hx hb dX7_readStatement_103 (by decide) ?_
                exact mr_zret C0 hr hlk hM (Prod.mk.inj (Option.some.inj hp)).2 (Or.inl rfl) (Prod.mk.inj (Option.some.inj hp)).1 (Nat.le_refl _) (Nat.le_refl _) dX7_readStatement_104
              · replace hp := oF c36 hp
                refine lv_aload_n hx hb dX7_readStatement_87 rfl (lv_at hl 0 rfl) ?_
                refine lv_bipush (v := 6) hx hb dX7_readStatement_88 (by decide) ?_
                refine lv_iconst (v := 0) hx hb dX7_readStatement_90 (by decide) ?_
                refine lv_bipush (v := 9) hx hb dX7_readStatement_91 (by decide) ?_
                obtain ⟨_, h37, hp⟩ := ob hp
                obtain ⟨v38, M39, hv38, hp⟩ := ob3 hp
                refine mr_V1 (As := [.int (6 : Int32), .int (0 : Int32), .int (9 : Int32)]) (rest := []) C0 cbX7 hM h37 rfl (w_X7_takesInto hG hv38) tw_1396 tw_1398 tws_20 tw_7 tw_1399 yk_X7_takesInto (by decide) rfl hl.1 (Nat.le_of_ble_eq_true rfl) dX7_readStatement_93 rfl (fun H locs hM => ?_)
                refine lv_if_eq (tgt := 103) hx hb dX7_readStatement_96 (by decide) (fun c40 => ?_) (fun c40 => ?_)
                · replace hp := oT c40 hp
                  refine lv_iconst (v := 0) hx hb dX7_readStatement_103 (by decide) ?_
                  exact mr_zret C0 hr hlk hM (Prod.mk.inj (Option.some.inj hp)).2 (Or.inl rfl) (Prod.mk.inj (Option.some.inj hp)).1 (Nat.le_refl _) (Nat.le_refl _) dX7_readStatement_104
                · replace hp := oF c40 hp
                  refine lv_iconst (v := 1) hx hb dX7_readStatement_99 (by decide) ?_
                  refine lv_goto (tgt := 104) hx hb dX7_readStatement_100 (by decide) ?_
                  exact mr_zret C0 hr hlk hM (Prod.mk.inj (Option.some.inj hp)).2 (Or.inr rfl) (Prod.mk.inj (Option.some.inj hp)).1 (Nat.le_refl _) (Nat.le_refl _) dX7_readStatement_104
          · replace hp := oF c15 hp
            refine lv_aload_n hx hb dX7_readStatement_65 rfl (lv_at hl 0 rfl) ?_
            obtain ⟨_, h41, hp⟩ := ob hp
            obtain ⟨v42, M43, hv42, hp⟩ := ob3 hp
            refine mr_V1 (As := []) (rest := []) C0 cbX7 hM h41 rfl (w_X7_readSeed hG hv42) tw_1439 tw_1441 tws_30 tw_7 tw_1442 yk_X7_readSeed (by decide) rfl hl.1 (Nat.le_of_ble_eq_true rfl) dX7_readStatement_66 rfl (fun H locs hM => ?_)
            obtain ⟨hz, hp⟩ := oG hp
            exact mr_zret C0 hr hlk hM (Prod.mk.inj (Option.some.inj hp)).2 hz (Prod.mk.inj (Option.some.inj hp)).1 (Nat.le_refl _) (Nat.le_refl _) dX7_readStatement_69
        · replace hp := oF c12 hp
          refine lv_aload_n hx hb dX7_readStatement_51 rfl (lv_at hl 0 rfl) ?_
          obtain ⟨_, h44, hp⟩ := ob hp
          obtain ⟨v45, M46, hv45, hp⟩ := ob3 hp
          refine mr_V1 (As := []) (rest := []) C0 cbX7 hM h44 rfl (w_X7_readChild hG hZ hv45) tw_1420 tw_1422 tws_26 tw_7 tw_1423 yk_X7_readChild (by decide) rfl hl.1 (Nat.le_of_ble_eq_true rfl) dX7_readStatement_52 rfl (fun H locs hM => ?_)
          obtain ⟨hz, hp⟩ := oG hp
          exact mr_zret C0 hr hlk hM (Prod.mk.inj (Option.some.inj hp)).2 hz (Prod.mk.inj (Option.some.inj hp)).1 (Nat.le_refl _) (Nat.le_refl _) dX7_readStatement_55
      · replace hp := oF c9 hp
        refine lv_aload_n hx hb dX7_readStatement_37 rfl (lv_at hl 0 rfl) ?_
        obtain ⟨_, h47, hp⟩ := ob hp
        obtain ⟨v48, M49, hv48, hp⟩ := ob3 hp
        refine mr_V1 (As := []) (rest := []) C0 cbX7 hM h47 rfl (w_X7_readPupil hG hZ hv48) tw_1412 tw_1414 tws_24 tw_7 tw_1415 yk_X7_readPupil (by decide) rfl hl.1 (Nat.le_of_ble_eq_true rfl) dX7_readStatement_38 rfl (fun H locs hM => ?_)
        obtain ⟨hz, hp⟩ := oG hp
        exact mr_zret C0 hr hlk hM (Prod.mk.inj (Option.some.inj hp)).2 hz (Prod.mk.inj (Option.some.inj hp)).1 (Nat.le_refl _) (Nat.le_refl _) dX7_readStatement_41
    · replace hp := oF c6 hp
      refine lv_aload_n hx hb dX7_readStatement_23 rfl (lv_at hl 0 rfl) ?_
      obtain ⟨_, h50, hp⟩ := ob hp
      obtain ⟨v51, M52, hv51, hp⟩ := ob3 hp
      refine mr_V1 (As := []) (rest := []) C0 cbX7 hM h50 rfl (w_X7_readZone hG hZ hv51) tw_1408 tw_1410 tws_23 tw_7 tw_1411 yk_X7_readZone (by decide) rfl hl.1 (Nat.le_of_ble_eq_true rfl) dX7_readStatement_24 rfl (fun H locs hM => ?_)
      obtain ⟨hz, hp⟩ := oG hp
      exact mr_zret C0 hr hlk hM (Prod.mk.inj (Option.some.inj hp)).2 hz (Prod.mk.inj (Option.some.inj hp)).1 (Nat.le_refl _) (Nat.le_refl _) dX7_readStatement_27
  · replace hp := oF c3 hp
    refine lv_aload_n hx hb dX7_readStatement_9 rfl (lv_at hl 0 rfl) ?_
    obtain ⟨_, h53, hp⟩ := ob hp
    obtain ⟨v54, M55, hv54, hp⟩ := ob3 hp
    refine mr_V1 (As := []) (rest := []) C0 cbX7 hM h53 rfl (w_X7_readSchool hG hZ hv54) tw_1362 tw_1364 tws_14 tw_7 tw_1365 yk_X7_readSchool (by decide) rfl hl.1 (Nat.le_of_ble_eq_true rfl) dX7_readStatement_10 rfl (fun H locs hM => ?_)
    obtain ⟨hz, hp⟩ := oG hp
    exact mr_zret C0 hr hlk hM (Prod.mk.inj (Option.some.inj hp)).2 hz (Prod.mk.inj (Option.some.inj hp)).1 (Nat.le_refl _) (Nat.le_refl _) dX7_readStatement_13
abbrev rm_X7_readText : Room := { frames := 9, cells := 0, slots := 0, locals := 192 }
def pl_X7_readText_0 (k1 : Mem → Option (Int32 × Mem)) (k2 : Mem → Option (Int32 × Mem)) (k3 : Mem → Option (Int32 × Mem)) (f0 : Nat) : Nat → Mem → Option (Int32 × Mem)
  | 0, _ => none
  | n + 1, M =>
    (Option.bind (gI 6 20 M f0) fun v1 =>
    (if v1 = 0 then
     (k3  M)
    else
     (Option.bind (isC 6 M f0) fun _ =>
     (ob2 (p_X7_readStatement f0 M) fun v4 M5 =>
     (if v4 = 0 then
      (k1  M5)
     else
      (Option.bind (gI 6 20 M5 f0) fun v7 =>
      (if v7 = (3 : Int32) then
       (Option.bind (isC 6 M5 f0) fun _ =>
       (Option.bind (p_X7_advanceToken f0 M5) fun M10 =>
       (pl_X7_readText_0 k1 k2 k3 f0 n M10)
       )
       )
      else
       (k2  M5)
      )
      )
     )
     )
     )
    )
    )
set_option maxHeartbeats 4000000 in
set_option maxRecDepth 100000 in
theorem wl_X7_readText_0 {G : gG} {p : Program} {l : Launch} {e : Env} {s : State} {m : MethodId} {args : Array Value} {below : List Frame} {meth : Method} {c : Code} {A : Nat → Prop} {Z : gZ} {r : Int32} {M' : Mem} {k1 : Mem → Option (Int32 × Mem)} {k2 : Mem → Option (Int32 × Mem)} {k3 : Mem → Option (Int32 × Mem)} {f0 : Nat} (C0 : cx G p s m args c cX7_readText RX7 1 A) (hr : meth.sig.returnType = (some FieldType.boolean)) (hlk : meth.locks = false) (hG : GOK G) (hZ : GS G Z) (hk1 : ∀ (M : Mem) (H : Heap) (locs : List Loc) (ls : Array Slot), mm G A s M H locs → lv_has ls 1 [] → k1 M = some (r, M') → W p l e rm_X7_readText s m args below meth c H locs 0 0 (MQ below (CQ G M' (some (.int r)) A) args s 0 0 A) (F0 m 14 ls [])) (hk2 : ∀ (M : Mem) (H : Heap) (locs : List Loc) (ls : Array Slot), mm G A s M H locs → lv_has ls 1 [(0, .ref f0)] → k2 M = some (r, M') → W p l e rm_X7_readText s m args below meth c H locs 0 0 (MQ below (CQ G M' (some (.int r)) A) args s 0 0 A) (F0 m 24 ls [])) (hk3 : ∀ (M : Mem) (H : Heap) (locs : List Loc) (ls : Array Slot), mm G A s M H locs → lv_has ls 1 [] → k3 M = some (r, M') → W p l e rm_X7_readText s m args below meth c H locs 0 0 (MQ below (CQ G M' (some (.int r)) A) args s 0 0 A) (F0 m 37 ls [])) : ∀ (n : Nat) (M : Mem) (H : Heap) (locs : List Loc) (ls : Array Slot), mm G A s M H locs → lv_has ls 1 [(0, .ref f0)] → pl_X7_readText_0 k1 k2 k3 f0 n M = some (r, M') → W p l e rm_X7_readText s m args below meth c H locs 0 0 (MQ below (CQ G M' (some (.int r)) A) args s 0 0 A) (F0 m 0 ls []) := by
  have hx := C0.1
  have hb := C0.2.1
  have hown := C0.2.2.2.1
  have hts := C0.2.2.2.2.1
  intro n
  induction n with
  | zero => intro M H locs ls hM hl hp; rw [pl_X7_readText_0] at hp; cases hp
  | succ n ih =>
    intro M H locs ls hM hl hp
    rw [pl_X7_readText_0] at hp
    refine lv_aload_n hx hb dX7_readText_0 rfl (lv_at hl 0 rfl) ?_
    obtain ⟨v1, hv1, hp⟩ := ob hp
    refine mr_getI C0 cbX7 hM 20 (by decide) tw_1244 hv1 dX7_readText_1 ?_
    refine lv_if_eq (tgt := 37) hx hb dX7_readText_4 (by decide) (fun c2 => ?_) (fun c2 => ?_)
    · replace hp := oT c2 hp
      exact hk3  _ _ _ _ hM (lv_sub hl [] rfl) hp
    · replace hp := oF c2 hp
      refine lv_aload_n hx hb dX7_readText_7 rfl (lv_at hl 0 rfl) ?_
      obtain ⟨_, h3, hp⟩ := ob hp
      obtain ⟨v4, M5, hv4, hp⟩ := ob3 hp
      refine mr_V1 (As := []) (rest := []) C0 cbX7 hM h3 rfl (w_X7_readStatement hG hZ hv4) tw_1347 tw_1349 tws_11 tw_7 tw_1350 yk_X7_readStatement (by decide) rfl hl.1 (Nat.le_of_ble_eq_true rfl) dX7_readText_8 rfl (fun H locs hM => ?_)
      refine lv_if_ne (tgt := 16) hx hb dX7_readText_11 (by decide) (fun c6 => ?_) (fun c6 => ?_)
      · replace hp := oF c6 hp
        refine lv_aload_n hx hb dX7_readText_16 rfl (lv_at hl 0 rfl) ?_
        obtain ⟨v7, hv7, hp⟩ := ob hp
        refine mr_getI C0 cbX7 hM 20 (by decide) tw_1244 hv7 dX7_readText_17 ?_
        refine lv_iconst (v := 3) hx hb dX7_readText_20 (by decide) ?_
        refine lv_icmp_eq (tgt := 30) hx hb dX7_readText_21 (by decide) (fun c8 => ?_) (fun c8 => ?_)
        · replace hp := oT c8 hp
          refine lv_aload_n hx hb dX7_readText_30 rfl (lv_at hl 0 rfl) ?_
          obtain ⟨_, h9, hp⟩ := ob hp
          obtain ⟨M10, hM10, hp⟩ := ob hp
          refine mr_V0 (As := []) (rest := []) C0 cbX7 hM h9 rfl (w_X7_advanceToken hG hM10) tw_1335 tw_1337 tws_8 tw_7 tw_1338 yk_X7_advanceToken (by decide) rfl hl.1 (Nat.le_of_ble_eq_true rfl) dX7_readText_31 rfl (fun H locs hM => ?_)
          refine lv_goto (tgt := 0) hx hb dX7_readText_34 (by decide) ?_
          exact ih  _ _ _ _ hM (lv_sub hl [0] rfl) hp
        · replace hp := oF c8 hp
          exact hk2  _ _ _ _ hM (lv_sub hl [0] rfl) hp
      · replace hp := oT c6 hp
        exact hk1  _ _ _ _ hM (lv_sub hl [] rfl) hp
def p_X7_readText (a0 : Nat) (M : Mem) : Option (Int32 × Mem) :=
  (pl_X7_readText_0
   (fun  (M11 : Mem) =>
    some ((0 : Int32), M11)
   )
   (fun  (M12 : Mem) =>
    (Option.bind (isC 6 M12 a0) fun _ =>
    (ob2 (p_X7_failsAt a0 (1 : Int32) M12) fun v14 M15 =>
    (if v14 = 0 ∨ v14 = 1 then some (v14, M15) else none)
    )
    )
   )
   (fun  (M16 : Mem) =>
    some ((1 : Int32), M16)
   )
   a0 FU M)
theorem yk_X7_readText : yok yX7_readText 0 := by decide +kernel
set_option maxHeartbeats 4000000 in
set_option maxRecDepth 100000 in
theorem w_X7_readText {G : gG} (hG : GOK G) {Z : gZ} (hZ : GS G Z) {l : Launch} {a0 : Nat} {M : Mem} {r : Int32} {M' : Mem} (hp : p_X7_readText a0 M = some (r, M')) : CT G l yX7_readText (wT yX7_readText cX7_readText 1 (some FieldType.boolean)) rm_X7_readText [.ref a0] M (some (.int r)) M' 0 0 := by
  refine CT_of (own := RX7) (maxL := 1) (ret := (some FieldType.boolean)) hG (by decide) rfl (Nat.le_of_ble_eq_true rfl) (fun p e s m below meth c A C0 hr hlk hM ls hl => ?_)
  have hl : lv_has ls 1 [(0, .ref a0)] := hl
  generalize ([.ref a0] : List Value).toArray = args at C0 ⊢
  skip
  have hx := C0.1
  have hb := C0.2.1
  have hown := C0.2.2.2.1
  have hts := C0.2.2.2.2.1
  unfold p_X7_readText at hp
  refine wl_X7_readText_0 C0 hr hlk hG hZ (fun M11 H locs ls hM hl hp => ?_) (fun M12 H locs ls hM hl hp => ?_) (fun M16 H locs ls hM hl hp => ?_) FU  _ _ _ _ hM (lv_sub hl [0] rfl) hp
  · refine lv_iconst (v := 0) hx hb dX7_readText_14 (by decide) ?_
    exact mr_zret C0 hr hlk hM (Prod.mk.inj (Option.some.inj hp)).2 (Or.inl rfl) (Prod.mk.inj (Option.some.inj hp)).1 (Nat.le_refl _) (Nat.le_refl _) dX7_readText_15
  · refine lv_aload_n hx hb dX7_readText_24 rfl (lv_at hl 0 rfl) ?_
    refine lv_iconst (v := 1) hx hb dX7_readText_25 (by decide) ?_
    obtain ⟨_, h13, hp⟩ := ob hp
    obtain ⟨v14, M15, hv14, hp⟩ := ob3 hp
    refine mr_V1 (As := [.int (1 : Int32)]) (rest := []) C0 cbX7 hM h13 rfl (w_X7_failsAt hG hv14) tw_1370 tw_1372 tws_16 tw_7 tw_1373 yk_X7_failsAt (by decide) rfl hl.1 (Nat.le_of_ble_eq_true rfl) dX7_readText_26 rfl (fun H locs hM => ?_)
    obtain ⟨hz, hp⟩ := oG hp
    exact mr_zret C0 hr hlk hM (Prod.mk.inj (Option.some.inj hp)).2 hz (Prod.mk.inj (Option.some.inj hp)).1 (Nat.le_refl _) (Nat.le_refl _) dX7_readText_29
  · refine lv_iconst (v := 1) hx hb dX7_readText_37 (by decide) ?_
    exact mr_zret C0 hr hlk hM (Prod.mk.inj (Option.some.inj hp)).2 (Or.inr rfl) (Prod.mk.inj (Option.some.inj hp)).1 (Nat.le_refl _) (Nat.le_refl _) dX7_readText_38
abbrev rm_X7_loadOffice : Room := { frames := 10, cells := 0, slots := 0, locals := 212 }
def p_X7_loadOffice (a0 : Nat) (M : Mem) : Option (Int32 × Mem) :=
  (Option.bind (sV 6 9 M a0 (.int (0 : Int32))) fun M1 =>
  (Option.bind (gR 6 0 M1 a0) fun v2 =>
  (Option.bind (gR 6 1 M1 a0) fun v3 =>
  (Option.bind (p_X7_copies v2 (0 : Int32) v3 (0 : Int32) (764 : Int32) M1) fun M4 =>
  (Option.bind (gR 6 7 M4 a0) fun v5 =>
  (Option.bind (gR 6 8 M4 a0) fun v6 =>
  (Option.bind (p_X7_copies v5 (0 : Int32) v6 (0 : Int32) (48 : Int32) M4) fun M7 =>
  (Option.bind (isC 6 M7 a0) fun _ =>
  (Option.bind (p_X7_clear a0 M7) fun M9 =>
  (Option.bind (sV 6 15 M9 a0 (.int (0 : Int32))) fun M10 =>
  (Option.bind (sV 6 16 M10 a0 (.int (-1 : Int32))) fun M11 =>
  (Option.bind (sV 6 17 M11 a0 (.int (0 : Int32))) fun M12 =>
  (Option.bind (sV 6 21 M12 a0 (.int (0 : Int32))) fun M13 =>
  (Option.bind (isC 6 M13 a0) fun _ =>
  (Option.bind (p_X7_advanceToken a0 M13) fun M15 =>
  (Option.bind (isC 6 M15 a0) fun _ =>
  (ob2 (p_X7_readText a0 M15) fun v17 M18 =>
  (Option.bind (sV 6 12 M18 a0 (.int (0 : Int32))) fun M19 =>
  (Option.bind (gI 6 15 M19 a0) fun v20 =>
  (Option.bind (sV 6 13 M19 a0 (.int v20)) fun M21 =>
  (Option.bind (gI 6 16 M21 a0) fun v22 =>
  (Option.bind (sV 6 14 M21 a0 (.int v22)) fun M23 =>
  (if v17 = 0 then
   (Option.bind (gR 6 1 M23 a0) fun v29 =>
   (Option.bind (gR 6 0 M23 a0) fun v30 =>
   (Option.bind (p_X7_copies v29 (0 : Int32) v30 (0 : Int32) (764 : Int32) M23) fun M31 =>
   (Option.bind (gR 6 8 M31 a0) fun v32 =>
   (Option.bind (gR 6 7 M31 a0) fun v33 =>
   (Option.bind (p_X7_copies v32 (0 : Int32) v33 (0 : Int32) (48 : Int32) M31) fun M34 =>
   some ((-1 : Int32), M34)
   )
   )
   )
   )
   )
   )
  else
   (Option.bind (sV 6 5 M23 a0 (.int (0 : Int32))) fun M25 =>
   (Option.bind (sZ 6 6 M25 a0 (0 : Int32)) fun M26 =>
   (Option.bind (gR 6 0 M26 a0) fun v27 =>
   (Option.bind (aI 0 M26 v27 (1 : Int32)) fun v28 =>
   some (v28, M26)
   )
   )
   )
   )
  )
  )
  )
  )
  )
  )
  )
  )
  )
  )
  )
  )
  )
  )
  )
  )
  )
  )
  )
  )
  )
  )
  )
theorem yk_X7_loadOffice : yok yX7_loadOffice 0 := by decide +kernel
set_option maxHeartbeats 4000000 in
set_option maxRecDepth 100000 in
theorem w_X7_loadOffice {G : gG} (hG : GOK G) {Z : gZ} (hZ : GS G Z) {l : Launch} {a0 : Nat} {M : Mem} {r : Int32} {M' : Mem} (hp : p_X7_loadOffice a0 M = some (r, M')) : CT G l yX7_loadOffice (wT yX7_loadOffice cX7_loadOffice 2 (some FieldType.int)) rm_X7_loadOffice [.ref a0] M (some (.int r)) M' 0 0 := by
  refine CT_of (own := RX7) (maxL := 2) (ret := (some FieldType.int)) hG (by decide) rfl (Nat.le_of_ble_eq_true rfl) (fun p e s m below meth c A C0 hr hlk hM ls hl => ?_)
  have hl : lv_has ls 2 [(0, .ref a0)] := hl
  generalize ([.ref a0] : List Value).toArray = args at C0 ⊢
  skip
  have hx := C0.1
  have hb := C0.2.1
  have hown := C0.2.2.2.1
  have hts := C0.2.2.2.2.1
  unfold p_X7_loadOffice at hp
  refine lv_aload_n hx hb dX7_loadOffice_0 rfl (lv_at hl 0 rfl) ?_
  refine lv_iconst (v := 0) hx hb dX7_loadOffice_1 (by decide) ?_
  obtain ⟨M1, hM1, hp⟩ := ob hp
  refine mr_putI C0 cbX7 hM 9 (by decide) rfl rfl tw_1233 hM1 dX7_loadOffice_2 (fun H locs hM => ?_)
  refine lv_aload_n hx hb dX7_loadOffice_5 rfl (lv_at hl 0 rfl) ?_
  obtain ⟨v2, hv2, hp⟩ := ob hp
  refine mr_getR C0 cbX7 hM 0 (by decide) tw_1224 hv2 dX7_loadOffice_6 ?_
  refine lv_iconst (v := 0) hx hb dX7_loadOffice_9 (by decide) ?_
  refine lv_aload_n hx hb dX7_loadOffice_10 rfl (lv_at hl 0 rfl) ?_
  obtain ⟨v3, hv3, hp⟩ := ob hp
  refine mr_getR C0 cbX7 hM 1 (by decide) tw_1225 hv3 dX7_loadOffice_11 ?_
  refine lv_iconst (v := 0) hx hb dX7_loadOffice_14 (by decide) ?_
  refine lv_sipush (v := 764) hx hb dX7_loadOffice_15 (by decide) ?_
  obtain ⟨M4, hM4, hp⟩ := ob hp
  refine mr_S0 (As := [.ref v2, .int (0 : Int32), .ref v3, .int (0 : Int32), .int (764 : Int32)]) (rest := []) C0 hM (w_X7_copies hG hM4) tw_1332 tw_1333 tw_7 tw_1334 yk_X7_copies (by decide) rfl hl.1 (Nat.le_of_ble_eq_true rfl) dX7_loadOffice_18 rfl (fun H locs hM => ?_)
  refine lv_aload_n hx hb dX7_loadOffice_21 rfl (lv_at hl 0 rfl) ?_
  obtain ⟨v5, hv5, hp⟩ := ob hp
  refine mr_getR C0 cbX7 hM 7 (by decide) tw_1231 hv5 dX7_loadOffice_22 ?_
  refine lv_iconst (v := 0) hx hb dX7_loadOffice_25 (by decide) ?_
  refine lv_aload_n hx hb dX7_loadOffice_26 rfl (lv_at hl 0 rfl) ?_
  obtain ⟨v6, hv6, hp⟩ := ob hp
  refine mr_getR C0 cbX7 hM 8 (by decide) tw_1232 hv6 dX7_loadOffice_27 ?_
  refine lv_iconst (v := 0) hx hb dX7_loadOffice_30 (by decide) ?_
  refine lv_bipush (v := 48) hx hb dX7_loadOffice_31 (by decide) ?_
  obtain ⟨M7, hM7, hp⟩ := ob hp
  refine mr_S0 (As := [.ref v5, .int (0 : Int32), .ref v6, .int (0 : Int32), .int (48 : Int32)]) (rest := []) C0 hM (w_X7_copies hG hM7) tw_1332 tw_1333 tw_7 tw_1334 yk_X7_copies (by decide) rfl hl.1 (Nat.le_of_ble_eq_true rfl) dX7_loadOffice_33 rfl (fun H locs hM => ?_)
  refine lv_aload_n hx hb dX7_loadOffice_36 rfl (lv_at hl 0 rfl) ?_
  obtain ⟨_, h8, hp⟩ := ob hp
  obtain ⟨M9, hM9, hp⟩ := ob hp
  refine mr_V0 (As := []) (rest := []) C0 cbX7 hM h8 rfl (w_X7_clear hG hM9) tw_1220 tw_1222 tws_6 tw_7 tw_1223 yk_X7_clear (by decide) rfl hl.1 (Nat.le_of_ble_eq_true rfl) dX7_loadOffice_37 rfl (fun H locs hM => ?_)
  refine lv_aload_n hx hb dX7_loadOffice_40 rfl (lv_at hl 0 rfl) ?_
  refine lv_iconst (v := 0) hx hb dX7_loadOffice_41 (by decide) ?_
  obtain ⟨M10, hM10, hp⟩ := ob hp
  refine mr_putI C0 cbX7 hM 15 (by decide) rfl rfl tw_1239 hM10 dX7_loadOffice_42 (fun H locs hM => ?_)
  refine lv_aload_n hx hb dX7_loadOffice_45 rfl (lv_at hl 0 rfl) ?_
  refine lv_iconst (v := -1) hx hb dX7_loadOffice_46 (by decide) ?_
  obtain ⟨M11, hM11, hp⟩ := ob hp
  refine mr_putI C0 cbX7 hM 16 (by decide) rfl rfl tw_1240 hM11 dX7_loadOffice_47 (fun H locs hM => ?_)
  refine lv_aload_n hx hb dX7_loadOffice_50 rfl (lv_at hl 0 rfl) ?_
  refine lv_iconst (v := 0) hx hb dX7_loadOffice_51 (by decide) ?_
  obtain ⟨M12, hM12, hp⟩ := ob hp
  refine mr_putI C0 cbX7 hM 17 (by decide) rfl rfl tw_1241 hM12 dX7_loadOffice_52 (fun H locs hM => ?_)
  refine lv_aload_n hx hb dX7_loadOffice_55 rfl (lv_at hl 0 rfl) ?_
  refine lv_iconst (v := 0) hx hb dX7_loadOffice_56 (by decide) ?_
  obtain ⟨M13, hM13, hp⟩ := ob hp
  refine mr_putI C0 cbX7 hM 21 (by decide) rfl rfl tw_1245 hM13 dX7_loadOffice_57 (fun H locs hM => ?_)
  refine lv_aload_n hx hb dX7_loadOffice_60 rfl (lv_at hl 0 rfl) ?_
  obtain ⟨_, h14, hp⟩ := ob hp
  obtain ⟨M15, hM15, hp⟩ := ob hp
  refine mr_V0 (As := []) (rest := []) C0 cbX7 hM h14 rfl (w_X7_advanceToken hG hM15) tw_1335 tw_1337 tws_8 tw_7 tw_1338 yk_X7_advanceToken (by decide) rfl hl.1 (Nat.le_of_ble_eq_true rfl) dX7_loadOffice_61 rfl (fun H locs hM => ?_)
  refine lv_aload_n hx hb dX7_loadOffice_64 rfl (lv_at hl 0 rfl) ?_
  obtain ⟨_, h16, hp⟩ := ob hp
  obtain ⟨v17, M18, hv17, hp⟩ := ob3 hp
  refine mr_V1 (As := []) (rest := []) C0 cbX7 hM h16 rfl (w_X7_readText hG hZ hv17) tw_1343 tw_1345 tws_10 tw_7 tw_1346 yk_X7_readText (by decide) rfl hl.1 (Nat.le_of_ble_eq_true rfl) dX7_loadOffice_65 rfl (fun H locs hM => ?_)
  refine lv_istore_n (lv' := [(1, .int v17), (0, .ref a0)]) hx hb dX7_loadOffice_68 rfl hl (by decide) rfl (fun ls hl => ?_)
  refine lv_aload_n hx hb dX7_loadOffice_69 rfl (lv_at hl 1 rfl) ?_
  refine lv_iconst (v := 0) hx hb dX7_loadOffice_70 (by decide) ?_
  obtain ⟨M19, hM19, hp⟩ := ob hp
  refine mr_putI C0 cbX7 hM 12 (by decide) rfl rfl tw_1236 hM19 dX7_loadOffice_71 (fun H locs hM => ?_)
  refine lv_aload_n hx hb dX7_loadOffice_74 rfl (lv_at hl 1 rfl) ?_
  refine lv_aload_n hx hb dX7_loadOffice_75 rfl (lv_at hl 1 rfl) ?_
  obtain ⟨v20, hv20, hp⟩ := ob hp
  refine mr_getI C0 cbX7 hM 15 (by decide) tw_1239 hv20 dX7_loadOffice_76 ?_
  obtain ⟨M21, hM21, hp⟩ := ob hp
  refine mr_putI C0 cbX7 hM 13 (by decide) rfl rfl tw_1237 hM21 dX7_loadOffice_79 (fun H locs hM => ?_)
  refine lv_aload_n hx hb dX7_loadOffice_82 rfl (lv_at hl 1 rfl) ?_
  refine lv_aload_n hx hb dX7_loadOffice_83 rfl (lv_at hl 1 rfl) ?_
  obtain ⟨v22, hv22, hp⟩ := ob hp
  refine mr_getI C0 cbX7 hM 16 (by decide) tw_1240 hv22 dX7_loadOffice_84 ?_
  obtain ⟨M23, hM23, hp⟩ := ob hp
  refine mr_putI C0 cbX7 hM 14 (by decide) rfl rfl tw_1238 hM23 dX7_loadOffice_87 (fun H locs hM => ?_)
  refine lv_iload_n hx hb dX7_loadOffice_90 rfl (lv_at hl 0 rfl) ?_
  refine lv_if_ne (tgt := 127) hx hb dX7_loadOffice_91 (by decide) (fun c24 => ?_) (fun c24 => ?_)
  · replace hp := oF c24 hp
    refine lv_aload_n hx hb dX7_loadOffice_127 rfl (lv_at hl 1 rfl) ?_
    refine lv_iconst (v := 0) hx hb dX7_loadOffice_128 (by decide) ?_
    obtain ⟨M25, hM25, hp⟩ := ob hp
    refine mr_putI C0 cbX7 hM 5 (by decide) rfl rfl tw_1229 hM25 dX7_loadOffice_129 (fun H locs hM => ?_)
    refine lv_aload_n hx hb dX7_loadOffice_132 rfl (lv_at hl 1 rfl) ?_
    refine lv_iconst (v := 0) hx hb dX7_loadOffice_133 (by decide) ?_
    obtain ⟨M26, hM26, hp⟩ := ob hp
    refine mr_putZ C0 cbX7 hM 6 (by decide) rfl rfl tw_1230 hM26 dX7_loadOffice_134 (fun H locs hM => ?_)
    refine lv_aload_n hx hb dX7_loadOffice_137 rfl (lv_at hl 1 rfl) ?_
    obtain ⟨v27, hv27, hp⟩ := ob hp
    refine mr_getR C0 cbX7 hM 0 (by decide) tw_1224 hv27 dX7_loadOffice_138 ?_
    refine lv_iconst (v := 1) hx hb dX7_loadOffice_141 (by decide) ?_
    obtain ⟨v28, hv28, hp⟩ := ob hp
    refine mr_iald C0 hM hv28 dX7_loadOffice_142 ?_
    exact mr_iret C0 hr hlk hM (Prod.mk.inj (Option.some.inj hp)).2 (Prod.mk.inj (Option.some.inj hp)).1 (Nat.le_refl _) (Nat.le_refl _) dX7_loadOffice_143
  · replace hp := oT c24 hp
    refine lv_aload_n hx hb dX7_loadOffice_94 rfl (lv_at hl 1 rfl) ?_
    obtain ⟨v29, hv29, hp⟩ := ob hp
    refine mr_getR C0 cbX7 hM 1 (by decide) tw_1225 hv29 dX7_loadOffice_95 ?_
    refine lv_iconst (v := 0) hx hb dX7_loadOffice_98 (by decide) ?_
    refine lv_aload_n hx hb dX7_loadOffice_99 rfl (lv_at hl 1 rfl) ?_
    obtain ⟨v30, hv30, hp⟩ := ob hp
    refine mr_getR C0 cbX7 hM 0 (by decide) tw_1224 hv30 dX7_loadOffice_100 ?_
    refine lv_iconst (v := 0) hx hb dX7_loadOffice_103 (by decide) ?_
    refine lv_sipush (v := 764) hx hb dX7_loadOffice_104 (by decide) ?_
    obtain ⟨M31, hM31, hp⟩ := ob hp
    refine mr_S0 (As := [.ref v29, .int (0 : Int32), .ref v30, .int (0 : Int32), .int (764 : Int32)]) (rest := []) C0 hM (w_X7_copies hG hM31) tw_1332 tw_1333 tw_7 tw_1334 yk_X7_copies (by decide) rfl hl.1 (Nat.le_of_ble_eq_true rfl) dX7_loadOffice_107 rfl (fun H locs hM => ?_)
    refine lv_aload_n hx hb dX7_loadOffice_110 rfl (lv_at hl 1 rfl) ?_
    obtain ⟨v32, hv32, hp⟩ := ob hp
    refine mr_getR C0 cbX7 hM 8 (by decide) tw_1232 hv32 dX7_loadOffice_111 ?_
    refine lv_iconst (v := 0) hx hb dX7_loadOffice_114 (by decide) ?_
    refine lv_aload_n hx hb dX7_loadOffice_115 rfl (lv_at hl 1 rfl) ?_
    obtain ⟨v33, hv33, hp⟩ := ob hp
    refine mr_getR C0 cbX7 hM 7 (by decide) tw_1231 hv33 dX7_loadOffice_116 ?_
    refine lv_iconst (v := 0) hx hb dX7_loadOffice_119 (by decide) ?_
    refine lv_bipush (v := 48) hx hb dX7_loadOffice_120 (by decide) ?_
    obtain ⟨M34, hM34, hp⟩ := ob hp
    refine mr_S0 (As := [.ref v32, .int (0 : Int32), .ref v33, .int (0 : Int32), .int (48 : Int32)]) (rest := []) C0 hM (w_X7_copies hG hM34) tw_1332 tw_1333 tw_7 tw_1334 yk_X7_copies (by decide) rfl hl.1 (Nat.le_of_ble_eq_true rfl) dX7_loadOffice_122 rfl (fun H locs hM => ?_)
    refine lv_iconst (v := -1) hx hb dX7_loadOffice_125 (by decide) ?_
    exact mr_iret C0 hr hlk hM (Prod.mk.inj (Option.some.inj hp)).2 (Prod.mk.inj (Option.some.inj hp)).1 (Nat.le_refl _) (Nat.le_refl _) dX7_loadOffice_126
abbrev rm_X7_errorCode : Room := { frames := 0, cells := 0, slots := 0, locals := 0 }
def p_X7_errorCode (a0 : Nat) (M : Mem) : Option (Int32 × Mem) :=
  (Option.bind (sV 6 9 M a0 (.int (0 : Int32))) fun M1 =>
  (Option.bind (gI 6 13 M1 a0) fun v2 =>
  some (v2, M1)
  )
  )
theorem yk_X7_errorCode : yok yX7_errorCode 0 := by decide +kernel
set_option maxHeartbeats 4000000 in
set_option maxRecDepth 100000 in
theorem w_X7_errorCode {G : gG} (hG : GOK G) {l : Launch} {a0 : Nat} {M : Mem} {r : Int32} {M' : Mem} (hp : p_X7_errorCode a0 M = some (r, M')) : CT G l yX7_errorCode (wT yX7_errorCode cX7_errorCode 1 (some FieldType.int)) rm_X7_errorCode [.ref a0] M (some (.int r)) M' 0 0 := by
  refine CT_of (own := RX7) (maxL := 1) (ret := (some FieldType.int)) hG (by decide) rfl (Nat.le_of_ble_eq_true rfl) (fun p e s m below meth c A C0 hr hlk hM ls hl => ?_)
  have hl : lv_has ls 1 [(0, .ref a0)] := hl
  generalize ([.ref a0] : List Value).toArray = args at C0 ⊢
  skip
  have hx := C0.1
  have hb := C0.2.1
  have hown := C0.2.2.2.1
  have hts := C0.2.2.2.2.1
  unfold p_X7_errorCode at hp
  refine lv_aload_n hx hb dX7_errorCode_0 rfl (lv_at hl 0 rfl) ?_
  refine lv_iconst (v := 0) hx hb dX7_errorCode_1 (by decide) ?_
  obtain ⟨M1, hM1, hp⟩ := ob hp
  refine mr_putI C0 cbX7 hM 9 (by decide) rfl rfl tw_1233 hM1 dX7_errorCode_2 (fun H locs hM => ?_)
  refine lv_aload_n hx hb dX7_errorCode_5 rfl (lv_at hl 0 rfl) ?_
  obtain ⟨v2, hv2, hp⟩ := ob hp
  refine mr_getI C0 cbX7 hM 13 (by decide) tw_1237 hv2 dX7_errorCode_6 ?_
  exact mr_iret C0 hr hlk hM (Prod.mk.inj (Option.some.inj hp)).2 (Prod.mk.inj (Option.some.inj hp)).1 (Nat.le_refl _) (Nat.le_refl _) dX7_errorCode_9
abbrev rm_X7_errorOffset : Room := { frames := 0, cells := 0, slots := 0, locals := 0 }
def p_X7_errorOffset (a0 : Nat) (M : Mem) : Option (Int32 × Mem) :=
  (Option.bind (sV 6 9 M a0 (.int (0 : Int32))) fun M1 =>
  (Option.bind (gI 6 14 M1 a0) fun v2 =>
  some (v2, M1)
  )
  )
theorem yk_X7_errorOffset : yok yX7_errorOffset 0 := by decide +kernel
set_option maxHeartbeats 4000000 in
set_option maxRecDepth 100000 in
theorem w_X7_errorOffset {G : gG} (hG : GOK G) {l : Launch} {a0 : Nat} {M : Mem} {r : Int32} {M' : Mem} (hp : p_X7_errorOffset a0 M = some (r, M')) : CT G l yX7_errorOffset (wT yX7_errorOffset cX7_errorOffset 1 (some FieldType.int)) rm_X7_errorOffset [.ref a0] M (some (.int r)) M' 0 0 := by
  refine CT_of (own := RX7) (maxL := 1) (ret := (some FieldType.int)) hG (by decide) rfl (Nat.le_of_ble_eq_true rfl) (fun p e s m below meth c A C0 hr hlk hM ls hl => ?_)
  have hl : lv_has ls 1 [(0, .ref a0)] := hl
  generalize ([.ref a0] : List Value).toArray = args at C0 ⊢
  skip
  have hx := C0.1
  have hb := C0.2.1
  have hown := C0.2.2.2.1
  have hts := C0.2.2.2.2.1
  unfold p_X7_errorOffset at hp
  refine lv_aload_n hx hb dX7_errorOffset_0 rfl (lv_at hl 0 rfl) ?_
  refine lv_iconst (v := 0) hx hb dX7_errorOffset_1 (by decide) ?_
  obtain ⟨M1, hM1, hp⟩ := ob hp
  refine mr_putI C0 cbX7 hM 9 (by decide) rfl rfl tw_1233 hM1 dX7_errorOffset_2 (fun H locs hM => ?_)
  refine lv_aload_n hx hb dX7_errorOffset_5 rfl (lv_at hl 0 rfl) ?_
  obtain ⟨v2, hv2, hp⟩ := ob hp
  refine mr_getI C0 cbX7 hM 14 (by decide) tw_1238 hv2 dX7_errorOffset_6 ?_
  exact mr_iret C0 hr hlk hM (Prod.mk.inj (Option.some.inj hp)).2 (Prod.mk.inj (Option.some.inj hp)).1 (Nat.le_refl _) (Nat.le_refl _) dX7_errorOffset_9
abbrev rm_X7_childrenWith : Room := { frames := 0, cells := 0, slots := 0, locals := 0 }
def pl_X7_childrenWith_5 (k1 : Int32 → Option (Int32)) (f0 : Nat) (f1 : Int32) (f2 : Int32) (M : Mem) : Nat → Int32 → Int32 → Option (Int32)
  | 0, _, _ => none
  | n + 1, y3, y4 =>
    (Option.bind (gR 6 0 M f0) fun v1 =>
    (Option.bind (aI 0 M v1 (1 : Int32)) fun v2 =>
    (if v2 ≤ y4 then
     (k1 y3)
    else
     (Option.bind (gR 6 0 M f0) fun v4 =>
     (Option.bind (aI 0 M v4 (f1 + y4)) fun v5 =>
     (jn (fun (s6 : Int32) =>
      (pl_X7_childrenWith_5 k1 f0 f1 f2 M n (y3 + s6) (y4 + (1 : Int32)))
     ) fun k7 =>
     (if v5 = f2 then
      (k7 (1 : Int32))
     else
      (k7 (0 : Int32))
     )
     )
     )
     )
    )
    )
    )
set_option maxHeartbeats 4000000 in
set_option maxRecDepth 100000 in
theorem wl_X7_childrenWith_5 {G : gG} {p : Program} {l : Launch} {e : Env} {s : State} {m : MethodId} {args : Array Value} {below : List Frame} {meth : Method} {c : Code} {A : Nat → Prop} {r : Int32} {k1 : Int32 → Option (Int32)} {f0 : Nat} {f1 : Int32} {f2 : Int32} {M : Mem} (C0 : cx G p s m args c cX7_childrenWith RX7 5 A) (hr : meth.sig.returnType = (some FieldType.int)) (hlk : meth.locks = false) (hG : GOK G) (hk1 : ∀ (z3 : Int32) (H : Heap) (locs : List Loc) (ls : Array Slot), mm G A s M H locs → lv_has ls 5 [(3, .int z3)] → k1 z3 = some r → W p l e rm_X7_childrenWith s m args below meth c H locs 0 0 (MQ below (CQ G M (some (.int r)) A) args s 0 0 A) (F0 m 43 ls [])) : ∀ (n : Nat) (y3 : Int32) (y4 : Int32) (H : Heap) (locs : List Loc) (ls : Array Slot), mm G A s M H locs → lv_has ls 5 [(0, .ref f0), (1, .int f1), (2, .int f2), (3, .int y3), (4, .int y4)] → pl_X7_childrenWith_5 k1 f0 f1 f2 M n y3 y4 = some r → W p l e rm_X7_childrenWith s m args below meth c H locs 0 0 (MQ below (CQ G M (some (.int r)) A) args s 0 0 A) (F0 m 5 ls []) := by
  have hx := C0.1
  have hb := C0.2.1
  have hown := C0.2.2.2.1
  have hts := C0.2.2.2.2.1
  intro n
  induction n with
  | zero => intro y3 y4 H locs ls hM hl hp; rw [pl_X7_childrenWith_5] at hp; cases hp
  | succ n ih =>
    intro y3 y4 H locs ls hM hl hp
    rw [pl_X7_childrenWith_5] at hp
    refine lv_iload hx hb dX7_childrenWith_5 (lv_at hl 4 rfl) ?_
    refine lv_aload_n hx hb dX7_childrenWith_7 rfl (lv_at hl 0 rfl) ?_
    obtain ⟨v1, hv1, hp⟩ := ob hp
    refine mr_getR C0 cbX7 hM 0 (by decide) tw_1224 hv1 dX7_childrenWith_8 ?_
    refine lv_iconst (v := 1) hx hb dX7_childrenWith_11 (by decide) ?_
    obtain ⟨v2, hv2, hp⟩ := ob hp
    refine mr_iald C0 hM hv2 dX7_childrenWith_12 ?_
    refine lv_icmp_ge (tgt := 43) hx hb dX7_childrenWith_13 (by decide) (fun c3 => ?_) (fun c3 => ?_)
    · replace hp := oT c3 hp
      exact hk1 _ _ _ _ hM (lv_sub hl [3] rfl) hp
    · replace hp := oF c3 hp
      refine lv_iload_n hx hb dX7_childrenWith_16 rfl (lv_at hl 3 rfl) ?_
      refine lv_aload_n hx hb dX7_childrenWith_17 rfl (lv_at hl 0 rfl) ?_
      obtain ⟨v4, hv4, hp⟩ := ob hp
      refine mr_getR C0 cbX7 hM 0 (by decide) tw_1224 hv4 dX7_childrenWith_18 ?_
      refine lv_iload_n hx hb dX7_childrenWith_21 rfl (lv_at hl 1 rfl) ?_
      refine lv_iload hx hb dX7_childrenWith_22 (lv_at hl 4 rfl) ?_
      refine lv_iadd hx hb dX7_childrenWith_24 ?_
      obtain ⟨v5, hv5, hp⟩ := ob hp
      refine mr_iald C0 hM hv5 dX7_childrenWith_25 ?_
      refine lv_iload_n hx hb dX7_childrenWith_26 rfl (lv_at hl 2 rfl) ?_
      obtain ⟨k7, ek7, hp⟩ := ojn hp
      have hk7 : ∀ (s6 : Int32) (H : Heap) (locs : List Loc) (ls : Array Slot), mm G A s M H locs → lv_has ls 5 [(0, .ref f0), (1, .int f1), (2, .int f2), (4, .int y4)] → k7 s6 = some r → W p l e rm_X7_childrenWith s m args below meth c H locs 0 0 (MQ below (CQ G M (some (.int r)) A) args s 0 0 A) (F0 m 35 ls [.int s6, .int y3]) := by
        intro s6 H locs ls hM hl hp
        rw [ek7] at hp
        refine lv_iadd hx hb dX7_childrenWith_35 ?_
        refine lv_istore_n (lv' := [(3, .int (y3 + s6)), (0, .ref f0), (1, .int f1), (2, .int f2), (4, .int y4)]) hx hb dX7_childrenWith_36 rfl hl (by decide) rfl (fun ls hl => ?_)
        refine lv_iinc (v := (y4 + (1 : Int32))) (lv' := [(4, .int (y4 + (1 : Int32))), (3, .int (y3 + s6)), (0, .ref f0), (1, .int f1), (2, .int f2)]) hx hb dX7_childrenWith_37 hl (k := 4) rfl rfl (by decide) rfl (fun ls hl => ?_)
        refine lv_goto (tgt := 5) hx hb dX7_childrenWith_40 (by decide) ?_
        exact ih _ _ _ _ _ hM (lv_sub hl [2, 3, 4, 1, 0] rfl) hp
      refine lv_icmp_ne (tgt := 34) hx hb dX7_childrenWith_27 (by decide) (fun c8 => ?_) (fun c8 => ?_)
      · replace hp := oF c8 hp
        refine lv_iconst (v := 0) hx hb dX7_childrenWith_34 (by decide) ?_
        exact hk7 _ _ _ _ hM (lv_sub hl [0, 1, 2, 4] rfl) hp
      · replace hp := oT c8 hp
        refine lv_iconst (v := 1) hx hb dX7_childrenWith_30 (by decide) ?_
        refine lv_goto (tgt := 35) hx hb dX7_childrenWith_31 (by decide) ?_
        exact hk7 _ _ _ _ hM (lv_sub hl [0, 1, 2, 4] rfl) hp
def p_X7_childrenWith (a0 : Nat) (a1 : Int32) (a2 : Int32) (M : Mem) : Option (Int32) :=
  (pl_X7_childrenWith_5
   (fun (z9 : Int32) =>
    some z9
   )
   a0 a1 a2 M FU (0 : Int32) (0 : Int32))
theorem yk_X7_childrenWith : yok yX7_childrenWith 2 := by decide +kernel
set_option maxHeartbeats 4000000 in
set_option maxRecDepth 100000 in
theorem w_X7_childrenWith {G : gG} (hG : GOK G) {l : Launch} {a0 : Nat} {a1 : Int32} {a2 : Int32} {M : Mem} {r : Int32} (hp : p_X7_childrenWith a0 a1 a2 M = some r) : CT G l yX7_childrenWith (wT yX7_childrenWith cX7_childrenWith 5 (some FieldType.int)) rm_X7_childrenWith [.ref a0, .int a1, .int a2] M (some (.int r)) M 0 0 := by
  refine CT_of (own := RX7) (maxL := 5) (ret := (some FieldType.int)) hG (by decide) rfl (Nat.le_of_ble_eq_true rfl) (fun p e s m below meth c A C0 hr hlk hM ls hl => ?_)
  have hl : lv_has ls 5 [(0, .ref a0), (1, .int a1), (2, .int a2)] := hl
  generalize ([.ref a0, .int a1, .int a2] : List Value).toArray = args at C0 ⊢
  skip
  have hx := C0.1
  have hb := C0.2.1
  have hown := C0.2.2.2.1
  have hts := C0.2.2.2.2.1
  unfold p_X7_childrenWith at hp
  refine lv_iconst (v := 0) hx hb dX7_childrenWith_0 (by decide) ?_
  refine lv_istore_n (lv' := [(3, .int (0 : Int32)), (0, .ref a0), (1, .int a1), (2, .int a2)]) hx hb dX7_childrenWith_1 rfl hl (by decide) rfl (fun ls hl => ?_)
  refine lv_iconst (v := 0) hx hb dX7_childrenWith_2 (by decide) ?_
  refine lv_istore (lv' := [(4, .int (0 : Int32)), (3, .int (0 : Int32)), (0, .ref a0), (1, .int a1), (2, .int a2)]) hx hb dX7_childrenWith_3 hl (by decide) rfl (fun ls hl => ?_)
  refine wl_X7_childrenWith_5 C0 hr hlk hG (fun z9 H locs ls hM hl hp => ?_) FU _ _ _ _ _ hM (lv_sub hl [2, 3, 4, 1, 0] rfl) hp
  refine lv_iload_n hx hb dX7_childrenWith_43 rfl (lv_at hl 0 rfl) ?_
  exact mr_iret C0 hr hlk hM rfl (Option.some.inj hp) (Nat.le_refl _) (Nat.le_refl _) dX7_childrenWith_44
abbrev rm_X7_count : Room := { frames := 1, cells := 0, slots := 0, locals := 24 }
def p_X7_count (a0 : Nat) (a1 : Int32) (M : Mem) : Option (Int32 × Mem) :=
  (Option.bind (sV 6 9 M a0 (.int (0 : Int32))) fun M1 =>
  (Option.bind (p_X7_inRange a1 (0 : Int32) (11 : Int32) M1) fun v2 =>
  (jn (fun (s3 : Int32) =>
   (Option.bind (isC 6 M1 a0) fun _ =>
   (ob2 (p_X7_fails a0 s3 (1 : Int32) M1) fun v6 M7 =>
   (if v6 = 0 then
    (if (Int32.toInt a1) < 3 ∨ 11 < (Int32.toInt a1) then
     (Option.bind (gR 6 0 M7 a0) fun v9 =>
     (Option.bind (aI 0 M7 v9 a1) fun v10 =>
     some (v10, M7)
     )
     )
    else
    (if a1 = (3 : Int32) then
     (Option.bind (isC 6 M7 a0) fun _ =>
     (Option.bind (p_X7_childrenWith a0 (404 : Int32) (1 : Int32) M7) fun v12 =>
     some (v12, M7)
     )
     )
    else
    (if a1 = (4 : Int32) then
     (Option.bind (gR 6 0 M7 a0) fun v13 =>
     (Option.bind (aI 0 M7 v13 (1 : Int32)) fun v14 =>
     (Option.bind (isC 6 M7 a0) fun _ =>
     (Option.bind (p_X7_childrenWith a0 (484 : Int32) (-1 : Int32) M7) fun v16 =>
     some ((v14 - v16), M7)
     )
     )
     )
     )
    else
    (if a1 = (5 : Int32) then
     (Option.bind (isC 6 M7 a0) fun _ =>
     (Option.bind (p_X7_childrenWith a0 (364 : Int32) (1 : Int32) M7) fun v18 =>
     some (v18, M7)
     )
     )
    else
    (if a1 = (6 : Int32) then
     (Option.bind (gR 6 0 M7 a0) fun v19 =>
     (Option.bind (aI 0 M7 v19 a1) fun v20 =>
     some (v20, M7)
     )
     )
    else
    (if a1 = (7 : Int32) then
     (Option.bind (gR 6 0 M7 a0) fun v21 =>
     (Option.bind (aI 0 M7 v21 a1) fun v22 =>
     some (v22, M7)
     )
     )
    else
    (if a1 = (8 : Int32) then
     (Option.bind (gR 6 0 M7 a0) fun v23 =>
     (Option.bind (aI 0 M7 v23 a1) fun v24 =>
     some (v24, M7)
     )
     )
    else
    (if a1 = (9 : Int32) then
     (Option.bind (gR 6 0 M7 a0) fun v25 =>
     (Option.bind (aI 0 M7 v25 a1) fun v26 =>
     some (v26, M7)
     )
     )
    else
    (if a1 = (10 : Int32) then
     (Option.bind (gR 6 0 M7 a0) fun v27 =>
     (Option.bind (aI 0 M7 v27 a1) fun v28 =>
     some (v28, M7)
     )
     )
    else
    (if a1 = (11 : Int32) then
     (Option.bind (gI 6 5 M7 a0) fun v29 =>
     some (v29, M7)
     )
    else
    none
    )
    )
    )
    )
    )
    )
    )
    )
    )
    )
   else
    some ((0 : Int32), M7)
   )
   )
   )
  ) fun k4 =>
  (if v2 = 0 then
   (k4 (1 : Int32))
  else
   (k4 (0 : Int32))
  )
  )
  )
  )
theorem yk_X7_count : yok yX7_count 1 := by decide +kernel
set_option maxHeartbeats 4000000 in
set_option maxRecDepth 100000 in
theorem w_X7_count {G : gG} (hG : GOK G) {l : Launch} {a0 : Nat} {a1 : Int32} {M : Mem} {r : Int32} {M' : Mem} (hp : p_X7_count a0 a1 M = some (r, M')) : CT G l yX7_count (wT yX7_count cX7_count 2 (some FieldType.int)) rm_X7_count [.ref a0, .int a1] M (some (.int r)) M' 0 0 := by
  refine CT_of (own := RX7) (maxL := 2) (ret := (some FieldType.int)) hG (by decide) rfl (Nat.le_of_ble_eq_true rfl) (fun p e s m below meth c A C0 hr hlk hM ls hl => ?_)
  have hl : lv_has ls 2 [(0, .ref a0), (1, .int a1)] := hl
  generalize ([.ref a0, .int a1] : List Value).toArray = args at C0 ⊢
  skip
  have hx := C0.1
  have hb := C0.2.1
  have hown := C0.2.2.2.1
  have hts := C0.2.2.2.2.1
  unfold p_X7_count at hp
  refine lv_aload_n hx hb dX7_count_0 rfl (lv_at hl 0 rfl) ?_
  refine lv_iconst (v := 0) hx hb dX7_count_1 (by decide) ?_
  obtain ⟨M1, hM1, hp⟩ := ob hp
  refine mr_putI C0 cbX7 hM 9 (by decide) rfl rfl tw_1233 hM1 dX7_count_2 (fun H locs hM => ?_)
  refine lv_aload_n hx hb dX7_count_5 rfl (lv_at hl 0 rfl) ?_
  refine lv_iload_n hx hb dX7_count_6 rfl (lv_at hl 1 rfl) ?_
  refine lv_iconst (v := 0) hx hb dX7_count_7 (by decide) ?_
  refine lv_bipush (v := 11) hx hb dX7_count_8 (by decide) ?_
  obtain ⟨v2, hv2, hp⟩ := ob hp
  refine mr_S1 (As := [.int a1, .int (0 : Int32), .int (11 : Int32)]) (rest := [.ref a0]) C0 hM (w_X7_inRange hG hv2) tw_1325 tw_1326 tw_7 tw_1327 yk_X7_inRange (by decide) rfl hl.1 (Nat.le_of_ble_eq_true rfl) dX7_count_10 rfl (fun H locs hM => ?_)
  obtain ⟨k4, ek4, hp⟩ := ojn hp
  have hk4 : ∀ (s3 : Int32) (H : Heap) (locs : List Loc) (ls : Array Slot), mm G A s M1 H locs → lv_has ls 2 [(0, .ref a0), (1, .int a1)] → k4 s3 = some (r, M') → W p l e rm_X7_count s m args below meth c H locs 0 0 (MQ below (CQ G M' (some (.int r)) A) args s 0 0 A) (F0 m 21 ls [.int s3, .ref a0]) := by
    intro s3 H locs ls hM hl hp
    rw [ek4] at hp
    refine lv_iconst (v := 1) hx hb dX7_count_21 (by decide) ?_
    obtain ⟨_, h5, hp⟩ := ob hp
    obtain ⟨v6, M7, hv6, hp⟩ := ob3 hp
    refine mr_V1 (As := [.int s3, .int (1 : Int32)]) (rest := []) C0 cbX7 hM h5 rfl (w_X7_fails hG hv6) tw_1459 tw_1461 tws_32 tw_7 tw_1462 yk_X7_fails (by decide) rfl hl.1 (Nat.le_of_ble_eq_true rfl) dX7_count_22 rfl (fun H locs hM => ?_)
    refine lv_if_eq (tgt := 30) hx hb dX7_count_25 (by decide) (fun c8 => ?_) (fun c8 => ?_)
    · replace hp := oT c8 hp
      refine lv_iload_n hx hb dX7_count_30 rfl (lv_at hl 1 rfl) ?_
      by_cases hd : (Int32.toInt a1) < 3 ∨ 11 < (Int32.toInt a1)
      · replace hp := oT hd hp
        refine lv_tableOut (tgt := 119) hx hb dX7_count_31 hd (by decide) ?_
        refine lv_aload_n hx hb dX7_count_119 rfl (lv_at hl 0 rfl) ?_
        obtain ⟨v9, hv9, hp⟩ := ob hp
        refine mr_getR C0 cbX7 hM 0 (by decide) tw_1224 hv9 dX7_count_120 ?_
        refine lv_iload_n hx hb dX7_count_123 rfl (lv_at hl 1 rfl) ?_
        obtain ⟨v10, hv10, hp⟩ := ob hp
        refine mr_iald C0 hM hv10 dX7_count_124 ?_
        exact mr_iret C0 hr hlk hM (Prod.mk.inj (Option.some.inj hp)).2 (Prod.mk.inj (Option.some.inj hp)).1 (Nat.le_refl _) (Nat.le_refl _) dX7_count_125
      replace hp := oF hd hp
      by_cases hd3 : a1 = (3 : Int32)
      · replace hp := oT hd3 hp
        refine mr_tsIn (tgt := 80) C0 (3 : Int32) hd3 dX7_count_31 (by decide) (by decide) rfl (by decide) ?_
        refine lv_aload_n hx hb dX7_count_80 rfl (lv_at hl 0 rfl) ?_
        refine lv_sipush (v := 404) hx hb dX7_count_81 (by decide) ?_
        refine lv_iconst (v := 1) hx hb dX7_count_84 (by decide) ?_
        obtain ⟨_, h11, hp⟩ := ob hp
        obtain ⟨v12, hv12, hp⟩ := ob hp
        refine mr_V1 (As := [.int (404 : Int32), .int (1 : Int32)]) (rest := []) C0 cbX7 hM h11 rfl (w_X7_childrenWith hG hv12) tw_1463 tw_1465 tws_33 tw_7 tw_1466 yk_X7_childrenWith (by decide) rfl hl.1 (Nat.le_of_ble_eq_true rfl) dX7_count_85 rfl (fun H locs hM => ?_)
        exact mr_iret C0 hr hlk hM (Prod.mk.inj (Option.some.inj hp)).2 (Prod.mk.inj (Option.some.inj hp)).1 (Nat.le_refl _) (Nat.le_refl _) dX7_count_88
      replace hp := oF hd3 hp
      by_cases hd4 : a1 = (4 : Int32)
      · replace hp := oT hd4 hp
        refine mr_tsIn (tgt := 89) C0 (4 : Int32) hd4 dX7_count_31 (by decide) (by decide) rfl (by decide) ?_
        refine lv_aload_n hx hb dX7_count_89 rfl (lv_at hl 0 rfl) ?_
        obtain ⟨v13, hv13, hp⟩ := ob hp
        refine mr_getR C0 cbX7 hM 0 (by decide) tw_1224 hv13 dX7_count_90 ?_
        refine lv_iconst (v := 1) hx hb dX7_count_93 (by decide) ?_
        obtain ⟨v14, hv14, hp⟩ := ob hp
        refine mr_iald C0 hM hv14 dX7_count_94 ?_
        refine lv_aload_n hx hb dX7_count_95 rfl (lv_at hl 0 rfl) ?_
        refine lv_sipush (v := 484) hx hb dX7_count_96 (by decide) ?_
        refine lv_iconst (v := -1) hx hb dX7_count_99 (by decide) ?_
        obtain ⟨_, h15, hp⟩ := ob hp
        obtain ⟨v16, hv16, hp⟩ := ob hp
        refine mr_V1 (As := [.int (484 : Int32), .int (-1 : Int32)]) (rest := [.int v14]) C0 cbX7 hM h15 rfl (w_X7_childrenWith hG hv16) tw_1463 tw_1465 tws_33 tw_7 tw_1466 yk_X7_childrenWith (by decide) rfl hl.1 (Nat.le_of_ble_eq_true rfl) dX7_count_100 rfl (fun H locs hM => ?_)
        refine lv_isub hx hb dX7_count_103 ?_
        exact mr_iret C0 hr hlk hM (Prod.mk.inj (Option.some.inj hp)).2 (Prod.mk.inj (Option.some.inj hp)).1 (Nat.le_refl _) (Nat.le_refl _) dX7_count_104
      replace hp := oF hd4 hp
      by_cases hd5 : a1 = (5 : Int32)
      · replace hp := oT hd5 hp
        refine mr_tsIn (tgt := 105) C0 (5 : Int32) hd5 dX7_count_31 (by decide) (by decide) rfl (by decide) ?_
        refine lv_aload_n hx hb dX7_count_105 rfl (lv_at hl 0 rfl) ?_
        refine lv_sipush (v := 364) hx hb dX7_count_106 (by decide) ?_
        refine lv_iconst (v := 1) hx hb dX7_count_109 (by decide) ?_
        obtain ⟨_, h17, hp⟩ := ob hp
        obtain ⟨v18, hv18, hp⟩ := ob hp
        refine mr_V1 (As := [.int (364 : Int32), .int (1 : Int32)]) (rest := []) C0 cbX7 hM h17 rfl (w_X7_childrenWith hG hv18) tw_1463 tw_1465 tws_33 tw_7 tw_1466 yk_X7_childrenWith (by decide) rfl hl.1 (Nat.le_of_ble_eq_true rfl) dX7_count_110 rfl (fun H locs hM => ?_)
        exact mr_iret C0 hr hlk hM (Prod.mk.inj (Option.some.inj hp)).2 (Prod.mk.inj (Option.some.inj hp)).1 (Nat.le_refl _) (Nat.le_refl _) dX7_count_113
      replace hp := oF hd5 hp
      by_cases hd6 : a1 = (6 : Int32)
      · replace hp := oT hd6 hp
        refine mr_tsIn (tgt := 119) C0 (6 : Int32) hd6 dX7_count_31 (by decide) (by decide) rfl (by decide) ?_
        refine lv_aload_n hx hb dX7_count_119 rfl (lv_at hl 0 rfl) ?_
        obtain ⟨v19, hv19, hp⟩ := ob hp
        refine mr_getR C0 cbX7 hM 0 (by decide) tw_1224 hv19 dX7_count_120 ?_
        refine lv_iload_n hx hb dX7_count_123 rfl (lv_at hl 1 rfl) ?_
        obtain ⟨v20, hv20, hp⟩ := ob hp
        refine mr_iald C0 hM hv20 dX7_count_124 ?_
        exact mr_iret C0 hr hlk hM (Prod.mk.inj (Option.some.inj hp)).2 (Prod.mk.inj (Option.some.inj hp)).1 (Nat.le_refl _) (Nat.le_refl _) dX7_count_125
      replace hp := oF hd6 hp
      by_cases hd7 : a1 = (7 : Int32)
      · replace hp := oT hd7 hp
        refine mr_tsIn (tgt := 119) C0 (7 : Int32) hd7 dX7_count_31 (by decide) (by decide) rfl (by decide) ?_
        refine lv_aload_n hx hb dX7_count_119 rfl (lv_at hl 0 rfl) ?_
        obtain ⟨v21, hv21, hp⟩ := ob hp
        refine mr_getR C0 cbX7 hM 0 (by decide) tw_1224 hv21 dX7_count_120 ?_
        refine lv_iload_n hx hb dX7_count_123 rfl (lv_at hl 1 rfl) ?_
        obtain ⟨v22, hv22, hp⟩ := ob hp
        refine mr_iald C0 hM hv22 dX7_count_124 ?_
        exact mr_iret C0 hr hlk hM (Prod.mk.inj (Option.some.inj hp)).2 (Prod.mk.inj (Option.some.inj hp)).1 (Nat.le_refl _) (Nat.le_refl _) dX7_count_125
      replace hp := oF hd7 hp
      by_cases hd8 : a1 = (8 : Int32)
      · replace hp := oT hd8 hp
        refine mr_tsIn (tgt := 119) C0 (8 : Int32) hd8 dX7_count_31 (by decide) (by decide) rfl (by decide) ?_
        refine lv_aload_n hx hb dX7_count_119 rfl (lv_at hl 0 rfl) ?_
        obtain ⟨v23, hv23, hp⟩ := ob hp
        refine mr_getR C0 cbX7 hM 0 (by decide) tw_1224 hv23 dX7_count_120 ?_
        refine lv_iload_n hx hb dX7_count_123 rfl (lv_at hl 1 rfl) ?_
        obtain ⟨v24, hv24, hp⟩ := ob hp
        refine mr_iald C0 hM hv24 dX7_count_124 ?_
        exact mr_iret C0 hr hlk hM (Prod.mk.inj (Option.some.inj hp)).2 (Prod.mk.inj (Option.some.inj hp)).1 (Nat.le_refl _) (Nat.le_refl _) dX7_count_125
      replace hp := oF hd8 hp
      by_cases hd9 : a1 = (9 : Int32)
      · replace hp := oT hd9 hp
        refine mr_tsIn (tgt := 119) C0 (9 : Int32) hd9 dX7_count_31 (by decide) (by decide) rfl (by decide) ?_
        refine lv_aload_n hx hb dX7_count_119 rfl (lv_at hl 0 rfl) ?_
        obtain ⟨v25, hv25, hp⟩ := ob hp
        refine mr_getR C0 cbX7 hM 0 (by decide) tw_1224 hv25 dX7_count_120 ?_
        refine lv_iload_n hx hb dX7_count_123 rfl (lv_at hl 1 rfl) ?_
        obtain ⟨v26, hv26, hp⟩ := ob hp
        refine mr_iald C0 hM hv26 dX7_count_124 ?_
        exact mr_iret C0 hr hlk hM (Prod.mk.inj (Option.some.inj hp)).2 (Prod.mk.inj (Option.some.inj hp)).1 (Nat.le_refl _) (Nat.le_refl _) dX7_count_125
      replace hp := oF hd9 hp
      by_cases hd10 : a1 = (10 : Int32)
      · replace hp := oT hd10 hp
        refine mr_tsIn (tgt := 119) C0 (10 : Int32) hd10 dX7_count_31 (by decide) (by decide) rfl (by decide) ?_
        refine lv_aload_n hx hb dX7_count_119 rfl (lv_at hl 0 rfl) ?_
        obtain ⟨v27, hv27, hp⟩ := ob hp
        refine mr_getR C0 cbX7 hM 0 (by decide) tw_1224 hv27 dX7_count_120 ?_
        refine lv_iload_n hx hb dX7_count_123 rfl (lv_at hl 1 rfl) ?_
        obtain ⟨v28, hv28, hp⟩ := ob hp
        refine mr_iald C0 hM hv28 dX7_count_124 ?_
        exact mr_iret C0 hr hlk hM (Prod.mk.inj (Option.some.inj hp)).2 (Prod.mk.inj (Option.some.inj hp)).1 (Nat.le_refl _) (Nat.le_refl _) dX7_count_125
      replace hp := oF hd10 hp
      by_cases hd11 : a1 = (11 : Int32)
      · replace hp := oT hd11 hp
        refine mr_tsIn (tgt := 114) C0 (11 : Int32) hd11 dX7_count_31 (by decide) (by decide) rfl (by decide) ?_
        refine lv_aload_n hx hb dX7_count_114 rfl (lv_at hl 0 rfl) ?_
        obtain ⟨v29, hv29, hp⟩ := ob hp
        refine mr_getI C0 cbX7 hM 5 (by decide) tw_1229 hv29 dX7_count_115 ?_
        exact mr_iret C0 hr hlk hM (Prod.mk.inj (Option.some.inj hp)).2 (Prod.mk.inj (Option.some.inj hp)).1 (Nat.le_refl _) (Nat.le_refl _) dX7_count_118
      replace hp := oF hd11 hp
      cases hp
    · replace hp := oF c8 hp
      refine lv_iconst (v := 0) hx hb dX7_count_28 (by decide) ?_
      exact mr_iret C0 hr hlk hM (Prod.mk.inj (Option.some.inj hp)).2 (Prod.mk.inj (Option.some.inj hp)).1 (Nat.le_refl _) (Nat.le_refl _) dX7_count_29
  refine lv_if_ne (tgt := 20) hx hb dX7_count_13 (by decide) (fun c30 => ?_) (fun c30 => ?_)
  · replace hp := oF c30 hp
    refine lv_iconst (v := 0) hx hb dX7_count_20 (by decide) ?_
    exact hk4 _ _ _ _ hM (lv_sub hl [0, 1] rfl) hp
  · replace hp := oT c30 hp
    refine lv_iconst (v := 1) hx hb dX7_count_16 (by decide) ?_
    refine lv_goto (tgt := 21) hx hb dX7_count_17 (by decide) ?_
    exact hk4 _ _ _ _ hM (lv_sub hl [0, 1] rfl) hp
abbrev rm_X7_noSchool : Room := { frames := 1, cells := 0, slots := 0, locals := 22 }
def p_X7_noSchool (a0 : Nat) (a1 : Int32) (M : Mem) : Option (Int32 × Mem) :=
  (Option.bind (sV 6 9 M a0 (.int (0 : Int32))) fun M1 =>
  (Option.bind (gR 6 0 M1 a0) fun v2 =>
  (Option.bind (aI 0 M1 v2 (0 : Int32)) fun v3 =>
  (Option.bind (p_X7_inRange a1 (0 : Int32) (v3 - (1 : Int32)) M1) fun v4 =>
  (if v4 = 0 then
   (Option.bind (isC 6 M1 a0) fun _ =>
   (ob2 (p_X7_fails a0 (1 : Int32) (1 : Int32) M1) fun v10 M11 =>
   (if v10 = 0 ∨ v10 = 1 then some (v10, M11) else none)
   )
   )
  else
   (Option.bind (isC 6 M1 a0) fun _ =>
   (ob2 (p_X7_fails a0 (0 : Int32) (1 : Int32) M1) fun v7 M8 =>
   (if v7 = 0 ∨ v7 = 1 then some (v7, M8) else none)
   )
   )
  )
  )
  )
  )
  )
theorem yk_X7_noSchool : yok yX7_noSchool 1 := by decide +kernel
set_option maxHeartbeats 4000000 in
set_option maxRecDepth 100000 in
theorem w_X7_noSchool {G : gG} (hG : GOK G) {l : Launch} {a0 : Nat} {a1 : Int32} {M : Mem} {r : Int32} {M' : Mem} (hp : p_X7_noSchool a0 a1 M = some (r, M')) : CT G l yX7_noSchool (wT yX7_noSchool cX7_noSchool 2 (some FieldType.boolean)) rm_X7_noSchool [.ref a0, .int a1] M (some (.int r)) M' 0 0 := by
  refine CT_of (own := RX7) (maxL := 2) (ret := (some FieldType.boolean)) hG (by decide) rfl (Nat.le_of_ble_eq_true rfl) (fun p e s m below meth c A C0 hr hlk hM ls hl => ?_)
  have hl : lv_has ls 2 [(0, .ref a0), (1, .int a1)] := hl
  generalize ([.ref a0, .int a1] : List Value).toArray = args at C0 ⊢
  skip
  have hx := C0.1
  have hb := C0.2.1
  have hown := C0.2.2.2.1
  have hts := C0.2.2.2.2.1
  unfold p_X7_noSchool at hp
  refine lv_aload_n hx hb dX7_noSchool_0 rfl (lv_at hl 0 rfl) ?_
  refine lv_iconst (v := 0) hx hb dX7_noSchool_1 (by decide) ?_
  obtain ⟨M1, hM1, hp⟩ := ob hp
  refine mr_putI C0 cbX7 hM 9 (by decide) rfl rfl tw_1233 hM1 dX7_noSchool_2 (fun H locs hM => ?_)
  refine lv_aload_n hx hb dX7_noSchool_5 rfl (lv_at hl 0 rfl) ?_
  refine lv_iload_n hx hb dX7_noSchool_6 rfl (lv_at hl 1 rfl) ?_
  refine lv_iconst (v := 0) hx hb dX7_noSchool_7 (by decide) ?_
  refine lv_aload_n hx hb dX7_noSchool_8 rfl (lv_at hl 0 rfl) ?_
  obtain ⟨v2, hv2, hp⟩ := ob hp
  refine mr_getR C0 cbX7 hM 0 (by decide) tw_1224 hv2 dX7_noSchool_9 ?_
  refine lv_iconst (v := 0) hx hb dX7_noSchool_12 (by decide) ?_
  obtain ⟨v3, hv3, hp⟩ := ob hp
  refine mr_iald C0 hM hv3 dX7_noSchool_13 ?_
  refine lv_iconst (v := 1) hx hb dX7_noSchool_14 (by decide) ?_
  refine lv_isub hx hb dX7_noSchool_15 ?_
  obtain ⟨v4, hv4, hp⟩ := ob hp
  refine mr_S1 (As := [.int a1, .int (0 : Int32), .int (v3 - (1 : Int32))]) (rest := [.ref a0]) C0 hM (w_X7_inRange hG hv4) tw_1325 tw_1326 tw_7 tw_1327 yk_X7_inRange (by decide) rfl hl.1 (Nat.le_of_ble_eq_true rfl) dX7_noSchool_16 rfl (fun H locs hM => ?_)
  refine lv_if_ne (tgt := 26) hx hb dX7_noSchool_19 (by decide) (fun c5 => ?_) (fun c5 => ?_)
  · replace hp := oF c5 hp
    refine lv_iconst (v := 0) hx hb dX7_noSchool_26 (by decide) ?_
    refine lv_iconst (v := 1) hx hb dX7_noSchool_27 (by decide) ?_
    obtain ⟨_, h6, hp⟩ := ob hp
    obtain ⟨v7, M8, hv7, hp⟩ := ob3 hp
    refine mr_V1 (As := [.int (0 : Int32), .int (1 : Int32)]) (rest := []) C0 cbX7 hM h6 rfl (w_X7_fails hG hv7) tw_1459 tw_1461 tws_32 tw_7 tw_1462 yk_X7_fails (by decide) rfl hl.1 (Nat.le_of_ble_eq_true rfl) dX7_noSchool_28 rfl (fun H locs hM => ?_)
    obtain ⟨hz, hp⟩ := oG hp
    exact mr_zret C0 hr hlk hM (Prod.mk.inj (Option.some.inj hp)).2 hz (Prod.mk.inj (Option.some.inj hp)).1 (Nat.le_refl _) (Nat.le_refl _) dX7_noSchool_31
  · replace hp := oT c5 hp
    refine lv_iconst (v := 1) hx hb dX7_noSchool_22 (by decide) ?_
    refine lv_goto (tgt := 27) hx hb dX7_noSchool_23 (by decide) ?_
    refine lv_iconst (v := 1) hx hb dX7_noSchool_27 (by decide) ?_
    obtain ⟨_, h9, hp⟩ := ob hp
    obtain ⟨v10, M11, hv10, hp⟩ := ob3 hp
    refine mr_V1 (As := [.int (1 : Int32), .int (1 : Int32)]) (rest := []) C0 cbX7 hM h9 rfl (w_X7_fails hG hv10) tw_1459 tw_1461 tws_32 tw_7 tw_1462 yk_X7_fails (by decide) rfl hl.1 (Nat.le_of_ble_eq_true rfl) dX7_noSchool_28 rfl (fun H locs hM => ?_)
    obtain ⟨hz, hp⟩ := oG hp
    exact mr_zret C0 hr hlk hM (Prod.mk.inj (Option.some.inj hp)).2 hz (Prod.mk.inj (Option.some.inj hp)).1 (Nat.le_refl _) (Nat.le_refl _) dX7_noSchool_31
abbrev rm_X7_noChild : Room := { frames := 1, cells := 0, slots := 0, locals := 22 }
def p_X7_noChild (a0 : Nat) (a1 : Int32) (M : Mem) : Option (Int32 × Mem) :=
  (Option.bind (sV 6 9 M a0 (.int (0 : Int32))) fun M1 =>
  (Option.bind (gR 6 0 M1 a0) fun v2 =>
  (Option.bind (aI 0 M1 v2 (1 : Int32)) fun v3 =>
  (Option.bind (p_X7_inRange a1 (0 : Int32) (v3 - (1 : Int32)) M1) fun v4 =>
  (if v4 = 0 then
   (Option.bind (isC 6 M1 a0) fun _ =>
   (ob2 (p_X7_fails a0 (1 : Int32) (1 : Int32) M1) fun v10 M11 =>
   (if v10 = 0 ∨ v10 = 1 then some (v10, M11) else none)
   )
   )
  else
   (Option.bind (isC 6 M1 a0) fun _ =>
   (ob2 (p_X7_fails a0 (0 : Int32) (1 : Int32) M1) fun v7 M8 =>
   (if v7 = 0 ∨ v7 = 1 then some (v7, M8) else none)
   )
   )
  )
  )
  )
  )
  )
theorem yk_X7_noChild : yok yX7_noChild 1 := by decide +kernel
set_option maxHeartbeats 4000000 in
set_option maxRecDepth 100000 in
theorem w_X7_noChild {G : gG} (hG : GOK G) {l : Launch} {a0 : Nat} {a1 : Int32} {M : Mem} {r : Int32} {M' : Mem} (hp : p_X7_noChild a0 a1 M = some (r, M')) : CT G l yX7_noChild (wT yX7_noChild cX7_noChild 2 (some FieldType.boolean)) rm_X7_noChild [.ref a0, .int a1] M (some (.int r)) M' 0 0 := by
  refine CT_of (own := RX7) (maxL := 2) (ret := (some FieldType.boolean)) hG (by decide) rfl (Nat.le_of_ble_eq_true rfl) (fun p e s m below meth c A C0 hr hlk hM ls hl => ?_)
  have hl : lv_has ls 2 [(0, .ref a0), (1, .int a1)] := hl
  generalize ([.ref a0, .int a1] : List Value).toArray = args at C0 ⊢
  skip
  have hx := C0.1
  have hb := C0.2.1
  have hown := C0.2.2.2.1
  have hts := C0.2.2.2.2.1
  unfold p_X7_noChild at hp
  refine lv_aload_n hx hb dX7_noChild_0 rfl (lv_at hl 0 rfl) ?_
  refine lv_iconst (v := 0) hx hb dX7_noChild_1 (by decide) ?_
  obtain ⟨M1, hM1, hp⟩ := ob hp
  refine mr_putI C0 cbX7 hM 9 (by decide) rfl rfl tw_1233 hM1 dX7_noChild_2 (fun H locs hM => ?_)
  refine lv_aload_n hx hb dX7_noChild_5 rfl (lv_at hl 0 rfl) ?_
  refine lv_iload_n hx hb dX7_noChild_6 rfl (lv_at hl 1 rfl) ?_
  refine lv_iconst (v := 0) hx hb dX7_noChild_7 (by decide) ?_
  refine lv_aload_n hx hb dX7_noChild_8 rfl (lv_at hl 0 rfl) ?_
  obtain ⟨v2, hv2, hp⟩ := ob hp
  refine mr_getR C0 cbX7 hM 0 (by decide) tw_1224 hv2 dX7_noChild_9 ?_
  refine lv_iconst (v := 1) hx hb dX7_noChild_12 (by decide) ?_
  obtain ⟨v3, hv3, hp⟩ := ob hp
  refine mr_iald C0 hM hv3 dX7_noChild_13 ?_
  refine lv_iconst (v := 1) hx hb dX7_noChild_14 (by decide) ?_
  refine lv_isub hx hb dX7_noChild_15 ?_
  obtain ⟨v4, hv4, hp⟩ := ob hp
  refine mr_S1 (As := [.int a1, .int (0 : Int32), .int (v3 - (1 : Int32))]) (rest := [.ref a0]) C0 hM (w_X7_inRange hG hv4) tw_1325 tw_1326 tw_7 tw_1327 yk_X7_inRange (by decide) rfl hl.1 (Nat.le_of_ble_eq_true rfl) dX7_noChild_16 rfl (fun H locs hM => ?_)
  refine lv_if_ne (tgt := 26) hx hb dX7_noChild_19 (by decide) (fun c5 => ?_) (fun c5 => ?_)
  · replace hp := oF c5 hp
    refine lv_iconst (v := 0) hx hb dX7_noChild_26 (by decide) ?_
    refine lv_iconst (v := 1) hx hb dX7_noChild_27 (by decide) ?_
    obtain ⟨_, h6, hp⟩ := ob hp
    obtain ⟨v7, M8, hv7, hp⟩ := ob3 hp
    refine mr_V1 (As := [.int (0 : Int32), .int (1 : Int32)]) (rest := []) C0 cbX7 hM h6 rfl (w_X7_fails hG hv7) tw_1459 tw_1461 tws_32 tw_7 tw_1462 yk_X7_fails (by decide) rfl hl.1 (Nat.le_of_ble_eq_true rfl) dX7_noChild_28 rfl (fun H locs hM => ?_)
    obtain ⟨hz, hp⟩ := oG hp
    exact mr_zret C0 hr hlk hM (Prod.mk.inj (Option.some.inj hp)).2 hz (Prod.mk.inj (Option.some.inj hp)).1 (Nat.le_refl _) (Nat.le_refl _) dX7_noChild_31
  · replace hp := oT c5 hp
    refine lv_iconst (v := 1) hx hb dX7_noChild_22 (by decide) ?_
    refine lv_goto (tgt := 27) hx hb dX7_noChild_23 (by decide) ?_
    refine lv_iconst (v := 1) hx hb dX7_noChild_27 (by decide) ?_
    obtain ⟨_, h9, hp⟩ := ob hp
    obtain ⟨v10, M11, hv10, hp⟩ := ob3 hp
    refine mr_V1 (As := [.int (1 : Int32), .int (1 : Int32)]) (rest := []) C0 cbX7 hM h9 rfl (w_X7_fails hG hv10) tw_1459 tw_1461 tws_32 tw_7 tw_1462 yk_X7_fails (by decide) rfl hl.1 (Nat.le_of_ble_eq_true rfl) dX7_noChild_28 rfl (fun H locs hM => ?_)
    obtain ⟨hz, hp⟩ := oG hp
    exact mr_zret C0 hr hlk hM (Prod.mk.inj (Option.some.inj hp)).2 hz (Prod.mk.inj (Option.some.inj hp)).1 (Nat.le_refl _) (Nat.le_refl _) dX7_noChild_31
abbrev rm_X7_noneOf : Room := { frames := 2, cells := 0, slots := 0, locals := 43 }
def p_X7_noneOf (a0 : Nat) (a1 : Int32) (a2 : Int32) (M : Mem) : Option (Int32 × Mem) :=
  (Option.bind (isC 6 M a0) fun _ =>
  (ob2 (p_X7_noChild a0 a1 M) fun v2 M3 =>
  (if v2 = 0 then
   (Option.bind (isC 6 M3 a0) fun _ =>
   (ob2 (p_X7_noSchool a0 a2 M3) fun v6 M7 =>
   (if v6 = 0 then
    some ((0 : Int32), M7)
   else
    some ((1 : Int32), M7)
   )
   )
   )
  else
   some ((1 : Int32), M3)
  )
  )
  )
theorem yk_X7_noneOf : yok yX7_noneOf 2 := by decide +kernel
set_option maxHeartbeats 4000000 in
set_option maxRecDepth 100000 in
theorem w_X7_noneOf {G : gG} (hG : GOK G) {l : Launch} {a0 : Nat} {a1 : Int32} {a2 : Int32} {M : Mem} {r : Int32} {M' : Mem} (hp : p_X7_noneOf a0 a1 a2 M = some (r, M')) : CT G l yX7_noneOf (wT yX7_noneOf cX7_noneOf 3 (some FieldType.boolean)) rm_X7_noneOf [.ref a0, .int a1, .int a2] M (some (.int r)) M' 0 0 := by
  refine CT_of (own := RX7) (maxL := 3) (ret := (some FieldType.boolean)) hG (by decide) rfl (Nat.le_of_ble_eq_true rfl) (fun p e s m below meth c A C0 hr hlk hM ls hl => ?_)
  have hl : lv_has ls 3 [(0, .ref a0), (1, .int a1), (2, .int a2)] := hl
  generalize ([.ref a0, .int a1, .int a2] : List Value).toArray = args at C0 ⊢
  skip
  have hx := C0.1
  have hb := C0.2.1
  have hown := C0.2.2.2.1
  have hts := C0.2.2.2.2.1
  unfold p_X7_noneOf at hp
  refine lv_aload_n hx hb dX7_noneOf_0 rfl (lv_at hl 0 rfl) ?_
  refine lv_iload_n hx hb dX7_noneOf_1 rfl (lv_at hl 1 rfl) ?_
  obtain ⟨_, h1, hp⟩ := ob hp
  obtain ⟨v2, M3, hv2, hp⟩ := ob3 hp
  refine mr_V1 (As := [.int a1]) (rest := []) C0 cbX7 hM h1 rfl (w_X7_noChild hG hv2) tw_1511 tw_1513 tws_42 tw_7 tw_1514 yk_X7_noChild (by decide) rfl hl.1 (Nat.le_of_ble_eq_true rfl) dX7_noneOf_2 rfl (fun H locs hM => ?_)
  refine lv_if_ne (tgt := 16) hx hb dX7_noneOf_5 (by decide) (fun c4 => ?_) (fun c4 => ?_)
  · replace hp := oF c4 hp
    refine lv_iconst (v := 1) hx hb dX7_noneOf_16 (by decide) ?_
    refine lv_goto (tgt := 21) hx hb dX7_noneOf_17 (by decide) ?_
    exact mr_zret C0 hr hlk hM (Prod.mk.inj (Option.some.inj hp)).2 (Or.inr rfl) (Prod.mk.inj (Option.some.inj hp)).1 (Nat.le_refl _) (Nat.le_refl _) dX7_noneOf_21
  · replace hp := oT c4 hp
    refine lv_aload_n hx hb dX7_noneOf_8 rfl (lv_at hl 0 rfl) ?_
    refine lv_iload_n hx hb dX7_noneOf_9 rfl (lv_at hl 2 rfl) ?_
    obtain ⟨_, h5, hp⟩ := ob hp
    obtain ⟨v6, M7, hv6, hp⟩ := ob3 hp
    refine mr_V1 (As := [.int a2]) (rest := []) C0 cbX7 hM h5 rfl (w_X7_noSchool hG hv6) tw_1471 tw_1473 tws_34 tw_7 tw_1474 yk_X7_noSchool (by decide) rfl hl.1 (Nat.le_of_ble_eq_true rfl) dX7_noneOf_10 rfl (fun H locs hM => ?_)
    refine lv_if_eq (tgt := 20) hx hb dX7_noneOf_13 (by decide) (fun c8 => ?_) (fun c8 => ?_)
    · replace hp := oT c8 hp
      refine lv_iconst (v := 0) hx hb dX7_noneOf_20 (by decide) ?_
      exact mr_zret C0 hr hlk hM (Prod.mk.inj (Option.some.inj hp)).2 (Or.inl rfl) (Prod.mk.inj (Option.some.inj hp)).1 (Nat.le_refl _) (Nat.le_refl _) dX7_noneOf_21
    · replace hp := oF c8 hp
      refine lv_iconst (v := 1) hx hb dX7_noneOf_16 (by decide) ?_
      refine lv_goto (tgt := 21) hx hb dX7_noneOf_17 (by decide) ?_
      exact mr_zret C0 hr hlk hM (Prod.mk.inj (Option.some.inj hp)).2 (Or.inr rfl) (Prod.mk.inj (Option.some.inj hp)).1 (Nat.le_refl _) (Nat.le_refl _) dX7_noneOf_21
abbrev rm_X7_pupilsAt : Room := { frames := 0, cells := 0, slots := 0, locals := 0 }
def pl_X7_pupilsAt_4 (k1 : Int32 → Option (Int32)) (f0 : Nat) (f1 : Int32) (M : Mem) : Nat → Int32 → Int32 → Option (Int32)
  | 0, _, _ => none
  | n + 1, y2, y3 =>
    (Option.bind (gR 6 0 M f0) fun v1 =>
    (Option.bind (aI 0 M v1 (2 : Int32)) fun v2 =>
    (if v2 ≤ y3 then
     (k1 y2)
    else
     (Option.bind (gR 6 0 M f0) fun v4 =>
     (Option.bind (aI 0 M v4 (((724 : Int32) + ((2 : Int32) * y3)) + (1 : Int32))) fun v5 =>
     (jn (fun (s6 : Int32) =>
      (pl_X7_pupilsAt_4 k1 f0 f1 M n (y2 + s6) (y3 + (1 : Int32)))
     ) fun k7 =>
     (if v5 = f1 then
      (k7 (1 : Int32))
     else
      (k7 (0 : Int32))
     )
     )
     )
     )
    )
    )
    )
set_option maxHeartbeats 4000000 in
set_option maxRecDepth 100000 in
theorem wl_X7_pupilsAt_4 {G : gG} {p : Program} {l : Launch} {e : Env} {s : State} {m : MethodId} {args : Array Value} {below : List Frame} {meth : Method} {c : Code} {A : Nat → Prop} {r : Int32} {k1 : Int32 → Option (Int32)} {f0 : Nat} {f1 : Int32} {M : Mem} (C0 : cx G p s m args c cX7_pupilsAt RX7 4 A) (hr : meth.sig.returnType = (some FieldType.int)) (hlk : meth.locks = false) (hG : GOK G) (hk1 : ∀ (z2 : Int32) (H : Heap) (locs : List Loc) (ls : Array Slot), mm G A s M H locs → lv_has ls 4 [(2, .int z2)] → k1 z2 = some r → W p l e rm_X7_pupilsAt s m args below meth c H locs 0 0 (MQ below (CQ G M (some (.int r)) A) args s 0 0 A) (F0 m 46 ls [])) : ∀ (n : Nat) (y2 : Int32) (y3 : Int32) (H : Heap) (locs : List Loc) (ls : Array Slot), mm G A s M H locs → lv_has ls 4 [(0, .ref f0), (1, .int f1), (2, .int y2), (3, .int y3)] → pl_X7_pupilsAt_4 k1 f0 f1 M n y2 y3 = some r → W p l e rm_X7_pupilsAt s m args below meth c H locs 0 0 (MQ below (CQ G M (some (.int r)) A) args s 0 0 A) (F0 m 4 ls []) := by
  have hx := C0.1
  have hb := C0.2.1
  have hown := C0.2.2.2.1
  have hts := C0.2.2.2.2.1
  intro n
  induction n with
  | zero => intro y2 y3 H locs ls hM hl hp; rw [pl_X7_pupilsAt_4] at hp; cases hp
  | succ n ih =>
    intro y2 y3 H locs ls hM hl hp
    rw [pl_X7_pupilsAt_4] at hp
    refine lv_iload_n hx hb dX7_pupilsAt_4 rfl (lv_at hl 3 rfl) ?_
    refine lv_aload_n hx hb dX7_pupilsAt_5 rfl (lv_at hl 0 rfl) ?_
    obtain ⟨v1, hv1, hp⟩ := ob hp
    refine mr_getR C0 cbX7 hM 0 (by decide) tw_1224 hv1 dX7_pupilsAt_6 ?_
    refine lv_iconst (v := 2) hx hb dX7_pupilsAt_9 (by decide) ?_
    obtain ⟨v2, hv2, hp⟩ := ob hp
    refine mr_iald C0 hM hv2 dX7_pupilsAt_10 ?_
    refine lv_icmp_ge (tgt := 46) hx hb dX7_pupilsAt_11 (by decide) (fun c3 => ?_) (fun c3 => ?_)
    · replace hp := oT c3 hp
      exact hk1 _ _ _ _ hM (lv_sub hl [2] rfl) hp
    · replace hp := oF c3 hp
      refine lv_iload_n hx hb dX7_pupilsAt_14 rfl (lv_at hl 2 rfl) ?_
      refine lv_aload_n hx hb dX7_pupilsAt_15 rfl (lv_at hl 0 rfl) ?_
      obtain ⟨v4, hv4, hp⟩ := ob hp
      refine mr_getR C0 cbX7 hM 0 (by decide) tw_1224 hv4 dX7_pupilsAt_16 ?_
      refine lv_sipush (v := 724) hx hb dX7_pupilsAt_19 (by decide) ?_
      refine lv_iconst (v := 2) hx hb dX7_pupilsAt_22 (by decide) ?_
      refine lv_iload_n hx hb dX7_pupilsAt_23 rfl (lv_at hl 3 rfl) ?_
      refine lv_imul hx hb dX7_pupilsAt_24 ?_
      refine lv_iadd hx hb dX7_pupilsAt_25 ?_
      refine lv_iconst (v := 1) hx hb dX7_pupilsAt_26 (by decide) ?_
      refine lv_iadd hx hb dX7_pupilsAt_27 ?_
      obtain ⟨v5, hv5, hp⟩ := ob hp
      refine mr_iald C0 hM hv5 dX7_pupilsAt_28 ?_
      refine lv_iload_n hx hb dX7_pupilsAt_29 rfl (lv_at hl 1 rfl) ?_
      obtain ⟨k7, ek7, hp⟩ := ojn hp
      have hk7 : ∀ (s6 : Int32) (H : Heap) (locs : List Loc) (ls : Array Slot), mm G A s M H locs → lv_has ls 4 [(0, .ref f0), (1, .int f1), (3, .int y3)] → k7 s6 = some r → W p l e rm_X7_pupilsAt s m args below meth c H locs 0 0 (MQ below (CQ G M (some (.int r)) A) args s 0 0 A) (F0 m 38 ls [.int s6, .int y2]) := by
        intro s6 H locs ls hM hl hp
        rw [ek7] at hp
        refine lv_iadd hx hb dX7_pupilsAt_38 ?_
        refine lv_istore_n (lv' := [(2, .int (y2 + s6)), (0, .ref f0), (1, .int f1), (3, .int y3)]) hx hb dX7_pupilsAt_39 rfl hl (by decide) rfl (fun ls hl => ?_)
        refine lv_iinc (v := (y3 + (1 : Int32))) (lv' := [(3, .int (y3 + (1 : Int32))), (2, .int (y2 + s6)), (0, .ref f0), (1, .int f1)]) hx hb dX7_pupilsAt_40 hl (k := 3) rfl rfl (by decide) rfl (fun ls hl => ?_)
        refine lv_goto (tgt := 4) hx hb dX7_pupilsAt_43 (by decide) ?_
        exact ih _ _ _ _ _ hM (lv_sub hl [2, 3, 1, 0] rfl) hp
      refine lv_icmp_ne (tgt := 37) hx hb dX7_pupilsAt_30 (by decide) (fun c8 => ?_) (fun c8 => ?_)
      · replace hp := oF c8 hp
        refine lv_iconst (v := 0) hx hb dX7_pupilsAt_37 (by decide) ?_
        exact hk7 _ _ _ _ hM (lv_sub hl [0, 1, 3] rfl) hp
      · replace hp := oT c8 hp
        refine lv_iconst (v := 1) hx hb dX7_pupilsAt_33 (by decide) ?_
        refine lv_goto (tgt := 38) hx hb dX7_pupilsAt_34 (by decide) ?_
        exact hk7 _ _ _ _ hM (lv_sub hl [0, 1, 3] rfl) hp
def p_X7_pupilsAt (a0 : Nat) (a1 : Int32) (M : Mem) : Option (Int32) :=
  (pl_X7_pupilsAt_4
   (fun (z9 : Int32) =>
    some z9
   )
   a0 a1 M FU (0 : Int32) (0 : Int32))
theorem yk_X7_pupilsAt : yok yX7_pupilsAt 1 := by decide +kernel
set_option maxHeartbeats 4000000 in
set_option maxRecDepth 100000 in
theorem w_X7_pupilsAt {G : gG} (hG : GOK G) {l : Launch} {a0 : Nat} {a1 : Int32} {M : Mem} {r : Int32} (hp : p_X7_pupilsAt a0 a1 M = some r) : CT G l yX7_pupilsAt (wT yX7_pupilsAt cX7_pupilsAt 4 (some FieldType.int)) rm_X7_pupilsAt [.ref a0, .int a1] M (some (.int r)) M 0 0 := by
  refine CT_of (own := RX7) (maxL := 4) (ret := (some FieldType.int)) hG (by decide) rfl (Nat.le_of_ble_eq_true rfl) (fun p e s m below meth c A C0 hr hlk hM ls hl => ?_)
  have hl : lv_has ls 4 [(0, .ref a0), (1, .int a1)] := hl
  generalize ([.ref a0, .int a1] : List Value).toArray = args at C0 ⊢
  skip
  have hx := C0.1
  have hb := C0.2.1
  have hown := C0.2.2.2.1
  have hts := C0.2.2.2.2.1
  unfold p_X7_pupilsAt at hp
  refine lv_iconst (v := 0) hx hb dX7_pupilsAt_0 (by decide) ?_
  refine lv_istore_n (lv' := [(2, .int (0 : Int32)), (0, .ref a0), (1, .int a1)]) hx hb dX7_pupilsAt_1 rfl hl (by decide) rfl (fun ls hl => ?_)
  refine lv_iconst (v := 0) hx hb dX7_pupilsAt_2 (by decide) ?_
  refine lv_istore_n (lv' := [(3, .int (0 : Int32)), (2, .int (0 : Int32)), (0, .ref a0), (1, .int a1)]) hx hb dX7_pupilsAt_3 rfl hl (by decide) rfl (fun ls hl => ?_)
  refine wl_X7_pupilsAt_4 C0 hr hlk hG (fun z9 H locs ls hM hl hp => ?_) FU _ _ _ _ _ hM (lv_sub hl [2, 3, 1, 0] rfl) hp
  refine lv_iload_n hx hb dX7_pupilsAt_46 rfl (lv_at hl 0 rfl) ?_
  exact mr_iret C0 hr hlk hM rfl (Option.some.inj hp) (Nat.le_refl _) (Nat.le_refl _) dX7_pupilsAt_47
abbrev rm_X7_appealedAt : Room := { frames := 0, cells := 0, slots := 0, locals := 0 }
def pl_X7_appealedAt_4 (k1 : Int32 → Option (Int32)) (f0 : Nat) (f1 : Int32) (M : Mem) : Nat → Int32 → Int32 → Option (Int32)
  | 0, _, _ => none
  | n + 1, y2, y3 =>
    (Option.bind (gR 6 0 M f0) fun v1 =>
    (Option.bind (aI 0 M v1 (1 : Int32)) fun v2 =>
    (if v2 ≤ y3 then
     (k1 y2)
    else
     (Option.bind (gR 6 0 M f0) fun v4 =>
     (Option.bind (aI 0 M v4 ((484 : Int32) + y3)) fun v5 =>
     (jn (fun (s6 : Int32) =>
      (pl_X7_appealedAt_4 k1 f0 f1 M n (y2 + s6) (y3 + (1 : Int32)))
     ) fun k7 =>
     (if v5 = f1 then
      (Option.bind (gR 6 0 M f0) fun v9 =>
      (Option.bind (aI 0 M v9 ((444 : Int32) + y3)) fun v10 =>
      (k7 v10)
      )
      )
     else
      (k7 (0 : Int32))
     )
     )
     )
     )
    )
    )
    )
set_option maxHeartbeats 4000000 in
set_option maxRecDepth 100000 in
theorem wl_X7_appealedAt_4 {G : gG} {p : Program} {l : Launch} {e : Env} {s : State} {m : MethodId} {args : Array Value} {below : List Frame} {meth : Method} {c : Code} {A : Nat → Prop} {r : Int32} {k1 : Int32 → Option (Int32)} {f0 : Nat} {f1 : Int32} {M : Mem} (C0 : cx G p s m args c cX7_appealedAt RX7 4 A) (hr : meth.sig.returnType = (some FieldType.int)) (hlk : meth.locks = false) (hG : GOK G) (hk1 : ∀ (z2 : Int32) (H : Heap) (locs : List Loc) (ls : Array Slot), mm G A s M H locs → lv_has ls 4 [(2, .int z2)] → k1 z2 = some r → W p l e rm_X7_appealedAt s m args below meth c H locs 0 0 (MQ below (CQ G M (some (.int r)) A) args s 0 0 A) (F0 m 51 ls [])) : ∀ (n : Nat) (y2 : Int32) (y3 : Int32) (H : Heap) (locs : List Loc) (ls : Array Slot), mm G A s M H locs → lv_has ls 4 [(0, .ref f0), (1, .int f1), (2, .int y2), (3, .int y3)] → pl_X7_appealedAt_4 k1 f0 f1 M n y2 y3 = some r → W p l e rm_X7_appealedAt s m args below meth c H locs 0 0 (MQ below (CQ G M (some (.int r)) A) args s 0 0 A) (F0 m 4 ls []) := by
  have hx := C0.1
  have hb := C0.2.1
  have hown := C0.2.2.2.1
  have hts := C0.2.2.2.2.1
  intro n
  induction n with
  | zero => intro y2 y3 H locs ls hM hl hp; rw [pl_X7_appealedAt_4] at hp; cases hp
  | succ n ih =>
    intro y2 y3 H locs ls hM hl hp
    rw [pl_X7_appealedAt_4] at hp
    refine lv_iload_n hx hb dX7_appealedAt_4 rfl (lv_at hl 3 rfl) ?_
    refine lv_aload_n hx hb dX7_appealedAt_5 rfl (lv_at hl 0 rfl) ?_
    obtain ⟨v1, hv1, hp⟩ := ob hp
    refine mr_getR C0 cbX7 hM 0 (by decide) tw_1224 hv1 dX7_appealedAt_6 ?_
    refine lv_iconst (v := 1) hx hb dX7_appealedAt_9 (by decide) ?_
    obtain ⟨v2, hv2, hp⟩ := ob hp
    refine mr_iald C0 hM hv2 dX7_appealedAt_10 ?_
    refine lv_icmp_ge (tgt := 51) hx hb dX7_appealedAt_11 (by decide) (fun c3 => ?_) (fun c3 => ?_)
    · replace hp := oT c3 hp
      exact hk1 _ _ _ _ hM (lv_sub hl [2] rfl) hp
    · replace hp := oF c3 hp
      refine lv_iload_n hx hb dX7_appealedAt_14 rfl (lv_at hl 2 rfl) ?_
      refine lv_aload_n hx hb dX7_appealedAt_15 rfl (lv_at hl 0 rfl) ?_
      obtain ⟨v4, hv4, hp⟩ := ob hp
      refine mr_getR C0 cbX7 hM 0 (by decide) tw_1224 hv4 dX7_appealedAt_16 ?_
      refine lv_sipush (v := 484) hx hb dX7_appealedAt_19 (by decide) ?_
      refine lv_iload_n hx hb dX7_appealedAt_22 rfl (lv_at hl 3 rfl) ?_
      refine lv_iadd hx hb dX7_appealedAt_23 ?_
      obtain ⟨v5, hv5, hp⟩ := ob hp
      refine mr_iald C0 hM hv5 dX7_appealedAt_24 ?_
      refine lv_iload_n hx hb dX7_appealedAt_25 rfl (lv_at hl 1 rfl) ?_
      obtain ⟨k7, ek7, hp⟩ := ojn hp
      have hk7 : ∀ (s6 : Int32) (H : Heap) (locs : List Loc) (ls : Array Slot), mm G A s M H locs → lv_has ls 4 [(0, .ref f0), (1, .int f1), (3, .int y3)] → k7 s6 = some r → W p l e rm_X7_appealedAt s m args below meth c H locs 0 0 (MQ below (CQ G M (some (.int r)) A) args s 0 0 A) (F0 m 43 ls [.int s6, .int y2]) := by
        intro s6 H locs ls hM hl hp
        rw [ek7] at hp
        refine lv_iadd hx hb dX7_appealedAt_43 ?_
        refine lv_istore_n (lv' := [(2, .int (y2 + s6)), (0, .ref f0), (1, .int f1), (3, .int y3)]) hx hb dX7_appealedAt_44 rfl hl (by decide) rfl (fun ls hl => ?_)
        refine lv_iinc (v := (y3 + (1 : Int32))) (lv' := [(3, .int (y3 + (1 : Int32))), (2, .int (y2 + s6)), (0, .ref f0), (1, .int f1)]) hx hb dX7_appealedAt_45 hl (k := 3) rfl rfl (by decide) rfl (fun ls hl => ?_)
        refine lv_goto (tgt := 4) hx hb dX7_appealedAt_48 (by decide) ?_
        exact ih _ _ _ _ _ hM (lv_sub hl [2, 3, 1, 0] rfl) hp
      refine lv_icmp_ne (tgt := 42) hx hb dX7_appealedAt_26 (by decide) (fun c8 => ?_) (fun c8 => ?_)
      · replace hp := oF c8 hp
        refine lv_iconst (v := 0) hx hb dX7_appealedAt_42 (by decide) ?_
        exact hk7 _ _ _ _ hM (lv_sub hl [0, 1, 3] rfl) hp
      · replace hp := oT c8 hp
        refine lv_aload_n hx hb dX7_appealedAt_29 rfl (lv_at hl 0 rfl) ?_
        obtain ⟨v9, hv9, hp⟩ := ob hp
        refine mr_getR C0 cbX7 hM 0 (by decide) tw_1224 hv9 dX7_appealedAt_30 ?_
        refine lv_sipush (v := 444) hx hb dX7_appealedAt_33 (by decide) ?_
        refine lv_iload_n hx hb dX7_appealedAt_36 rfl (lv_at hl 3 rfl) ?_
        refine lv_iadd hx hb dX7_appealedAt_37 ?_
        obtain ⟨v10, hv10, hp⟩ := ob hp
        refine mr_iald C0 hM hv10 dX7_appealedAt_38 ?_
        refine lv_goto (tgt := 43) hx hb dX7_appealedAt_39 (by decide) ?_
        exact hk7 _ _ _ _ hM (lv_sub hl [0, 1, 3] rfl) hp
def p_X7_appealedAt (a0 : Nat) (a1 : Int32) (M : Mem) : Option (Int32) :=
  (pl_X7_appealedAt_4
   (fun (z11 : Int32) =>
    some z11
   )
   a0 a1 M FU (0 : Int32) (0 : Int32))
theorem yk_X7_appealedAt : yok yX7_appealedAt 1 := by decide +kernel
set_option maxHeartbeats 4000000 in
set_option maxRecDepth 100000 in
theorem w_X7_appealedAt {G : gG} (hG : GOK G) {l : Launch} {a0 : Nat} {a1 : Int32} {M : Mem} {r : Int32} (hp : p_X7_appealedAt a0 a1 M = some r) : CT G l yX7_appealedAt (wT yX7_appealedAt cX7_appealedAt 4 (some FieldType.int)) rm_X7_appealedAt [.ref a0, .int a1] M (some (.int r)) M 0 0 := by
  refine CT_of (own := RX7) (maxL := 4) (ret := (some FieldType.int)) hG (by decide) rfl (Nat.le_of_ble_eq_true rfl) (fun p e s m below meth c A C0 hr hlk hM ls hl => ?_)
  have hl : lv_has ls 4 [(0, .ref a0), (1, .int a1)] := hl
  generalize ([.ref a0, .int a1] : List Value).toArray = args at C0 ⊢
  skip
  have hx := C0.1
  have hb := C0.2.1
  have hown := C0.2.2.2.1
  have hts := C0.2.2.2.2.1
  unfold p_X7_appealedAt at hp
  refine lv_iconst (v := 0) hx hb dX7_appealedAt_0 (by decide) ?_
  refine lv_istore_n (lv' := [(2, .int (0 : Int32)), (0, .ref a0), (1, .int a1)]) hx hb dX7_appealedAt_1 rfl hl (by decide) rfl (fun ls hl => ?_)
  refine lv_iconst (v := 0) hx hb dX7_appealedAt_2 (by decide) ?_
  refine lv_istore_n (lv' := [(3, .int (0 : Int32)), (2, .int (0 : Int32)), (0, .ref a0), (1, .int a1)]) hx hb dX7_appealedAt_3 rfl hl (by decide) rfl (fun ls hl => ?_)
  refine wl_X7_appealedAt_4 C0 hr hlk hG (fun z11 H locs ls hM hl hp => ?_) FU _ _ _ _ _ hM (lv_sub hl [2, 3, 1, 0] rfl) hp
  refine lv_iload_n hx hb dX7_appealedAt_51 rfl (lv_at hl 0 rfl) ?_
  exact mr_iret C0 hr hlk hM rfl (Option.some.inj hp) (Nat.le_refl _) (Nat.le_refl _) dX7_appealedAt_52
abbrev rm_X7_school : Room := { frames := 4, cells := 0, slots := 0, locals := 90 }
def p_X7_school (a0 : Nat) (a1 : Int32) (a2 : Int32) (M : Mem) : Option (Int32 × Mem) :=
  (Option.bind (isC 6 M a0) fun _ =>
  (ob2 (p_X7_noSchool a0 a1 M) fun v2 M3 =>
  (if v2 = 0 then
   (Option.bind (p_X7_inRange a2 (0 : Int32) (9 : Int32) M3) fun v5 =>
   (jn (fun (s6 : Int32) =>
    (Option.bind (isC 6 M3 a0) fun _ =>
    (ob2 (p_X7_fails a0 s6 (2 : Int32) M3) fun v9 M10 =>
    (if v9 = 0 then
     (if (Int32.toInt a2) < 5 ∨ 9 < (Int32.toInt a2) then
      (Option.bind (gR 6 0 M10 a0) fun v12 =>
      (Option.bind (aI 0 M10 v12 (((20 : Int32) + ((8 : Int32) * a2)) + a1)) fun v13 =>
      some (v13, M10)
      )
      )
     else
     (if a2 = (5 : Int32) then
      (Option.bind (isC 6 M10 a0) fun _ =>
      (Option.bind (p_X7_pupilsAt a0 a1 M10) fun v15 =>
      some (v15, M10)
      )
      )
     else
     (if a2 = (6 : Int32) then
      (Option.bind (isC 6 M10 a0) fun _ =>
      (Option.bind (p_X7_holders a0 a1 M10) fun v17 =>
      some (v17, M10)
      )
      )
     else
     (if a2 = (7 : Int32) then
      (Option.bind (isC 6 M10 a0) fun _ =>
      (Option.bind (p_X7_appealedAt a0 a1 M10) fun v19 =>
      some (v19, M10)
      )
      )
     else
     (if a2 = (8 : Int32) then
      (Option.bind (gR 6 0 M10 a0) fun v20 =>
      (Option.bind (aI 0 M10 v20 ((60 : Int32) + a1)) fun v21 =>
      some (v21, M10)
      )
      )
     else
     (if a2 = (9 : Int32) then
      (Option.bind (isC 6 M10 a0) fun _ =>
      (Option.bind (p_X7_waitingMany a0 a1 M10) fun v23 =>
      some (v23, M10)
      )
      )
     else
     none
     )
     )
     )
     )
     )
     )
    else
     some ((0 : Int32), M10)
    )
    )
    )
   ) fun k7 =>
   (if v5 = 0 then
    (k7 (1 : Int32))
   else
    (k7 (0 : Int32))
   )
   )
   )
  else
   some ((0 : Int32), M3)
  )
  )
  )
theorem yk_X7_school : yok yX7_school 2 := by decide +kernel
set_option maxHeartbeats 4000000 in
set_option maxRecDepth 100000 in
theorem w_X7_school {G : gG} (hG : GOK G) {l : Launch} {a0 : Nat} {a1 : Int32} {a2 : Int32} {M : Mem} {r : Int32} {M' : Mem} (hp : p_X7_school a0 a1 a2 M = some (r, M')) : CT G l yX7_school (wT yX7_school cX7_school 3 (some FieldType.int)) rm_X7_school [.ref a0, .int a1, .int a2] M (some (.int r)) M' 0 0 := by
  refine CT_of (own := RX7) (maxL := 3) (ret := (some FieldType.int)) hG (by decide) rfl (Nat.le_of_ble_eq_true rfl) (fun p e s m below meth c A C0 hr hlk hM ls hl => ?_)
  have hl : lv_has ls 3 [(0, .ref a0), (1, .int a1), (2, .int a2)] := hl
  generalize ([.ref a0, .int a1, .int a2] : List Value).toArray = args at C0 ⊢
  skip
  have hx := C0.1
  have hb := C0.2.1
  have hown := C0.2.2.2.1
  have hts := C0.2.2.2.2.1
  unfold p_X7_school at hp
  refine lv_aload_n hx hb dX7_school_0 rfl (lv_at hl 0 rfl) ?_
  refine lv_iload_n hx hb dX7_school_1 rfl (lv_at hl 1 rfl) ?_
  obtain ⟨_, h1, hp⟩ := ob hp
  obtain ⟨v2, M3, hv2, hp⟩ := ob3 hp
  refine mr_V1 (As := [.int a1]) (rest := []) C0 cbX7 hM h1 rfl (w_X7_noSchool hG hv2) tw_1471 tw_1473 tws_34 tw_7 tw_1474 yk_X7_noSchool (by decide) rfl hl.1 (Nat.le_of_ble_eq_true rfl) dX7_school_2 rfl (fun H locs hM => ?_)
  refine lv_if_ne (tgt := 31) hx hb dX7_school_5 (by decide) (fun c4 => ?_) (fun c4 => ?_)
  · replace hp := oF c4 hp
    refine lv_iconst (v := 0) hx hb dX7_school_31 (by decide) ?_
    exact mr_iret C0 hr hlk hM (Prod.mk.inj (Option.some.inj hp)).2 (Prod.mk.inj (Option.some.inj hp)).1 (Nat.le_refl _) (Nat.le_refl _) dX7_school_32
  · replace hp := oT c4 hp
    refine lv_aload_n hx hb dX7_school_8 rfl (lv_at hl 0 rfl) ?_
    refine lv_iload_n hx hb dX7_school_9 rfl (lv_at hl 2 rfl) ?_
    refine lv_iconst (v := 0) hx hb dX7_school_10 (by decide) ?_
    refine lv_bipush (v := 9) hx hb dX7_school_11 (by decide) ?_
    obtain ⟨v5, hv5, hp⟩ := ob hp
    refine mr_S1 (As := [.int a2, .int (0 : Int32), .int (9 : Int32)]) (rest := [.ref a0]) C0 hM (w_X7_inRange hG hv5) tw_1325 tw_1326 tw_7 tw_1327 yk_X7_inRange (by decide) rfl hl.1 (Nat.le_of_ble_eq_true rfl) dX7_school_13 rfl (fun H locs hM => ?_)
    obtain ⟨k7, ek7, hp⟩ := ojn hp
    have hk7 : ∀ (s6 : Int32) (H : Heap) (locs : List Loc) (ls : Array Slot), mm G A s M3 H locs → lv_has ls 3 [(0, .ref a0), (1, .int a1), (2, .int a2)] → k7 s6 = some (r, M') → W p l e rm_X7_school s m args below meth c H locs 0 0 (MQ below (CQ G M' (some (.int r)) A) args s 0 0 A) (F0 m 24 ls [.int s6, .ref a0]) := by
      intro s6 H locs ls hM hl hp
      rw [ek7] at hp
      refine lv_iconst (v := 2) hx hb dX7_school_24 (by decide) ?_
      obtain ⟨_, h8, hp⟩ := ob hp
      obtain ⟨v9, M10, hv9, hp⟩ := ob3 hp
      refine mr_V1 (As := [.int s6, .int (2 : Int32)]) (rest := []) C0 cbX7 hM h8 rfl (w_X7_fails hG hv9) tw_1459 tw_1461 tws_32 tw_7 tw_1462 yk_X7_fails (by decide) rfl hl.1 (Nat.le_of_ble_eq_true rfl) dX7_school_25 rfl (fun H locs hM => ?_)
      refine lv_if_eq (tgt := 33) hx hb dX7_school_28 (by decide) (fun c11 => ?_) (fun c11 => ?_)
      · replace hp := oT c11 hp
        refine lv_iload_n hx hb dX7_school_33 rfl (lv_at hl 2 rfl) ?_
        by_cases hd : (Int32.toInt a2) < 5 ∨ 9 < (Int32.toInt a2)
        · replace hp := oT hd hp
          refine lv_tableOut (tgt := 102) hx hb dX7_school_34 hd (by decide) ?_
          refine lv_aload_n hx hb dX7_school_102 rfl (lv_at hl 0 rfl) ?_
          obtain ⟨v12, hv12, hp⟩ := ob hp
          refine mr_getR C0 cbX7 hM 0 (by decide) tw_1224 hv12 dX7_school_103 ?_
          refine lv_bipush (v := 20) hx hb dX7_school_106 (by decide) ?_
          refine lv_bipush (v := 8) hx hb dX7_school_108 (by decide) ?_
          refine lv_iload_n hx hb dX7_school_110 rfl (lv_at hl 2 rfl) ?_
          refine lv_imul hx hb dX7_school_111 ?_
          refine lv_iadd hx hb dX7_school_112 ?_
          refine lv_iload_n hx hb dX7_school_113 rfl (lv_at hl 1 rfl) ?_
          refine lv_iadd hx hb dX7_school_114 ?_
          obtain ⟨v13, hv13, hp⟩ := ob hp
          refine mr_iald C0 hM hv13 dX7_school_115 ?_
          exact mr_iret C0 hr hlk hM (Prod.mk.inj (Option.some.inj hp)).2 (Prod.mk.inj (Option.some.inj hp)).1 (Nat.le_refl _) (Nat.le_refl _) dX7_school_116
        replace hp := oF hd hp
        by_cases hd5 : a2 = (5 : Int32)
        · replace hp := oT hd5 hp
          refine mr_tsIn (tgt := 68) C0 (5 : Int32) hd5 dX7_school_34 (by decide) (by decide) rfl (by decide) ?_
          refine lv_aload_n hx hb dX7_school_68 rfl (lv_at hl 0 rfl) ?_
          refine lv_iload_n hx hb dX7_school_69 rfl (lv_at hl 1 rfl) ?_
          obtain ⟨_, h14, hp⟩ := ob hp
          obtain ⟨v15, hv15, hp⟩ := ob hp
          refine mr_V1 (As := [.int a1]) (rest := []) C0 cbX7 hM h14 rfl (w_X7_pupilsAt hG hv15) tw_1475 tw_1477 tws_35 tw_7 tw_1478 yk_X7_pupilsAt (by decide) rfl hl.1 (Nat.le_of_ble_eq_true rfl) dX7_school_70 rfl (fun H locs hM => ?_)
          exact mr_iret C0 hr hlk hM (Prod.mk.inj (Option.some.inj hp)).2 (Prod.mk.inj (Option.some.inj hp)).1 (Nat.le_refl _) (Nat.le_refl _) dX7_school_73
        replace hp := oF hd5 hp
        by_cases hd6 : a2 = (6 : Int32)
        · replace hp := oT hd6 hp
          refine mr_tsIn (tgt := 74) C0 (6 : Int32) hd6 dX7_school_34 (by decide) (by decide) rfl (by decide) ?_
          refine lv_aload_n hx hb dX7_school_74 rfl (lv_at hl 0 rfl) ?_
          refine lv_iload_n hx hb dX7_school_75 rfl (lv_at hl 1 rfl) ?_
          obtain ⟨_, h16, hp⟩ := ob hp
          obtain ⟨v17, hv17, hp⟩ := ob hp
          refine mr_V1 (As := [.int a1]) (rest := []) C0 cbX7 hM h16 rfl (w_X7_holders hG hv17) tw_1479 tw_1481 tws_36 tw_7 tw_1482 yk_X7_holders (by decide) rfl hl.1 (Nat.le_of_ble_eq_true rfl) dX7_school_76 rfl (fun H locs hM => ?_)
          exact mr_iret C0 hr hlk hM (Prod.mk.inj (Option.some.inj hp)).2 (Prod.mk.inj (Option.some.inj hp)).1 (Nat.le_refl _) (Nat.le_refl _) dX7_school_79
        replace hp := oF hd6 hp
        by_cases hd7 : a2 = (7 : Int32)
        · replace hp := oT hd7 hp
          refine mr_tsIn (tgt := 80) C0 (7 : Int32) hd7 dX7_school_34 (by decide) (by decide) rfl (by decide) ?_
          refine lv_aload_n hx hb dX7_school_80 rfl (lv_at hl 0 rfl) ?_
          refine lv_iload_n hx hb dX7_school_81 rfl (lv_at hl 1 rfl) ?_
          obtain ⟨_, h18, hp⟩ := ob hp
          obtain ⟨v19, hv19, hp⟩ := ob hp
          refine mr_V1 (As := [.int a1]) (rest := []) C0 cbX7 hM h18 rfl (w_X7_appealedAt hG hv19) tw_1483 tw_1485 tws_37 tw_7 tw_1486 yk_X7_appealedAt (by decide) rfl hl.1 (Nat.le_of_ble_eq_true rfl) dX7_school_82 rfl (fun H locs hM => ?_)
          exact mr_iret C0 hr hlk hM (Prod.mk.inj (Option.some.inj hp)).2 (Prod.mk.inj (Option.some.inj hp)).1 (Nat.le_refl _) (Nat.le_refl _) dX7_school_85
        replace hp := oF hd7 hp
        by_cases hd8 : a2 = (8 : Int32)
        · replace hp := oT hd8 hp
          refine mr_tsIn (tgt := 86) C0 (8 : Int32) hd8 dX7_school_34 (by decide) (by decide) rfl (by decide) ?_
          refine lv_aload_n hx hb dX7_school_86 rfl (lv_at hl 0 rfl) ?_
          obtain ⟨v20, hv20, hp⟩ := ob hp
          refine mr_getR C0 cbX7 hM 0 (by decide) tw_1224 hv20 dX7_school_87 ?_
          refine lv_bipush (v := 60) hx hb dX7_school_90 (by decide) ?_
          refine lv_iload_n hx hb dX7_school_92 rfl (lv_at hl 1 rfl) ?_
          refine lv_iadd hx hb dX7_school_93 ?_
          obtain ⟨v21, hv21, hp⟩ := ob hp
          refine mr_iald C0 hM hv21 dX7_school_94 ?_
          exact mr_iret C0 hr hlk hM (Prod.mk.inj (Option.some.inj hp)).2 (Prod.mk.inj (Option.some.inj hp)).1 (Nat.le_refl _) (Nat.le_refl _) dX7_school_95
        replace hp := oF hd8 hp
        by_cases hd9 : a2 = (9 : Int32)
        · replace hp := oT hd9 hp
          refine mr_tsIn (tgt := 96) C0 (9 : Int32) hd9 dX7_school_34 (by decide) (by decide) rfl (by decide) ?_
          refine lv_aload_n hx hb dX7_school_96 rfl (lv_at hl 0 rfl) ?_
          refine lv_iload_n hx hb dX7_school_97 rfl (lv_at hl 1 rfl) ?_
          obtain ⟨_, h22, hp⟩ := ob hp
          obtain ⟨v23, hv23, hp⟩ := ob hp
          refine mr_V1 (As := [.int a1]) (rest := []) C0 cbX7 hM h22 rfl (w_X7_waitingMany hG hv23) tw_1487 tw_1489 tws_38 tw_7 tw_1490 yk_X7_waitingMany (by decide) rfl hl.1 (Nat.le_of_ble_eq_true rfl) dX7_school_98 rfl (fun H locs hM => ?_)
          exact mr_iret C0 hr hlk hM (Prod.mk.inj (Option.some.inj hp)).2 (Prod.mk.inj (Option.some.inj hp)).1 (Nat.le_refl _) (Nat.le_refl _) dX7_school_101
        replace hp := oF hd9 hp
        cases hp
      · replace hp := oF c11 hp
        refine lv_iconst (v := 0) hx hb dX7_school_31 (by decide) ?_
        exact mr_iret C0 hr hlk hM (Prod.mk.inj (Option.some.inj hp)).2 (Prod.mk.inj (Option.some.inj hp)).1 (Nat.le_refl _) (Nat.le_refl _) dX7_school_32
    refine lv_if_ne (tgt := 23) hx hb dX7_school_16 (by decide) (fun c24 => ?_) (fun c24 => ?_)
    · replace hp := oF c24 hp
      refine lv_iconst (v := 0) hx hb dX7_school_23 (by decide) ?_
      exact hk7 _ _ _ _ hM (lv_sub hl [0, 1, 2] rfl) hp
    · replace hp := oT c24 hp
      refine lv_iconst (v := 1) hx hb dX7_school_19 (by decide) ?_
      refine lv_goto (tgt := 24) hx hb dX7_school_20 (by decide) ?_
      exact hk7 _ _ _ _ hM (lv_sub hl [0, 1, 2] rfl) hp
abbrev rm_X7_rule : Room := { frames := 2, cells := 0, slots := 0, locals := 43 }
def p_X7_rule (a0 : Nat) (a1 : Int32) (a2 : Int32) (M : Mem) : Option (Int32 × Mem) :=
  (Option.bind (isC 6 M a0) fun _ =>
  (ob2 (p_X7_noSchool a0 a1 M) fun v2 M3 =>
  (if v2 = 0 then
   (Option.bind (gR 6 0 M3 a0) fun v5 =>
   (Option.bind (aI 0 M3 v5 ((44 : Int32) + a1)) fun v6 =>
   (Option.bind (p_X7_inRange a2 (0 : Int32) (v6 - (1 : Int32)) M3) fun v7 =>
   (jn (fun (s8 : Int32) =>
    (Option.bind (isC 6 M3 a0) fun _ =>
    (ob2 (p_X7_fails a0 s8 (2 : Int32) M3) fun v11 M12 =>
    (if v11 = 0 then
     (Option.bind (gR 6 0 M12 a0) fun v14 =>
     (Option.bind (aI 0 M12 v14 (((68 : Int32) + ((3 : Int32) * a1)) + a2)) fun v15 =>
     some (v15, M12)
     )
     )
    else
     some ((0 : Int32), M12)
    )
    )
    )
   ) fun k9 =>
   (if v7 = 0 then
    (k9 (1 : Int32))
   else
    (k9 (0 : Int32))
   )
   )
   )
   )
   )
  else
   some ((0 : Int32), M3)
  )
  )
  )
theorem yk_X7_rule : yok yX7_rule 2 := by decide +kernel
set_option maxHeartbeats 4000000 in
set_option maxRecDepth 100000 in
theorem w_X7_rule {G : gG} (hG : GOK G) {l : Launch} {a0 : Nat} {a1 : Int32} {a2 : Int32} {M : Mem} {r : Int32} {M' : Mem} (hp : p_X7_rule a0 a1 a2 M = some (r, M')) : CT G l yX7_rule (wT yX7_rule cX7_rule 3 (some FieldType.int)) rm_X7_rule [.ref a0, .int a1, .int a2] M (some (.int r)) M' 0 0 := by
  refine CT_of (own := RX7) (maxL := 3) (ret := (some FieldType.int)) hG (by decide) rfl (Nat.le_of_ble_eq_true rfl) (fun p e s m below meth c A C0 hr hlk hM ls hl => ?_)
  have hl : lv_has ls 3 [(0, .ref a0), (1, .int a1), (2, .int a2)] := hl
  generalize ([.ref a0, .int a1, .int a2] : List Value).toArray = args at C0 ⊢
  skip
  have hx := C0.1
  have hb := C0.2.1
  have hown := C0.2.2.2.1
  have hts := C0.2.2.2.2.1
  unfold p_X7_rule at hp
  refine lv_aload_n hx hb dX7_rule_0 rfl (lv_at hl 0 rfl) ?_
  refine lv_iload_n hx hb dX7_rule_1 rfl (lv_at hl 1 rfl) ?_
  obtain ⟨_, h1, hp⟩ := ob hp
  obtain ⟨v2, M3, hv2, hp⟩ := ob3 hp
  refine mr_V1 (As := [.int a1]) (rest := []) C0 cbX7 hM h1 rfl (w_X7_noSchool hG hv2) tw_1471 tw_1473 tws_34 tw_7 tw_1474 yk_X7_noSchool (by decide) rfl hl.1 (Nat.le_of_ble_eq_true rfl) dX7_rule_2 rfl (fun H locs hM => ?_)
  refine lv_if_ne (tgt := 40) hx hb dX7_rule_5 (by decide) (fun c4 => ?_) (fun c4 => ?_)
  · replace hp := oF c4 hp
    refine lv_iconst (v := 0) hx hb dX7_rule_40 (by decide) ?_
    exact mr_iret C0 hr hlk hM (Prod.mk.inj (Option.some.inj hp)).2 (Prod.mk.inj (Option.some.inj hp)).1 (Nat.le_refl _) (Nat.le_refl _) dX7_rule_41
  · replace hp := oT c4 hp
    refine lv_aload_n hx hb dX7_rule_8 rfl (lv_at hl 0 rfl) ?_
    refine lv_iload_n hx hb dX7_rule_9 rfl (lv_at hl 2 rfl) ?_
    refine lv_iconst (v := 0) hx hb dX7_rule_10 (by decide) ?_
    refine lv_aload_n hx hb dX7_rule_11 rfl (lv_at hl 0 rfl) ?_
    obtain ⟨v5, hv5, hp⟩ := ob hp
    refine mr_getR C0 cbX7 hM 0 (by decide) tw_1224 hv5 dX7_rule_12 ?_
    refine lv_bipush (v := 44) hx hb dX7_rule_15 (by decide) ?_
    refine lv_iload_n hx hb dX7_rule_17 rfl (lv_at hl 1 rfl) ?_
    refine lv_iadd hx hb dX7_rule_18 ?_
    obtain ⟨v6, hv6, hp⟩ := ob hp
    refine mr_iald C0 hM hv6 dX7_rule_19 ?_
    refine lv_iconst (v := 1) hx hb dX7_rule_20 (by decide) ?_
    refine lv_isub hx hb dX7_rule_21 ?_
    obtain ⟨v7, hv7, hp⟩ := ob hp
    refine mr_S1 (As := [.int a2, .int (0 : Int32), .int (v6 - (1 : Int32))]) (rest := [.ref a0]) C0 hM (w_X7_inRange hG hv7) tw_1325 tw_1326 tw_7 tw_1327 yk_X7_inRange (by decide) rfl hl.1 (Nat.le_of_ble_eq_true rfl) dX7_rule_22 rfl (fun H locs hM => ?_)
    obtain ⟨k9, ek9, hp⟩ := ojn hp
    have hk9 : ∀ (s8 : Int32) (H : Heap) (locs : List Loc) (ls : Array Slot), mm G A s M3 H locs → lv_has ls 3 [(0, .ref a0), (1, .int a1), (2, .int a2)] → k9 s8 = some (r, M') → W p l e rm_X7_rule s m args below meth c H locs 0 0 (MQ below (CQ G M' (some (.int r)) A) args s 0 0 A) (F0 m 33 ls [.int s8, .ref a0]) := by
      intro s8 H locs ls hM hl hp
      rw [ek9] at hp
      refine lv_iconst (v := 2) hx hb dX7_rule_33 (by decide) ?_
      obtain ⟨_, h10, hp⟩ := ob hp
      obtain ⟨v11, M12, hv11, hp⟩ := ob3 hp
      refine mr_V1 (As := [.int s8, .int (2 : Int32)]) (rest := []) C0 cbX7 hM h10 rfl (w_X7_fails hG hv11) tw_1459 tw_1461 tws_32 tw_7 tw_1462 yk_X7_fails (by decide) rfl hl.1 (Nat.le_of_ble_eq_true rfl) dX7_rule_34 rfl (fun H locs hM => ?_)
      refine lv_if_eq (tgt := 42) hx hb dX7_rule_37 (by decide) (fun c13 => ?_) (fun c13 => ?_)
      · replace hp := oT c13 hp
        refine lv_aload_n hx hb dX7_rule_42 rfl (lv_at hl 0 rfl) ?_
        obtain ⟨v14, hv14, hp⟩ := ob hp
        refine mr_getR C0 cbX7 hM 0 (by decide) tw_1224 hv14 dX7_rule_43 ?_
        refine lv_bipush (v := 68) hx hb dX7_rule_46 (by decide) ?_
        refine lv_iconst (v := 3) hx hb dX7_rule_48 (by decide) ?_
        refine lv_iload_n hx hb dX7_rule_49 rfl (lv_at hl 1 rfl) ?_
        refine lv_imul hx hb dX7_rule_50 ?_
        refine lv_iadd hx hb dX7_rule_51 ?_
        refine lv_iload_n hx hb dX7_rule_52 rfl (lv_at hl 2 rfl) ?_
        refine lv_iadd hx hb dX7_rule_53 ?_
        obtain ⟨v15, hv15, hp⟩ := ob hp
        refine mr_iald C0 hM hv15 dX7_rule_54 ?_
        exact mr_iret C0 hr hlk hM (Prod.mk.inj (Option.some.inj hp)).2 (Prod.mk.inj (Option.some.inj hp)).1 (Nat.le_refl _) (Nat.le_refl _) dX7_rule_55
      · replace hp := oF c13 hp
        refine lv_iconst (v := 0) hx hb dX7_rule_40 (by decide) ?_
        exact mr_iret C0 hr hlk hM (Prod.mk.inj (Option.some.inj hp)).2 (Prod.mk.inj (Option.some.inj hp)).1 (Nat.le_refl _) (Nat.le_refl _) dX7_rule_41
    refine lv_if_ne (tgt := 32) hx hb dX7_rule_25 (by decide) (fun c16 => ?_) (fun c16 => ?_)
    · replace hp := oF c16 hp
      refine lv_iconst (v := 0) hx hb dX7_rule_32 (by decide) ?_
      exact hk9 _ _ _ _ hM (lv_sub hl [0, 1, 2] rfl) hp
    · replace hp := oT c16 hp
      refine lv_iconst (v := 1) hx hb dX7_rule_28 (by decide) ?_
      refine lv_goto (tgt := 33) hx hb dX7_rule_29 (by decide) ?_
      exact hk9 _ _ _ _ hM (lv_sub hl [0, 1, 2] rfl) hp
abbrev rm_X7_child : Room := { frames := 2, cells := 0, slots := 0, locals := 43 }
def p_X7_child (a0 : Nat) (a1 : Int32) (a2 : Int32) (M : Mem) : Option (Int32 × Mem) :=
  (Option.bind (isC 6 M a0) fun _ =>
  (ob2 (p_X7_noChild a0 a1 M) fun v2 M3 =>
  (if v2 = 0 then
   (Option.bind (p_X7_inRange a2 (0 : Int32) (8 : Int32) M3) fun v5 =>
   (jn (fun (s6 : Int32) =>
    (Option.bind (isC 6 M3 a0) fun _ =>
    (ob2 (p_X7_fails a0 s6 (2 : Int32) M3) fun v9 M10 =>
    (if v9 = 0 then
     (Option.bind (gR 6 0 M10 a0) fun v12 =>
     (Option.bind (aI 0 M10 v12 (((124 : Int32) + ((40 : Int32) * a2)) + a1)) fun v13 =>
     some (v13, M10)
     )
     )
    else
     some ((0 : Int32), M10)
    )
    )
    )
   ) fun k7 =>
   (if v5 = 0 then
    (k7 (1 : Int32))
   else
    (k7 (0 : Int32))
   )
   )
   )
  else
   some ((0 : Int32), M3)
  )
  )
  )
theorem yk_X7_child : yok yX7_child 2 := by decide +kernel
set_option maxHeartbeats 4000000 in
set_option maxRecDepth 100000 in
theorem w_X7_child {G : gG} (hG : GOK G) {l : Launch} {a0 : Nat} {a1 : Int32} {a2 : Int32} {M : Mem} {r : Int32} {M' : Mem} (hp : p_X7_child a0 a1 a2 M = some (r, M')) : CT G l yX7_child (wT yX7_child cX7_child 3 (some FieldType.int)) rm_X7_child [.ref a0, .int a1, .int a2] M (some (.int r)) M' 0 0 := by
  refine CT_of (own := RX7) (maxL := 3) (ret := (some FieldType.int)) hG (by decide) rfl (Nat.le_of_ble_eq_true rfl) (fun p e s m below meth c A C0 hr hlk hM ls hl => ?_)
  have hl : lv_has ls 3 [(0, .ref a0), (1, .int a1), (2, .int a2)] := hl
  generalize ([.ref a0, .int a1, .int a2] : List Value).toArray = args at C0 ⊢
  skip
  have hx := C0.1
  have hb := C0.2.1
  have hown := C0.2.2.2.1
  have hts := C0.2.2.2.2.1
  unfold p_X7_child at hp
  refine lv_aload_n hx hb dX7_child_0 rfl (lv_at hl 0 rfl) ?_
  refine lv_iload_n hx hb dX7_child_1 rfl (lv_at hl 1 rfl) ?_
  obtain ⟨_, h1, hp⟩ := ob hp
  obtain ⟨v2, M3, hv2, hp⟩ := ob3 hp
  refine mr_V1 (As := [.int a1]) (rest := []) C0 cbX7 hM h1 rfl (w_X7_noChild hG hv2) tw_1511 tw_1513 tws_42 tw_7 tw_1514 yk_X7_noChild (by decide) rfl hl.1 (Nat.le_of_ble_eq_true rfl) dX7_child_2 rfl (fun H locs hM => ?_)
  refine lv_if_ne (tgt := 31) hx hb dX7_child_5 (by decide) (fun c4 => ?_) (fun c4 => ?_)
  · replace hp := oF c4 hp
    refine lv_iconst (v := 0) hx hb dX7_child_31 (by decide) ?_
    exact mr_iret C0 hr hlk hM (Prod.mk.inj (Option.some.inj hp)).2 (Prod.mk.inj (Option.some.inj hp)).1 (Nat.le_refl _) (Nat.le_refl _) dX7_child_32
  · replace hp := oT c4 hp
    refine lv_aload_n hx hb dX7_child_8 rfl (lv_at hl 0 rfl) ?_
    refine lv_iload_n hx hb dX7_child_9 rfl (lv_at hl 2 rfl) ?_
    refine lv_iconst (v := 0) hx hb dX7_child_10 (by decide) ?_
    refine lv_bipush (v := 8) hx hb dX7_child_11 (by decide) ?_
    obtain ⟨v5, hv5, hp⟩ := ob hp
    refine mr_S1 (As := [.int a2, .int (0 : Int32), .int (8 : Int32)]) (rest := [.ref a0]) C0 hM (w_X7_inRange hG hv5) tw_1325 tw_1326 tw_7 tw_1327 yk_X7_inRange (by decide) rfl hl.1 (Nat.le_of_ble_eq_true rfl) dX7_child_13 rfl (fun H locs hM => ?_)
    obtain ⟨k7, ek7, hp⟩ := ojn hp
    have hk7 : ∀ (s6 : Int32) (H : Heap) (locs : List Loc) (ls : Array Slot), mm G A s M3 H locs → lv_has ls 3 [(0, .ref a0), (1, .int a1), (2, .int a2)] → k7 s6 = some (r, M') → W p l e rm_X7_child s m args below meth c H locs 0 0 (MQ below (CQ G M' (some (.int r)) A) args s 0 0 A) (F0 m 24 ls [.int s6, .ref a0]) := by
      intro s6 H locs ls hM hl hp
      rw [ek7] at hp
      refine lv_iconst (v := 2) hx hb dX7_child_24 (by decide) ?_
      obtain ⟨_, h8, hp⟩ := ob hp
      obtain ⟨v9, M10, hv9, hp⟩ := ob3 hp
      refine mr_V1 (As := [.int s6, .int (2 : Int32)]) (rest := []) C0 cbX7 hM h8 rfl (w_X7_fails hG hv9) tw_1459 tw_1461 tws_32 tw_7 tw_1462 yk_X7_fails (by decide) rfl hl.1 (Nat.le_of_ble_eq_true rfl) dX7_child_25 rfl (fun H locs hM => ?_)
      refine lv_if_eq (tgt := 33) hx hb dX7_child_28 (by decide) (fun c11 => ?_) (fun c11 => ?_)
      · replace hp := oT c11 hp
        refine lv_aload_n hx hb dX7_child_33 rfl (lv_at hl 0 rfl) ?_
        obtain ⟨v12, hv12, hp⟩ := ob hp
        refine mr_getR C0 cbX7 hM 0 (by decide) tw_1224 hv12 dX7_child_34 ?_
        refine lv_bipush (v := 124) hx hb dX7_child_37 (by decide) ?_
        refine lv_bipush (v := 40) hx hb dX7_child_39 (by decide) ?_
        refine lv_iload_n hx hb dX7_child_41 rfl (lv_at hl 2 rfl) ?_
        refine lv_imul hx hb dX7_child_42 ?_
        refine lv_iadd hx hb dX7_child_43 ?_
        refine lv_iload_n hx hb dX7_child_44 rfl (lv_at hl 1 rfl) ?_
        refine lv_iadd hx hb dX7_child_45 ?_
        obtain ⟨v13, hv13, hp⟩ := ob hp
        refine mr_iald C0 hM hv13 dX7_child_46 ?_
        exact mr_iret C0 hr hlk hM (Prod.mk.inj (Option.some.inj hp)).2 (Prod.mk.inj (Option.some.inj hp)).1 (Nat.le_refl _) (Nat.le_refl _) dX7_child_47
      · replace hp := oF c11 hp
        refine lv_iconst (v := 0) hx hb dX7_child_31 (by decide) ?_
        exact mr_iret C0 hr hlk hM (Prod.mk.inj (Option.some.inj hp)).2 (Prod.mk.inj (Option.some.inj hp)).1 (Nat.le_refl _) (Nat.le_refl _) dX7_child_32
    refine lv_if_ne (tgt := 23) hx hb dX7_child_16 (by decide) (fun c14 => ?_) (fun c14 => ?_)
    · replace hp := oF c14 hp
      refine lv_iconst (v := 0) hx hb dX7_child_23 (by decide) ?_
      exact hk7 _ _ _ _ hM (lv_sub hl [0, 1, 2] rfl) hp
    · replace hp := oT c14 hp
      refine lv_iconst (v := 1) hx hb dX7_child_19 (by decide) ?_
      refine lv_goto (tgt := 24) hx hb dX7_child_20 (by decide) ?_
      exact hk7 _ _ _ _ hM (lv_sub hl [0, 1, 2] rfl) hp
abbrev rm_X7_preference : Room := { frames := 2, cells := 0, slots := 0, locals := 43 }
def p_X7_preference (a0 : Nat) (a1 : Int32) (a2 : Int32) (M : Mem) : Option (Int32 × Mem) :=
  (Option.bind (isC 6 M a0) fun _ =>
  (ob2 (p_X7_noChild a0 a1 M) fun v2 M3 =>
  (if v2 = 0 then
   (Option.bind (gR 6 0 M3 a0) fun v5 =>
   (Option.bind (aI 0 M3 v5 ((324 : Int32) + a1)) fun v6 =>
   (Option.bind (p_X7_inRange a2 (0 : Int32) (v6 - (1 : Int32)) M3) fun v7 =>
   (jn (fun (s8 : Int32) =>
    (Option.bind (isC 6 M3 a0) fun _ =>
    (ob2 (p_X7_fails a0 s8 (2 : Int32) M3) fun v11 M12 =>
    (if v11 = 0 then
     (Option.bind (gR 6 0 M12 a0) fun v14 =>
     (Option.bind (aI 0 M12 v14 (((564 : Int32) + ((4 : Int32) * a1)) + a2)) fun v15 =>
     some (v15, M12)
     )
     )
    else
     some ((0 : Int32), M12)
    )
    )
    )
   ) fun k9 =>
   (if v7 = 0 then
    (k9 (1 : Int32))
   else
    (k9 (0 : Int32))
   )
   )
   )
   )
   )
  else
   some ((0 : Int32), M3)
  )
  )
  )
theorem yk_X7_preference : yok yX7_preference 2 := by decide +kernel
set_option maxHeartbeats 4000000 in
set_option maxRecDepth 100000 in
theorem w_X7_preference {G : gG} (hG : GOK G) {l : Launch} {a0 : Nat} {a1 : Int32} {a2 : Int32} {M : Mem} {r : Int32} {M' : Mem} (hp : p_X7_preference a0 a1 a2 M = some (r, M')) : CT G l yX7_preference (wT yX7_preference cX7_preference 3 (some FieldType.int)) rm_X7_preference [.ref a0, .int a1, .int a2] M (some (.int r)) M' 0 0 := by
  refine CT_of (own := RX7) (maxL := 3) (ret := (some FieldType.int)) hG (by decide) rfl (Nat.le_of_ble_eq_true rfl) (fun p e s m below meth c A C0 hr hlk hM ls hl => ?_)
  have hl : lv_has ls 3 [(0, .ref a0), (1, .int a1), (2, .int a2)] := hl
  generalize ([.ref a0, .int a1, .int a2] : List Value).toArray = args at C0 ⊢
  skip
  have hx := C0.1
  have hb := C0.2.1
  have hown := C0.2.2.2.1
  have hts := C0.2.2.2.2.1
  unfold p_X7_preference at hp
  refine lv_aload_n hx hb dX7_preference_0 rfl (lv_at hl 0 rfl) ?_
  refine lv_iload_n hx hb dX7_preference_1 rfl (lv_at hl 1 rfl) ?_
  obtain ⟨_, h1, hp⟩ := ob hp
  obtain ⟨v2, M3, hv2, hp⟩ := ob3 hp
  refine mr_V1 (As := [.int a1]) (rest := []) C0 cbX7 hM h1 rfl (w_X7_noChild hG hv2) tw_1511 tw_1513 tws_42 tw_7 tw_1514 yk_X7_noChild (by decide) rfl hl.1 (Nat.le_of_ble_eq_true rfl) dX7_preference_2 rfl (fun H locs hM => ?_)
  refine lv_if_ne (tgt := 41) hx hb dX7_preference_5 (by decide) (fun c4 => ?_) (fun c4 => ?_)
  · replace hp := oF c4 hp
    refine lv_iconst (v := 0) hx hb dX7_preference_41 (by decide) ?_
    exact mr_iret C0 hr hlk hM (Prod.mk.inj (Option.some.inj hp)).2 (Prod.mk.inj (Option.some.inj hp)).1 (Nat.le_refl _) (Nat.le_refl _) dX7_preference_42
  · replace hp := oT c4 hp
    refine lv_aload_n hx hb dX7_preference_8 rfl (lv_at hl 0 rfl) ?_
    refine lv_iload_n hx hb dX7_preference_9 rfl (lv_at hl 2 rfl) ?_
    refine lv_iconst (v := 0) hx hb dX7_preference_10 (by decide) ?_
    refine lv_aload_n hx hb dX7_preference_11 rfl (lv_at hl 0 rfl) ?_
    obtain ⟨v5, hv5, hp⟩ := ob hp
    refine mr_getR C0 cbX7 hM 0 (by decide) tw_1224 hv5 dX7_preference_12 ?_
    refine lv_sipush (v := 324) hx hb dX7_preference_15 (by decide) ?_
    refine lv_iload_n hx hb dX7_preference_18 rfl (lv_at hl 1 rfl) ?_
    refine lv_iadd hx hb dX7_preference_19 ?_
    obtain ⟨v6, hv6, hp⟩ := ob hp
    refine mr_iald C0 hM hv6 dX7_preference_20 ?_
    refine lv_iconst (v := 1) hx hb dX7_preference_21 (by decide) ?_
    refine lv_isub hx hb dX7_preference_22 ?_
    obtain ⟨v7, hv7, hp⟩ := ob hp
    refine mr_S1 (As := [.int a2, .int (0 : Int32), .int (v6 - (1 : Int32))]) (rest := [.ref a0]) C0 hM (w_X7_inRange hG hv7) tw_1325 tw_1326 tw_7 tw_1327 yk_X7_inRange (by decide) rfl hl.1 (Nat.le_of_ble_eq_true rfl) dX7_preference_23 rfl (fun H locs hM => ?_)
    obtain ⟨k9, ek9, hp⟩ := ojn hp
    have hk9 : ∀ (s8 : Int32) (H : Heap) (locs : List Loc) (ls : Array Slot), mm G A s M3 H locs → lv_has ls 3 [(0, .ref a0), (1, .int a1), (2, .int a2)] → k9 s8 = some (r, M') → W p l e rm_X7_preference s m args below meth c H locs 0 0 (MQ below (CQ G M' (some (.int r)) A) args s 0 0 A) (F0 m 34 ls [.int s8, .ref a0]) := by
      intro s8 H locs ls hM hl hp
      rw [ek9] at hp
      refine lv_iconst (v := 2) hx hb dX7_preference_34 (by decide) ?_
      obtain ⟨_, h10, hp⟩ := ob hp
      obtain ⟨v11, M12, hv11, hp⟩ := ob3 hp
      refine mr_V1 (As := [.int s8, .int (2 : Int32)]) (rest := []) C0 cbX7 hM h10 rfl (w_X7_fails hG hv11) tw_1459 tw_1461 tws_32 tw_7 tw_1462 yk_X7_fails (by decide) rfl hl.1 (Nat.le_of_ble_eq_true rfl) dX7_preference_35 rfl (fun H locs hM => ?_)
      refine lv_if_eq (tgt := 43) hx hb dX7_preference_38 (by decide) (fun c13 => ?_) (fun c13 => ?_)
      · replace hp := oT c13 hp
        refine lv_aload_n hx hb dX7_preference_43 rfl (lv_at hl 0 rfl) ?_
        obtain ⟨v14, hv14, hp⟩ := ob hp
        refine mr_getR C0 cbX7 hM 0 (by decide) tw_1224 hv14 dX7_preference_44 ?_
        refine lv_sipush (v := 564) hx hb dX7_preference_47 (by decide) ?_
        refine lv_iconst (v := 4) hx hb dX7_preference_50 (by decide) ?_
        refine lv_iload_n hx hb dX7_preference_51 rfl (lv_at hl 1 rfl) ?_
        refine lv_imul hx hb dX7_preference_52 ?_
        refine lv_iadd hx hb dX7_preference_53 ?_
        refine lv_iload_n hx hb dX7_preference_54 rfl (lv_at hl 2 rfl) ?_
        refine lv_iadd hx hb dX7_preference_55 ?_
        obtain ⟨v15, hv15, hp⟩ := ob hp
        refine mr_iald C0 hM hv15 dX7_preference_56 ?_
        exact mr_iret C0 hr hlk hM (Prod.mk.inj (Option.some.inj hp)).2 (Prod.mk.inj (Option.some.inj hp)).1 (Nat.le_refl _) (Nat.le_refl _) dX7_preference_57
      · replace hp := oF c13 hp
        refine lv_iconst (v := 0) hx hb dX7_preference_41 (by decide) ?_
        exact mr_iret C0 hr hlk hM (Prod.mk.inj (Option.some.inj hp)).2 (Prod.mk.inj (Option.some.inj hp)).1 (Nat.le_refl _) (Nat.le_refl _) dX7_preference_42
    refine lv_if_ne (tgt := 33) hx hb dX7_preference_26 (by decide) (fun c16 => ?_) (fun c16 => ?_)
    · replace hp := oF c16 hp
      refine lv_iconst (v := 0) hx hb dX7_preference_33 (by decide) ?_
      exact hk9 _ _ _ _ hM (lv_sub hl [0, 1, 2] rfl) hp
    · replace hp := oT c16 hp
      refine lv_iconst (v := 1) hx hb dX7_preference_29 (by decide) ?_
      refine lv_goto (tgt := 34) hx hb dX7_preference_30 (by decide) ?_
      exact hk9 _ _ _ _ hM (lv_sub hl [0, 1, 2] rfl) hp
abbrev rm_X7_placeOf : Room := { frames := 2, cells := 0, slots := 0, locals := 43 }
def p_X7_placeOf (a0 : Nat) (a1 : Int32) (M : Mem) : Option (Int32 × Mem) :=
  (Option.bind (isC 6 M a0) fun _ =>
  (ob2 (p_X7_noChild a0 a1 M) fun v2 M3 =>
  (if v2 = 0 then
   (Option.bind (gR 6 0 M3 a0) fun v5 =>
   (Option.bind (aI 0 M3 v5 ((484 : Int32) + a1)) fun v6 =>
   some (v6, M3)
   )
   )
  else
   some ((0 : Int32), M3)
  )
  )
  )
theorem yk_X7_placeOf : yok yX7_placeOf 1 := by decide +kernel
set_option maxHeartbeats 4000000 in
set_option maxRecDepth 100000 in
theorem w_X7_placeOf {G : gG} (hG : GOK G) {l : Launch} {a0 : Nat} {a1 : Int32} {M : Mem} {r : Int32} {M' : Mem} (hp : p_X7_placeOf a0 a1 M = some (r, M')) : CT G l yX7_placeOf (wT yX7_placeOf cX7_placeOf 2 (some FieldType.int)) rm_X7_placeOf [.ref a0, .int a1] M (some (.int r)) M' 0 0 := by
  refine CT_of (own := RX7) (maxL := 2) (ret := (some FieldType.int)) hG (by decide) rfl (Nat.le_of_ble_eq_true rfl) (fun p e s m below meth c A C0 hr hlk hM ls hl => ?_)
  have hl : lv_has ls 2 [(0, .ref a0), (1, .int a1)] := hl
  generalize ([.ref a0, .int a1] : List Value).toArray = args at C0 ⊢
  skip
  have hx := C0.1
  have hb := C0.2.1
  have hown := C0.2.2.2.1
  have hts := C0.2.2.2.2.1
  unfold p_X7_placeOf at hp
  refine lv_aload_n hx hb dX7_placeOf_0 rfl (lv_at hl 0 rfl) ?_
  refine lv_iload_n hx hb dX7_placeOf_1 rfl (lv_at hl 1 rfl) ?_
  obtain ⟨_, h1, hp⟩ := ob hp
  obtain ⟨v2, M3, hv2, hp⟩ := ob3 hp
  refine mr_V1 (As := [.int a1]) (rest := []) C0 cbX7 hM h1 rfl (w_X7_noChild hG hv2) tw_1511 tw_1513 tws_42 tw_7 tw_1514 yk_X7_noChild (by decide) rfl hl.1 (Nat.le_of_ble_eq_true rfl) dX7_placeOf_2 rfl (fun H locs hM => ?_)
  refine lv_if_eq (tgt := 12) hx hb dX7_placeOf_5 (by decide) (fun c4 => ?_) (fun c4 => ?_)
  · replace hp := oT c4 hp
    refine lv_aload_n hx hb dX7_placeOf_12 rfl (lv_at hl 0 rfl) ?_
    obtain ⟨v5, hv5, hp⟩ := ob hp
    refine mr_getR C0 cbX7 hM 0 (by decide) tw_1224 hv5 dX7_placeOf_13 ?_
    refine lv_sipush (v := 484) hx hb dX7_placeOf_16 (by decide) ?_
    refine lv_iload_n hx hb dX7_placeOf_19 rfl (lv_at hl 1 rfl) ?_
    refine lv_iadd hx hb dX7_placeOf_20 ?_
    obtain ⟨v6, hv6, hp⟩ := ob hp
    refine mr_iald C0 hM hv6 dX7_placeOf_21 ?_
    exact mr_iret C0 hr hlk hM (Prod.mk.inj (Option.some.inj hp)).2 (Prod.mk.inj (Option.some.inj hp)).1 (Nat.le_refl _) (Nat.le_refl _) dX7_placeOf_22
  · replace hp := oF c4 hp
    refine lv_iconst (v := 0) hx hb dX7_placeOf_8 (by decide) ?_
    refine lv_goto (tgt := 22) hx hb dX7_placeOf_9 (by decide) ?_
    exact mr_iret C0 hr hlk hM (Prod.mk.inj (Option.some.inj hp)).2 (Prod.mk.inj (Option.some.inj hp)).1 (Nat.le_refl _) (Nat.le_refl _) dX7_placeOf_22
abbrev rm_X7_gotPreference : Room := { frames := 2, cells := 0, slots := 0, locals := 44 }
def p_X7_gotPreference (a0 : Nat) (a1 : Int32) (M : Mem) : Option (Int32 × Mem) :=
  (Option.bind (isC 6 M a0) fun _ =>
  (ob2 (p_X7_noChild a0 a1 M) fun v2 M3 =>
  (if v2 = 0 then
   (Option.bind (isC 6 M3 a0) fun _ =>
   (Option.bind (p_X7_gotOf a0 a1 M3) fun v6 =>
   some (v6, M3)
   )
   )
  else
   some ((0 : Int32), M3)
  )
  )
  )
theorem yk_X7_gotPreference : yok yX7_gotPreference 1 := by decide +kernel
set_option maxHeartbeats 4000000 in
set_option maxRecDepth 100000 in
theorem w_X7_gotPreference {G : gG} (hG : GOK G) {l : Launch} {a0 : Nat} {a1 : Int32} {M : Mem} {r : Int32} {M' : Mem} (hp : p_X7_gotPreference a0 a1 M = some (r, M')) : CT G l yX7_gotPreference (wT yX7_gotPreference cX7_gotPreference 2 (some FieldType.int)) rm_X7_gotPreference [.ref a0, .int a1] M (some (.int r)) M' 0 0 := by
  refine CT_of (own := RX7) (maxL := 2) (ret := (some FieldType.int)) hG (by decide) rfl (Nat.le_of_ble_eq_true rfl) (fun p e s m below meth c A C0 hr hlk hM ls hl => ?_)
  have hl : lv_has ls 2 [(0, .ref a0), (1, .int a1)] := hl
  generalize ([.ref a0, .int a1] : List Value).toArray = args at C0 ⊢
  skip
  have hx := C0.1
  have hb := C0.2.1
  have hown := C0.2.2.2.1
  have hts := C0.2.2.2.2.1
  unfold p_X7_gotPreference at hp
  refine lv_aload_n hx hb dX7_gotPreference_0 rfl (lv_at hl 0 rfl) ?_
  refine lv_iload_n hx hb dX7_gotPreference_1 rfl (lv_at hl 1 rfl) ?_
  obtain ⟨_, h1, hp⟩ := ob hp
  obtain ⟨v2, M3, hv2, hp⟩ := ob3 hp
  refine mr_V1 (As := [.int a1]) (rest := []) C0 cbX7 hM h1 rfl (w_X7_noChild hG hv2) tw_1511 tw_1513 tws_42 tw_7 tw_1514 yk_X7_noChild (by decide) rfl hl.1 (Nat.le_of_ble_eq_true rfl) dX7_gotPreference_2 rfl (fun H locs hM => ?_)
  refine lv_if_eq (tgt := 12) hx hb dX7_gotPreference_5 (by decide) (fun c4 => ?_) (fun c4 => ?_)
  · replace hp := oT c4 hp
    refine lv_aload_n hx hb dX7_gotPreference_12 rfl (lv_at hl 0 rfl) ?_
    refine lv_iload_n hx hb dX7_gotPreference_13 rfl (lv_at hl 1 rfl) ?_
    obtain ⟨_, h5, hp⟩ := ob hp
    obtain ⟨v6, hv6, hp⟩ := ob hp
    refine mr_V1 (As := [.int a1]) (rest := []) C0 cbX7 hM h5 rfl (w_X7_gotOf hG hv6) tw_1499 tw_1501 tws_41 tw_7 tw_1502 yk_X7_gotOf (by decide) rfl hl.1 (Nat.le_of_ble_eq_true rfl) dX7_gotPreference_14 rfl (fun H locs hM => ?_)
    exact mr_iret C0 hr hlk hM (Prod.mk.inj (Option.some.inj hp)).2 (Prod.mk.inj (Option.some.inj hp)).1 (Nat.le_refl _) (Nat.le_refl _) dX7_gotPreference_17
  · replace hp := oF c4 hp
    refine lv_iconst (v := 0) hx hb dX7_gotPreference_8 (by decide) ?_
    refine lv_goto (tgt := 17) hx hb dX7_gotPreference_9 (by decide) ?_
    exact mr_iret C0 hr hlk hM (Prod.mk.inj (Option.some.inj hp)).2 (Prod.mk.inj (Option.some.inj hp)).1 (Nat.le_refl _) (Nat.le_refl _) dX7_gotPreference_17
abbrev rm_X7_meets : Room := { frames := 3, cells := 0, slots := 0, locals := 68 }
def p_X7_meets (a0 : Nat) (a1 : Int32) (a2 : Int32) (a3 : Int32) (M : Mem) : Option (Int32 × Mem) :=
  (Option.bind (isC 6 M a0) fun _ =>
  (ob2 (p_X7_noneOf a0 a1 a2 M) fun v2 M3 =>
  (if v2 = 0 then
   (Option.bind (p_X7_inRange a3 (0 : Int32) (2 : Int32) M3) fun v5 =>
   (jn (fun (s6 : Int32) =>
    (Option.bind (isC 6 M3 a0) fun _ =>
    (ob2 (p_X7_fails a0 s6 (2 : Int32) M3) fun v9 M10 =>
    (if v9 = 0 then
     (Option.bind (isC 6 M10 a0) fun _ =>
     (Option.bind (p_X7_meetsRule a0 a1 a2 a3 M10) fun v13 =>
     (if v13 = 0 then
      some ((0 : Int32), M10)
     else
      some ((1 : Int32), M10)
     )
     )
     )
    else
     some ((0 : Int32), M10)
    )
    )
    )
   ) fun k7 =>
   (if v5 = 0 then
    (k7 (1 : Int32))
   else
    (k7 (0 : Int32))
   )
   )
   )
  else
   some ((0 : Int32), M3)
  )
  )
  )
theorem yk_X7_meets : yok yX7_meets 3 := by decide +kernel
set_option maxHeartbeats 4000000 in
set_option maxRecDepth 100000 in
theorem w_X7_meets {G : gG} (hG : GOK G) {l : Launch} {a0 : Nat} {a1 : Int32} {a2 : Int32} {a3 : Int32} {M : Mem} {r : Int32} {M' : Mem} (hp : p_X7_meets a0 a1 a2 a3 M = some (r, M')) : CT G l yX7_meets (wT yX7_meets cX7_meets 4 (some FieldType.boolean)) rm_X7_meets [.ref a0, .int a1, .int a2, .int a3] M (some (.int r)) M' 0 0 := by
  refine CT_of (own := RX7) (maxL := 4) (ret := (some FieldType.boolean)) hG (by decide) rfl (Nat.le_of_ble_eq_true rfl) (fun p e s m below meth c A C0 hr hlk hM ls hl => ?_)
  have hl : lv_has ls 4 [(0, .ref a0), (1, .int a1), (2, .int a2), (3, .int a3)] := hl
  generalize ([.ref a0, .int a1, .int a2, .int a3] : List Value).toArray = args at C0 ⊢
  skip
  have hx := C0.1
  have hb := C0.2.1
  have hown := C0.2.2.2.1
  have hts := C0.2.2.2.2.1
  unfold p_X7_meets at hp
  refine lv_aload_n hx hb dX7_meets_0 rfl (lv_at hl 0 rfl) ?_
  refine lv_iload_n hx hb dX7_meets_1 rfl (lv_at hl 1 rfl) ?_
  refine lv_iload_n hx hb dX7_meets_2 rfl (lv_at hl 2 rfl) ?_
  obtain ⟨_, h1, hp⟩ := ob hp
  obtain ⟨v2, M3, hv2, hp⟩ := ob3 hp
  refine mr_V1 (As := [.int a1, .int a2]) (rest := []) C0 cbX7 hM h1 rfl (w_X7_noneOf hG hv2) tw_1531 tw_1533 tws_43 tw_7 tw_1534 yk_X7_noneOf (by decide) rfl hl.1 (Nat.le_of_ble_eq_true rfl) dX7_meets_3 rfl (fun H locs hM => ?_)
  refine lv_if_ne (tgt := 45) hx hb dX7_meets_6 (by decide) (fun c4 => ?_) (fun c4 => ?_)
  · replace hp := oF c4 hp
    refine lv_iconst (v := 0) hx hb dX7_meets_45 (by decide) ?_
    exact mr_zret C0 hr hlk hM (Prod.mk.inj (Option.some.inj hp)).2 (Or.inl rfl) (Prod.mk.inj (Option.some.inj hp)).1 (Nat.le_refl _) (Nat.le_refl _) dX7_meets_46
  · replace hp := oT c4 hp
    refine lv_aload_n hx hb dX7_meets_9 rfl (lv_at hl 0 rfl) ?_
    refine lv_iload_n hx hb dX7_meets_10 rfl (lv_at hl 3 rfl) ?_
    refine lv_iconst (v := 0) hx hb dX7_meets_11 (by decide) ?_
    refine lv_iconst (v := 2) hx hb dX7_meets_12 (by decide) ?_
    obtain ⟨v5, hv5, hp⟩ := ob hp
    refine mr_S1 (As := [.int a3, .int (0 : Int32), .int (2 : Int32)]) (rest := [.ref a0]) C0 hM (w_X7_inRange hG hv5) tw_1325 tw_1326 tw_7 tw_1327 yk_X7_inRange (by decide) rfl hl.1 (Nat.le_of_ble_eq_true rfl) dX7_meets_13 rfl (fun H locs hM => ?_)
    obtain ⟨k7, ek7, hp⟩ := ojn hp
    have hk7 : ∀ (s6 : Int32) (H : Heap) (locs : List Loc) (ls : Array Slot), mm G A s M3 H locs → lv_has ls 4 [(0, .ref a0), (1, .int a1), (2, .int a2), (3, .int a3)] → k7 s6 = some (r, M') → W p l e rm_X7_meets s m args below meth c H locs 0 0 (MQ below (CQ G M' (some (.int r)) A) args s 0 0 A) (F0 m 24 ls [.int s6, .ref a0]) := by
      intro s6 H locs ls hM hl hp
      rw [ek7] at hp
      refine lv_iconst (v := 2) hx hb dX7_meets_24 (by decide) ?_
      obtain ⟨_, h8, hp⟩ := ob hp
      obtain ⟨v9, M10, hv9, hp⟩ := ob3 hp
      refine mr_V1 (As := [.int s6, .int (2 : Int32)]) (rest := []) C0 cbX7 hM h8 rfl (w_X7_fails hG hv9) tw_1459 tw_1461 tws_32 tw_7 tw_1462 yk_X7_fails (by decide) rfl hl.1 (Nat.le_of_ble_eq_true rfl) dX7_meets_25 rfl (fun H locs hM => ?_)
      refine lv_if_ne (tgt := 45) hx hb dX7_meets_28 (by decide) (fun c11 => ?_) (fun c11 => ?_)
      · replace hp := oF c11 hp
        refine lv_iconst (v := 0) hx hb dX7_meets_45 (by decide) ?_
        exact mr_zret C0 hr hlk hM (Prod.mk.inj (Option.some.inj hp)).2 (Or.inl rfl) (Prod.mk.inj (Option.some.inj hp)).1 (Nat.le_refl _) (Nat.le_refl _) dX7_meets_46
      · replace hp := oT c11 hp
        refine lv_aload_n hx hb dX7_meets_31 rfl (lv_at hl 0 rfl) ?_
        refine lv_iload_n hx hb dX7_meets_32 rfl (lv_at hl 1 rfl) ?_
        refine lv_iload_n hx hb dX7_meets_33 rfl (lv_at hl 2 rfl) ?_
        refine lv_iload_n hx hb dX7_meets_34 rfl (lv_at hl 3 rfl) ?_
        obtain ⟨_, h12, hp⟩ := ob hp
        obtain ⟨v13, hv13, hp⟩ := ob hp
        refine mr_V1 (As := [.int a1, .int a2, .int a3]) (rest := []) C0 cbX7 hM h12 rfl (w_X7_meetsRule hG hv13) tw_1535 tw_1537 tws_44 tw_7 tw_1538 yk_X7_meetsRule (by decide) rfl hl.1 (Nat.le_of_ble_eq_true rfl) dX7_meets_35 rfl (fun H locs hM => ?_)
        refine lv_if_eq (tgt := 45) hx hb dX7_meets_38 (by decide) (fun c14 => ?_) (fun c14 => ?_)
        · replace hp := oT c14 hp
          refine lv_iconst (v := 0) hx hb dX7_meets_45 (by decide) ?_
          exact mr_zret C0 hr hlk hM (Prod.mk.inj (Option.some.inj hp)).2 (Or.inl rfl) (Prod.mk.inj (Option.some.inj hp)).1 (Nat.le_refl _) (Nat.le_refl _) dX7_meets_46
        · replace hp := oF c14 hp
          refine lv_iconst (v := 1) hx hb dX7_meets_41 (by decide) ?_
          refine lv_goto (tgt := 46) hx hb dX7_meets_42 (by decide) ?_
          exact mr_zret C0 hr hlk hM (Prod.mk.inj (Option.some.inj hp)).2 (Or.inr rfl) (Prod.mk.inj (Option.some.inj hp)).1 (Nat.le_refl _) (Nat.le_refl _) dX7_meets_46
    refine lv_if_ne (tgt := 23) hx hb dX7_meets_16 (by decide) (fun c15 => ?_) (fun c15 => ?_)
    · replace hp := oF c15 hp
      refine lv_iconst (v := 0) hx hb dX7_meets_23 (by decide) ?_
      exact hk7 _ _ _ _ hM (lv_sub hl [0, 1, 2, 3] rfl) hp
    · replace hp := oT c15 hp
      refine lv_iconst (v := 1) hx hb dX7_meets_19 (by decide) ?_
      refine lv_goto (tgt := 24) hx hb dX7_meets_20 (by decide) ?_
      exact hk7 _ _ _ _ hM (lv_sub hl [0, 1, 2, 3] rfl) hp
abbrev rm_X7_classOf : Room := { frames := 4, cells := 0, slots := 0, locals := 91 }
def p_X7_classOf (a0 : Nat) (a1 : Int32) (a2 : Int32) (M : Mem) : Option (Int32 × Mem) :=
  (Option.bind (isC 6 M a0) fun _ =>
  (ob2 (p_X7_noneOf a0 a1 a2 M) fun v2 M3 =>
  (if v2 = 0 then
   (Option.bind (isC 6 M3 a0) fun _ =>
   (Option.bind (p_X7_classAt a0 a1 a2 M3) fun v6 =>
   some (v6, M3)
   )
   )
  else
   some ((0 : Int32), M3)
  )
  )
  )
theorem yk_X7_classOf : yok yX7_classOf 2 := by decide +kernel
set_option maxHeartbeats 4000000 in
set_option maxRecDepth 100000 in
theorem w_X7_classOf {G : gG} (hG : GOK G) {l : Launch} {a0 : Nat} {a1 : Int32} {a2 : Int32} {M : Mem} {r : Int32} {M' : Mem} (hp : p_X7_classOf a0 a1 a2 M = some (r, M')) : CT G l yX7_classOf (wT yX7_classOf cX7_classOf 3 (some FieldType.int)) rm_X7_classOf [.ref a0, .int a1, .int a2] M (some (.int r)) M' 0 0 := by
  refine CT_of (own := RX7) (maxL := 3) (ret := (some FieldType.int)) hG (by decide) rfl (Nat.le_of_ble_eq_true rfl) (fun p e s m below meth c A C0 hr hlk hM ls hl => ?_)
  have hl : lv_has ls 3 [(0, .ref a0), (1, .int a1), (2, .int a2)] := hl
  generalize ([.ref a0, .int a1, .int a2] : List Value).toArray = args at C0 ⊢
  skip
  have hx := C0.1
  have hb := C0.2.1
  have hown := C0.2.2.2.1
  have hts := C0.2.2.2.2.1
  unfold p_X7_classOf at hp
  refine lv_aload_n hx hb dX7_classOf_0 rfl (lv_at hl 0 rfl) ?_
  refine lv_iload_n hx hb dX7_classOf_1 rfl (lv_at hl 1 rfl) ?_
  refine lv_iload_n hx hb dX7_classOf_2 rfl (lv_at hl 2 rfl) ?_
  obtain ⟨_, h1, hp⟩ := ob hp
  obtain ⟨v2, M3, hv2, hp⟩ := ob3 hp
  refine mr_V1 (As := [.int a1, .int a2]) (rest := []) C0 cbX7 hM h1 rfl (w_X7_noneOf hG hv2) tw_1531 tw_1533 tws_43 tw_7 tw_1534 yk_X7_noneOf (by decide) rfl hl.1 (Nat.le_of_ble_eq_true rfl) dX7_classOf_3 rfl (fun H locs hM => ?_)
  refine lv_if_eq (tgt := 13) hx hb dX7_classOf_6 (by decide) (fun c4 => ?_) (fun c4 => ?_)
  · replace hp := oT c4 hp
    refine lv_aload_n hx hb dX7_classOf_13 rfl (lv_at hl 0 rfl) ?_
    refine lv_iload_n hx hb dX7_classOf_14 rfl (lv_at hl 1 rfl) ?_
    refine lv_iload_n hx hb dX7_classOf_15 rfl (lv_at hl 2 rfl) ?_
    obtain ⟨_, h5, hp⟩ := ob hp
    obtain ⟨v6, hv6, hp⟩ := ob hp
    refine mr_V1 (As := [.int a1, .int a2]) (rest := []) C0 cbX7 hM h5 rfl (w_X7_classAt hG hv6) tw_1551 tw_1553 tws_47 tw_7 tw_1554 yk_X7_classAt (by decide) rfl hl.1 (Nat.le_of_ble_eq_true rfl) dX7_classOf_16 rfl (fun H locs hM => ?_)
    exact mr_iret C0 hr hlk hM (Prod.mk.inj (Option.some.inj hp)).2 (Prod.mk.inj (Option.some.inj hp)).1 (Nat.le_refl _) (Nat.le_refl _) dX7_classOf_19
  · replace hp := oF c4 hp
    refine lv_iconst (v := 0) hx hb dX7_classOf_9 (by decide) ?_
    refine lv_goto (tgt := 19) hx hb dX7_classOf_10 (by decide) ?_
    exact mr_iret C0 hr hlk hM (Prod.mk.inj (Option.some.inj hp)).2 (Prod.mk.inj (Option.some.inj hp)).1 (Nat.le_refl _) (Nat.le_refl _) dX7_classOf_19
abbrev rm_X7_distance : Room := { frames := 3, cells := 0, slots := 0, locals := 65 }
def p_X7_distance (a0 : Nat) (a1 : Int32) (a2 : Int32) (M : Mem) : Option (Int32 × Mem) :=
  (Option.bind (isC 6 M a0) fun _ =>
  (ob2 (p_X7_noneOf a0 a1 a2 M) fun v2 M3 =>
  (if v2 = 0 then
   (Option.bind (isC 6 M3 a0) fun _ =>
   (Option.bind (p_X7_far a0 a1 a2 M3) fun v6 =>
   some (v6, M3)
   )
   )
  else
   some ((0 : Int32), M3)
  )
  )
  )
theorem yk_X7_distance : yok yX7_distance 2 := by decide +kernel
set_option maxHeartbeats 4000000 in
set_option maxRecDepth 100000 in
theorem w_X7_distance {G : gG} (hG : GOK G) {l : Launch} {a0 : Nat} {a1 : Int32} {a2 : Int32} {M : Mem} {r : Int32} {M' : Mem} (hp : p_X7_distance a0 a1 a2 M = some (r, M')) : CT G l yX7_distance (wT yX7_distance cX7_distance 3 (some FieldType.int)) rm_X7_distance [.ref a0, .int a1, .int a2] M (some (.int r)) M' 0 0 := by
  refine CT_of (own := RX7) (maxL := 3) (ret := (some FieldType.int)) hG (by decide) rfl (Nat.le_of_ble_eq_true rfl) (fun p e s m below meth c A C0 hr hlk hM ls hl => ?_)
  have hl : lv_has ls 3 [(0, .ref a0), (1, .int a1), (2, .int a2)] := hl
  generalize ([.ref a0, .int a1, .int a2] : List Value).toArray = args at C0 ⊢
  skip
  have hx := C0.1
  have hb := C0.2.1
  have hown := C0.2.2.2.1
  have hts := C0.2.2.2.2.1
  unfold p_X7_distance at hp
  refine lv_aload_n hx hb dX7_distance_0 rfl (lv_at hl 0 rfl) ?_
  refine lv_iload_n hx hb dX7_distance_1 rfl (lv_at hl 1 rfl) ?_
  refine lv_iload_n hx hb dX7_distance_2 rfl (lv_at hl 2 rfl) ?_
  obtain ⟨_, h1, hp⟩ := ob hp
  obtain ⟨v2, M3, hv2, hp⟩ := ob3 hp
  refine mr_V1 (As := [.int a1, .int a2]) (rest := []) C0 cbX7 hM h1 rfl (w_X7_noneOf hG hv2) tw_1531 tw_1533 tws_43 tw_7 tw_1534 yk_X7_noneOf (by decide) rfl hl.1 (Nat.le_of_ble_eq_true rfl) dX7_distance_3 rfl (fun H locs hM => ?_)
  refine lv_if_eq (tgt := 13) hx hb dX7_distance_6 (by decide) (fun c4 => ?_) (fun c4 => ?_)
  · replace hp := oT c4 hp
    refine lv_aload_n hx hb dX7_distance_13 rfl (lv_at hl 0 rfl) ?_
    refine lv_iload_n hx hb dX7_distance_14 rfl (lv_at hl 1 rfl) ?_
    refine lv_iload_n hx hb dX7_distance_15 rfl (lv_at hl 2 rfl) ?_
    obtain ⟨_, h5, hp⟩ := ob hp
    obtain ⟨v6, hv6, hp⟩ := ob hp
    refine mr_V1 (As := [.int a1, .int a2]) (rest := []) C0 cbX7 hM h5 rfl (w_X7_far hG hv6) tw_1559 tw_1561 tws_48 tw_7 tw_1562 yk_X7_far (by decide) rfl hl.1 (Nat.le_of_ble_eq_true rfl) dX7_distance_16 rfl (fun H locs hM => ?_)
    exact mr_iret C0 hr hlk hM (Prod.mk.inj (Option.some.inj hp)).2 (Prod.mk.inj (Option.some.inj hp)).1 (Nat.le_refl _) (Nat.le_refl _) dX7_distance_19
  · replace hp := oF c4 hp
    refine lv_iconst (v := 0) hx hb dX7_distance_9 (by decide) ?_
    refine lv_goto (tgt := 19) hx hb dX7_distance_10 (by decide) ?_
    exact mr_iret C0 hr hlk hM (Prod.mk.inj (Option.some.inj hp)).2 (Prod.mk.inj (Option.some.inj hp)).1 (Nat.le_refl _) (Nat.le_refl _) dX7_distance_19
abbrev rm_X7_comesFirst : Room := { frames := 5, cells := 0, slots := 0, locals := 116 }
def p_X7_comesFirst (a0 : Nat) (a1 : Int32) (a2 : Int32) (a3 : Int32) (M : Mem) : Option (Int32 × Mem) :=
  (Option.bind (isC 6 M a0) fun _ =>
  (ob2 (p_X7_noSchool a0 a1 M) fun v2 M3 =>
  (if v2 = 0 then
   (Option.bind (isC 6 M3 a0) fun _ =>
   (ob2 (p_X7_noChild a0 a2 M3) fun v6 M7 =>
   (if v6 = 0 then
    (Option.bind (isC 6 M7 a0) fun _ =>
    (ob2 (p_X7_noChild a0 a3 M7) fun v10 M11 =>
    (if v10 = 0 then
     (if a2 = a3 then
      some ((0 : Int32), M11)
     else
      (Option.bind (isC 6 M11 a0) fun _ =>
      (Option.bind (p_X7_isAhead a0 a1 a2 a3 M11) fun v15 =>
      (if v15 = 0 then
       some ((0 : Int32), M11)
      else
       some ((1 : Int32), M11)
      )
      )
      )
     )
    else
     some ((0 : Int32), M11)
    )
    )
    )
   else
    some ((0 : Int32), M7)
   )
   )
   )
  else
   some ((0 : Int32), M3)
  )
  )
  )
theorem yk_X7_comesFirst : yok yX7_comesFirst 3 := by decide +kernel
set_option maxHeartbeats 4000000 in
set_option maxRecDepth 100000 in
theorem w_X7_comesFirst {G : gG} (hG : GOK G) {l : Launch} {a0 : Nat} {a1 : Int32} {a2 : Int32} {a3 : Int32} {M : Mem} {r : Int32} {M' : Mem} (hp : p_X7_comesFirst a0 a1 a2 a3 M = some (r, M')) : CT G l yX7_comesFirst (wT yX7_comesFirst cX7_comesFirst 4 (some FieldType.boolean)) rm_X7_comesFirst [.ref a0, .int a1, .int a2, .int a3] M (some (.int r)) M' 0 0 := by
  refine CT_of (own := RX7) (maxL := 4) (ret := (some FieldType.boolean)) hG (by decide) rfl (Nat.le_of_ble_eq_true rfl) (fun p e s m below meth c A C0 hr hlk hM ls hl => ?_)
  have hl : lv_has ls 4 [(0, .ref a0), (1, .int a1), (2, .int a2), (3, .int a3)] := hl
  generalize ([.ref a0, .int a1, .int a2, .int a3] : List Value).toArray = args at C0 ⊢
  skip
  have hx := C0.1
  have hb := C0.2.1
  have hown := C0.2.2.2.1
  have hts := C0.2.2.2.2.1
  unfold p_X7_comesFirst at hp
  refine lv_aload_n hx hb dX7_comesFirst_0 rfl (lv_at hl 0 rfl) ?_
  refine lv_iload_n hx hb dX7_comesFirst_1 rfl (lv_at hl 1 rfl) ?_
  obtain ⟨_, h1, hp⟩ := ob hp
  obtain ⟨v2, M3, hv2, hp⟩ := ob3 hp
  refine mr_V1 (As := [.int a1]) (rest := []) C0 cbX7 hM h1 rfl (w_X7_noSchool hG hv2) tw_1471 tw_1473 tws_34 tw_7 tw_1474 yk_X7_noSchool (by decide) rfl hl.1 (Nat.le_of_ble_eq_true rfl) dX7_comesFirst_2 rfl (fun H locs hM => ?_)
  refine lv_if_ne (tgt := 43) hx hb dX7_comesFirst_5 (by decide) (fun c4 => ?_) (fun c4 => ?_)
  · replace hp := oF c4 hp
    refine lv_iconst (v := 0) hx hb dX7_comesFirst_43 (by decide) ?_
    exact mr_zret C0 hr hlk hM (Prod.mk.inj (Option.some.inj hp)).2 (Or.inl rfl) (Prod.mk.inj (Option.some.inj hp)).1 (Nat.le_refl _) (Nat.le_refl _) dX7_comesFirst_44
  · replace hp := oT c4 hp
    refine lv_aload_n hx hb dX7_comesFirst_8 rfl (lv_at hl 0 rfl) ?_
    refine lv_iload_n hx hb dX7_comesFirst_9 rfl (lv_at hl 2 rfl) ?_
    obtain ⟨_, h5, hp⟩ := ob hp
    obtain ⟨v6, M7, hv6, hp⟩ := ob3 hp
    refine mr_V1 (As := [.int a2]) (rest := []) C0 cbX7 hM h5 rfl (w_X7_noChild hG hv6) tw_1511 tw_1513 tws_42 tw_7 tw_1514 yk_X7_noChild (by decide) rfl hl.1 (Nat.le_of_ble_eq_true rfl) dX7_comesFirst_10 rfl (fun H locs hM => ?_)
    refine lv_if_ne (tgt := 43) hx hb dX7_comesFirst_13 (by decide) (fun c8 => ?_) (fun c8 => ?_)
    · replace hp := oF c8 hp
      refine lv_iconst (v := 0) hx hb dX7_comesFirst_43 (by decide) ?_
      exact mr_zret C0 hr hlk hM (Prod.mk.inj (Option.some.inj hp)).2 (Or.inl rfl) (Prod.mk.inj (Option.some.inj hp)).1 (Nat.le_refl _) (Nat.le_refl _) dX7_comesFirst_44
    · replace hp := oT c8 hp
      refine lv_aload_n hx hb dX7_comesFirst_16 rfl (lv_at hl 0 rfl) ?_
      refine lv_iload_n hx hb dX7_comesFirst_17 rfl (lv_at hl 3 rfl) ?_
      obtain ⟨_, h9, hp⟩ := ob hp
      obtain ⟨v10, M11, hv10, hp⟩ := ob3 hp
      refine mr_V1 (As := [.int a3]) (rest := []) C0 cbX7 hM h9 rfl (w_X7_noChild hG hv10) tw_1511 tw_1513 tws_42 tw_7 tw_1514 yk_X7_noChild (by decide) rfl hl.1 (Nat.le_of_ble_eq_true rfl) dX7_comesFirst_18 rfl (fun H locs hM => ?_)
      refine lv_if_ne (tgt := 43) hx hb dX7_comesFirst_21 (by decide) (fun c12 => ?_) (fun c12 => ?_)
      · replace hp := oF c12 hp
        refine lv_iconst (v := 0) hx hb dX7_comesFirst_43 (by decide) ?_
        exact mr_zret C0 hr hlk hM (Prod.mk.inj (Option.some.inj hp)).2 (Or.inl rfl) (Prod.mk.inj (Option.some.inj hp)).1 (Nat.le_refl _) (Nat.le_refl _) dX7_comesFirst_44
      · replace hp := oT c12 hp
        refine lv_iload_n hx hb dX7_comesFirst_24 rfl (lv_at hl 2 rfl) ?_
        refine lv_iload_n hx hb dX7_comesFirst_25 rfl (lv_at hl 3 rfl) ?_
        refine lv_icmp_eq (tgt := 43) hx hb dX7_comesFirst_26 (by decide) (fun c13 => ?_) (fun c13 => ?_)
        · replace hp := oT c13 hp
          refine lv_iconst (v := 0) hx hb dX7_comesFirst_43 (by decide) ?_
          exact mr_zret C0 hr hlk hM (Prod.mk.inj (Option.some.inj hp)).2 (Or.inl rfl) (Prod.mk.inj (Option.some.inj hp)).1 (Nat.le_refl _) (Nat.le_refl _) dX7_comesFirst_44
        · replace hp := oF c13 hp
          refine lv_aload_n hx hb dX7_comesFirst_29 rfl (lv_at hl 0 rfl) ?_
          refine lv_iload_n hx hb dX7_comesFirst_30 rfl (lv_at hl 1 rfl) ?_
          refine lv_iload_n hx hb dX7_comesFirst_31 rfl (lv_at hl 2 rfl) ?_
          refine lv_iload_n hx hb dX7_comesFirst_32 rfl (lv_at hl 3 rfl) ?_
          obtain ⟨_, h14, hp⟩ := ob hp
          obtain ⟨v15, hv15, hp⟩ := ob hp
          refine mr_V1 (As := [.int a1, .int a2, .int a3]) (rest := []) C0 cbX7 hM h14 rfl (w_X7_isAhead hG hv15) tw_1567 tw_1569 tws_49 tw_7 tw_1570 yk_X7_isAhead (by decide) rfl hl.1 (Nat.le_of_ble_eq_true rfl) dX7_comesFirst_33 rfl (fun H locs hM => ?_)
          refine lv_if_eq (tgt := 43) hx hb dX7_comesFirst_36 (by decide) (fun c16 => ?_) (fun c16 => ?_)
          · replace hp := oT c16 hp
            refine lv_iconst (v := 0) hx hb dX7_comesFirst_43 (by decide) ?_
            exact mr_zret C0 hr hlk hM (Prod.mk.inj (Option.some.inj hp)).2 (Or.inl rfl) (Prod.mk.inj (Option.some.inj hp)).1 (Nat.le_refl _) (Nat.le_refl _) dX7_comesFirst_44
          · replace hp := oF c16 hp
            refine lv_iconst (v := 1) hx hb dX7_comesFirst_39 (by decide) ?_
            refine lv_goto (tgt := 44) hx hb dX7_comesFirst_40 (by decide) ?_
            exact mr_zret C0 hr hlk hM (Prod.mk.inj (Option.some.inj hp)).2 (Or.inr rfl) (Prod.mk.inj (Option.some.inj hp)).1 (Nat.le_refl _) (Nat.le_refl _) dX7_comesFirst_44
abbrev rm_X7_holder : Room := { frames := 7, cells := 0, slots := 0, locals := 165 }
def p_X7_holder (a0 : Nat) (a1 : Int32) (a2 : Int32) (M : Mem) : Option (Int32 × Mem) :=
  (Option.bind (isC 6 M a0) fun _ =>
  (ob2 (p_X7_noSchool a0 a1 M) fun v2 M3 =>
  (if v2 = 0 then
   (Option.bind (isC 6 M3 a0) fun _ =>
   (Option.bind (p_X7_holders a0 a1 M3) fun v6 =>
   (Option.bind (p_X7_inRange a2 (0 : Int32) (v6 - (1 : Int32)) M3) fun v7 =>
   (jn (fun (s8 : Int32) =>
    (Option.bind (isC 6 M3 a0) fun _ =>
    (ob2 (p_X7_fails a0 s8 (2 : Int32) M3) fun v11 M12 =>
    (if v11 = 0 then
     (Option.bind (isC 6 M12 a0) fun _ =>
     (Option.bind (p_X7_standsAt a0 a1 a2 (0 : Int32) M12) fun v15 =>
     some (v15, M12)
     )
     )
    else
     some ((0 : Int32), M12)
    )
    )
    )
   ) fun k9 =>
   (if v7 = 0 then
    (k9 (1 : Int32))
   else
    (k9 (0 : Int32))
   )
   )
   )
   )
   )
  else
   some ((0 : Int32), M3)
  )
  )
  )
theorem yk_X7_holder : yok yX7_holder 2 := by decide +kernel
set_option maxHeartbeats 4000000 in
set_option maxRecDepth 100000 in
theorem w_X7_holder {G : gG} (hG : GOK G) {l : Launch} {a0 : Nat} {a1 : Int32} {a2 : Int32} {M : Mem} {r : Int32} {M' : Mem} (hp : p_X7_holder a0 a1 a2 M = some (r, M')) : CT G l yX7_holder (wT yX7_holder cX7_holder 3 (some FieldType.int)) rm_X7_holder [.ref a0, .int a1, .int a2] M (some (.int r)) M' 0 0 := by
  refine CT_of (own := RX7) (maxL := 3) (ret := (some FieldType.int)) hG (by decide) rfl (Nat.le_of_ble_eq_true rfl) (fun p e s m below meth c A C0 hr hlk hM ls hl => ?_)
  have hl : lv_has ls 3 [(0, .ref a0), (1, .int a1), (2, .int a2)] := hl
  generalize ([.ref a0, .int a1, .int a2] : List Value).toArray = args at C0 ⊢
  skip
  have hx := C0.1
  have hb := C0.2.1
  have hown := C0.2.2.2.1
  have hts := C0.2.2.2.2.1
  unfold p_X7_holder at hp
  refine lv_aload_n hx hb dX7_holder_0 rfl (lv_at hl 0 rfl) ?_
  refine lv_iload_n hx hb dX7_holder_1 rfl (lv_at hl 1 rfl) ?_
  obtain ⟨_, h1, hp⟩ := ob hp
  obtain ⟨v2, M3, hv2, hp⟩ := ob3 hp
  refine mr_V1 (As := [.int a1]) (rest := []) C0 cbX7 hM h1 rfl (w_X7_noSchool hG hv2) tw_1471 tw_1473 tws_34 tw_7 tw_1474 yk_X7_noSchool (by decide) rfl hl.1 (Nat.le_of_ble_eq_true rfl) dX7_holder_2 rfl (fun H locs hM => ?_)
  refine lv_if_ne (tgt := 36) hx hb dX7_holder_5 (by decide) (fun c4 => ?_) (fun c4 => ?_)
  · replace hp := oF c4 hp
    refine lv_iconst (v := 0) hx hb dX7_holder_36 (by decide) ?_
    exact mr_iret C0 hr hlk hM (Prod.mk.inj (Option.some.inj hp)).2 (Prod.mk.inj (Option.some.inj hp)).1 (Nat.le_refl _) (Nat.le_refl _) dX7_holder_37
  · replace hp := oT c4 hp
    refine lv_aload_n hx hb dX7_holder_8 rfl (lv_at hl 0 rfl) ?_
    refine lv_iload_n hx hb dX7_holder_9 rfl (lv_at hl 2 rfl) ?_
    refine lv_iconst (v := 0) hx hb dX7_holder_10 (by decide) ?_
    refine lv_aload_n hx hb dX7_holder_11 rfl (lv_at hl 0 rfl) ?_
    refine lv_iload_n hx hb dX7_holder_12 rfl (lv_at hl 1 rfl) ?_
    obtain ⟨_, h5, hp⟩ := ob hp
    obtain ⟨v6, hv6, hp⟩ := ob hp
    refine mr_V1 (As := [.int a1]) (rest := [.int (0 : Int32), .int a2, .ref a0]) C0 cbX7 hM h5 rfl (w_X7_holders hG hv6) tw_1479 tw_1481 tws_36 tw_7 tw_1482 yk_X7_holders (by decide) rfl hl.1 (Nat.le_of_ble_eq_true rfl) dX7_holder_13 rfl (fun H locs hM => ?_)
    refine lv_iconst (v := 1) hx hb dX7_holder_16 (by decide) ?_
    refine lv_isub hx hb dX7_holder_17 ?_
    obtain ⟨v7, hv7, hp⟩ := ob hp
    refine mr_S1 (As := [.int a2, .int (0 : Int32), .int (v6 - (1 : Int32))]) (rest := [.ref a0]) C0 hM (w_X7_inRange hG hv7) tw_1325 tw_1326 tw_7 tw_1327 yk_X7_inRange (by decide) rfl hl.1 (Nat.le_of_ble_eq_true rfl) dX7_holder_18 rfl (fun H locs hM => ?_)
    obtain ⟨k9, ek9, hp⟩ := ojn hp
    have hk9 : ∀ (s8 : Int32) (H : Heap) (locs : List Loc) (ls : Array Slot), mm G A s M3 H locs → lv_has ls 3 [(0, .ref a0), (1, .int a1), (2, .int a2)] → k9 s8 = some (r, M') → W p l e rm_X7_holder s m args below meth c H locs 0 0 (MQ below (CQ G M' (some (.int r)) A) args s 0 0 A) (F0 m 29 ls [.int s8, .ref a0]) := by
      intro s8 H locs ls hM hl hp
      rw [ek9] at hp
      refine lv_iconst (v := 2) hx hb dX7_holder_29 (by decide) ?_
      obtain ⟨_, h10, hp⟩ := ob hp
      obtain ⟨v11, M12, hv11, hp⟩ := ob3 hp
      refine mr_V1 (As := [.int s8, .int (2 : Int32)]) (rest := []) C0 cbX7 hM h10 rfl (w_X7_fails hG hv11) tw_1459 tw_1461 tws_32 tw_7 tw_1462 yk_X7_fails (by decide) rfl hl.1 (Nat.le_of_ble_eq_true rfl) dX7_holder_30 rfl (fun H locs hM => ?_)
      refine lv_if_eq (tgt := 38) hx hb dX7_holder_33 (by decide) (fun c13 => ?_) (fun c13 => ?_)
      · replace hp := oT c13 hp
        refine lv_aload_n hx hb dX7_holder_38 rfl (lv_at hl 0 rfl) ?_
        refine lv_iload_n hx hb dX7_holder_39 rfl (lv_at hl 1 rfl) ?_
        refine lv_iload_n hx hb dX7_holder_40 rfl (lv_at hl 2 rfl) ?_
        refine lv_iconst (v := 0) hx hb dX7_holder_41 (by decide) ?_
        obtain ⟨_, h14, hp⟩ := ob hp
        obtain ⟨v15, hv15, hp⟩ := ob hp
        refine mr_V1 (As := [.int a1, .int a2, .int (0 : Int32)]) (rest := []) C0 cbX7 hM h14 rfl (w_X7_standsAt hG hv15) tw_1575 tw_1577 tws_50 tw_7 tw_1578 yk_X7_standsAt (by decide) rfl hl.1 (Nat.le_of_ble_eq_true rfl) dX7_holder_42 rfl (fun H locs hM => ?_)
        exact mr_iret C0 hr hlk hM (Prod.mk.inj (Option.some.inj hp)).2 (Prod.mk.inj (Option.some.inj hp)).1 (Nat.le_refl _) (Nat.le_refl _) dX7_holder_45
      · replace hp := oF c13 hp
        refine lv_iconst (v := 0) hx hb dX7_holder_36 (by decide) ?_
        exact mr_iret C0 hr hlk hM (Prod.mk.inj (Option.some.inj hp)).2 (Prod.mk.inj (Option.some.inj hp)).1 (Nat.le_refl _) (Nat.le_refl _) dX7_holder_37
    refine lv_if_ne (tgt := 28) hx hb dX7_holder_21 (by decide) (fun c16 => ?_) (fun c16 => ?_)
    · replace hp := oF c16 hp
      refine lv_iconst (v := 0) hx hb dX7_holder_28 (by decide) ?_
      exact hk9 _ _ _ _ hM (lv_sub hl [0, 1, 2] rfl) hp
    · replace hp := oT c16 hp
      refine lv_iconst (v := 1) hx hb dX7_holder_24 (by decide) ?_
      refine lv_goto (tgt := 29) hx hb dX7_holder_25 (by decide) ?_
      exact hk9 _ _ _ _ hM (lv_sub hl [0, 1, 2] rfl) hp
abbrev rm_X7_waiting : Room := { frames := 7, cells := 0, slots := 0, locals := 165 }
def p_X7_waiting (a0 : Nat) (a1 : Int32) (a2 : Int32) (M : Mem) : Option (Int32 × Mem) :=
  (Option.bind (isC 6 M a0) fun _ =>
  (ob2 (p_X7_noSchool a0 a1 M) fun v2 M3 =>
  (if v2 = 0 then
   (Option.bind (isC 6 M3 a0) fun _ =>
   (Option.bind (p_X7_waitingMany a0 a1 M3) fun v6 =>
   (Option.bind (p_X7_inRange a2 (0 : Int32) (v6 - (1 : Int32)) M3) fun v7 =>
   (jn (fun (s8 : Int32) =>
    (Option.bind (isC 6 M3 a0) fun _ =>
    (ob2 (p_X7_fails a0 s8 (2 : Int32) M3) fun v11 M12 =>
    (if v11 = 0 then
     (Option.bind (isC 6 M12 a0) fun _ =>
     (Option.bind (p_X7_standsAt a0 a1 a2 (1 : Int32) M12) fun v15 =>
     some (v15, M12)
     )
     )
    else
     some ((0 : Int32), M12)
    )
    )
    )
   ) fun k9 =>
   (if v7 = 0 then
    (k9 (1 : Int32))
   else
    (k9 (0 : Int32))
   )
   )
   )
   )
   )
  else
   some ((0 : Int32), M3)
  )
  )
  )
theorem yk_X7_waiting : yok yX7_waiting 2 := by decide +kernel
set_option maxHeartbeats 4000000 in
set_option maxRecDepth 100000 in
theorem w_X7_waiting {G : gG} (hG : GOK G) {l : Launch} {a0 : Nat} {a1 : Int32} {a2 : Int32} {M : Mem} {r : Int32} {M' : Mem} (hp : p_X7_waiting a0 a1 a2 M = some (r, M')) : CT G l yX7_waiting (wT yX7_waiting cX7_waiting 3 (some FieldType.int)) rm_X7_waiting [.ref a0, .int a1, .int a2] M (some (.int r)) M' 0 0 := by
  refine CT_of (own := RX7) (maxL := 3) (ret := (some FieldType.int)) hG (by decide) rfl (Nat.le_of_ble_eq_true rfl) (fun p e s m below meth c A C0 hr hlk hM ls hl => ?_)
  have hl : lv_has ls 3 [(0, .ref a0), (1, .int a1), (2, .int a2)] := hl
  generalize ([.ref a0, .int a1, .int a2] : List Value).toArray = args at C0 ⊢
  skip
  have hx := C0.1
  have hb := C0.2.1
  have hown := C0.2.2.2.1
  have hts := C0.2.2.2.2.1
  unfold p_X7_waiting at hp
  refine lv_aload_n hx hb dX7_waiting_0 rfl (lv_at hl 0 rfl) ?_
  refine lv_iload_n hx hb dX7_waiting_1 rfl (lv_at hl 1 rfl) ?_
  obtain ⟨_, h1, hp⟩ := ob hp
  obtain ⟨v2, M3, hv2, hp⟩ := ob3 hp
  refine mr_V1 (As := [.int a1]) (rest := []) C0 cbX7 hM h1 rfl (w_X7_noSchool hG hv2) tw_1471 tw_1473 tws_34 tw_7 tw_1474 yk_X7_noSchool (by decide) rfl hl.1 (Nat.le_of_ble_eq_true rfl) dX7_waiting_2 rfl (fun H locs hM => ?_)
  refine lv_if_ne (tgt := 36) hx hb dX7_waiting_5 (by decide) (fun c4 => ?_) (fun c4 => ?_)
  · replace hp := oF c4 hp
    refine lv_iconst (v := 0) hx hb dX7_waiting_36 (by decide) ?_
    exact mr_iret C0 hr hlk hM (Prod.mk.inj (Option.some.inj hp)).2 (Prod.mk.inj (Option.some.inj hp)).1 (Nat.le_refl _) (Nat.le_refl _) dX7_waiting_37
  · replace hp := oT c4 hp
    refine lv_aload_n hx hb dX7_waiting_8 rfl (lv_at hl 0 rfl) ?_
    refine lv_iload_n hx hb dX7_waiting_9 rfl (lv_at hl 2 rfl) ?_
    refine lv_iconst (v := 0) hx hb dX7_waiting_10 (by decide) ?_
    refine lv_aload_n hx hb dX7_waiting_11 rfl (lv_at hl 0 rfl) ?_
    refine lv_iload_n hx hb dX7_waiting_12 rfl (lv_at hl 1 rfl) ?_
    obtain ⟨_, h5, hp⟩ := ob hp
    obtain ⟨v6, hv6, hp⟩ := ob hp
    refine mr_V1 (As := [.int a1]) (rest := [.int (0 : Int32), .int a2, .ref a0]) C0 cbX7 hM h5 rfl (w_X7_waitingMany hG hv6) tw_1487 tw_1489 tws_38 tw_7 tw_1490 yk_X7_waitingMany (by decide) rfl hl.1 (Nat.le_of_ble_eq_true rfl) dX7_waiting_13 rfl (fun H locs hM => ?_)
    refine lv_iconst (v := 1) hx hb dX7_waiting_16 (by decide) ?_
    refine lv_isub hx hb dX7_waiting_17 ?_
    obtain ⟨v7, hv7, hp⟩ := ob hp
    refine mr_S1 (As := [.int a2, .int (0 : Int32), .int (v6 - (1 : Int32))]) (rest := [.ref a0]) C0 hM (w_X7_inRange hG hv7) tw_1325 tw_1326 tw_7 tw_1327 yk_X7_inRange (by decide) rfl hl.1 (Nat.le_of_ble_eq_true rfl) dX7_waiting_18 rfl (fun H locs hM => ?_)
    obtain ⟨k9, ek9, hp⟩ := ojn hp
    have hk9 : ∀ (s8 : Int32) (H : Heap) (locs : List Loc) (ls : Array Slot), mm G A s M3 H locs → lv_has ls 3 [(0, .ref a0), (1, .int a1), (2, .int a2)] → k9 s8 = some (r, M') → W p l e rm_X7_waiting s m args below meth c H locs 0 0 (MQ below (CQ G M' (some (.int r)) A) args s 0 0 A) (F0 m 29 ls [.int s8, .ref a0]) := by
      intro s8 H locs ls hM hl hp
      rw [ek9] at hp
      refine lv_iconst (v := 2) hx hb dX7_waiting_29 (by decide) ?_
      obtain ⟨_, h10, hp⟩ := ob hp
      obtain ⟨v11, M12, hv11, hp⟩ := ob3 hp
      refine mr_V1 (As := [.int s8, .int (2 : Int32)]) (rest := []) C0 cbX7 hM h10 rfl (w_X7_fails hG hv11) tw_1459 tw_1461 tws_32 tw_7 tw_1462 yk_X7_fails (by decide) rfl hl.1 (Nat.le_of_ble_eq_true rfl) dX7_waiting_30 rfl (fun H locs hM => ?_)
      refine lv_if_eq (tgt := 38) hx hb dX7_waiting_33 (by decide) (fun c13 => ?_) (fun c13 => ?_)
      · replace hp := oT c13 hp
        refine lv_aload_n hx hb dX7_waiting_38 rfl (lv_at hl 0 rfl) ?_
        refine lv_iload_n hx hb dX7_waiting_39 rfl (lv_at hl 1 rfl) ?_
        refine lv_iload_n hx hb dX7_waiting_40 rfl (lv_at hl 2 rfl) ?_
        refine lv_iconst (v := 1) hx hb dX7_waiting_41 (by decide) ?_
        obtain ⟨_, h14, hp⟩ := ob hp
        obtain ⟨v15, hv15, hp⟩ := ob hp
        refine mr_V1 (As := [.int a1, .int a2, .int (1 : Int32)]) (rest := []) C0 cbX7 hM h14 rfl (w_X7_standsAt hG hv15) tw_1575 tw_1577 tws_50 tw_7 tw_1578 yk_X7_standsAt (by decide) rfl hl.1 (Nat.le_of_ble_eq_true rfl) dX7_waiting_42 rfl (fun H locs hM => ?_)
        exact mr_iret C0 hr hlk hM (Prod.mk.inj (Option.some.inj hp)).2 (Prod.mk.inj (Option.some.inj hp)).1 (Nat.le_refl _) (Nat.le_refl _) dX7_waiting_45
      · replace hp := oF c13 hp
        refine lv_iconst (v := 0) hx hb dX7_waiting_36 (by decide) ?_
        exact mr_iret C0 hr hlk hM (Prod.mk.inj (Option.some.inj hp)).2 (Prod.mk.inj (Option.some.inj hp)).1 (Nat.le_refl _) (Nat.le_refl _) dX7_waiting_37
    refine lv_if_ne (tgt := 28) hx hb dX7_waiting_21 (by decide) (fun c16 => ?_) (fun c16 => ?_)
    · replace hp := oF c16 hp
      refine lv_iconst (v := 0) hx hb dX7_waiting_28 (by decide) ?_
      exact hk9 _ _ _ _ hM (lv_sub hl [0, 1, 2] rfl) hp
    · replace hp := oT c16 hp
      refine lv_iconst (v := 1) hx hb dX7_waiting_24 (by decide) ?_
      refine lv_goto (tgt := 29) hx hb dX7_waiting_25 (by decide) ?_
      exact hk9 _ _ _ _ hM (lv_sub hl [0, 1, 2] rfl) hp
abbrev rm_X7_waitingPlace : Room := { frames := 6, cells := 0, slots := 0, locals := 141 }
def p_X7_waitingPlace (a0 : Nat) (a1 : Int32) (a2 : Int32) (M : Mem) : Option (Int32 × Mem) :=
  (Option.bind (isC 6 M a0) fun _ =>
  (ob2 (p_X7_noneOf a0 a1 a2 M) fun v2 M3 =>
  (if v2 = 0 then
   (Option.bind (isC 6 M3 a0) fun _ =>
   (Option.bind (p_X7_waits a0 a1 a2 M3) fun v6 =>
   (if v6 = 0 then
    some ((-1 : Int32), M3)
   else
    (Option.bind (isC 6 M3 a0) fun _ =>
    (Option.bind (p_X7_aheadOf a0 a1 a2 (1 : Int32) M3) fun v9 =>
    some (v9, M3)
    )
    )
   )
   )
   )
  else
   some ((0 : Int32), M3)
  )
  )
  )
theorem yk_X7_waitingPlace : yok yX7_waitingPlace 2 := by decide +kernel
set_option maxHeartbeats 4000000 in
set_option maxRecDepth 100000 in
theorem w_X7_waitingPlace {G : gG} (hG : GOK G) {l : Launch} {a0 : Nat} {a1 : Int32} {a2 : Int32} {M : Mem} {r : Int32} {M' : Mem} (hp : p_X7_waitingPlace a0 a1 a2 M = some (r, M')) : CT G l yX7_waitingPlace (wT yX7_waitingPlace cX7_waitingPlace 3 (some FieldType.int)) rm_X7_waitingPlace [.ref a0, .int a1, .int a2] M (some (.int r)) M' 0 0 := by
  refine CT_of (own := RX7) (maxL := 3) (ret := (some FieldType.int)) hG (by decide) rfl (Nat.le_of_ble_eq_true rfl) (fun p e s m below meth c A C0 hr hlk hM ls hl => ?_)
  have hl : lv_has ls 3 [(0, .ref a0), (1, .int a1), (2, .int a2)] := hl
  generalize ([.ref a0, .int a1, .int a2] : List Value).toArray = args at C0 ⊢
  skip
  have hx := C0.1
  have hb := C0.2.1
  have hown := C0.2.2.2.1
  have hts := C0.2.2.2.2.1
  unfold p_X7_waitingPlace at hp
  refine lv_aload_n hx hb dX7_waitingPlace_0 rfl (lv_at hl 0 rfl) ?_
  refine lv_iload_n hx hb dX7_waitingPlace_1 rfl (lv_at hl 1 rfl) ?_
  refine lv_iload_n hx hb dX7_waitingPlace_2 rfl (lv_at hl 2 rfl) ?_
  obtain ⟨_, h1, hp⟩ := ob hp
  obtain ⟨v2, M3, hv2, hp⟩ := ob3 hp
  refine mr_V1 (As := [.int a1, .int a2]) (rest := []) C0 cbX7 hM h1 rfl (w_X7_noneOf hG hv2) tw_1531 tw_1533 tws_43 tw_7 tw_1534 yk_X7_noneOf (by decide) rfl hl.1 (Nat.le_of_ble_eq_true rfl) dX7_waitingPlace_3 rfl (fun H locs hM => ?_)
  refine lv_if_eq (tgt := 11) hx hb dX7_waitingPlace_6 (by decide) (fun c4 => ?_) (fun c4 => ?_)
  · replace hp := oT c4 hp
    refine lv_aload_n hx hb dX7_waitingPlace_11 rfl (lv_at hl 0 rfl) ?_
    refine lv_iload_n hx hb dX7_waitingPlace_12 rfl (lv_at hl 1 rfl) ?_
    refine lv_iload_n hx hb dX7_waitingPlace_13 rfl (lv_at hl 2 rfl) ?_
    obtain ⟨_, h5, hp⟩ := ob hp
    obtain ⟨v6, hv6, hp⟩ := ob hp
    refine mr_V1 (As := [.int a1, .int a2]) (rest := []) C0 cbX7 hM h5 rfl (w_X7_waits hG hv6) tw_1491 tw_1493 tws_39 tw_7 tw_1494 yk_X7_waits (by decide) rfl hl.1 (Nat.le_of_ble_eq_true rfl) dX7_waitingPlace_14 rfl (fun H locs hM => ?_)
    refine lv_if_eq (tgt := 30) hx hb dX7_waitingPlace_17 (by decide) (fun c7 => ?_) (fun c7 => ?_)
    · replace hp := oT c7 hp
      refine lv_iconst (v := -1) hx hb dX7_waitingPlace_30 (by decide) ?_
      exact mr_iret C0 hr hlk hM (Prod.mk.inj (Option.some.inj hp)).2 (Prod.mk.inj (Option.some.inj hp)).1 (Nat.le_refl _) (Nat.le_refl _) dX7_waitingPlace_31
    · replace hp := oF c7 hp
      refine lv_aload_n hx hb dX7_waitingPlace_20 rfl (lv_at hl 0 rfl) ?_
      refine lv_iload_n hx hb dX7_waitingPlace_21 rfl (lv_at hl 1 rfl) ?_
      refine lv_iload_n hx hb dX7_waitingPlace_22 rfl (lv_at hl 2 rfl) ?_
      refine lv_iconst (v := 1) hx hb dX7_waitingPlace_23 (by decide) ?_
      obtain ⟨_, h8, hp⟩ := ob hp
      obtain ⟨v9, hv9, hp⟩ := ob hp
      refine mr_V1 (As := [.int a1, .int a2, .int (1 : Int32)]) (rest := []) C0 cbX7 hM h8 rfl (w_X7_aheadOf hG hv9) tw_1583 tw_1585 tws_52 tw_7 tw_1586 yk_X7_aheadOf (by decide) rfl hl.1 (Nat.le_of_ble_eq_true rfl) dX7_waitingPlace_24 rfl (fun H locs hM => ?_)
      refine lv_goto (tgt := 31) hx hb dX7_waitingPlace_27 (by decide) ?_
      exact mr_iret C0 hr hlk hM (Prod.mk.inj (Option.some.inj hp)).2 (Prod.mk.inj (Option.some.inj hp)).1 (Nat.le_refl _) (Nat.le_refl _) dX7_waitingPlace_31
  · replace hp := oF c4 hp
    refine lv_iconst (v := 0) hx hb dX7_waitingPlace_9 (by decide) ?_
    exact mr_iret C0 hr hlk hM (Prod.mk.inj (Option.some.inj hp)).2 (Prod.mk.inj (Option.some.inj hp)).1 (Nat.le_refl _) (Nat.le_refl _) dX7_waitingPlace_10
abbrev rm_X7_claims : Room := { frames := 5, cells := 0, slots := 0, locals := 116 }
def pl_X7_claims_13 (k1 : Unit → Option (Int32)) (k2 : Unit → Option (Int32)) (f0 : Nat) (f1 : Int32) (f2 : Int32) (M : Mem) : Nat → Int32 → Option (Int32)
  | 0, _ => none
  | n + 1, y3 =>
    (Option.bind (gR 6 0 M f0) fun v4 =>
    (Option.bind (aI 0 M v4 (1 : Int32)) fun v5 =>
    (if v5 ≤ y3 then
     (k2 ())
    else
     (Option.bind (gR 6 0 M f0) fun v7 =>
     (Option.bind (aI 0 M v7 ((484 : Int32) + y3)) fun v8 =>
     (if v8 = f2 then
      (Option.bind (gR 6 0 M f0) fun v10 =>
      (Option.bind (aI 0 M v10 ((444 : Int32) + y3)) fun v11 =>
      (if v11 = 0 then
       (Option.bind (isC 6 M f0) fun _ =>
       (Option.bind (p_X7_isAhead f0 f2 f1 y3 M) fun v14 =>
       (if v14 = 0 then
        (pl_X7_claims_13 k1 k2 f0 f1 f2 M n (y3 + (1 : Int32)))
       else
        (k1 ())
       )
       )
       )
      else
       (pl_X7_claims_13 k1 k2 f0 f1 f2 M n (y3 + (1 : Int32)))
      )
      )
      )
     else
      (pl_X7_claims_13 k1 k2 f0 f1 f2 M n (y3 + (1 : Int32)))
     )
     )
     )
    )
    )
    )
set_option maxHeartbeats 4000000 in
set_option maxRecDepth 100000 in
theorem wl_X7_claims_13 {G : gG} {p : Program} {l : Launch} {e : Env} {s : State} {m : MethodId} {args : Array Value} {below : List Frame} {meth : Method} {c : Code} {A : Nat → Prop} {r : Int32} {k1 : Unit → Option (Int32)} {k2 : Unit → Option (Int32)} {f0 : Nat} {f1 : Int32} {f2 : Int32} {M : Mem} (C0 : cx G p s m args c cX7_claims RX7 4 A) (hr : meth.sig.returnType = (some FieldType.boolean)) (hlk : meth.locks = false) (hG : GOK G) (hk1 : ∀ (H : Heap) (locs : List Loc) (ls : Array Slot), mm G A s M H locs → lv_has ls 4 [] → k1 () = some r → W p l e rm_X7_claims s m args below meth c H locs 0 0 (MQ below (CQ G M (some (.int r)) A) args s 0 0 A) (F0 m 60 ls [])) (hk2 : ∀ (H : Heap) (locs : List Loc) (ls : Array Slot), mm G A s M H locs → lv_has ls 4 [] → k2 () = some r → W p l e rm_X7_claims s m args below meth c H locs 0 0 (MQ below (CQ G M (some (.int r)) A) args s 0 0 A) (F0 m 68 ls [])) : ∀ (n : Nat) (y3 : Int32) (H : Heap) (locs : List Loc) (ls : Array Slot), mm G A s M H locs → lv_has ls 4 [(0, .ref f0), (1, .int f1), (2, .int f2), (3, .int y3)] → pl_X7_claims_13 k1 k2 f0 f1 f2 M n y3 = some r → W p l e rm_X7_claims s m args below meth c H locs 0 0 (MQ below (CQ G M (some (.int r)) A) args s 0 0 A) (F0 m 13 ls []) := by
  have hx := C0.1
  have hb := C0.2.1
  have hown := C0.2.2.2.1
  have hts := C0.2.2.2.2.1
  intro n
  induction n with
  | zero => intro y3 H locs ls hM hl hp; rw [pl_X7_claims_13] at hp; cases hp
  | succ n ih =>
    intro y3 H locs ls hM hl hp
    rw [pl_X7_claims_13] at hp
    refine lv_iload_n hx hb dX7_claims_13 rfl (lv_at hl 3 rfl) ?_
    refine lv_aload_n hx hb dX7_claims_14 rfl (lv_at hl 0 rfl) ?_
    obtain ⟨v4, hv4, hp⟩ := ob hp
    refine mr_getR C0 cbX7 hM 0 (by decide) tw_1224 hv4 dX7_claims_15 ?_
    refine lv_iconst (v := 1) hx hb dX7_claims_18 (by decide) ?_
    obtain ⟨v5, hv5, hp⟩ := ob hp
    refine mr_iald C0 hM hv5 dX7_claims_19 ?_
    refine lv_icmp_ge (tgt := 68) hx hb dX7_claims_20 (by decide) (fun c6 => ?_) (fun c6 => ?_)
    · replace hp := oT c6 hp
      exact hk2  _ _ _ hM (lv_sub hl [] rfl) hp
    · replace hp := oF c6 hp
      refine lv_aload_n hx hb dX7_claims_23 rfl (lv_at hl 0 rfl) ?_
      obtain ⟨v7, hv7, hp⟩ := ob hp
      refine mr_getR C0 cbX7 hM 0 (by decide) tw_1224 hv7 dX7_claims_24 ?_
      refine lv_sipush (v := 484) hx hb dX7_claims_27 (by decide) ?_
      refine lv_iload_n hx hb dX7_claims_30 rfl (lv_at hl 3 rfl) ?_
      refine lv_iadd hx hb dX7_claims_31 ?_
      obtain ⟨v8, hv8, hp⟩ := ob hp
      refine mr_iald C0 hM hv8 dX7_claims_32 ?_
      refine lv_iload_n hx hb dX7_claims_33 rfl (lv_at hl 2 rfl) ?_
      refine lv_icmp_ne (tgt := 62) hx hb dX7_claims_34 (by decide) (fun c9 => ?_) (fun c9 => ?_)
      · replace hp := oF c9 hp
        refine lv_iinc (v := (y3 + (1 : Int32))) (lv' := [(3, .int (y3 + (1 : Int32))), (0, .ref f0), (1, .int f1), (2, .int f2)]) hx hb dX7_claims_62 hl (k := 3) rfl rfl (by decide) rfl (fun ls hl => ?_)
        refine lv_goto (tgt := 13) hx hb dX7_claims_65 (by decide) ?_
        exact ih _ _ _ _ hM (lv_sub hl [1, 2, 3, 0] rfl) hp
      · replace hp := oT c9 hp
        refine lv_aload_n hx hb dX7_claims_37 rfl (lv_at hl 0 rfl) ?_
        obtain ⟨v10, hv10, hp⟩ := ob hp
        refine mr_getR C0 cbX7 hM 0 (by decide) tw_1224 hv10 dX7_claims_38 ?_
        refine lv_sipush (v := 444) hx hb dX7_claims_41 (by decide) ?_
        refine lv_iload_n hx hb dX7_claims_44 rfl (lv_at hl 3 rfl) ?_
        refine lv_iadd hx hb dX7_claims_45 ?_
        obtain ⟨v11, hv11, hp⟩ := ob hp
        refine mr_iald C0 hM hv11 dX7_claims_46 ?_
        refine lv_if_ne (tgt := 62) hx hb dX7_claims_47 (by decide) (fun c12 => ?_) (fun c12 => ?_)
        · replace hp := oF c12 hp
          refine lv_iinc (v := (y3 + (1 : Int32))) (lv' := [(3, .int (y3 + (1 : Int32))), (0, .ref f0), (1, .int f1), (2, .int f2)]) hx hb dX7_claims_62 hl (k := 3) rfl rfl (by decide) rfl (fun ls hl => ?_)
          refine lv_goto (tgt := 13) hx hb dX7_claims_65 (by decide) ?_
          exact ih _ _ _ _ hM (lv_sub hl [1, 2, 3, 0] rfl) hp
        · replace hp := oT c12 hp
          refine lv_aload_n hx hb dX7_claims_50 rfl (lv_at hl 0 rfl) ?_
          refine lv_iload_n hx hb dX7_claims_51 rfl (lv_at hl 2 rfl) ?_
          refine lv_iload_n hx hb dX7_claims_52 rfl (lv_at hl 1 rfl) ?_
          refine lv_iload_n hx hb dX7_claims_53 rfl (lv_at hl 3 rfl) ?_
          obtain ⟨_, h13, hp⟩ := ob hp
          obtain ⟨v14, hv14, hp⟩ := ob hp
          refine mr_V1 (As := [.int f2, .int f1, .int y3]) (rest := []) C0 cbX7 hM h13 rfl (w_X7_isAhead hG hv14) tw_1567 tw_1569 tws_49 tw_7 tw_1570 yk_X7_isAhead (by decide) rfl hl.1 (Nat.le_of_ble_eq_true rfl) dX7_claims_54 rfl (fun H locs hM => ?_)
          refine lv_if_eq (tgt := 62) hx hb dX7_claims_57 (by decide) (fun c15 => ?_) (fun c15 => ?_)
          · replace hp := oT c15 hp
            refine lv_iinc (v := (y3 + (1 : Int32))) (lv' := [(3, .int (y3 + (1 : Int32))), (0, .ref f0), (1, .int f1), (2, .int f2)]) hx hb dX7_claims_62 hl (k := 3) rfl rfl (by decide) rfl (fun ls hl => ?_)
            refine lv_goto (tgt := 13) hx hb dX7_claims_65 (by decide) ?_
            exact ih _ _ _ _ hM (lv_sub hl [1, 2, 3, 0] rfl) hp
          · replace hp := oF c15 hp
            exact hk1  _ _ _ hM (lv_sub hl [] rfl) hp
def p_X7_claims (a0 : Nat) (a1 : Int32) (a2 : Int32) (M : Mem) : Option (Int32) :=
  (Option.bind (isC 6 M a0) fun _ =>
  (Option.bind (p_X7_waits a0 a1 a2 M) fun v2 =>
  (if v2 = 0 then
   some (0 : Int32)
  else
   (pl_X7_claims_13
    (fun (_ : Unit) =>
     some (1 : Int32)
    )
    (fun (_ : Unit) =>
     some (0 : Int32)
    )
    a0 a1 a2 M FU (0 : Int32))
  )
  )
  )
theorem yk_X7_claims : yok yX7_claims 2 := by decide +kernel
set_option maxHeartbeats 4000000 in
set_option maxRecDepth 100000 in
theorem w_X7_claims {G : gG} (hG : GOK G) {l : Launch} {a0 : Nat} {a1 : Int32} {a2 : Int32} {M : Mem} {r : Int32} (hp : p_X7_claims a0 a1 a2 M = some r) : CT G l yX7_claims (wT yX7_claims cX7_claims 4 (some FieldType.boolean)) rm_X7_claims [.ref a0, .int a1, .int a2] M (some (.int r)) M 0 0 := by
  refine CT_of (own := RX7) (maxL := 4) (ret := (some FieldType.boolean)) hG (by decide) rfl (Nat.le_of_ble_eq_true rfl) (fun p e s m below meth c A C0 hr hlk hM ls hl => ?_)
  have hl : lv_has ls 4 [(0, .ref a0), (1, .int a1), (2, .int a2)] := hl
  generalize ([.ref a0, .int a1, .int a2] : List Value).toArray = args at C0 ⊢
  skip
  have hx := C0.1
  have hb := C0.2.1
  have hown := C0.2.2.2.1
  have hts := C0.2.2.2.2.1
  unfold p_X7_claims at hp
  refine lv_aload_n hx hb dX7_claims_0 rfl (lv_at hl 0 rfl) ?_
  refine lv_iload_n hx hb dX7_claims_1 rfl (lv_at hl 1 rfl) ?_
  refine lv_iload_n hx hb dX7_claims_2 rfl (lv_at hl 2 rfl) ?_
  obtain ⟨_, h1, hp⟩ := ob hp
  obtain ⟨v2, hv2, hp⟩ := ob hp
  refine mr_V1 (As := [.int a1, .int a2]) (rest := []) C0 cbX7 hM h1 rfl (w_X7_waits hG hv2) tw_1491 tw_1493 tws_39 tw_7 tw_1494 yk_X7_waits (by decide) rfl hl.1 (Nat.le_of_ble_eq_true rfl) dX7_claims_3 rfl (fun H locs hM => ?_)
  refine lv_if_ne (tgt := 11) hx hb dX7_claims_6 (by decide) (fun c3 => ?_) (fun c3 => ?_)
  · replace hp := oF c3 hp
    refine lv_iconst (v := 0) hx hb dX7_claims_11 (by decide) ?_
    refine lv_istore_n (lv' := [(3, .int (0 : Int32)), (0, .ref a0), (1, .int a1), (2, .int a2)]) hx hb dX7_claims_12 rfl hl (by decide) rfl (fun ls hl => ?_)
    refine wl_X7_claims_13 C0 hr hlk hG (fun  H locs ls hM hl hp => ?_) (fun  H locs ls hM hl hp => ?_) FU _ _ _ _ hM (lv_sub hl [1, 2, 3, 0] rfl) hp
    · refine lv_iconst (v := 1) hx hb dX7_claims_60 (by decide) ?_
      exact mr_zret C0 hr hlk hM rfl (Or.inr rfl) (Option.some.inj hp) (Nat.le_refl _) (Nat.le_refl _) dX7_claims_61
    · refine lv_iconst (v := 0) hx hb dX7_claims_68 (by decide) ?_
      exact mr_zret C0 hr hlk hM rfl (Or.inl rfl) (Option.some.inj hp) (Nat.le_refl _) (Nat.le_refl _) dX7_claims_69
  · replace hp := oT c3 hp
    refine lv_iconst (v := 0) hx hb dX7_claims_9 (by decide) ?_
    exact mr_zret C0 hr hlk hM rfl (Or.inl rfl) (Option.some.inj hp) (Nat.le_refl _) (Nat.le_refl _) dX7_claims_10
abbrev rm_X7_hasClaim : Room := { frames := 6, cells := 0, slots := 0, locals := 139 }
def p_X7_hasClaim (a0 : Nat) (a1 : Int32) (a2 : Int32) (M : Mem) : Option (Int32 × Mem) :=
  (Option.bind (isC 6 M a0) fun _ =>
  (ob2 (p_X7_noneOf a0 a1 a2 M) fun v2 M3 =>
  (if v2 = 0 then
   (Option.bind (isC 6 M3 a0) fun _ =>
   (Option.bind (p_X7_claims a0 a1 a2 M3) fun v6 =>
   (if v6 = 0 then
    some ((0 : Int32), M3)
   else
    some ((1 : Int32), M3)
   )
   )
   )
  else
   some ((0 : Int32), M3)
  )
  )
  )
theorem yk_X7_hasClaim : yok yX7_hasClaim 2 := by decide +kernel
set_option maxHeartbeats 4000000 in
set_option maxRecDepth 100000 in
theorem w_X7_hasClaim {G : gG} (hG : GOK G) {l : Launch} {a0 : Nat} {a1 : Int32} {a2 : Int32} {M : Mem} {r : Int32} {M' : Mem} (hp : p_X7_hasClaim a0 a1 a2 M = some (r, M')) : CT G l yX7_hasClaim (wT yX7_hasClaim cX7_hasClaim 3 (some FieldType.boolean)) rm_X7_hasClaim [.ref a0, .int a1, .int a2] M (some (.int r)) M' 0 0 := by
  refine CT_of (own := RX7) (maxL := 3) (ret := (some FieldType.boolean)) hG (by decide) rfl (Nat.le_of_ble_eq_true rfl) (fun p e s m below meth c A C0 hr hlk hM ls hl => ?_)
  have hl : lv_has ls 3 [(0, .ref a0), (1, .int a1), (2, .int a2)] := hl
  generalize ([.ref a0, .int a1, .int a2] : List Value).toArray = args at C0 ⊢
  skip
  have hx := C0.1
  have hb := C0.2.1
  have hown := C0.2.2.2.1
  have hts := C0.2.2.2.2.1
  unfold p_X7_hasClaim at hp
  refine lv_aload_n hx hb dX7_hasClaim_0 rfl (lv_at hl 0 rfl) ?_
  refine lv_iload_n hx hb dX7_hasClaim_1 rfl (lv_at hl 1 rfl) ?_
  refine lv_iload_n hx hb dX7_hasClaim_2 rfl (lv_at hl 2 rfl) ?_
  obtain ⟨_, h1, hp⟩ := ob hp
  obtain ⟨v2, M3, hv2, hp⟩ := ob3 hp
  refine mr_V1 (As := [.int a1, .int a2]) (rest := []) C0 cbX7 hM h1 rfl (w_X7_noneOf hG hv2) tw_1531 tw_1533 tws_43 tw_7 tw_1534 yk_X7_noneOf (by decide) rfl hl.1 (Nat.le_of_ble_eq_true rfl) dX7_hasClaim_3 rfl (fun H locs hM => ?_)
  refine lv_if_ne (tgt := 22) hx hb dX7_hasClaim_6 (by decide) (fun c4 => ?_) (fun c4 => ?_)
  · replace hp := oF c4 hp
    refine lv_iconst (v := 0) hx hb dX7_hasClaim_22 (by decide) ?_
    exact mr_zret C0 hr hlk hM (Prod.mk.inj (Option.some.inj hp)).2 (Or.inl rfl) (Prod.mk.inj (Option.some.inj hp)).1 (Nat.le_refl _) (Nat.le_refl _) dX7_hasClaim_23
  · replace hp := oT c4 hp
    refine lv_aload_n hx hb dX7_hasClaim_9 rfl (lv_at hl 0 rfl) ?_
    refine lv_iload_n hx hb dX7_hasClaim_10 rfl (lv_at hl 1 rfl) ?_
    refine lv_iload_n hx hb dX7_hasClaim_11 rfl (lv_at hl 2 rfl) ?_
    obtain ⟨_, h5, hp⟩ := ob hp
    obtain ⟨v6, hv6, hp⟩ := ob hp
    refine mr_V1 (As := [.int a1, .int a2]) (rest := []) C0 cbX7 hM h5 rfl (w_X7_claims hG hv6) tw_1599 tw_1601 tws_53 tw_7 tw_1602 yk_X7_claims (by decide) rfl hl.1 (Nat.le_of_ble_eq_true rfl) dX7_hasClaim_12 rfl (fun H locs hM => ?_)
    refine lv_if_eq (tgt := 22) hx hb dX7_hasClaim_15 (by decide) (fun c7 => ?_) (fun c7 => ?_)
    · replace hp := oT c7 hp
      refine lv_iconst (v := 0) hx hb dX7_hasClaim_22 (by decide) ?_
      exact mr_zret C0 hr hlk hM (Prod.mk.inj (Option.some.inj hp)).2 (Or.inl rfl) (Prod.mk.inj (Option.some.inj hp)).1 (Nat.le_refl _) (Nat.le_refl _) dX7_hasClaim_23
    · replace hp := oF c7 hp
      refine lv_iconst (v := 1) hx hb dX7_hasClaim_18 (by decide) ?_
      refine lv_goto (tgt := 23) hx hb dX7_hasClaim_19 (by decide) ?_
      exact mr_zret C0 hr hlk hM (Prod.mk.inj (Option.some.inj hp)).2 (Or.inr rfl) (Prod.mk.inj (Option.some.inj hp)).1 (Nat.le_refl _) (Nat.le_refl _) dX7_hasClaim_23
abbrev rm_X7_claims_ : Room := { frames := 6, cells := 0, slots := 0, locals := 139 }
def pl_X7_claims__21 (k1 : Int32 → Option (Int32 × Mem)) (f0 : Nat) (f2 : Int32) (M : Mem) : Nat → Int32 → Int32 → Option (Int32 × Mem)
  | 0, _, _ => none
  | n + 1, y1, y3 =>
    (Option.bind (gR 6 0 M f0) fun v5 =>
    (Option.bind (aI 0 M v5 (0 : Int32)) fun v6 =>
    (if v6 ≤ y3 then
     (k1 y1)
    else
     (Option.bind (isC 6 M f0) fun _ =>
     (Option.bind (p_X7_claims f0 f2 y3 M) fun v9 =>
     (jn (fun (s10 : Int32) =>
      (pl_X7_claims__21 k1 f0 f2 M n (y1 + s10) (y3 + (1 : Int32)))
     ) fun k11 =>
     (if v9 = 0 then
      (k11 (0 : Int32))
     else
      (k11 (1 : Int32))
     )
     )
     )
     )
    )
    )
    )
set_option maxHeartbeats 4000000 in
set_option maxRecDepth 100000 in
theorem wl_X7_claims__21 {G : gG} {p : Program} {l : Launch} {e : Env} {s : State} {m : MethodId} {args : Array Value} {below : List Frame} {meth : Method} {c : Code} {A : Nat → Prop} {r : Int32} {M' : Mem} {k1 : Int32 → Option (Int32 × Mem)} {f0 : Nat} {f2 : Int32} {M : Mem} (C0 : cx G p s m args c cX7_claims_ RX7 4 A) (hr : meth.sig.returnType = (some FieldType.int)) (hlk : meth.locks = false) (hG : GOK G) (hk1 : ∀ (z1 : Int32) (H : Heap) (locs : List Loc) (ls : Array Slot), mm G A s M H locs → lv_has ls 4 [(0, .ref f0), (1, .int z1), (2, .int f2)] → k1 z1 = some (r, M') → W p l e rm_X7_claims_ s m args below meth c H locs 0 0 (MQ below (CQ G M' (some (.int r)) A) args s 0 0 A) (F0 m 54 ls [])) : ∀ (n : Nat) (y1 : Int32) (y3 : Int32) (H : Heap) (locs : List Loc) (ls : Array Slot), mm G A s M H locs → lv_has ls 4 [(0, .ref f0), (1, .int y1), (2, .int f2), (3, .int y3)] → pl_X7_claims__21 k1 f0 f2 M n y1 y3 = some (r, M') → W p l e rm_X7_claims_ s m args below meth c H locs 0 0 (MQ below (CQ G M' (some (.int r)) A) args s 0 0 A) (F0 m 21 ls []) := by
  have hx := C0.1
  have hb := C0.2.1
  have hown := C0.2.2.2.1
  have hts := C0.2.2.2.2.1
  intro n
  induction n with
  | zero => intro y1 y3 H locs ls hM hl hp; rw [pl_X7_claims__21] at hp; cases hp
  | succ n ih =>
    intro y1 y3 H locs ls hM hl hp
    rw [pl_X7_claims__21] at hp
    refine lv_iload_n hx hb dX7_claims__21 rfl (lv_at hl 3 rfl) ?_
    refine lv_aload_n hx hb dX7_claims__22 rfl (lv_at hl 0 rfl) ?_
    obtain ⟨v5, hv5, hp⟩ := ob hp
    refine mr_getR C0 cbX7 hM 0 (by decide) tw_1224 hv5 dX7_claims__23 ?_
    refine lv_iconst (v := 0) hx hb dX7_claims__26 (by decide) ?_
    obtain ⟨v6, hv6, hp⟩ := ob hp
    refine mr_iald C0 hM hv6 dX7_claims__27 ?_
    refine lv_icmp_ge (tgt := 54) hx hb dX7_claims__28 (by decide) (fun c7 => ?_) (fun c7 => ?_)
    · replace hp := oT c7 hp
      exact hk1 _ _ _ _ hM (lv_sub hl [0, 1, 2] rfl) hp
    · replace hp := oF c7 hp
      refine lv_iload_n hx hb dX7_claims__31 rfl (lv_at hl 1 rfl) ?_
      refine lv_aload_n hx hb dX7_claims__32 rfl (lv_at hl 0 rfl) ?_
      refine lv_iload_n hx hb dX7_claims__33 rfl (lv_at hl 2 rfl) ?_
      refine lv_iload_n hx hb dX7_claims__34 rfl (lv_at hl 3 rfl) ?_
      obtain ⟨_, h8, hp⟩ := ob hp
      obtain ⟨v9, hv9, hp⟩ := ob hp
      refine mr_V1 (As := [.int f2, .int y3]) (rest := [.int y1]) C0 cbX7 hM h8 rfl (w_X7_claims hG hv9) tw_1599 tw_1601 tws_53 tw_7 tw_1602 yk_X7_claims (by decide) rfl hl.1 (Nat.le_of_ble_eq_true rfl) dX7_claims__35 rfl (fun H locs hM => ?_)
      obtain ⟨k11, ek11, hp⟩ := ojn hp
      have hk11 : ∀ (s10 : Int32) (H : Heap) (locs : List Loc) (ls : Array Slot), mm G A s M H locs → lv_has ls 4 [(0, .ref f0), (2, .int f2), (3, .int y3)] → k11 s10 = some (r, M') → W p l e rm_X7_claims_ s m args below meth c H locs 0 0 (MQ below (CQ G M' (some (.int r)) A) args s 0 0 A) (F0 m 46 ls [.int s10, .int y1]) := by
        intro s10 H locs ls hM hl hp
        rw [ek11] at hp
        refine lv_iadd hx hb dX7_claims__46 ?_
        refine lv_istore_n (lv' := [(1, .int (y1 + s10)), (0, .ref f0), (2, .int f2), (3, .int y3)]) hx hb dX7_claims__47 rfl hl (by decide) rfl (fun ls hl => ?_)
        refine lv_iinc (v := (y3 + (1 : Int32))) (lv' := [(3, .int (y3 + (1 : Int32))), (1, .int (y1 + s10)), (0, .ref f0), (2, .int f2)]) hx hb dX7_claims__48 hl (k := 3) rfl rfl (by decide) rfl (fun ls hl => ?_)
        refine lv_goto (tgt := 21) hx hb dX7_claims__51 (by decide) ?_
        exact ih _ _ _ _ _ hM (lv_sub hl [2, 1, 3, 0] rfl) hp
      refine lv_if_eq (tgt := 45) hx hb dX7_claims__38 (by decide) (fun c12 => ?_) (fun c12 => ?_)
      · replace hp := oT c12 hp
        refine lv_iconst (v := 0) hx hb dX7_claims__45 (by decide) ?_
        exact hk11 _ _ _ _ hM (lv_sub hl [0, 2, 3] rfl) hp
      · replace hp := oF c12 hp
        refine lv_iconst (v := 1) hx hb dX7_claims__41 (by decide) ?_
        refine lv_goto (tgt := 46) hx hb dX7_claims__42 (by decide) ?_
        exact hk11 _ _ _ _ hM (lv_sub hl [0, 2, 3] rfl) hp
def pl_X7_claims__9 (k1 : Int32 → Option (Int32 × Mem)) (f0 : Nat) (M : Mem) : Nat → Int32 → Int32 → Option (Int32 × Mem)
  | 0, _, _ => none
  | n + 1, y1, y2 =>
    (Option.bind (gR 6 0 M f0) fun v2 =>
    (Option.bind (aI 0 M v2 (1 : Int32)) fun v3 =>
    (if v3 ≤ y2 then
     (k1 y1)
    else
     (pl_X7_claims__21
      (fun (z13 : Int32) =>
       (pl_X7_claims__9 k1 f0 M n z13 (y2 + (1 : Int32)))
      )
      f0 y2 M FU y1 (0 : Int32))
    )
    )
    )
set_option maxHeartbeats 4000000 in
set_option maxRecDepth 100000 in
theorem wl_X7_claims__9 {G : gG} {p : Program} {l : Launch} {e : Env} {s : State} {m : MethodId} {args : Array Value} {below : List Frame} {meth : Method} {c : Code} {A : Nat → Prop} {r : Int32} {M' : Mem} {k1 : Int32 → Option (Int32 × Mem)} {f0 : Nat} {M : Mem} (C0 : cx G p s m args c cX7_claims_ RX7 4 A) (hr : meth.sig.returnType = (some FieldType.int)) (hlk : meth.locks = false) (hG : GOK G) (hk1 : ∀ (z1 : Int32) (H : Heap) (locs : List Loc) (ls : Array Slot), mm G A s M H locs → lv_has ls 4 [(1, .int z1)] → k1 z1 = some (r, M') → W p l e rm_X7_claims_ s m args below meth c H locs 0 0 (MQ below (CQ G M' (some (.int r)) A) args s 0 0 A) (F0 m 60 ls [])) : ∀ (n : Nat) (y1 : Int32) (y2 : Int32) (H : Heap) (locs : List Loc) (ls : Array Slot), mm G A s M H locs → lv_has ls 4 [(0, .ref f0), (1, .int y1), (2, .int y2)] → pl_X7_claims__9 k1 f0 M n y1 y2 = some (r, M') → W p l e rm_X7_claims_ s m args below meth c H locs 0 0 (MQ below (CQ G M' (some (.int r)) A) args s 0 0 A) (F0 m 9 ls []) := by
  have hx := C0.1
  have hb := C0.2.1
  have hown := C0.2.2.2.1
  have hts := C0.2.2.2.2.1
  intro n
  induction n with
  | zero => intro y1 y2 H locs ls hM hl hp; rw [pl_X7_claims__9] at hp; cases hp
  | succ n ih =>
    intro y1 y2 H locs ls hM hl hp
    rw [pl_X7_claims__9] at hp
    refine lv_iload_n hx hb dX7_claims__9 rfl (lv_at hl 2 rfl) ?_
    refine lv_aload_n hx hb dX7_claims__10 rfl (lv_at hl 0 rfl) ?_
    obtain ⟨v2, hv2, hp⟩ := ob hp
    refine mr_getR C0 cbX7 hM 0 (by decide) tw_1224 hv2 dX7_claims__11 ?_
    refine lv_iconst (v := 1) hx hb dX7_claims__14 (by decide) ?_
    obtain ⟨v3, hv3, hp⟩ := ob hp
    refine mr_iald C0 hM hv3 dX7_claims__15 ?_
    refine lv_icmp_ge (tgt := 60) hx hb dX7_claims__16 (by decide) (fun c4 => ?_) (fun c4 => ?_)
    · replace hp := oT c4 hp
      exact hk1 _ _ _ _ hM (lv_sub hl [1] rfl) hp
    · replace hp := oF c4 hp
      refine lv_iconst (v := 0) hx hb dX7_claims__19 (by decide) ?_
      refine lv_istore_n (lv' := [(3, .int (0 : Int32)), (0, .ref f0), (1, .int y1), (2, .int y2)]) hx hb dX7_claims__20 rfl hl (by decide) rfl (fun ls hl => ?_)
      refine wl_X7_claims__21 C0 hr hlk hG (fun z13 H locs ls hM hl hp => ?_) FU _ _ _ _ _ hM (lv_sub hl [1, 2, 3, 0] rfl) hp
      refine lv_iinc (v := (y2 + (1 : Int32))) (lv' := [(2, .int (y2 + (1 : Int32))), (0, .ref f0), (1, .int z13)]) hx hb dX7_claims__54 hl (k := 2) rfl rfl (by decide) rfl (fun ls hl => ?_)
      refine lv_goto (tgt := 9) hx hb dX7_claims__57 (by decide) ?_
      exact ih _ _ _ _ _ hM (lv_sub hl [1, 2, 0] rfl) hp
def p_X7_claims_ (a0 : Nat) (M : Mem) : Option (Int32 × Mem) :=
  (Option.bind (sV 6 9 M a0 (.int (0 : Int32))) fun M1 =>
  (pl_X7_claims__9
   (fun (z14 : Int32) =>
    some (z14, M1)
   )
   a0 M1 FU (0 : Int32) (0 : Int32))
  )
theorem yk_X7_claims_ : yok yX7_claims_ 0 := by decide +kernel
set_option maxHeartbeats 4000000 in
set_option maxRecDepth 100000 in
theorem w_X7_claims_ {G : gG} (hG : GOK G) {l : Launch} {a0 : Nat} {M : Mem} {r : Int32} {M' : Mem} (hp : p_X7_claims_ a0 M = some (r, M')) : CT G l yX7_claims_ (wT yX7_claims_ cX7_claims_ 4 (some FieldType.int)) rm_X7_claims_ [.ref a0] M (some (.int r)) M' 0 0 := by
  refine CT_of (own := RX7) (maxL := 4) (ret := (some FieldType.int)) hG (by decide) rfl (Nat.le_of_ble_eq_true rfl) (fun p e s m below meth c A C0 hr hlk hM ls hl => ?_)
  have hl : lv_has ls 4 [(0, .ref a0)] := hl
  generalize ([.ref a0] : List Value).toArray = args at C0 ⊢
  skip
  have hx := C0.1
  have hb := C0.2.1
  have hown := C0.2.2.2.1
  have hts := C0.2.2.2.2.1
  unfold p_X7_claims_ at hp
  refine lv_aload_n hx hb dX7_claims__0 rfl (lv_at hl 0 rfl) ?_
  refine lv_iconst (v := 0) hx hb dX7_claims__1 (by decide) ?_
  obtain ⟨M1, hM1, hp⟩ := ob hp
  refine mr_putI C0 cbX7 hM 9 (by decide) rfl rfl tw_1233 hM1 dX7_claims__2 (fun H locs hM => ?_)
  refine lv_iconst (v := 0) hx hb dX7_claims__5 (by decide) ?_
  refine lv_istore_n (lv' := [(1, .int (0 : Int32)), (0, .ref a0)]) hx hb dX7_claims__6 rfl hl (by decide) rfl (fun ls hl => ?_)
  refine lv_iconst (v := 0) hx hb dX7_claims__7 (by decide) ?_
  refine lv_istore_n (lv' := [(2, .int (0 : Int32)), (1, .int (0 : Int32)), (0, .ref a0)]) hx hb dX7_claims__8 rfl hl (by decide) rfl (fun ls hl => ?_)
  refine wl_X7_claims__9 C0 hr hlk hG (fun z14 H locs ls hM hl hp => ?_) FU _ _ _ _ _ hM (lv_sub hl [2, 1, 0] rfl) hp
  refine lv_iload_n hx hb dX7_claims__60 rfl (lv_at hl 0 rfl) ?_
  exact mr_iret C0 hr hlk hM (Prod.mk.inj (Option.some.inj hp)).2 (Prod.mk.inj (Option.some.inj hp)).1 (Nat.le_refl _) (Nat.le_refl _) dX7_claims__61
abbrev rm_X7_allocate : Room := { frames := 8, cells := 0, slots := 0, locals := 183 }
def p_X7_allocate (a0 : Nat) (M : Mem) : Option (Int32 × Mem) :=
  (Option.bind (sV 6 9 M a0 (.int (0 : Int32))) fun M1 =>
  (Option.bind (isC 6 M1 a0) fun _ =>
  (Option.bind (p_X7_remembers a0 M1) fun M3 =>
  (Option.bind (isC 6 M3 a0) fun _ =>
  (ob2 (p_X7_allocates a0 M3) fun v5 M6 =>
  some (v5, M6)
  )
  )
  )
  )
  )
theorem yk_X7_allocate : yok yX7_allocate 0 := by decide +kernel
set_option maxHeartbeats 4000000 in
set_option maxRecDepth 100000 in
theorem w_X7_allocate {G : gG} (hG : GOK G) {l : Launch} {a0 : Nat} {M : Mem} {r : Int32} {M' : Mem} (hp : p_X7_allocate a0 M = some (r, M')) : CT G l yX7_allocate (wT yX7_allocate cX7_allocate 1 (some FieldType.int)) rm_X7_allocate [.ref a0] M (some (.int r)) M' 0 0 := by
  refine CT_of (own := RX7) (maxL := 1) (ret := (some FieldType.int)) hG (by decide) rfl (Nat.le_of_ble_eq_true rfl) (fun p e s m below meth c A C0 hr hlk hM ls hl => ?_)
  have hl : lv_has ls 1 [(0, .ref a0)] := hl
  generalize ([.ref a0] : List Value).toArray = args at C0 ⊢
  skip
  have hx := C0.1
  have hb := C0.2.1
  have hown := C0.2.2.2.1
  have hts := C0.2.2.2.2.1
  unfold p_X7_allocate at hp
  refine lv_aload_n hx hb dX7_allocate_0 rfl (lv_at hl 0 rfl) ?_
  refine lv_iconst (v := 0) hx hb dX7_allocate_1 (by decide) ?_
  obtain ⟨M1, hM1, hp⟩ := ob hp
  refine mr_putI C0 cbX7 hM 9 (by decide) rfl rfl tw_1233 hM1 dX7_allocate_2 (fun H locs hM => ?_)
  refine lv_aload_n hx hb dX7_allocate_5 rfl (lv_at hl 0 rfl) ?_
  obtain ⟨_, h2, hp⟩ := ob hp
  obtain ⟨M3, hM3, hp⟩ := ob hp
  refine mr_V0 (As := []) (rest := []) C0 cbX7 hM h2 rfl (w_X7_remembers hG hM3) tw_1611 tw_1613 tws_54 tw_7 tw_1614 yk_X7_remembers (by decide) rfl hl.1 (Nat.le_of_ble_eq_true rfl) dX7_allocate_6 rfl (fun H locs hM => ?_)
  refine lv_aload_n hx hb dX7_allocate_9 rfl (lv_at hl 0 rfl) ?_
  obtain ⟨_, h4, hp⟩ := ob hp
  obtain ⟨v5, M6, hv5, hp⟩ := ob3 hp
  refine mr_V1 (As := []) (rest := []) C0 cbX7 hM h4 rfl (w_X7_allocates hG hv5) tw_1615 tw_1617 tws_55 tw_7 tw_1618 yk_X7_allocates (by decide) rfl hl.1 (Nat.le_of_ble_eq_true rfl) dX7_allocate_10 rfl (fun H locs hM => ?_)
  exact mr_iret C0 hr hlk hM (Prod.mk.inj (Option.some.inj hp)).2 (Prod.mk.inj (Option.some.inj hp)).1 (Nat.le_refl _) (Nat.le_refl _) dX7_allocate_13
abbrev rm_X7_roundOf : Room := { frames := 2, cells := 0, slots := 0, locals := 43 }
def p_X7_roundOf (a0 : Nat) (a1 : Int32) (M : Mem) : Option (Int32 × Mem) :=
  (Option.bind (isC 6 M a0) fun _ =>
  (ob2 (p_X7_noChild a0 a1 M) fun v2 M3 =>
  (if v2 = 0 then
   (Option.bind (gR 6 0 M3 a0) fun v5 =>
   (Option.bind (aI 0 M3 v5 ((524 : Int32) + a1)) fun v6 =>
   some (v6, M3)
   )
   )
  else
   some ((0 : Int32), M3)
  )
  )
  )
theorem yk_X7_roundOf : yok yX7_roundOf 1 := by decide +kernel
set_option maxHeartbeats 4000000 in
set_option maxRecDepth 100000 in
theorem w_X7_roundOf {G : gG} (hG : GOK G) {l : Launch} {a0 : Nat} {a1 : Int32} {M : Mem} {r : Int32} {M' : Mem} (hp : p_X7_roundOf a0 a1 M = some (r, M')) : CT G l yX7_roundOf (wT yX7_roundOf cX7_roundOf 2 (some FieldType.int)) rm_X7_roundOf [.ref a0, .int a1] M (some (.int r)) M' 0 0 := by
  refine CT_of (own := RX7) (maxL := 2) (ret := (some FieldType.int)) hG (by decide) rfl (Nat.le_of_ble_eq_true rfl) (fun p e s m below meth c A C0 hr hlk hM ls hl => ?_)
  have hl : lv_has ls 2 [(0, .ref a0), (1, .int a1)] := hl
  generalize ([.ref a0, .int a1] : List Value).toArray = args at C0 ⊢
  skip
  have hx := C0.1
  have hb := C0.2.1
  have hown := C0.2.2.2.1
  have hts := C0.2.2.2.2.1
  unfold p_X7_roundOf at hp
  refine lv_aload_n hx hb dX7_roundOf_0 rfl (lv_at hl 0 rfl) ?_
  refine lv_iload_n hx hb dX7_roundOf_1 rfl (lv_at hl 1 rfl) ?_
  obtain ⟨_, h1, hp⟩ := ob hp
  obtain ⟨v2, M3, hv2, hp⟩ := ob3 hp
  refine mr_V1 (As := [.int a1]) (rest := []) C0 cbX7 hM h1 rfl (w_X7_noChild hG hv2) tw_1511 tw_1513 tws_42 tw_7 tw_1514 yk_X7_noChild (by decide) rfl hl.1 (Nat.le_of_ble_eq_true rfl) dX7_roundOf_2 rfl (fun H locs hM => ?_)
  refine lv_if_eq (tgt := 12) hx hb dX7_roundOf_5 (by decide) (fun c4 => ?_) (fun c4 => ?_)
  · replace hp := oT c4 hp
    refine lv_aload_n hx hb dX7_roundOf_12 rfl (lv_at hl 0 rfl) ?_
    obtain ⟨v5, hv5, hp⟩ := ob hp
    refine mr_getR C0 cbX7 hM 0 (by decide) tw_1224 hv5 dX7_roundOf_13 ?_
    refine lv_sipush (v := 524) hx hb dX7_roundOf_16 (by decide) ?_
    refine lv_iload_n hx hb dX7_roundOf_19 rfl (lv_at hl 1 rfl) ?_
    refine lv_iadd hx hb dX7_roundOf_20 ?_
    obtain ⟨v6, hv6, hp⟩ := ob hp
    refine mr_iald C0 hM hv6 dX7_roundOf_21 ?_
    exact mr_iret C0 hr hlk hM (Prod.mk.inj (Option.some.inj hp)).2 (Prod.mk.inj (Option.some.inj hp)).1 (Nat.le_refl _) (Nat.le_refl _) dX7_roundOf_22
  · replace hp := oF c4 hp
    refine lv_iconst (v := 0) hx hb dX7_roundOf_8 (by decide) ?_
    refine lv_goto (tgt := 22) hx hb dX7_roundOf_9 (by decide) ?_
    exact mr_iret C0 hr hlk hM (Prod.mk.inj (Option.some.inj hp)).2 (Prod.mk.inj (Option.some.inj hp)).1 (Nat.le_refl _) (Nat.le_refl _) dX7_roundOf_22
abbrev rm_X7_areWishes : Room := { frames := 1, cells := 0, slots := 0, locals := 22 }
def pl_X7_areWishes_17 (k1 : Unit → Option (Int32)) (k2 : Unit → Option (Int32)) (f0 : Nat) (M : Mem) : Nat → Int32 → Int32 → Option (Int32)
  | 0, _, _ => none
  | n + 1, y2, y3 =>
    (if y3 ≤ 0 then
     (k2 ())
    else
     (Option.bind (gR 6 0 M f0) fun v5 =>
     (Option.bind (aI 0 M v5 (0 : Int32)) fun v6 =>
     (Option.bind (p_X7_inRange ((y3 - y3 / (10 : Int32) * (10 : Int32)) - (1 : Int32)) (0 : Int32) (v6 - (1 : Int32)) M) fun v7 =>
     (if v7 = 0 then
      (k1 ())
     else
      (if ((y2 >>> (((y3 - y3 / (10 : Int32) * (10 : Int32)) - (1 : Int32)) &&& 31)) &&& (1 : Int32)) = (1 : Int32) then
       (k1 ())
      else
       (pl_X7_areWishes_17 k1 k2 f0 M n (y2 ||| ((1 : Int32) <<< (((y3 - y3 / (10 : Int32) * (10 : Int32)) - (1 : Int32)) &&& 31))) (y3 / (10 : Int32)))
      )
     )
     )
     )
     )
    )
set_option maxHeartbeats 4000000 in
set_option maxRecDepth 100000 in
theorem wl_X7_areWishes_17 {G : gG} {p : Program} {l : Launch} {e : Env} {s : State} {m : MethodId} {args : Array Value} {below : List Frame} {meth : Method} {c : Code} {A : Nat → Prop} {r : Int32} {k1 : Unit → Option (Int32)} {k2 : Unit → Option (Int32)} {f0 : Nat} {M : Mem} (C0 : cx G p s m args c cX7_areWishes RX7 5 A) (hr : meth.sig.returnType = (some FieldType.boolean)) (hlk : meth.locks = false) (hG : GOK G) (hk1 : ∀ (H : Heap) (locs : List Loc) (ls : Array Slot), mm G A s M H locs → lv_has ls 5 [] → k1 () = some r → W p l e rm_X7_areWishes s m args below meth c H locs 0 0 (MQ below (CQ G M (some (.int r)) A) args s 0 0 A) (F0 m 56 ls [])) (hk2 : ∀ (H : Heap) (locs : List Loc) (ls : Array Slot), mm G A s M H locs → lv_has ls 5 [] → k2 () = some r → W p l e rm_X7_areWishes s m args below meth c H locs 0 0 (MQ below (CQ G M (some (.int r)) A) args s 0 0 A) (F0 m 73 ls [])) : ∀ (n : Nat) (y2 : Int32) (y3 : Int32) (H : Heap) (locs : List Loc) (ls : Array Slot), mm G A s M H locs → lv_has ls 5 [(0, .ref f0), (2, .int y2), (3, .int y3)] → pl_X7_areWishes_17 k1 k2 f0 M n y2 y3 = some r → W p l e rm_X7_areWishes s m args below meth c H locs 0 0 (MQ below (CQ G M (some (.int r)) A) args s 0 0 A) (F0 m 17 ls []) := by
  have hx := C0.1
  have hb := C0.2.1
  have hown := C0.2.2.2.1
  have hts := C0.2.2.2.2.1
  intro n
  induction n with
  | zero => intro y2 y3 H locs ls hM hl hp; rw [pl_X7_areWishes_17] at hp; cases hp
  | succ n ih =>
    intro y2 y3 H locs ls hM hl hp
    rw [pl_X7_areWishes_17] at hp
    refine lv_iload_n hx hb dX7_areWishes_17 rfl (lv_at hl 2 rfl) ?_
    refine lv_if_le (tgt := 73) hx hb dX7_areWishes_18 (by decide) (fun c4 => ?_) (fun c4 => ?_)
    · replace hp := oT c4 hp
      exact hk2  _ _ _ hM (lv_sub hl [] rfl) hp
    · replace hp := oF c4 hp
      refine lv_iload_n hx hb dX7_areWishes_21 rfl (lv_at hl 2 rfl) ?_
      refine lv_bipush (v := 10) hx hb dX7_areWishes_22 (by decide) ?_
      refine lv_irem hx hb dX7_areWishes_24 (by decide) ?_
      refine lv_iconst (v := 1) hx hb dX7_areWishes_25 (by decide) ?_
      refine lv_isub hx hb dX7_areWishes_26 ?_
      refine lv_istore (lv' := [(4, .int ((y3 - y3 / (10 : Int32) * (10 : Int32)) - (1 : Int32))), (0, .ref f0), (2, .int y2), (3, .int y3)]) hx hb dX7_areWishes_27 hl (by decide) rfl (fun ls hl => ?_)
      refine lv_iload hx hb dX7_areWishes_29 (lv_at hl 0 rfl) ?_
      refine lv_iconst (v := 0) hx hb dX7_areWishes_31 (by decide) ?_
      refine lv_aload_n hx hb dX7_areWishes_32 rfl (lv_at hl 1 rfl) ?_
      obtain ⟨v5, hv5, hp⟩ := ob hp
      refine mr_getR C0 cbX7 hM 0 (by decide) tw_1224 hv5 dX7_areWishes_33 ?_
      refine lv_iconst (v := 0) hx hb dX7_areWishes_36 (by decide) ?_
      obtain ⟨v6, hv6, hp⟩ := ob hp
      refine mr_iald C0 hM hv6 dX7_areWishes_37 ?_
      refine lv_iconst (v := 1) hx hb dX7_areWishes_38 (by decide) ?_
      refine lv_isub hx hb dX7_areWishes_39 ?_
      obtain ⟨v7, hv7, hp⟩ := ob hp
      refine mr_S1 (As := [.int ((y3 - y3 / (10 : Int32) * (10 : Int32)) - (1 : Int32)), .int (0 : Int32), .int (v6 - (1 : Int32))]) (rest := []) C0 hM (w_X7_inRange hG hv7) tw_1325 tw_1326 tw_7 tw_1327 yk_X7_inRange (by decide) rfl hl.1 (Nat.le_of_ble_eq_true rfl) dX7_areWishes_40 rfl (fun H locs hM => ?_)
      refine lv_if_eq (tgt := 56) hx hb dX7_areWishes_43 (by decide) (fun c8 => ?_) (fun c8 => ?_)
      · replace hp := oT c8 hp
        exact hk1  _ _ _ hM (lv_sub hl [] rfl) hp
      · replace hp := oF c8 hp
        refine lv_iload_n hx hb dX7_areWishes_46 rfl (lv_at hl 2 rfl) ?_
        refine lv_iload hx hb dX7_areWishes_47 (lv_at hl 0 rfl) ?_
        refine lv_ishr hx hb dX7_areWishes_49 ?_
        refine lv_iconst (v := 1) hx hb dX7_areWishes_50 (by decide) ?_
        refine lv_iand hx hb dX7_areWishes_51 ?_
        refine lv_iconst (v := 1) hx hb dX7_areWishes_52 (by decide) ?_
        refine lv_icmp_ne (tgt := 58) hx hb dX7_areWishes_53 (by decide) (fun c9 => ?_) (fun c9 => ?_)
        · replace hp := oF c9 hp
          refine lv_iload_n hx hb dX7_areWishes_58 rfl (lv_at hl 2 rfl) ?_
          refine lv_iconst (v := 1) hx hb dX7_areWishes_59 (by decide) ?_
          refine lv_iload hx hb dX7_areWishes_60 (lv_at hl 0 rfl) ?_
          refine lv_ishl hx hb dX7_areWishes_62 ?_
          refine lv_ior hx hb dX7_areWishes_63 ?_
          refine lv_istore_n (lv' := [(2, .int (y2 ||| ((1 : Int32) <<< (((y3 - y3 / (10 : Int32) * (10 : Int32)) - (1 : Int32)) &&& 31)))), (4, .int ((y3 - y3 / (10 : Int32) * (10 : Int32)) - (1 : Int32))), (0, .ref f0), (3, .int y3)]) hx hb dX7_areWishes_64 rfl hl (by decide) rfl (fun ls hl => ?_)
          refine lv_iload_n hx hb dX7_areWishes_65 rfl (lv_at hl 3 rfl) ?_
          refine lv_bipush (v := 10) hx hb dX7_areWishes_66 (by decide) ?_
          refine lv_idiv hx hb dX7_areWishes_68 (by decide) ?_
          refine lv_istore_n (lv' := [(3, .int (y3 / (10 : Int32))), (2, .int (y2 ||| ((1 : Int32) <<< (((y3 - y3 / (10 : Int32) * (10 : Int32)) - (1 : Int32)) &&& 31)))), (4, .int ((y3 - y3 / (10 : Int32) * (10 : Int32)) - (1 : Int32))), (0, .ref f0)]) hx hb dX7_areWishes_69 rfl hl (by decide) rfl (fun ls hl => ?_)
          refine lv_goto (tgt := 17) hx hb dX7_areWishes_70 (by decide) ?_
          exact ih _ _ _ _ _ hM (lv_sub hl [3, 1, 0] rfl) hp
        · replace hp := oT c9 hp
          exact hk1  _ _ _ hM (lv_sub hl [] rfl) hp
def p_X7_areWishes (a0 : Nat) (a1 : Int32) (M : Mem) : Option (Int32) :=
  (Option.bind (p_X7_inRange a1 (1 : Int32) (9999 : Int32) M) fun v1 =>
  (if v1 = 0 then
   some (0 : Int32)
  else
   (jn (fun (_ : Unit) =>
    some (0 : Int32)
   ) fun k3 =>
   (pl_X7_areWishes_17
    (fun (_ : Unit) =>
     (k3 ())
    )
    (fun (_ : Unit) =>
     some (1 : Int32)
    )
    a0 M FU (0 : Int32) a1)
   )
  )
  )
theorem yk_X7_areWishes : yok yX7_areWishes 1 := by decide +kernel
set_option maxHeartbeats 4000000 in
set_option maxRecDepth 100000 in
theorem w_X7_areWishes {G : gG} (hG : GOK G) {l : Launch} {a0 : Nat} {a1 : Int32} {M : Mem} {r : Int32} (hp : p_X7_areWishes a0 a1 M = some r) : CT G l yX7_areWishes (wT yX7_areWishes cX7_areWishes 5 (some FieldType.boolean)) rm_X7_areWishes [.ref a0, .int a1] M (some (.int r)) M 0 0 := by
  refine CT_of (own := RX7) (maxL := 5) (ret := (some FieldType.boolean)) hG (by decide) rfl (Nat.le_of_ble_eq_true rfl) (fun p e s m below meth c A C0 hr hlk hM ls hl => ?_)
  have hl : lv_has ls 5 [(0, .ref a0), (1, .int a1)] := hl
  generalize ([.ref a0, .int a1] : List Value).toArray = args at C0 ⊢
  skip
  have hx := C0.1
  have hb := C0.2.1
  have hown := C0.2.2.2.1
  have hts := C0.2.2.2.2.1
  unfold p_X7_areWishes at hp
  refine lv_iload_n hx hb dX7_areWishes_0 rfl (lv_at hl 1 rfl) ?_
  refine lv_iconst (v := 1) hx hb dX7_areWishes_1 (by decide) ?_
  refine lv_sipush (v := 9999) hx hb dX7_areWishes_2 (by decide) ?_
  obtain ⟨v1, hv1, hp⟩ := ob hp
  refine mr_S1 (As := [.int a1, .int (1 : Int32), .int (9999 : Int32)]) (rest := []) C0 hM (w_X7_inRange hG hv1) tw_1325 tw_1326 tw_7 tw_1327 yk_X7_inRange (by decide) rfl hl.1 (Nat.le_of_ble_eq_true rfl) dX7_areWishes_5 rfl (fun H locs hM => ?_)
  refine lv_if_ne (tgt := 13) hx hb dX7_areWishes_8 (by decide) (fun c2 => ?_) (fun c2 => ?_)
  · replace hp := oF c2 hp
    refine lv_iconst (v := 0) hx hb dX7_areWishes_13 (by decide) ?_
    refine lv_istore_n (lv' := [(2, .int (0 : Int32)), (0, .ref a0), (1, .int a1)]) hx hb dX7_areWishes_14 rfl hl (by decide) rfl (fun ls hl => ?_)
    refine lv_iload_n hx hb dX7_areWishes_15 rfl (lv_at hl 2 rfl) ?_
    refine lv_istore_n (lv' := [(3, .int a1), (2, .int (0 : Int32)), (0, .ref a0), (1, .int a1)]) hx hb dX7_areWishes_16 rfl hl (by decide) rfl (fun ls hl => ?_)
    obtain ⟨k3, ek3, hp⟩ := ojn hp
    have hk3 : ∀ (H : Heap) (locs : List Loc) (ls : Array Slot), mm G A s M H locs → lv_has ls 5 [] → k3 () = some r → W p l e rm_X7_areWishes s m args below meth c H locs 0 0 (MQ below (CQ G M (some (.int r)) A) args s 0 0 A) (F0 m 56 ls []) := by
      intro  H locs ls hM hl hp
      rw [ek3] at hp
      refine lv_iconst (v := 0) hx hb dX7_areWishes_56 (by decide) ?_
      exact mr_zret C0 hr hlk hM rfl (Or.inl rfl) (Option.some.inj hp) (Nat.le_refl _) (Nat.le_refl _) dX7_areWishes_57
    refine wl_X7_areWishes_17 C0 hr hlk hG (fun  H locs ls hM hl hp => ?_) (fun  H locs ls hM hl hp => ?_) FU _ _ _ _ _ hM (lv_sub hl [2, 1, 0] rfl) hp
    · exact hk3  _ _ _ hM (lv_sub hl [] rfl) hp
    · refine lv_iconst (v := 1) hx hb dX7_areWishes_73 (by decide) ?_
      exact mr_zret C0 hr hlk hM rfl (Or.inr rfl) (Option.some.inj hp) (Nat.le_refl _) (Nat.le_refl _) dX7_areWishes_74
  · replace hp := oT c2 hp
    refine lv_iconst (v := 0) hx hb dX7_areWishes_11 (by decide) ?_
    exact mr_zret C0 hr hlk hM rfl (Or.inl rfl) (Option.some.inj hp) (Nat.le_refl _) (Nat.le_refl _) dX7_areWishes_12
abbrev rm_X7_addChild : Room := { frames := 8, cells := 0, slots := 0, locals := 186 }
def pl_X7_addChild_216 (k1 : Int32 → Option (Int32 × Mem)) (f0 : Nat) (f5 : Int32) (f7 : Int32) (M : Mem) : Nat → Int32 → Option (Int32 × Mem)
  | 0, _ => none
  | n + 1, y8 =>
    (if ¬ y8 = 0 then
    (if (f5 / y8) ≤ (9 : Int32) then
     (k1 y8)
    else
     (pl_X7_addChild_216 k1 f0 f5 f7 M n (y8 * (10 : Int32)))
    )
    else none)
set_option maxHeartbeats 4000000 in
set_option maxRecDepth 100000 in
theorem wl_X7_addChild_216 {G : gG} {p : Program} {l : Launch} {e : Env} {s : State} {m : MethodId} {args : Array Value} {below : List Frame} {meth : Method} {c : Code} {A : Nat → Prop} {r : Int32} {M' : Mem} {k1 : Int32 → Option (Int32 × Mem)} {f0 : Nat} {f5 : Int32} {f7 : Int32} {M : Mem} (C0 : cx G p s m args c cX7_addChild RX7 9 A) (hr : meth.sig.returnType = (some FieldType.int)) (hlk : meth.locks = false) (hG : GOK G) (hk1 : ∀ (z8 : Int32) (H : Heap) (locs : List Loc) (ls : Array Slot), mm G A s M H locs → lv_has ls 9 [(0, .ref f0), (5, .int f5), (7, .int f7), (8, .int z8)] → k1 z8 = some (r, M') → W p l e rm_X7_addChild s m args below meth c H locs 0 0 (MQ below (CQ G M' (some (.int r)) A) args s 0 0 A) (F0 m 236 ls [])) : ∀ (n : Nat) (y8 : Int32) (H : Heap) (locs : List Loc) (ls : Array Slot), mm G A s M H locs → lv_has ls 9 [(0, .ref f0), (5, .int f5), (7, .int f7), (8, .int y8)] → pl_X7_addChild_216 k1 f0 f5 f7 M n y8 = some (r, M') → W p l e rm_X7_addChild s m args below meth c H locs 0 0 (MQ below (CQ G M' (some (.int r)) A) args s 0 0 A) (F0 m 216 ls []) := by
  have hx := C0.1
  have hb := C0.2.1
  have hown := C0.2.2.2.1
  have hts := C0.2.2.2.2.1
  intro n
  induction n with
  | zero => intro y8 H locs ls hM hl hp; rw [pl_X7_addChild_216] at hp; cases hp
  | succ n ih =>
    intro y8 H locs ls hM hl hp
    rw [pl_X7_addChild_216] at hp
    refine lv_iload hx hb dX7_addChild_216 (lv_at hl 1 rfl) ?_
    refine lv_iload hx hb dX7_addChild_218 (lv_at hl 3 rfl) ?_
    obtain ⟨hne, hp⟩ := oG hp
    refine lv_idiv hx hb dX7_addChild_220 hne ?_
    refine lv_bipush (v := 9) hx hb dX7_addChild_221 (by decide) ?_
    refine lv_icmp_le (tgt := 236) hx hb dX7_addChild_223 (by decide) (fun c43 => ?_) (fun c43 => ?_)
    · replace hp := oT c43 hp
      exact hk1 _ _ _ _ hM (lv_sub hl [0, 1, 2, 3] rfl) hp
    · replace hp := oF c43 hp
      refine lv_iload hx hb dX7_addChild_226 (lv_at hl 3 rfl) ?_
      refine lv_bipush (v := 10) hx hb dX7_addChild_228 (by decide) ?_
      refine lv_imul hx hb dX7_addChild_230 ?_
      refine lv_istore (lv' := [(8, .int (y8 * (10 : Int32))), (0, .ref f0), (5, .int f5), (7, .int f7)]) hx hb dX7_addChild_231 hl (by decide) rfl (fun ls hl => ?_)
      refine lv_goto (tgt := 216) hx hb dX7_addChild_233 (by decide) ?_
      exact ih _ _ _ _ hM (lv_sub hl [1, 2, 3, 0] rfl) hp
def pl_X7_addChild_248 (k1 : Mem → Option (Int32 × Mem)) (f0 : Nat) (f5 : Int32) (f7 : Int32) : Nat → Int32 → Mem → Option (Int32 × Mem)
  | 0, _, _ => none
  | n + 1, y8, M =>
    (if y8 ≤ 0 then
     (k1  M)
    else
     (Option.bind (gR 6 0 M f0) fun v48 =>
     (Option.bind (gR 6 0 M f0) fun v49 =>
     (Option.bind (aI 0 M v49 ((324 : Int32) + f7)) fun v50 =>
     (if ¬ y8 = 0 then
     (Option.bind (aIs M v48 (((564 : Int32) + ((4 : Int32) * f7)) + v50) (((f5 / y8) - (f5 / y8) / (10 : Int32) * (10 : Int32)) - (1 : Int32))) fun M51 =>
     (Option.bind (gR 6 0 M51 f0) fun v52 =>
     (Option.bind (aI 0 M51 v52 ((324 : Int32) + f7)) fun v53 =>
     (Option.bind (aIs M51 v52 ((324 : Int32) + f7) (v53 + (1 : Int32))) fun M54 =>
     (pl_X7_addChild_248 k1 f0 f5 f7 n (y8 / (10 : Int32)) M54)
     )
     )
     )
     )
     else none)
     )
     )
     )
    )
set_option maxHeartbeats 4000000 in
set_option maxRecDepth 100000 in
theorem wl_X7_addChild_248 {G : gG} {p : Program} {l : Launch} {e : Env} {s : State} {m : MethodId} {args : Array Value} {below : List Frame} {meth : Method} {c : Code} {A : Nat → Prop} {r : Int32} {M' : Mem} {k1 : Mem → Option (Int32 × Mem)} {f0 : Nat} {f5 : Int32} {f7 : Int32} (C0 : cx G p s m args c cX7_addChild RX7 9 A) (hr : meth.sig.returnType = (some FieldType.int)) (hlk : meth.locks = false) (hG : GOK G) (hk1 : ∀ (M : Mem) (H : Heap) (locs : List Loc) (ls : Array Slot), mm G A s M H locs → lv_has ls 9 [(0, .ref f0), (7, .int f7)] → k1 M = some (r, M') → W p l e rm_X7_addChild s m args below meth c H locs 0 0 (MQ below (CQ G M' (some (.int r)) A) args s 0 0 A) (F0 m 313 ls [])) : ∀ (n : Nat) (y8 : Int32) (M : Mem) (H : Heap) (locs : List Loc) (ls : Array Slot), mm G A s M H locs → lv_has ls 9 [(0, .ref f0), (5, .int f5), (7, .int f7), (8, .int y8)] → pl_X7_addChild_248 k1 f0 f5 f7 n y8 M = some (r, M') → W p l e rm_X7_addChild s m args below meth c H locs 0 0 (MQ below (CQ G M' (some (.int r)) A) args s 0 0 A) (F0 m 248 ls []) := by
  have hx := C0.1
  have hb := C0.2.1
  have hown := C0.2.2.2.1
  have hts := C0.2.2.2.2.1
  intro n
  induction n with
  | zero => intro y8 M H locs ls hM hl hp; rw [pl_X7_addChild_248] at hp; cases hp
  | succ n ih =>
    intro y8 M H locs ls hM hl hp
    rw [pl_X7_addChild_248] at hp
    refine lv_iload hx hb dX7_addChild_248 (lv_at hl 3 rfl) ?_
    refine lv_if_le (tgt := 313) hx hb dX7_addChild_250 (by decide) (fun c47 => ?_) (fun c47 => ?_)
    · replace hp := oT c47 hp
      exact hk1  _ _ _ _ hM (lv_sub hl [0, 2] rfl) hp
    · replace hp := oF c47 hp
      refine lv_aload_n hx hb dX7_addChild_253 rfl (lv_at hl 0 rfl) ?_
      obtain ⟨v48, hv48, hp⟩ := ob hp
      refine mr_getR C0 cbX7 hM 0 (by decide) tw_1224 hv48 dX7_addChild_254 ?_
      refine lv_sipush (v := 564) hx hb dX7_addChild_257 (by decide) ?_
      refine lv_iconst (v := 4) hx hb dX7_addChild_260 (by decide) ?_
      refine lv_iload hx hb dX7_addChild_261 (lv_at hl 2 rfl) ?_
      refine lv_imul hx hb dX7_addChild_263 ?_
      refine lv_iadd hx hb dX7_addChild_264 ?_
      refine lv_aload_n hx hb dX7_addChild_265 rfl (lv_at hl 0 rfl) ?_
      obtain ⟨v49, hv49, hp⟩ := ob hp
      refine mr_getR C0 cbX7 hM 0 (by decide) tw_1224 hv49 dX7_addChild_266 ?_
      refine lv_sipush (v := 324) hx hb dX7_addChild_269 (by decide) ?_
      refine lv_iload hx hb dX7_addChild_272 (lv_at hl 2 rfl) ?_
      refine lv_iadd hx hb dX7_addChild_274 ?_
      obtain ⟨v50, hv50, hp⟩ := ob hp
      refine mr_iald C0 hM hv50 dX7_addChild_275 ?_
      refine lv_iadd hx hb dX7_addChild_276 ?_
      refine lv_iload hx hb dX7_addChild_277 (lv_at hl 1 rfl) ?_
      refine lv_iload hx hb dX7_addChild_279 (lv_at hl 3 rfl) ?_
      obtain ⟨hne, hp⟩ := oG hp
      refine lv_idiv hx hb dX7_addChild_281 hne ?_
      refine lv_bipush (v := 10) hx hb dX7_addChild_282 (by decide) ?_
      refine lv_irem hx hb dX7_addChild_284 (by decide) ?_
      refine lv_iconst (v := 1) hx hb dX7_addChild_285 (by decide) ?_
      refine lv_isub hx hb dX7_addChild_286 ?_
      obtain ⟨M51, hM51, hp⟩ := ob hp
      refine mr_iast C0 hM hM51 dX7_addChild_287 (fun H locs hM => ?_)
      refine lv_aload_n hx hb dX7_addChild_288 rfl (lv_at hl 0 rfl) ?_
      obtain ⟨v52, hv52, hp⟩ := ob hp
      refine mr_getR C0 cbX7 hM 0 (by decide) tw_1224 hv52 dX7_addChild_289 ?_
      refine lv_sipush (v := 324) hx hb dX7_addChild_292 (by decide) ?_
      refine lv_iload hx hb dX7_addChild_295 (lv_at hl 2 rfl) ?_
      refine lv_iadd hx hb dX7_addChild_297 ?_
      refine lv_dup2_11 hx hb dX7_addChild_298 rfl rfl ?_
      obtain ⟨v53, hv53, hp⟩ := ob hp
      refine mr_iald C0 hM hv53 dX7_addChild_299 ?_
      refine lv_iconst (v := 1) hx hb dX7_addChild_300 (by decide) ?_
      refine lv_iadd hx hb dX7_addChild_301 ?_
      obtain ⟨M54, hM54, hp⟩ := ob hp
      refine mr_iast C0 hM hM54 dX7_addChild_302 (fun H locs hM => ?_)
      refine lv_iload hx hb dX7_addChild_303 (lv_at hl 3 rfl) ?_
      refine lv_bipush (v := 10) hx hb dX7_addChild_305 (by decide) ?_
      refine lv_idiv hx hb dX7_addChild_307 (by decide) ?_
      refine lv_istore (lv' := [(8, .int (y8 / (10 : Int32))), (0, .ref f0), (5, .int f5), (7, .int f7)]) hx hb dX7_addChild_308 hl (by decide) rfl (fun ls hl => ?_)
      refine lv_goto (tgt := 248) hx hb dX7_addChild_310 (by decide) ?_
      exact ih _ _ _ _ _ hM (lv_sub hl [1, 2, 3, 0] rfl) hp
def p_X7_addChild (a0 : Nat) (a1 : Int32) (a2 : Int32) (a3 : Int32) (a4 : Int32) (a5 : Int32) (M : Mem) : Option (Int32 × Mem) :=
  (Option.bind (sV 6 9 M a0 (.int (0 : Int32))) fun M1 =>
  (Option.bind (p_X7_inRange a1 (0 : Int32) (99 : Int32) M1) fun v2 =>
  (jn (fun (s3 : Int32) =>
   (jn (fun (s5 : Int32) =>
    (Option.bind (isC 6 M1 a0) fun _ =>
    (ob2 (p_X7_fails a0 s5 (1 : Int32) M1) fun v8 M9 =>
    (if v8 = 0 then
     (Option.bind (gR 6 0 M9 a0) fun v11 =>
     (Option.bind (aI 0 M9 v11 (1 : Int32)) fun v12 =>
     (jn (fun (s13 : Int32) =>
      (Option.bind (isC 6 M9 a0) fun _ =>
      (ob2 (p_X7_fails a0 s13 (2 : Int32) M9) fun v16 M17 =>
      (if v16 = 0 then
       (Option.bind (isC 6 M17 a0) fun _ =>
       (Option.bind (p_X7_remembers a0 M17) fun M20 =>
       (Option.bind (gR 6 0 M20 a0) fun v21 =>
       (Option.bind (aI 0 M20 v21 (1 : Int32)) fun v22 =>
       (Option.bind (gR 6 0 M20 a0) fun v23 =>
       (Option.bind (aIs M20 v23 ((124 : Int32) + v22) a1) fun M24 =>
       (Option.bind (gR 6 0 M24 a0) fun v25 =>
       (Option.bind (aIs M24 v25 ((164 : Int32) + v22) a2) fun M26 =>
       (Option.bind (gR 6 0 M26 a0) fun v27 =>
       (Option.bind (aIs M26 v27 ((204 : Int32) + v22) a3) fun M28 =>
       (Option.bind (gR 6 0 M28 a0) fun v29 =>
       (jn (fun (s30 : Int32) =>
        (Option.bind (aIs M28 v29 ((244 : Int32) + v22) s30) fun M32 =>
        (Option.bind (gR 6 0 M32 a0) fun v33 =>
        (Option.bind (gR 6 0 M32 a0) fun v34 =>
        (Option.bind (aI 0 M32 v34 (8 : Int32)) fun v35 =>
        (Option.bind (aIs M32 v33 ((364 : Int32) + v22) v35) fun M36 =>
        (Option.bind (gR 6 0 M36 a0) fun v37 =>
        (Option.bind (aIs M36 v37 ((404 : Int32) + v22) (0 : Int32)) fun M38 =>
        (Option.bind (gR 6 0 M38 a0) fun v39 =>
        (Option.bind (aIs M38 v39 ((524 : Int32) + v22) (0 : Int32)) fun M40 =>
        (Option.bind (isC 6 M40 a0) fun _ =>
        (Option.bind (p_X7_puts a0 v22 (-1 : Int32) (0 : Int32) M40) fun M42 =>
        (pl_X7_addChild_216
         (fun (z44 : Int32) =>
          (Option.bind (gR 6 0 M42 a0) fun v45 =>
          (Option.bind (aIs M42 v45 ((324 : Int32) + v22) (0 : Int32)) fun M46 =>
          (pl_X7_addChild_248
           (fun  (M55 : Mem) =>
            (Option.bind (isC 6 M55 a0) fun _ =>
            (Option.bind (p_X7_draws a0 v22 M55) fun M57 =>
            (Option.bind (gR 6 0 M57 a0) fun v58 =>
            (Option.bind (aI 0 M57 v58 (1 : Int32)) fun v59 =>
            (Option.bind (aIs M57 v58 (1 : Int32) (v59 + (1 : Int32))) fun M60 =>
            (Option.bind (isC 6 M60 a0) fun _ =>
            (Option.bind (p_X7_fills a0 M60) fun M62 =>
            some (v22, M62)
            )
            )
            )
            )
            )
            )
            )
           )
           a0 a5 v22 FU z44 M46)
          )
          )
         )
         a0 a5 v22 M42 FU (1 : Int32))
        )
        )
        )
        )
        )
        )
        )
        )
        )
        )
        )
       ) fun k31 =>
       (if a4 = 0 then
        (k31 (0 : Int32))
       else
        (k31 (1 : Int32))
       )
       )
       )
       )
       )
       )
       )
       )
       )
       )
       )
       )
       )
      else
       some ((0 : Int32), M17)
      )
      )
      )
     ) fun k14 =>
     (if v12 = (40 : Int32) then
      (k14 (1 : Int32))
     else
      (k14 (0 : Int32))
     )
     )
     )
     )
    else
     some ((0 : Int32), M9)
    )
    )
    )
   ) fun k6 =>
   (if s3 = 0 then
    (k6 (1 : Int32))
   else
    (k6 (0 : Int32))
   )
   )
  ) fun k4 =>
  (if v2 = 0 then
   (k4 (0 : Int32))
  else
   (Option.bind (p_X7_inRange a2 (0 : Int32) (99 : Int32) M1) fun v67 =>
   (if v67 = 0 then
    (k4 (0 : Int32))
   else
    (Option.bind (p_X7_inRange a3 (0 : Int32) (99 : Int32) M1) fun v69 =>
    (if v69 = 0 then
     (k4 (0 : Int32))
    else
     (Option.bind (isC 6 M1 a0) fun _ =>
     (Option.bind (p_X7_areWishes a0 a5 M1) fun v72 =>
     (if v72 = 0 then
      (k4 (0 : Int32))
     else
      (k4 (1 : Int32))
     )
     )
     )
    )
    )
   )
   )
  )
  )
  )
  )
theorem yk_X7_addChild : yok yX7_addChild 5 := by decide +kernel
set_option maxHeartbeats 4000000 in
set_option maxRecDepth 100000 in
theorem w_X7_addChild {G : gG} (hG : GOK G) {l : Launch} {a0 : Nat} {a1 : Int32} {a2 : Int32} {a3 : Int32} {a4 : Int32} {a5 : Int32} {M : Mem} {r : Int32} {M' : Mem} (hp : p_X7_addChild a0 a1 a2 a3 a4 a5 M = some (r, M')) : CT G l yX7_addChild (wT yX7_addChild cX7_addChild 9 (some FieldType.int)) rm_X7_addChild [.ref a0, .int a1, .int a2, .int a3, .int a4, .int a5] M (some (.int r)) M' 0 0 := by
  refine CT_of (own := RX7) (maxL := 9) (ret := (some FieldType.int)) hG (by decide) rfl (Nat.le_of_ble_eq_true rfl) (fun p e s m below meth c A C0 hr hlk hM ls hl => ?_)
  have hl : lv_has ls 9 [(0, .ref a0), (1, .int a1), (2, .int a2), (3, .int a3), (4, .int a4), (5, .int a5)] := hl
  generalize ([.ref a0, .int a1, .int a2, .int a3, .int a4, .int a5] : List Value).toArray = args at C0 ⊢
  skip
  have hx := C0.1
  have hb := C0.2.1
  have hown := C0.2.2.2.1
  have hts := C0.2.2.2.2.1
  unfold p_X7_addChild at hp
  refine lv_aload_n hx hb dX7_addChild_0 rfl (lv_at hl 0 rfl) ?_
  refine lv_iconst (v := 0) hx hb dX7_addChild_1 (by decide) ?_
  obtain ⟨M1, hM1, hp⟩ := ob hp
  refine mr_putI C0 cbX7 hM 9 (by decide) rfl rfl tw_1233 hM1 dX7_addChild_2 (fun H locs hM => ?_)
  refine lv_iload_n hx hb dX7_addChild_5 rfl (lv_at hl 1 rfl) ?_
  refine lv_iconst (v := 0) hx hb dX7_addChild_6 (by decide) ?_
  refine lv_bipush (v := 99) hx hb dX7_addChild_7 (by decide) ?_
  obtain ⟨v2, hv2, hp⟩ := ob hp
  refine mr_S1 (As := [.int a1, .int (0 : Int32), .int (99 : Int32)]) (rest := []) C0 hM (w_X7_inRange hG hv2) tw_1325 tw_1326 tw_7 tw_1327 yk_X7_inRange (by decide) rfl hl.1 (Nat.le_of_ble_eq_true rfl) dX7_addChild_9 rfl (fun H locs hM => ?_)
  obtain ⟨k4, ek4, hp⟩ := ojn hp
  have hk4 : ∀ (s3 : Int32) (H : Heap) (locs : List Loc) (ls : Array Slot), mm G A s M1 H locs → lv_has ls 9 [(0, .ref a0), (1, .int a1), (2, .int a2), (3, .int a3), (4, .int a4), (5, .int a5)] → k4 s3 = some (r, M') → W p l e rm_X7_addChild s m args below meth c H locs 0 0 (MQ below (CQ G M' (some (.int r)) A) args s 0 0 A) (F0 m 49 ls [.int s3]) := by
    intro s3 H locs ls hM hl hp
    rw [ek4] at hp
    refine lv_istore (lv' := [(6, .int s3), (0, .ref a0), (1, .int a1), (2, .int a2), (3, .int a3), (4, .int a4), (5, .int a5)]) hx hb dX7_addChild_49 hl (by decide) rfl (fun ls hl => ?_)
    refine lv_aload_n hx hb dX7_addChild_51 rfl (lv_at hl 1 rfl) ?_
    refine lv_iload hx hb dX7_addChild_52 (lv_at hl 0 rfl) ?_
    obtain ⟨k6, ek6, hp⟩ := ojn hp
    have hk6 : ∀ (s5 : Int32) (H : Heap) (locs : List Loc) (ls : Array Slot), mm G A s M1 H locs → lv_has ls 9 [(0, .ref a0), (1, .int a1), (2, .int a2), (3, .int a3), (4, .int a4), (5, .int a5)] → k6 s5 = some (r, M') → W p l e rm_X7_addChild s m args below meth c H locs 0 0 (MQ below (CQ G M' (some (.int r)) A) args s 0 0 A) (F0 m 62 ls [.int s5, .ref a0]) := by
      intro s5 H locs ls hM hl hp
      rw [ek6] at hp
      refine lv_iconst (v := 1) hx hb dX7_addChild_62 (by decide) ?_
      obtain ⟨_, h7, hp⟩ := ob hp
      obtain ⟨v8, M9, hv8, hp⟩ := ob3 hp
      refine mr_V1 (As := [.int s5, .int (1 : Int32)]) (rest := []) C0 cbX7 hM h7 rfl (w_X7_fails hG hv8) tw_1459 tw_1461 tws_32 tw_7 tw_1462 yk_X7_fails (by decide) rfl hl.1 (Nat.le_of_ble_eq_true rfl) dX7_addChild_63 rfl (fun H locs hM => ?_)
      refine lv_if_ne (tgt := 93) hx hb dX7_addChild_66 (by decide) (fun c10 => ?_) (fun c10 => ?_)
      · replace hp := oF c10 hp
        refine lv_iconst (v := 0) hx hb dX7_addChild_93 (by decide) ?_
        exact mr_iret C0 hr hlk hM (Prod.mk.inj (Option.some.inj hp)).2 (Prod.mk.inj (Option.some.inj hp)).1 (Nat.le_refl _) (Nat.le_refl _) dX7_addChild_94
      · replace hp := oT c10 hp
        refine lv_aload_n hx hb dX7_addChild_69 rfl (lv_at hl 0 rfl) ?_
        refine lv_aload_n hx hb dX7_addChild_70 rfl (lv_at hl 0 rfl) ?_
        obtain ⟨v11, hv11, hp⟩ := ob hp
        refine mr_getR C0 cbX7 hM 0 (by decide) tw_1224 hv11 dX7_addChild_71 ?_
        refine lv_iconst (v := 1) hx hb dX7_addChild_74 (by decide) ?_
        obtain ⟨v12, hv12, hp⟩ := ob hp
        refine mr_iald C0 hM hv12 dX7_addChild_75 ?_
        refine lv_bipush (v := 40) hx hb dX7_addChild_76 (by decide) ?_
        obtain ⟨k14, ek14, hp⟩ := ojn hp
        have hk14 : ∀ (s13 : Int32) (H : Heap) (locs : List Loc) (ls : Array Slot), mm G A s M9 H locs → lv_has ls 9 [(0, .ref a0), (1, .int a1), (2, .int a2), (3, .int a3), (4, .int a4), (5, .int a5)] → k14 s13 = some (r, M') → W p l e rm_X7_addChild s m args below meth c H locs 0 0 (MQ below (CQ G M' (some (.int r)) A) args s 0 0 A) (F0 m 86 ls [.int s13, .ref a0]) := by
          intro s13 H locs ls hM hl hp
          rw [ek14] at hp
          refine lv_iconst (v := 2) hx hb dX7_addChild_86 (by decide) ?_
          obtain ⟨_, h15, hp⟩ := ob hp
          obtain ⟨v16, M17, hv16, hp⟩ := ob3 hp
          refine mr_V1 (As := [.int s13, .int (2 : Int32)]) (rest := []) C0 cbX7 hM h15 rfl (w_X7_fails hG hv16) tw_1459 tw_1461 tws_32 tw_7 tw_1462 yk_X7_fails (by decide) rfl hl.1 (Nat.le_of_ble_eq_true rfl) dX7_addChild_87 rfl (fun H locs hM => ?_)
          refine lv_if_eq (tgt := 95) hx hb dX7_addChild_90 (by decide) (fun c18 => ?_) (fun c18 => ?_)
          · replace hp := oT c18 hp
            refine lv_aload_n hx hb dX7_addChild_95 rfl (lv_at hl 0 rfl) ?_
            obtain ⟨_, h19, hp⟩ := ob hp
            obtain ⟨M20, hM20, hp⟩ := ob hp
            refine mr_V0 (As := []) (rest := []) C0 cbX7 hM h19 rfl (w_X7_remembers hG hM20) tw_1611 tw_1613 tws_54 tw_7 tw_1614 yk_X7_remembers (by decide) rfl hl.1 (Nat.le_of_ble_eq_true rfl) dX7_addChild_96 rfl (fun H locs hM => ?_)
            refine lv_aload_n hx hb dX7_addChild_99 rfl (lv_at hl 0 rfl) ?_
            obtain ⟨v21, hv21, hp⟩ := ob hp
            refine mr_getR C0 cbX7 hM 0 (by decide) tw_1224 hv21 dX7_addChild_100 ?_
            refine lv_iconst (v := 1) hx hb dX7_addChild_103 (by decide) ?_
            obtain ⟨v22, hv22, hp⟩ := ob hp
            refine mr_iald C0 hM hv22 dX7_addChild_104 ?_
            refine lv_istore (lv' := [(7, .int v22), (0, .ref a0), (1, .int a1), (2, .int a2), (3, .int a3), (4, .int a4), (5, .int a5)]) hx hb dX7_addChild_105 hl (by decide) rfl (fun ls hl => ?_)
            refine lv_aload_n hx hb dX7_addChild_107 rfl (lv_at hl 1 rfl) ?_
            obtain ⟨v23, hv23, hp⟩ := ob hp
            refine mr_getR C0 cbX7 hM 0 (by decide) tw_1224 hv23 dX7_addChild_108 ?_
            refine lv_bipush (v := 124) hx hb dX7_addChild_111 (by decide) ?_
            refine lv_iload hx hb dX7_addChild_113 (lv_at hl 0 rfl) ?_
            refine lv_iadd hx hb dX7_addChild_115 ?_
            refine lv_iload_n hx hb dX7_addChild_116 rfl (lv_at hl 2 rfl) ?_
            obtain ⟨M24, hM24, hp⟩ := ob hp
            refine mr_iast C0 hM hM24 dX7_addChild_117 (fun H locs hM => ?_)
            refine lv_aload_n hx hb dX7_addChild_118 rfl (lv_at hl 1 rfl) ?_
            obtain ⟨v25, hv25, hp⟩ := ob hp
            refine mr_getR C0 cbX7 hM 0 (by decide) tw_1224 hv25 dX7_addChild_119 ?_
            refine lv_sipush (v := 164) hx hb dX7_addChild_122 (by decide) ?_
            refine lv_iload hx hb dX7_addChild_125 (lv_at hl 0 rfl) ?_
            refine lv_iadd hx hb dX7_addChild_127 ?_
            refine lv_iload_n hx hb dX7_addChild_128 rfl (lv_at hl 3 rfl) ?_
            obtain ⟨M26, hM26, hp⟩ := ob hp
            refine mr_iast C0 hM hM26 dX7_addChild_129 (fun H locs hM => ?_)
            refine lv_aload_n hx hb dX7_addChild_130 rfl (lv_at hl 1 rfl) ?_
            obtain ⟨v27, hv27, hp⟩ := ob hp
            refine mr_getR C0 cbX7 hM 0 (by decide) tw_1224 hv27 dX7_addChild_131 ?_
            refine lv_sipush (v := 204) hx hb dX7_addChild_134 (by decide) ?_
            refine lv_iload hx hb dX7_addChild_137 (lv_at hl 0 rfl) ?_
            refine lv_iadd hx hb dX7_addChild_139 ?_
            refine lv_iload_n hx hb dX7_addChild_140 rfl (lv_at hl 4 rfl) ?_
            obtain ⟨M28, hM28, hp⟩ := ob hp
            refine mr_iast C0 hM hM28 dX7_addChild_141 (fun H locs hM => ?_)
            refine lv_aload_n hx hb dX7_addChild_142 rfl (lv_at hl 1 rfl) ?_
            obtain ⟨v29, hv29, hp⟩ := ob hp
            refine mr_getR C0 cbX7 hM 0 (by decide) tw_1224 hv29 dX7_addChild_143 ?_
            refine lv_sipush (v := 244) hx hb dX7_addChild_146 (by decide) ?_
            refine lv_iload hx hb dX7_addChild_149 (lv_at hl 0 rfl) ?_
            refine lv_iadd hx hb dX7_addChild_151 ?_
            refine lv_iload hx hb dX7_addChild_152 (lv_at hl 5 rfl) ?_
            obtain ⟨k31, ek31, hp⟩ := ojn hp
            have hk31 : ∀ (s30 : Int32) (H : Heap) (locs : List Loc) (ls : Array Slot), mm G A s M28 H locs → lv_has ls 9 [(0, .ref a0), (5, .int a5), (7, .int v22)] → k31 s30 = some (r, M') → W p l e rm_X7_addChild s m args below meth c H locs 0 0 (MQ below (CQ G M' (some (.int r)) A) args s 0 0 A) (F0 m 162 ls [.int s30, .int ((244 : Int32) + v22), .ref v29]) := by
              intro s30 H locs ls hM hl hp
              rw [ek31] at hp
              obtain ⟨M32, hM32, hp⟩ := ob hp
              refine mr_iast C0 hM hM32 dX7_addChild_162 (fun H locs hM => ?_)
              refine lv_aload_n hx hb dX7_addChild_163 rfl (lv_at hl 0 rfl) ?_
              obtain ⟨v33, hv33, hp⟩ := ob hp
              refine mr_getR C0 cbX7 hM 0 (by decide) tw_1224 hv33 dX7_addChild_164 ?_
              refine lv_sipush (v := 364) hx hb dX7_addChild_167 (by decide) ?_
              refine lv_iload hx hb dX7_addChild_170 (lv_at hl 2 rfl) ?_
              refine lv_iadd hx hb dX7_addChild_172 ?_
              refine lv_aload_n hx hb dX7_addChild_173 rfl (lv_at hl 0 rfl) ?_
              obtain ⟨v34, hv34, hp⟩ := ob hp
              refine mr_getR C0 cbX7 hM 0 (by decide) tw_1224 hv34 dX7_addChild_174 ?_
              refine lv_bipush (v := 8) hx hb dX7_addChild_177 (by decide) ?_
              obtain ⟨v35, hv35, hp⟩ := ob hp
              refine mr_iald C0 hM hv35 dX7_addChild_179 ?_
              obtain ⟨M36, hM36, hp⟩ := ob hp
              refine mr_iast C0 hM hM36 dX7_addChild_180 (fun H locs hM => ?_)
              refine lv_aload_n hx hb dX7_addChild_181 rfl (lv_at hl 0 rfl) ?_
              obtain ⟨v37, hv37, hp⟩ := ob hp
              refine mr_getR C0 cbX7 hM 0 (by decide) tw_1224 hv37 dX7_addChild_182 ?_
              refine lv_sipush (v := 404) hx hb dX7_addChild_185 (by decide) ?_
              refine lv_iload hx hb dX7_addChild_188 (lv_at hl 2 rfl) ?_
              refine lv_iadd hx hb dX7_addChild_190 ?_
              refine lv_iconst (v := 0) hx hb dX7_addChild_191 (by decide) ?_
              obtain ⟨M38, hM38, hp⟩ := ob hp
              refine mr_iast C0 hM hM38 dX7_addChild_192 (fun H locs hM => ?_)
              refine lv_aload_n hx hb dX7_addChild_193 rfl (lv_at hl 0 rfl) ?_
              obtain ⟨v39, hv39, hp⟩ := ob hp
              refine mr_getR C0 cbX7 hM 0 (by decide) tw_1224 hv39 dX7_addChild_194 ?_
              refine lv_sipush (v := 524) hx hb dX7_addChild_197 (by decide) ?_
              refine lv_iload hx hb dX7_addChild_200 (lv_at hl 2 rfl) ?_
              refine lv_iadd hx hb dX7_addChild_202 ?_
              refine lv_iconst (v := 0) hx hb dX7_addChild_203 (by decide) ?_
              obtain ⟨M40, hM40, hp⟩ := ob hp
              refine mr_iast C0 hM hM40 dX7_addChild_204 (fun H locs hM => ?_)
              refine lv_aload_n hx hb dX7_addChild_205 rfl (lv_at hl 0 rfl) ?_
              refine lv_iload hx hb dX7_addChild_206 (lv_at hl 2 rfl) ?_
              refine lv_iconst (v := -1) hx hb dX7_addChild_208 (by decide) ?_
              refine lv_iconst (v := 0) hx hb dX7_addChild_209 (by decide) ?_
              obtain ⟨_, h41, hp⟩ := ob hp
              obtain ⟨M42, hM42, hp⟩ := ob hp
              refine mr_V0 (As := [.int v22, .int (-1 : Int32), .int (0 : Int32)]) (rest := []) C0 cbX7 hM h41 rfl (w_X7_puts hG hM42) tw_1619 tw_1621 tws_56 tw_7 tw_1622 yk_X7_puts (by decide) rfl hl.1 (Nat.le_of_ble_eq_true rfl) dX7_addChild_210 rfl (fun H locs hM => ?_)
              refine lv_iconst (v := 1) hx hb dX7_addChild_213 (by decide) ?_
              refine lv_istore (lv' := [(8, .int (1 : Int32)), (0, .ref a0), (5, .int a5), (7, .int v22)]) hx hb dX7_addChild_214 hl (by decide) rfl (fun ls hl => ?_)
              refine wl_X7_addChild_216 C0 hr hlk hG (fun z44 H locs ls hM hl hp => ?_) FU _ _ _ _ hM (lv_sub hl [1, 2, 3, 0] rfl) hp
              refine lv_aload_n hx hb dX7_addChild_236 rfl (lv_at hl 0 rfl) ?_
              obtain ⟨v45, hv45, hp⟩ := ob hp
              refine mr_getR C0 cbX7 hM 0 (by decide) tw_1224 hv45 dX7_addChild_237 ?_
              refine lv_sipush (v := 324) hx hb dX7_addChild_240 (by decide) ?_
              refine lv_iload hx hb dX7_addChild_243 (lv_at hl 2 rfl) ?_
              refine lv_iadd hx hb dX7_addChild_245 ?_
              refine lv_iconst (v := 0) hx hb dX7_addChild_246 (by decide) ?_
              obtain ⟨M46, hM46, hp⟩ := ob hp
              refine mr_iast C0 hM hM46 dX7_addChild_247 (fun H locs hM => ?_)
              refine wl_X7_addChild_248 C0 hr hlk hG (fun M55 H locs ls hM hl hp => ?_) FU _ _ _ _ _ hM (lv_sub hl [0, 1, 2, 3] rfl) hp
              refine lv_aload_n hx hb dX7_addChild_313 rfl (lv_at hl 0 rfl) ?_
              refine lv_iload hx hb dX7_addChild_314 (lv_at hl 1 rfl) ?_
              obtain ⟨_, h56, hp⟩ := ob hp
              obtain ⟨M57, hM57, hp⟩ := ob hp
              refine mr_V0 (As := [.int v22]) (rest := []) C0 cbX7 hM h56 rfl (w_X7_draws hG hM57) tw_1432 tw_1434 tws_29 tw_7 tw_1435 yk_X7_draws (by decide) rfl hl.1 (Nat.le_of_ble_eq_true rfl) dX7_addChild_316 rfl (fun H locs hM => ?_)
              refine lv_aload_n hx hb dX7_addChild_319 rfl (lv_at hl 0 rfl) ?_
              obtain ⟨v58, hv58, hp⟩ := ob hp
              refine mr_getR C0 cbX7 hM 0 (by decide) tw_1224 hv58 dX7_addChild_320 ?_
              refine lv_iconst (v := 1) hx hb dX7_addChild_323 (by decide) ?_
              refine lv_dup2_11 hx hb dX7_addChild_324 rfl rfl ?_
              obtain ⟨v59, hv59, hp⟩ := ob hp
              refine mr_iald C0 hM hv59 dX7_addChild_325 ?_
              refine lv_iconst (v := 1) hx hb dX7_addChild_326 (by decide) ?_
              refine lv_iadd hx hb dX7_addChild_327 ?_
              obtain ⟨M60, hM60, hp⟩ := ob hp
              refine mr_iast C0 hM hM60 dX7_addChild_328 (fun H locs hM => ?_)
              refine lv_aload_n hx hb dX7_addChild_329 rfl (lv_at hl 0 rfl) ?_
              obtain ⟨_, h61, hp⟩ := ob hp
              obtain ⟨M62, hM62, hp⟩ := ob hp
              refine mr_V0 (As := []) (rest := []) C0 cbX7 hM h61 rfl (w_X7_fills hG hM62) tw_1647 tw_1649 tws_61 tw_7 tw_1650 yk_X7_fills (by decide) rfl hl.1 (Nat.le_of_ble_eq_true rfl) dX7_addChild_330 rfl (fun H locs hM => ?_)
              refine lv_iload hx hb dX7_addChild_333 (lv_at hl 1 rfl) ?_
              exact mr_iret C0 hr hlk hM (Prod.mk.inj (Option.some.inj hp)).2 (Prod.mk.inj (Option.some.inj hp)).1 (Nat.le_refl _) (Nat.le_refl _) dX7_addChild_335
            refine lv_if_eq (tgt := 161) hx hb dX7_addChild_154 (by decide) (fun c63 => ?_) (fun c63 => ?_)
            · replace hp := oT c63 hp
              refine lv_iconst (v := 0) hx hb dX7_addChild_161 (by decide) ?_
              exact hk31 _ _ _ _ hM (lv_sub hl [1, 6, 0] rfl) hp
            · replace hp := oF c63 hp
              refine lv_iconst (v := 1) hx hb dX7_addChild_157 (by decide) ?_
              refine lv_goto (tgt := 162) hx hb dX7_addChild_158 (by decide) ?_
              exact hk31 _ _ _ _ hM (lv_sub hl [1, 6, 0] rfl) hp
          · replace hp := oF c18 hp
            refine lv_iconst (v := 0) hx hb dX7_addChild_93 (by decide) ?_
            exact mr_iret C0 hr hlk hM (Prod.mk.inj (Option.some.inj hp)).2 (Prod.mk.inj (Option.some.inj hp)).1 (Nat.le_refl _) (Nat.le_refl _) dX7_addChild_94
        refine lv_icmp_ne (tgt := 85) hx hb dX7_addChild_78 (by decide) (fun c64 => ?_) (fun c64 => ?_)
        · replace hp := oF c64 hp
          refine lv_iconst (v := 0) hx hb dX7_addChild_85 (by decide) ?_
          exact hk14 _ _ _ _ hM (lv_sub hl [0, 1, 2, 3, 4, 5] rfl) hp
        · replace hp := oT c64 hp
          refine lv_iconst (v := 1) hx hb dX7_addChild_81 (by decide) ?_
          refine lv_goto (tgt := 86) hx hb dX7_addChild_82 (by decide) ?_
          exact hk14 _ _ _ _ hM (lv_sub hl [0, 1, 2, 3, 4, 5] rfl) hp
    refine lv_if_ne (tgt := 61) hx hb dX7_addChild_54 (by decide) (fun c65 => ?_) (fun c65 => ?_)
    · replace hp := oF c65 hp
      refine lv_iconst (v := 0) hx hb dX7_addChild_61 (by decide) ?_
      exact hk6 _ _ _ _ hM (lv_sub hl [1, 2, 3, 4, 5, 6] rfl) hp
    · replace hp := oT c65 hp
      refine lv_iconst (v := 1) hx hb dX7_addChild_57 (by decide) ?_
      refine lv_goto (tgt := 62) hx hb dX7_addChild_58 (by decide) ?_
      exact hk6 _ _ _ _ hM (lv_sub hl [1, 2, 3, 4, 5, 6] rfl) hp
  refine lv_if_eq (tgt := 48) hx hb dX7_addChild_12 (by decide) (fun c66 => ?_) (fun c66 => ?_)
  · replace hp := oT c66 hp
    refine lv_iconst (v := 0) hx hb dX7_addChild_48 (by decide) ?_
    exact hk4 _ _ _ _ hM (lv_sub hl [0, 1, 2, 3, 4, 5] rfl) hp
  · replace hp := oF c66 hp
    refine lv_iload_n hx hb dX7_addChild_15 rfl (lv_at hl 2 rfl) ?_
    refine lv_iconst (v := 0) hx hb dX7_addChild_16 (by decide) ?_
    refine lv_bipush (v := 99) hx hb dX7_addChild_17 (by decide) ?_
    obtain ⟨v67, hv67, hp⟩ := ob hp
    refine mr_S1 (As := [.int a2, .int (0 : Int32), .int (99 : Int32)]) (rest := []) C0 hM (w_X7_inRange hG hv67) tw_1325 tw_1326 tw_7 tw_1327 yk_X7_inRange (by decide) rfl hl.1 (Nat.le_of_ble_eq_true rfl) dX7_addChild_19 rfl (fun H locs hM => ?_)
    refine lv_if_eq (tgt := 48) hx hb dX7_addChild_22 (by decide) (fun c68 => ?_) (fun c68 => ?_)
    · replace hp := oT c68 hp
      refine lv_iconst (v := 0) hx hb dX7_addChild_48 (by decide) ?_
      exact hk4 _ _ _ _ hM (lv_sub hl [0, 1, 2, 3, 4, 5] rfl) hp
    · replace hp := oF c68 hp
      refine lv_iload_n hx hb dX7_addChild_25 rfl (lv_at hl 3 rfl) ?_
      refine lv_iconst (v := 0) hx hb dX7_addChild_26 (by decide) ?_
      refine lv_bipush (v := 99) hx hb dX7_addChild_27 (by decide) ?_
      obtain ⟨v69, hv69, hp⟩ := ob hp
      refine mr_S1 (As := [.int a3, .int (0 : Int32), .int (99 : Int32)]) (rest := []) C0 hM (w_X7_inRange hG hv69) tw_1325 tw_1326 tw_7 tw_1327 yk_X7_inRange (by decide) rfl hl.1 (Nat.le_of_ble_eq_true rfl) dX7_addChild_29 rfl (fun H locs hM => ?_)
      refine lv_if_eq (tgt := 48) hx hb dX7_addChild_32 (by decide) (fun c70 => ?_) (fun c70 => ?_)
      · replace hp := oT c70 hp
        refine lv_iconst (v := 0) hx hb dX7_addChild_48 (by decide) ?_
        exact hk4 _ _ _ _ hM (lv_sub hl [0, 1, 2, 3, 4, 5] rfl) hp
      · replace hp := oF c70 hp
        refine lv_aload_n hx hb dX7_addChild_35 rfl (lv_at hl 0 rfl) ?_
        refine lv_iload hx hb dX7_addChild_36 (lv_at hl 5 rfl) ?_
        obtain ⟨_, h71, hp⟩ := ob hp
        obtain ⟨v72, hv72, hp⟩ := ob hp
        refine mr_V1 (As := [.int a5]) (rest := []) C0 cbX7 hM h71 rfl (w_X7_areWishes hG hv72) tw_1643 tw_1645 tws_60 tw_7 tw_1646 yk_X7_areWishes (by decide) rfl hl.1 (Nat.le_of_ble_eq_true rfl) dX7_addChild_38 rfl (fun H locs hM => ?_)
        refine lv_if_eq (tgt := 48) hx hb dX7_addChild_41 (by decide) (fun c73 => ?_) (fun c73 => ?_)
        · replace hp := oT c73 hp
          refine lv_iconst (v := 0) hx hb dX7_addChild_48 (by decide) ?_
          exact hk4 _ _ _ _ hM (lv_sub hl [0, 1, 2, 3, 4, 5] rfl) hp
        · replace hp := oF c73 hp
          refine lv_iconst (v := 1) hx hb dX7_addChild_44 (by decide) ?_
          refine lv_goto (tgt := 49) hx hb dX7_addChild_45 (by decide) ?_
          exact hk4 _ _ _ _ hM (lv_sub hl [0, 1, 2, 3, 4, 5] rfl) hp
abbrev rm_X7_goes : Room := { frames := 1, cells := 0, slots := 0, locals := 23 }
def p_X7_goes (a0 : Nat) (a1 : Int32) (M : Mem) : Option (Mem) :=
  (Option.bind (isC 6 M a0) fun _ =>
  (Option.bind (p_X7_puts a0 a1 (-1 : Int32) (0 : Int32) M) fun M2 =>
  (Option.bind (gR 6 0 M2 a0) fun v3 =>
  (Option.bind (aIs M2 v3 ((404 : Int32) + a1) (1 : Int32)) fun M4 =>
  some M4
  )
  )
  )
  )
theorem yk_X7_goes : yok yX7_goes 1 := by decide +kernel
set_option maxHeartbeats 4000000 in
set_option maxRecDepth 100000 in
theorem w_X7_goes {G : gG} (hG : GOK G) {l : Launch} {a0 : Nat} {a1 : Int32} {M : Mem} {M' : Mem} (hp : p_X7_goes a0 a1 M = some M') : CT G l yX7_goes (wT yX7_goes cX7_goes 2 (none)) rm_X7_goes [.ref a0, .int a1] M none M' 0 0 := by
  refine CT_of (own := RX7) (maxL := 2) (ret := (none)) hG (by decide) rfl (Nat.le_of_ble_eq_true rfl) (fun p e s m below meth c A C0 hr hlk hM ls hl => ?_)
  have hl : lv_has ls 2 [(0, .ref a0), (1, .int a1)] := hl
  generalize ([.ref a0, .int a1] : List Value).toArray = args at C0 ⊢
  skip
  have hx := C0.1
  have hb := C0.2.1
  have hown := C0.2.2.2.1
  have hts := C0.2.2.2.2.1
  unfold p_X7_goes at hp
  refine lv_aload_n hx hb dX7_goes_0 rfl (lv_at hl 0 rfl) ?_
  refine lv_iload_n hx hb dX7_goes_1 rfl (lv_at hl 1 rfl) ?_
  refine lv_iconst (v := -1) hx hb dX7_goes_2 (by decide) ?_
  refine lv_iconst (v := 0) hx hb dX7_goes_3 (by decide) ?_
  obtain ⟨_, h1, hp⟩ := ob hp
  obtain ⟨M2, hM2, hp⟩ := ob hp
  refine mr_V0 (As := [.int a1, .int (-1 : Int32), .int (0 : Int32)]) (rest := []) C0 cbX7 hM h1 rfl (w_X7_puts hG hM2) tw_1619 tw_1621 tws_56 tw_7 tw_1622 yk_X7_puts (by decide) rfl hl.1 (Nat.le_of_ble_eq_true rfl) dX7_goes_4 rfl (fun H locs hM => ?_)
  refine lv_aload_n hx hb dX7_goes_7 rfl (lv_at hl 0 rfl) ?_
  obtain ⟨v3, hv3, hp⟩ := ob hp
  refine mr_getR C0 cbX7 hM 0 (by decide) tw_1224 hv3 dX7_goes_8 ?_
  refine lv_sipush (v := 404) hx hb dX7_goes_11 (by decide) ?_
  refine lv_iload_n hx hb dX7_goes_14 rfl (lv_at hl 1 rfl) ?_
  refine lv_iadd hx hb dX7_goes_15 ?_
  refine lv_iconst (v := 1) hx hb dX7_goes_16 (by decide) ?_
  obtain ⟨M4, hM4, hp⟩ := ob hp
  refine mr_iast C0 hM hM4 dX7_goes_17 (fun H locs hM => ?_)
  exact mr_vret C0 hr hlk hM (Option.some.inj hp) (Nat.le_refl _) (Nat.le_refl _) dX7_goes_18
abbrev rm_X7_withdraw : Room := { frames := 8, cells := 0, slots := 0, locals := 186 }
def p_X7_withdraw (a0 : Nat) (a1 : Int32) (M : Mem) : Option (Int32 × Mem) :=
  (Option.bind (isC 6 M a0) fun _ =>
  (ob2 (p_X7_noChild a0 a1 M) fun v2 M3 =>
  (if v2 = 0 then
   (Option.bind (isC 6 M3 a0) fun _ =>
   (Option.bind (p_X7_isHere a0 a1 M3) fun v6 =>
   (jn (fun (s7 : Int32) =>
    (Option.bind (isC 6 M3 a0) fun _ =>
    (ob2 (p_X7_fails a0 s7 (2 : Int32) M3) fun v10 M11 =>
    (if v10 = 0 then
     (Option.bind (isC 6 M11 a0) fun _ =>
     (Option.bind (p_X7_remembers a0 M11) fun M14 =>
     (Option.bind (gR 6 0 M14 a0) fun v15 =>
     (Option.bind (aI 0 M14 v15 ((484 : Int32) + a1)) fun v16 =>
     (Option.bind (isC 6 M14 a0) fun _ =>
     (Option.bind (p_X7_goes a0 a1 M14) fun M18 =>
     (Option.bind (isC 6 M18 a0) fun _ =>
     (Option.bind (p_X7_fills a0 M18) fun M20 =>
     some (v16, M20)
     )
     )
     )
     )
     )
     )
     )
     )
    else
     some ((0 : Int32), M11)
    )
    )
    )
   ) fun k8 =>
   (if v6 = 0 then
    (k8 (1 : Int32))
   else
    (k8 (0 : Int32))
   )
   )
   )
   )
  else
   some ((0 : Int32), M3)
  )
  )
  )
theorem yk_X7_withdraw : yok yX7_withdraw 1 := by decide +kernel
set_option maxHeartbeats 4000000 in
set_option maxRecDepth 100000 in
theorem w_X7_withdraw {G : gG} (hG : GOK G) {l : Launch} {a0 : Nat} {a1 : Int32} {M : Mem} {r : Int32} {M' : Mem} (hp : p_X7_withdraw a0 a1 M = some (r, M')) : CT G l yX7_withdraw (wT yX7_withdraw cX7_withdraw 3 (some FieldType.int)) rm_X7_withdraw [.ref a0, .int a1] M (some (.int r)) M' 0 0 := by
  refine CT_of (own := RX7) (maxL := 3) (ret := (some FieldType.int)) hG (by decide) rfl (Nat.le_of_ble_eq_true rfl) (fun p e s m below meth c A C0 hr hlk hM ls hl => ?_)
  have hl : lv_has ls 3 [(0, .ref a0), (1, .int a1)] := hl
  generalize ([.ref a0, .int a1] : List Value).toArray = args at C0 ⊢
  skip
  have hx := C0.1
  have hb := C0.2.1
  have hown := C0.2.2.2.1
  have hts := C0.2.2.2.2.1
  unfold p_X7_withdraw at hp
  refine lv_aload_n hx hb dX7_withdraw_0 rfl (lv_at hl 0 rfl) ?_
  refine lv_iload_n hx hb dX7_withdraw_1 rfl (lv_at hl 1 rfl) ?_
  obtain ⟨_, h1, hp⟩ := ob hp
  obtain ⟨v2, M3, hv2, hp⟩ := ob3 hp
  refine mr_V1 (As := [.int a1]) (rest := []) C0 cbX7 hM h1 rfl (w_X7_noChild hG hv2) tw_1511 tw_1513 tws_42 tw_7 tw_1514 yk_X7_noChild (by decide) rfl hl.1 (Nat.le_of_ble_eq_true rfl) dX7_withdraw_2 rfl (fun H locs hM => ?_)
  refine lv_if_ne (tgt := 29) hx hb dX7_withdraw_5 (by decide) (fun c4 => ?_) (fun c4 => ?_)
  · replace hp := oF c4 hp
    refine lv_iconst (v := 0) hx hb dX7_withdraw_29 (by decide) ?_
    exact mr_iret C0 hr hlk hM (Prod.mk.inj (Option.some.inj hp)).2 (Prod.mk.inj (Option.some.inj hp)).1 (Nat.le_refl _) (Nat.le_refl _) dX7_withdraw_30
  · replace hp := oT c4 hp
    refine lv_aload_n hx hb dX7_withdraw_8 rfl (lv_at hl 0 rfl) ?_
    refine lv_aload_n hx hb dX7_withdraw_9 rfl (lv_at hl 0 rfl) ?_
    refine lv_iload_n hx hb dX7_withdraw_10 rfl (lv_at hl 1 rfl) ?_
    obtain ⟨_, h5, hp⟩ := ob hp
    obtain ⟨v6, hv6, hp⟩ := ob hp
    refine mr_V1 (As := [.int a1]) (rest := [.ref a0]) C0 cbX7 hM h5 rfl (w_X7_isHere hG hv6) tw_1495 tw_1497 tws_40 tw_7 tw_1498 yk_X7_isHere (by decide) rfl hl.1 (Nat.le_of_ble_eq_true rfl) dX7_withdraw_11 rfl (fun H locs hM => ?_)
    obtain ⟨k8, ek8, hp⟩ := ojn hp
    have hk8 : ∀ (s7 : Int32) (H : Heap) (locs : List Loc) (ls : Array Slot), mm G A s M3 H locs → lv_has ls 3 [(0, .ref a0), (1, .int a1)] → k8 s7 = some (r, M') → W p l e rm_X7_withdraw s m args below meth c H locs 0 0 (MQ below (CQ G M' (some (.int r)) A) args s 0 0 A) (F0 m 22 ls [.int s7, .ref a0]) := by
      intro s7 H locs ls hM hl hp
      rw [ek8] at hp
      refine lv_iconst (v := 2) hx hb dX7_withdraw_22 (by decide) ?_
      obtain ⟨_, h9, hp⟩ := ob hp
      obtain ⟨v10, M11, hv10, hp⟩ := ob3 hp
      refine mr_V1 (As := [.int s7, .int (2 : Int32)]) (rest := []) C0 cbX7 hM h9 rfl (w_X7_fails hG hv10) tw_1459 tw_1461 tws_32 tw_7 tw_1462 yk_X7_fails (by decide) rfl hl.1 (Nat.le_of_ble_eq_true rfl) dX7_withdraw_23 rfl (fun H locs hM => ?_)
      refine lv_if_eq (tgt := 31) hx hb dX7_withdraw_26 (by decide) (fun c12 => ?_) (fun c12 => ?_)
      · replace hp := oT c12 hp
        refine lv_aload_n hx hb dX7_withdraw_31 rfl (lv_at hl 0 rfl) ?_
        obtain ⟨_, h13, hp⟩ := ob hp
        obtain ⟨M14, hM14, hp⟩ := ob hp
        refine mr_V0 (As := []) (rest := []) C0 cbX7 hM h13 rfl (w_X7_remembers hG hM14) tw_1611 tw_1613 tws_54 tw_7 tw_1614 yk_X7_remembers (by decide) rfl hl.1 (Nat.le_of_ble_eq_true rfl) dX7_withdraw_32 rfl (fun H locs hM => ?_)
        refine lv_aload_n hx hb dX7_withdraw_35 rfl (lv_at hl 0 rfl) ?_
        obtain ⟨v15, hv15, hp⟩ := ob hp
        refine mr_getR C0 cbX7 hM 0 (by decide) tw_1224 hv15 dX7_withdraw_36 ?_
        refine lv_sipush (v := 484) hx hb dX7_withdraw_39 (by decide) ?_
        refine lv_iload_n hx hb dX7_withdraw_42 rfl (lv_at hl 1 rfl) ?_
        refine lv_iadd hx hb dX7_withdraw_43 ?_
        obtain ⟨v16, hv16, hp⟩ := ob hp
        refine mr_iald C0 hM hv16 dX7_withdraw_44 ?_
        refine lv_istore_n (lv' := [(2, .int v16), (0, .ref a0), (1, .int a1)]) hx hb dX7_withdraw_45 rfl hl (by decide) rfl (fun ls hl => ?_)
        refine lv_aload_n hx hb dX7_withdraw_46 rfl (lv_at hl 1 rfl) ?_
        refine lv_iload_n hx hb dX7_withdraw_47 rfl (lv_at hl 2 rfl) ?_
        obtain ⟨_, h17, hp⟩ := ob hp
        obtain ⟨M18, hM18, hp⟩ := ob hp
        refine mr_V0 (As := [.int a1]) (rest := []) C0 cbX7 hM h17 rfl (w_X7_goes hG hM18) tw_1659 tw_1661 tws_63 tw_7 tw_1662 yk_X7_goes (by decide) rfl hl.1 (Nat.le_of_ble_eq_true rfl) dX7_withdraw_48 rfl (fun H locs hM => ?_)
        refine lv_aload_n hx hb dX7_withdraw_51 rfl (lv_at hl 1 rfl) ?_
        obtain ⟨_, h19, hp⟩ := ob hp
        obtain ⟨M20, hM20, hp⟩ := ob hp
        refine mr_V0 (As := []) (rest := []) C0 cbX7 hM h19 rfl (w_X7_fills hG hM20) tw_1647 tw_1649 tws_61 tw_7 tw_1650 yk_X7_fills (by decide) rfl hl.1 (Nat.le_of_ble_eq_true rfl) dX7_withdraw_52 rfl (fun H locs hM => ?_)
        refine lv_iload_n hx hb dX7_withdraw_55 rfl (lv_at hl 0 rfl) ?_
        exact mr_iret C0 hr hlk hM (Prod.mk.inj (Option.some.inj hp)).2 (Prod.mk.inj (Option.some.inj hp)).1 (Nat.le_refl _) (Nat.le_refl _) dX7_withdraw_56
      · replace hp := oF c12 hp
        refine lv_iconst (v := 0) hx hb dX7_withdraw_29 (by decide) ?_
        exact mr_iret C0 hr hlk hM (Prod.mk.inj (Option.some.inj hp)).2 (Prod.mk.inj (Option.some.inj hp)).1 (Nat.le_refl _) (Nat.le_refl _) dX7_withdraw_30
    refine lv_if_ne (tgt := 21) hx hb dX7_withdraw_14 (by decide) (fun c21 => ?_) (fun c21 => ?_)
    · replace hp := oF c21 hp
      refine lv_iconst (v := 0) hx hb dX7_withdraw_21 (by decide) ?_
      exact hk8 _ _ _ _ hM (lv_sub hl [0, 1] rfl) hp
    · replace hp := oT c21 hp
      refine lv_iconst (v := 1) hx hb dX7_withdraw_17 (by decide) ?_
      refine lv_goto (tgt := 22) hx hb dX7_withdraw_18 (by decide) ?_
      exact hk8 _ _ _ _ hM (lv_sub hl [0, 1] rfl) hp
abbrev rm_X7_giveBack : Room := { frames := 8, cells := 0, slots := 0, locals := 186 }
def p_X7_giveBack (a0 : Nat) (a1 : Int32) (M : Mem) : Option (Int32 × Mem) :=
  (Option.bind (isC 6 M a0) fun _ =>
  (ob2 (p_X7_noChild a0 a1 M) fun v2 M3 =>
  (if v2 = 0 then
   (Option.bind (gR 6 0 M3 a0) fun v5 =>
   (Option.bind (aI 0 M3 v5 ((484 : Int32) + a1)) fun v6 =>
   (jn (fun (s7 : Int32) =>
    (Option.bind (isC 6 M3 a0) fun _ =>
    (ob2 (p_X7_fails a0 s7 (2 : Int32) M3) fun v10 M11 =>
    (if v10 = 0 then
     (Option.bind (isC 6 M11 a0) fun _ =>
     (Option.bind (p_X7_remembers a0 M11) fun M14 =>
     (Option.bind (gR 6 0 M14 a0) fun v15 =>
     (Option.bind (aI 0 M14 v15 ((484 : Int32) + a1)) fun v16 =>
     (Option.bind (isC 6 M14 a0) fun _ =>
     (Option.bind (p_X7_gotOf a0 a1 M14) fun v18 =>
     (jn (fun  (M19 : Mem) =>
      (Option.bind (isC 6 M19 a0) fun _ =>
      (Option.bind (p_X7_fills a0 M19) fun M22 =>
      some (v16, M22)
      )
      )
     ) fun k20 =>
     (if v18 = 0 then
      (Option.bind (isC 6 M14 a0) fun _ =>
      (Option.bind (p_X7_goes a0 a1 M14) fun M29 =>
      (k20  M29)
      )
      )
     else
      (Option.bind (gR 6 0 M14 a0) fun v24 =>
      (Option.bind (aIs M14 v24 ((324 : Int32) + a1) v18) fun M25 =>
      (Option.bind (isC 6 M25 a0) fun _ =>
      (Option.bind (p_X7_puts a0 a1 (-1 : Int32) (0 : Int32) M25) fun M27 =>
      (k20  M27)
      )
      )
      )
      )
     )
     )
     )
     )
     )
     )
     )
     )
    else
     some ((0 : Int32), M11)
    )
    )
    )
   ) fun k8 =>
   (if v6 = (-1 : Int32) then
    (k8 (1 : Int32))
   else
    (k8 (0 : Int32))
   )
   )
   )
   )
  else
   some ((0 : Int32), M3)
  )
  )
  )
theorem yk_X7_giveBack : yok yX7_giveBack 1 := by decide +kernel
set_option maxHeartbeats 4000000 in
set_option maxRecDepth 100000 in
theorem w_X7_giveBack {G : gG} (hG : GOK G) {l : Launch} {a0 : Nat} {a1 : Int32} {M : Mem} {r : Int32} {M' : Mem} (hp : p_X7_giveBack a0 a1 M = some (r, M')) : CT G l yX7_giveBack (wT yX7_giveBack cX7_giveBack 4 (some FieldType.int)) rm_X7_giveBack [.ref a0, .int a1] M (some (.int r)) M' 0 0 := by
  refine CT_of (own := RX7) (maxL := 4) (ret := (some FieldType.int)) hG (by decide) rfl (Nat.le_of_ble_eq_true rfl) (fun p e s m below meth c A C0 hr hlk hM ls hl => ?_)
  have hl : lv_has ls 4 [(0, .ref a0), (1, .int a1)] := hl
  generalize ([.ref a0, .int a1] : List Value).toArray = args at C0 ⊢
  skip
  have hx := C0.1
  have hb := C0.2.1
  have hown := C0.2.2.2.1
  have hts := C0.2.2.2.2.1
  unfold p_X7_giveBack at hp
  refine lv_aload_n hx hb dX7_giveBack_0 rfl (lv_at hl 0 rfl) ?_
  refine lv_iload_n hx hb dX7_giveBack_1 rfl (lv_at hl 1 rfl) ?_
  obtain ⟨_, h1, hp⟩ := ob hp
  obtain ⟨v2, M3, hv2, hp⟩ := ob3 hp
  refine mr_V1 (As := [.int a1]) (rest := []) C0 cbX7 hM h1 rfl (w_X7_noChild hG hv2) tw_1511 tw_1513 tws_42 tw_7 tw_1514 yk_X7_noChild (by decide) rfl hl.1 (Nat.le_of_ble_eq_true rfl) dX7_giveBack_2 rfl (fun H locs hM => ?_)
  refine lv_if_ne (tgt := 35) hx hb dX7_giveBack_5 (by decide) (fun c4 => ?_) (fun c4 => ?_)
  · replace hp := oF c4 hp
    refine lv_iconst (v := 0) hx hb dX7_giveBack_35 (by decide) ?_
    exact mr_iret C0 hr hlk hM (Prod.mk.inj (Option.some.inj hp)).2 (Prod.mk.inj (Option.some.inj hp)).1 (Nat.le_refl _) (Nat.le_refl _) dX7_giveBack_36
  · replace hp := oT c4 hp
    refine lv_aload_n hx hb dX7_giveBack_8 rfl (lv_at hl 0 rfl) ?_
    refine lv_aload_n hx hb dX7_giveBack_9 rfl (lv_at hl 0 rfl) ?_
    obtain ⟨v5, hv5, hp⟩ := ob hp
    refine mr_getR C0 cbX7 hM 0 (by decide) tw_1224 hv5 dX7_giveBack_10 ?_
    refine lv_sipush (v := 484) hx hb dX7_giveBack_13 (by decide) ?_
    refine lv_iload_n hx hb dX7_giveBack_16 rfl (lv_at hl 1 rfl) ?_
    refine lv_iadd hx hb dX7_giveBack_17 ?_
    obtain ⟨v6, hv6, hp⟩ := ob hp
    refine mr_iald C0 hM hv6 dX7_giveBack_18 ?_
    refine lv_iconst (v := -1) hx hb dX7_giveBack_19 (by decide) ?_
    obtain ⟨k8, ek8, hp⟩ := ojn hp
    have hk8 : ∀ (s7 : Int32) (H : Heap) (locs : List Loc) (ls : Array Slot), mm G A s M3 H locs → lv_has ls 4 [(0, .ref a0), (1, .int a1)] → k8 s7 = some (r, M') → W p l e rm_X7_giveBack s m args below meth c H locs 0 0 (MQ below (CQ G M' (some (.int r)) A) args s 0 0 A) (F0 m 28 ls [.int s7, .ref a0]) := by
      intro s7 H locs ls hM hl hp
      rw [ek8] at hp
      refine lv_iconst (v := 2) hx hb dX7_giveBack_28 (by decide) ?_
      obtain ⟨_, h9, hp⟩ := ob hp
      obtain ⟨v10, M11, hv10, hp⟩ := ob3 hp
      refine mr_V1 (As := [.int s7, .int (2 : Int32)]) (rest := []) C0 cbX7 hM h9 rfl (w_X7_fails hG hv10) tw_1459 tw_1461 tws_32 tw_7 tw_1462 yk_X7_fails (by decide) rfl hl.1 (Nat.le_of_ble_eq_true rfl) dX7_giveBack_29 rfl (fun H locs hM => ?_)
      refine lv_if_eq (tgt := 37) hx hb dX7_giveBack_32 (by decide) (fun c12 => ?_) (fun c12 => ?_)
      · replace hp := oT c12 hp
        refine lv_aload_n hx hb dX7_giveBack_37 rfl (lv_at hl 0 rfl) ?_
        obtain ⟨_, h13, hp⟩ := ob hp
        obtain ⟨M14, hM14, hp⟩ := ob hp
        refine mr_V0 (As := []) (rest := []) C0 cbX7 hM h13 rfl (w_X7_remembers hG hM14) tw_1611 tw_1613 tws_54 tw_7 tw_1614 yk_X7_remembers (by decide) rfl hl.1 (Nat.le_of_ble_eq_true rfl) dX7_giveBack_38 rfl (fun H locs hM => ?_)
        refine lv_aload_n hx hb dX7_giveBack_41 rfl (lv_at hl 0 rfl) ?_
        obtain ⟨v15, hv15, hp⟩ := ob hp
        refine mr_getR C0 cbX7 hM 0 (by decide) tw_1224 hv15 dX7_giveBack_42 ?_
        refine lv_sipush (v := 484) hx hb dX7_giveBack_45 (by decide) ?_
        refine lv_iload_n hx hb dX7_giveBack_48 rfl (lv_at hl 1 rfl) ?_
        refine lv_iadd hx hb dX7_giveBack_49 ?_
        obtain ⟨v16, hv16, hp⟩ := ob hp
        refine mr_iald C0 hM hv16 dX7_giveBack_50 ?_
        refine lv_istore_n (lv' := [(2, .int v16), (0, .ref a0), (1, .int a1)]) hx hb dX7_giveBack_51 rfl hl (by decide) rfl (fun ls hl => ?_)
        refine lv_aload_n hx hb dX7_giveBack_52 rfl (lv_at hl 1 rfl) ?_
        refine lv_iload_n hx hb dX7_giveBack_53 rfl (lv_at hl 2 rfl) ?_
        obtain ⟨_, h17, hp⟩ := ob hp
        obtain ⟨v18, hv18, hp⟩ := ob hp
        refine mr_V1 (As := [.int a1]) (rest := []) C0 cbX7 hM h17 rfl (w_X7_gotOf hG hv18) tw_1499 tw_1501 tws_41 tw_7 tw_1502 yk_X7_gotOf (by decide) rfl hl.1 (Nat.le_of_ble_eq_true rfl) dX7_giveBack_54 rfl (fun H locs hM => ?_)
        refine lv_istore_n (lv' := [(3, .int v18), (2, .int v16), (0, .ref a0), (1, .int a1)]) hx hb dX7_giveBack_57 rfl hl (by decide) rfl (fun ls hl => ?_)
        refine lv_iload_n hx hb dX7_giveBack_58 rfl (lv_at hl 0 rfl) ?_
        obtain ⟨k20, ek20, hp⟩ := ojn hp
        have hk20 : ∀ (M19 : Mem) (H : Heap) (locs : List Loc) (ls : Array Slot), mm G A s M19 H locs → lv_has ls 4 [(0, .ref a0), (2, .int v16)] → k20  M19 = some (r, M') → W p l e rm_X7_giveBack s m args below meth c H locs 0 0 (MQ below (CQ G M' (some (.int r)) A) args s 0 0 A) (F0 m 88 ls []) := by
          intro  M19 H locs ls hM hl hp
          rw [ek20] at hp
          refine lv_aload_n hx hb dX7_giveBack_88 rfl (lv_at hl 0 rfl) ?_
          obtain ⟨_, h21, hp⟩ := ob hp
          obtain ⟨M22, hM22, hp⟩ := ob hp
          refine mr_V0 (As := []) (rest := []) C0 cbX7 hM h21 rfl (w_X7_fills hG hM22) tw_1647 tw_1649 tws_61 tw_7 tw_1650 yk_X7_fills (by decide) rfl hl.1 (Nat.le_of_ble_eq_true rfl) dX7_giveBack_89 rfl (fun H locs hM => ?_)
          refine lv_iload_n hx hb dX7_giveBack_92 rfl (lv_at hl 1 rfl) ?_
          exact mr_iret C0 hr hlk hM (Prod.mk.inj (Option.some.inj hp)).2 (Prod.mk.inj (Option.some.inj hp)).1 (Nat.le_refl _) (Nat.le_refl _) dX7_giveBack_93
        refine lv_if_ne (tgt := 70) hx hb dX7_giveBack_59 (by decide) (fun c23 => ?_) (fun c23 => ?_)
        · replace hp := oF c23 hp
          refine lv_aload_n hx hb dX7_giveBack_70 rfl (lv_at hl 2 rfl) ?_
          obtain ⟨v24, hv24, hp⟩ := ob hp
          refine mr_getR C0 cbX7 hM 0 (by decide) tw_1224 hv24 dX7_giveBack_71 ?_
          refine lv_sipush (v := 324) hx hb dX7_giveBack_74 (by decide) ?_
          refine lv_iload_n hx hb dX7_giveBack_77 rfl (lv_at hl 3 rfl) ?_
          refine lv_iadd hx hb dX7_giveBack_78 ?_
          refine lv_iload_n hx hb dX7_giveBack_79 rfl (lv_at hl 0 rfl) ?_
          obtain ⟨M25, hM25, hp⟩ := ob hp
          refine mr_iast C0 hM hM25 dX7_giveBack_80 (fun H locs hM => ?_)
          refine lv_aload_n hx hb dX7_giveBack_81 rfl (lv_at hl 2 rfl) ?_
          refine lv_iload_n hx hb dX7_giveBack_82 rfl (lv_at hl 3 rfl) ?_
          refine lv_iconst (v := -1) hx hb dX7_giveBack_83 (by decide) ?_
          refine lv_iconst (v := 0) hx hb dX7_giveBack_84 (by decide) ?_
          obtain ⟨_, h26, hp⟩ := ob hp
          obtain ⟨M27, hM27, hp⟩ := ob hp
          refine mr_V0 (As := [.int a1, .int (-1 : Int32), .int (0 : Int32)]) (rest := []) C0 cbX7 hM h26 rfl (w_X7_puts hG hM27) tw_1619 tw_1621 tws_56 tw_7 tw_1622 yk_X7_puts (by decide) rfl hl.1 (Nat.le_of_ble_eq_true rfl) dX7_giveBack_85 rfl (fun H locs hM => ?_)
          exact hk20  _ _ _ _ hM (lv_sub hl [2, 1] rfl) hp
        · replace hp := oT c23 hp
          refine lv_aload_n hx hb dX7_giveBack_62 rfl (lv_at hl 2 rfl) ?_
          refine lv_iload_n hx hb dX7_giveBack_63 rfl (lv_at hl 3 rfl) ?_
          obtain ⟨_, h28, hp⟩ := ob hp
          obtain ⟨M29, hM29, hp⟩ := ob hp
          refine mr_V0 (As := [.int a1]) (rest := []) C0 cbX7 hM h28 rfl (w_X7_goes hG hM29) tw_1659 tw_1661 tws_63 tw_7 tw_1662 yk_X7_goes (by decide) rfl hl.1 (Nat.le_of_ble_eq_true rfl) dX7_giveBack_64 rfl (fun H locs hM => ?_)
          refine lv_goto (tgt := 88) hx hb dX7_giveBack_67 (by decide) ?_
          exact hk20  _ _ _ _ hM (lv_sub hl [2, 1] rfl) hp
      · replace hp := oF c12 hp
        refine lv_iconst (v := 0) hx hb dX7_giveBack_35 (by decide) ?_
        exact mr_iret C0 hr hlk hM (Prod.mk.inj (Option.some.inj hp)).2 (Prod.mk.inj (Option.some.inj hp)).1 (Nat.le_refl _) (Nat.le_refl _) dX7_giveBack_36
    refine lv_icmp_ne (tgt := 27) hx hb dX7_giveBack_20 (by decide) (fun c30 => ?_) (fun c30 => ?_)
    · replace hp := oF c30 hp
      refine lv_iconst (v := 0) hx hb dX7_giveBack_27 (by decide) ?_
      exact hk8 _ _ _ _ hM (lv_sub hl [0, 1] rfl) hp
    · replace hp := oT c30 hp
      refine lv_iconst (v := 1) hx hb dX7_giveBack_23 (by decide) ?_
      refine lv_goto (tgt := 28) hx hb dX7_giveBack_24 (by decide) ?_
      exact hk8 _ _ _ _ hM (lv_sub hl [0, 1] rfl) hp
abbrev rm_X7_moveHome : Room := { frames := 8, cells := 0, slots := 0, locals := 186 }
def pl_X7_moveHome_50 (k1 : Mem → Option (Int32 × Mem)) (f0 : Nat) (f1 : Int32) (f2 : Int32) (f3 : Int32) : Nat → Int32 → Mem → Option (Int32 × Mem)
  | 0, _, _ => none
  | n + 1, y4, M =>
    (Option.bind (gR 6 0 M f0) fun v14 =>
    (Option.bind (aI 0 M v14 ((324 : Int32) + f1)) fun v15 =>
    (if v15 ≤ y4 then
     (k1  M)
    else
     (Option.bind (gR 6 22 M f0) fun v17 =>
     (Option.bind (gR 6 0 M f0) fun v18 =>
     (Option.bind (aI 0 M v18 (((564 : Int32) + ((4 : Int32) * f1)) + y4)) fun v19 =>
     (Option.bind (isC 6 M f0) fun _ =>
     (Option.bind (p_X7_classAt f0 f1 v19 M) fun v21 =>
     (Option.bind (aIs M v17 y4 v21) fun M22 =>
     (pl_X7_moveHome_50 k1 f0 f1 f2 f3 n (y4 + (1 : Int32)) M22)
     )
     )
     )
     )
     )
     )
    )
    )
    )
set_option maxHeartbeats 4000000 in
set_option maxRecDepth 100000 in
theorem wl_X7_moveHome_50 {G : gG} {p : Program} {l : Launch} {e : Env} {s : State} {m : MethodId} {args : Array Value} {below : List Frame} {meth : Method} {c : Code} {A : Nat → Prop} {r : Int32} {M' : Mem} {k1 : Mem → Option (Int32 × Mem)} {f0 : Nat} {f1 : Int32} {f2 : Int32} {f3 : Int32} (C0 : cx G p s m args c cX7_moveHome RX7 6 A) (hr : meth.sig.returnType = (some FieldType.int)) (hlk : meth.locks = false) (hG : GOK G) (hk1 : ∀ (M : Mem) (H : Heap) (locs : List Loc) (ls : Array Slot), mm G A s M H locs → lv_has ls 6 [(0, .ref f0), (1, .int f1), (2, .int f2), (3, .int f3)] → k1 M = some (r, M') → W p l e rm_X7_moveHome s m args below meth c H locs 0 0 (MQ below (CQ G M' (some (.int r)) A) args s 0 0 A) (F0 m 98 ls [])) : ∀ (n : Nat) (y4 : Int32) (M : Mem) (H : Heap) (locs : List Loc) (ls : Array Slot), mm G A s M H locs → lv_has ls 6 [(0, .ref f0), (1, .int f1), (2, .int f2), (3, .int f3), (4, .int y4)] → pl_X7_moveHome_50 k1 f0 f1 f2 f3 n y4 M = some (r, M') → W p l e rm_X7_moveHome s m args below meth c H locs 0 0 (MQ below (CQ G M' (some (.int r)) A) args s 0 0 A) (F0 m 50 ls []) := by
  have hx := C0.1
  have hb := C0.2.1
  have hown := C0.2.2.2.1
  have hts := C0.2.2.2.2.1
  intro n
  induction n with
  | zero => intro y4 M H locs ls hM hl hp; rw [pl_X7_moveHome_50] at hp; cases hp
  | succ n ih =>
    intro y4 M H locs ls hM hl hp
    rw [pl_X7_moveHome_50] at hp
    refine lv_iload hx hb dX7_moveHome_50 (lv_at hl 4 rfl) ?_
    refine lv_aload_n hx hb dX7_moveHome_52 rfl (lv_at hl 0 rfl) ?_
    obtain ⟨v14, hv14, hp⟩ := ob hp
    refine mr_getR C0 cbX7 hM 0 (by decide) tw_1224 hv14 dX7_moveHome_53 ?_
    refine lv_sipush (v := 324) hx hb dX7_moveHome_56 (by decide) ?_
    refine lv_iload_n hx hb dX7_moveHome_59 rfl (lv_at hl 1 rfl) ?_
    refine lv_iadd hx hb dX7_moveHome_60 ?_
    obtain ⟨v15, hv15, hp⟩ := ob hp
    refine mr_iald C0 hM hv15 dX7_moveHome_61 ?_
    refine lv_icmp_ge (tgt := 98) hx hb dX7_moveHome_62 (by decide) (fun c16 => ?_) (fun c16 => ?_)
    · replace hp := oT c16 hp
      exact hk1  _ _ _ _ hM (lv_sub hl [0, 1, 2, 3] rfl) hp
    · replace hp := oF c16 hp
      refine lv_aload_n hx hb dX7_moveHome_65 rfl (lv_at hl 0 rfl) ?_
      obtain ⟨v17, hv17, hp⟩ := ob hp
      refine mr_getR C0 cbX7 hM 22 (by decide) tw_1246 hv17 dX7_moveHome_66 ?_
      refine lv_iload hx hb dX7_moveHome_69 (lv_at hl 4 rfl) ?_
      refine lv_aload_n hx hb dX7_moveHome_71 rfl (lv_at hl 0 rfl) ?_
      refine lv_iload_n hx hb dX7_moveHome_72 rfl (lv_at hl 1 rfl) ?_
      refine lv_aload_n hx hb dX7_moveHome_73 rfl (lv_at hl 0 rfl) ?_
      obtain ⟨v18, hv18, hp⟩ := ob hp
      refine mr_getR C0 cbX7 hM 0 (by decide) tw_1224 hv18 dX7_moveHome_74 ?_
      refine lv_sipush (v := 564) hx hb dX7_moveHome_77 (by decide) ?_
      refine lv_iconst (v := 4) hx hb dX7_moveHome_80 (by decide) ?_
      refine lv_iload_n hx hb dX7_moveHome_81 rfl (lv_at hl 1 rfl) ?_
      refine lv_imul hx hb dX7_moveHome_82 ?_
      refine lv_iadd hx hb dX7_moveHome_83 ?_
      refine lv_iload hx hb dX7_moveHome_84 (lv_at hl 4 rfl) ?_
      refine lv_iadd hx hb dX7_moveHome_86 ?_
      obtain ⟨v19, hv19, hp⟩ := ob hp
      refine mr_iald C0 hM hv19 dX7_moveHome_87 ?_
      obtain ⟨_, h20, hp⟩ := ob hp
      obtain ⟨v21, hv21, hp⟩ := ob hp
      refine mr_V1 (As := [.int f1, .int v19]) (rest := [.int y4, .ref v17]) C0 cbX7 hM h20 rfl (w_X7_classAt hG hv21) tw_1551 tw_1553 tws_47 tw_7 tw_1554 yk_X7_classAt (by decide) rfl hl.1 (Nat.le_of_ble_eq_true rfl) dX7_moveHome_88 rfl (fun H locs hM => ?_)
      obtain ⟨M22, hM22, hp⟩ := ob hp
      refine mr_iast C0 hM hM22 dX7_moveHome_91 (fun H locs hM => ?_)
      refine lv_iinc (v := (y4 + (1 : Int32))) (lv' := [(4, .int (y4 + (1 : Int32))), (0, .ref f0), (1, .int f1), (2, .int f2), (3, .int f3)]) hx hb dX7_moveHome_92 hl (k := 4) rfl rfl (by decide) rfl (fun ls hl => ?_)
      refine lv_goto (tgt := 50) hx hb dX7_moveHome_95 (by decide) ?_
      exact ih _ _ _ _ _ hM (lv_sub hl [1, 2, 3, 4, 0] rfl) hp
def pl_X7_moveHome_125 (k1 : Int32 → Option (Int32 × Mem)) (f0 : Nat) (f1 : Int32) (M : Mem) : Nat → Int32 → Int32 → Option (Int32 × Mem)
  | 0, _, _ => none
  | n + 1, y4, y5 =>
    (Option.bind (gR 6 0 M f0) fun v28 =>
    (Option.bind (aI 0 M v28 ((324 : Int32) + f1)) fun v29 =>
    (if v29 ≤ y5 then
     (k1 y4)
    else
     (Option.bind (gR 6 22 M f0) fun v31 =>
     (Option.bind (aI 0 M v31 y5) fun v32 =>
     (Option.bind (gR 6 0 M f0) fun v33 =>
     (Option.bind (aI 0 M v33 (((564 : Int32) + ((4 : Int32) * f1)) + y5)) fun v34 =>
     (Option.bind (isC 6 M f0) fun _ =>
     (Option.bind (p_X7_classAt f0 f1 v34 M) fun v36 =>
     (jn (fun (s37 : Int32) =>
      (pl_X7_moveHome_125 k1 f0 f1 M n (y4 + s37) (y5 + (1 : Int32)))
     ) fun k38 =>
     (if v32 = v36 then
      (k38 (0 : Int32))
     else
      (k38 (1 : Int32))
     )
     )
     )
     )
     )
     )
     )
     )
    )
    )
    )
set_option maxHeartbeats 4000000 in
set_option maxRecDepth 100000 in
theorem wl_X7_moveHome_125 {G : gG} {p : Program} {l : Launch} {e : Env} {s : State} {m : MethodId} {args : Array Value} {below : List Frame} {meth : Method} {c : Code} {A : Nat → Prop} {r : Int32} {M' : Mem} {k1 : Int32 → Option (Int32 × Mem)} {f0 : Nat} {f1 : Int32} {M : Mem} (C0 : cx G p s m args c cX7_moveHome RX7 6 A) (hr : meth.sig.returnType = (some FieldType.int)) (hlk : meth.locks = false) (hG : GOK G) (hk1 : ∀ (z4 : Int32) (H : Heap) (locs : List Loc) (ls : Array Slot), mm G A s M H locs → lv_has ls 6 [(0, .ref f0), (4, .int z4)] → k1 z4 = some (r, M') → W p l e rm_X7_moveHome s m args below meth c H locs 0 0 (MQ below (CQ G M' (some (.int r)) A) args s 0 0 A) (F0 m 186 ls [])) : ∀ (n : Nat) (y4 : Int32) (y5 : Int32) (H : Heap) (locs : List Loc) (ls : Array Slot), mm G A s M H locs → lv_has ls 6 [(0, .ref f0), (1, .int f1), (4, .int y4), (5, .int y5)] → pl_X7_moveHome_125 k1 f0 f1 M n y4 y5 = some (r, M') → W p l e rm_X7_moveHome s m args below meth c H locs 0 0 (MQ below (CQ G M' (some (.int r)) A) args s 0 0 A) (F0 m 125 ls []) := by
  have hx := C0.1
  have hb := C0.2.1
  have hown := C0.2.2.2.1
  have hts := C0.2.2.2.2.1
  intro n
  induction n with
  | zero => intro y4 y5 H locs ls hM hl hp; rw [pl_X7_moveHome_125] at hp; cases hp
  | succ n ih =>
    intro y4 y5 H locs ls hM hl hp
    rw [pl_X7_moveHome_125] at hp
    refine lv_iload hx hb dX7_moveHome_125 (lv_at hl 3 rfl) ?_
    refine lv_aload_n hx hb dX7_moveHome_127 rfl (lv_at hl 0 rfl) ?_
    obtain ⟨v28, hv28, hp⟩ := ob hp
    refine mr_getR C0 cbX7 hM 0 (by decide) tw_1224 hv28 dX7_moveHome_128 ?_
    refine lv_sipush (v := 324) hx hb dX7_moveHome_131 (by decide) ?_
    refine lv_iload_n hx hb dX7_moveHome_134 rfl (lv_at hl 1 rfl) ?_
    refine lv_iadd hx hb dX7_moveHome_135 ?_
    obtain ⟨v29, hv29, hp⟩ := ob hp
    refine mr_iald C0 hM hv29 dX7_moveHome_136 ?_
    refine lv_icmp_ge (tgt := 186) hx hb dX7_moveHome_137 (by decide) (fun c30 => ?_) (fun c30 => ?_)
    · replace hp := oT c30 hp
      exact hk1 _ _ _ _ hM (lv_sub hl [0, 2] rfl) hp
    · replace hp := oF c30 hp
      refine lv_iload hx hb dX7_moveHome_140 (lv_at hl 2 rfl) ?_
      refine lv_aload_n hx hb dX7_moveHome_142 rfl (lv_at hl 0 rfl) ?_
      obtain ⟨v31, hv31, hp⟩ := ob hp
      refine mr_getR C0 cbX7 hM 22 (by decide) tw_1246 hv31 dX7_moveHome_143 ?_
      refine lv_iload hx hb dX7_moveHome_146 (lv_at hl 3 rfl) ?_
      obtain ⟨v32, hv32, hp⟩ := ob hp
      refine mr_iald C0 hM hv32 dX7_moveHome_148 ?_
      refine lv_aload_n hx hb dX7_moveHome_149 rfl (lv_at hl 0 rfl) ?_
      refine lv_iload_n hx hb dX7_moveHome_150 rfl (lv_at hl 1 rfl) ?_
      refine lv_aload_n hx hb dX7_moveHome_151 rfl (lv_at hl 0 rfl) ?_
      obtain ⟨v33, hv33, hp⟩ := ob hp
      refine mr_getR C0 cbX7 hM 0 (by decide) tw_1224 hv33 dX7_moveHome_152 ?_
      refine lv_sipush (v := 564) hx hb dX7_moveHome_155 (by decide) ?_
      refine lv_iconst (v := 4) hx hb dX7_moveHome_158 (by decide) ?_
      refine lv_iload_n hx hb dX7_moveHome_159 rfl (lv_at hl 1 rfl) ?_
      refine lv_imul hx hb dX7_moveHome_160 ?_
      refine lv_iadd hx hb dX7_moveHome_161 ?_
      refine lv_iload hx hb dX7_moveHome_162 (lv_at hl 3 rfl) ?_
      refine lv_iadd hx hb dX7_moveHome_164 ?_
      obtain ⟨v34, hv34, hp⟩ := ob hp
      refine mr_iald C0 hM hv34 dX7_moveHome_165 ?_
      obtain ⟨_, h35, hp⟩ := ob hp
      obtain ⟨v36, hv36, hp⟩ := ob hp
      refine mr_V1 (As := [.int f1, .int v34]) (rest := [.int v32, .int y4]) C0 cbX7 hM h35 rfl (w_X7_classAt hG hv36) tw_1551 tw_1553 tws_47 tw_7 tw_1554 yk_X7_classAt (by decide) rfl hl.1 (Nat.le_of_ble_eq_true rfl) dX7_moveHome_166 rfl (fun H locs hM => ?_)
      obtain ⟨k38, ek38, hp⟩ := ojn hp
      have hk38 : ∀ (s37 : Int32) (H : Heap) (locs : List Loc) (ls : Array Slot), mm G A s M H locs → lv_has ls 6 [(0, .ref f0), (1, .int f1), (5, .int y5)] → k38 s37 = some (r, M') → W p l e rm_X7_moveHome s m args below meth c H locs 0 0 (MQ below (CQ G M' (some (.int r)) A) args s 0 0 A) (F0 m 177 ls [.int s37, .int y4]) := by
        intro s37 H locs ls hM hl hp
        rw [ek38] at hp
        refine lv_iadd hx hb dX7_moveHome_177 ?_
        refine lv_istore (lv' := [(4, .int (y4 + s37)), (0, .ref f0), (1, .int f1), (5, .int y5)]) hx hb dX7_moveHome_178 hl (by decide) rfl (fun ls hl => ?_)
        refine lv_iinc (v := (y5 + (1 : Int32))) (lv' := [(5, .int (y5 + (1 : Int32))), (4, .int (y4 + s37)), (0, .ref f0), (1, .int f1)]) hx hb dX7_moveHome_180 hl (k := 3) rfl rfl (by decide) rfl (fun ls hl => ?_)
        refine lv_goto (tgt := 125) hx hb dX7_moveHome_183 (by decide) ?_
        exact ih _ _ _ _ _ hM (lv_sub hl [2, 3, 1, 0] rfl) hp
      refine lv_icmp_eq (tgt := 176) hx hb dX7_moveHome_169 (by decide) (fun c39 => ?_) (fun c39 => ?_)
      · replace hp := oT c39 hp
        refine lv_iconst (v := 0) hx hb dX7_moveHome_176 (by decide) ?_
        exact hk38 _ _ _ _ hM (lv_sub hl [0, 1, 3] rfl) hp
      · replace hp := oF c39 hp
        refine lv_iconst (v := 1) hx hb dX7_moveHome_172 (by decide) ?_
        refine lv_goto (tgt := 177) hx hb dX7_moveHome_173 (by decide) ?_
        exact hk38 _ _ _ _ hM (lv_sub hl [0, 1, 3] rfl) hp
def p_X7_moveHome (a0 : Nat) (a1 : Int32) (a2 : Int32) (a3 : Int32) (M : Mem) : Option (Int32 × Mem) :=
  (Option.bind (isC 6 M a0) fun _ =>
  (ob2 (p_X7_noChild a0 a1 M) fun v2 M3 =>
  (if v2 = 0 then
   (Option.bind (p_X7_inRange a2 (0 : Int32) (99 : Int32) M3) fun v5 =>
   (jn (fun (s6 : Int32) =>
    (Option.bind (isC 6 M3 a0) fun _ =>
    (ob2 (p_X7_fails a0 s6 (2 : Int32) M3) fun v9 M10 =>
    (if v9 = 0 then
     (Option.bind (isC 6 M10 a0) fun _ =>
     (Option.bind (p_X7_remembers a0 M10) fun M13 =>
     (pl_X7_moveHome_50
      (fun  (M23 : Mem) =>
       (Option.bind (gR 6 0 M23 a0) fun v24 =>
       (Option.bind (aIs M23 v24 ((124 : Int32) + a1) a2) fun M25 =>
       (Option.bind (gR 6 0 M25 a0) fun v26 =>
       (Option.bind (aIs M25 v26 ((164 : Int32) + a1) a3) fun M27 =>
       (pl_X7_moveHome_125
        (fun (z40 : Int32) =>
         (Option.bind (isC 6 M27 a0) fun _ =>
         (Option.bind (p_X7_fills a0 M27) fun M42 =>
         some (z40, M42)
         )
         )
        )
        a0 a1 M27 FU (0 : Int32) (0 : Int32))
       )
       )
       )
       )
      )
      a0 a1 a2 a3 FU (0 : Int32) M13)
     )
     )
    else
     some ((0 : Int32), M10)
    )
    )
    )
   ) fun k7 =>
   (if v5 = 0 then
    (k7 (1 : Int32))
   else
    (Option.bind (p_X7_inRange a3 (0 : Int32) (99 : Int32) M3) fun v44 =>
    (if v44 = 0 then
     (k7 (1 : Int32))
    else
     (k7 (0 : Int32))
    )
    )
   )
   )
   )
  else
   some ((0 : Int32), M3)
  )
  )
  )
theorem yk_X7_moveHome : yok yX7_moveHome 3 := by decide +kernel
set_option maxHeartbeats 4000000 in
set_option maxRecDepth 100000 in
theorem w_X7_moveHome {G : gG} (hG : GOK G) {l : Launch} {a0 : Nat} {a1 : Int32} {a2 : Int32} {a3 : Int32} {M : Mem} {r : Int32} {M' : Mem} (hp : p_X7_moveHome a0 a1 a2 a3 M = some (r, M')) : CT G l yX7_moveHome (wT yX7_moveHome cX7_moveHome 6 (some FieldType.int)) rm_X7_moveHome [.ref a0, .int a1, .int a2, .int a3] M (some (.int r)) M' 0 0 := by
  refine CT_of (own := RX7) (maxL := 6) (ret := (some FieldType.int)) hG (by decide) rfl (Nat.le_of_ble_eq_true rfl) (fun p e s m below meth c A C0 hr hlk hM ls hl => ?_)
  have hl : lv_has ls 6 [(0, .ref a0), (1, .int a1), (2, .int a2), (3, .int a3)] := hl
  generalize ([.ref a0, .int a1, .int a2, .int a3] : List Value).toArray = args at C0 ⊢
  skip
  have hx := C0.1
  have hb := C0.2.1
  have hown := C0.2.2.2.1
  have hts := C0.2.2.2.2.1
  unfold p_X7_moveHome at hp
  refine lv_aload_n hx hb dX7_moveHome_0 rfl (lv_at hl 0 rfl) ?_
  refine lv_iload_n hx hb dX7_moveHome_1 rfl (lv_at hl 1 rfl) ?_
  obtain ⟨_, h1, hp⟩ := ob hp
  obtain ⟨v2, M3, hv2, hp⟩ := ob3 hp
  refine mr_V1 (As := [.int a1]) (rest := []) C0 cbX7 hM h1 rfl (w_X7_noChild hG hv2) tw_1511 tw_1513 tws_42 tw_7 tw_1514 yk_X7_noChild (by decide) rfl hl.1 (Nat.le_of_ble_eq_true rfl) dX7_moveHome_2 rfl (fun H locs hM => ?_)
  refine lv_if_ne (tgt := 41) hx hb dX7_moveHome_5 (by decide) (fun c4 => ?_) (fun c4 => ?_)
  · replace hp := oF c4 hp
    refine lv_iconst (v := 0) hx hb dX7_moveHome_41 (by decide) ?_
    exact mr_iret C0 hr hlk hM (Prod.mk.inj (Option.some.inj hp)).2 (Prod.mk.inj (Option.some.inj hp)).1 (Nat.le_refl _) (Nat.le_refl _) dX7_moveHome_42
  · replace hp := oT c4 hp
    refine lv_aload_n hx hb dX7_moveHome_8 rfl (lv_at hl 0 rfl) ?_
    refine lv_iload_n hx hb dX7_moveHome_9 rfl (lv_at hl 2 rfl) ?_
    refine lv_iconst (v := 0) hx hb dX7_moveHome_10 (by decide) ?_
    refine lv_bipush (v := 99) hx hb dX7_moveHome_11 (by decide) ?_
    obtain ⟨v5, hv5, hp⟩ := ob hp
    refine mr_S1 (As := [.int a2, .int (0 : Int32), .int (99 : Int32)]) (rest := [.ref a0]) C0 hM (w_X7_inRange hG hv5) tw_1325 tw_1326 tw_7 tw_1327 yk_X7_inRange (by decide) rfl hl.1 (Nat.le_of_ble_eq_true rfl) dX7_moveHome_13 rfl (fun H locs hM => ?_)
    obtain ⟨k7, ek7, hp⟩ := ojn hp
    have hk7 : ∀ (s6 : Int32) (H : Heap) (locs : List Loc) (ls : Array Slot), mm G A s M3 H locs → lv_has ls 6 [(0, .ref a0), (1, .int a1), (2, .int a2), (3, .int a3)] → k7 s6 = some (r, M') → W p l e rm_X7_moveHome s m args below meth c H locs 0 0 (MQ below (CQ G M' (some (.int r)) A) args s 0 0 A) (F0 m 34 ls [.int s6, .ref a0]) := by
      intro s6 H locs ls hM hl hp
      rw [ek7] at hp
      refine lv_iconst (v := 2) hx hb dX7_moveHome_34 (by decide) ?_
      obtain ⟨_, h8, hp⟩ := ob hp
      obtain ⟨v9, M10, hv9, hp⟩ := ob3 hp
      refine mr_V1 (As := [.int s6, .int (2 : Int32)]) (rest := []) C0 cbX7 hM h8 rfl (w_X7_fails hG hv9) tw_1459 tw_1461 tws_32 tw_7 tw_1462 yk_X7_fails (by decide) rfl hl.1 (Nat.le_of_ble_eq_true rfl) dX7_moveHome_35 rfl (fun H locs hM => ?_)
      refine lv_if_eq (tgt := 43) hx hb dX7_moveHome_38 (by decide) (fun c11 => ?_) (fun c11 => ?_)
      · replace hp := oT c11 hp
        refine lv_aload_n hx hb dX7_moveHome_43 rfl (lv_at hl 0 rfl) ?_
        obtain ⟨_, h12, hp⟩ := ob hp
        obtain ⟨M13, hM13, hp⟩ := ob hp
        refine mr_V0 (As := []) (rest := []) C0 cbX7 hM h12 rfl (w_X7_remembers hG hM13) tw_1611 tw_1613 tws_54 tw_7 tw_1614 yk_X7_remembers (by decide) rfl hl.1 (Nat.le_of_ble_eq_true rfl) dX7_moveHome_44 rfl (fun H locs hM => ?_)
        refine lv_iconst (v := 0) hx hb dX7_moveHome_47 (by decide) ?_
        refine lv_istore (lv' := [(4, .int (0 : Int32)), (0, .ref a0), (1, .int a1), (2, .int a2), (3, .int a3)]) hx hb dX7_moveHome_48 hl (by decide) rfl (fun ls hl => ?_)
        refine wl_X7_moveHome_50 C0 hr hlk hG (fun M23 H locs ls hM hl hp => ?_) FU _ _ _ _ _ hM (lv_sub hl [1, 2, 3, 4, 0] rfl) hp
        refine lv_aload_n hx hb dX7_moveHome_98 rfl (lv_at hl 0 rfl) ?_
        obtain ⟨v24, hv24, hp⟩ := ob hp
        refine mr_getR C0 cbX7 hM 0 (by decide) tw_1224 hv24 dX7_moveHome_99 ?_
        refine lv_bipush (v := 124) hx hb dX7_moveHome_102 (by decide) ?_
        refine lv_iload_n hx hb dX7_moveHome_104 rfl (lv_at hl 1 rfl) ?_
        refine lv_iadd hx hb dX7_moveHome_105 ?_
        refine lv_iload_n hx hb dX7_moveHome_106 rfl (lv_at hl 2 rfl) ?_
        obtain ⟨M25, hM25, hp⟩ := ob hp
        refine mr_iast C0 hM hM25 dX7_moveHome_107 (fun H locs hM => ?_)
        refine lv_aload_n hx hb dX7_moveHome_108 rfl (lv_at hl 0 rfl) ?_
        obtain ⟨v26, hv26, hp⟩ := ob hp
        refine mr_getR C0 cbX7 hM 0 (by decide) tw_1224 hv26 dX7_moveHome_109 ?_
        refine lv_sipush (v := 164) hx hb dX7_moveHome_112 (by decide) ?_
        refine lv_iload_n hx hb dX7_moveHome_115 rfl (lv_at hl 1 rfl) ?_
        refine lv_iadd hx hb dX7_moveHome_116 ?_
        refine lv_iload_n hx hb dX7_moveHome_117 rfl (lv_at hl 3 rfl) ?_
        obtain ⟨M27, hM27, hp⟩ := ob hp
        refine mr_iast C0 hM hM27 dX7_moveHome_118 (fun H locs hM => ?_)
        refine lv_iconst (v := 0) hx hb dX7_moveHome_119 (by decide) ?_
        refine lv_istore (lv' := [(4, .int (0 : Int32)), (0, .ref a0), (1, .int a1), (2, .int a2), (3, .int a3)]) hx hb dX7_moveHome_120 hl (by decide) rfl (fun ls hl => ?_)
        refine lv_iconst (v := 0) hx hb dX7_moveHome_122 (by decide) ?_
        refine lv_istore (lv' := [(5, .int (0 : Int32)), (4, .int (0 : Int32)), (0, .ref a0), (1, .int a1), (2, .int a2), (3, .int a3)]) hx hb dX7_moveHome_123 hl (by decide) rfl (fun ls hl => ?_)
        refine wl_X7_moveHome_125 C0 hr hlk hG (fun z40 H locs ls hM hl hp => ?_) FU _ _ _ _ _ hM (lv_sub hl [2, 3, 1, 0] rfl) hp
        refine lv_aload_n hx hb dX7_moveHome_186 rfl (lv_at hl 0 rfl) ?_
        obtain ⟨_, h41, hp⟩ := ob hp
        obtain ⟨M42, hM42, hp⟩ := ob hp
        refine mr_V0 (As := []) (rest := []) C0 cbX7 hM h41 rfl (w_X7_fills hG hM42) tw_1647 tw_1649 tws_61 tw_7 tw_1650 yk_X7_fills (by decide) rfl hl.1 (Nat.le_of_ble_eq_true rfl) dX7_moveHome_187 rfl (fun H locs hM => ?_)
        refine lv_iload hx hb dX7_moveHome_190 (lv_at hl 1 rfl) ?_
        exact mr_iret C0 hr hlk hM (Prod.mk.inj (Option.some.inj hp)).2 (Prod.mk.inj (Option.some.inj hp)).1 (Nat.le_refl _) (Nat.le_refl _) dX7_moveHome_192
      · replace hp := oF c11 hp
        refine lv_iconst (v := 0) hx hb dX7_moveHome_41 (by decide) ?_
        exact mr_iret C0 hr hlk hM (Prod.mk.inj (Option.some.inj hp)).2 (Prod.mk.inj (Option.some.inj hp)).1 (Nat.le_refl _) (Nat.le_refl _) dX7_moveHome_42
    refine lv_if_eq (tgt := 29) hx hb dX7_moveHome_16 (by decide) (fun c43 => ?_) (fun c43 => ?_)
    · replace hp := oT c43 hp
      refine lv_iconst (v := 1) hx hb dX7_moveHome_29 (by decide) ?_
      refine lv_goto (tgt := 34) hx hb dX7_moveHome_30 (by decide) ?_
      exact hk7 _ _ _ _ hM (lv_sub hl [0, 1, 2, 3] rfl) hp
    · replace hp := oF c43 hp
      refine lv_iload_n hx hb dX7_moveHome_19 rfl (lv_at hl 3 rfl) ?_
      refine lv_iconst (v := 0) hx hb dX7_moveHome_20 (by decide) ?_
      refine lv_bipush (v := 99) hx hb dX7_moveHome_21 (by decide) ?_
      obtain ⟨v44, hv44, hp⟩ := ob hp
      refine mr_S1 (As := [.int a3, .int (0 : Int32), .int (99 : Int32)]) (rest := [.ref a0]) C0 hM (w_X7_inRange hG hv44) tw_1325 tw_1326 tw_7 tw_1327 yk_X7_inRange (by decide) rfl hl.1 (Nat.le_of_ble_eq_true rfl) dX7_moveHome_23 rfl (fun H locs hM => ?_)
      refine lv_if_ne (tgt := 33) hx hb dX7_moveHome_26 (by decide) (fun c45 => ?_) (fun c45 => ?_)
      · replace hp := oF c45 hp
        refine lv_iconst (v := 0) hx hb dX7_moveHome_33 (by decide) ?_
        exact hk7 _ _ _ _ hM (lv_sub hl [0, 1, 2, 3] rfl) hp
      · replace hp := oT c45 hp
        refine lv_iconst (v := 1) hx hb dX7_moveHome_29 (by decide) ?_
        refine lv_goto (tgt := 34) hx hb dX7_moveHome_30 (by decide) ?_
        exact hk7 _ _ _ _ hM (lv_sub hl [0, 1, 2, 3] rfl) hp
abbrev rm_X7_setCapacity : Room := { frames := 8, cells := 0, slots := 0, locals := 186 }
def p_X7_setCapacity (a0 : Nat) (a1 : Int32) (a2 : Int32) (M : Mem) : Option (Int32 × Mem) :=
  (Option.bind (isC 6 M a0) fun _ =>
  (ob2 (p_X7_noSchool a0 a1 M) fun v2 M3 =>
  (if v2 = 0 then
   (Option.bind (p_X7_inRange a2 (0 : Int32) (40 : Int32) M3) fun v5 =>
   (jn (fun (s6 : Int32) =>
    (Option.bind (isC 6 M3 a0) fun _ =>
    (ob2 (p_X7_fails a0 s6 (2 : Int32) M3) fun v9 M10 =>
    (if v9 = 0 then
     (Option.bind (isC 6 M10 a0) fun _ =>
     (Option.bind (p_X7_remembers a0 M10) fun M13 =>
     (Option.bind (gR 6 0 M13 a0) fun v14 =>
     (Option.bind (aI 0 M13 v14 ((20 : Int32) + a1)) fun v15 =>
     (Option.bind (gR 6 0 M13 a0) fun v16 =>
     (Option.bind (aIs M13 v16 ((20 : Int32) + a1) a2) fun M17 =>
     (Option.bind (isC 6 M17 a0) fun _ =>
     (Option.bind (p_X7_fills a0 M17) fun M19 =>
     some (v15, M19)
     )
     )
     )
     )
     )
     )
     )
     )
    else
     some ((0 : Int32), M10)
    )
    )
    )
   ) fun k7 =>
   (if v5 = 0 then
    (k7 (1 : Int32))
   else
    (k7 (0 : Int32))
   )
   )
   )
  else
   some ((0 : Int32), M3)
  )
  )
  )
theorem yk_X7_setCapacity : yok yX7_setCapacity 2 := by decide +kernel
set_option maxHeartbeats 4000000 in
set_option maxRecDepth 100000 in
theorem w_X7_setCapacity {G : gG} (hG : GOK G) {l : Launch} {a0 : Nat} {a1 : Int32} {a2 : Int32} {M : Mem} {r : Int32} {M' : Mem} (hp : p_X7_setCapacity a0 a1 a2 M = some (r, M')) : CT G l yX7_setCapacity (wT yX7_setCapacity cX7_setCapacity 4 (some FieldType.int)) rm_X7_setCapacity [.ref a0, .int a1, .int a2] M (some (.int r)) M' 0 0 := by
  refine CT_of (own := RX7) (maxL := 4) (ret := (some FieldType.int)) hG (by decide) rfl (Nat.le_of_ble_eq_true rfl) (fun p e s m below meth c A C0 hr hlk hM ls hl => ?_)
  have hl : lv_has ls 4 [(0, .ref a0), (1, .int a1), (2, .int a2)] := hl
  generalize ([.ref a0, .int a1, .int a2] : List Value).toArray = args at C0 ⊢
  skip
  have hx := C0.1
  have hb := C0.2.1
  have hown := C0.2.2.2.1
  have hts := C0.2.2.2.2.1
  unfold p_X7_setCapacity at hp
  refine lv_aload_n hx hb dX7_setCapacity_0 rfl (lv_at hl 0 rfl) ?_
  refine lv_iload_n hx hb dX7_setCapacity_1 rfl (lv_at hl 1 rfl) ?_
  obtain ⟨_, h1, hp⟩ := ob hp
  obtain ⟨v2, M3, hv2, hp⟩ := ob3 hp
  refine mr_V1 (As := [.int a1]) (rest := []) C0 cbX7 hM h1 rfl (w_X7_noSchool hG hv2) tw_1471 tw_1473 tws_34 tw_7 tw_1474 yk_X7_noSchool (by decide) rfl hl.1 (Nat.le_of_ble_eq_true rfl) dX7_setCapacity_2 rfl (fun H locs hM => ?_)
  refine lv_if_ne (tgt := 31) hx hb dX7_setCapacity_5 (by decide) (fun c4 => ?_) (fun c4 => ?_)
  · replace hp := oF c4 hp
    refine lv_iconst (v := 0) hx hb dX7_setCapacity_31 (by decide) ?_
    exact mr_iret C0 hr hlk hM (Prod.mk.inj (Option.some.inj hp)).2 (Prod.mk.inj (Option.some.inj hp)).1 (Nat.le_refl _) (Nat.le_refl _) dX7_setCapacity_32
  · replace hp := oT c4 hp
    refine lv_aload_n hx hb dX7_setCapacity_8 rfl (lv_at hl 0 rfl) ?_
    refine lv_iload_n hx hb dX7_setCapacity_9 rfl (lv_at hl 2 rfl) ?_
    refine lv_iconst (v := 0) hx hb dX7_setCapacity_10 (by decide) ?_
    refine lv_bipush (v := 40) hx hb dX7_setCapacity_11 (by decide) ?_
    obtain ⟨v5, hv5, hp⟩ := ob hp
    refine mr_S1 (As := [.int a2, .int (0 : Int32), .int (40 : Int32)]) (rest := [.ref a0]) C0 hM (w_X7_inRange hG hv5) tw_1325 tw_1326 tw_7 tw_1327 yk_X7_inRange (by decide) rfl hl.1 (Nat.le_of_ble_eq_true rfl) dX7_setCapacity_13 rfl (fun H locs hM => ?_)
    obtain ⟨k7, ek7, hp⟩ := ojn hp
    have hk7 : ∀ (s6 : Int32) (H : Heap) (locs : List Loc) (ls : Array Slot), mm G A s M3 H locs → lv_has ls 4 [(0, .ref a0), (1, .int a1), (2, .int a2)] → k7 s6 = some (r, M') → W p l e rm_X7_setCapacity s m args below meth c H locs 0 0 (MQ below (CQ G M' (some (.int r)) A) args s 0 0 A) (F0 m 24 ls [.int s6, .ref a0]) := by
      intro s6 H locs ls hM hl hp
      rw [ek7] at hp
      refine lv_iconst (v := 2) hx hb dX7_setCapacity_24 (by decide) ?_
      obtain ⟨_, h8, hp⟩ := ob hp
      obtain ⟨v9, M10, hv9, hp⟩ := ob3 hp
      refine mr_V1 (As := [.int s6, .int (2 : Int32)]) (rest := []) C0 cbX7 hM h8 rfl (w_X7_fails hG hv9) tw_1459 tw_1461 tws_32 tw_7 tw_1462 yk_X7_fails (by decide) rfl hl.1 (Nat.le_of_ble_eq_true rfl) dX7_setCapacity_25 rfl (fun H locs hM => ?_)
      refine lv_if_eq (tgt := 33) hx hb dX7_setCapacity_28 (by decide) (fun c11 => ?_) (fun c11 => ?_)
      · replace hp := oT c11 hp
        refine lv_aload_n hx hb dX7_setCapacity_33 rfl (lv_at hl 0 rfl) ?_
        obtain ⟨_, h12, hp⟩ := ob hp
        obtain ⟨M13, hM13, hp⟩ := ob hp
        refine mr_V0 (As := []) (rest := []) C0 cbX7 hM h12 rfl (w_X7_remembers hG hM13) tw_1611 tw_1613 tws_54 tw_7 tw_1614 yk_X7_remembers (by decide) rfl hl.1 (Nat.le_of_ble_eq_true rfl) dX7_setCapacity_34 rfl (fun H locs hM => ?_)
        refine lv_aload_n hx hb dX7_setCapacity_37 rfl (lv_at hl 0 rfl) ?_
        obtain ⟨v14, hv14, hp⟩ := ob hp
        refine mr_getR C0 cbX7 hM 0 (by decide) tw_1224 hv14 dX7_setCapacity_38 ?_
        refine lv_bipush (v := 20) hx hb dX7_setCapacity_41 (by decide) ?_
        refine lv_iload_n hx hb dX7_setCapacity_43 rfl (lv_at hl 1 rfl) ?_
        refine lv_iadd hx hb dX7_setCapacity_44 ?_
        obtain ⟨v15, hv15, hp⟩ := ob hp
        refine mr_iald C0 hM hv15 dX7_setCapacity_45 ?_
        refine lv_istore_n (lv' := [(3, .int v15), (0, .ref a0), (1, .int a1), (2, .int a2)]) hx hb dX7_setCapacity_46 rfl hl (by decide) rfl (fun ls hl => ?_)
        refine lv_aload_n hx hb dX7_setCapacity_47 rfl (lv_at hl 1 rfl) ?_
        obtain ⟨v16, hv16, hp⟩ := ob hp
        refine mr_getR C0 cbX7 hM 0 (by decide) tw_1224 hv16 dX7_setCapacity_48 ?_
        refine lv_bipush (v := 20) hx hb dX7_setCapacity_51 (by decide) ?_
        refine lv_iload_n hx hb dX7_setCapacity_53 rfl (lv_at hl 2 rfl) ?_
        refine lv_iadd hx hb dX7_setCapacity_54 ?_
        refine lv_iload_n hx hb dX7_setCapacity_55 rfl (lv_at hl 3 rfl) ?_
        obtain ⟨M17, hM17, hp⟩ := ob hp
        refine mr_iast C0 hM hM17 dX7_setCapacity_56 (fun H locs hM => ?_)
        refine lv_aload_n hx hb dX7_setCapacity_57 rfl (lv_at hl 1 rfl) ?_
        obtain ⟨_, h18, hp⟩ := ob hp
        obtain ⟨M19, hM19, hp⟩ := ob hp
        refine mr_V0 (As := []) (rest := []) C0 cbX7 hM h18 rfl (w_X7_fills hG hM19) tw_1647 tw_1649 tws_61 tw_7 tw_1650 yk_X7_fills (by decide) rfl hl.1 (Nat.le_of_ble_eq_true rfl) dX7_setCapacity_58 rfl (fun H locs hM => ?_)
        refine lv_iload_n hx hb dX7_setCapacity_61 rfl (lv_at hl 0 rfl) ?_
        exact mr_iret C0 hr hlk hM (Prod.mk.inj (Option.some.inj hp)).2 (Prod.mk.inj (Option.some.inj hp)).1 (Nat.le_refl _) (Nat.le_refl _) dX7_setCapacity_62
      · replace hp := oF c11 hp
        refine lv_iconst (v := 0) hx hb dX7_setCapacity_31 (by decide) ?_
        exact mr_iret C0 hr hlk hM (Prod.mk.inj (Option.some.inj hp)).2 (Prod.mk.inj (Option.some.inj hp)).1 (Nat.le_refl _) (Nat.le_refl _) dX7_setCapacity_32
    refine lv_if_ne (tgt := 23) hx hb dX7_setCapacity_16 (by decide) (fun c20 => ?_) (fun c20 => ?_)
    · replace hp := oF c20 hp
      refine lv_iconst (v := 0) hx hb dX7_setCapacity_23 (by decide) ?_
      exact hk7 _ _ _ _ hM (lv_sub hl [0, 1, 2] rfl) hp
    · replace hp := oT c20 hp
      refine lv_iconst (v := 1) hx hb dX7_setCapacity_19 (by decide) ?_
      refine lv_goto (tgt := 24) hx hb dX7_setCapacity_20 (by decide) ?_
      exact hk7 _ _ _ _ hM (lv_sub hl [0, 1, 2] rfl) hp
abbrev rm_X7_appeal : Room := { frames := 8, cells := 0, slots := 0, locals := 186 }
def p_X7_appeal (a0 : Nat) (a1 : Int32) (a2 : Int32) (M : Mem) : Option (Int32 × Mem) :=
  (Option.bind (isC 6 M a0) fun _ =>
  (ob2 (p_X7_noneOf a0 a1 a2 M) fun v2 M3 =>
  (if v2 = 0 then
   (Option.bind (isC 6 M3 a0) fun _ =>
   (Option.bind (p_X7_waits a0 a1 a2 M3) fun v6 =>
   (jn (fun (s7 : Int32) =>
    (Option.bind (isC 6 M3 a0) fun _ =>
    (ob2 (p_X7_fails a0 s7 (2 : Int32) M3) fun v10 M11 =>
    (if v10 = 0 then
     (Option.bind (isC 6 M11 a0) fun _ =>
     (Option.bind (p_X7_remembers a0 M11) fun M14 =>
     (Option.bind (isC 6 M14 a0) fun _ =>
     (Option.bind (p_X7_claims a0 a1 a2 M14) fun v16 =>
     (jn (fun (s17 : Int32) =>
      (jn (fun  (M19 : Mem) =>
       (jn (fun  (M21 : Mem) =>
        (Option.bind (isC 6 M21 a0) fun _ =>
        (Option.bind (p_X7_fills a0 M21) fun M24 =>
        some (s17, M24)
        )
        )
       ) fun k22 =>
       (if s17 ≤ 0 then
        (k22  M19)
       else
        (Option.bind (isC 6 M19 a0) fun _ =>
        (Option.bind (p_X7_puts a0 a1 a2 (1 : Int32) M19) fun M27 =>
        (k22  M27)
        )
        )
       )
       )
      ) fun k20 =>
      (if s17 = (1 : Int32) then
       (Option.bind (gR 6 0 M14 a0) fun v29 =>
       (Option.bind (aI 0 M14 v29 ((60 : Int32) + a2)) fun v30 =>
       (Option.bind (aIs M14 v29 ((60 : Int32) + a2) (v30 + (1 : Int32))) fun M31 =>
       (k20  M31)
       )
       )
       )
      else
       (k20  M14)
      )
      )
     ) fun k18 =>
     (if v16 = 0 then
      (Option.bind (gR 6 0 M14 a0) fun v33 =>
      (Option.bind (aI 0 M14 v33 ((60 : Int32) + a2)) fun v34 =>
      (Option.bind (gR 6 0 M14 a0) fun v35 =>
      (Option.bind (aI 0 M14 v35 (6 : Int32)) fun v36 =>
      (if v36 ≤ v34 then
       (k18 (0 : Int32))
      else
       (k18 (1 : Int32))
      )
      )
      )
      )
      )
     else
      (k18 (2 : Int32))
     )
     )
     )
     )
     )
     )
    else
     some ((0 : Int32), M11)
    )
    )
    )
   ) fun k8 =>
   (if v6 = 0 then
    (k8 (1 : Int32))
   else
    (k8 (0 : Int32))
   )
   )
   )
   )
  else
   some ((0 : Int32), M3)
  )
  )
  )
theorem yk_X7_appeal : yok yX7_appeal 2 := by decide +kernel
set_option maxHeartbeats 4000000 in
set_option maxRecDepth 100000 in
theorem w_X7_appeal {G : gG} (hG : GOK G) {l : Launch} {a0 : Nat} {a1 : Int32} {a2 : Int32} {M : Mem} {r : Int32} {M' : Mem} (hp : p_X7_appeal a0 a1 a2 M = some (r, M')) : CT G l yX7_appeal (wT yX7_appeal cX7_appeal 4 (some FieldType.int)) rm_X7_appeal [.ref a0, .int a1, .int a2] M (some (.int r)) M' 0 0 := by
  refine CT_of (own := RX7) (maxL := 4) (ret := (some FieldType.int)) hG (by decide) rfl (Nat.le_of_ble_eq_true rfl) (fun p e s m below meth c A C0 hr hlk hM ls hl => ?_)
  have hl : lv_has ls 4 [(0, .ref a0), (1, .int a1), (2, .int a2)] := hl
  generalize ([.ref a0, .int a1, .int a2] : List Value).toArray = args at C0 ⊢
  skip
  have hx := C0.1
  have hb := C0.2.1
  have hown := C0.2.2.2.1
  have hts := C0.2.2.2.2.1
  unfold p_X7_appeal at hp
  refine lv_aload_n hx hb dX7_appeal_0 rfl (lv_at hl 0 rfl) ?_
  refine lv_iload_n hx hb dX7_appeal_1 rfl (lv_at hl 1 rfl) ?_
  refine lv_iload_n hx hb dX7_appeal_2 rfl (lv_at hl 2 rfl) ?_
  obtain ⟨_, h1, hp⟩ := ob hp
  obtain ⟨v2, M3, hv2, hp⟩ := ob3 hp
  refine mr_V1 (As := [.int a1, .int a2]) (rest := []) C0 cbX7 hM h1 rfl (w_X7_noneOf hG hv2) tw_1531 tw_1533 tws_43 tw_7 tw_1534 yk_X7_noneOf (by decide) rfl hl.1 (Nat.le_of_ble_eq_true rfl) dX7_appeal_3 rfl (fun H locs hM => ?_)
  refine lv_if_ne (tgt := 31) hx hb dX7_appeal_6 (by decide) (fun c4 => ?_) (fun c4 => ?_)
  · replace hp := oF c4 hp
    refine lv_iconst (v := 0) hx hb dX7_appeal_31 (by decide) ?_
    exact mr_iret C0 hr hlk hM (Prod.mk.inj (Option.some.inj hp)).2 (Prod.mk.inj (Option.some.inj hp)).1 (Nat.le_refl _) (Nat.le_refl _) dX7_appeal_32
  · replace hp := oT c4 hp
    refine lv_aload_n hx hb dX7_appeal_9 rfl (lv_at hl 0 rfl) ?_
    refine lv_aload_n hx hb dX7_appeal_10 rfl (lv_at hl 0 rfl) ?_
    refine lv_iload_n hx hb dX7_appeal_11 rfl (lv_at hl 1 rfl) ?_
    refine lv_iload_n hx hb dX7_appeal_12 rfl (lv_at hl 2 rfl) ?_
    obtain ⟨_, h5, hp⟩ := ob hp
    obtain ⟨v6, hv6, hp⟩ := ob hp
    refine mr_V1 (As := [.int a1, .int a2]) (rest := [.ref a0]) C0 cbX7 hM h5 rfl (w_X7_waits hG hv6) tw_1491 tw_1493 tws_39 tw_7 tw_1494 yk_X7_waits (by decide) rfl hl.1 (Nat.le_of_ble_eq_true rfl) dX7_appeal_13 rfl (fun H locs hM => ?_)
    obtain ⟨k8, ek8, hp⟩ := ojn hp
    have hk8 : ∀ (s7 : Int32) (H : Heap) (locs : List Loc) (ls : Array Slot), mm G A s M3 H locs → lv_has ls 4 [(0, .ref a0), (1, .int a1), (2, .int a2)] → k8 s7 = some (r, M') → W p l e rm_X7_appeal s m args below meth c H locs 0 0 (MQ below (CQ G M' (some (.int r)) A) args s 0 0 A) (F0 m 24 ls [.int s7, .ref a0]) := by
      intro s7 H locs ls hM hl hp
      rw [ek8] at hp
      refine lv_iconst (v := 2) hx hb dX7_appeal_24 (by decide) ?_
      obtain ⟨_, h9, hp⟩ := ob hp
      obtain ⟨v10, M11, hv10, hp⟩ := ob3 hp
      refine mr_V1 (As := [.int s7, .int (2 : Int32)]) (rest := []) C0 cbX7 hM h9 rfl (w_X7_fails hG hv10) tw_1459 tw_1461 tws_32 tw_7 tw_1462 yk_X7_fails (by decide) rfl hl.1 (Nat.le_of_ble_eq_true rfl) dX7_appeal_25 rfl (fun H locs hM => ?_)
      refine lv_if_eq (tgt := 33) hx hb dX7_appeal_28 (by decide) (fun c12 => ?_) (fun c12 => ?_)
      · replace hp := oT c12 hp
        refine lv_aload_n hx hb dX7_appeal_33 rfl (lv_at hl 0 rfl) ?_
        obtain ⟨_, h13, hp⟩ := ob hp
        obtain ⟨M14, hM14, hp⟩ := ob hp
        refine mr_V0 (As := []) (rest := []) C0 cbX7 hM h13 rfl (w_X7_remembers hG hM14) tw_1611 tw_1613 tws_54 tw_7 tw_1614 yk_X7_remembers (by decide) rfl hl.1 (Nat.le_of_ble_eq_true rfl) dX7_appeal_34 rfl (fun H locs hM => ?_)
        refine lv_aload_n hx hb dX7_appeal_37 rfl (lv_at hl 0 rfl) ?_
        refine lv_iload_n hx hb dX7_appeal_38 rfl (lv_at hl 1 rfl) ?_
        refine lv_iload_n hx hb dX7_appeal_39 rfl (lv_at hl 2 rfl) ?_
        obtain ⟨_, h15, hp⟩ := ob hp
        obtain ⟨v16, hv16, hp⟩ := ob hp
        refine mr_V1 (As := [.int a1, .int a2]) (rest := []) C0 cbX7 hM h15 rfl (w_X7_claims hG hv16) tw_1599 tw_1601 tws_53 tw_7 tw_1602 yk_X7_claims (by decide) rfl hl.1 (Nat.le_of_ble_eq_true rfl) dX7_appeal_40 rfl (fun H locs hM => ?_)
        obtain ⟨k18, ek18, hp⟩ := ojn hp
        have hk18 : ∀ (s17 : Int32) (H : Heap) (locs : List Loc) (ls : Array Slot), mm G A s M14 H locs → lv_has ls 4 [(0, .ref a0), (1, .int a1), (2, .int a2)] → k18 s17 = some (r, M') → W p l e rm_X7_appeal s m args below meth c H locs 0 0 (MQ below (CQ G M' (some (.int r)) A) args s 0 0 A) (F0 m 74 ls [.int s17]) := by
          intro s17 H locs ls hM hl hp
          rw [ek18] at hp
          refine lv_istore_n (lv' := [(3, .int s17), (0, .ref a0), (1, .int a1), (2, .int a2)]) hx hb dX7_appeal_74 rfl hl (by decide) rfl (fun ls hl => ?_)
          refine lv_iload_n hx hb dX7_appeal_75 rfl (lv_at hl 0 rfl) ?_
          refine lv_iconst (v := 1) hx hb dX7_appeal_76 (by decide) ?_
          obtain ⟨k20, ek20, hp⟩ := ojn hp
          have hk20 : ∀ (M19 : Mem) (H : Heap) (locs : List Loc) (ls : Array Slot), mm G A s M19 H locs → lv_has ls 4 [(0, .ref a0), (1, .int a1), (2, .int a2), (3, .int s17)] → k20  M19 = some (r, M') → W p l e rm_X7_appeal s m args below meth c H locs 0 0 (MQ below (CQ G M' (some (.int r)) A) args s 0 0 A) (F0 m 93 ls []) := by
            intro  M19 H locs ls hM hl hp
            rw [ek20] at hp
            refine lv_iload_n hx hb dX7_appeal_93 rfl (lv_at hl 3 rfl) ?_
            obtain ⟨k22, ek22, hp⟩ := ojn hp
            have hk22 : ∀ (M21 : Mem) (H : Heap) (locs : List Loc) (ls : Array Slot), mm G A s M21 H locs → lv_has ls 4 [(0, .ref a0), (3, .int s17)] → k22  M21 = some (r, M') → W p l e rm_X7_appeal s m args below meth c H locs 0 0 (MQ below (CQ G M' (some (.int r)) A) args s 0 0 A) (F0 m 104 ls []) := by
              intro  M21 H locs ls hM hl hp
              rw [ek22] at hp
              refine lv_aload_n hx hb dX7_appeal_104 rfl (lv_at hl 0 rfl) ?_
              obtain ⟨_, h23, hp⟩ := ob hp
              obtain ⟨M24, hM24, hp⟩ := ob hp
              refine mr_V0 (As := []) (rest := []) C0 cbX7 hM h23 rfl (w_X7_fills hG hM24) tw_1647 tw_1649 tws_61 tw_7 tw_1650 yk_X7_fills (by decide) rfl hl.1 (Nat.le_of_ble_eq_true rfl) dX7_appeal_105 rfl (fun H locs hM => ?_)
              refine lv_iload_n hx hb dX7_appeal_108 rfl (lv_at hl 1 rfl) ?_
              exact mr_iret C0 hr hlk hM (Prod.mk.inj (Option.some.inj hp)).2 (Prod.mk.inj (Option.some.inj hp)).1 (Nat.le_refl _) (Nat.le_refl _) dX7_appeal_109
            refine lv_if_le (tgt := 104) hx hb dX7_appeal_94 (by decide) (fun c25 => ?_) (fun c25 => ?_)
            · replace hp := oT c25 hp
              exact hk22  _ _ _ _ hM (lv_sub hl [0, 3] rfl) hp
            · replace hp := oF c25 hp
              refine lv_aload_n hx hb dX7_appeal_97 rfl (lv_at hl 0 rfl) ?_
              refine lv_iload_n hx hb dX7_appeal_98 rfl (lv_at hl 1 rfl) ?_
              refine lv_iload_n hx hb dX7_appeal_99 rfl (lv_at hl 2 rfl) ?_
              refine lv_iconst (v := 1) hx hb dX7_appeal_100 (by decide) ?_
              obtain ⟨_, h26, hp⟩ := ob hp
              obtain ⟨M27, hM27, hp⟩ := ob hp
              refine mr_V0 (As := [.int a1, .int a2, .int (1 : Int32)]) (rest := []) C0 cbX7 hM h26 rfl (w_X7_puts hG hM27) tw_1619 tw_1621 tws_56 tw_7 tw_1622 yk_X7_puts (by decide) rfl hl.1 (Nat.le_of_ble_eq_true rfl) dX7_appeal_101 rfl (fun H locs hM => ?_)
              exact hk22  _ _ _ _ hM (lv_sub hl [0, 3] rfl) hp
          refine lv_icmp_ne (tgt := 93) hx hb dX7_appeal_77 (by decide) (fun c28 => ?_) (fun c28 => ?_)
          · replace hp := oF c28 hp
            exact hk20  _ _ _ _ hM (lv_sub hl [1, 2, 3, 0] rfl) hp
          · replace hp := oT c28 hp
            refine lv_aload_n hx hb dX7_appeal_80 rfl (lv_at hl 1 rfl) ?_
            obtain ⟨v29, hv29, hp⟩ := ob hp
            refine mr_getR C0 cbX7 hM 0 (by decide) tw_1224 hv29 dX7_appeal_81 ?_
            refine lv_bipush (v := 60) hx hb dX7_appeal_84 (by decide) ?_
            refine lv_iload_n hx hb dX7_appeal_86 rfl (lv_at hl 3 rfl) ?_
            refine lv_iadd hx hb dX7_appeal_87 ?_
            refine lv_dup2_11 hx hb dX7_appeal_88 rfl rfl ?_
            obtain ⟨v30, hv30, hp⟩ := ob hp
            refine mr_iald C0 hM hv30 dX7_appeal_89 ?_
            refine lv_iconst (v := 1) hx hb dX7_appeal_90 (by decide) ?_
            refine lv_iadd hx hb dX7_appeal_91 ?_
            obtain ⟨M31, hM31, hp⟩ := ob hp
            refine mr_iast C0 hM hM31 dX7_appeal_92 (fun H locs hM => ?_)
            exact hk20  _ _ _ _ hM (lv_sub hl [1, 2, 3, 0] rfl) hp
        refine lv_if_eq (tgt := 50) hx hb dX7_appeal_43 (by decide) (fun c32 => ?_) (fun c32 => ?_)
        · replace hp := oT c32 hp
          refine lv_aload_n hx hb dX7_appeal_50 rfl (lv_at hl 0 rfl) ?_
          obtain ⟨v33, hv33, hp⟩ := ob hp
          refine mr_getR C0 cbX7 hM 0 (by decide) tw_1224 hv33 dX7_appeal_51 ?_
          refine lv_bipush (v := 60) hx hb dX7_appeal_54 (by decide) ?_
          refine lv_iload_n hx hb dX7_appeal_56 rfl (lv_at hl 2 rfl) ?_
          refine lv_iadd hx hb dX7_appeal_57 ?_
          obtain ⟨v34, hv34, hp⟩ := ob hp
          refine mr_iald C0 hM hv34 dX7_appeal_58 ?_
          refine lv_aload_n hx hb dX7_appeal_59 rfl (lv_at hl 0 rfl) ?_
          obtain ⟨v35, hv35, hp⟩ := ob hp
          refine mr_getR C0 cbX7 hM 0 (by decide) tw_1224 hv35 dX7_appeal_60 ?_
          refine lv_bipush (v := 6) hx hb dX7_appeal_63 (by decide) ?_
          obtain ⟨v36, hv36, hp⟩ := ob hp
          refine mr_iald C0 hM hv36 dX7_appeal_65 ?_
          refine lv_icmp_ge (tgt := 73) hx hb dX7_appeal_66 (by decide) (fun c37 => ?_) (fun c37 => ?_)
          · replace hp := oT c37 hp
            refine lv_iconst (v := 0) hx hb dX7_appeal_73 (by decide) ?_
            exact hk18 _ _ _ _ hM (lv_sub hl [0, 1, 2] rfl) hp
          · replace hp := oF c37 hp
            refine lv_iconst (v := 1) hx hb dX7_appeal_69 (by decide) ?_
            refine lv_goto (tgt := 74) hx hb dX7_appeal_70 (by decide) ?_
            exact hk18 _ _ _ _ hM (lv_sub hl [0, 1, 2] rfl) hp
        · replace hp := oF c32 hp
          refine lv_iconst (v := 2) hx hb dX7_appeal_46 (by decide) ?_
          refine lv_goto (tgt := 74) hx hb dX7_appeal_47 (by decide) ?_
          exact hk18 _ _ _ _ hM (lv_sub hl [0, 1, 2] rfl) hp
      · replace hp := oF c12 hp
        refine lv_iconst (v := 0) hx hb dX7_appeal_31 (by decide) ?_
        exact mr_iret C0 hr hlk hM (Prod.mk.inj (Option.some.inj hp)).2 (Prod.mk.inj (Option.some.inj hp)).1 (Nat.le_refl _) (Nat.le_refl _) dX7_appeal_32
    refine lv_if_ne (tgt := 23) hx hb dX7_appeal_16 (by decide) (fun c38 => ?_) (fun c38 => ?_)
    · replace hp := oF c38 hp
      refine lv_iconst (v := 0) hx hb dX7_appeal_23 (by decide) ?_
      exact hk8 _ _ _ _ hM (lv_sub hl [0, 1, 2] rfl) hp
    · replace hp := oT c38 hp
      refine lv_iconst (v := 1) hx hb dX7_appeal_19 (by decide) ?_
      refine lv_goto (tgt := 24) hx hb dX7_appeal_20 (by decide) ?_
      exact hk8 _ _ _ _ hM (lv_sub hl [0, 1, 2] rfl) hp
abbrev rm_X7_setLate : Room := { frames := 8, cells := 0, slots := 0, locals := 186 }
def p_X7_setLate (a0 : Nat) (a1 : Int32) (M : Mem) : Option (Int32 × Mem) :=
  (Option.bind (sV 6 9 M a0 (.int (0 : Int32))) fun M1 =>
  (Option.bind (isC 6 M1 a0) fun _ =>
  (Option.bind (p_X7_remembers a0 M1) fun M3 =>
  (Option.bind (gR 6 0 M3 a0) fun v4 =>
  (Option.bind (aI 0 M3 v4 (7 : Int32)) fun v5 =>
  (jn (fun (s6 : Int32) =>
   (Option.bind (gR 6 0 M3 a0) fun v8 =>
   (jn (fun (s9 : Int32) =>
    (Option.bind (aIs M3 v8 (7 : Int32) s9) fun M11 =>
    (Option.bind (isC 6 M11 a0) fun _ =>
    (Option.bind (p_X7_fills a0 M11) fun M13 =>
    (if s6 = 0 ∨ s6 = 1 then some (s6, M13) else none)
    )
    )
    )
   ) fun k10 =>
   (if a1 = 0 then
    (k10 (0 : Int32))
   else
    (k10 (1 : Int32))
   )
   )
   )
  ) fun k7 =>
  (if v5 = (1 : Int32) then
   (k7 (1 : Int32))
  else
   (k7 (0 : Int32))
  )
  )
  )
  )
  )
  )
  )
theorem yk_X7_setLate : yok yX7_setLate 1 := by decide +kernel
set_option maxHeartbeats 4000000 in
set_option maxRecDepth 100000 in
theorem w_X7_setLate {G : gG} (hG : GOK G) {l : Launch} {a0 : Nat} {a1 : Int32} {M : Mem} {r : Int32} {M' : Mem} (hp : p_X7_setLate a0 a1 M = some (r, M')) : CT G l yX7_setLate (wT yX7_setLate cX7_setLate 3 (some FieldType.boolean)) rm_X7_setLate [.ref a0, .int a1] M (some (.int r)) M' 0 0 := by
  refine CT_of (own := RX7) (maxL := 3) (ret := (some FieldType.boolean)) hG (by decide) rfl (Nat.le_of_ble_eq_true rfl) (fun p e s m below meth c A C0 hr hlk hM ls hl => ?_)
  have hl : lv_has ls 3 [(0, .ref a0), (1, .int a1)] := hl
  generalize ([.ref a0, .int a1] : List Value).toArray = args at C0 ⊢
  skip
  have hx := C0.1
  have hb := C0.2.1
  have hown := C0.2.2.2.1
  have hts := C0.2.2.2.2.1
  unfold p_X7_setLate at hp
  refine lv_aload_n hx hb dX7_setLate_0 rfl (lv_at hl 0 rfl) ?_
  refine lv_iconst (v := 0) hx hb dX7_setLate_1 (by decide) ?_
  obtain ⟨M1, hM1, hp⟩ := ob hp
  refine mr_putI C0 cbX7 hM 9 (by decide) rfl rfl tw_1233 hM1 dX7_setLate_2 (fun H locs hM => ?_)
  refine lv_aload_n hx hb dX7_setLate_5 rfl (lv_at hl 0 rfl) ?_
  obtain ⟨_, h2, hp⟩ := ob hp
  obtain ⟨M3, hM3, hp⟩ := ob hp
  refine mr_V0 (As := []) (rest := []) C0 cbX7 hM h2 rfl (w_X7_remembers hG hM3) tw_1611 tw_1613 tws_54 tw_7 tw_1614 yk_X7_remembers (by decide) rfl hl.1 (Nat.le_of_ble_eq_true rfl) dX7_setLate_6 rfl (fun H locs hM => ?_)
  refine lv_aload_n hx hb dX7_setLate_9 rfl (lv_at hl 0 rfl) ?_
  obtain ⟨v4, hv4, hp⟩ := ob hp
  refine mr_getR C0 cbX7 hM 0 (by decide) tw_1224 hv4 dX7_setLate_10 ?_
  refine lv_bipush (v := 7) hx hb dX7_setLate_13 (by decide) ?_
  obtain ⟨v5, hv5, hp⟩ := ob hp
  refine mr_iald C0 hM hv5 dX7_setLate_15 ?_
  refine lv_iconst (v := 1) hx hb dX7_setLate_16 (by decide) ?_
  obtain ⟨k7, ek7, hp⟩ := ojn hp
  have hk7 : ∀ (s6 : Int32) (H : Heap) (locs : List Loc) (ls : Array Slot), mm G A s M3 H locs → lv_has ls 3 [(0, .ref a0), (1, .int a1)] → k7 s6 = some (r, M') → W p l e rm_X7_setLate s m args below meth c H locs 0 0 (MQ below (CQ G M' (some (.int r)) A) args s 0 0 A) (F0 m 25 ls [.int s6]) := by
    intro s6 H locs ls hM hl hp
    rw [ek7] at hp
    refine lv_istore_n (lv' := [(2, .int s6), (0, .ref a0), (1, .int a1)]) hx hb dX7_setLate_25 rfl hl (by decide) rfl (fun ls hl => ?_)
    refine lv_aload_n hx hb dX7_setLate_26 rfl (lv_at hl 1 rfl) ?_
    obtain ⟨v8, hv8, hp⟩ := ob hp
    refine mr_getR C0 cbX7 hM 0 (by decide) tw_1224 hv8 dX7_setLate_27 ?_
    refine lv_bipush (v := 7) hx hb dX7_setLate_30 (by decide) ?_
    refine lv_iload_n hx hb dX7_setLate_32 rfl (lv_at hl 2 rfl) ?_
    obtain ⟨k10, ek10, hp⟩ := ojn hp
    have hk10 : ∀ (s9 : Int32) (H : Heap) (locs : List Loc) (ls : Array Slot), mm G A s M3 H locs → lv_has ls 3 [(0, .ref a0), (2, .int s6)] → k10 s9 = some (r, M') → W p l e rm_X7_setLate s m args below meth c H locs 0 0 (MQ below (CQ G M' (some (.int r)) A) args s 0 0 A) (F0 m 41 ls [.int s9, .int (7 : Int32), .ref v8]) := by
      intro s9 H locs ls hM hl hp
      rw [ek10] at hp
      obtain ⟨M11, hM11, hp⟩ := ob hp
      refine mr_iast C0 hM hM11 dX7_setLate_41 (fun H locs hM => ?_)
      refine lv_aload_n hx hb dX7_setLate_42 rfl (lv_at hl 0 rfl) ?_
      obtain ⟨_, h12, hp⟩ := ob hp
      obtain ⟨M13, hM13, hp⟩ := ob hp
      refine mr_V0 (As := []) (rest := []) C0 cbX7 hM h12 rfl (w_X7_fills hG hM13) tw_1647 tw_1649 tws_61 tw_7 tw_1650 yk_X7_fills (by decide) rfl hl.1 (Nat.le_of_ble_eq_true rfl) dX7_setLate_43 rfl (fun H locs hM => ?_)
      refine lv_iload_n hx hb dX7_setLate_46 rfl (lv_at hl 1 rfl) ?_
      obtain ⟨hz, hp⟩ := oG hp
      exact mr_zret C0 hr hlk hM (Prod.mk.inj (Option.some.inj hp)).2 hz (Prod.mk.inj (Option.some.inj hp)).1 (Nat.le_refl _) (Nat.le_refl _) dX7_setLate_47
    refine lv_if_eq (tgt := 40) hx hb dX7_setLate_33 (by decide) (fun c14 => ?_) (fun c14 => ?_)
    · replace hp := oT c14 hp
      refine lv_iconst (v := 0) hx hb dX7_setLate_40 (by decide) ?_
      exact hk10 _ _ _ _ hM (lv_sub hl [1, 0] rfl) hp
    · replace hp := oF c14 hp
      refine lv_iconst (v := 1) hx hb dX7_setLate_36 (by decide) ?_
      refine lv_goto (tgt := 41) hx hb dX7_setLate_37 (by decide) ?_
      exact hk10 _ _ _ _ hM (lv_sub hl [1, 0] rfl) hp
  refine lv_icmp_ne (tgt := 24) hx hb dX7_setLate_17 (by decide) (fun c15 => ?_) (fun c15 => ?_)
  · replace hp := oF c15 hp
    refine lv_iconst (v := 0) hx hb dX7_setLate_24 (by decide) ?_
    exact hk7 _ _ _ _ hM (lv_sub hl [0, 1] rfl) hp
  · replace hp := oT c15 hp
    refine lv_iconst (v := 1) hx hb dX7_setLate_20 (by decide) ?_
    refine lv_goto (tgt := 25) hx hb dX7_setLate_21 (by decide) ?_
    exact hk7 _ _ _ _ hM (lv_sub hl [0, 1] rfl) hp
abbrev rm_X7_lastHolder : Room := { frames := 6, cells := 0, slots := 0, locals := 139 }
def p_X7_lastHolder (a0 : Nat) (a1 : Int32) (M : Mem) : Option (Int32 × Mem) :=
  (Option.bind (isC 6 M a0) fun _ =>
  (ob2 (p_X7_noSchool a0 a1 M) fun v2 M3 =>
  (if v2 = 0 then
   (Option.bind (isC 6 M3 a0) fun _ =>
   (Option.bind (p_X7_lastOf a0 a1 M3) fun v6 =>
   some (v6, M3)
   )
   )
  else
   some ((0 : Int32), M3)
  )
  )
  )
theorem yk_X7_lastHolder : yok yX7_lastHolder 1 := by decide +kernel
set_option maxHeartbeats 4000000 in
set_option maxRecDepth 100000 in
theorem w_X7_lastHolder {G : gG} (hG : GOK G) {l : Launch} {a0 : Nat} {a1 : Int32} {M : Mem} {r : Int32} {M' : Mem} (hp : p_X7_lastHolder a0 a1 M = some (r, M')) : CT G l yX7_lastHolder (wT yX7_lastHolder cX7_lastHolder 2 (some FieldType.int)) rm_X7_lastHolder [.ref a0, .int a1] M (some (.int r)) M' 0 0 := by
  refine CT_of (own := RX7) (maxL := 2) (ret := (some FieldType.int)) hG (by decide) rfl (Nat.le_of_ble_eq_true rfl) (fun p e s m below meth c A C0 hr hlk hM ls hl => ?_)
  have hl : lv_has ls 2 [(0, .ref a0), (1, .int a1)] := hl
  generalize ([.ref a0, .int a1] : List Value).toArray = args at C0 ⊢
  skip
  have hx := C0.1
  have hb := C0.2.1
  have hown := C0.2.2.2.1
  have hts := C0.2.2.2.2.1
  unfold p_X7_lastHolder at hp
  refine lv_aload_n hx hb dX7_lastHolder_0 rfl (lv_at hl 0 rfl) ?_
  refine lv_iload_n hx hb dX7_lastHolder_1 rfl (lv_at hl 1 rfl) ?_
  obtain ⟨_, h1, hp⟩ := ob hp
  obtain ⟨v2, M3, hv2, hp⟩ := ob3 hp
  refine mr_V1 (As := [.int a1]) (rest := []) C0 cbX7 hM h1 rfl (w_X7_noSchool hG hv2) tw_1471 tw_1473 tws_34 tw_7 tw_1474 yk_X7_noSchool (by decide) rfl hl.1 (Nat.le_of_ble_eq_true rfl) dX7_lastHolder_2 rfl (fun H locs hM => ?_)
  refine lv_if_eq (tgt := 12) hx hb dX7_lastHolder_5 (by decide) (fun c4 => ?_) (fun c4 => ?_)
  · replace hp := oT c4 hp
    refine lv_aload_n hx hb dX7_lastHolder_12 rfl (lv_at hl 0 rfl) ?_
    refine lv_iload_n hx hb dX7_lastHolder_13 rfl (lv_at hl 1 rfl) ?_
    obtain ⟨_, h5, hp⟩ := ob hp
    obtain ⟨v6, hv6, hp⟩ := ob hp
    refine mr_V1 (As := [.int a1]) (rest := []) C0 cbX7 hM h5 rfl (w_X7_lastOf hG hv6) tw_1631 tw_1633 tws_59 tw_7 tw_1634 yk_X7_lastOf (by decide) rfl hl.1 (Nat.le_of_ble_eq_true rfl) dX7_lastHolder_14 rfl (fun H locs hM => ?_)
    exact mr_iret C0 hr hlk hM (Prod.mk.inj (Option.some.inj hp)).2 (Prod.mk.inj (Option.some.inj hp)).1 (Nat.le_refl _) (Nat.le_refl _) dX7_lastHolder_17
  · replace hp := oF c4 hp
    refine lv_iconst (v := 0) hx hb dX7_lastHolder_8 (by decide) ?_
    refine lv_goto (tgt := 17) hx hb dX7_lastHolder_9 (by decide) ?_
    exact mr_iret C0 hr hlk hM (Prod.mk.inj (Option.some.inj hp)).2 (Prod.mk.inj (Option.some.inj hp)).1 (Nat.le_refl _) (Nat.le_refl _) dX7_lastHolder_17
abbrev rm_X7_placed : Room := { frames := 1, cells := 0, slots := 0, locals := 24 }
def p_X7_placed (a0 : Nat) (M : Mem) : Option (Int32) :=
  (Option.bind (gR 6 0 M a0) fun v1 =>
  (Option.bind (aI 0 M v1 (1 : Int32)) fun v2 =>
  (Option.bind (isC 6 M a0) fun _ =>
  (Option.bind (p_X7_childrenWith a0 (484 : Int32) (-1 : Int32) M) fun v4 =>
  some (v2 - v4)
  )
  )
  )
  )
theorem yk_X7_placed : yok yX7_placed 0 := by decide +kernel
set_option maxHeartbeats 4000000 in
set_option maxRecDepth 100000 in
theorem w_X7_placed {G : gG} (hG : GOK G) {l : Launch} {a0 : Nat} {M : Mem} {r : Int32} (hp : p_X7_placed a0 M = some r) : CT G l yX7_placed (wT yX7_placed cX7_placed 1 (some FieldType.int)) rm_X7_placed [.ref a0] M (some (.int r)) M 0 0 := by
  refine CT_of (own := RX7) (maxL := 1) (ret := (some FieldType.int)) hG (by decide) rfl (Nat.le_of_ble_eq_true rfl) (fun p e s m below meth c A C0 hr hlk hM ls hl => ?_)
  have hl : lv_has ls 1 [(0, .ref a0)] := hl
  generalize ([.ref a0] : List Value).toArray = args at C0 ⊢
  skip
  have hx := C0.1
  have hb := C0.2.1
  have hown := C0.2.2.2.1
  have hts := C0.2.2.2.2.1
  unfold p_X7_placed at hp
  refine lv_aload_n hx hb dX7_placed_0 rfl (lv_at hl 0 rfl) ?_
  obtain ⟨v1, hv1, hp⟩ := ob hp
  refine mr_getR C0 cbX7 hM 0 (by decide) tw_1224 hv1 dX7_placed_1 ?_
  refine lv_iconst (v := 1) hx hb dX7_placed_4 (by decide) ?_
  obtain ⟨v2, hv2, hp⟩ := ob hp
  refine mr_iald C0 hM hv2 dX7_placed_5 ?_
  refine lv_aload_n hx hb dX7_placed_6 rfl (lv_at hl 0 rfl) ?_
  refine lv_sipush (v := 484) hx hb dX7_placed_7 (by decide) ?_
  refine lv_iconst (v := -1) hx hb dX7_placed_10 (by decide) ?_
  obtain ⟨_, h3, hp⟩ := ob hp
  obtain ⟨v4, hv4, hp⟩ := ob hp
  refine mr_V1 (As := [.int (484 : Int32), .int (-1 : Int32)]) (rest := [.int v2]) C0 cbX7 hM h3 rfl (w_X7_childrenWith hG hv4) tw_1463 tw_1465 tws_33 tw_7 tw_1466 yk_X7_childrenWith (by decide) rfl hl.1 (Nat.le_of_ble_eq_true rfl) dX7_placed_11 rfl (fun H locs hM => ?_)
  refine lv_isub hx hb dX7_placed_14 ?_
  exact mr_iret C0 hr hlk hM rfl (Option.some.inj hp) (Nat.le_refl _) (Nat.le_refl _) dX7_placed_15
abbrev rm_X7_firstShare : Room := { frames := 2, cells := 0, slots := 0, locals := 44 }
def pl_X7_firstShare_9 (k1 : Int32 → Option (UInt32 × Mem)) (f0 : Nat) (M : Mem) : Nat → Int32 → Int32 → Option (UInt32 × Mem)
  | 0, _, _ => none
  | n + 1, y1, y2 =>
    (Option.bind (gR 6 0 M f0) fun v2 =>
    (Option.bind (aI 0 M v2 (1 : Int32)) fun v3 =>
    (if v3 ≤ y2 then
     (k1 y1)
    else
     (Option.bind (isC 6 M f0) fun _ =>
     (Option.bind (p_X7_gotOf f0 y2 M) fun v6 =>
     (jn (fun (s7 : Int32) =>
      (pl_X7_firstShare_9 k1 f0 M n (y1 + s7) (y2 + (1 : Int32)))
     ) fun k8 =>
     (if v6 = 0 then
      (k8 (1 : Int32))
     else
      (k8 (0 : Int32))
     )
     )
     )
     )
    )
    )
    )
set_option maxHeartbeats 4000000 in
set_option maxRecDepth 100000 in
theorem wl_X7_firstShare_9 {G : gG} {p : Program} {l : Launch} {e : Env} {s : State} {m : MethodId} {args : Array Value} {below : List Frame} {meth : Method} {c : Code} {A : Nat → Prop} {r : UInt32} {M' : Mem} {k1 : Int32 → Option (UInt32 × Mem)} {f0 : Nat} {M : Mem} (C0 : cx G p s m args c cX7_firstShare RX7 3 A) (hr : meth.sig.returnType = (some FieldType.float)) (hlk : meth.locks = false) (hG : GOK G) (hk1 : ∀ (z1 : Int32) (H : Heap) (locs : List Loc) (ls : Array Slot), mm G A s M H locs → lv_has ls 3 [(0, .ref f0), (1, .int z1)] → k1 z1 = some (r, M') → W p l e rm_X7_firstShare s m args below meth c H locs 0 0 (MQ below (CQ G M' (some (.float r)) A) args s 0 0 A) (F0 m 41 ls [])) : ∀ (n : Nat) (y1 : Int32) (y2 : Int32) (H : Heap) (locs : List Loc) (ls : Array Slot), mm G A s M H locs → lv_has ls 3 [(0, .ref f0), (1, .int y1), (2, .int y2)] → pl_X7_firstShare_9 k1 f0 M n y1 y2 = some (r, M') → W p l e rm_X7_firstShare s m args below meth c H locs 0 0 (MQ below (CQ G M' (some (.float r)) A) args s 0 0 A) (F0 m 9 ls []) := by
  have hx := C0.1
  have hb := C0.2.1
  have hown := C0.2.2.2.1
  have hts := C0.2.2.2.2.1
  intro n
  induction n with
  | zero => intro y1 y2 H locs ls hM hl hp; rw [pl_X7_firstShare_9] at hp; cases hp
  | succ n ih =>
    intro y1 y2 H locs ls hM hl hp
    rw [pl_X7_firstShare_9] at hp
    refine lv_iload_n hx hb dX7_firstShare_9 rfl (lv_at hl 2 rfl) ?_
    refine lv_aload_n hx hb dX7_firstShare_10 rfl (lv_at hl 0 rfl) ?_
    obtain ⟨v2, hv2, hp⟩ := ob hp
    refine mr_getR C0 cbX7 hM 0 (by decide) tw_1224 hv2 dX7_firstShare_11 ?_
    refine lv_iconst (v := 1) hx hb dX7_firstShare_14 (by decide) ?_
    obtain ⟨v3, hv3, hp⟩ := ob hp
    refine mr_iald C0 hM hv3 dX7_firstShare_15 ?_
    refine lv_icmp_ge (tgt := 41) hx hb dX7_firstShare_16 (by decide) (fun c4 => ?_) (fun c4 => ?_)
    · replace hp := oT c4 hp
      exact hk1 _ _ _ _ hM (lv_sub hl [0, 1] rfl) hp
    · replace hp := oF c4 hp
      refine lv_iload_n hx hb dX7_firstShare_19 rfl (lv_at hl 1 rfl) ?_
      refine lv_aload_n hx hb dX7_firstShare_20 rfl (lv_at hl 0 rfl) ?_
      refine lv_iload_n hx hb dX7_firstShare_21 rfl (lv_at hl 2 rfl) ?_
      obtain ⟨_, h5, hp⟩ := ob hp
      obtain ⟨v6, hv6, hp⟩ := ob hp
      refine mr_V1 (As := [.int y2]) (rest := [.int y1]) C0 cbX7 hM h5 rfl (w_X7_gotOf hG hv6) tw_1499 tw_1501 tws_41 tw_7 tw_1502 yk_X7_gotOf (by decide) rfl hl.1 (Nat.le_of_ble_eq_true rfl) dX7_firstShare_22 rfl (fun H locs hM => ?_)
      obtain ⟨k8, ek8, hp⟩ := ojn hp
      have hk8 : ∀ (s7 : Int32) (H : Heap) (locs : List Loc) (ls : Array Slot), mm G A s M H locs → lv_has ls 3 [(0, .ref f0), (2, .int y2)] → k8 s7 = some (r, M') → W p l e rm_X7_firstShare s m args below meth c H locs 0 0 (MQ below (CQ G M' (some (.float r)) A) args s 0 0 A) (F0 m 33 ls [.int s7, .int y1]) := by
        intro s7 H locs ls hM hl hp
        rw [ek8] at hp
        refine lv_iadd hx hb dX7_firstShare_33 ?_
        refine lv_istore_n (lv' := [(1, .int (y1 + s7)), (0, .ref f0), (2, .int y2)]) hx hb dX7_firstShare_34 rfl hl (by decide) rfl (fun ls hl => ?_)
        refine lv_iinc (v := (y2 + (1 : Int32))) (lv' := [(2, .int (y2 + (1 : Int32))), (1, .int (y1 + s7)), (0, .ref f0)]) hx hb dX7_firstShare_35 hl (k := 2) rfl rfl (by decide) rfl (fun ls hl => ?_)
        refine lv_goto (tgt := 9) hx hb dX7_firstShare_38 (by decide) ?_
        exact ih _ _ _ _ _ hM (lv_sub hl [2, 1, 0] rfl) hp
      refine lv_if_ne (tgt := 32) hx hb dX7_firstShare_25 (by decide) (fun c9 => ?_) (fun c9 => ?_)
      · replace hp := oF c9 hp
        refine lv_iconst (v := 0) hx hb dX7_firstShare_32 (by decide) ?_
        exact hk8 _ _ _ _ hM (lv_sub hl [0, 2] rfl) hp
      · replace hp := oT c9 hp
        refine lv_iconst (v := 1) hx hb dX7_firstShare_28 (by decide) ?_
        refine lv_goto (tgt := 33) hx hb dX7_firstShare_29 (by decide) ?_
        exact hk8 _ _ _ _ hM (lv_sub hl [0, 2] rfl) hp
def p_X7_firstShare (a0 : Nat) (M : Mem) : Option (UInt32 × Mem) :=
  (Option.bind (sV 6 9 M a0 (.int (0 : Int32))) fun M1 =>
  (pl_X7_firstShare_9
   (fun (z10 : Int32) =>
    (Option.bind (isC 6 M1 a0) fun _ =>
    (Option.bind (p_X7_placed a0 M1) fun v12 =>
    (if v12 = 0 then
     some (FP.fconst0, M1)
    else
     (Option.bind (isC 6 M1 a0) fun _ =>
     (Option.bind (p_X7_placed a0 M1) fun v15 =>
     (jn (FP.fdiv (FP.i2f z10) (FP.i2f v15)) fun w16 =>
     (if w16 &&& 0x7fffffff ≤ 0x7f800000 then
     some (w16, M1)
     else none))
     )
     )
    )
    )
    )
   )
   a0 M1 FU (0 : Int32) (0 : Int32))
  )
theorem yk_X7_firstShare : yok yX7_firstShare 0 := by decide +kernel
set_option maxHeartbeats 4000000 in
set_option maxRecDepth 100000 in
theorem w_X7_firstShare {G : gG} (hG : GOK G) {l : Launch} {a0 : Nat} {M : Mem} {r : UInt32} {M' : Mem} (hp : p_X7_firstShare a0 M = some (r, M')) : CT G l yX7_firstShare (wT yX7_firstShare cX7_firstShare 3 (some FieldType.float)) rm_X7_firstShare [.ref a0] M (some (.float r)) M' 0 0 := by
  refine CT_of (own := RX7) (maxL := 3) (ret := (some FieldType.float)) hG (by decide) rfl (Nat.le_of_ble_eq_true rfl) (fun p e s m below meth c A C0 hr hlk hM ls hl => ?_)
  have hl : lv_has ls 3 [(0, .ref a0)] := hl
  generalize ([.ref a0] : List Value).toArray = args at C0 ⊢
  skip
  have hx := C0.1
  have hb := C0.2.1
  have hown := C0.2.2.2.1
  have hts := C0.2.2.2.2.1
  unfold p_X7_firstShare at hp
  refine lv_aload_n hx hb dX7_firstShare_0 rfl (lv_at hl 0 rfl) ?_
  refine lv_iconst (v := 0) hx hb dX7_firstShare_1 (by decide) ?_
  obtain ⟨M1, hM1, hp⟩ := ob hp
  refine mr_putI C0 cbX7 hM 9 (by decide) rfl rfl tw_1233 hM1 dX7_firstShare_2 (fun H locs hM => ?_)
  refine lv_iconst (v := 0) hx hb dX7_firstShare_5 (by decide) ?_
  refine lv_istore_n (lv' := [(1, .int (0 : Int32)), (0, .ref a0)]) hx hb dX7_firstShare_6 rfl hl (by decide) rfl (fun ls hl => ?_)
  refine lv_iconst (v := 0) hx hb dX7_firstShare_7 (by decide) ?_
  refine lv_istore_n (lv' := [(2, .int (0 : Int32)), (1, .int (0 : Int32)), (0, .ref a0)]) hx hb dX7_firstShare_8 rfl hl (by decide) rfl (fun ls hl => ?_)
  refine wl_X7_firstShare_9 C0 hr hlk hG (fun z10 H locs ls hM hl hp => ?_) FU _ _ _ _ _ hM (lv_sub hl [2, 1, 0] rfl) hp
  refine lv_aload_n hx hb dX7_firstShare_41 rfl (lv_at hl 0 rfl) ?_
  obtain ⟨_, h11, hp⟩ := ob hp
  obtain ⟨v12, hv12, hp⟩ := ob hp
  refine mr_V1 (As := []) (rest := []) C0 cbX7 hM h11 rfl (w_X7_placed hG hv12) tw_1691 tw_1693 tws_64 tw_7 tw_1694 yk_X7_placed (by decide) rfl hl.1 (Nat.le_of_ble_eq_true rfl) dX7_firstShare_42 rfl (fun H locs hM => ?_)
  refine lv_if_ne (tgt := 52) hx hb dX7_firstShare_45 (by decide) (fun c13 => ?_) (fun c13 => ?_)
  · replace hp := oF c13 hp
    refine lv_iload_n hx hb dX7_firstShare_52 rfl (lv_at hl 1 rfl) ?_
    refine lv_i2f hx hb dX7_firstShare_53 ?_
    refine lv_aload_n hx hb dX7_firstShare_54 rfl (lv_at hl 0 rfl) ?_
    obtain ⟨_, h14, hp⟩ := ob hp
    obtain ⟨v15, hv15, hp⟩ := ob hp
    refine mr_V1 (As := []) (rest := [.float (FP.i2f z10)]) C0 cbX7 hM h14 rfl (w_X7_placed hG hv15) tw_1691 tw_1693 tws_64 tw_7 tw_1694 yk_X7_placed (by decide) rfl hl.1 (Nat.le_of_ble_eq_true rfl) dX7_firstShare_55 rfl (fun H locs hM => ?_)
    refine lv_i2f hx hb dX7_firstShare_58 ?_
    obtain ⟨w16, ew16, hp⟩ := ojn hp
    obtain ⟨hne, hp⟩ := oG hp
    refine lv_fdiv hx hb dX7_firstShare_59 (by rw [← ew16]; exact hne) ?_
    rw [← ew16]
    exact mr_fret C0 hr hlk hM (Prod.mk.inj (Option.some.inj hp)).2 (Prod.mk.inj (Option.some.inj hp)).1 (Nat.le_refl _) (Nat.le_refl _) dX7_firstShare_60
  · replace hp := oT c13 hp
    refine lv_fconst0 hx hb dX7_firstShare_48 ?_
    refine lv_goto (tgt := 60) hx hb dX7_firstShare_49 (by decide) ?_
    exact mr_fret C0 hr hlk hM (Prod.mk.inj (Option.some.inj hp)).2 (Prod.mk.inj (Option.some.inj hp)).1 (Nat.le_refl _) (Nat.le_refl _) dX7_firstShare_60
abbrev rm_X7_meanPreference : Room := { frames := 2, cells := 0, slots := 0, locals := 44 }
def pl_X7_meanPreference_9 (k1 : Int32 → Option (UInt64 × Mem)) (f0 : Nat) (M : Mem) : Nat → Int32 → Int32 → Option (UInt64 × Mem)
  | 0, _, _ => none
  | n + 1, y1, y2 =>
    (Option.bind (gR 6 0 M f0) fun v2 =>
    (Option.bind (aI 0 M v2 (1 : Int32)) fun v3 =>
    (if v3 ≤ y2 then
     (k1 y1)
    else
     (Option.bind (isC 6 M f0) fun _ =>
     (Option.bind (p_X7_gotOf f0 y2 M) fun v6 =>
     (pl_X7_meanPreference_9 k1 f0 M n (y1 + (v6 + (1 : Int32))) (y2 + (1 : Int32)))
     )
     )
    )
    )
    )
set_option maxHeartbeats 4000000 in
set_option maxRecDepth 100000 in
theorem wl_X7_meanPreference_9 {G : gG} {p : Program} {l : Launch} {e : Env} {s : State} {m : MethodId} {args : Array Value} {below : List Frame} {meth : Method} {c : Code} {A : Nat → Prop} {r : UInt64} {M' : Mem} {k1 : Int32 → Option (UInt64 × Mem)} {f0 : Nat} {M : Mem} (C0 : cx G p s m args c cX7_meanPreference RX7 3 A) (hr : meth.sig.returnType = (some FieldType.double)) (hlk : meth.locks = false) (hG : GOK G) (hk1 : ∀ (z1 : Int32) (H : Heap) (locs : List Loc) (ls : Array Slot), mm G A s M H locs → lv_has ls 3 [(0, .ref f0), (1, .int z1)] → k1 z1 = some (r, M') → W p l e rm_X7_meanPreference s m args below meth c H locs 0 0 (MQ below (CQ G M' (some (.double r)) A) args s 0 0 A) (F0 m 35 ls [])) : ∀ (n : Nat) (y1 : Int32) (y2 : Int32) (H : Heap) (locs : List Loc) (ls : Array Slot), mm G A s M H locs → lv_has ls 3 [(0, .ref f0), (1, .int y1), (2, .int y2)] → pl_X7_meanPreference_9 k1 f0 M n y1 y2 = some (r, M') → W p l e rm_X7_meanPreference s m args below meth c H locs 0 0 (MQ below (CQ G M' (some (.double r)) A) args s 0 0 A) (F0 m 9 ls []) := by
  have hx := C0.1
  have hb := C0.2.1
  have hown := C0.2.2.2.1
  have hts := C0.2.2.2.2.1
  intro n
  induction n with
  | zero => intro y1 y2 H locs ls hM hl hp; rw [pl_X7_meanPreference_9] at hp; cases hp
  | succ n ih =>
    intro y1 y2 H locs ls hM hl hp
    rw [pl_X7_meanPreference_9] at hp
    refine lv_iload_n hx hb dX7_meanPreference_9 rfl (lv_at hl 2 rfl) ?_
    refine lv_aload_n hx hb dX7_meanPreference_10 rfl (lv_at hl 0 rfl) ?_
    obtain ⟨v2, hv2, hp⟩ := ob hp
    refine mr_getR C0 cbX7 hM 0 (by decide) tw_1224 hv2 dX7_meanPreference_11 ?_
    refine lv_iconst (v := 1) hx hb dX7_meanPreference_14 (by decide) ?_
    obtain ⟨v3, hv3, hp⟩ := ob hp
    refine mr_iald C0 hM hv3 dX7_meanPreference_15 ?_
    refine lv_icmp_ge (tgt := 35) hx hb dX7_meanPreference_16 (by decide) (fun c4 => ?_) (fun c4 => ?_)
    · replace hp := oT c4 hp
      exact hk1 _ _ _ _ hM (lv_sub hl [0, 1] rfl) hp
    · replace hp := oF c4 hp
      refine lv_iload_n hx hb dX7_meanPreference_19 rfl (lv_at hl 1 rfl) ?_
      refine lv_aload_n hx hb dX7_meanPreference_20 rfl (lv_at hl 0 rfl) ?_
      refine lv_iload_n hx hb dX7_meanPreference_21 rfl (lv_at hl 2 rfl) ?_
      obtain ⟨_, h5, hp⟩ := ob hp
      obtain ⟨v6, hv6, hp⟩ := ob hp
      refine mr_V1 (As := [.int y2]) (rest := [.int y1]) C0 cbX7 hM h5 rfl (w_X7_gotOf hG hv6) tw_1499 tw_1501 tws_41 tw_7 tw_1502 yk_X7_gotOf (by decide) rfl hl.1 (Nat.le_of_ble_eq_true rfl) dX7_meanPreference_22 rfl (fun H locs hM => ?_)
      refine lv_iconst (v := 1) hx hb dX7_meanPreference_25 (by decide) ?_
      refine lv_iadd hx hb dX7_meanPreference_26 ?_
      refine lv_iadd hx hb dX7_meanPreference_27 ?_
      refine lv_istore_n (lv' := [(1, .int (y1 + (v6 + (1 : Int32)))), (0, .ref f0), (2, .int y2)]) hx hb dX7_meanPreference_28 rfl hl (by decide) rfl (fun ls hl => ?_)
      refine lv_iinc (v := (y2 + (1 : Int32))) (lv' := [(2, .int (y2 + (1 : Int32))), (1, .int (y1 + (v6 + (1 : Int32)))), (0, .ref f0)]) hx hb dX7_meanPreference_29 hl (k := 2) rfl rfl (by decide) rfl (fun ls hl => ?_)
      refine lv_goto (tgt := 9) hx hb dX7_meanPreference_32 (by decide) ?_
      exact ih _ _ _ _ _ hM (lv_sub hl [2, 1, 0] rfl) hp
def p_X7_meanPreference (a0 : Nat) (M : Mem) : Option (UInt64 × Mem) :=
  (Option.bind (sV 6 9 M a0 (.int (0 : Int32))) fun M1 =>
  (pl_X7_meanPreference_9
   (fun (z7 : Int32) =>
    (Option.bind (isC 6 M1 a0) fun _ =>
    (Option.bind (p_X7_placed a0 M1) fun v9 =>
    (if v9 = 0 then
     some (FP.dconst0, M1)
    else
     (Option.bind (isC 6 M1 a0) fun _ =>
     (Option.bind (p_X7_placed a0 M1) fun v12 =>
     (jn (FP.ddiv (FP.i2d z7) (FP.i2d v12)) fun w13 =>
     (if w13 &&& 0x7fffffffffffffff ≤ 0x7ff0000000000000 then
     some (w13, M1)
     else none))
     )
     )
    )
    )
    )
   )
   a0 M1 FU (0 : Int32) (0 : Int32))
  )
theorem yk_X7_meanPreference : yok yX7_meanPreference 0 := by decide +kernel
set_option maxHeartbeats 4000000 in
set_option maxRecDepth 100000 in
theorem w_X7_meanPreference {G : gG} (hG : GOK G) {l : Launch} {a0 : Nat} {M : Mem} {r : UInt64} {M' : Mem} (hp : p_X7_meanPreference a0 M = some (r, M')) : CT G l yX7_meanPreference (wT yX7_meanPreference cX7_meanPreference 3 (some FieldType.double)) rm_X7_meanPreference [.ref a0] M (some (.double r)) M' 0 0 := by
  refine CT_of (own := RX7) (maxL := 3) (ret := (some FieldType.double)) hG (by decide) rfl (Nat.le_of_ble_eq_true rfl) (fun p e s m below meth c A C0 hr hlk hM ls hl => ?_)
  have hl : lv_has ls 3 [(0, .ref a0)] := hl
  generalize ([.ref a0] : List Value).toArray = args at C0 ⊢
  skip
  have hx := C0.1
  have hb := C0.2.1
  have hown := C0.2.2.2.1
  have hts := C0.2.2.2.2.1
  unfold p_X7_meanPreference at hp
  refine lv_aload_n hx hb dX7_meanPreference_0 rfl (lv_at hl 0 rfl) ?_
  refine lv_iconst (v := 0) hx hb dX7_meanPreference_1 (by decide) ?_
  obtain ⟨M1, hM1, hp⟩ := ob hp
  refine mr_putI C0 cbX7 hM 9 (by decide) rfl rfl tw_1233 hM1 dX7_meanPreference_2 (fun H locs hM => ?_)
  refine lv_iconst (v := 0) hx hb dX7_meanPreference_5 (by decide) ?_
  refine lv_istore_n (lv' := [(1, .int (0 : Int32)), (0, .ref a0)]) hx hb dX7_meanPreference_6 rfl hl (by decide) rfl (fun ls hl => ?_)
  refine lv_iconst (v := 0) hx hb dX7_meanPreference_7 (by decide) ?_
  refine lv_istore_n (lv' := [(2, .int (0 : Int32)), (1, .int (0 : Int32)), (0, .ref a0)]) hx hb dX7_meanPreference_8 rfl hl (by decide) rfl (fun ls hl => ?_)
  refine wl_X7_meanPreference_9 C0 hr hlk hG (fun z7 H locs ls hM hl hp => ?_) FU _ _ _ _ _ hM (lv_sub hl [2, 1, 0] rfl) hp
  refine lv_aload_n hx hb dX7_meanPreference_35 rfl (lv_at hl 0 rfl) ?_
  obtain ⟨_, h8, hp⟩ := ob hp
  obtain ⟨v9, hv9, hp⟩ := ob hp
  refine mr_V1 (As := []) (rest := []) C0 cbX7 hM h8 rfl (w_X7_placed hG hv9) tw_1691 tw_1693 tws_64 tw_7 tw_1694 yk_X7_placed (by decide) rfl hl.1 (Nat.le_of_ble_eq_true rfl) dX7_meanPreference_36 rfl (fun H locs hM => ?_)
  refine lv_if_ne (tgt := 46) hx hb dX7_meanPreference_39 (by decide) (fun c10 => ?_) (fun c10 => ?_)
  · replace hp := oF c10 hp
    refine lv_iload_n hx hb dX7_meanPreference_46 rfl (lv_at hl 1 rfl) ?_
    refine lv_i2d hx hb dX7_meanPreference_47 ?_
    refine lv_aload_n hx hb dX7_meanPreference_48 rfl (lv_at hl 0 rfl) ?_
    obtain ⟨_, h11, hp⟩ := ob hp
    obtain ⟨v12, hv12, hp⟩ := ob hp
    refine mr_V1 (As := []) (rest := [.double (FP.i2d z7)]) C0 cbX7 hM h11 rfl (w_X7_placed hG hv12) tw_1691 tw_1693 tws_64 tw_7 tw_1694 yk_X7_placed (by decide) rfl hl.1 (Nat.le_of_ble_eq_true rfl) dX7_meanPreference_49 rfl (fun H locs hM => ?_)
    refine lv_i2d hx hb dX7_meanPreference_52 ?_
    obtain ⟨w13, ew13, hp⟩ := ojn hp
    obtain ⟨hne, hp⟩ := oG hp
    refine lv_ddiv hx hb dX7_meanPreference_53 (by rw [← ew13]; exact hne) ?_
    rw [← ew13]
    exact mr_dret C0 hr hlk hM (Prod.mk.inj (Option.some.inj hp)).2 (Prod.mk.inj (Option.some.inj hp)).1 (Nat.le_refl _) (Nat.le_refl _) dX7_meanPreference_54
  · replace hp := oT c10 hp
    refine lv_dconst0 hx hb dX7_meanPreference_42 ?_
    refine lv_goto (tgt := 54) hx hb dX7_meanPreference_43 (by decide) ?_
    exact mr_dret C0 hr hlk hM (Prod.mk.inj (Option.some.inj hp)).2 (Prod.mk.inj (Option.some.inj hp)).1 (Nat.le_refl _) (Nat.le_refl _) dX7_meanPreference_54
abbrev rm_X7_root : Room := { frames := 0, cells := 0, slots := 0, locals := 0 }
def pl_X7_root_13 (k1 : UInt64 → Option (UInt64)) (f0 : UInt64) (M : Mem) : Nat → UInt64 → Int32 → Option (UInt64)
  | 0, _, _ => none
  | n + 1, y2, y4 =>
    (if (60 : Int32) ≤ y4 then
     (k1 y2)
    else
     (jn (FP.ddiv f0 y2) fun w3 =>
     (if w3 &&& 0x7fffffffffffffff ≤ 0x7ff0000000000000 then
     (jn (FP.dadd y2 w3) fun w4 =>
     (if w4 &&& 0x7fffffffffffffff ≤ 0x7ff0000000000000 then
     (jn (FP.ddiv w4 (4611686018427387904 : UInt64)) fun w5 =>
     (if w5 &&& 0x7fffffffffffffff ≤ 0x7ff0000000000000 then
     (pl_X7_root_13 k1 f0 M n w5 (y4 + (1 : Int32)))
     else none))
     else none))
     else none))
    )
set_option maxHeartbeats 4000000 in
set_option maxRecDepth 100000 in
theorem wl_X7_root_13 {G : gG} {p : Program} {l : Launch} {e : Env} {s : State} {m : MethodId} {args : Array Value} {below : List Frame} {meth : Method} {c : Code} {A : Nat → Prop} {r : UInt64} {k1 : UInt64 → Option (UInt64)} {f0 : UInt64} {M : Mem} (C0 : cx G p s m args c cX7_root RX7 5 A) (hr : meth.sig.returnType = (some FieldType.double)) (hlk : meth.locks = false) (hG : GOK G) (hk1 : ∀ (z2 : UInt64) (H : Heap) (locs : List Loc) (ls : Array Slot), mm G A s M H locs → lv_has ls 5 [(2, .double z2)] → k1 z2 = some r → W p l e rm_X7_root s m args below meth c H locs 0 0 (MQ below (CQ G M (some (.double r)) A) args s 0 0 A) (F0 m 36 ls [])) : ∀ (n : Nat) (y2 : UInt64) (y4 : Int32) (H : Heap) (locs : List Loc) (ls : Array Slot), mm G A s M H locs → lv_has ls 5 [(0, .double f0), (2, .double y2), (4, .int y4)] → pl_X7_root_13 k1 f0 M n y2 y4 = some r → W p l e rm_X7_root s m args below meth c H locs 0 0 (MQ below (CQ G M (some (.double r)) A) args s 0 0 A) (F0 m 13 ls []) := by
  have hx := C0.1
  have hb := C0.2.1
  have hown := C0.2.2.2.1
  have hts := C0.2.2.2.2.1
  intro n
  induction n with
  | zero => intro y2 y4 H locs ls hM hl hp; rw [pl_X7_root_13] at hp; cases hp
  | succ n ih =>
    intro y2 y4 H locs ls hM hl hp
    rw [pl_X7_root_13] at hp
    refine lv_iload hx hb dX7_root_13 (lv_at hl 2 rfl) ?_
    refine lv_bipush (v := 60) hx hb dX7_root_15 (by decide) ?_
    refine lv_icmp_ge (tgt := 36) hx hb dX7_root_17 (by decide) (fun c2 => ?_) (fun c2 => ?_)
    · replace hp := oT c2 hp
      exact hk1 _ _ _ _ hM (lv_sub hl [1] rfl) hp
    · replace hp := oF c2 hp
      refine lv_dload_n hx hb dX7_root_20 rfl (lv_at hl 1 rfl) ?_
      refine lv_dload_n hx hb dX7_root_21 rfl (lv_at hl 0 rfl) ?_
      refine lv_dload_n hx hb dX7_root_22 rfl (lv_at hl 1 rfl) ?_
      obtain ⟨w3, ew3, hp⟩ := ojn hp
      obtain ⟨hne, hp⟩ := oG hp
      refine lv_ddiv hx hb dX7_root_23 (by rw [← ew3]; exact hne) ?_
      rw [← ew3]
      obtain ⟨w4, ew4, hp⟩ := ojn hp
      obtain ⟨hne, hp⟩ := oG hp
      refine lv_dadd hx hb dX7_root_24 (by rw [← ew4]; exact hne) ?_
      rw [← ew4]
      refine lv_ldc2d (v := 4611686018427387904) hx hb hown (hts _ tw_1707) dX7_root_25 ?_
      obtain ⟨w5, ew5, hp⟩ := ojn hp
      obtain ⟨hne, hp⟩ := oG hp
      refine lv_ddiv hx hb dX7_root_28 (by rw [← ew5]; exact hne) ?_
      rw [← ew5]
      refine lv_dstore_n (lv' := [(2, .double w5), (0, .double f0), (4, .int y4)]) hx hb dX7_root_29 rfl hl (by decide) rfl (fun ls hl => ?_)
      refine lv_iinc (v := (y4 + (1 : Int32))) (lv' := [(4, .int (y4 + (1 : Int32))), (2, .double w5), (0, .double f0)]) hx hb dX7_root_30 hl (k := 2) rfl rfl (by decide) rfl (fun ls hl => ?_)
      refine lv_goto (tgt := 13) hx hb dX7_root_33 (by decide) ?_
      exact ih _ _ _ _ _ hM (lv_sub hl [2, 1, 0] rfl) hp
def p_X7_root (a0 : UInt64) (M : Mem) : Option (UInt64) :=
  (if (Op.cmpValue (FP.dcmp a0 FP.dconst0) .l) = 0 then
   some FP.dconst0
  else
   (pl_X7_root_13
    (fun (z6 : UInt64) =>
     some z6
    )
    a0 M FU a0 (0 : Int32))
  )
theorem yk_X7_root : yok yX7_root 1 := by decide +kernel
set_option maxHeartbeats 4000000 in
set_option maxRecDepth 100000 in
theorem w_X7_root {G : gG} (hG : GOK G) {l : Launch} {a0 : UInt64} {M : Mem} {r : UInt64} (hp : p_X7_root a0 M = some r) : CT G l yX7_root (wT yX7_root cX7_root 5 (some FieldType.double)) rm_X7_root [.double a0] M (some (.double r)) M 0 0 := by
  refine CT_of (own := RX7) (maxL := 5) (ret := (some FieldType.double)) hG (by decide) rfl (Nat.le_of_ble_eq_true rfl) (fun p e s m below meth c A C0 hr hlk hM ls hl => ?_)
  have hl : lv_has ls 5 [(0, .double a0)] := hl
  generalize ([.double a0] : List Value).toArray = args at C0 ⊢
  skip
  have hx := C0.1
  have hb := C0.2.1
  have hown := C0.2.2.2.1
  have hts := C0.2.2.2.2.1
  unfold p_X7_root at hp
  refine lv_dload_n hx hb dX7_root_0 rfl (lv_at hl 0 rfl) ?_
  refine lv_dconst0 hx hb dX7_root_1 ?_
  refine lv_dcmp hx hb dX7_root_2 ?_
  refine lv_if_ne (tgt := 8) hx hb dX7_root_3 (by decide) (fun c1 => ?_) (fun c1 => ?_)
  · replace hp := oF c1 hp
    refine lv_dload_n hx hb dX7_root_8 rfl (lv_at hl 0 rfl) ?_
    refine lv_dstore_n (lv' := [(2, .double a0), (0, .double a0)]) hx hb dX7_root_9 rfl hl (by decide) rfl (fun ls hl => ?_)
    refine lv_iconst (v := 0) hx hb dX7_root_10 (by decide) ?_
    refine lv_istore (lv' := [(4, .int (0 : Int32)), (2, .double a0), (0, .double a0)]) hx hb dX7_root_11 hl (by decide) rfl (fun ls hl => ?_)
    refine wl_X7_root_13 C0 hr hlk hG (fun z6 H locs ls hM hl hp => ?_) FU _ _ _ _ _ hM (lv_sub hl [2, 1, 0] rfl) hp
    refine lv_dload_n hx hb dX7_root_36 rfl (lv_at hl 0 rfl) ?_
    exact mr_dret C0 hr hlk hM rfl (Option.some.inj hp) (Nat.le_refl _) (Nat.le_refl _) dX7_root_37
  · replace hp := oT c1 hp
    refine lv_dconst0 hx hb dX7_root_6 ?_
    exact mr_dret C0 hr hlk hM rfl (Option.some.inj hp) (Nat.le_refl _) (Nat.le_refl _) dX7_root_7
abbrev rm_X7_way : Room := { frames := 2, cells := 0, slots := 0, locals := 43 }
def p_X7_way (a0 : Nat) (a1 : Int32) (M : Mem) : Option (UInt32 × Mem) :=
  (Option.bind (isC 6 M a0) fun _ =>
  (ob2 (p_X7_noChild a0 a1 M) fun v2 M3 =>
  (if v2 = 0 then
   (Option.bind (gR 6 0 M3 a0) fun v5 =>
   (Option.bind (aI 0 M3 v5 ((484 : Int32) + a1)) fun v6 =>
   (if v6 = (-1 : Int32) then
    some ((3212836864 : UInt32), M3)
   else
    (Option.bind (gR 6 0 M3 a0) fun v8 =>
    (Option.bind (aI 0 M3 v8 ((484 : Int32) + a1)) fun v9 =>
    (Option.bind (isC 6 M3 a0) fun _ =>
    (Option.bind (p_X7_far a0 a1 v9 M3) fun v11 =>
    (Option.bind (p_X7_root (FP.i2d v11) M3) fun v12 =>
    (jn (FP.d2f v12) fun w13 =>
    (if w13 &&& 0x7fffffff ≤ 0x7f800000 then
    some (w13, M3)
    else none))
    )
    )
    )
    )
    )
   )
   )
   )
  else
   some (FP.fconst0, M3)
  )
  )
  )
theorem yk_X7_way : yok yX7_way 1 := by decide +kernel
set_option maxHeartbeats 4000000 in
set_option maxRecDepth 100000 in
theorem w_X7_way {G : gG} (hG : GOK G) {l : Launch} {a0 : Nat} {a1 : Int32} {M : Mem} {r : UInt32} {M' : Mem} (hp : p_X7_way a0 a1 M = some (r, M')) : CT G l yX7_way (wT yX7_way cX7_way 2 (some FieldType.float)) rm_X7_way [.ref a0, .int a1] M (some (.float r)) M' 0 0 := by
  refine CT_of (own := RX7) (maxL := 2) (ret := (some FieldType.float)) hG (by decide) rfl (Nat.le_of_ble_eq_true rfl) (fun p e s m below meth c A C0 hr hlk hM ls hl => ?_)
  have hl : lv_has ls 2 [(0, .ref a0), (1, .int a1)] := hl
  generalize ([.ref a0, .int a1] : List Value).toArray = args at C0 ⊢
  skip
  have hx := C0.1
  have hb := C0.2.1
  have hown := C0.2.2.2.1
  have hts := C0.2.2.2.2.1
  unfold p_X7_way at hp
  refine lv_aload_n hx hb dX7_way_0 rfl (lv_at hl 0 rfl) ?_
  refine lv_iload_n hx hb dX7_way_1 rfl (lv_at hl 1 rfl) ?_
  obtain ⟨_, h1, hp⟩ := ob hp
  obtain ⟨v2, M3, hv2, hp⟩ := ob3 hp
  refine mr_V1 (As := [.int a1]) (rest := []) C0 cbX7 hM h1 rfl (w_X7_noChild hG hv2) tw_1511 tw_1513 tws_42 tw_7 tw_1514 yk_X7_noChild (by decide) rfl hl.1 (Nat.le_of_ble_eq_true rfl) dX7_way_2 rfl (fun H locs hM => ?_)
  refine lv_if_eq (tgt := 10) hx hb dX7_way_5 (by decide) (fun c4 => ?_) (fun c4 => ?_)
  · replace hp := oT c4 hp
    refine lv_aload_n hx hb dX7_way_10 rfl (lv_at hl 0 rfl) ?_
    obtain ⟨v5, hv5, hp⟩ := ob hp
    refine mr_getR C0 cbX7 hM 0 (by decide) tw_1224 hv5 dX7_way_11 ?_
    refine lv_sipush (v := 484) hx hb dX7_way_14 (by decide) ?_
    refine lv_iload_n hx hb dX7_way_17 rfl (lv_at hl 1 rfl) ?_
    refine lv_iadd hx hb dX7_way_18 ?_
    obtain ⟨v6, hv6, hp⟩ := ob hp
    refine mr_iald C0 hM hv6 dX7_way_19 ?_
    refine lv_iconst (v := -1) hx hb dX7_way_20 (by decide) ?_
    refine lv_icmp_ne (tgt := 30) hx hb dX7_way_21 (by decide) (fun c7 => ?_) (fun c7 => ?_)
    · replace hp := oF c7 hp
      refine lv_aload_n hx hb dX7_way_30 rfl (lv_at hl 0 rfl) ?_
      refine lv_iload_n hx hb dX7_way_31 rfl (lv_at hl 1 rfl) ?_
      refine lv_aload_n hx hb dX7_way_32 rfl (lv_at hl 0 rfl) ?_
      obtain ⟨v8, hv8, hp⟩ := ob hp
      refine mr_getR C0 cbX7 hM 0 (by decide) tw_1224 hv8 dX7_way_33 ?_
      refine lv_sipush (v := 484) hx hb dX7_way_36 (by decide) ?_
      refine lv_iload_n hx hb dX7_way_39 rfl (lv_at hl 1 rfl) ?_
      refine lv_iadd hx hb dX7_way_40 ?_
      obtain ⟨v9, hv9, hp⟩ := ob hp
      refine mr_iald C0 hM hv9 dX7_way_41 ?_
      obtain ⟨_, h10, hp⟩ := ob hp
      obtain ⟨v11, hv11, hp⟩ := ob hp
      refine mr_V1 (As := [.int a1, .int v9]) (rest := []) C0 cbX7 hM h10 rfl (w_X7_far hG hv11) tw_1559 tw_1561 tws_48 tw_7 tw_1562 yk_X7_far (by decide) rfl hl.1 (Nat.le_of_ble_eq_true rfl) dX7_way_42 rfl (fun H locs hM => ?_)
      refine lv_i2d hx hb dX7_way_45 ?_
      obtain ⟨v12, hv12, hp⟩ := ob hp
      refine mr_S1 (As := [.double (FP.i2d v11)]) (rest := []) C0 hM (w_X7_root hG hv12) tw_1704 tw_1705 tw_7 tw_1706 yk_X7_root (by decide) rfl hl.1 (Nat.le_of_ble_eq_true rfl) dX7_way_46 rfl (fun H locs hM => ?_)
      obtain ⟨w13, ew13, hp⟩ := ojn hp
      obtain ⟨hne, hp⟩ := oG hp
      refine lv_d2f hx hb dX7_way_49 (by rw [← ew13]; exact hne) ?_
      rw [← ew13]
      exact mr_fret C0 hr hlk hM (Prod.mk.inj (Option.some.inj hp)).2 (Prod.mk.inj (Option.some.inj hp)).1 (Nat.le_refl _) (Nat.le_refl _) dX7_way_50
    · replace hp := oT c7 hp
      refine mr_ldcwf (v := 3212836864) C0 tw_1703 dX7_way_24 ?_
      refine lv_goto (tgt := 50) hx hb dX7_way_27 (by decide) ?_
      exact mr_fret C0 hr hlk hM (Prod.mk.inj (Option.some.inj hp)).2 (Prod.mk.inj (Option.some.inj hp)).1 (Nat.le_refl _) (Nat.le_refl _) dX7_way_50
  · replace hp := oF c4 hp
    refine lv_fconst0 hx hb dX7_way_8 ?_
    exact mr_fret C0 hr hlk hM (Prod.mk.inj (Option.some.inj hp)).2 (Prod.mk.inj (Option.some.inj hp)).1 (Nat.le_refl _) (Nat.le_refl _) dX7_way_9
abbrev rm_X7_meanWay : Room := { frames := 2, cells := 0, slots := 0, locals := 44 }
def pl_X7_meanWay_9 (k1 : UInt64 → Option (UInt64 × Mem)) (f0 : Nat) (M : Mem) : Nat → UInt64 → Int32 → Option (UInt64 × Mem)
  | 0, _, _ => none
  | n + 1, y1, y3 =>
    (Option.bind (gR 6 0 M f0) fun v2 =>
    (Option.bind (aI 0 M v2 (1 : Int32)) fun v3 =>
    (if v3 ≤ y3 then
     (k1 y1)
    else
     (Option.bind (gR 6 0 M f0) fun v5 =>
     (Option.bind (aI 0 M v5 ((484 : Int32) + y3)) fun v6 =>
     (if v6 = (-1 : Int32) then
      (pl_X7_meanWay_9 k1 f0 M n y1 (y3 + (1 : Int32)))
     else
      (Option.bind (gR 6 0 M f0) fun v8 =>
      (Option.bind (aI 0 M v8 ((484 : Int32) + y3)) fun v9 =>
      (Option.bind (isC 6 M f0) fun _ =>
      (Option.bind (p_X7_far f0 y3 v9 M) fun v11 =>
      (Option.bind (p_X7_root (FP.i2d v11) M) fun v12 =>
      (jn (FP.dadd y1 v12) fun w13 =>
      (if w13 &&& 0x7fffffffffffffff ≤ 0x7ff0000000000000 then
      (pl_X7_meanWay_9 k1 f0 M n w13 (y3 + (1 : Int32)))
      else none))
      )
      )
      )
      )
      )
     )
     )
     )
    )
    )
    )
set_option maxHeartbeats 4000000 in
set_option maxRecDepth 100000 in
theorem wl_X7_meanWay_9 {G : gG} {p : Program} {l : Launch} {e : Env} {s : State} {m : MethodId} {args : Array Value} {below : List Frame} {meth : Method} {c : Code} {A : Nat → Prop} {r : UInt64} {M' : Mem} {k1 : UInt64 → Option (UInt64 × Mem)} {f0 : Nat} {M : Mem} (C0 : cx G p s m args c cX7_meanWay RX7 4 A) (hr : meth.sig.returnType = (some FieldType.double)) (hlk : meth.locks = false) (hG : GOK G) (hk1 : ∀ (z1 : UInt64) (H : Heap) (locs : List Loc) (ls : Array Slot), mm G A s M H locs → lv_has ls 4 [(0, .ref f0), (1, .double z1)] → k1 z1 = some (r, M') → W p l e rm_X7_meanWay s m args below meth c H locs 0 0 (MQ below (CQ G M' (some (.double r)) A) args s 0 0 A) (F0 m 61 ls [])) : ∀ (n : Nat) (y1 : UInt64) (y3 : Int32) (H : Heap) (locs : List Loc) (ls : Array Slot), mm G A s M H locs → lv_has ls 4 [(0, .ref f0), (1, .double y1), (3, .int y3)] → pl_X7_meanWay_9 k1 f0 M n y1 y3 = some (r, M') → W p l e rm_X7_meanWay s m args below meth c H locs 0 0 (MQ below (CQ G M' (some (.double r)) A) args s 0 0 A) (F0 m 9 ls []) := by
  have hx := C0.1
  have hb := C0.2.1
  have hown := C0.2.2.2.1
  have hts := C0.2.2.2.2.1
  intro n
  induction n with
  | zero => intro y1 y3 H locs ls hM hl hp; rw [pl_X7_meanWay_9] at hp; cases hp
  | succ n ih =>
    intro y1 y3 H locs ls hM hl hp
    rw [pl_X7_meanWay_9] at hp
    refine lv_iload_n hx hb dX7_meanWay_9 rfl (lv_at hl 2 rfl) ?_
    refine lv_aload_n hx hb dX7_meanWay_10 rfl (lv_at hl 0 rfl) ?_
    obtain ⟨v2, hv2, hp⟩ := ob hp
    refine mr_getR C0 cbX7 hM 0 (by decide) tw_1224 hv2 dX7_meanWay_11 ?_
    refine lv_iconst (v := 1) hx hb dX7_meanWay_14 (by decide) ?_
    obtain ⟨v3, hv3, hp⟩ := ob hp
    refine mr_iald C0 hM hv3 dX7_meanWay_15 ?_
    refine lv_icmp_ge (tgt := 61) hx hb dX7_meanWay_16 (by decide) (fun c4 => ?_) (fun c4 => ?_)
    · replace hp := oT c4 hp
      exact hk1 _ _ _ _ hM (lv_sub hl [0, 1] rfl) hp
    · replace hp := oF c4 hp
      refine lv_aload_n hx hb dX7_meanWay_19 rfl (lv_at hl 0 rfl) ?_
      obtain ⟨v5, hv5, hp⟩ := ob hp
      refine mr_getR C0 cbX7 hM 0 (by decide) tw_1224 hv5 dX7_meanWay_20 ?_
      refine lv_sipush (v := 484) hx hb dX7_meanWay_23 (by decide) ?_
      refine lv_iload_n hx hb dX7_meanWay_26 rfl (lv_at hl 2 rfl) ?_
      refine lv_iadd hx hb dX7_meanWay_27 ?_
      obtain ⟨v6, hv6, hp⟩ := ob hp
      refine mr_iald C0 hM hv6 dX7_meanWay_28 ?_
      refine lv_iconst (v := -1) hx hb dX7_meanWay_29 (by decide) ?_
      refine lv_icmp_eq (tgt := 55) hx hb dX7_meanWay_30 (by decide) (fun c7 => ?_) (fun c7 => ?_)
      · replace hp := oT c7 hp
        refine lv_iinc (v := (y3 + (1 : Int32))) (lv' := [(3, .int (y3 + (1 : Int32))), (0, .ref f0), (1, .double y1)]) hx hb dX7_meanWay_55 hl (k := 2) rfl rfl (by decide) rfl (fun ls hl => ?_)
        refine lv_goto (tgt := 9) hx hb dX7_meanWay_58 (by decide) ?_
        exact ih _ _ _ _ _ hM (lv_sub hl [1, 2, 0] rfl) hp
      · replace hp := oF c7 hp
        refine lv_dload_n hx hb dX7_meanWay_33 rfl (lv_at hl 1 rfl) ?_
        refine lv_aload_n hx hb dX7_meanWay_34 rfl (lv_at hl 0 rfl) ?_
        refine lv_iload_n hx hb dX7_meanWay_35 rfl (lv_at hl 2 rfl) ?_
        refine lv_aload_n hx hb dX7_meanWay_36 rfl (lv_at hl 0 rfl) ?_
        obtain ⟨v8, hv8, hp⟩ := ob hp
        refine mr_getR C0 cbX7 hM 0 (by decide) tw_1224 hv8 dX7_meanWay_37 ?_
        refine lv_sipush (v := 484) hx hb dX7_meanWay_40 (by decide) ?_
        refine lv_iload_n hx hb dX7_meanWay_43 rfl (lv_at hl 2 rfl) ?_
        refine lv_iadd hx hb dX7_meanWay_44 ?_
        obtain ⟨v9, hv9, hp⟩ := ob hp
        refine mr_iald C0 hM hv9 dX7_meanWay_45 ?_
        obtain ⟨_, h10, hp⟩ := ob hp
        obtain ⟨v11, hv11, hp⟩ := ob hp
        refine mr_V1 (As := [.int y3, .int v9]) (rest := [.double y1]) C0 cbX7 hM h10 rfl (w_X7_far hG hv11) tw_1559 tw_1561 tws_48 tw_7 tw_1562 yk_X7_far (by decide) rfl hl.1 (Nat.le_of_ble_eq_true rfl) dX7_meanWay_46 rfl (fun H locs hM => ?_)
        refine lv_i2d hx hb dX7_meanWay_49 ?_
        obtain ⟨v12, hv12, hp⟩ := ob hp
        refine mr_S1 (As := [.double (FP.i2d v11)]) (rest := [.double y1]) C0 hM (w_X7_root hG hv12) tw_1704 tw_1705 tw_7 tw_1706 yk_X7_root (by decide) rfl hl.1 (Nat.le_of_ble_eq_true rfl) dX7_meanWay_50 rfl (fun H locs hM => ?_)
        obtain ⟨w13, ew13, hp⟩ := ojn hp
        obtain ⟨hne, hp⟩ := oG hp
        refine lv_dadd hx hb dX7_meanWay_53 (by rw [← ew13]; exact hne) ?_
        rw [← ew13]
        refine lv_dstore_n (lv' := [(1, .double w13), (0, .ref f0), (3, .int y3)]) hx hb dX7_meanWay_54 rfl hl (by decide) rfl (fun ls hl => ?_)
        refine lv_iinc (v := (y3 + (1 : Int32))) (lv' := [(3, .int (y3 + (1 : Int32))), (1, .double w13), (0, .ref f0)]) hx hb dX7_meanWay_55 hl (k := 2) rfl rfl (by decide) rfl (fun ls hl => ?_)
        refine lv_goto (tgt := 9) hx hb dX7_meanWay_58 (by decide) ?_
        exact ih _ _ _ _ _ hM (lv_sub hl [2, 1, 0] rfl) hp
def p_X7_meanWay (a0 : Nat) (M : Mem) : Option (UInt64 × Mem) :=
  (Option.bind (sV 6 9 M a0 (.int (0 : Int32))) fun M1 =>
  (pl_X7_meanWay_9
   (fun (z14 : UInt64) =>
    (Option.bind (isC 6 M1 a0) fun _ =>
    (Option.bind (p_X7_placed a0 M1) fun v16 =>
    (if v16 = 0 then
     some (FP.dconst0, M1)
    else
     (Option.bind (isC 6 M1 a0) fun _ =>
     (Option.bind (p_X7_placed a0 M1) fun v19 =>
     (jn (FP.ddiv z14 (FP.i2d v19)) fun w20 =>
     (if w20 &&& 0x7fffffffffffffff ≤ 0x7ff0000000000000 then
     some (w20, M1)
     else none))
     )
     )
    )
    )
    )
   )
   a0 M1 FU FP.dconst0 (0 : Int32))
  )
theorem yk_X7_meanWay : yok yX7_meanWay 0 := by decide +kernel
set_option maxHeartbeats 4000000 in
set_option maxRecDepth 100000 in
theorem w_X7_meanWay {G : gG} (hG : GOK G) {l : Launch} {a0 : Nat} {M : Mem} {r : UInt64} {M' : Mem} (hp : p_X7_meanWay a0 M = some (r, M')) : CT G l yX7_meanWay (wT yX7_meanWay cX7_meanWay 4 (some FieldType.double)) rm_X7_meanWay [.ref a0] M (some (.double r)) M' 0 0 := by
  refine CT_of (own := RX7) (maxL := 4) (ret := (some FieldType.double)) hG (by decide) rfl (Nat.le_of_ble_eq_true rfl) (fun p e s m below meth c A C0 hr hlk hM ls hl => ?_)
  have hl : lv_has ls 4 [(0, .ref a0)] := hl
  generalize ([.ref a0] : List Value).toArray = args at C0 ⊢
  skip
  have hx := C0.1
  have hb := C0.2.1
  have hown := C0.2.2.2.1
  have hts := C0.2.2.2.2.1
  unfold p_X7_meanWay at hp
  refine lv_aload_n hx hb dX7_meanWay_0 rfl (lv_at hl 0 rfl) ?_
  refine lv_iconst (v := 0) hx hb dX7_meanWay_1 (by decide) ?_
  obtain ⟨M1, hM1, hp⟩ := ob hp
  refine mr_putI C0 cbX7 hM 9 (by decide) rfl rfl tw_1233 hM1 dX7_meanWay_2 (fun H locs hM => ?_)
  refine lv_dconst0 hx hb dX7_meanWay_5 ?_
  refine lv_dstore_n (lv' := [(1, .double FP.dconst0), (0, .ref a0)]) hx hb dX7_meanWay_6 rfl hl (by decide) rfl (fun ls hl => ?_)
  refine lv_iconst (v := 0) hx hb dX7_meanWay_7 (by decide) ?_
  refine lv_istore_n (lv' := [(3, .int (0 : Int32)), (1, .double FP.dconst0), (0, .ref a0)]) hx hb dX7_meanWay_8 rfl hl (by decide) rfl (fun ls hl => ?_)
  refine wl_X7_meanWay_9 C0 hr hlk hG (fun z14 H locs ls hM hl hp => ?_) FU _ _ _ _ _ hM (lv_sub hl [2, 1, 0] rfl) hp
  refine lv_aload_n hx hb dX7_meanWay_61 rfl (lv_at hl 0 rfl) ?_
  obtain ⟨_, h15, hp⟩ := ob hp
  obtain ⟨v16, hv16, hp⟩ := ob hp
  refine mr_V1 (As := []) (rest := []) C0 cbX7 hM h15 rfl (w_X7_placed hG hv16) tw_1691 tw_1693 tws_64 tw_7 tw_1694 yk_X7_placed (by decide) rfl hl.1 (Nat.le_of_ble_eq_true rfl) dX7_meanWay_62 rfl (fun H locs hM => ?_)
  refine lv_if_ne (tgt := 72) hx hb dX7_meanWay_65 (by decide) (fun c17 => ?_) (fun c17 => ?_)
  · replace hp := oF c17 hp
    refine lv_dload_n hx hb dX7_meanWay_72 rfl (lv_at hl 1 rfl) ?_
    refine lv_aload_n hx hb dX7_meanWay_73 rfl (lv_at hl 0 rfl) ?_
    obtain ⟨_, h18, hp⟩ := ob hp
    obtain ⟨v19, hv19, hp⟩ := ob hp
    refine mr_V1 (As := []) (rest := [.double z14]) C0 cbX7 hM h18 rfl (w_X7_placed hG hv19) tw_1691 tw_1693 tws_64 tw_7 tw_1694 yk_X7_placed (by decide) rfl hl.1 (Nat.le_of_ble_eq_true rfl) dX7_meanWay_74 rfl (fun H locs hM => ?_)
    refine lv_i2d hx hb dX7_meanWay_77 ?_
    obtain ⟨w20, ew20, hp⟩ := ojn hp
    obtain ⟨hne, hp⟩ := oG hp
    refine lv_ddiv hx hb dX7_meanWay_78 (by rw [← ew20]; exact hne) ?_
    rw [← ew20]
    exact mr_dret C0 hr hlk hM (Prod.mk.inj (Option.some.inj hp)).2 (Prod.mk.inj (Option.some.inj hp)).1 (Nat.le_refl _) (Nat.le_refl _) dX7_meanWay_79
  · replace hp := oT c17 hp
    refine lv_dconst0 hx hb dX7_meanWay_68 ?_
    refine lv_goto (tgt := 79) hx hb dX7_meanWay_69 (by decide) ?_
    exact mr_dret C0 hr hlk hM (Prod.mk.inj (Option.some.inj hp)).2 (Prod.mk.inj (Option.some.inj hp)).1 (Nat.le_refl _) (Nat.le_refl _) dX7_meanWay_79
abbrev rm_X7_prefers : Room := { frames := 2, cells := 0, slots := 0, locals := 44 }
def p_X7_prefers (a0 : Nat) (a1 : Int32) (a2 : Int32) (M : Mem) : Option (Int32) :=
  (Option.bind (isC 6 M a0) fun _ =>
  (Option.bind (p_X7_wishOf a0 a1 a2 M) fun v2 =>
  (if v2 = (-1 : Int32) then
   some (0 : Int32)
  else
   (Option.bind (isC 6 M a0) fun _ =>
   (Option.bind (p_X7_gotOf a0 a1 M) fun v5 =>
   (if v5 ≤ v2 then
    some (0 : Int32)
   else
    some (1 : Int32)
   )
   )
   )
  )
  )
  )
theorem yk_X7_prefers : yok yX7_prefers 2 := by decide +kernel
set_option maxHeartbeats 4000000 in
set_option maxRecDepth 100000 in
theorem w_X7_prefers {G : gG} (hG : GOK G) {l : Launch} {a0 : Nat} {a1 : Int32} {a2 : Int32} {M : Mem} {r : Int32} (hp : p_X7_prefers a0 a1 a2 M = some r) : CT G l yX7_prefers (wT yX7_prefers cX7_prefers 4 (some FieldType.boolean)) rm_X7_prefers [.ref a0, .int a1, .int a2] M (some (.int r)) M 0 0 := by
  refine CT_of (own := RX7) (maxL := 4) (ret := (some FieldType.boolean)) hG (by decide) rfl (Nat.le_of_ble_eq_true rfl) (fun p e s m below meth c A C0 hr hlk hM ls hl => ?_)
  have hl : lv_has ls 4 [(0, .ref a0), (1, .int a1), (2, .int a2)] := hl
  generalize ([.ref a0, .int a1, .int a2] : List Value).toArray = args at C0 ⊢
  skip
  have hx := C0.1
  have hb := C0.2.1
  have hown := C0.2.2.2.1
  have hts := C0.2.2.2.2.1
  unfold p_X7_prefers at hp
  refine lv_aload_n hx hb dX7_prefers_0 rfl (lv_at hl 0 rfl) ?_
  refine lv_iload_n hx hb dX7_prefers_1 rfl (lv_at hl 1 rfl) ?_
  refine lv_iload_n hx hb dX7_prefers_2 rfl (lv_at hl 2 rfl) ?_
  obtain ⟨_, h1, hp⟩ := ob hp
  obtain ⟨v2, hv2, hp⟩ := ob hp
  refine mr_V1 (As := [.int a1, .int a2]) (rest := []) C0 cbX7 hM h1 rfl (w_X7_wishOf hG hv2) tw_1428 tw_1430 tws_28 tw_7 tw_1431 yk_X7_wishOf (by decide) rfl hl.1 (Nat.le_of_ble_eq_true rfl) dX7_prefers_3 rfl (fun H locs hM => ?_)
  refine lv_istore_n (lv' := [(3, .int v2), (0, .ref a0), (1, .int a1), (2, .int a2)]) hx hb dX7_prefers_6 rfl hl (by decide) rfl (fun ls hl => ?_)
  refine lv_iload_n hx hb dX7_prefers_7 rfl (lv_at hl 0 rfl) ?_
  refine lv_iconst (v := -1) hx hb dX7_prefers_8 (by decide) ?_
  refine lv_icmp_eq (tgt := 25) hx hb dX7_prefers_9 (by decide) (fun c3 => ?_) (fun c3 => ?_)
  · replace hp := oT c3 hp
    refine lv_iconst (v := 0) hx hb dX7_prefers_25 (by decide) ?_
    exact mr_zret C0 hr hlk hM rfl (Or.inl rfl) (Option.some.inj hp) (Nat.le_refl _) (Nat.le_refl _) dX7_prefers_26
  · replace hp := oF c3 hp
    refine lv_iload_n hx hb dX7_prefers_12 rfl (lv_at hl 0 rfl) ?_
    refine lv_aload_n hx hb dX7_prefers_13 rfl (lv_at hl 1 rfl) ?_
    refine lv_iload_n hx hb dX7_prefers_14 rfl (lv_at hl 2 rfl) ?_
    obtain ⟨_, h4, hp⟩ := ob hp
    obtain ⟨v5, hv5, hp⟩ := ob hp
    refine mr_V1 (As := [.int a1]) (rest := [.int v2]) C0 cbX7 hM h4 rfl (w_X7_gotOf hG hv5) tw_1499 tw_1501 tws_41 tw_7 tw_1502 yk_X7_gotOf (by decide) rfl hl.1 (Nat.le_of_ble_eq_true rfl) dX7_prefers_15 rfl (fun H locs hM => ?_)
    refine lv_icmp_ge (tgt := 25) hx hb dX7_prefers_18 (by decide) (fun c6 => ?_) (fun c6 => ?_)
    · replace hp := oT c6 hp
      refine lv_iconst (v := 0) hx hb dX7_prefers_25 (by decide) ?_
      exact mr_zret C0 hr hlk hM rfl (Or.inl rfl) (Option.some.inj hp) (Nat.le_refl _) (Nat.le_refl _) dX7_prefers_26
    · replace hp := oF c6 hp
      refine lv_iconst (v := 1) hx hb dX7_prefers_21 (by decide) ?_
      refine lv_goto (tgt := 26) hx hb dX7_prefers_22 (by decide) ?_
      exact mr_zret C0 hr hlk hM rfl (Or.inr rfl) (Option.some.inj hp) (Nat.le_refl _) (Nat.le_refl _) dX7_prefers_26
abbrev rm_X7_trade : Room := { frames := 3, cells := 0, slots := 0, locals := 67 }
def p_X7_trade (a0 : Nat) (a1 : Int32) (a2 : Int32) (M : Mem) : Option (Int32) :=
  (Option.bind (gR 6 0 M a0) fun v1 =>
  (Option.bind (aI 0 M v1 ((484 : Int32) + a1)) fun v2 =>
  (if v2 = (-1 : Int32) then
   some (0 : Int32)
  else
   (Option.bind (gR 6 0 M a0) fun v4 =>
   (Option.bind (aI 0 M v4 ((484 : Int32) + a2)) fun v5 =>
   (if v5 = (-1 : Int32) then
    some (0 : Int32)
   else
    (Option.bind (gR 6 0 M a0) fun v7 =>
    (Option.bind (aI 0 M v7 ((484 : Int32) + a2)) fun v8 =>
    (Option.bind (isC 6 M a0) fun _ =>
    (Option.bind (p_X7_prefers a0 a1 v8 M) fun v10 =>
    (if v10 = 0 then
     some (0 : Int32)
    else
     (Option.bind (gR 6 0 M a0) fun v12 =>
     (Option.bind (aI 0 M v12 ((484 : Int32) + a1)) fun v13 =>
     (Option.bind (isC 6 M a0) fun _ =>
     (Option.bind (p_X7_prefers a0 a2 v13 M) fun v15 =>
     (if v15 = 0 then
      some (0 : Int32)
     else
      some (1 : Int32)
     )
     )
     )
     )
     )
    )
    )
    )
    )
    )
   )
   )
   )
  )
  )
  )
theorem yk_X7_trade : yok yX7_trade 2 := by decide +kernel
set_option maxHeartbeats 4000000 in
set_option maxRecDepth 100000 in
theorem w_X7_trade {G : gG} (hG : GOK G) {l : Launch} {a0 : Nat} {a1 : Int32} {a2 : Int32} {M : Mem} {r : Int32} (hp : p_X7_trade a0 a1 a2 M = some r) : CT G l yX7_trade (wT yX7_trade cX7_trade 3 (some FieldType.boolean)) rm_X7_trade [.ref a0, .int a1, .int a2] M (some (.int r)) M 0 0 := by
  refine CT_of (own := RX7) (maxL := 3) (ret := (some FieldType.boolean)) hG (by decide) rfl (Nat.le_of_ble_eq_true rfl) (fun p e s m below meth c A C0 hr hlk hM ls hl => ?_)
  have hl : lv_has ls 3 [(0, .ref a0), (1, .int a1), (2, .int a2)] := hl
  generalize ([.ref a0, .int a1, .int a2] : List Value).toArray = args at C0 ⊢
  skip
  have hx := C0.1
  have hb := C0.2.1
  have hown := C0.2.2.2.1
  have hts := C0.2.2.2.2.1
  unfold p_X7_trade at hp
  refine lv_aload_n hx hb dX7_trade_0 rfl (lv_at hl 0 rfl) ?_
  obtain ⟨v1, hv1, hp⟩ := ob hp
  refine mr_getR C0 cbX7 hM 0 (by decide) tw_1224 hv1 dX7_trade_1 ?_
  refine lv_sipush (v := 484) hx hb dX7_trade_4 (by decide) ?_
  refine lv_iload_n hx hb dX7_trade_7 rfl (lv_at hl 1 rfl) ?_
  refine lv_iadd hx hb dX7_trade_8 ?_
  obtain ⟨v2, hv2, hp⟩ := ob hp
  refine mr_iald C0 hM hv2 dX7_trade_9 ?_
  refine lv_iconst (v := -1) hx hb dX7_trade_10 (by decide) ?_
  refine lv_icmp_eq (tgt := 68) hx hb dX7_trade_11 (by decide) (fun c3 => ?_) (fun c3 => ?_)
  · replace hp := oT c3 hp
    refine lv_iconst (v := 0) hx hb dX7_trade_68 (by decide) ?_
    exact mr_zret C0 hr hlk hM rfl (Or.inl rfl) (Option.some.inj hp) (Nat.le_refl _) (Nat.le_refl _) dX7_trade_69
  · replace hp := oF c3 hp
    refine lv_aload_n hx hb dX7_trade_14 rfl (lv_at hl 0 rfl) ?_
    obtain ⟨v4, hv4, hp⟩ := ob hp
    refine mr_getR C0 cbX7 hM 0 (by decide) tw_1224 hv4 dX7_trade_15 ?_
    refine lv_sipush (v := 484) hx hb dX7_trade_18 (by decide) ?_
    refine lv_iload_n hx hb dX7_trade_21 rfl (lv_at hl 2 rfl) ?_
    refine lv_iadd hx hb dX7_trade_22 ?_
    obtain ⟨v5, hv5, hp⟩ := ob hp
    refine mr_iald C0 hM hv5 dX7_trade_23 ?_
    refine lv_iconst (v := -1) hx hb dX7_trade_24 (by decide) ?_
    refine lv_icmp_eq (tgt := 68) hx hb dX7_trade_25 (by decide) (fun c6 => ?_) (fun c6 => ?_)
    · replace hp := oT c6 hp
      refine lv_iconst (v := 0) hx hb dX7_trade_68 (by decide) ?_
      exact mr_zret C0 hr hlk hM rfl (Or.inl rfl) (Option.some.inj hp) (Nat.le_refl _) (Nat.le_refl _) dX7_trade_69
    · replace hp := oF c6 hp
      refine lv_aload_n hx hb dX7_trade_28 rfl (lv_at hl 0 rfl) ?_
      refine lv_iload_n hx hb dX7_trade_29 rfl (lv_at hl 1 rfl) ?_
      refine lv_aload_n hx hb dX7_trade_30 rfl (lv_at hl 0 rfl) ?_
      obtain ⟨v7, hv7, hp⟩ := ob hp
      refine mr_getR C0 cbX7 hM 0 (by decide) tw_1224 hv7 dX7_trade_31 ?_
      refine lv_sipush (v := 484) hx hb dX7_trade_34 (by decide) ?_
      refine lv_iload_n hx hb dX7_trade_37 rfl (lv_at hl 2 rfl) ?_
      refine lv_iadd hx hb dX7_trade_38 ?_
      obtain ⟨v8, hv8, hp⟩ := ob hp
      refine mr_iald C0 hM hv8 dX7_trade_39 ?_
      obtain ⟨_, h9, hp⟩ := ob hp
      obtain ⟨v10, hv10, hp⟩ := ob hp
      refine mr_V1 (As := [.int a1, .int v8]) (rest := []) C0 cbX7 hM h9 rfl (w_X7_prefers hG hv10) tw_1720 tw_1722 tws_66 tw_7 tw_1723 yk_X7_prefers (by decide) rfl hl.1 (Nat.le_of_ble_eq_true rfl) dX7_trade_40 rfl (fun H locs hM => ?_)
      refine lv_if_eq (tgt := 68) hx hb dX7_trade_43 (by decide) (fun c11 => ?_) (fun c11 => ?_)
      · replace hp := oT c11 hp
        refine lv_iconst (v := 0) hx hb dX7_trade_68 (by decide) ?_
        exact mr_zret C0 hr hlk hM rfl (Or.inl rfl) (Option.some.inj hp) (Nat.le_refl _) (Nat.le_refl _) dX7_trade_69
      · replace hp := oF c11 hp
        refine lv_aload_n hx hb dX7_trade_46 rfl (lv_at hl 0 rfl) ?_
        refine lv_iload_n hx hb dX7_trade_47 rfl (lv_at hl 2 rfl) ?_
        refine lv_aload_n hx hb dX7_trade_48 rfl (lv_at hl 0 rfl) ?_
        obtain ⟨v12, hv12, hp⟩ := ob hp
        refine mr_getR C0 cbX7 hM 0 (by decide) tw_1224 hv12 dX7_trade_49 ?_
        refine lv_sipush (v := 484) hx hb dX7_trade_52 (by decide) ?_
        refine lv_iload_n hx hb dX7_trade_55 rfl (lv_at hl 1 rfl) ?_
        refine lv_iadd hx hb dX7_trade_56 ?_
        obtain ⟨v13, hv13, hp⟩ := ob hp
        refine mr_iald C0 hM hv13 dX7_trade_57 ?_
        obtain ⟨_, h14, hp⟩ := ob hp
        obtain ⟨v15, hv15, hp⟩ := ob hp
        refine mr_V1 (As := [.int a2, .int v13]) (rest := []) C0 cbX7 hM h14 rfl (w_X7_prefers hG hv15) tw_1720 tw_1722 tws_66 tw_7 tw_1723 yk_X7_prefers (by decide) rfl hl.1 (Nat.le_of_ble_eq_true rfl) dX7_trade_58 rfl (fun H locs hM => ?_)
        refine lv_if_eq (tgt := 68) hx hb dX7_trade_61 (by decide) (fun c16 => ?_) (fun c16 => ?_)
        · replace hp := oT c16 hp
          refine lv_iconst (v := 0) hx hb dX7_trade_68 (by decide) ?_
          exact mr_zret C0 hr hlk hM rfl (Or.inl rfl) (Option.some.inj hp) (Nat.le_refl _) (Nat.le_refl _) dX7_trade_69
        · replace hp := oF c16 hp
          refine lv_iconst (v := 1) hx hb dX7_trade_64 (by decide) ?_
          refine lv_goto (tgt := 69) hx hb dX7_trade_65 (by decide) ?_
          exact mr_zret C0 hr hlk hM rfl (Or.inr rfl) (Option.some.inj hp) (Nat.le_refl _) (Nat.le_refl _) dX7_trade_69
abbrev rm_X7_tradePartner : Room := { frames := 4, cells := 0, slots := 0, locals := 89 }
def pl_X7_tradePartner_12 (k1 : Int32 → Option (Int32 × Mem)) (f0 : Nat) (f1 : Int32) (M : Mem) : Nat → Int32 → Option (Int32 × Mem)
  | 0, _ => none
  | n + 1, y2 =>
    (Option.bind (gR 6 0 M f0) fun v10 =>
    (Option.bind (aI 0 M v10 (1 : Int32)) fun v11 =>
    (if v11 ≤ y2 then
     (k1 y2)
    else
     (Option.bind (isC 6 M f0) fun _ =>
     (Option.bind (p_X7_trade f0 f1 y2 M) fun v14 =>
     (if v14 = 0 then
      (pl_X7_tradePartner_12 k1 f0 f1 M n (y2 + (1 : Int32)))
     else
      (k1 y2)
     )
     )
     )
    )
    )
    )
set_option maxHeartbeats 4000000 in
set_option maxRecDepth 100000 in
theorem wl_X7_tradePartner_12 {G : gG} {p : Program} {l : Launch} {e : Env} {s : State} {m : MethodId} {args : Array Value} {below : List Frame} {meth : Method} {c : Code} {A : Nat → Prop} {r : Int32} {M' : Mem} {k1 : Int32 → Option (Int32 × Mem)} {f0 : Nat} {f1 : Int32} {M : Mem} (C0 : cx G p s m args c cX7_tradePartner RX7 3 A) (hr : meth.sig.returnType = (some FieldType.int)) (hlk : meth.locks = false) (hG : GOK G) (hk1 : ∀ (z2 : Int32) (H : Heap) (locs : List Loc) (ls : Array Slot), mm G A s M H locs → lv_has ls 3 [(0, .ref f0), (2, .int z2)] → k1 z2 = some (r, M') → W p l e rm_X7_tradePartner s m args below meth c H locs 0 0 (MQ below (CQ G M' (some (.int r)) A) args s 0 0 A) (F0 m 37 ls [])) : ∀ (n : Nat) (y2 : Int32) (H : Heap) (locs : List Loc) (ls : Array Slot), mm G A s M H locs → lv_has ls 3 [(0, .ref f0), (1, .int f1), (2, .int y2)] → pl_X7_tradePartner_12 k1 f0 f1 M n y2 = some (r, M') → W p l e rm_X7_tradePartner s m args below meth c H locs 0 0 (MQ below (CQ G M' (some (.int r)) A) args s 0 0 A) (F0 m 12 ls []) := by
  have hx := C0.1
  have hb := C0.2.1
  have hown := C0.2.2.2.1
  have hts := C0.2.2.2.2.1
  intro n
  induction n with
  | zero => intro y2 H locs ls hM hl hp; rw [pl_X7_tradePartner_12] at hp; cases hp
  | succ n ih =>
    intro y2 H locs ls hM hl hp
    rw [pl_X7_tradePartner_12] at hp
    refine lv_iload_n hx hb dX7_tradePartner_12 rfl (lv_at hl 2 rfl) ?_
    refine lv_aload_n hx hb dX7_tradePartner_13 rfl (lv_at hl 0 rfl) ?_
    obtain ⟨v10, hv10, hp⟩ := ob hp
    refine mr_getR C0 cbX7 hM 0 (by decide) tw_1224 hv10 dX7_tradePartner_14 ?_
    refine lv_iconst (v := 1) hx hb dX7_tradePartner_17 (by decide) ?_
    obtain ⟨v11, hv11, hp⟩ := ob hp
    refine mr_iald C0 hM hv11 dX7_tradePartner_18 ?_
    refine lv_icmp_ge (tgt := 37) hx hb dX7_tradePartner_19 (by decide) (fun c12 => ?_) (fun c12 => ?_)
    · replace hp := oT c12 hp
      exact hk1 _ _ _ _ hM (lv_sub hl [0, 2] rfl) hp
    · replace hp := oF c12 hp
      refine lv_aload_n hx hb dX7_tradePartner_22 rfl (lv_at hl 0 rfl) ?_
      refine lv_iload_n hx hb dX7_tradePartner_23 rfl (lv_at hl 1 rfl) ?_
      refine lv_iload_n hx hb dX7_tradePartner_24 rfl (lv_at hl 2 rfl) ?_
      obtain ⟨_, h13, hp⟩ := ob hp
      obtain ⟨v14, hv14, hp⟩ := ob hp
      refine mr_V1 (As := [.int f1, .int y2]) (rest := []) C0 cbX7 hM h13 rfl (w_X7_trade hG hv14) tw_1716 tw_1718 tws_65 tw_7 tw_1719 yk_X7_trade (by decide) rfl hl.1 (Nat.le_of_ble_eq_true rfl) dX7_tradePartner_25 rfl (fun H locs hM => ?_)
      refine lv_if_ne (tgt := 37) hx hb dX7_tradePartner_28 (by decide) (fun c15 => ?_) (fun c15 => ?_)
      · replace hp := oF c15 hp
        exact hk1 _ _ _ _ hM (lv_sub hl [0, 2] rfl) hp
      · replace hp := oT c15 hp
        refine lv_iinc (v := (y2 + (1 : Int32))) (lv' := [(2, .int (y2 + (1 : Int32))), (0, .ref f0), (1, .int f1)]) hx hb dX7_tradePartner_31 hl (k := 2) rfl rfl (by decide) rfl (fun ls hl => ?_)
        refine lv_goto (tgt := 12) hx hb dX7_tradePartner_34 (by decide) ?_
        exact ih _ _ _ _ hM (lv_sub hl [1, 2, 0] rfl) hp
def p_X7_tradePartner (a0 : Nat) (a1 : Int32) (M : Mem) : Option (Int32 × Mem) :=
  (Option.bind (isC 6 M a0) fun _ =>
  (ob2 (p_X7_noChild a0 a1 M) fun v2 M3 =>
  (if v2 = 0 then
   (jn (fun (x5 : Int32) =>
    (Option.bind (gR 6 0 M3 a0) fun v7 =>
    (Option.bind (aI 0 M3 v7 (1 : Int32)) fun v8 =>
    (if x5 = v8 then
     some ((-1 : Int32), M3)
    else
     some (x5, M3)
    )
    )
    )
   ) fun k6 =>
   (pl_X7_tradePartner_12
    (fun (z16 : Int32) =>
     (k6 z16)
    )
    a0 a1 M3 FU (0 : Int32))
   )
  else
   some ((0 : Int32), M3)
  )
  )
  )
theorem yk_X7_tradePartner : yok yX7_tradePartner 1 := by decide +kernel
set_option maxHeartbeats 4000000 in
set_option maxRecDepth 100000 in
theorem w_X7_tradePartner {G : gG} (hG : GOK G) {l : Launch} {a0 : Nat} {a1 : Int32} {M : Mem} {r : Int32} {M' : Mem} (hp : p_X7_tradePartner a0 a1 M = some (r, M')) : CT G l yX7_tradePartner (wT yX7_tradePartner cX7_tradePartner 3 (some FieldType.int)) rm_X7_tradePartner [.ref a0, .int a1] M (some (.int r)) M' 0 0 := by
  refine CT_of (own := RX7) (maxL := 3) (ret := (some FieldType.int)) hG (by decide) rfl (Nat.le_of_ble_eq_true rfl) (fun p e s m below meth c A C0 hr hlk hM ls hl => ?_)
  have hl : lv_has ls 3 [(0, .ref a0), (1, .int a1)] := hl
  generalize ([.ref a0, .int a1] : List Value).toArray = args at C0 ⊢
  skip
  have hx := C0.1
  have hb := C0.2.1
  have hown := C0.2.2.2.1
  have hts := C0.2.2.2.2.1
  unfold p_X7_tradePartner at hp
  refine lv_aload_n hx hb dX7_tradePartner_0 rfl (lv_at hl 0 rfl) ?_
  refine lv_iload_n hx hb dX7_tradePartner_1 rfl (lv_at hl 1 rfl) ?_
  obtain ⟨_, h1, hp⟩ := ob hp
  obtain ⟨v2, M3, hv2, hp⟩ := ob3 hp
  refine mr_V1 (As := [.int a1]) (rest := []) C0 cbX7 hM h1 rfl (w_X7_noChild hG hv2) tw_1511 tw_1513 tws_42 tw_7 tw_1514 yk_X7_noChild (by decide) rfl hl.1 (Nat.le_of_ble_eq_true rfl) dX7_tradePartner_2 rfl (fun H locs hM => ?_)
  refine lv_if_eq (tgt := 10) hx hb dX7_tradePartner_5 (by decide) (fun c4 => ?_) (fun c4 => ?_)
  · replace hp := oT c4 hp
    refine lv_iconst (v := 0) hx hb dX7_tradePartner_10 (by decide) ?_
    refine lv_istore_n (lv' := [(2, .int (0 : Int32)), (0, .ref a0), (1, .int a1)]) hx hb dX7_tradePartner_11 rfl hl (by decide) rfl (fun ls hl => ?_)
    obtain ⟨k6, ek6, hp⟩ := ojn hp
    have hk6 : ∀ (x5 : Int32) (H : Heap) (locs : List Loc) (ls : Array Slot), mm G A s M3 H locs → lv_has ls 3 [(0, .ref a0), (2, .int x5)] → k6 x5 = some (r, M') → W p l e rm_X7_tradePartner s m args below meth c H locs 0 0 (MQ below (CQ G M' (some (.int r)) A) args s 0 0 A) (F0 m 37 ls []) := by
      intro x5 H locs ls hM hl hp
      rw [ek6] at hp
      refine lv_iload_n hx hb dX7_tradePartner_37 rfl (lv_at hl 1 rfl) ?_
      refine lv_aload_n hx hb dX7_tradePartner_38 rfl (lv_at hl 0 rfl) ?_
      obtain ⟨v7, hv7, hp⟩ := ob hp
      refine mr_getR C0 cbX7 hM 0 (by decide) tw_1224 hv7 dX7_tradePartner_39 ?_
      refine lv_iconst (v := 1) hx hb dX7_tradePartner_42 (by decide) ?_
      obtain ⟨v8, hv8, hp⟩ := ob hp
      refine mr_iald C0 hM hv8 dX7_tradePartner_43 ?_
      refine lv_icmp_ne (tgt := 51) hx hb dX7_tradePartner_44 (by decide) (fun c9 => ?_) (fun c9 => ?_)
      · replace hp := oF c9 hp
        refine lv_iload_n hx hb dX7_tradePartner_51 rfl (lv_at hl 1 rfl) ?_
        exact mr_iret C0 hr hlk hM (Prod.mk.inj (Option.some.inj hp)).2 (Prod.mk.inj (Option.some.inj hp)).1 (Nat.le_refl _) (Nat.le_refl _) dX7_tradePartner_52
      · replace hp := oT c9 hp
        refine lv_iconst (v := -1) hx hb dX7_tradePartner_47 (by decide) ?_
        refine lv_goto (tgt := 52) hx hb dX7_tradePartner_48 (by decide) ?_
        exact mr_iret C0 hr hlk hM (Prod.mk.inj (Option.some.inj hp)).2 (Prod.mk.inj (Option.some.inj hp)).1 (Nat.le_refl _) (Nat.le_refl _) dX7_tradePartner_52
    refine wl_X7_tradePartner_12 C0 hr hlk hG (fun z16 H locs ls hM hl hp => ?_) FU _ _ _ _ hM (lv_sub hl [1, 2, 0] rfl) hp
    exact hk6 _ _ _ _ hM (lv_sub hl [0, 1] rfl) hp
  · replace hp := oF c4 hp
    refine lv_iconst (v := 0) hx hb dX7_tradePartner_8 (by decide) ?_
    exact mr_iret C0 hr hlk hM (Prod.mk.inj (Option.some.inj hp)).2 (Prod.mk.inj (Option.some.inj hp)).1 (Nat.le_refl _) (Nat.le_refl _) dX7_tradePartner_9
abbrev rm_X7_trades : Room := { frames := 4, cells := 0, slots := 0, locals := 89 }
def pl_X7_trades_21 (k1 : Int32 → Option (Int32 × Mem)) (f0 : Nat) (f2 : Int32) (M : Mem) : Nat → Int32 → Int32 → Option (Int32 × Mem)
  | 0, _, _ => none
  | n + 1, y1, y3 =>
    (if f2 ≤ y3 then
     (k1 y1)
    else
     (Option.bind (isC 6 M f0) fun _ =>
     (Option.bind (p_X7_trade f0 f2 y3 M) fun v7 =>
     (jn (fun (s8 : Int32) =>
      (pl_X7_trades_21 k1 f0 f2 M n (y1 + s8) (y3 + (1 : Int32)))
     ) fun k9 =>
     (if v7 = 0 then
      (k9 (0 : Int32))
     else
      (k9 (1 : Int32))
     )
     )
     )
     )
    )
set_option maxHeartbeats 4000000 in
set_option maxRecDepth 100000 in
theorem wl_X7_trades_21 {G : gG} {p : Program} {l : Launch} {e : Env} {s : State} {m : MethodId} {args : Array Value} {below : List Frame} {meth : Method} {c : Code} {A : Nat → Prop} {r : Int32} {M' : Mem} {k1 : Int32 → Option (Int32 × Mem)} {f0 : Nat} {f2 : Int32} {M : Mem} (C0 : cx G p s m args c cX7_trades RX7 4 A) (hr : meth.sig.returnType = (some FieldType.int)) (hlk : meth.locks = false) (hG : GOK G) (hk1 : ∀ (z1 : Int32) (H : Heap) (locs : List Loc) (ls : Array Slot), mm G A s M H locs → lv_has ls 4 [(0, .ref f0), (1, .int z1), (2, .int f2)] → k1 z1 = some (r, M') → W p l e rm_X7_trades s m args below meth c H locs 0 0 (MQ below (CQ G M' (some (.int r)) A) args s 0 0 A) (F0 m 49 ls [])) : ∀ (n : Nat) (y1 : Int32) (y3 : Int32) (H : Heap) (locs : List Loc) (ls : Array Slot), mm G A s M H locs → lv_has ls 4 [(0, .ref f0), (1, .int y1), (2, .int f2), (3, .int y3)] → pl_X7_trades_21 k1 f0 f2 M n y1 y3 = some (r, M') → W p l e rm_X7_trades s m args below meth c H locs 0 0 (MQ below (CQ G M' (some (.int r)) A) args s 0 0 A) (F0 m 21 ls []) := by
  have hx := C0.1
  have hb := C0.2.1
  have hown := C0.2.2.2.1
  have hts := C0.2.2.2.2.1
  intro n
  induction n with
  | zero => intro y1 y3 H locs ls hM hl hp; rw [pl_X7_trades_21] at hp; cases hp
  | succ n ih =>
    intro y1 y3 H locs ls hM hl hp
    rw [pl_X7_trades_21] at hp
    refine lv_iload_n hx hb dX7_trades_21 rfl (lv_at hl 3 rfl) ?_
    refine lv_iload_n hx hb dX7_trades_22 rfl (lv_at hl 2 rfl) ?_
    refine lv_icmp_ge (tgt := 49) hx hb dX7_trades_23 (by decide) (fun c5 => ?_) (fun c5 => ?_)
    · replace hp := oT c5 hp
      exact hk1 _ _ _ _ hM (lv_sub hl [0, 1, 2] rfl) hp
    · replace hp := oF c5 hp
      refine lv_iload_n hx hb dX7_trades_26 rfl (lv_at hl 1 rfl) ?_
      refine lv_aload_n hx hb dX7_trades_27 rfl (lv_at hl 0 rfl) ?_
      refine lv_iload_n hx hb dX7_trades_28 rfl (lv_at hl 2 rfl) ?_
      refine lv_iload_n hx hb dX7_trades_29 rfl (lv_at hl 3 rfl) ?_
      obtain ⟨_, h6, hp⟩ := ob hp
      obtain ⟨v7, hv7, hp⟩ := ob hp
      refine mr_V1 (As := [.int f2, .int y3]) (rest := [.int y1]) C0 cbX7 hM h6 rfl (w_X7_trade hG hv7) tw_1716 tw_1718 tws_65 tw_7 tw_1719 yk_X7_trade (by decide) rfl hl.1 (Nat.le_of_ble_eq_true rfl) dX7_trades_30 rfl (fun H locs hM => ?_)
      obtain ⟨k9, ek9, hp⟩ := ojn hp
      have hk9 : ∀ (s8 : Int32) (H : Heap) (locs : List Loc) (ls : Array Slot), mm G A s M H locs → lv_has ls 4 [(0, .ref f0), (2, .int f2), (3, .int y3)] → k9 s8 = some (r, M') → W p l e rm_X7_trades s m args below meth c H locs 0 0 (MQ below (CQ G M' (some (.int r)) A) args s 0 0 A) (F0 m 41 ls [.int s8, .int y1]) := by
        intro s8 H locs ls hM hl hp
        rw [ek9] at hp
        refine lv_iadd hx hb dX7_trades_41 ?_
        refine lv_istore_n (lv' := [(1, .int (y1 + s8)), (0, .ref f0), (2, .int f2), (3, .int y3)]) hx hb dX7_trades_42 rfl hl (by decide) rfl (fun ls hl => ?_)
        refine lv_iinc (v := (y3 + (1 : Int32))) (lv' := [(3, .int (y3 + (1 : Int32))), (1, .int (y1 + s8)), (0, .ref f0), (2, .int f2)]) hx hb dX7_trades_43 hl (k := 3) rfl rfl (by decide) rfl (fun ls hl => ?_)
        refine lv_goto (tgt := 21) hx hb dX7_trades_46 (by decide) ?_
        exact ih _ _ _ _ _ hM (lv_sub hl [2, 1, 3, 0] rfl) hp
      refine lv_if_eq (tgt := 40) hx hb dX7_trades_33 (by decide) (fun c10 => ?_) (fun c10 => ?_)
      · replace hp := oT c10 hp
        refine lv_iconst (v := 0) hx hb dX7_trades_40 (by decide) ?_
        exact hk9 _ _ _ _ hM (lv_sub hl [0, 2, 3] rfl) hp
      · replace hp := oF c10 hp
        refine lv_iconst (v := 1) hx hb dX7_trades_36 (by decide) ?_
        refine lv_goto (tgt := 41) hx hb dX7_trades_37 (by decide) ?_
        exact hk9 _ _ _ _ hM (lv_sub hl [0, 2, 3] rfl) hp
def pl_X7_trades_9 (k1 : Int32 → Option (Int32 × Mem)) (f0 : Nat) (M : Mem) : Nat → Int32 → Int32 → Option (Int32 × Mem)
  | 0, _, _ => none
  | n + 1, y1, y2 =>
    (Option.bind (gR 6 0 M f0) fun v2 =>
    (Option.bind (aI 0 M v2 (1 : Int32)) fun v3 =>
    (if v3 ≤ y2 then
     (k1 y1)
    else
     (pl_X7_trades_21
      (fun (z11 : Int32) =>
       (pl_X7_trades_9 k1 f0 M n z11 (y2 + (1 : Int32)))
      )
      f0 y2 M FU y1 (0 : Int32))
    )
    )
    )
set_option maxHeartbeats 4000000 in
set_option maxRecDepth 100000 in
theorem wl_X7_trades_9 {G : gG} {p : Program} {l : Launch} {e : Env} {s : State} {m : MethodId} {args : Array Value} {below : List Frame} {meth : Method} {c : Code} {A : Nat → Prop} {r : Int32} {M' : Mem} {k1 : Int32 → Option (Int32 × Mem)} {f0 : Nat} {M : Mem} (C0 : cx G p s m args c cX7_trades RX7 4 A) (hr : meth.sig.returnType = (some FieldType.int)) (hlk : meth.locks = false) (hG : GOK G) (hk1 : ∀ (z1 : Int32) (H : Heap) (locs : List Loc) (ls : Array Slot), mm G A s M H locs → lv_has ls 4 [(1, .int z1)] → k1 z1 = some (r, M') → W p l e rm_X7_trades s m args below meth c H locs 0 0 (MQ below (CQ G M' (some (.int r)) A) args s 0 0 A) (F0 m 55 ls [])) : ∀ (n : Nat) (y1 : Int32) (y2 : Int32) (H : Heap) (locs : List Loc) (ls : Array Slot), mm G A s M H locs → lv_has ls 4 [(0, .ref f0), (1, .int y1), (2, .int y2)] → pl_X7_trades_9 k1 f0 M n y1 y2 = some (r, M') → W p l e rm_X7_trades s m args below meth c H locs 0 0 (MQ below (CQ G M' (some (.int r)) A) args s 0 0 A) (F0 m 9 ls []) := by
  have hx := C0.1
  have hb := C0.2.1
  have hown := C0.2.2.2.1
  have hts := C0.2.2.2.2.1
  intro n
  induction n with
  | zero => intro y1 y2 H locs ls hM hl hp; rw [pl_X7_trades_9] at hp; cases hp
  | succ n ih =>
    intro y1 y2 H locs ls hM hl hp
    rw [pl_X7_trades_9] at hp
    refine lv_iload_n hx hb dX7_trades_9 rfl (lv_at hl 2 rfl) ?_
    refine lv_aload_n hx hb dX7_trades_10 rfl (lv_at hl 0 rfl) ?_
    obtain ⟨v2, hv2, hp⟩ := ob hp
    refine mr_getR C0 cbX7 hM 0 (by decide) tw_1224 hv2 dX7_trades_11 ?_
    refine lv_iconst (v := 1) hx hb dX7_trades_14 (by decide) ?_
    obtain ⟨v3, hv3, hp⟩ := ob hp
    refine mr_iald C0 hM hv3 dX7_trades_15 ?_
    refine lv_icmp_ge (tgt := 55) hx hb dX7_trades_16 (by decide) (fun c4 => ?_) (fun c4 => ?_)
    · replace hp := oT c4 hp
      exact hk1 _ _ _ _ hM (lv_sub hl [1] rfl) hp
    · replace hp := oF c4 hp
      refine lv_iconst (v := 0) hx hb dX7_trades_19 (by decide) ?_
      refine lv_istore_n (lv' := [(3, .int (0 : Int32)), (0, .ref f0), (1, .int y1), (2, .int y2)]) hx hb dX7_trades_20 rfl hl (by decide) rfl (fun ls hl => ?_)
      refine wl_X7_trades_21 C0 hr hlk hG (fun z11 H locs ls hM hl hp => ?_) FU _ _ _ _ _ hM (lv_sub hl [1, 2, 3, 0] rfl) hp
      refine lv_iinc (v := (y2 + (1 : Int32))) (lv' := [(2, .int (y2 + (1 : Int32))), (0, .ref f0), (1, .int z11)]) hx hb dX7_trades_49 hl (k := 2) rfl rfl (by decide) rfl (fun ls hl => ?_)
      refine lv_goto (tgt := 9) hx hb dX7_trades_52 (by decide) ?_
      exact ih _ _ _ _ _ hM (lv_sub hl [1, 2, 0] rfl) hp
def p_X7_trades (a0 : Nat) (M : Mem) : Option (Int32 × Mem) :=
  (Option.bind (sV 6 9 M a0 (.int (0 : Int32))) fun M1 =>
  (pl_X7_trades_9
   (fun (z12 : Int32) =>
    some (z12, M1)
   )
   a0 M1 FU (0 : Int32) (0 : Int32))
  )
theorem yk_X7_trades : yok yX7_trades 0 := by decide +kernel
set_option maxHeartbeats 4000000 in
set_option maxRecDepth 100000 in
theorem w_X7_trades {G : gG} (hG : GOK G) {l : Launch} {a0 : Nat} {M : Mem} {r : Int32} {M' : Mem} (hp : p_X7_trades a0 M = some (r, M')) : CT G l yX7_trades (wT yX7_trades cX7_trades 4 (some FieldType.int)) rm_X7_trades [.ref a0] M (some (.int r)) M' 0 0 := by
  refine CT_of (own := RX7) (maxL := 4) (ret := (some FieldType.int)) hG (by decide) rfl (Nat.le_of_ble_eq_true rfl) (fun p e s m below meth c A C0 hr hlk hM ls hl => ?_)
  have hl : lv_has ls 4 [(0, .ref a0)] := hl
  generalize ([.ref a0] : List Value).toArray = args at C0 ⊢
  skip
  have hx := C0.1
  have hb := C0.2.1
  have hown := C0.2.2.2.1
  have hts := C0.2.2.2.2.1
  unfold p_X7_trades at hp
  refine lv_aload_n hx hb dX7_trades_0 rfl (lv_at hl 0 rfl) ?_
  refine lv_iconst (v := 0) hx hb dX7_trades_1 (by decide) ?_
  obtain ⟨M1, hM1, hp⟩ := ob hp
  refine mr_putI C0 cbX7 hM 9 (by decide) rfl rfl tw_1233 hM1 dX7_trades_2 (fun H locs hM => ?_)
  refine lv_iconst (v := 0) hx hb dX7_trades_5 (by decide) ?_
  refine lv_istore_n (lv' := [(1, .int (0 : Int32)), (0, .ref a0)]) hx hb dX7_trades_6 rfl hl (by decide) rfl (fun ls hl => ?_)
  refine lv_iconst (v := 0) hx hb dX7_trades_7 (by decide) ?_
  refine lv_istore_n (lv' := [(2, .int (0 : Int32)), (1, .int (0 : Int32)), (0, .ref a0)]) hx hb dX7_trades_8 rfl hl (by decide) rfl (fun ls hl => ?_)
  refine wl_X7_trades_9 C0 hr hlk hG (fun z12 H locs ls hM hl hp => ?_) FU _ _ _ _ _ hM (lv_sub hl [2, 1, 0] rfl) hp
  refine lv_iload_n hx hb dX7_trades_55 rfl (lv_at hl 0 rfl) ?_
  exact mr_iret C0 hr hlk hM (Prod.mk.inj (Option.some.inj hp)).2 (Prod.mk.inj (Option.some.inj hp)).1 (Nat.le_refl _) (Nat.le_refl _) dX7_trades_56
abbrev rm_X7_holdersOfClass : Room := { frames := 4, cells := 0, slots := 0, locals := 91 }
def pl_X7_holdersOfClass_15 (k1 : Int32 → Option (Int32 × Mem)) (f0 : Nat) (f1 : Int32) (f2 : Int32) (M : Mem) : Nat → Int32 → Int32 → Option (Int32 × Mem)
  | 0, _, _ => none
  | n + 1, y3, y4 =>
    (Option.bind (gR 6 0 M f0) fun v5 =>
    (Option.bind (aI 0 M v5 (1 : Int32)) fun v6 =>
    (if v6 ≤ y4 then
     (k1 y3)
    else
     (Option.bind (gR 6 0 M f0) fun v8 =>
     (Option.bind (aI 0 M v8 ((484 : Int32) + y4)) fun v9 =>
     (jn (fun (s10 : Int32) =>
      (pl_X7_holdersOfClass_15 k1 f0 f1 f2 M n (y3 + s10) (y4 + (1 : Int32)))
     ) fun k11 =>
     (if v9 = f1 then
      (Option.bind (isC 6 M f0) fun _ =>
      (Option.bind (p_X7_classAt f0 y4 f1 M) fun v14 =>
      (if v14 = f2 then
       (k11 (1 : Int32))
      else
       (k11 (0 : Int32))
      )
      )
      )
     else
      (k11 (0 : Int32))
     )
     )
     )
     )
    )
    )
    )
set_option maxHeartbeats 4000000 in
set_option maxRecDepth 100000 in
theorem wl_X7_holdersOfClass_15 {G : gG} {p : Program} {l : Launch} {e : Env} {s : State} {m : MethodId} {args : Array Value} {below : List Frame} {meth : Method} {c : Code} {A : Nat → Prop} {r : Int32} {M' : Mem} {k1 : Int32 → Option (Int32 × Mem)} {f0 : Nat} {f1 : Int32} {f2 : Int32} {M : Mem} (C0 : cx G p s m args c cX7_holdersOfClass RX7 5 A) (hr : meth.sig.returnType = (some FieldType.int)) (hlk : meth.locks = false) (hG : GOK G) (hk1 : ∀ (z3 : Int32) (H : Heap) (locs : List Loc) (ls : Array Slot), mm G A s M H locs → lv_has ls 5 [(3, .int z3)] → k1 z3 = some (r, M') → W p l e rm_X7_holdersOfClass s m args below meth c H locs 0 0 (MQ below (CQ G M' (some (.int r)) A) args s 0 0 A) (F0 m 66 ls [])) : ∀ (n : Nat) (y3 : Int32) (y4 : Int32) (H : Heap) (locs : List Loc) (ls : Array Slot), mm G A s M H locs → lv_has ls 5 [(0, .ref f0), (1, .int f1), (2, .int f2), (3, .int y3), (4, .int y4)] → pl_X7_holdersOfClass_15 k1 f0 f1 f2 M n y3 y4 = some (r, M') → W p l e rm_X7_holdersOfClass s m args below meth c H locs 0 0 (MQ below (CQ G M' (some (.int r)) A) args s 0 0 A) (F0 m 15 ls []) := by
  have hx := C0.1
  have hb := C0.2.1
  have hown := C0.2.2.2.1
  have hts := C0.2.2.2.2.1
  intro n
  induction n with
  | zero => intro y3 y4 H locs ls hM hl hp; rw [pl_X7_holdersOfClass_15] at hp; cases hp
  | succ n ih =>
    intro y3 y4 H locs ls hM hl hp
    rw [pl_X7_holdersOfClass_15] at hp
    refine lv_iload hx hb dX7_holdersOfClass_15 (lv_at hl 4 rfl) ?_
    refine lv_aload_n hx hb dX7_holdersOfClass_17 rfl (lv_at hl 0 rfl) ?_
    obtain ⟨v5, hv5, hp⟩ := ob hp
    refine mr_getR C0 cbX7 hM 0 (by decide) tw_1224 hv5 dX7_holdersOfClass_18 ?_
    refine lv_iconst (v := 1) hx hb dX7_holdersOfClass_21 (by decide) ?_
    obtain ⟨v6, hv6, hp⟩ := ob hp
    refine mr_iald C0 hM hv6 dX7_holdersOfClass_22 ?_
    refine lv_icmp_ge (tgt := 66) hx hb dX7_holdersOfClass_23 (by decide) (fun c7 => ?_) (fun c7 => ?_)
    · replace hp := oT c7 hp
      exact hk1 _ _ _ _ hM (lv_sub hl [3] rfl) hp
    · replace hp := oF c7 hp
      refine lv_iload_n hx hb dX7_holdersOfClass_26 rfl (lv_at hl 3 rfl) ?_
      refine lv_aload_n hx hb dX7_holdersOfClass_27 rfl (lv_at hl 0 rfl) ?_
      obtain ⟨v8, hv8, hp⟩ := ob hp
      refine mr_getR C0 cbX7 hM 0 (by decide) tw_1224 hv8 dX7_holdersOfClass_28 ?_
      refine lv_sipush (v := 484) hx hb dX7_holdersOfClass_31 (by decide) ?_
      refine lv_iload hx hb dX7_holdersOfClass_34 (lv_at hl 4 rfl) ?_
      refine lv_iadd hx hb dX7_holdersOfClass_36 ?_
      obtain ⟨v9, hv9, hp⟩ := ob hp
      refine mr_iald C0 hM hv9 dX7_holdersOfClass_37 ?_
      refine lv_iload_n hx hb dX7_holdersOfClass_38 rfl (lv_at hl 1 rfl) ?_
      obtain ⟨k11, ek11, hp⟩ := ojn hp
      have hk11 : ∀ (s10 : Int32) (H : Heap) (locs : List Loc) (ls : Array Slot), mm G A s M H locs → lv_has ls 5 [(0, .ref f0), (1, .int f1), (2, .int f2), (4, .int y4)] → k11 s10 = some (r, M') → W p l e rm_X7_holdersOfClass s m args below meth c H locs 0 0 (MQ below (CQ G M' (some (.int r)) A) args s 0 0 A) (F0 m 58 ls [.int s10, .int y3]) := by
        intro s10 H locs ls hM hl hp
        rw [ek11] at hp
        refine lv_iadd hx hb dX7_holdersOfClass_58 ?_
        refine lv_istore_n (lv' := [(3, .int (y3 + s10)), (0, .ref f0), (1, .int f1), (2, .int f2), (4, .int y4)]) hx hb dX7_holdersOfClass_59 rfl hl (by decide) rfl (fun ls hl => ?_)
        refine lv_iinc (v := (y4 + (1 : Int32))) (lv' := [(4, .int (y4 + (1 : Int32))), (3, .int (y3 + s10)), (0, .ref f0), (1, .int f1), (2, .int f2)]) hx hb dX7_holdersOfClass_60 hl (k := 4) rfl rfl (by decide) rfl (fun ls hl => ?_)
        refine lv_goto (tgt := 15) hx hb dX7_holdersOfClass_63 (by decide) ?_
        exact ih _ _ _ _ _ hM (lv_sub hl [2, 3, 4, 1, 0] rfl) hp
      refine lv_icmp_ne (tgt := 57) hx hb dX7_holdersOfClass_39 (by decide) (fun c12 => ?_) (fun c12 => ?_)
      · replace hp := oF c12 hp
        refine lv_iconst (v := 0) hx hb dX7_holdersOfClass_57 (by decide) ?_
        exact hk11 _ _ _ _ hM (lv_sub hl [0, 1, 2, 4] rfl) hp
      · replace hp := oT c12 hp
        refine lv_aload_n hx hb dX7_holdersOfClass_42 rfl (lv_at hl 0 rfl) ?_
        refine lv_iload hx hb dX7_holdersOfClass_43 (lv_at hl 4 rfl) ?_
        refine lv_iload_n hx hb dX7_holdersOfClass_45 rfl (lv_at hl 1 rfl) ?_
        obtain ⟨_, h13, hp⟩ := ob hp
        obtain ⟨v14, hv14, hp⟩ := ob hp
        refine mr_V1 (As := [.int y4, .int f1]) (rest := [.int y3]) C0 cbX7 hM h13 rfl (w_X7_classAt hG hv14) tw_1551 tw_1553 tws_47 tw_7 tw_1554 yk_X7_classAt (by decide) rfl hl.1 (Nat.le_of_ble_eq_true rfl) dX7_holdersOfClass_46 rfl (fun H locs hM => ?_)
        refine lv_iload_n hx hb dX7_holdersOfClass_49 rfl (lv_at hl 2 rfl) ?_
        refine lv_icmp_ne (tgt := 57) hx hb dX7_holdersOfClass_50 (by decide) (fun c15 => ?_) (fun c15 => ?_)
        · replace hp := oF c15 hp
          refine lv_iconst (v := 0) hx hb dX7_holdersOfClass_57 (by decide) ?_
          exact hk11 _ _ _ _ hM (lv_sub hl [0, 1, 2, 4] rfl) hp
        · replace hp := oT c15 hp
          refine lv_iconst (v := 1) hx hb dX7_holdersOfClass_53 (by decide) ?_
          refine lv_goto (tgt := 58) hx hb dX7_holdersOfClass_54 (by decide) ?_
          exact hk11 _ _ _ _ hM (lv_sub hl [0, 1, 2, 4] rfl) hp
def p_X7_holdersOfClass (a0 : Nat) (a1 : Int32) (a2 : Int32) (M : Mem) : Option (Int32 × Mem) :=
  (Option.bind (isC 6 M a0) fun _ =>
  (ob2 (p_X7_noSchool a0 a1 M) fun v2 M3 =>
  (if v2 = 0 then
   (pl_X7_holdersOfClass_15
    (fun (z16 : Int32) =>
     some (z16, M3)
    )
    a0 a1 a2 M3 FU (0 : Int32) (0 : Int32))
  else
   some ((0 : Int32), M3)
  )
  )
  )
theorem yk_X7_holdersOfClass : yok yX7_holdersOfClass 2 := by decide +kernel
set_option maxHeartbeats 4000000 in
set_option maxRecDepth 100000 in
theorem w_X7_holdersOfClass {G : gG} (hG : GOK G) {l : Launch} {a0 : Nat} {a1 : Int32} {a2 : Int32} {M : Mem} {r : Int32} {M' : Mem} (hp : p_X7_holdersOfClass a0 a1 a2 M = some (r, M')) : CT G l yX7_holdersOfClass (wT yX7_holdersOfClass cX7_holdersOfClass 5 (some FieldType.int)) rm_X7_holdersOfClass [.ref a0, .int a1, .int a2] M (some (.int r)) M' 0 0 := by
  refine CT_of (own := RX7) (maxL := 5) (ret := (some FieldType.int)) hG (by decide) rfl (Nat.le_of_ble_eq_true rfl) (fun p e s m below meth c A C0 hr hlk hM ls hl => ?_)
  have hl : lv_has ls 5 [(0, .ref a0), (1, .int a1), (2, .int a2)] := hl
  generalize ([.ref a0, .int a1, .int a2] : List Value).toArray = args at C0 ⊢
  skip
  have hx := C0.1
  have hb := C0.2.1
  have hown := C0.2.2.2.1
  have hts := C0.2.2.2.2.1
  unfold p_X7_holdersOfClass at hp
  refine lv_aload_n hx hb dX7_holdersOfClass_0 rfl (lv_at hl 0 rfl) ?_
  refine lv_iload_n hx hb dX7_holdersOfClass_1 rfl (lv_at hl 1 rfl) ?_
  obtain ⟨_, h1, hp⟩ := ob hp
  obtain ⟨v2, M3, hv2, hp⟩ := ob3 hp
  refine mr_V1 (As := [.int a1]) (rest := []) C0 cbX7 hM h1 rfl (w_X7_noSchool hG hv2) tw_1471 tw_1473 tws_34 tw_7 tw_1474 yk_X7_noSchool (by decide) rfl hl.1 (Nat.le_of_ble_eq_true rfl) dX7_holdersOfClass_2 rfl (fun H locs hM => ?_)
  refine lv_if_eq (tgt := 10) hx hb dX7_holdersOfClass_5 (by decide) (fun c4 => ?_) (fun c4 => ?_)
  · replace hp := oT c4 hp
    refine lv_iconst (v := 0) hx hb dX7_holdersOfClass_10 (by decide) ?_
    refine lv_istore_n (lv' := [(3, .int (0 : Int32)), (0, .ref a0), (1, .int a1), (2, .int a2)]) hx hb dX7_holdersOfClass_11 rfl hl (by decide) rfl (fun ls hl => ?_)
    refine lv_iconst (v := 0) hx hb dX7_holdersOfClass_12 (by decide) ?_
    refine lv_istore (lv' := [(4, .int (0 : Int32)), (3, .int (0 : Int32)), (0, .ref a0), (1, .int a1), (2, .int a2)]) hx hb dX7_holdersOfClass_13 hl (by decide) rfl (fun ls hl => ?_)
    refine wl_X7_holdersOfClass_15 C0 hr hlk hG (fun z16 H locs ls hM hl hp => ?_) FU _ _ _ _ _ hM (lv_sub hl [2, 3, 4, 1, 0] rfl) hp
    refine lv_iload_n hx hb dX7_holdersOfClass_66 rfl (lv_at hl 0 rfl) ?_
    exact mr_iret C0 hr hlk hM (Prod.mk.inj (Option.some.inj hp)).2 (Prod.mk.inj (Option.some.inj hp)).1 (Nat.le_refl _) (Nat.le_refl _) dX7_holdersOfClass_67
  · replace hp := oF c4 hp
    refine lv_iconst (v := 0) hx hb dX7_holdersOfClass_8 (by decide) ?_
    exact mr_iret C0 hr hlk hM (Prod.mk.inj (Option.some.inj hp)).2 (Prod.mk.inj (Option.some.inj hp)).1 (Nat.le_refl _) (Nat.le_refl _) dX7_holdersOfClass_9
abbrev rm_X7_mostWaited : Room := { frames := 4, cells := 0, slots := 0, locals := 90 }
def pl_X7_mostWaited_11 (k1 : Int32 → Option (Int32 × Mem)) (f0 : Nat) (M : Mem) : Nat → Int32 → Int32 → Int32 → Option (Int32 × Mem)
  | 0, _, _, _ => none
  | n + 1, y1, y2, y3 =>
    (Option.bind (gR 6 0 M f0) fun v2 =>
    (Option.bind (aI 0 M v2 (0 : Int32)) fun v3 =>
    (if v3 ≤ y3 then
     (k1 y1)
    else
     (Option.bind (isC 6 M f0) fun _ =>
     (Option.bind (p_X7_waitingMany f0 y3 M) fun v6 =>
     (if y2 < v6 then
      (pl_X7_mostWaited_11 k1 f0 M n y3 v6 (y3 + (1 : Int32)))
     else
      (pl_X7_mostWaited_11 k1 f0 M n y1 y2 (y3 + (1 : Int32)))
     )
     )
     )
    )
    )
    )
set_option maxHeartbeats 4000000 in
set_option maxRecDepth 100000 in
theorem wl_X7_mostWaited_11 {G : gG} {p : Program} {l : Launch} {e : Env} {s : State} {m : MethodId} {args : Array Value} {below : List Frame} {meth : Method} {c : Code} {A : Nat → Prop} {r : Int32} {M' : Mem} {k1 : Int32 → Option (Int32 × Mem)} {f0 : Nat} {M : Mem} (C0 : cx G p s m args c cX7_mostWaited RX7 5 A) (hr : meth.sig.returnType = (some FieldType.int)) (hlk : meth.locks = false) (hG : GOK G) (hk1 : ∀ (z1 : Int32) (H : Heap) (locs : List Loc) (ls : Array Slot), mm G A s M H locs → lv_has ls 5 [(1, .int z1)] → k1 z1 = some (r, M') → W p l e rm_X7_mostWaited s m args below meth c H locs 0 0 (MQ below (CQ G M' (some (.int r)) A) args s 0 0 A) (F0 m 48 ls [])) : ∀ (n : Nat) (y1 : Int32) (y2 : Int32) (y3 : Int32) (H : Heap) (locs : List Loc) (ls : Array Slot), mm G A s M H locs → lv_has ls 5 [(0, .ref f0), (1, .int y1), (2, .int y2), (3, .int y3)] → pl_X7_mostWaited_11 k1 f0 M n y1 y2 y3 = some (r, M') → W p l e rm_X7_mostWaited s m args below meth c H locs 0 0 (MQ below (CQ G M' (some (.int r)) A) args s 0 0 A) (F0 m 11 ls []) := by
  have hx := C0.1
  have hb := C0.2.1
  have hown := C0.2.2.2.1
  have hts := C0.2.2.2.2.1
  intro n
  induction n with
  | zero => intro y1 y2 y3 H locs ls hM hl hp; rw [pl_X7_mostWaited_11] at hp; cases hp
  | succ n ih =>
    intro y1 y2 y3 H locs ls hM hl hp
    rw [pl_X7_mostWaited_11] at hp
    refine lv_iload_n hx hb dX7_mostWaited_11 rfl (lv_at hl 3 rfl) ?_
    refine lv_aload_n hx hb dX7_mostWaited_12 rfl (lv_at hl 0 rfl) ?_
    obtain ⟨v2, hv2, hp⟩ := ob hp
    refine mr_getR C0 cbX7 hM 0 (by decide) tw_1224 hv2 dX7_mostWaited_13 ?_
    refine lv_iconst (v := 0) hx hb dX7_mostWaited_16 (by decide) ?_
    obtain ⟨v3, hv3, hp⟩ := ob hp
    refine mr_iald C0 hM hv3 dX7_mostWaited_17 ?_
    refine lv_icmp_ge (tgt := 48) hx hb dX7_mostWaited_18 (by decide) (fun c4 => ?_) (fun c4 => ?_)
    · replace hp := oT c4 hp
      exact hk1 _ _ _ _ hM (lv_sub hl [1] rfl) hp
    · replace hp := oF c4 hp
      refine lv_aload_n hx hb dX7_mostWaited_21 rfl (lv_at hl 0 rfl) ?_
      refine lv_iload_n hx hb dX7_mostWaited_22 rfl (lv_at hl 3 rfl) ?_
      obtain ⟨_, h5, hp⟩ := ob hp
      obtain ⟨v6, hv6, hp⟩ := ob hp
      refine mr_V1 (As := [.int y3]) (rest := []) C0 cbX7 hM h5 rfl (w_X7_waitingMany hG hv6) tw_1487 tw_1489 tws_38 tw_7 tw_1490 yk_X7_waitingMany (by decide) rfl hl.1 (Nat.le_of_ble_eq_true rfl) dX7_mostWaited_23 rfl (fun H locs hM => ?_)
      refine lv_istore (lv' := [(4, .int v6), (0, .ref f0), (1, .int y1), (2, .int y2), (3, .int y3)]) hx hb dX7_mostWaited_26 hl (by decide) rfl (fun ls hl => ?_)
      refine lv_iload hx hb dX7_mostWaited_28 (lv_at hl 0 rfl) ?_
      refine lv_iload_n hx hb dX7_mostWaited_30 rfl (lv_at hl 3 rfl) ?_
      refine lv_icmp_gt (tgt := 37) hx hb dX7_mostWaited_31 (by decide) (fun c7 => ?_) (fun c7 => ?_)
      · replace hp := oT c7 hp
        refine lv_iload_n hx hb dX7_mostWaited_37 rfl (lv_at hl 4 rfl) ?_
        refine lv_istore_n (lv' := [(1, .int y3), (4, .int v6), (0, .ref f0), (2, .int y2), (3, .int y3)]) hx hb dX7_mostWaited_38 rfl hl (by decide) rfl (fun ls hl => ?_)
        refine lv_iload hx hb dX7_mostWaited_39 (lv_at hl 1 rfl) ?_
        refine lv_istore_n (lv' := [(2, .int v6), (1, .int y3), (4, .int v6), (0, .ref f0), (3, .int y3)]) hx hb dX7_mostWaited_41 rfl hl (by decide) rfl (fun ls hl => ?_)
        refine lv_iinc (v := (y3 + (1 : Int32))) (lv' := [(3, .int (y3 + (1 : Int32))), (2, .int v6), (1, .int y3), (4, .int v6), (0, .ref f0)]) hx hb dX7_mostWaited_42 hl (k := 4) rfl rfl (by decide) rfl (fun ls hl => ?_)
        refine lv_goto (tgt := 11) hx hb dX7_mostWaited_45 (by decide) ?_
        exact ih _ _ _ _ _ _ hM (lv_sub hl [4, 2, 1, 0] rfl) hp
      · replace hp := oF c7 hp
        refine lv_goto (tgt := 42) hx hb dX7_mostWaited_34 (by decide) ?_
        refine lv_iinc (v := (y3 + (1 : Int32))) (lv' := [(3, .int (y3 + (1 : Int32))), (4, .int v6), (0, .ref f0), (1, .int y1), (2, .int y2)]) hx hb dX7_mostWaited_42 hl (k := 4) rfl rfl (by decide) rfl (fun ls hl => ?_)
        refine lv_goto (tgt := 11) hx hb dX7_mostWaited_45 (by decide) ?_
        exact ih _ _ _ _ _ _ hM (lv_sub hl [2, 3, 4, 0] rfl) hp
def p_X7_mostWaited (a0 : Nat) (M : Mem) : Option (Int32 × Mem) :=
  (Option.bind (sV 6 9 M a0 (.int (0 : Int32))) fun M1 =>
  (pl_X7_mostWaited_11
   (fun (z8 : Int32) =>
    some (z8, M1)
   )
   a0 M1 FU (-1 : Int32) (0 : Int32) (0 : Int32))
  )
theorem yk_X7_mostWaited : yok yX7_mostWaited 0 := by decide +kernel
set_option maxHeartbeats 4000000 in
set_option maxRecDepth 100000 in
theorem w_X7_mostWaited {G : gG} (hG : GOK G) {l : Launch} {a0 : Nat} {M : Mem} {r : Int32} {M' : Mem} (hp : p_X7_mostWaited a0 M = some (r, M')) : CT G l yX7_mostWaited (wT yX7_mostWaited cX7_mostWaited 5 (some FieldType.int)) rm_X7_mostWaited [.ref a0] M (some (.int r)) M' 0 0 := by
  refine CT_of (own := RX7) (maxL := 5) (ret := (some FieldType.int)) hG (by decide) rfl (Nat.le_of_ble_eq_true rfl) (fun p e s m below meth c A C0 hr hlk hM ls hl => ?_)
  have hl : lv_has ls 5 [(0, .ref a0)] := hl
  generalize ([.ref a0] : List Value).toArray = args at C0 ⊢
  skip
  have hx := C0.1
  have hb := C0.2.1
  have hown := C0.2.2.2.1
  have hts := C0.2.2.2.2.1
  unfold p_X7_mostWaited at hp
  refine lv_aload_n hx hb dX7_mostWaited_0 rfl (lv_at hl 0 rfl) ?_
  refine lv_iconst (v := 0) hx hb dX7_mostWaited_1 (by decide) ?_
  obtain ⟨M1, hM1, hp⟩ := ob hp
  refine mr_putI C0 cbX7 hM 9 (by decide) rfl rfl tw_1233 hM1 dX7_mostWaited_2 (fun H locs hM => ?_)
  refine lv_iconst (v := -1) hx hb dX7_mostWaited_5 (by decide) ?_
  refine lv_istore_n (lv' := [(1, .int (-1 : Int32)), (0, .ref a0)]) hx hb dX7_mostWaited_6 rfl hl (by decide) rfl (fun ls hl => ?_)
  refine lv_iconst (v := 0) hx hb dX7_mostWaited_7 (by decide) ?_
  refine lv_istore_n (lv' := [(2, .int (0 : Int32)), (1, .int (-1 : Int32)), (0, .ref a0)]) hx hb dX7_mostWaited_8 rfl hl (by decide) rfl (fun ls hl => ?_)
  refine lv_iconst (v := 0) hx hb dX7_mostWaited_9 (by decide) ?_
  refine lv_istore_n (lv' := [(3, .int (0 : Int32)), (2, .int (0 : Int32)), (1, .int (-1 : Int32)), (0, .ref a0)]) hx hb dX7_mostWaited_10 rfl hl (by decide) rfl (fun ls hl => ?_)
  refine wl_X7_mostWaited_11 C0 hr hlk hG (fun z8 H locs ls hM hl hp => ?_) FU _ _ _ _ _ _ hM (lv_sub hl [3, 2, 1, 0] rfl) hp
  refine lv_iload_n hx hb dX7_mostWaited_48 rfl (lv_at hl 0 rfl) ?_
  exact mr_iret C0 hr hlk hM (Prod.mk.inj (Option.some.inj hp)).2 (Prod.mk.inj (Option.some.inj hp)).1 (Nat.le_refl _) (Nat.le_refl _) dX7_mostWaited_49
abbrev rm_X7_siblings : Room := { frames := 2, cells := 0, slots := 0, locals := 43 }
def pl_X7_siblings_28 (k1 : Int64 → Option (Int64 × Mem)) (f0 : Nat) (f1 : Int32) (M : Mem) : Nat → Int64 → Int32 → Option (Int64 × Mem)
  | 0, _, _ => none
  | n + 1, y2, y4 =>
    (Option.bind (gR 6 0 M f0) fun v8 =>
    (Option.bind (aI 0 M v8 (1 : Int32)) fun v9 =>
    (if v9 ≤ y4 then
     (k1 y2)
    else
     (jn (fun (s11 : Int64) =>
      (pl_X7_siblings_28 k1 f0 f1 M n (y2 ||| s11) (y4 + (1 : Int32)))
     ) fun k12 =>
     (if y4 = f1 then
      (k12 (0 : Int64))
     else
      (Option.bind (isC 6 M f0) fun _ =>
      (Option.bind (p_X7_isHere f0 y4 M) fun v15 =>
      (if v15 = 0 then
       (k12 (0 : Int64))
      else
       (Option.bind (gR 6 0 M f0) fun v17 =>
       (Option.bind (aI 0 M v17 ((204 : Int32) + y4)) fun v18 =>
       (Option.bind (gR 6 0 M f0) fun v19 =>
       (Option.bind (aI 0 M v19 ((204 : Int32) + f1)) fun v20 =>
       (if v18 = v20 then
        (k12 ((1 : Int64) <<< (Int32.toInt64 y4 &&& 63)))
       else
        (k12 (0 : Int64))
       )
       )
       )
       )
       )
      )
      )
      )
     )
     )
    )
    )
    )
set_option maxHeartbeats 4000000 in
set_option maxRecDepth 100000 in
theorem wl_X7_siblings_28 {G : gG} {p : Program} {l : Launch} {e : Env} {s : State} {m : MethodId} {args : Array Value} {below : List Frame} {meth : Method} {c : Code} {A : Nat → Prop} {r : Int64} {M' : Mem} {k1 : Int64 → Option (Int64 × Mem)} {f0 : Nat} {f1 : Int32} {M : Mem} (C0 : cx G p s m args c cX7_siblings RX7 5 A) (hr : meth.sig.returnType = (some FieldType.long)) (hlk : meth.locks = false) (hG : GOK G) (hk1 : ∀ (z2 : Int64) (H : Heap) (locs : List Loc) (ls : Array Slot), mm G A s M H locs → lv_has ls 5 [(2, .long z2)] → k1 z2 = some (r, M') → W p l e rm_X7_siblings s m args below meth c H locs 0 0 (MQ below (CQ G M' (some (.long r)) A) args s 0 0 A) (F0 m 95 ls [])) : ∀ (n : Nat) (y2 : Int64) (y4 : Int32) (H : Heap) (locs : List Loc) (ls : Array Slot), mm G A s M H locs → lv_has ls 5 [(0, .ref f0), (1, .int f1), (2, .long y2), (4, .int y4)] → pl_X7_siblings_28 k1 f0 f1 M n y2 y4 = some (r, M') → W p l e rm_X7_siblings s m args below meth c H locs 0 0 (MQ below (CQ G M' (some (.long r)) A) args s 0 0 A) (F0 m 28 ls []) := by
  have hx := C0.1
  have hb := C0.2.1
  have hown := C0.2.2.2.1
  have hts := C0.2.2.2.2.1
  intro n
  induction n with
  | zero => intro y2 y4 H locs ls hM hl hp; rw [pl_X7_siblings_28] at hp; cases hp
  | succ n ih =>
    intro y2 y4 H locs ls hM hl hp
    rw [pl_X7_siblings_28] at hp
    refine lv_iload hx hb dX7_siblings_28 (lv_at hl 3 rfl) ?_
    refine lv_aload_n hx hb dX7_siblings_30 rfl (lv_at hl 0 rfl) ?_
    obtain ⟨v8, hv8, hp⟩ := ob hp
    refine mr_getR C0 cbX7 hM 0 (by decide) tw_1224 hv8 dX7_siblings_31 ?_
    refine lv_iconst (v := 1) hx hb dX7_siblings_34 (by decide) ?_
    obtain ⟨v9, hv9, hp⟩ := ob hp
    refine mr_iald C0 hM hv9 dX7_siblings_35 ?_
    refine lv_icmp_ge (tgt := 95) hx hb dX7_siblings_36 (by decide) (fun c10 => ?_) (fun c10 => ?_)
    · replace hp := oT c10 hp
      exact hk1 _ _ _ _ hM (lv_sub hl [2] rfl) hp
    · replace hp := oF c10 hp
      refine lv_lload_n hx hb dX7_siblings_39 rfl (lv_at hl 2 rfl) ?_
      refine lv_iload hx hb dX7_siblings_40 (lv_at hl 3 rfl) ?_
      refine lv_iload_n hx hb dX7_siblings_42 rfl (lv_at hl 1 rfl) ?_
      obtain ⟨k12, ek12, hp⟩ := ojn hp
      have hk12 : ∀ (s11 : Int64) (H : Heap) (locs : List Loc) (ls : Array Slot), mm G A s M H locs → lv_has ls 5 [(0, .ref f0), (1, .int f1), (4, .int y4)] → k12 s11 = some (r, M') → W p l e rm_X7_siblings s m args below meth c H locs 0 0 (MQ below (CQ G M' (some (.long r)) A) args s 0 0 A) (F0 m 87 ls [.long s11, .long y2]) := by
        intro s11 H locs ls hM hl hp
        rw [ek12] at hp
        refine lv_lor hx hb dX7_siblings_87 ?_
        refine lv_lstore_n (lv' := [(2, .long (y2 ||| s11)), (0, .ref f0), (1, .int f1), (4, .int y4)]) hx hb dX7_siblings_88 rfl hl (by decide) rfl (fun ls hl => ?_)
        refine lv_iinc (v := (y4 + (1 : Int32))) (lv' := [(4, .int (y4 + (1 : Int32))), (2, .long (y2 ||| s11)), (0, .ref f0), (1, .int f1)]) hx hb dX7_siblings_89 hl (k := 3) rfl rfl (by decide) rfl (fun ls hl => ?_)
        refine lv_goto (tgt := 28) hx hb dX7_siblings_92 (by decide) ?_
        exact ih _ _ _ _ _ hM (lv_sub hl [2, 3, 1, 0] rfl) hp
      refine lv_icmp_eq (tgt := 86) hx hb dX7_siblings_43 (by decide) (fun c13 => ?_) (fun c13 => ?_)
      · replace hp := oT c13 hp
        refine lv_lconst (v := 0) hx hb dX7_siblings_86 (by decide) ?_
        exact hk12 _ _ _ _ hM (lv_sub hl [0, 1, 3] rfl) hp
      · replace hp := oF c13 hp
        refine lv_aload_n hx hb dX7_siblings_46 rfl (lv_at hl 0 rfl) ?_
        refine lv_iload hx hb dX7_siblings_47 (lv_at hl 3 rfl) ?_
        obtain ⟨_, h14, hp⟩ := ob hp
        obtain ⟨v15, hv15, hp⟩ := ob hp
        refine mr_V1 (As := [.int y4]) (rest := [.long y2]) C0 cbX7 hM h14 rfl (w_X7_isHere hG hv15) tw_1495 tw_1497 tws_40 tw_7 tw_1498 yk_X7_isHere (by decide) rfl hl.1 (Nat.le_of_ble_eq_true rfl) dX7_siblings_49 rfl (fun H locs hM => ?_)
        refine lv_if_eq (tgt := 86) hx hb dX7_siblings_52 (by decide) (fun c16 => ?_) (fun c16 => ?_)
        · replace hp := oT c16 hp
          refine lv_lconst (v := 0) hx hb dX7_siblings_86 (by decide) ?_
          exact hk12 _ _ _ _ hM (lv_sub hl [0, 1, 3] rfl) hp
        · replace hp := oF c16 hp
          refine lv_aload_n hx hb dX7_siblings_55 rfl (lv_at hl 0 rfl) ?_
          obtain ⟨v17, hv17, hp⟩ := ob hp
          refine mr_getR C0 cbX7 hM 0 (by decide) tw_1224 hv17 dX7_siblings_56 ?_
          refine lv_sipush (v := 204) hx hb dX7_siblings_59 (by decide) ?_
          refine lv_iload hx hb dX7_siblings_62 (lv_at hl 3 rfl) ?_
          refine lv_iadd hx hb dX7_siblings_64 ?_
          obtain ⟨v18, hv18, hp⟩ := ob hp
          refine mr_iald C0 hM hv18 dX7_siblings_65 ?_
          refine lv_aload_n hx hb dX7_siblings_66 rfl (lv_at hl 0 rfl) ?_
          obtain ⟨v19, hv19, hp⟩ := ob hp
          refine mr_getR C0 cbX7 hM 0 (by decide) tw_1224 hv19 dX7_siblings_67 ?_
          refine lv_sipush (v := 204) hx hb dX7_siblings_70 (by decide) ?_
          refine lv_iload_n hx hb dX7_siblings_73 rfl (lv_at hl 1 rfl) ?_
          refine lv_iadd hx hb dX7_siblings_74 ?_
          obtain ⟨v20, hv20, hp⟩ := ob hp
          refine mr_iald C0 hM hv20 dX7_siblings_75 ?_
          refine lv_icmp_ne (tgt := 86) hx hb dX7_siblings_76 (by decide) (fun c21 => ?_) (fun c21 => ?_)
          · replace hp := oF c21 hp
            refine lv_lconst (v := 0) hx hb dX7_siblings_86 (by decide) ?_
            exact hk12 _ _ _ _ hM (lv_sub hl [0, 1, 3] rfl) hp
          · replace hp := oT c21 hp
            refine lv_lconst (v := 1) hx hb dX7_siblings_79 (by decide) ?_
            refine lv_iload hx hb dX7_siblings_80 (lv_at hl 3 rfl) ?_
            refine lv_lshl (v := ((1 : Int64) <<< (Int32.toInt64 y4 &&& 63))) hx hb dX7_siblings_82 rfl ?_
            refine lv_goto (tgt := 87) hx hb dX7_siblings_83 (by decide) ?_
            exact hk12 _ _ _ _ hM (lv_sub hl [0, 1, 3] rfl) hp
def p_X7_siblings (a0 : Nat) (a1 : Int32) (M : Mem) : Option (Int64 × Mem) :=
  (Option.bind (isC 6 M a0) fun _ =>
  (ob2 (p_X7_noChild a0 a1 M) fun v2 M3 =>
  (if v2 = 0 then
   (Option.bind (gR 6 0 M3 a0) fun v5 =>
   (Option.bind (aI 0 M3 v5 ((204 : Int32) + a1)) fun v6 =>
   (if v6 = 0 then
    some ((0 : Int64), M3)
   else
    (pl_X7_siblings_28
     (fun (z22 : Int64) =>
      some (z22, M3)
     )
     a0 a1 M3 FU (0 : Int64) (0 : Int32))
   )
   )
   )
  else
   some ((0 : Int64), M3)
  )
  )
  )
theorem yk_X7_siblings : yok yX7_siblings 1 := by decide +kernel
set_option maxHeartbeats 4000000 in
set_option maxRecDepth 100000 in
theorem w_X7_siblings {G : gG} (hG : GOK G) {l : Launch} {a0 : Nat} {a1 : Int32} {M : Mem} {r : Int64} {M' : Mem} (hp : p_X7_siblings a0 a1 M = some (r, M')) : CT G l yX7_siblings (wT yX7_siblings cX7_siblings 5 (some FieldType.long)) rm_X7_siblings [.ref a0, .int a1] M (some (.long r)) M' 0 0 := by
  refine CT_of (own := RX7) (maxL := 5) (ret := (some FieldType.long)) hG (by decide) rfl (Nat.le_of_ble_eq_true rfl) (fun p e s m below meth c A C0 hr hlk hM ls hl => ?_)
  have hl : lv_has ls 5 [(0, .ref a0), (1, .int a1)] := hl
  generalize ([.ref a0, .int a1] : List Value).toArray = args at C0 ⊢
  skip
  have hx := C0.1
  have hb := C0.2.1
  have hown := C0.2.2.2.1
  have hts := C0.2.2.2.2.1
  unfold p_X7_siblings at hp
  refine lv_aload_n hx hb dX7_siblings_0 rfl (lv_at hl 0 rfl) ?_
  refine lv_iload_n hx hb dX7_siblings_1 rfl (lv_at hl 1 rfl) ?_
  obtain ⟨_, h1, hp⟩ := ob hp
  obtain ⟨v2, M3, hv2, hp⟩ := ob3 hp
  refine mr_V1 (As := [.int a1]) (rest := []) C0 cbX7 hM h1 rfl (w_X7_noChild hG hv2) tw_1511 tw_1513 tws_42 tw_7 tw_1514 yk_X7_noChild (by decide) rfl hl.1 (Nat.le_of_ble_eq_true rfl) dX7_siblings_2 rfl (fun H locs hM => ?_)
  refine lv_if_ne (tgt := 21) hx hb dX7_siblings_5 (by decide) (fun c4 => ?_) (fun c4 => ?_)
  · replace hp := oF c4 hp
    refine lv_lconst (v := 0) hx hb dX7_siblings_21 (by decide) ?_
    exact mr_lret C0 hr hlk hM (Prod.mk.inj (Option.some.inj hp)).2 (Prod.mk.inj (Option.some.inj hp)).1 (Nat.le_refl _) (Nat.le_refl _) dX7_siblings_22
  · replace hp := oT c4 hp
    refine lv_aload_n hx hb dX7_siblings_8 rfl (lv_at hl 0 rfl) ?_
    obtain ⟨v5, hv5, hp⟩ := ob hp
    refine mr_getR C0 cbX7 hM 0 (by decide) tw_1224 hv5 dX7_siblings_9 ?_
    refine lv_sipush (v := 204) hx hb dX7_siblings_12 (by decide) ?_
    refine lv_iload_n hx hb dX7_siblings_15 rfl (lv_at hl 1 rfl) ?_
    refine lv_iadd hx hb dX7_siblings_16 ?_
    obtain ⟨v6, hv6, hp⟩ := ob hp
    refine mr_iald C0 hM hv6 dX7_siblings_17 ?_
    refine lv_if_ne (tgt := 23) hx hb dX7_siblings_18 (by decide) (fun c7 => ?_) (fun c7 => ?_)
    · replace hp := oF c7 hp
      refine lv_lconst (v := 0) hx hb dX7_siblings_23 (by decide) ?_
      refine lv_lstore_n (lv' := [(2, .long (0 : Int64)), (0, .ref a0), (1, .int a1)]) hx hb dX7_siblings_24 rfl hl (by decide) rfl (fun ls hl => ?_)
      refine lv_iconst (v := 0) hx hb dX7_siblings_25 (by decide) ?_
      refine lv_istore (lv' := [(4, .int (0 : Int32)), (2, .long (0 : Int64)), (0, .ref a0), (1, .int a1)]) hx hb dX7_siblings_26 hl (by decide) rfl (fun ls hl => ?_)
      refine wl_X7_siblings_28 C0 hr hlk hG (fun z22 H locs ls hM hl hp => ?_) FU _ _ _ _ _ hM (lv_sub hl [2, 3, 1, 0] rfl) hp
      refine lv_lload_n hx hb dX7_siblings_95 rfl (lv_at hl 0 rfl) ?_
      exact mr_lret C0 hr hlk hM (Prod.mk.inj (Option.some.inj hp)).2 (Prod.mk.inj (Option.some.inj hp)).1 (Nat.le_refl _) (Nat.le_refl _) dX7_siblings_96
    · replace hp := oT c7 hp
      refine lv_lconst (v := 0) hx hb dX7_siblings_21 (by decide) ?_
      exact mr_lret C0 hr hlk hM (Prod.mk.inj (Option.some.inj hp)).2 (Prod.mk.inj (Option.some.inj hp)).1 (Nat.le_refl _) (Nat.le_refl _) dX7_siblings_22
abbrev rm_X7_wanted : Room := { frames := 2, cells := 0, slots := 0, locals := 43 }
def pl_X7_wanted_24 (k1 : Int32 → Option (Int32 × Mem)) (f0 : Nat) (f1 : Int32) (f2 : Int32) (M : Mem) : Nat → Int32 → Int32 → Option (Int32 × Mem)
  | 0, _, _ => none
  | n + 1, y3, y4 =>
    (Option.bind (gR 6 0 M f0) fun v7 =>
    (Option.bind (aI 0 M v7 (1 : Int32)) fun v8 =>
    (if v8 ≤ y4 then
     (k1 y3)
    else
     (Option.bind (isC 6 M f0) fun _ =>
     (Option.bind (p_X7_isHere f0 y4 M) fun v11 =>
     (jn (fun (s12 : Int32) =>
      (pl_X7_wanted_24 k1 f0 f1 f2 M n (y3 + s12) (y4 + (1 : Int32)))
     ) fun k13 =>
     (if v11 = 0 then
      (k13 (0 : Int32))
     else
      (Option.bind (isC 6 M f0) fun _ =>
      (Option.bind (p_X7_wishOf f0 y4 f1 M) fun v16 =>
      (if v16 = f2 then
       (k13 (1 : Int32))
      else
       (k13 (0 : Int32))
      )
      )
      )
     )
     )
     )
     )
    )
    )
    )
set_option maxHeartbeats 4000000 in
set_option maxRecDepth 100000 in
theorem wl_X7_wanted_24 {G : gG} {p : Program} {l : Launch} {e : Env} {s : State} {m : MethodId} {args : Array Value} {below : List Frame} {meth : Method} {c : Code} {A : Nat → Prop} {r : Int32} {M' : Mem} {k1 : Int32 → Option (Int32 × Mem)} {f0 : Nat} {f1 : Int32} {f2 : Int32} {M : Mem} (C0 : cx G p s m args c cX7_wanted RX7 5 A) (hr : meth.sig.returnType = (some FieldType.int)) (hlk : meth.locks = false) (hG : GOK G) (hk1 : ∀ (z3 : Int32) (H : Heap) (locs : List Loc) (ls : Array Slot), mm G A s M H locs → lv_has ls 5 [(3, .int z3)] → k1 z3 = some (r, M') → W p l e rm_X7_wanted s m args below meth c H locs 0 0 (MQ below (CQ G M' (some (.int r)) A) args s 0 0 A) (F0 m 69 ls [])) : ∀ (n : Nat) (y3 : Int32) (y4 : Int32) (H : Heap) (locs : List Loc) (ls : Array Slot), mm G A s M H locs → lv_has ls 5 [(0, .ref f0), (1, .int f1), (2, .int f2), (3, .int y3), (4, .int y4)] → pl_X7_wanted_24 k1 f0 f1 f2 M n y3 y4 = some (r, M') → W p l e rm_X7_wanted s m args below meth c H locs 0 0 (MQ below (CQ G M' (some (.int r)) A) args s 0 0 A) (F0 m 24 ls []) := by
  have hx := C0.1
  have hb := C0.2.1
  have hown := C0.2.2.2.1
  have hts := C0.2.2.2.2.1
  intro n
  induction n with
  | zero => intro y3 y4 H locs ls hM hl hp; rw [pl_X7_wanted_24] at hp; cases hp
  | succ n ih =>
    intro y3 y4 H locs ls hM hl hp
    rw [pl_X7_wanted_24] at hp
    refine lv_iload hx hb dX7_wanted_24 (lv_at hl 4 rfl) ?_
    refine lv_aload_n hx hb dX7_wanted_26 rfl (lv_at hl 0 rfl) ?_
    obtain ⟨v7, hv7, hp⟩ := ob hp
    refine mr_getR C0 cbX7 hM 0 (by decide) tw_1224 hv7 dX7_wanted_27 ?_
    refine lv_iconst (v := 1) hx hb dX7_wanted_30 (by decide) ?_
    obtain ⟨v8, hv8, hp⟩ := ob hp
    refine mr_iald C0 hM hv8 dX7_wanted_31 ?_
    refine lv_icmp_ge (tgt := 69) hx hb dX7_wanted_32 (by decide) (fun c9 => ?_) (fun c9 => ?_)
    · replace hp := oT c9 hp
      exact hk1 _ _ _ _ hM (lv_sub hl [3] rfl) hp
    · replace hp := oF c9 hp
      refine lv_iload_n hx hb dX7_wanted_35 rfl (lv_at hl 3 rfl) ?_
      refine lv_aload_n hx hb dX7_wanted_36 rfl (lv_at hl 0 rfl) ?_
      refine lv_iload hx hb dX7_wanted_37 (lv_at hl 4 rfl) ?_
      obtain ⟨_, h10, hp⟩ := ob hp
      obtain ⟨v11, hv11, hp⟩ := ob hp
      refine mr_V1 (As := [.int y4]) (rest := [.int y3]) C0 cbX7 hM h10 rfl (w_X7_isHere hG hv11) tw_1495 tw_1497 tws_40 tw_7 tw_1498 yk_X7_isHere (by decide) rfl hl.1 (Nat.le_of_ble_eq_true rfl) dX7_wanted_39 rfl (fun H locs hM => ?_)
      obtain ⟨k13, ek13, hp⟩ := ojn hp
      have hk13 : ∀ (s12 : Int32) (H : Heap) (locs : List Loc) (ls : Array Slot), mm G A s M H locs → lv_has ls 5 [(0, .ref f0), (1, .int f1), (2, .int f2), (4, .int y4)] → k13 s12 = some (r, M') → W p l e rm_X7_wanted s m args below meth c H locs 0 0 (MQ below (CQ G M' (some (.int r)) A) args s 0 0 A) (F0 m 61 ls [.int s12, .int y3]) := by
        intro s12 H locs ls hM hl hp
        rw [ek13] at hp
        refine lv_iadd hx hb dX7_wanted_61 ?_
        refine lv_istore_n (lv' := [(3, .int (y3 + s12)), (0, .ref f0), (1, .int f1), (2, .int f2), (4, .int y4)]) hx hb dX7_wanted_62 rfl hl (by decide) rfl (fun ls hl => ?_)
        refine lv_iinc (v := (y4 + (1 : Int32))) (lv' := [(4, .int (y4 + (1 : Int32))), (3, .int (y3 + s12)), (0, .ref f0), (1, .int f1), (2, .int f2)]) hx hb dX7_wanted_63 hl (k := 4) rfl rfl (by decide) rfl (fun ls hl => ?_)
        refine lv_goto (tgt := 24) hx hb dX7_wanted_66 (by decide) ?_
        exact ih _ _ _ _ _ hM (lv_sub hl [2, 3, 4, 1, 0] rfl) hp
      refine lv_if_eq (tgt := 60) hx hb dX7_wanted_42 (by decide) (fun c14 => ?_) (fun c14 => ?_)
      · replace hp := oT c14 hp
        refine lv_iconst (v := 0) hx hb dX7_wanted_60 (by decide) ?_
        exact hk13 _ _ _ _ hM (lv_sub hl [0, 1, 2, 4] rfl) hp
      · replace hp := oF c14 hp
        refine lv_aload_n hx hb dX7_wanted_45 rfl (lv_at hl 0 rfl) ?_
        refine lv_iload hx hb dX7_wanted_46 (lv_at hl 4 rfl) ?_
        refine lv_iload_n hx hb dX7_wanted_48 rfl (lv_at hl 1 rfl) ?_
        obtain ⟨_, h15, hp⟩ := ob hp
        obtain ⟨v16, hv16, hp⟩ := ob hp
        refine mr_V1 (As := [.int y4, .int f1]) (rest := [.int y3]) C0 cbX7 hM h15 rfl (w_X7_wishOf hG hv16) tw_1428 tw_1430 tws_28 tw_7 tw_1431 yk_X7_wishOf (by decide) rfl hl.1 (Nat.le_of_ble_eq_true rfl) dX7_wanted_49 rfl (fun H locs hM => ?_)
        refine lv_iload_n hx hb dX7_wanted_52 rfl (lv_at hl 2 rfl) ?_
        refine lv_icmp_ne (tgt := 60) hx hb dX7_wanted_53 (by decide) (fun c17 => ?_) (fun c17 => ?_)
        · replace hp := oF c17 hp
          refine lv_iconst (v := 0) hx hb dX7_wanted_60 (by decide) ?_
          exact hk13 _ _ _ _ hM (lv_sub hl [0, 1, 2, 4] rfl) hp
        · replace hp := oT c17 hp
          refine lv_iconst (v := 1) hx hb dX7_wanted_56 (by decide) ?_
          refine lv_goto (tgt := 61) hx hb dX7_wanted_57 (by decide) ?_
          exact hk13 _ _ _ _ hM (lv_sub hl [0, 1, 2, 4] rfl) hp
def p_X7_wanted (a0 : Nat) (a1 : Int32) (a2 : Int32) (M : Mem) : Option (Int32 × Mem) :=
  (Option.bind (isC 6 M a0) fun _ =>
  (ob2 (p_X7_noSchool a0 a1 M) fun v2 M3 =>
  (if v2 = 0 then
   (Option.bind (p_X7_inRange a2 (0 : Int32) (3 : Int32) M3) fun v5 =>
   (if v5 = 0 then
    some ((0 : Int32), M3)
   else
    (pl_X7_wanted_24
     (fun (z18 : Int32) =>
      some (z18, M3)
     )
     a0 a1 a2 M3 FU (0 : Int32) (0 : Int32))
   )
   )
  else
   some ((0 : Int32), M3)
  )
  )
  )
theorem yk_X7_wanted : yok yX7_wanted 2 := by decide +kernel
set_option maxHeartbeats 4000000 in
set_option maxRecDepth 100000 in
theorem w_X7_wanted {G : gG} (hG : GOK G) {l : Launch} {a0 : Nat} {a1 : Int32} {a2 : Int32} {M : Mem} {r : Int32} {M' : Mem} (hp : p_X7_wanted a0 a1 a2 M = some (r, M')) : CT G l yX7_wanted (wT yX7_wanted cX7_wanted 5 (some FieldType.int)) rm_X7_wanted [.ref a0, .int a1, .int a2] M (some (.int r)) M' 0 0 := by
  refine CT_of (own := RX7) (maxL := 5) (ret := (some FieldType.int)) hG (by decide) rfl (Nat.le_of_ble_eq_true rfl) (fun p e s m below meth c A C0 hr hlk hM ls hl => ?_)
  have hl : lv_has ls 5 [(0, .ref a0), (1, .int a1), (2, .int a2)] := hl
  generalize ([.ref a0, .int a1, .int a2] : List Value).toArray = args at C0 ⊢
  skip
  have hx := C0.1
  have hb := C0.2.1
  have hown := C0.2.2.2.1
  have hts := C0.2.2.2.2.1
  unfold p_X7_wanted at hp
  refine lv_aload_n hx hb dX7_wanted_0 rfl (lv_at hl 0 rfl) ?_
  refine lv_iload_n hx hb dX7_wanted_1 rfl (lv_at hl 1 rfl) ?_
  obtain ⟨_, h1, hp⟩ := ob hp
  obtain ⟨v2, M3, hv2, hp⟩ := ob3 hp
  refine mr_V1 (As := [.int a1]) (rest := []) C0 cbX7 hM h1 rfl (w_X7_noSchool hG hv2) tw_1471 tw_1473 tws_34 tw_7 tw_1474 yk_X7_noSchool (by decide) rfl hl.1 (Nat.le_of_ble_eq_true rfl) dX7_wanted_2 rfl (fun H locs hM => ?_)
  refine lv_if_ne (tgt := 17) hx hb dX7_wanted_5 (by decide) (fun c4 => ?_) (fun c4 => ?_)
  · replace hp := oF c4 hp
    refine lv_iconst (v := 0) hx hb dX7_wanted_17 (by decide) ?_
    exact mr_iret C0 hr hlk hM (Prod.mk.inj (Option.some.inj hp)).2 (Prod.mk.inj (Option.some.inj hp)).1 (Nat.le_refl _) (Nat.le_refl _) dX7_wanted_18
  · replace hp := oT c4 hp
    refine lv_iload_n hx hb dX7_wanted_8 rfl (lv_at hl 2 rfl) ?_
    refine lv_iconst (v := 0) hx hb dX7_wanted_9 (by decide) ?_
    refine lv_iconst (v := 3) hx hb dX7_wanted_10 (by decide) ?_
    obtain ⟨v5, hv5, hp⟩ := ob hp
    refine mr_S1 (As := [.int a2, .int (0 : Int32), .int (3 : Int32)]) (rest := []) C0 hM (w_X7_inRange hG hv5) tw_1325 tw_1326 tw_7 tw_1327 yk_X7_inRange (by decide) rfl hl.1 (Nat.le_of_ble_eq_true rfl) dX7_wanted_11 rfl (fun H locs hM => ?_)
    refine lv_if_ne (tgt := 19) hx hb dX7_wanted_14 (by decide) (fun c6 => ?_) (fun c6 => ?_)
    · replace hp := oF c6 hp
      refine lv_iconst (v := 0) hx hb dX7_wanted_19 (by decide) ?_
      refine lv_istore_n (lv' := [(3, .int (0 : Int32)), (0, .ref a0), (1, .int a1), (2, .int a2)]) hx hb dX7_wanted_20 rfl hl (by decide) rfl (fun ls hl => ?_)
      refine lv_iconst (v := 0) hx hb dX7_wanted_21 (by decide) ?_
      refine lv_istore (lv' := [(4, .int (0 : Int32)), (3, .int (0 : Int32)), (0, .ref a0), (1, .int a1), (2, .int a2)]) hx hb dX7_wanted_22 hl (by decide) rfl (fun ls hl => ?_)
      refine wl_X7_wanted_24 C0 hr hlk hG (fun z18 H locs ls hM hl hp => ?_) FU _ _ _ _ _ hM (lv_sub hl [2, 3, 4, 1, 0] rfl) hp
      refine lv_iload_n hx hb dX7_wanted_69 rfl (lv_at hl 0 rfl) ?_
      exact mr_iret C0 hr hlk hM (Prod.mk.inj (Option.some.inj hp)).2 (Prod.mk.inj (Option.some.inj hp)).1 (Nat.le_refl _) (Nat.le_refl _) dX7_wanted_70
    · replace hp := oT c6 hp
      refine lv_iconst (v := 0) hx hb dX7_wanted_17 (by decide) ?_
      exact mr_iret C0 hr hlk hM (Prod.mk.inj (Option.some.inj hp)).2 (Prod.mk.inj (Option.some.inj hp)).1 (Nat.le_refl _) (Nat.le_refl _) dX7_wanted_18
abbrev rm_X7_inZone : Room := { frames := 2, cells := 0, slots := 0, locals := 45 }
def pl_X7_inZone_14 (k1 : Int32 → Option (Int32 × Mem)) (f0 : Nat) (f1 : Int32) (M : Mem) : Nat → Int32 → Int32 → Option (Int32 × Mem)
  | 0, _, _ => none
  | n + 1, y2, y3 =>
    (Option.bind (gR 6 0 M f0) fun v5 =>
    (Option.bind (aI 0 M v5 (1 : Int32)) fun v6 =>
    (if v6 ≤ y3 then
     (k1 y2)
    else
     (Option.bind (isC 6 M f0) fun _ =>
     (Option.bind (p_X7_isHere f0 y3 M) fun v9 =>
     (jn (fun (s10 : Int32) =>
      (pl_X7_inZone_14 k1 f0 f1 M n (y2 + s10) (y3 + (1 : Int32)))
     ) fun k11 =>
     (if v9 = 0 then
      (k11 (0 : Int32))
     else
      (Option.bind (isC 6 M f0) fun _ =>
      (Option.bind (p_X7_isInZone f0 y3 f1 M) fun v14 =>
      (if v14 = 0 then
       (k11 (0 : Int32))
      else
       (k11 (1 : Int32))
      )
      )
      )
     )
     )
     )
     )
    )
    )
    )
set_option maxHeartbeats 4000000 in
set_option maxRecDepth 100000 in
theorem wl_X7_inZone_14 {G : gG} {p : Program} {l : Launch} {e : Env} {s : State} {m : MethodId} {args : Array Value} {below : List Frame} {meth : Method} {c : Code} {A : Nat → Prop} {r : Int32} {M' : Mem} {k1 : Int32 → Option (Int32 × Mem)} {f0 : Nat} {f1 : Int32} {M : Mem} (C0 : cx G p s m args c cX7_inZone RX7 4 A) (hr : meth.sig.returnType = (some FieldType.int)) (hlk : meth.locks = false) (hG : GOK G) (hk1 : ∀ (z2 : Int32) (H : Heap) (locs : List Loc) (ls : Array Slot), mm G A s M H locs → lv_has ls 4 [(2, .int z2)] → k1 z2 = some (r, M') → W p l e rm_X7_inZone s m args below meth c H locs 0 0 (MQ below (CQ G M' (some (.int r)) A) args s 0 0 A) (F0 m 55 ls [])) : ∀ (n : Nat) (y2 : Int32) (y3 : Int32) (H : Heap) (locs : List Loc) (ls : Array Slot), mm G A s M H locs → lv_has ls 4 [(0, .ref f0), (1, .int f1), (2, .int y2), (3, .int y3)] → pl_X7_inZone_14 k1 f0 f1 M n y2 y3 = some (r, M') → W p l e rm_X7_inZone s m args below meth c H locs 0 0 (MQ below (CQ G M' (some (.int r)) A) args s 0 0 A) (F0 m 14 ls []) := by
  have hx := C0.1
  have hb := C0.2.1
  have hown := C0.2.2.2.1
  have hts := C0.2.2.2.2.1
  intro n
  induction n with
  | zero => intro y2 y3 H locs ls hM hl hp; rw [pl_X7_inZone_14] at hp; cases hp
  | succ n ih =>
    intro y2 y3 H locs ls hM hl hp
    rw [pl_X7_inZone_14] at hp
    refine lv_iload_n hx hb dX7_inZone_14 rfl (lv_at hl 3 rfl) ?_
    refine lv_aload_n hx hb dX7_inZone_15 rfl (lv_at hl 0 rfl) ?_
    obtain ⟨v5, hv5, hp⟩ := ob hp
    refine mr_getR C0 cbX7 hM 0 (by decide) tw_1224 hv5 dX7_inZone_16 ?_
    refine lv_iconst (v := 1) hx hb dX7_inZone_19 (by decide) ?_
    obtain ⟨v6, hv6, hp⟩ := ob hp
    refine mr_iald C0 hM hv6 dX7_inZone_20 ?_
    refine lv_icmp_ge (tgt := 55) hx hb dX7_inZone_21 (by decide) (fun c7 => ?_) (fun c7 => ?_)
    · replace hp := oT c7 hp
      exact hk1 _ _ _ _ hM (lv_sub hl [2] rfl) hp
    · replace hp := oF c7 hp
      refine lv_iload_n hx hb dX7_inZone_24 rfl (lv_at hl 2 rfl) ?_
      refine lv_aload_n hx hb dX7_inZone_25 rfl (lv_at hl 0 rfl) ?_
      refine lv_iload_n hx hb dX7_inZone_26 rfl (lv_at hl 3 rfl) ?_
      obtain ⟨_, h8, hp⟩ := ob hp
      obtain ⟨v9, hv9, hp⟩ := ob hp
      refine mr_V1 (As := [.int y3]) (rest := [.int y2]) C0 cbX7 hM h8 rfl (w_X7_isHere hG hv9) tw_1495 tw_1497 tws_40 tw_7 tw_1498 yk_X7_isHere (by decide) rfl hl.1 (Nat.le_of_ble_eq_true rfl) dX7_inZone_27 rfl (fun H locs hM => ?_)
      obtain ⟨k11, ek11, hp⟩ := ojn hp
      have hk11 : ∀ (s10 : Int32) (H : Heap) (locs : List Loc) (ls : Array Slot), mm G A s M H locs → lv_has ls 4 [(0, .ref f0), (1, .int f1), (3, .int y3)] → k11 s10 = some (r, M') → W p l e rm_X7_inZone s m args below meth c H locs 0 0 (MQ below (CQ G M' (some (.int r)) A) args s 0 0 A) (F0 m 47 ls [.int s10, .int y2]) := by
        intro s10 H locs ls hM hl hp
        rw [ek11] at hp
        refine lv_iadd hx hb dX7_inZone_47 ?_
        refine lv_istore_n (lv' := [(2, .int (y2 + s10)), (0, .ref f0), (1, .int f1), (3, .int y3)]) hx hb dX7_inZone_48 rfl hl (by decide) rfl (fun ls hl => ?_)
        refine lv_iinc (v := (y3 + (1 : Int32))) (lv' := [(3, .int (y3 + (1 : Int32))), (2, .int (y2 + s10)), (0, .ref f0), (1, .int f1)]) hx hb dX7_inZone_49 hl (k := 3) rfl rfl (by decide) rfl (fun ls hl => ?_)
        refine lv_goto (tgt := 14) hx hb dX7_inZone_52 (by decide) ?_
        exact ih _ _ _ _ _ hM (lv_sub hl [2, 3, 1, 0] rfl) hp
      refine lv_if_eq (tgt := 46) hx hb dX7_inZone_30 (by decide) (fun c12 => ?_) (fun c12 => ?_)
      · replace hp := oT c12 hp
        refine lv_iconst (v := 0) hx hb dX7_inZone_46 (by decide) ?_
        exact hk11 _ _ _ _ hM (lv_sub hl [0, 1, 3] rfl) hp
      · replace hp := oF c12 hp
        refine lv_aload_n hx hb dX7_inZone_33 rfl (lv_at hl 0 rfl) ?_
        refine lv_iload_n hx hb dX7_inZone_34 rfl (lv_at hl 3 rfl) ?_
        refine lv_iload_n hx hb dX7_inZone_35 rfl (lv_at hl 1 rfl) ?_
        obtain ⟨_, h13, hp⟩ := ob hp
        obtain ⟨v14, hv14, hp⟩ := ob hp
        refine mr_V1 (As := [.int y3, .int f1]) (rest := [.int y2]) C0 cbX7 hM h13 rfl (w_X7_isInZone hG hv14) tw_1543 tw_1545 tws_46 tw_7 tw_1546 yk_X7_isInZone (by decide) rfl hl.1 (Nat.le_of_ble_eq_true rfl) dX7_inZone_36 rfl (fun H locs hM => ?_)
        refine lv_if_eq (tgt := 46) hx hb dX7_inZone_39 (by decide) (fun c15 => ?_) (fun c15 => ?_)
        · replace hp := oT c15 hp
          refine lv_iconst (v := 0) hx hb dX7_inZone_46 (by decide) ?_
          exact hk11 _ _ _ _ hM (lv_sub hl [0, 1, 3] rfl) hp
        · replace hp := oF c15 hp
          refine lv_iconst (v := 1) hx hb dX7_inZone_42 (by decide) ?_
          refine lv_goto (tgt := 47) hx hb dX7_inZone_43 (by decide) ?_
          exact hk11 _ _ _ _ hM (lv_sub hl [0, 1, 3] rfl) hp
def p_X7_inZone (a0 : Nat) (a1 : Int32) (M : Mem) : Option (Int32 × Mem) :=
  (Option.bind (isC 6 M a0) fun _ =>
  (ob2 (p_X7_noSchool a0 a1 M) fun v2 M3 =>
  (if v2 = 0 then
   (pl_X7_inZone_14
    (fun (z16 : Int32) =>
     some (z16, M3)
    )
    a0 a1 M3 FU (0 : Int32) (0 : Int32))
  else
   some ((0 : Int32), M3)
  )
  )
  )
theorem yk_X7_inZone : yok yX7_inZone 1 := by decide +kernel
set_option maxHeartbeats 4000000 in
set_option maxRecDepth 100000 in
theorem w_X7_inZone {G : gG} (hG : GOK G) {l : Launch} {a0 : Nat} {a1 : Int32} {M : Mem} {r : Int32} {M' : Mem} (hp : p_X7_inZone a0 a1 M = some (r, M')) : CT G l yX7_inZone (wT yX7_inZone cX7_inZone 4 (some FieldType.int)) rm_X7_inZone [.ref a0, .int a1] M (some (.int r)) M' 0 0 := by
  refine CT_of (own := RX7) (maxL := 4) (ret := (some FieldType.int)) hG (by decide) rfl (Nat.le_of_ble_eq_true rfl) (fun p e s m below meth c A C0 hr hlk hM ls hl => ?_)
  have hl : lv_has ls 4 [(0, .ref a0), (1, .int a1)] := hl
  generalize ([.ref a0, .int a1] : List Value).toArray = args at C0 ⊢
  skip
  have hx := C0.1
  have hb := C0.2.1
  have hown := C0.2.2.2.1
  have hts := C0.2.2.2.2.1
  unfold p_X7_inZone at hp
  refine lv_aload_n hx hb dX7_inZone_0 rfl (lv_at hl 0 rfl) ?_
  refine lv_iload_n hx hb dX7_inZone_1 rfl (lv_at hl 1 rfl) ?_
  obtain ⟨_, h1, hp⟩ := ob hp
  obtain ⟨v2, M3, hv2, hp⟩ := ob3 hp
  refine mr_V1 (As := [.int a1]) (rest := []) C0 cbX7 hM h1 rfl (w_X7_noSchool hG hv2) tw_1471 tw_1473 tws_34 tw_7 tw_1474 yk_X7_noSchool (by decide) rfl hl.1 (Nat.le_of_ble_eq_true rfl) dX7_inZone_2 rfl (fun H locs hM => ?_)
  refine lv_if_eq (tgt := 10) hx hb dX7_inZone_5 (by decide) (fun c4 => ?_) (fun c4 => ?_)
  · replace hp := oT c4 hp
    refine lv_iconst (v := 0) hx hb dX7_inZone_10 (by decide) ?_
    refine lv_istore_n (lv' := [(2, .int (0 : Int32)), (0, .ref a0), (1, .int a1)]) hx hb dX7_inZone_11 rfl hl (by decide) rfl (fun ls hl => ?_)
    refine lv_iconst (v := 0) hx hb dX7_inZone_12 (by decide) ?_
    refine lv_istore_n (lv' := [(3, .int (0 : Int32)), (2, .int (0 : Int32)), (0, .ref a0), (1, .int a1)]) hx hb dX7_inZone_13 rfl hl (by decide) rfl (fun ls hl => ?_)
    refine wl_X7_inZone_14 C0 hr hlk hG (fun z16 H locs ls hM hl hp => ?_) FU _ _ _ _ _ hM (lv_sub hl [2, 3, 1, 0] rfl) hp
    refine lv_iload_n hx hb dX7_inZone_55 rfl (lv_at hl 0 rfl) ?_
    exact mr_iret C0 hr hlk hM (Prod.mk.inj (Option.some.inj hp)).2 (Prod.mk.inj (Option.some.inj hp)).1 (Nat.le_refl _) (Nat.le_refl _) dX7_inZone_56
  · replace hp := oF c4 hp
    refine lv_iconst (v := 0) hx hb dX7_inZone_8 (by decide) ?_
    exact mr_iret C0 hr hlk hM (Prod.mk.inj (Option.some.inj hp)).2 (Prod.mk.inj (Option.some.inj hp)).1 (Nat.le_refl _) (Nat.le_refl _) dX7_inZone_9
abbrev rm_X7_isTogether : Room := { frames := 0, cells := 0, slots := 0, locals := 0 }
def pl_X7_isTogether_7 (k1 : Unit → Option (Int32)) (k2 : Int32 → Option (Int32)) (f0 : Nat) (f1 : Int32) (M : Mem) : Nat → Int32 → Int32 → Int32 → Option (Int32)
  | 0, _, _, _ => none
  | n + 1, y2, y3, y4 =>
    (Option.bind (gR 6 0 M f0) fun v1 =>
    (Option.bind (aI 0 M v1 (1 : Int32)) fun v2 =>
    (if v2 ≤ y4 then
     (k2 y2)
    else
     (Option.bind (gR 6 0 M f0) fun v4 =>
     (Option.bind (aI 0 M v4 ((204 : Int32) + y4)) fun v5 =>
     (if v5 = f1 then
      (Option.bind (gR 6 0 M f0) fun v7 =>
      (Option.bind (aI 0 M v7 ((484 : Int32) + y4)) fun v8 =>
      (if v8 = (-1 : Int32) then
       (pl_X7_isTogether_7 k1 k2 f0 f1 M n y2 y3 (y4 + (1 : Int32)))
      else
       (jn (fun (_ : Unit) =>
        (Option.bind (gR 6 0 M f0) fun v11 =>
        (Option.bind (aI 0 M v11 ((484 : Int32) + y4)) fun v12 =>
        (pl_X7_isTogether_7 k1 k2 f0 f1 M n (y2 + (1 : Int32)) v12 (y4 + (1 : Int32)))
        )
        )
       ) fun k10 =>
       (if y2 ≤ 0 then
        (k10 ())
       else
        (Option.bind (gR 6 0 M f0) fun v14 =>
        (Option.bind (aI 0 M v14 ((484 : Int32) + y4)) fun v15 =>
        (if v15 = y3 then
         (k10 ())
        else
         (k1 ())
        )
        )
        )
       )
       )
      )
      )
      )
     else
      (pl_X7_isTogether_7 k1 k2 f0 f1 M n y2 y3 (y4 + (1 : Int32)))
     )
     )
     )
    )
    )
    )
set_option maxHeartbeats 4000000 in
set_option maxRecDepth 100000 in
theorem wl_X7_isTogether_7 {G : gG} {p : Program} {l : Launch} {e : Env} {s : State} {m : MethodId} {args : Array Value} {below : List Frame} {meth : Method} {c : Code} {A : Nat → Prop} {r : Int32} {k1 : Unit → Option (Int32)} {k2 : Int32 → Option (Int32)} {f0 : Nat} {f1 : Int32} {M : Mem} (C0 : cx G p s m args c cX7_isTogether RX7 5 A) (hr : meth.sig.returnType = (some FieldType.boolean)) (hlk : meth.locks = false) (hG : GOK G) (hk1 : ∀ (H : Heap) (locs : List Loc) (ls : Array Slot), mm G A s M H locs → lv_has ls 5 [] → k1 () = some r → W p l e rm_X7_isTogether s m args below meth c H locs 0 0 (MQ below (CQ G M (some (.int r)) A) args s 0 0 A) (F0 m 70 ls [])) (hk2 : ∀ (z2 : Int32) (H : Heap) (locs : List Loc) (ls : Array Slot), mm G A s M H locs → lv_has ls 5 [(2, .int z2)] → k2 z2 = some r → W p l e rm_X7_isTogether s m args below meth c H locs 0 0 (MQ below (CQ G M (some (.int r)) A) args s 0 0 A) (F0 m 93 ls [])) : ∀ (n : Nat) (y2 : Int32) (y3 : Int32) (y4 : Int32) (H : Heap) (locs : List Loc) (ls : Array Slot), mm G A s M H locs → lv_has ls 5 [(0, .ref f0), (1, .int f1), (2, .int y2), (3, .int y3), (4, .int y4)] → pl_X7_isTogether_7 k1 k2 f0 f1 M n y2 y3 y4 = some r → W p l e rm_X7_isTogether s m args below meth c H locs 0 0 (MQ below (CQ G M (some (.int r)) A) args s 0 0 A) (F0 m 7 ls []) := by
  have hx := C0.1
  have hb := C0.2.1
  have hown := C0.2.2.2.1
  have hts := C0.2.2.2.2.1
  intro n
  induction n with
  | zero => intro y2 y3 y4 H locs ls hM hl hp; rw [pl_X7_isTogether_7] at hp; cases hp
  | succ n ih =>
    intro y2 y3 y4 H locs ls hM hl hp
    rw [pl_X7_isTogether_7] at hp
    refine lv_iload hx hb dX7_isTogether_7 (lv_at hl 4 rfl) ?_
    refine lv_aload_n hx hb dX7_isTogether_9 rfl (lv_at hl 0 rfl) ?_
    obtain ⟨v1, hv1, hp⟩ := ob hp
    refine mr_getR C0 cbX7 hM 0 (by decide) tw_1224 hv1 dX7_isTogether_10 ?_
    refine lv_iconst (v := 1) hx hb dX7_isTogether_13 (by decide) ?_
    obtain ⟨v2, hv2, hp⟩ := ob hp
    refine mr_iald C0 hM hv2 dX7_isTogether_14 ?_
    refine lv_icmp_ge (tgt := 93) hx hb dX7_isTogether_15 (by decide) (fun c3 => ?_) (fun c3 => ?_)
    · replace hp := oT c3 hp
      exact hk2 _ _ _ _ hM (lv_sub hl [2] rfl) hp
    · replace hp := oF c3 hp
      refine lv_aload_n hx hb dX7_isTogether_18 rfl (lv_at hl 0 rfl) ?_
      obtain ⟨v4, hv4, hp⟩ := ob hp
      refine mr_getR C0 cbX7 hM 0 (by decide) tw_1224 hv4 dX7_isTogether_19 ?_
      refine lv_sipush (v := 204) hx hb dX7_isTogether_22 (by decide) ?_
      refine lv_iload hx hb dX7_isTogether_25 (lv_at hl 4 rfl) ?_
      refine lv_iadd hx hb dX7_isTogether_27 ?_
      obtain ⟨v5, hv5, hp⟩ := ob hp
      refine mr_iald C0 hM hv5 dX7_isTogether_28 ?_
      refine lv_iload_n hx hb dX7_isTogether_29 rfl (lv_at hl 1 rfl) ?_
      refine lv_icmp_ne (tgt := 87) hx hb dX7_isTogether_30 (by decide) (fun c6 => ?_) (fun c6 => ?_)
      · replace hp := oF c6 hp
        refine lv_iinc (v := (y4 + (1 : Int32))) (lv' := [(4, .int (y4 + (1 : Int32))), (0, .ref f0), (1, .int f1), (2, .int y2), (3, .int y3)]) hx hb dX7_isTogether_87 hl (k := 4) rfl rfl (by decide) rfl (fun ls hl => ?_)
        refine lv_goto (tgt := 7) hx hb dX7_isTogether_90 (by decide) ?_
        exact ih _ _ _ _ _ _ hM (lv_sub hl [1, 2, 3, 4, 0] rfl) hp
      · replace hp := oT c6 hp
        refine lv_aload_n hx hb dX7_isTogether_33 rfl (lv_at hl 0 rfl) ?_
        obtain ⟨v7, hv7, hp⟩ := ob hp
        refine mr_getR C0 cbX7 hM 0 (by decide) tw_1224 hv7 dX7_isTogether_34 ?_
        refine lv_sipush (v := 484) hx hb dX7_isTogether_37 (by decide) ?_
        refine lv_iload hx hb dX7_isTogether_40 (lv_at hl 4 rfl) ?_
        refine lv_iadd hx hb dX7_isTogether_42 ?_
        obtain ⟨v8, hv8, hp⟩ := ob hp
        refine mr_iald C0 hM hv8 dX7_isTogether_43 ?_
        refine lv_iconst (v := -1) hx hb dX7_isTogether_44 (by decide) ?_
        refine lv_icmp_ne (tgt := 51) hx hb dX7_isTogether_45 (by decide) (fun c9 => ?_) (fun c9 => ?_)
        · replace hp := oF c9 hp
          refine lv_iload_n hx hb dX7_isTogether_51 rfl (lv_at hl 2 rfl) ?_
          obtain ⟨k10, ek10, hp⟩ := ojn hp
          have hk10 : ∀ (H : Heap) (locs : List Loc) (ls : Array Slot), mm G A s M H locs → lv_has ls 5 [(0, .ref f0), (1, .int f1), (2, .int y2), (4, .int y4)] → k10 () = some r → W p l e rm_X7_isTogether s m args below meth c H locs 0 0 (MQ below (CQ G M (some (.int r)) A) args s 0 0 A) (F0 m 72 ls []) := by
            intro  H locs ls hM hl hp
            rw [ek10] at hp
            refine lv_aload_n hx hb dX7_isTogether_72 rfl (lv_at hl 0 rfl) ?_
            obtain ⟨v11, hv11, hp⟩ := ob hp
            refine mr_getR C0 cbX7 hM 0 (by decide) tw_1224 hv11 dX7_isTogether_73 ?_
            refine lv_sipush (v := 484) hx hb dX7_isTogether_76 (by decide) ?_
            refine lv_iload hx hb dX7_isTogether_79 (lv_at hl 3 rfl) ?_
            refine lv_iadd hx hb dX7_isTogether_81 ?_
            obtain ⟨v12, hv12, hp⟩ := ob hp
            refine mr_iald C0 hM hv12 dX7_isTogether_82 ?_
            refine lv_istore_n (lv' := [(3, .int v12), (0, .ref f0), (1, .int f1), (2, .int y2), (4, .int y4)]) hx hb dX7_isTogether_83 rfl hl (by decide) rfl (fun ls hl => ?_)
            refine lv_iinc (v := (y2 + (1 : Int32))) (lv' := [(2, .int (y2 + (1 : Int32))), (3, .int v12), (0, .ref f0), (1, .int f1), (4, .int y4)]) hx hb dX7_isTogether_84 hl (k := 3) rfl rfl (by decide) rfl (fun ls hl => ?_)
            refine lv_iinc (v := (y4 + (1 : Int32))) (lv' := [(4, .int (y4 + (1 : Int32))), (2, .int (y2 + (1 : Int32))), (3, .int v12), (0, .ref f0), (1, .int f1)]) hx hb dX7_isTogether_87 hl (k := 4) rfl rfl (by decide) rfl (fun ls hl => ?_)
            refine lv_goto (tgt := 7) hx hb dX7_isTogether_90 (by decide) ?_
            exact ih _ _ _ _ _ _ hM (lv_sub hl [3, 4, 1, 2, 0] rfl) hp
          refine lv_if_le (tgt := 72) hx hb dX7_isTogether_52 (by decide) (fun c13 => ?_) (fun c13 => ?_)
          · replace hp := oT c13 hp
            exact hk10  _ _ _ hM (lv_sub hl [0, 1, 2, 4] rfl) hp
          · replace hp := oF c13 hp
            refine lv_aload_n hx hb dX7_isTogether_55 rfl (lv_at hl 0 rfl) ?_
            obtain ⟨v14, hv14, hp⟩ := ob hp
            refine mr_getR C0 cbX7 hM 0 (by decide) tw_1224 hv14 dX7_isTogether_56 ?_
            refine lv_sipush (v := 484) hx hb dX7_isTogether_59 (by decide) ?_
            refine lv_iload hx hb dX7_isTogether_62 (lv_at hl 4 rfl) ?_
            refine lv_iadd hx hb dX7_isTogether_64 ?_
            obtain ⟨v15, hv15, hp⟩ := ob hp
            refine mr_iald C0 hM hv15 dX7_isTogether_65 ?_
            refine lv_iload_n hx hb dX7_isTogether_66 rfl (lv_at hl 3 rfl) ?_
            refine lv_icmp_eq (tgt := 72) hx hb dX7_isTogether_67 (by decide) (fun c16 => ?_) (fun c16 => ?_)
            · replace hp := oT c16 hp
              exact hk10  _ _ _ hM (lv_sub hl [0, 1, 2, 4] rfl) hp
            · replace hp := oF c16 hp
              exact hk1  _ _ _ hM (lv_sub hl [] rfl) hp
        · replace hp := oT c9 hp
          refine lv_goto (tgt := 87) hx hb dX7_isTogether_48 (by decide) ?_
          refine lv_iinc (v := (y4 + (1 : Int32))) (lv' := [(4, .int (y4 + (1 : Int32))), (0, .ref f0), (1, .int f1), (2, .int y2), (3, .int y3)]) hx hb dX7_isTogether_87 hl (k := 4) rfl rfl (by decide) rfl (fun ls hl => ?_)
          refine lv_goto (tgt := 7) hx hb dX7_isTogether_90 (by decide) ?_
          exact ih _ _ _ _ _ _ hM (lv_sub hl [1, 2, 3, 4, 0] rfl) hp
def p_X7_isTogether (a0 : Nat) (a1 : Int32) (M : Mem) : Option (Int32) :=
  (pl_X7_isTogether_7
   (fun (_ : Unit) =>
    some (0 : Int32)
   )
   (fun (z17 : Int32) =>
    (if z17 ≤ (1 : Int32) then
     some (0 : Int32)
    else
     some (1 : Int32)
    )
   )
   a0 a1 M FU (0 : Int32) (-1 : Int32) (0 : Int32))
theorem yk_X7_isTogether : yok yX7_isTogether 1 := by decide +kernel
set_option maxHeartbeats 4000000 in
set_option maxRecDepth 100000 in
theorem w_X7_isTogether {G : gG} (hG : GOK G) {l : Launch} {a0 : Nat} {a1 : Int32} {M : Mem} {r : Int32} (hp : p_X7_isTogether a0 a1 M = some r) : CT G l yX7_isTogether (wT yX7_isTogether cX7_isTogether 5 (some FieldType.boolean)) rm_X7_isTogether [.ref a0, .int a1] M (some (.int r)) M 0 0 := by
  refine CT_of (own := RX7) (maxL := 5) (ret := (some FieldType.boolean)) hG (by decide) rfl (Nat.le_of_ble_eq_true rfl) (fun p e s m below meth c A C0 hr hlk hM ls hl => ?_)
  have hl : lv_has ls 5 [(0, .ref a0), (1, .int a1)] := hl
  generalize ([.ref a0, .int a1] : List Value).toArray = args at C0 ⊢
  skip
  have hx := C0.1
  have hb := C0.2.1
  have hown := C0.2.2.2.1
  have hts := C0.2.2.2.2.1
  unfold p_X7_isTogether at hp
  refine lv_iconst (v := 0) hx hb dX7_isTogether_0 (by decide) ?_
  refine lv_istore_n (lv' := [(2, .int (0 : Int32)), (0, .ref a0), (1, .int a1)]) hx hb dX7_isTogether_1 rfl hl (by decide) rfl (fun ls hl => ?_)
  refine lv_iconst (v := -1) hx hb dX7_isTogether_2 (by decide) ?_
  refine lv_istore_n (lv' := [(3, .int (-1 : Int32)), (2, .int (0 : Int32)), (0, .ref a0), (1, .int a1)]) hx hb dX7_isTogether_3 rfl hl (by decide) rfl (fun ls hl => ?_)
  refine lv_iconst (v := 0) hx hb dX7_isTogether_4 (by decide) ?_
  refine lv_istore (lv' := [(4, .int (0 : Int32)), (3, .int (-1 : Int32)), (2, .int (0 : Int32)), (0, .ref a0), (1, .int a1)]) hx hb dX7_isTogether_5 hl (by decide) rfl (fun ls hl => ?_)
  refine wl_X7_isTogether_7 C0 hr hlk hG (fun  H locs ls hM hl hp => ?_) (fun z17 H locs ls hM hl hp => ?_) FU _ _ _ _ _ _ hM (lv_sub hl [3, 4, 2, 1, 0] rfl) hp
  · refine lv_iconst (v := 0) hx hb dX7_isTogether_70 (by decide) ?_
    exact mr_zret C0 hr hlk hM rfl (Or.inl rfl) (Option.some.inj hp) (Nat.le_refl _) (Nat.le_refl _) dX7_isTogether_71
  · refine lv_iload_n hx hb dX7_isTogether_93 rfl (lv_at hl 0 rfl) ?_
    refine lv_iconst (v := 1) hx hb dX7_isTogether_94 (by decide) ?_
    refine lv_icmp_le (tgt := 102) hx hb dX7_isTogether_95 (by decide) (fun c18 => ?_) (fun c18 => ?_)
    · replace hp := oT c18 hp
      refine lv_iconst (v := 0) hx hb dX7_isTogether_102 (by decide) ?_
      exact mr_zret C0 hr hlk hM rfl (Or.inl rfl) (Option.some.inj hp) (Nat.le_refl _) (Nat.le_refl _) dX7_isTogether_103
    · replace hp := oF c18 hp
      refine lv_iconst (v := 1) hx hb dX7_isTogether_98 (by decide) ?_
      refine lv_goto (tgt := 103) hx hb dX7_isTogether_99 (by decide) ?_
      exact mr_zret C0 hr hlk hM rfl (Or.inr rfl) (Option.some.inj hp) (Nat.le_refl _) (Nat.le_refl _) dX7_isTogether_103
abbrev rm_X7_together : Room := { frames := 1, cells := 0, slots := 0, locals := 24 }
def pl_X7_together_9 (k1 : Int32 → Option (Int32 × Mem)) (f0 : Nat) (M : Mem) : Nat → Int32 → Int32 → Option (Int32 × Mem)
  | 0, _, _ => none
  | n + 1, y1, y2 =>
    (if (99 : Int32) < y2 then
     (k1 y1)
    else
     (Option.bind (isC 6 M f0) fun _ =>
     (Option.bind (p_X7_isTogether f0 y2 M) fun v4 =>
     (jn (fun (s5 : Int32) =>
      (pl_X7_together_9 k1 f0 M n (y1 + s5) (y2 + (1 : Int32)))
     ) fun k6 =>
     (if v4 = 0 then
      (k6 (0 : Int32))
     else
      (k6 (1 : Int32))
     )
     )
     )
     )
    )
set_option maxHeartbeats 4000000 in
set_option maxRecDepth 100000 in
theorem wl_X7_together_9 {G : gG} {p : Program} {l : Launch} {e : Env} {s : State} {m : MethodId} {args : Array Value} {below : List Frame} {meth : Method} {c : Code} {A : Nat → Prop} {r : Int32} {M' : Mem} {k1 : Int32 → Option (Int32 × Mem)} {f0 : Nat} {M : Mem} (C0 : cx G p s m args c cX7_together RX7 3 A) (hr : meth.sig.returnType = (some FieldType.int)) (hlk : meth.locks = false) (hG : GOK G) (hk1 : ∀ (z1 : Int32) (H : Heap) (locs : List Loc) (ls : Array Slot), mm G A s M H locs → lv_has ls 3 [(1, .int z1)] → k1 z1 = some (r, M') → W p l e rm_X7_together s m args below meth c H locs 0 0 (MQ below (CQ G M' (some (.int r)) A) args s 0 0 A) (F0 m 37 ls [])) : ∀ (n : Nat) (y1 : Int32) (y2 : Int32) (H : Heap) (locs : List Loc) (ls : Array Slot), mm G A s M H locs → lv_has ls 3 [(0, .ref f0), (1, .int y1), (2, .int y2)] → pl_X7_together_9 k1 f0 M n y1 y2 = some (r, M') → W p l e rm_X7_together s m args below meth c H locs 0 0 (MQ below (CQ G M' (some (.int r)) A) args s 0 0 A) (F0 m 9 ls []) := by
  have hx := C0.1
  have hb := C0.2.1
  have hown := C0.2.2.2.1
  have hts := C0.2.2.2.2.1
  intro n
  induction n with
  | zero => intro y1 y2 H locs ls hM hl hp; rw [pl_X7_together_9] at hp; cases hp
  | succ n ih =>
    intro y1 y2 H locs ls hM hl hp
    rw [pl_X7_together_9] at hp
    refine lv_iload_n hx hb dX7_together_9 rfl (lv_at hl 2 rfl) ?_
    refine lv_bipush (v := 99) hx hb dX7_together_10 (by decide) ?_
    refine lv_icmp_gt (tgt := 37) hx hb dX7_together_12 (by decide) (fun c2 => ?_) (fun c2 => ?_)
    · replace hp := oT c2 hp
      exact hk1 _ _ _ _ hM (lv_sub hl [1] rfl) hp
    · replace hp := oF c2 hp
      refine lv_iload_n hx hb dX7_together_15 rfl (lv_at hl 1 rfl) ?_
      refine lv_aload_n hx hb dX7_together_16 rfl (lv_at hl 0 rfl) ?_
      refine lv_iload_n hx hb dX7_together_17 rfl (lv_at hl 2 rfl) ?_
      obtain ⟨_, h3, hp⟩ := ob hp
      obtain ⟨v4, hv4, hp⟩ := ob hp
      refine mr_V1 (As := [.int y2]) (rest := [.int y1]) C0 cbX7 hM h3 rfl (w_X7_isTogether hG hv4) tw_1752 tw_1754 tws_67 tw_7 tw_1755 yk_X7_isTogether (by decide) rfl hl.1 (Nat.le_of_ble_eq_true rfl) dX7_together_18 rfl (fun H locs hM => ?_)
      obtain ⟨k6, ek6, hp⟩ := ojn hp
      have hk6 : ∀ (s5 : Int32) (H : Heap) (locs : List Loc) (ls : Array Slot), mm G A s M H locs → lv_has ls 3 [(0, .ref f0), (2, .int y2)] → k6 s5 = some (r, M') → W p l e rm_X7_together s m args below meth c H locs 0 0 (MQ below (CQ G M' (some (.int r)) A) args s 0 0 A) (F0 m 29 ls [.int s5, .int y1]) := by
        intro s5 H locs ls hM hl hp
        rw [ek6] at hp
        refine lv_iadd hx hb dX7_together_29 ?_
        refine lv_istore_n (lv' := [(1, .int (y1 + s5)), (0, .ref f0), (2, .int y2)]) hx hb dX7_together_30 rfl hl (by decide) rfl (fun ls hl => ?_)
        refine lv_iinc (v := (y2 + (1 : Int32))) (lv' := [(2, .int (y2 + (1 : Int32))), (1, .int (y1 + s5)), (0, .ref f0)]) hx hb dX7_together_31 hl (k := 2) rfl rfl (by decide) rfl (fun ls hl => ?_)
        refine lv_goto (tgt := 9) hx hb dX7_together_34 (by decide) ?_
        exact ih _ _ _ _ _ hM (lv_sub hl [2, 1, 0] rfl) hp
      refine lv_if_eq (tgt := 28) hx hb dX7_together_21 (by decide) (fun c7 => ?_) (fun c7 => ?_)
      · replace hp := oT c7 hp
        refine lv_iconst (v := 0) hx hb dX7_together_28 (by decide) ?_
        exact hk6 _ _ _ _ hM (lv_sub hl [0, 2] rfl) hp
      · replace hp := oF c7 hp
        refine lv_iconst (v := 1) hx hb dX7_together_24 (by decide) ?_
        refine lv_goto (tgt := 29) hx hb dX7_together_25 (by decide) ?_
        exact hk6 _ _ _ _ hM (lv_sub hl [0, 2] rfl) hp
def p_X7_together (a0 : Nat) (M : Mem) : Option (Int32 × Mem) :=
  (Option.bind (sV 6 9 M a0 (.int (0 : Int32))) fun M1 =>
  (pl_X7_together_9
   (fun (z8 : Int32) =>
    some (z8, M1)
   )
   a0 M1 FU (0 : Int32) (1 : Int32))
  )
theorem yk_X7_together : yok yX7_together 0 := by decide +kernel
set_option maxHeartbeats 4000000 in
set_option maxRecDepth 100000 in
theorem w_X7_together {G : gG} (hG : GOK G) {l : Launch} {a0 : Nat} {M : Mem} {r : Int32} {M' : Mem} (hp : p_X7_together a0 M = some (r, M')) : CT G l yX7_together (wT yX7_together cX7_together 3 (some FieldType.int)) rm_X7_together [.ref a0] M (some (.int r)) M' 0 0 := by
  refine CT_of (own := RX7) (maxL := 3) (ret := (some FieldType.int)) hG (by decide) rfl (Nat.le_of_ble_eq_true rfl) (fun p e s m below meth c A C0 hr hlk hM ls hl => ?_)
  have hl : lv_has ls 3 [(0, .ref a0)] := hl
  generalize ([.ref a0] : List Value).toArray = args at C0 ⊢
  skip
  have hx := C0.1
  have hb := C0.2.1
  have hown := C0.2.2.2.1
  have hts := C0.2.2.2.2.1
  unfold p_X7_together at hp
  refine lv_aload_n hx hb dX7_together_0 rfl (lv_at hl 0 rfl) ?_
  refine lv_iconst (v := 0) hx hb dX7_together_1 (by decide) ?_
  obtain ⟨M1, hM1, hp⟩ := ob hp
  refine mr_putI C0 cbX7 hM 9 (by decide) rfl rfl tw_1233 hM1 dX7_together_2 (fun H locs hM => ?_)
  refine lv_iconst (v := 0) hx hb dX7_together_5 (by decide) ?_
  refine lv_istore_n (lv' := [(1, .int (0 : Int32)), (0, .ref a0)]) hx hb dX7_together_6 rfl hl (by decide) rfl (fun ls hl => ?_)
  refine lv_iconst (v := 1) hx hb dX7_together_7 (by decide) ?_
  refine lv_istore_n (lv' := [(2, .int (1 : Int32)), (1, .int (0 : Int32)), (0, .ref a0)]) hx hb dX7_together_8 rfl hl (by decide) rfl (fun ls hl => ?_)
  refine wl_X7_together_9 C0 hr hlk hG (fun z8 H locs ls hM hl hp => ?_) FU _ _ _ _ _ hM (lv_sub hl [2, 1, 0] rfl) hp
  refine lv_iload_n hx hb dX7_together_37 rfl (lv_at hl 0 rfl) ?_
  exact mr_iret C0 hr hlk hM (Prod.mk.inj (Option.some.inj hp)).2 (Prod.mk.inj (Option.some.inj hp)).1 (Nat.le_refl _) (Nat.le_refl _) dX7_together_38
abbrev rm_X7_cutoff : Room := { frames := 6, cells := 0, slots := 0, locals := 139 }
def p_X7_cutoff (a0 : Nat) (a1 : Int32) (a2 : Int32) (M : Mem) : Option (Int32 × Mem) :=
  (Option.bind (isC 6 M a0) fun _ =>
  (ob2 (p_X7_noSchool a0 a1 M) fun v2 M3 =>
  (if v2 = 0 then
   (Option.bind (p_X7_inRange a2 (0 : Int32) (2 : Int32) M3) fun v5 =>
   (jn (fun (s6 : Int32) =>
    (Option.bind (isC 6 M3 a0) fun _ =>
    (ob2 (p_X7_fails a0 s6 (2 : Int32) M3) fun v9 M10 =>
    (if v9 = 0 then
     (Option.bind (isC 6 M10 a0) fun _ =>
     (Option.bind (p_X7_lastOf a0 a1 M10) fun v13 =>
     (if v13 = (-1 : Int32) then
      some ((-1 : Int32), M10)
     else
      (if a2 = 0 then
       (Option.bind (isC 6 M10 a0) fun _ =>
       (Option.bind (p_X7_classAt a0 v13 a1 M10) fun v22 =>
       some (v22, M10)
       )
       )
      else
       (if a2 = (1 : Int32) then
        (Option.bind (isC 6 M10 a0) fun _ =>
        (Option.bind (p_X7_far a0 v13 a1 M10) fun v20 =>
        some (v20, M10)
        )
        )
       else
        (Option.bind (gR 6 0 M10 a0) fun v17 =>
        (Option.bind (aI 0 M10 v17 ((284 : Int32) + v13)) fun v18 =>
        some (v18, M10)
        )
        )
       )
      )
     )
     )
     )
    else
     some ((0 : Int32), M10)
    )
    )
    )
   ) fun k7 =>
   (if v5 = 0 then
    (k7 (1 : Int32))
   else
    (k7 (0 : Int32))
   )
   )
   )
  else
   some ((0 : Int32), M3)
  )
  )
  )
theorem yk_X7_cutoff : yok yX7_cutoff 2 := by decide +kernel
set_option maxHeartbeats 4000000 in
set_option maxRecDepth 100000 in
theorem w_X7_cutoff {G : gG} (hG : GOK G) {l : Launch} {a0 : Nat} {a1 : Int32} {a2 : Int32} {M : Mem} {r : Int32} {M' : Mem} (hp : p_X7_cutoff a0 a1 a2 M = some (r, M')) : CT G l yX7_cutoff (wT yX7_cutoff cX7_cutoff 4 (some FieldType.int)) rm_X7_cutoff [.ref a0, .int a1, .int a2] M (some (.int r)) M' 0 0 := by
  refine CT_of (own := RX7) (maxL := 4) (ret := (some FieldType.int)) hG (by decide) rfl (Nat.le_of_ble_eq_true rfl) (fun p e s m below meth c A C0 hr hlk hM ls hl => ?_)
  have hl : lv_has ls 4 [(0, .ref a0), (1, .int a1), (2, .int a2)] := hl
  generalize ([.ref a0, .int a1, .int a2] : List Value).toArray = args at C0 ⊢
  skip
  have hx := C0.1
  have hb := C0.2.1
  have hown := C0.2.2.2.1
  have hts := C0.2.2.2.2.1
  unfold p_X7_cutoff at hp
  refine lv_aload_n hx hb dX7_cutoff_0 rfl (lv_at hl 0 rfl) ?_
  refine lv_iload_n hx hb dX7_cutoff_1 rfl (lv_at hl 1 rfl) ?_
  obtain ⟨_, h1, hp⟩ := ob hp
  obtain ⟨v2, M3, hv2, hp⟩ := ob3 hp
  refine mr_V1 (As := [.int a1]) (rest := []) C0 cbX7 hM h1 rfl (w_X7_noSchool hG hv2) tw_1471 tw_1473 tws_34 tw_7 tw_1474 yk_X7_noSchool (by decide) rfl hl.1 (Nat.le_of_ble_eq_true rfl) dX7_cutoff_2 rfl (fun H locs hM => ?_)
  refine lv_if_ne (tgt := 30) hx hb dX7_cutoff_5 (by decide) (fun c4 => ?_) (fun c4 => ?_)
  · replace hp := oF c4 hp
    refine lv_iconst (v := 0) hx hb dX7_cutoff_30 (by decide) ?_
    exact mr_iret C0 hr hlk hM (Prod.mk.inj (Option.some.inj hp)).2 (Prod.mk.inj (Option.some.inj hp)).1 (Nat.le_refl _) (Nat.le_refl _) dX7_cutoff_31
  · replace hp := oT c4 hp
    refine lv_aload_n hx hb dX7_cutoff_8 rfl (lv_at hl 0 rfl) ?_
    refine lv_iload_n hx hb dX7_cutoff_9 rfl (lv_at hl 2 rfl) ?_
    refine lv_iconst (v := 0) hx hb dX7_cutoff_10 (by decide) ?_
    refine lv_iconst (v := 2) hx hb dX7_cutoff_11 (by decide) ?_
    obtain ⟨v5, hv5, hp⟩ := ob hp
    refine mr_S1 (As := [.int a2, .int (0 : Int32), .int (2 : Int32)]) (rest := [.ref a0]) C0 hM (w_X7_inRange hG hv5) tw_1325 tw_1326 tw_7 tw_1327 yk_X7_inRange (by decide) rfl hl.1 (Nat.le_of_ble_eq_true rfl) dX7_cutoff_12 rfl (fun H locs hM => ?_)
    obtain ⟨k7, ek7, hp⟩ := ojn hp
    have hk7 : ∀ (s6 : Int32) (H : Heap) (locs : List Loc) (ls : Array Slot), mm G A s M3 H locs → lv_has ls 4 [(0, .ref a0), (1, .int a1), (2, .int a2)] → k7 s6 = some (r, M') → W p l e rm_X7_cutoff s m args below meth c H locs 0 0 (MQ below (CQ G M' (some (.int r)) A) args s 0 0 A) (F0 m 23 ls [.int s6, .ref a0]) := by
      intro s6 H locs ls hM hl hp
      rw [ek7] at hp
      refine lv_iconst (v := 2) hx hb dX7_cutoff_23 (by decide) ?_
      obtain ⟨_, h8, hp⟩ := ob hp
      obtain ⟨v9, M10, hv9, hp⟩ := ob3 hp
      refine mr_V1 (As := [.int s6, .int (2 : Int32)]) (rest := []) C0 cbX7 hM h8 rfl (w_X7_fails hG hv9) tw_1459 tw_1461 tws_32 tw_7 tw_1462 yk_X7_fails (by decide) rfl hl.1 (Nat.le_of_ble_eq_true rfl) dX7_cutoff_24 rfl (fun H locs hM => ?_)
      refine lv_if_eq (tgt := 32) hx hb dX7_cutoff_27 (by decide) (fun c11 => ?_) (fun c11 => ?_)
      · replace hp := oT c11 hp
        refine lv_aload_n hx hb dX7_cutoff_32 rfl (lv_at hl 0 rfl) ?_
        refine lv_iload_n hx hb dX7_cutoff_33 rfl (lv_at hl 1 rfl) ?_
        obtain ⟨_, h12, hp⟩ := ob hp
        obtain ⟨v13, hv13, hp⟩ := ob hp
        refine mr_V1 (As := [.int a1]) (rest := []) C0 cbX7 hM h12 rfl (w_X7_lastOf hG hv13) tw_1631 tw_1633 tws_59 tw_7 tw_1634 yk_X7_lastOf (by decide) rfl hl.1 (Nat.le_of_ble_eq_true rfl) dX7_cutoff_34 rfl (fun H locs hM => ?_)
        refine lv_istore_n (lv' := [(3, .int v13), (0, .ref a0), (1, .int a1), (2, .int a2)]) hx hb dX7_cutoff_37 rfl hl (by decide) rfl (fun ls hl => ?_)
        refine lv_iload_n hx hb dX7_cutoff_38 rfl (lv_at hl 0 rfl) ?_
        refine lv_iconst (v := -1) hx hb dX7_cutoff_39 (by decide) ?_
        refine lv_icmp_ne (tgt := 45) hx hb dX7_cutoff_40 (by decide) (fun c14 => ?_) (fun c14 => ?_)
        · replace hp := oF c14 hp
          refine lv_iload_n hx hb dX7_cutoff_45 rfl (lv_at hl 3 rfl) ?_
          refine lv_if_ne (tgt := 58) hx hb dX7_cutoff_46 (by decide) (fun c15 => ?_) (fun c15 => ?_)
          · replace hp := oF c15 hp
            refine lv_iload_n hx hb dX7_cutoff_58 rfl (lv_at hl 3 rfl) ?_
            refine lv_iconst (v := 1) hx hb dX7_cutoff_59 (by decide) ?_
            refine lv_icmp_ne (tgt := 72) hx hb dX7_cutoff_60 (by decide) (fun c16 => ?_) (fun c16 => ?_)
            · replace hp := oF c16 hp
              refine lv_aload_n hx hb dX7_cutoff_72 rfl (lv_at hl 1 rfl) ?_
              obtain ⟨v17, hv17, hp⟩ := ob hp
              refine mr_getR C0 cbX7 hM 0 (by decide) tw_1224 hv17 dX7_cutoff_73 ?_
              refine lv_sipush (v := 284) hx hb dX7_cutoff_76 (by decide) ?_
              refine lv_iload_n hx hb dX7_cutoff_79 rfl (lv_at hl 0 rfl) ?_
              refine lv_iadd hx hb dX7_cutoff_80 ?_
              obtain ⟨v18, hv18, hp⟩ := ob hp
              refine mr_iald C0 hM hv18 dX7_cutoff_81 ?_
              exact mr_iret C0 hr hlk hM (Prod.mk.inj (Option.some.inj hp)).2 (Prod.mk.inj (Option.some.inj hp)).1 (Nat.le_refl _) (Nat.le_refl _) dX7_cutoff_82
            · replace hp := oT c16 hp
              refine lv_aload_n hx hb dX7_cutoff_63 rfl (lv_at hl 1 rfl) ?_
              refine lv_iload_n hx hb dX7_cutoff_64 rfl (lv_at hl 0 rfl) ?_
              refine lv_iload_n hx hb dX7_cutoff_65 rfl (lv_at hl 2 rfl) ?_
              obtain ⟨_, h19, hp⟩ := ob hp
              obtain ⟨v20, hv20, hp⟩ := ob hp
              refine mr_V1 (As := [.int v13, .int a1]) (rest := []) C0 cbX7 hM h19 rfl (w_X7_far hG hv20) tw_1559 tw_1561 tws_48 tw_7 tw_1562 yk_X7_far (by decide) rfl hl.1 (Nat.le_of_ble_eq_true rfl) dX7_cutoff_66 rfl (fun H locs hM => ?_)
              refine lv_goto (tgt := 82) hx hb dX7_cutoff_69 (by decide) ?_
              exact mr_iret C0 hr hlk hM (Prod.mk.inj (Option.some.inj hp)).2 (Prod.mk.inj (Option.some.inj hp)).1 (Nat.le_refl _) (Nat.le_refl _) dX7_cutoff_82
          · replace hp := oT c15 hp
            refine lv_aload_n hx hb dX7_cutoff_49 rfl (lv_at hl 1 rfl) ?_
            refine lv_iload_n hx hb dX7_cutoff_50 rfl (lv_at hl 0 rfl) ?_
            refine lv_iload_n hx hb dX7_cutoff_51 rfl (lv_at hl 2 rfl) ?_
            obtain ⟨_, h21, hp⟩ := ob hp
            obtain ⟨v22, hv22, hp⟩ := ob hp
            refine mr_V1 (As := [.int v13, .int a1]) (rest := []) C0 cbX7 hM h21 rfl (w_X7_classAt hG hv22) tw_1551 tw_1553 tws_47 tw_7 tw_1554 yk_X7_classAt (by decide) rfl hl.1 (Nat.le_of_ble_eq_true rfl) dX7_cutoff_52 rfl (fun H locs hM => ?_)
            refine lv_goto (tgt := 82) hx hb dX7_cutoff_55 (by decide) ?_
            exact mr_iret C0 hr hlk hM (Prod.mk.inj (Option.some.inj hp)).2 (Prod.mk.inj (Option.some.inj hp)).1 (Nat.le_refl _) (Nat.le_refl _) dX7_cutoff_82
        · replace hp := oT c14 hp
          refine lv_iconst (v := -1) hx hb dX7_cutoff_43 (by decide) ?_
          exact mr_iret C0 hr hlk hM (Prod.mk.inj (Option.some.inj hp)).2 (Prod.mk.inj (Option.some.inj hp)).1 (Nat.le_refl _) (Nat.le_refl _) dX7_cutoff_44
      · replace hp := oF c11 hp
        refine lv_iconst (v := 0) hx hb dX7_cutoff_30 (by decide) ?_
        exact mr_iret C0 hr hlk hM (Prod.mk.inj (Option.some.inj hp)).2 (Prod.mk.inj (Option.some.inj hp)).1 (Nat.le_refl _) (Nat.le_refl _) dX7_cutoff_31
    refine lv_if_ne (tgt := 22) hx hb dX7_cutoff_15 (by decide) (fun c23 => ?_) (fun c23 => ?_)
    · replace hp := oF c23 hp
      refine lv_iconst (v := 0) hx hb dX7_cutoff_22 (by decide) ?_
      exact hk7 _ _ _ _ hM (lv_sub hl [0, 1, 2] rfl) hp
    · replace hp := oT c23 hp
      refine lv_iconst (v := 1) hx hb dX7_cutoff_18 (by decide) ?_
      refine lv_goto (tgt := 23) hx hb dX7_cutoff_19 (by decide) ?_
      exact hk7 _ _ _ _ hM (lv_sub hl [0, 1, 2] rfl) hp
abbrev rm_X7_nearest : Room := { frames := 2, cells := 0, slots := 0, locals := 43 }
def pl_X7_nearest_14 (k1 : Int32 → Option (Int32 × Mem)) (f0 : Nat) (f1 : Int32) (M : Mem) : Nat → Int32 → Int32 → Option (Int32 × Mem)
  | 0, _, _ => none
  | n + 1, y2, y3 =>
    (Option.bind (gR 6 0 M f0) fun v5 =>
    (Option.bind (aI 0 M v5 (0 : Int32)) fun v6 =>
    (if v6 ≤ y3 then
     (k1 y2)
    else
     (jn (fun (_ : Unit) =>
      (pl_X7_nearest_14 k1 f0 f1 M n y3 (y3 + (1 : Int32)))
     ) fun k8 =>
     (if y2 = (-1 : Int32) then
      (k8 ())
     else
      (Option.bind (isC 6 M f0) fun _ =>
      (Option.bind (p_X7_far f0 f1 y3 M) fun v11 =>
      (Option.bind (isC 6 M f0) fun _ =>
      (Option.bind (p_X7_far f0 f1 y2 M) fun v13 =>
      (if v13 ≤ v11 then
       (pl_X7_nearest_14 k1 f0 f1 M n y2 (y3 + (1 : Int32)))
      else
       (k8 ())
      )
      )
      )
      )
      )
     )
     )
    )
    )
    )
set_option maxHeartbeats 4000000 in
set_option maxRecDepth 100000 in
theorem wl_X7_nearest_14 {G : gG} {p : Program} {l : Launch} {e : Env} {s : State} {m : MethodId} {args : Array Value} {below : List Frame} {meth : Method} {c : Code} {A : Nat → Prop} {r : Int32} {M' : Mem} {k1 : Int32 → Option (Int32 × Mem)} {f0 : Nat} {f1 : Int32} {M : Mem} (C0 : cx G p s m args c cX7_nearest RX7 4 A) (hr : meth.sig.returnType = (some FieldType.int)) (hlk : meth.locks = false) (hG : GOK G) (hk1 : ∀ (z2 : Int32) (H : Heap) (locs : List Loc) (ls : Array Slot), mm G A s M H locs → lv_has ls 4 [(2, .int z2)] → k1 z2 = some (r, M') → W p l e rm_X7_nearest s m args below meth c H locs 0 0 (MQ below (CQ G M' (some (.int r)) A) args s 0 0 A) (F0 m 52 ls [])) : ∀ (n : Nat) (y2 : Int32) (y3 : Int32) (H : Heap) (locs : List Loc) (ls : Array Slot), mm G A s M H locs → lv_has ls 4 [(0, .ref f0), (1, .int f1), (2, .int y2), (3, .int y3)] → pl_X7_nearest_14 k1 f0 f1 M n y2 y3 = some (r, M') → W p l e rm_X7_nearest s m args below meth c H locs 0 0 (MQ below (CQ G M' (some (.int r)) A) args s 0 0 A) (F0 m 14 ls []) := by
  have hx := C0.1
  have hb := C0.2.1
  have hown := C0.2.2.2.1
  have hts := C0.2.2.2.2.1
  intro n
  induction n with
  | zero => intro y2 y3 H locs ls hM hl hp; rw [pl_X7_nearest_14] at hp; cases hp
  | succ n ih =>
    intro y2 y3 H locs ls hM hl hp
    rw [pl_X7_nearest_14] at hp
    refine lv_iload_n hx hb dX7_nearest_14 rfl (lv_at hl 3 rfl) ?_
    refine lv_aload_n hx hb dX7_nearest_15 rfl (lv_at hl 0 rfl) ?_
    obtain ⟨v5, hv5, hp⟩ := ob hp
    refine mr_getR C0 cbX7 hM 0 (by decide) tw_1224 hv5 dX7_nearest_16 ?_
    refine lv_iconst (v := 0) hx hb dX7_nearest_19 (by decide) ?_
    obtain ⟨v6, hv6, hp⟩ := ob hp
    refine mr_iald C0 hM hv6 dX7_nearest_20 ?_
    refine lv_icmp_ge (tgt := 52) hx hb dX7_nearest_21 (by decide) (fun c7 => ?_) (fun c7 => ?_)
    · replace hp := oT c7 hp
      exact hk1 _ _ _ _ hM (lv_sub hl [2] rfl) hp
    · replace hp := oF c7 hp
      refine lv_iload_n hx hb dX7_nearest_24 rfl (lv_at hl 2 rfl) ?_
      refine lv_iconst (v := -1) hx hb dX7_nearest_25 (by decide) ?_
      obtain ⟨k8, ek8, hp⟩ := ojn hp
      have hk8 : ∀ (H : Heap) (locs : List Loc) (ls : Array Slot), mm G A s M H locs → lv_has ls 4 [(0, .ref f0), (1, .int f1), (3, .int y3)] → k8 () = some (r, M') → W p l e rm_X7_nearest s m args below meth c H locs 0 0 (MQ below (CQ G M' (some (.int r)) A) args s 0 0 A) (F0 m 44 ls []) := by
        intro  H locs ls hM hl hp
        rw [ek8] at hp
        refine lv_iload_n hx hb dX7_nearest_44 rfl (lv_at hl 2 rfl) ?_
        refine lv_istore_n (lv' := [(2, .int y3), (0, .ref f0), (1, .int f1), (3, .int y3)]) hx hb dX7_nearest_45 rfl hl (by decide) rfl (fun ls hl => ?_)
        refine lv_iinc (v := (y3 + (1 : Int32))) (lv' := [(3, .int (y3 + (1 : Int32))), (2, .int y3), (0, .ref f0), (1, .int f1)]) hx hb dX7_nearest_46 hl (k := 3) rfl rfl (by decide) rfl (fun ls hl => ?_)
        refine lv_goto (tgt := 14) hx hb dX7_nearest_49 (by decide) ?_
        exact ih _ _ _ _ _ hM (lv_sub hl [2, 3, 1, 0] rfl) hp
      refine lv_icmp_eq (tgt := 44) hx hb dX7_nearest_26 (by decide) (fun c9 => ?_) (fun c9 => ?_)
      · replace hp := oT c9 hp
        exact hk8  _ _ _ hM (lv_sub hl [0, 1, 3] rfl) hp
      · replace hp := oF c9 hp
        refine lv_aload_n hx hb dX7_nearest_29 rfl (lv_at hl 0 rfl) ?_
        refine lv_iload_n hx hb dX7_nearest_30 rfl (lv_at hl 1 rfl) ?_
        refine lv_iload_n hx hb dX7_nearest_31 rfl (lv_at hl 3 rfl) ?_
        obtain ⟨_, h10, hp⟩ := ob hp
        obtain ⟨v11, hv11, hp⟩ := ob hp
        refine mr_V1 (As := [.int f1, .int y3]) (rest := []) C0 cbX7 hM h10 rfl (w_X7_far hG hv11) tw_1559 tw_1561 tws_48 tw_7 tw_1562 yk_X7_far (by decide) rfl hl.1 (Nat.le_of_ble_eq_true rfl) dX7_nearest_32 rfl (fun H locs hM => ?_)
        refine lv_aload_n hx hb dX7_nearest_35 rfl (lv_at hl 0 rfl) ?_
        refine lv_iload_n hx hb dX7_nearest_36 rfl (lv_at hl 1 rfl) ?_
        refine lv_iload_n hx hb dX7_nearest_37 rfl (lv_at hl 2 rfl) ?_
        obtain ⟨_, h12, hp⟩ := ob hp
        obtain ⟨v13, hv13, hp⟩ := ob hp
        refine mr_V1 (As := [.int f1, .int y2]) (rest := [.int v11]) C0 cbX7 hM h12 rfl (w_X7_far hG hv13) tw_1559 tw_1561 tws_48 tw_7 tw_1562 yk_X7_far (by decide) rfl hl.1 (Nat.le_of_ble_eq_true rfl) dX7_nearest_38 rfl (fun H locs hM => ?_)
        refine lv_icmp_ge (tgt := 46) hx hb dX7_nearest_41 (by decide) (fun c14 => ?_) (fun c14 => ?_)
        · replace hp := oT c14 hp
          refine lv_iinc (v := (y3 + (1 : Int32))) (lv' := [(3, .int (y3 + (1 : Int32))), (0, .ref f0), (1, .int f1), (2, .int y2)]) hx hb dX7_nearest_46 hl (k := 3) rfl rfl (by decide) rfl (fun ls hl => ?_)
          refine lv_goto (tgt := 14) hx hb dX7_nearest_49 (by decide) ?_
          exact ih _ _ _ _ _ hM (lv_sub hl [1, 2, 3, 0] rfl) hp
        · replace hp := oF c14 hp
          exact hk8  _ _ _ hM (lv_sub hl [0, 1, 3] rfl) hp
def p_X7_nearest (a0 : Nat) (a1 : Int32) (M : Mem) : Option (Int32 × Mem) :=
  (Option.bind (isC 6 M a0) fun _ =>
  (ob2 (p_X7_noChild a0 a1 M) fun v2 M3 =>
  (if v2 = 0 then
   (pl_X7_nearest_14
    (fun (z15 : Int32) =>
     some (z15, M3)
    )
    a0 a1 M3 FU (-1 : Int32) (0 : Int32))
  else
   some ((0 : Int32), M3)
  )
  )
  )
theorem yk_X7_nearest : yok yX7_nearest 1 := by decide +kernel
set_option maxHeartbeats 4000000 in
set_option maxRecDepth 100000 in
theorem w_X7_nearest {G : gG} (hG : GOK G) {l : Launch} {a0 : Nat} {a1 : Int32} {M : Mem} {r : Int32} {M' : Mem} (hp : p_X7_nearest a0 a1 M = some (r, M')) : CT G l yX7_nearest (wT yX7_nearest cX7_nearest 4 (some FieldType.int)) rm_X7_nearest [.ref a0, .int a1] M (some (.int r)) M' 0 0 := by
  refine CT_of (own := RX7) (maxL := 4) (ret := (some FieldType.int)) hG (by decide) rfl (Nat.le_of_ble_eq_true rfl) (fun p e s m below meth c A C0 hr hlk hM ls hl => ?_)
  have hl : lv_has ls 4 [(0, .ref a0), (1, .int a1)] := hl
  generalize ([.ref a0, .int a1] : List Value).toArray = args at C0 ⊢
  skip
  have hx := C0.1
  have hb := C0.2.1
  have hown := C0.2.2.2.1
  have hts := C0.2.2.2.2.1
  unfold p_X7_nearest at hp
  refine lv_aload_n hx hb dX7_nearest_0 rfl (lv_at hl 0 rfl) ?_
  refine lv_iload_n hx hb dX7_nearest_1 rfl (lv_at hl 1 rfl) ?_
  obtain ⟨_, h1, hp⟩ := ob hp
  obtain ⟨v2, M3, hv2, hp⟩ := ob3 hp
  refine mr_V1 (As := [.int a1]) (rest := []) C0 cbX7 hM h1 rfl (w_X7_noChild hG hv2) tw_1511 tw_1513 tws_42 tw_7 tw_1514 yk_X7_noChild (by decide) rfl hl.1 (Nat.le_of_ble_eq_true rfl) dX7_nearest_2 rfl (fun H locs hM => ?_)
  refine lv_if_eq (tgt := 10) hx hb dX7_nearest_5 (by decide) (fun c4 => ?_) (fun c4 => ?_)
  · replace hp := oT c4 hp
    refine lv_iconst (v := -1) hx hb dX7_nearest_10 (by decide) ?_
    refine lv_istore_n (lv' := [(2, .int (-1 : Int32)), (0, .ref a0), (1, .int a1)]) hx hb dX7_nearest_11 rfl hl (by decide) rfl (fun ls hl => ?_)
    refine lv_iconst (v := 0) hx hb dX7_nearest_12 (by decide) ?_
    refine lv_istore_n (lv' := [(3, .int (0 : Int32)), (2, .int (-1 : Int32)), (0, .ref a0), (1, .int a1)]) hx hb dX7_nearest_13 rfl hl (by decide) rfl (fun ls hl => ?_)
    refine wl_X7_nearest_14 C0 hr hlk hG (fun z15 H locs ls hM hl hp => ?_) FU _ _ _ _ _ hM (lv_sub hl [2, 3, 1, 0] rfl) hp
    refine lv_iload_n hx hb dX7_nearest_52 rfl (lv_at hl 0 rfl) ?_
    exact mr_iret C0 hr hlk hM (Prod.mk.inj (Option.some.inj hp)).2 (Prod.mk.inj (Option.some.inj hp)).1 (Nat.le_refl _) (Nat.le_refl _) dX7_nearest_53
  · replace hp := oF c4 hp
    refine lv_iconst (v := 0) hx hb dX7_nearest_8 (by decide) ?_
    exact mr_iret C0 hr hlk hM (Prod.mk.inj (Option.some.inj hp)).2 (Prod.mk.inj (Option.some.inj hp)).1 (Nat.le_refl _) (Nat.le_refl _) dX7_nearest_9
abbrev rm_X7_freePlaces : Room := { frames := 1, cells := 0, slots := 0, locals := 23 }
def pl_X7_freePlaces_9 (k1 : Int32 → Option (Int32 × Mem)) (f0 : Nat) (M : Mem) : Nat → Int32 → Int32 → Option (Int32 × Mem)
  | 0, _, _ => none
  | n + 1, y1, y2 =>
    (Option.bind (gR 6 0 M f0) fun v2 =>
    (Option.bind (aI 0 M v2 (0 : Int32)) fun v3 =>
    (if v3 ≤ y2 then
     (k1 y1)
    else
     (Option.bind (gR 6 0 M f0) fun v5 =>
     (Option.bind (aI 0 M v5 ((20 : Int32) + y2)) fun v6 =>
     (Option.bind (isC 6 M f0) fun _ =>
     (Option.bind (p_X7_holders f0 y2 M) fun v8 =>
     (pl_X7_freePlaces_9 k1 f0 M n (y1 + (if (0 : Int32) < (v6 - v8) then (v6 - v8) else (0 : Int32))) (y2 + (1 : Int32)))
     )
     )
     )
     )
    )
    )
    )
set_option maxHeartbeats 4000000 in
set_option maxRecDepth 100000 in
theorem wl_X7_freePlaces_9 {G : gG} {p : Program} {l : Launch} {e : Env} {s : State} {m : MethodId} {args : Array Value} {below : List Frame} {meth : Method} {c : Code} {A : Nat → Prop} {r : Int32} {M' : Mem} {k1 : Int32 → Option (Int32 × Mem)} {f0 : Nat} {M : Mem} (C0 : cx G p s m args c cX7_freePlaces RX7 3 A) (hr : meth.sig.returnType = (some FieldType.int)) (hlk : meth.locks = false) (hG : GOK G) (hk1 : ∀ (z1 : Int32) (H : Heap) (locs : List Loc) (ls : Array Slot), mm G A s M H locs → lv_has ls 3 [(1, .int z1)] → k1 z1 = some (r, M') → W p l e rm_X7_freePlaces s m args below meth c H locs 0 0 (MQ below (CQ G M' (some (.int r)) A) args s 0 0 A) (F0 m 47 ls [])) : ∀ (n : Nat) (y1 : Int32) (y2 : Int32) (H : Heap) (locs : List Loc) (ls : Array Slot), mm G A s M H locs → lv_has ls 3 [(0, .ref f0), (1, .int y1), (2, .int y2)] → pl_X7_freePlaces_9 k1 f0 M n y1 y2 = some (r, M') → W p l e rm_X7_freePlaces s m args below meth c H locs 0 0 (MQ below (CQ G M' (some (.int r)) A) args s 0 0 A) (F0 m 9 ls []) := by
  have hx := C0.1
  have hb := C0.2.1
  have hown := C0.2.2.2.1
  have hts := C0.2.2.2.2.1
  intro n
  induction n with
  | zero => intro y1 y2 H locs ls hM hl hp; rw [pl_X7_freePlaces_9] at hp; cases hp
  | succ n ih =>
    intro y1 y2 H locs ls hM hl hp
    rw [pl_X7_freePlaces_9] at hp
    refine lv_iload_n hx hb dX7_freePlaces_9 rfl (lv_at hl 2 rfl) ?_
    refine lv_aload_n hx hb dX7_freePlaces_10 rfl (lv_at hl 0 rfl) ?_
    obtain ⟨v2, hv2, hp⟩ := ob hp
    refine mr_getR C0 cbX7 hM 0 (by decide) tw_1224 hv2 dX7_freePlaces_11 ?_
    refine lv_iconst (v := 0) hx hb dX7_freePlaces_14 (by decide) ?_
    obtain ⟨v3, hv3, hp⟩ := ob hp
    refine mr_iald C0 hM hv3 dX7_freePlaces_15 ?_
    refine lv_icmp_ge (tgt := 47) hx hb dX7_freePlaces_16 (by decide) (fun c4 => ?_) (fun c4 => ?_)
    · replace hp := oT c4 hp
      exact hk1 _ _ _ _ hM (lv_sub hl [1] rfl) hp
    · replace hp := oF c4 hp
      refine lv_iload_n hx hb dX7_freePlaces_19 rfl (lv_at hl 1 rfl) ?_
      refine lv_iconst (v := 0) hx hb dX7_freePlaces_20 (by decide) ?_
      refine lv_aload_n hx hb dX7_freePlaces_21 rfl (lv_at hl 0 rfl) ?_
      obtain ⟨v5, hv5, hp⟩ := ob hp
      refine mr_getR C0 cbX7 hM 0 (by decide) tw_1224 hv5 dX7_freePlaces_22 ?_
      refine lv_bipush (v := 20) hx hb dX7_freePlaces_25 (by decide) ?_
      refine lv_iload_n hx hb dX7_freePlaces_27 rfl (lv_at hl 2 rfl) ?_
      refine lv_iadd hx hb dX7_freePlaces_28 ?_
      obtain ⟨v6, hv6, hp⟩ := ob hp
      refine mr_iald C0 hM hv6 dX7_freePlaces_29 ?_
      refine lv_aload_n hx hb dX7_freePlaces_30 rfl (lv_at hl 0 rfl) ?_
      refine lv_iload_n hx hb dX7_freePlaces_31 rfl (lv_at hl 2 rfl) ?_
      obtain ⟨_, h7, hp⟩ := ob hp
      obtain ⟨v8, hv8, hp⟩ := ob hp
      refine mr_V1 (As := [.int y2]) (rest := [.int v6, .int (0 : Int32), .int y1]) C0 cbX7 hM h7 rfl (w_X7_holders hG hv8) tw_1479 tw_1481 tws_36 tw_7 tw_1482 yk_X7_holders (by decide) rfl hl.1 (Nat.le_of_ble_eq_true rfl) dX7_freePlaces_32 rfl (fun H locs hM => ?_)
      refine lv_isub hx hb dX7_freePlaces_35 ?_
      refine mr_max C0 tw_1768 tw_680 tw_23 tw_681 ⟨by decide, Nat.le_of_ble_eq_true rfl⟩ hl.1 dX7_freePlaces_36 ?_
      refine lv_iadd hx hb dX7_freePlaces_39 ?_
      refine lv_istore_n (lv' := [(1, .int (y1 + (if (0 : Int32) < (v6 - v8) then (v6 - v8) else (0 : Int32)))), (0, .ref f0), (2, .int y2)]) hx hb dX7_freePlaces_40 rfl hl (by decide) rfl (fun ls hl => ?_)
      refine lv_iinc (v := (y2 + (1 : Int32))) (lv' := [(2, .int (y2 + (1 : Int32))), (1, .int (y1 + (if (0 : Int32) < (v6 - v8) then (v6 - v8) else (0 : Int32)))), (0, .ref f0)]) hx hb dX7_freePlaces_41 hl (k := 2) rfl rfl (by decide) rfl (fun ls hl => ?_)
      refine lv_goto (tgt := 9) hx hb dX7_freePlaces_44 (by decide) ?_
      exact ih _ _ _ _ _ hM (lv_sub hl [2, 1, 0] rfl) hp
def p_X7_freePlaces (a0 : Nat) (M : Mem) : Option (Int32 × Mem) :=
  (Option.bind (sV 6 9 M a0 (.int (0 : Int32))) fun M1 =>
  (pl_X7_freePlaces_9
   (fun (z9 : Int32) =>
    some (z9, M1)
   )
   a0 M1 FU (0 : Int32) (0 : Int32))
  )
theorem yk_X7_freePlaces : yok yX7_freePlaces 0 := by decide +kernel
set_option maxHeartbeats 4000000 in
set_option maxRecDepth 100000 in
theorem w_X7_freePlaces {G : gG} (hG : GOK G) {l : Launch} {a0 : Nat} {M : Mem} {r : Int32} {M' : Mem} (hp : p_X7_freePlaces a0 M = some (r, M')) : CT G l yX7_freePlaces (wT yX7_freePlaces cX7_freePlaces 3 (some FieldType.int)) rm_X7_freePlaces [.ref a0] M (some (.int r)) M' 0 0 := by
  refine CT_of (own := RX7) (maxL := 3) (ret := (some FieldType.int)) hG (by decide) rfl (Nat.le_of_ble_eq_true rfl) (fun p e s m below meth c A C0 hr hlk hM ls hl => ?_)
  have hl : lv_has ls 3 [(0, .ref a0)] := hl
  generalize ([.ref a0] : List Value).toArray = args at C0 ⊢
  skip
  have hx := C0.1
  have hb := C0.2.1
  have hown := C0.2.2.2.1
  have hts := C0.2.2.2.2.1
  unfold p_X7_freePlaces at hp
  refine lv_aload_n hx hb dX7_freePlaces_0 rfl (lv_at hl 0 rfl) ?_
  refine lv_iconst (v := 0) hx hb dX7_freePlaces_1 (by decide) ?_
  obtain ⟨M1, hM1, hp⟩ := ob hp
  refine mr_putI C0 cbX7 hM 9 (by decide) rfl rfl tw_1233 hM1 dX7_freePlaces_2 (fun H locs hM => ?_)
  refine lv_iconst (v := 0) hx hb dX7_freePlaces_5 (by decide) ?_
  refine lv_istore_n (lv' := [(1, .int (0 : Int32)), (0, .ref a0)]) hx hb dX7_freePlaces_6 rfl hl (by decide) rfl (fun ls hl => ?_)
  refine lv_iconst (v := 0) hx hb dX7_freePlaces_7 (by decide) ?_
  refine lv_istore_n (lv' := [(2, .int (0 : Int32)), (1, .int (0 : Int32)), (0, .ref a0)]) hx hb dX7_freePlaces_8 rfl hl (by decide) rfl (fun ls hl => ?_)
  refine wl_X7_freePlaces_9 C0 hr hlk hG (fun z9 H locs ls hM hl hp => ?_) FU _ _ _ _ _ hM (lv_sub hl [2, 1, 0] rfl) hp
  refine lv_iload_n hx hb dX7_freePlaces_47 rfl (lv_at hl 0 rfl) ?_
  exact mr_iret C0 hr hlk hM (Prod.mk.inj (Option.some.inj hp)).2 (Prod.mk.inj (Option.some.inj hp)).1 (Nat.le_refl _) (Nat.le_refl _) dX7_freePlaces_48
abbrev rm_X7_begins : Room := { frames := 1, cells := 0, slots := 0, locals := 25 }
def p_X7_begins (a0 : Nat) (M : Mem) : Option (Mem) :=
  (Option.bind (gR 6 0 M a0) fun v1 =>
  (Option.bind (gR 6 2 M a0) fun v2 =>
  (Option.bind (p_X7_copies v1 (0 : Int32) v2 (0 : Int32) (764 : Int32) M) fun M3 =>
  some M3
  )
  )
  )
theorem yk_X7_begins : yok yX7_begins 0 := by decide +kernel
set_option maxHeartbeats 4000000 in
set_option maxRecDepth 100000 in
theorem w_X7_begins {G : gG} (hG : GOK G) {l : Launch} {a0 : Nat} {M : Mem} {M' : Mem} (hp : p_X7_begins a0 M = some M') : CT G l yX7_begins (wT yX7_begins cX7_begins 1 (none)) rm_X7_begins [.ref a0] M none M' 0 0 := by
  refine CT_of (own := RX7) (maxL := 1) (ret := (none)) hG (by decide) rfl (Nat.le_of_ble_eq_true rfl) (fun p e s m below meth c A C0 hr hlk hM ls hl => ?_)
  have hl : lv_has ls 1 [(0, .ref a0)] := hl
  generalize ([.ref a0] : List Value).toArray = args at C0 ⊢
  skip
  have hx := C0.1
  have hb := C0.2.1
  have hown := C0.2.2.2.1
  have hts := C0.2.2.2.2.1
  unfold p_X7_begins at hp
  refine lv_aload_n hx hb dX7_begins_0 rfl (lv_at hl 0 rfl) ?_
  obtain ⟨v1, hv1, hp⟩ := ob hp
  refine mr_getR C0 cbX7 hM 0 (by decide) tw_1224 hv1 dX7_begins_1 ?_
  refine lv_iconst (v := 0) hx hb dX7_begins_4 (by decide) ?_
  refine lv_aload_n hx hb dX7_begins_5 rfl (lv_at hl 0 rfl) ?_
  obtain ⟨v2, hv2, hp⟩ := ob hp
  refine mr_getR C0 cbX7 hM 2 (by decide) tw_1226 hv2 dX7_begins_6 ?_
  refine lv_iconst (v := 0) hx hb dX7_begins_9 (by decide) ?_
  refine lv_sipush (v := 764) hx hb dX7_begins_10 (by decide) ?_
  obtain ⟨M3, hM3, hp⟩ := ob hp
  refine mr_S0 (As := [.ref v1, .int (0 : Int32), .ref v2, .int (0 : Int32), .int (764 : Int32)]) (rest := []) C0 hM (w_X7_copies hG hM3) tw_1332 tw_1333 tw_7 tw_1334 yk_X7_copies (by decide) rfl hl.1 (Nat.le_of_ble_eq_true rfl) dX7_begins_13 rfl (fun H locs hM => ?_)
  exact mr_vret C0 hr hlk hM (Option.some.inj hp) (Nat.le_refl _) (Nat.le_refl _) dX7_begins_16
abbrev rm_X7_ends : Room := { frames := 1, cells := 0, slots := 0, locals := 25 }
def p_X7_ends (a0 : Nat) (M : Mem) : Option (Mem) :=
  (Option.bind (gR 6 2 M a0) fun v1 =>
  (Option.bind (gR 6 0 M a0) fun v2 =>
  (Option.bind (p_X7_copies v1 (0 : Int32) v2 (0 : Int32) (764 : Int32) M) fun M3 =>
  some M3
  )
  )
  )
theorem yk_X7_ends : yok yX7_ends 0 := by decide +kernel
set_option maxHeartbeats 4000000 in
set_option maxRecDepth 100000 in
theorem w_X7_ends {G : gG} (hG : GOK G) {l : Launch} {a0 : Nat} {M : Mem} {M' : Mem} (hp : p_X7_ends a0 M = some M') : CT G l yX7_ends (wT yX7_ends cX7_ends 1 (none)) rm_X7_ends [.ref a0] M none M' 0 0 := by
  refine CT_of (own := RX7) (maxL := 1) (ret := (none)) hG (by decide) rfl (Nat.le_of_ble_eq_true rfl) (fun p e s m below meth c A C0 hr hlk hM ls hl => ?_)
  have hl : lv_has ls 1 [(0, .ref a0)] := hl
  generalize ([.ref a0] : List Value).toArray = args at C0 ⊢
  skip
  have hx := C0.1
  have hb := C0.2.1
  have hown := C0.2.2.2.1
  have hts := C0.2.2.2.2.1
  unfold p_X7_ends at hp
  refine lv_aload_n hx hb dX7_ends_0 rfl (lv_at hl 0 rfl) ?_
  obtain ⟨v1, hv1, hp⟩ := ob hp
  refine mr_getR C0 cbX7 hM 2 (by decide) tw_1226 hv1 dX7_ends_1 ?_
  refine lv_iconst (v := 0) hx hb dX7_ends_4 (by decide) ?_
  refine lv_aload_n hx hb dX7_ends_5 rfl (lv_at hl 0 rfl) ?_
  obtain ⟨v2, hv2, hp⟩ := ob hp
  refine mr_getR C0 cbX7 hM 0 (by decide) tw_1224 hv2 dX7_ends_6 ?_
  refine lv_iconst (v := 0) hx hb dX7_ends_9 (by decide) ?_
  refine lv_sipush (v := 764) hx hb dX7_ends_10 (by decide) ?_
  obtain ⟨M3, hM3, hp⟩ := ob hp
  refine mr_S0 (As := [.ref v1, .int (0 : Int32), .ref v2, .int (0 : Int32), .int (764 : Int32)]) (rest := []) C0 hM (w_X7_copies hG hM3) tw_1332 tw_1333 tw_7 tw_1334 yk_X7_copies (by decide) rfl hl.1 (Nat.le_of_ble_eq_true rfl) dX7_ends_13 rfl (fun H locs hM => ?_)
  exact mr_vret C0 hr hlk hM (Option.some.inj hp) (Nat.le_refl _) (Nat.le_refl _) dX7_ends_16
abbrev rm_X7_chainOf : Room := { frames := 8, cells := 0, slots := 0, locals := 186 }
def p_X7_chainOf (a0 : Nat) (a1 : Int32) (M : Mem) : Option (Int32 × Mem) :=
  (Option.bind (isC 6 M a0) fun _ =>
  (ob2 (p_X7_noChild a0 a1 M) fun v2 M3 =>
  (if v2 = 0 then
   (Option.bind (gR 6 0 M3 a0) fun v5 =>
   (Option.bind (aI 0 M3 v5 (8 : Int32)) fun v6 =>
   (if v6 = 0 then
    some ((0 : Int32), M3)
   else
    (Option.bind (isC 6 M3 a0) fun _ =>
    (Option.bind (p_X7_isHere a0 a1 M3) fun v9 =>
    (if v9 = 0 then
     some ((0 : Int32), M3)
    else
     (Option.bind (isC 6 M3 a0) fun _ =>
     (Option.bind (p_X7_begins a0 M3) fun M12 =>
     (Option.bind (isC 6 M12 a0) fun _ =>
     (Option.bind (p_X7_goes a0 a1 M12) fun M14 =>
     (Option.bind (isC 6 M14 a0) fun _ =>
     (Option.bind (p_X7_fills a0 M14) fun M16 =>
     (Option.bind (gR 6 0 M16 a0) fun v17 =>
     (Option.bind (aI 0 M16 v17 (10 : Int32)) fun v18 =>
     (Option.bind (gR 6 2 M16 a0) fun v19 =>
     (Option.bind (aI 0 M16 v19 (10 : Int32)) fun v20 =>
     (Option.bind (isC 6 M16 a0) fun _ =>
     (Option.bind (p_X7_ends a0 M16) fun M22 =>
     some ((v18 - v20), M22)
     )
     )
     )
     )
     )
     )
     )
     )
     )
     )
     )
     )
    )
    )
    )
   )
   )
   )
  else
   some ((0 : Int32), M3)
  )
  )
  )
theorem yk_X7_chainOf : yok yX7_chainOf 1 := by decide +kernel
set_option maxHeartbeats 4000000 in
set_option maxRecDepth 100000 in
theorem w_X7_chainOf {G : gG} (hG : GOK G) {l : Launch} {a0 : Nat} {a1 : Int32} {M : Mem} {r : Int32} {M' : Mem} (hp : p_X7_chainOf a0 a1 M = some (r, M')) : CT G l yX7_chainOf (wT yX7_chainOf cX7_chainOf 3 (some FieldType.int)) rm_X7_chainOf [.ref a0, .int a1] M (some (.int r)) M' 0 0 := by
  refine CT_of (own := RX7) (maxL := 3) (ret := (some FieldType.int)) hG (by decide) rfl (Nat.le_of_ble_eq_true rfl) (fun p e s m below meth c A C0 hr hlk hM ls hl => ?_)
  have hl : lv_has ls 3 [(0, .ref a0), (1, .int a1)] := hl
  generalize ([.ref a0, .int a1] : List Value).toArray = args at C0 ⊢
  skip
  have hx := C0.1
  have hb := C0.2.1
  have hown := C0.2.2.2.1
  have hts := C0.2.2.2.2.1
  unfold p_X7_chainOf at hp
  refine lv_aload_n hx hb dX7_chainOf_0 rfl (lv_at hl 0 rfl) ?_
  refine lv_iload_n hx hb dX7_chainOf_1 rfl (lv_at hl 1 rfl) ?_
  obtain ⟨_, h1, hp⟩ := ob hp
  obtain ⟨v2, M3, hv2, hp⟩ := ob3 hp
  refine mr_V1 (As := [.int a1]) (rest := []) C0 cbX7 hM h1 rfl (w_X7_noChild hG hv2) tw_1511 tw_1513 tws_42 tw_7 tw_1514 yk_X7_noChild (by decide) rfl hl.1 (Nat.le_of_ble_eq_true rfl) dX7_chainOf_2 rfl (fun H locs hM => ?_)
  refine lv_if_ne (tgt := 26) hx hb dX7_chainOf_5 (by decide) (fun c4 => ?_) (fun c4 => ?_)
  · replace hp := oF c4 hp
    refine lv_iconst (v := 0) hx hb dX7_chainOf_26 (by decide) ?_
    exact mr_iret C0 hr hlk hM (Prod.mk.inj (Option.some.inj hp)).2 (Prod.mk.inj (Option.some.inj hp)).1 (Nat.le_refl _) (Nat.le_refl _) dX7_chainOf_27
  · replace hp := oT c4 hp
    refine lv_aload_n hx hb dX7_chainOf_8 rfl (lv_at hl 0 rfl) ?_
    obtain ⟨v5, hv5, hp⟩ := ob hp
    refine mr_getR C0 cbX7 hM 0 (by decide) tw_1224 hv5 dX7_chainOf_9 ?_
    refine lv_bipush (v := 8) hx hb dX7_chainOf_12 (by decide) ?_
    obtain ⟨v6, hv6, hp⟩ := ob hp
    refine mr_iald C0 hM hv6 dX7_chainOf_14 ?_
    refine lv_if_eq (tgt := 26) hx hb dX7_chainOf_15 (by decide) (fun c7 => ?_) (fun c7 => ?_)
    · replace hp := oT c7 hp
      refine lv_iconst (v := 0) hx hb dX7_chainOf_26 (by decide) ?_
      exact mr_iret C0 hr hlk hM (Prod.mk.inj (Option.some.inj hp)).2 (Prod.mk.inj (Option.some.inj hp)).1 (Nat.le_refl _) (Nat.le_refl _) dX7_chainOf_27
    · replace hp := oF c7 hp
      refine lv_aload_n hx hb dX7_chainOf_18 rfl (lv_at hl 0 rfl) ?_
      refine lv_iload_n hx hb dX7_chainOf_19 rfl (lv_at hl 1 rfl) ?_
      obtain ⟨_, h8, hp⟩ := ob hp
      obtain ⟨v9, hv9, hp⟩ := ob hp
      refine mr_V1 (As := [.int a1]) (rest := []) C0 cbX7 hM h8 rfl (w_X7_isHere hG hv9) tw_1495 tw_1497 tws_40 tw_7 tw_1498 yk_X7_isHere (by decide) rfl hl.1 (Nat.le_of_ble_eq_true rfl) dX7_chainOf_20 rfl (fun H locs hM => ?_)
      refine lv_if_ne (tgt := 28) hx hb dX7_chainOf_23 (by decide) (fun c10 => ?_) (fun c10 => ?_)
      · replace hp := oF c10 hp
        refine lv_aload_n hx hb dX7_chainOf_28 rfl (lv_at hl 0 rfl) ?_
        obtain ⟨_, h11, hp⟩ := ob hp
        obtain ⟨M12, hM12, hp⟩ := ob hp
        refine mr_V0 (As := []) (rest := []) C0 cbX7 hM h11 rfl (w_X7_begins hG hM12) tw_1773 tw_1775 tws_68 tw_7 tw_1776 yk_X7_begins (by decide) rfl hl.1 (Nat.le_of_ble_eq_true rfl) dX7_chainOf_29 rfl (fun H locs hM => ?_)
        refine lv_aload_n hx hb dX7_chainOf_32 rfl (lv_at hl 0 rfl) ?_
        refine lv_iload_n hx hb dX7_chainOf_33 rfl (lv_at hl 1 rfl) ?_
        obtain ⟨_, h13, hp⟩ := ob hp
        obtain ⟨M14, hM14, hp⟩ := ob hp
        refine mr_V0 (As := [.int a1]) (rest := []) C0 cbX7 hM h13 rfl (w_X7_goes hG hM14) tw_1659 tw_1661 tws_63 tw_7 tw_1662 yk_X7_goes (by decide) rfl hl.1 (Nat.le_of_ble_eq_true rfl) dX7_chainOf_34 rfl (fun H locs hM => ?_)
        refine lv_aload_n hx hb dX7_chainOf_37 rfl (lv_at hl 0 rfl) ?_
        obtain ⟨_, h15, hp⟩ := ob hp
        obtain ⟨M16, hM16, hp⟩ := ob hp
        refine mr_V0 (As := []) (rest := []) C0 cbX7 hM h15 rfl (w_X7_fills hG hM16) tw_1647 tw_1649 tws_61 tw_7 tw_1650 yk_X7_fills (by decide) rfl hl.1 (Nat.le_of_ble_eq_true rfl) dX7_chainOf_38 rfl (fun H locs hM => ?_)
        refine lv_aload_n hx hb dX7_chainOf_41 rfl (lv_at hl 0 rfl) ?_
        obtain ⟨v17, hv17, hp⟩ := ob hp
        refine mr_getR C0 cbX7 hM 0 (by decide) tw_1224 hv17 dX7_chainOf_42 ?_
        refine lv_bipush (v := 10) hx hb dX7_chainOf_45 (by decide) ?_
        obtain ⟨v18, hv18, hp⟩ := ob hp
        refine mr_iald C0 hM hv18 dX7_chainOf_47 ?_
        refine lv_aload_n hx hb dX7_chainOf_48 rfl (lv_at hl 0 rfl) ?_
        obtain ⟨v19, hv19, hp⟩ := ob hp
        refine mr_getR C0 cbX7 hM 2 (by decide) tw_1226 hv19 dX7_chainOf_49 ?_
        refine lv_bipush (v := 10) hx hb dX7_chainOf_52 (by decide) ?_
        obtain ⟨v20, hv20, hp⟩ := ob hp
        refine mr_iald C0 hM hv20 dX7_chainOf_54 ?_
        refine lv_isub hx hb dX7_chainOf_55 ?_
        refine lv_istore_n (lv' := [(2, .int (v18 - v20)), (0, .ref a0), (1, .int a1)]) hx hb dX7_chainOf_56 rfl hl (by decide) rfl (fun ls hl => ?_)
        refine lv_aload_n hx hb dX7_chainOf_57 rfl (lv_at hl 1 rfl) ?_
        obtain ⟨_, h21, hp⟩ := ob hp
        obtain ⟨M22, hM22, hp⟩ := ob hp
        refine mr_V0 (As := []) (rest := []) C0 cbX7 hM h21 rfl (w_X7_ends hG hM22) tw_1777 tw_1779 tws_69 tw_7 tw_1780 yk_X7_ends (by decide) rfl hl.1 (Nat.le_of_ble_eq_true rfl) dX7_chainOf_58 rfl (fun H locs hM => ?_)
        refine lv_iload_n hx hb dX7_chainOf_61 rfl (lv_at hl 0 rfl) ?_
        exact mr_iret C0 hr hlk hM (Prod.mk.inj (Option.some.inj hp)).2 (Prod.mk.inj (Option.some.inj hp)).1 (Nat.le_refl _) (Nat.le_refl _) dX7_chainOf_62
      · replace hp := oT c10 hp
        refine lv_iconst (v := 0) hx hb dX7_chainOf_26 (by decide) ?_
        exact mr_iret C0 hr hlk hM (Prod.mk.inj (Option.some.inj hp)).2 (Prod.mk.inj (Option.some.inj hp)).1 (Nat.le_refl _) (Nat.le_refl _) dX7_chainOf_27
abbrev rm_X7_changedByAllocation : Room := { frames := 8, cells := 0, slots := 0, locals := 183 }
def pl_X7_changedByAllocation_18 (k1 : Int32 → Option (Int32 × Mem)) (f0 : Nat) (f1 : Int32) (M : Mem) : Nat → Int32 → Int32 → Option (Int32 × Mem)
  | 0, _, _ => none
  | n + 1, y2, y3 =>
    (Option.bind (gR 6 0 M f0) fun v11 =>
    (Option.bind (aI 0 M v11 (1 : Int32)) fun v12 =>
    (if v12 ≤ y3 then
     (k1 y2)
    else
     (if f1 < 0 then
      (k1 y2)
     else
      (Option.bind (gR 6 0 M f0) fun v15 =>
      (Option.bind (aI 0 M v15 ((484 : Int32) + y3)) fun v16 =>
      (Option.bind (gR 6 2 M f0) fun v17 =>
      (Option.bind (aI 0 M v17 ((484 : Int32) + y3)) fun v18 =>
      (jn (fun (s19 : Int32) =>
       (pl_X7_changedByAllocation_18 k1 f0 f1 M n (y2 + s19) (y3 + (1 : Int32)))
      ) fun k20 =>
      (if v16 = v18 then
       (k20 (0 : Int32))
      else
       (k20 (1 : Int32))
      )
      )
      )
      )
      )
      )
     )
    )
    )
    )
set_option maxHeartbeats 4000000 in
set_option maxRecDepth 100000 in
theorem wl_X7_changedByAllocation_18 {G : gG} {p : Program} {l : Launch} {e : Env} {s : State} {m : MethodId} {args : Array Value} {below : List Frame} {meth : Method} {c : Code} {A : Nat → Prop} {r : Int32} {M' : Mem} {k1 : Int32 → Option (Int32 × Mem)} {f0 : Nat} {f1 : Int32} {M : Mem} (C0 : cx G p s m args c cX7_changedByAllocation RX7 4 A) (hr : meth.sig.returnType = (some FieldType.int)) (hlk : meth.locks = false) (hG : GOK G) (hk1 : ∀ (z2 : Int32) (H : Heap) (locs : List Loc) (ls : Array Slot), mm G A s M H locs → lv_has ls 4 [(0, .ref f0), (2, .int z2)] → k1 z2 = some (r, M') → W p l e rm_X7_changedByAllocation s m args below meth c H locs 0 0 (MQ below (CQ G M' (some (.int r)) A) args s 0 0 A) (F0 m 69 ls [])) : ∀ (n : Nat) (y2 : Int32) (y3 : Int32) (H : Heap) (locs : List Loc) (ls : Array Slot), mm G A s M H locs → lv_has ls 4 [(0, .ref f0), (1, .int f1), (2, .int y2), (3, .int y3)] → pl_X7_changedByAllocation_18 k1 f0 f1 M n y2 y3 = some (r, M') → W p l e rm_X7_changedByAllocation s m args below meth c H locs 0 0 (MQ below (CQ G M' (some (.int r)) A) args s 0 0 A) (F0 m 18 ls []) := by
  have hx := C0.1
  have hb := C0.2.1
  have hown := C0.2.2.2.1
  have hts := C0.2.2.2.2.1
  intro n
  induction n with
  | zero => intro y2 y3 H locs ls hM hl hp; rw [pl_X7_changedByAllocation_18] at hp; cases hp
  | succ n ih =>
    intro y2 y3 H locs ls hM hl hp
    rw [pl_X7_changedByAllocation_18] at hp
    refine lv_iload_n hx hb dX7_changedByAllocation_18 rfl (lv_at hl 3 rfl) ?_
    refine lv_aload_n hx hb dX7_changedByAllocation_19 rfl (lv_at hl 0 rfl) ?_
    obtain ⟨v11, hv11, hp⟩ := ob hp
    refine mr_getR C0 cbX7 hM 0 (by decide) tw_1224 hv11 dX7_changedByAllocation_20 ?_
    refine lv_iconst (v := 1) hx hb dX7_changedByAllocation_23 (by decide) ?_
    obtain ⟨v12, hv12, hp⟩ := ob hp
    refine mr_iald C0 hM hv12 dX7_changedByAllocation_24 ?_
    refine lv_icmp_ge (tgt := 69) hx hb dX7_changedByAllocation_25 (by decide) (fun c13 => ?_) (fun c13 => ?_)
    · replace hp := oT c13 hp
      exact hk1 _ _ _ _ hM (lv_sub hl [0, 2] rfl) hp
    · replace hp := oF c13 hp
      refine lv_iload_n hx hb dX7_changedByAllocation_28 rfl (lv_at hl 1 rfl) ?_
      refine lv_if_lt (tgt := 69) hx hb dX7_changedByAllocation_29 (by decide) (fun c14 => ?_) (fun c14 => ?_)
      · replace hp := oT c14 hp
        exact hk1 _ _ _ _ hM (lv_sub hl [0, 2] rfl) hp
      · replace hp := oF c14 hp
        refine lv_iload_n hx hb dX7_changedByAllocation_32 rfl (lv_at hl 2 rfl) ?_
        refine lv_aload_n hx hb dX7_changedByAllocation_33 rfl (lv_at hl 0 rfl) ?_
        obtain ⟨v15, hv15, hp⟩ := ob hp
        refine mr_getR C0 cbX7 hM 0 (by decide) tw_1224 hv15 dX7_changedByAllocation_34 ?_
        refine lv_sipush (v := 484) hx hb dX7_changedByAllocation_37 (by decide) ?_
        refine lv_iload_n hx hb dX7_changedByAllocation_40 rfl (lv_at hl 3 rfl) ?_
        refine lv_iadd hx hb dX7_changedByAllocation_41 ?_
        obtain ⟨v16, hv16, hp⟩ := ob hp
        refine mr_iald C0 hM hv16 dX7_changedByAllocation_42 ?_
        refine lv_aload_n hx hb dX7_changedByAllocation_43 rfl (lv_at hl 0 rfl) ?_
        obtain ⟨v17, hv17, hp⟩ := ob hp
        refine mr_getR C0 cbX7 hM 2 (by decide) tw_1226 hv17 dX7_changedByAllocation_44 ?_
        refine lv_sipush (v := 484) hx hb dX7_changedByAllocation_47 (by decide) ?_
        refine lv_iload_n hx hb dX7_changedByAllocation_50 rfl (lv_at hl 3 rfl) ?_
        refine lv_iadd hx hb dX7_changedByAllocation_51 ?_
        obtain ⟨v18, hv18, hp⟩ := ob hp
        refine mr_iald C0 hM hv18 dX7_changedByAllocation_52 ?_
        obtain ⟨k20, ek20, hp⟩ := ojn hp
        have hk20 : ∀ (s19 : Int32) (H : Heap) (locs : List Loc) (ls : Array Slot), mm G A s M H locs → lv_has ls 4 [(0, .ref f0), (1, .int f1), (3, .int y3)] → k20 s19 = some (r, M') → W p l e rm_X7_changedByAllocation s m args below meth c H locs 0 0 (MQ below (CQ G M' (some (.int r)) A) args s 0 0 A) (F0 m 61 ls [.int s19, .int y2]) := by
          intro s19 H locs ls hM hl hp
          rw [ek20] at hp
          refine lv_iadd hx hb dX7_changedByAllocation_61 ?_
          refine lv_istore_n (lv' := [(2, .int (y2 + s19)), (0, .ref f0), (1, .int f1), (3, .int y3)]) hx hb dX7_changedByAllocation_62 rfl hl (by decide) rfl (fun ls hl => ?_)
          refine lv_iinc (v := (y3 + (1 : Int32))) (lv' := [(3, .int (y3 + (1 : Int32))), (2, .int (y2 + s19)), (0, .ref f0), (1, .int f1)]) hx hb dX7_changedByAllocation_63 hl (k := 3) rfl rfl (by decide) rfl (fun ls hl => ?_)
          refine lv_goto (tgt := 18) hx hb dX7_changedByAllocation_66 (by decide) ?_
          exact ih _ _ _ _ _ hM (lv_sub hl [2, 3, 1, 0] rfl) hp
        refine lv_icmp_eq (tgt := 60) hx hb dX7_changedByAllocation_53 (by decide) (fun c21 => ?_) (fun c21 => ?_)
        · replace hp := oT c21 hp
          refine lv_iconst (v := 0) hx hb dX7_changedByAllocation_60 (by decide) ?_
          exact hk20 _ _ _ _ hM (lv_sub hl [0, 1, 3] rfl) hp
        · replace hp := oF c21 hp
          refine lv_iconst (v := 1) hx hb dX7_changedByAllocation_56 (by decide) ?_
          refine lv_goto (tgt := 61) hx hb dX7_changedByAllocation_57 (by decide) ?_
          exact hk20 _ _ _ _ hM (lv_sub hl [0, 1, 3] rfl) hp
def p_X7_changedByAllocation (a0 : Nat) (M : Mem) : Option (Int32 × Mem) :=
  (Option.bind (sV 6 9 M a0 (.int (0 : Int32))) fun M1 =>
  (Option.bind (isC 6 M1 a0) fun _ =>
  (Option.bind (p_X7_begins a0 M1) fun M3 =>
  (Option.bind (isC 6 M3 a0) fun _ =>
  (ob2 (p_X7_allocates a0 M3) fun v5 M6 =>
  (jn (fun (x7 : Int32) =>
   (Option.bind (isC 6 M6 a0) fun _ =>
   (Option.bind (p_X7_ends a0 M6) fun M10 =>
   some (x7, M10)
   )
   )
  ) fun k8 =>
  (pl_X7_changedByAllocation_18
   (fun (z22 : Int32) =>
    (k8 z22)
   )
   a0 v5 M6 FU (0 : Int32) (0 : Int32))
  )
  )
  )
  )
  )
  )
theorem yk_X7_changedByAllocation : yok yX7_changedByAllocation 0 := by decide +kernel
set_option maxHeartbeats 4000000 in
set_option maxRecDepth 100000 in
theorem w_X7_changedByAllocation {G : gG} (hG : GOK G) {l : Launch} {a0 : Nat} {M : Mem} {r : Int32} {M' : Mem} (hp : p_X7_changedByAllocation a0 M = some (r, M')) : CT G l yX7_changedByAllocation (wT yX7_changedByAllocation cX7_changedByAllocation 4 (some FieldType.int)) rm_X7_changedByAllocation [.ref a0] M (some (.int r)) M' 0 0 := by
  refine CT_of (own := RX7) (maxL := 4) (ret := (some FieldType.int)) hG (by decide) rfl (Nat.le_of_ble_eq_true rfl) (fun p e s m below meth c A C0 hr hlk hM ls hl => ?_)
  have hl : lv_has ls 4 [(0, .ref a0)] := hl
  generalize ([.ref a0] : List Value).toArray = args at C0 ⊢
  skip
  have hx := C0.1
  have hb := C0.2.1
  have hown := C0.2.2.2.1
  have hts := C0.2.2.2.2.1
  unfold p_X7_changedByAllocation at hp
  refine lv_aload_n hx hb dX7_changedByAllocation_0 rfl (lv_at hl 0 rfl) ?_
  refine lv_iconst (v := 0) hx hb dX7_changedByAllocation_1 (by decide) ?_
  obtain ⟨M1, hM1, hp⟩ := ob hp
  refine mr_putI C0 cbX7 hM 9 (by decide) rfl rfl tw_1233 hM1 dX7_changedByAllocation_2 (fun H locs hM => ?_)
  refine lv_aload_n hx hb dX7_changedByAllocation_5 rfl (lv_at hl 0 rfl) ?_
  obtain ⟨_, h2, hp⟩ := ob hp
  obtain ⟨M3, hM3, hp⟩ := ob hp
  refine mr_V0 (As := []) (rest := []) C0 cbX7 hM h2 rfl (w_X7_begins hG hM3) tw_1773 tw_1775 tws_68 tw_7 tw_1776 yk_X7_begins (by decide) rfl hl.1 (Nat.le_of_ble_eq_true rfl) dX7_changedByAllocation_6 rfl (fun H locs hM => ?_)
  refine lv_aload_n hx hb dX7_changedByAllocation_9 rfl (lv_at hl 0 rfl) ?_
  obtain ⟨_, h4, hp⟩ := ob hp
  obtain ⟨v5, M6, hv5, hp⟩ := ob3 hp
  refine mr_V1 (As := []) (rest := []) C0 cbX7 hM h4 rfl (w_X7_allocates hG hv5) tw_1615 tw_1617 tws_55 tw_7 tw_1618 yk_X7_allocates (by decide) rfl hl.1 (Nat.le_of_ble_eq_true rfl) dX7_changedByAllocation_10 rfl (fun H locs hM => ?_)
  refine lv_istore_n (lv' := [(1, .int v5), (0, .ref a0)]) hx hb dX7_changedByAllocation_13 rfl hl (by decide) rfl (fun ls hl => ?_)
  refine lv_iconst (v := 0) hx hb dX7_changedByAllocation_14 (by decide) ?_
  refine lv_istore_n (lv' := [(2, .int (0 : Int32)), (1, .int v5), (0, .ref a0)]) hx hb dX7_changedByAllocation_15 rfl hl (by decide) rfl (fun ls hl => ?_)
  refine lv_iconst (v := 0) hx hb dX7_changedByAllocation_16 (by decide) ?_
  refine lv_istore_n (lv' := [(3, .int (0 : Int32)), (2, .int (0 : Int32)), (1, .int v5), (0, .ref a0)]) hx hb dX7_changedByAllocation_17 rfl hl (by decide) rfl (fun ls hl => ?_)
  obtain ⟨k8, ek8, hp⟩ := ojn hp
  have hk8 : ∀ (x7 : Int32) (H : Heap) (locs : List Loc) (ls : Array Slot), mm G A s M6 H locs → lv_has ls 4 [(0, .ref a0), (2, .int x7)] → k8 x7 = some (r, M') → W p l e rm_X7_changedByAllocation s m args below meth c H locs 0 0 (MQ below (CQ G M' (some (.int r)) A) args s 0 0 A) (F0 m 69 ls []) := by
    intro x7 H locs ls hM hl hp
    rw [ek8] at hp
    refine lv_aload_n hx hb dX7_changedByAllocation_69 rfl (lv_at hl 0 rfl) ?_
    obtain ⟨_, h9, hp⟩ := ob hp
    obtain ⟨M10, hM10, hp⟩ := ob hp
    refine mr_V0 (As := []) (rest := []) C0 cbX7 hM h9 rfl (w_X7_ends hG hM10) tw_1777 tw_1779 tws_69 tw_7 tw_1780 yk_X7_ends (by decide) rfl hl.1 (Nat.le_of_ble_eq_true rfl) dX7_changedByAllocation_70 rfl (fun H locs hM => ?_)
    refine lv_iload_n hx hb dX7_changedByAllocation_73 rfl (lv_at hl 1 rfl) ?_
    exact mr_iret C0 hr hlk hM (Prod.mk.inj (Option.some.inj hp)).2 (Prod.mk.inj (Option.some.inj hp)).1 (Nat.le_refl _) (Nat.le_refl _) dX7_changedByAllocation_74
  refine wl_X7_changedByAllocation_18 C0 hr hlk hG (fun z22 H locs ls hM hl hp => ?_) FU _ _ _ _ _ hM (lv_sub hl [3, 2, 1, 0] rfl) hp
  exact hk8 _ _ _ _ hM (lv_sub hl [0, 1] rfl) hp
abbrev rm_X7_triesOf : Room := { frames := 8, cells := 0, slots := 0, locals := 183 }
def pl_X7_triesOf_24 (k1 : Int32 → Option (Int32 × Mem)) (f0 : Nat) (f1 : Int32) (f2 : Int32) (M : Mem) : Nat → Int32 → Int32 → Option (Int32 × Mem)
  | 0, _, _ => none
  | n + 1, y3, y4 =>
    (Option.bind (gR 6 0 M f0) fun v14 =>
    (Option.bind (aI 0 M v14 (1 : Int32)) fun v15 =>
    (if v15 ≤ y4 then
     (k1 y3)
    else
     (if f2 < 0 then
      (k1 y3)
     else
      (Option.bind (isC 6 M f0) fun _ =>
      (Option.bind (p_X7_wishOf f0 y4 f1 M) fun v19 =>
      (Option.bind (gR 6 10 M f0) fun v20 =>
      (Option.bind (aI 0 M v20 y4) fun v21 =>
      (Option.bind (p_X7_inRange v19 (0 : Int32) (v21 - (1 : Int32)) M) fun v22 =>
      (jn (fun (s23 : Int32) =>
       (pl_X7_triesOf_24 k1 f0 f1 f2 M n (y3 + s23) (y4 + (1 : Int32)))
      ) fun k24 =>
      (if v22 = 0 then
       (k24 (0 : Int32))
      else
       (k24 (1 : Int32))
      )
      )
      )
      )
      )
      )
      )
     )
    )
    )
    )
set_option maxHeartbeats 4000000 in
set_option maxRecDepth 100000 in
theorem wl_X7_triesOf_24 {G : gG} {p : Program} {l : Launch} {e : Env} {s : State} {m : MethodId} {args : Array Value} {below : List Frame} {meth : Method} {c : Code} {A : Nat → Prop} {r : Int32} {M' : Mem} {k1 : Int32 → Option (Int32 × Mem)} {f0 : Nat} {f1 : Int32} {f2 : Int32} {M : Mem} (C0 : cx G p s m args c cX7_triesOf RX7 5 A) (hr : meth.sig.returnType = (some FieldType.int)) (hlk : meth.locks = false) (hG : GOK G) (hk1 : ∀ (z3 : Int32) (H : Heap) (locs : List Loc) (ls : Array Slot), mm G A s M H locs → lv_has ls 5 [(0, .ref f0), (3, .int z3)] → k1 z3 = some (r, M') → W p l e rm_X7_triesOf s m args below meth c H locs 0 0 (MQ below (CQ G M' (some (.int r)) A) args s 0 0 A) (F0 m 76 ls [])) : ∀ (n : Nat) (y3 : Int32) (y4 : Int32) (H : Heap) (locs : List Loc) (ls : Array Slot), mm G A s M H locs → lv_has ls 5 [(0, .ref f0), (1, .int f1), (2, .int f2), (3, .int y3), (4, .int y4)] → pl_X7_triesOf_24 k1 f0 f1 f2 M n y3 y4 = some (r, M') → W p l e rm_X7_triesOf s m args below meth c H locs 0 0 (MQ below (CQ G M' (some (.int r)) A) args s 0 0 A) (F0 m 24 ls []) := by
  have hx := C0.1
  have hb := C0.2.1
  have hown := C0.2.2.2.1
  have hts := C0.2.2.2.2.1
  intro n
  induction n with
  | zero => intro y3 y4 H locs ls hM hl hp; rw [pl_X7_triesOf_24] at hp; cases hp
  | succ n ih =>
    intro y3 y4 H locs ls hM hl hp
    rw [pl_X7_triesOf_24] at hp
    refine lv_iload hx hb dX7_triesOf_24 (lv_at hl 4 rfl) ?_
    refine lv_aload_n hx hb dX7_triesOf_26 rfl (lv_at hl 0 rfl) ?_
    obtain ⟨v14, hv14, hp⟩ := ob hp
    refine mr_getR C0 cbX7 hM 0 (by decide) tw_1224 hv14 dX7_triesOf_27 ?_
    refine lv_iconst (v := 1) hx hb dX7_triesOf_30 (by decide) ?_
    obtain ⟨v15, hv15, hp⟩ := ob hp
    refine mr_iald C0 hM hv15 dX7_triesOf_31 ?_
    refine lv_icmp_ge (tgt := 76) hx hb dX7_triesOf_32 (by decide) (fun c16 => ?_) (fun c16 => ?_)
    · replace hp := oT c16 hp
      exact hk1 _ _ _ _ hM (lv_sub hl [0, 3] rfl) hp
    · replace hp := oF c16 hp
      refine lv_iload_n hx hb dX7_triesOf_35 rfl (lv_at hl 2 rfl) ?_
      refine lv_if_lt (tgt := 76) hx hb dX7_triesOf_36 (by decide) (fun c17 => ?_) (fun c17 => ?_)
      · replace hp := oT c17 hp
        exact hk1 _ _ _ _ hM (lv_sub hl [0, 3] rfl) hp
      · replace hp := oF c17 hp
        refine lv_iload_n hx hb dX7_triesOf_39 rfl (lv_at hl 3 rfl) ?_
        refine lv_aload_n hx hb dX7_triesOf_40 rfl (lv_at hl 0 rfl) ?_
        refine lv_iload hx hb dX7_triesOf_41 (lv_at hl 4 rfl) ?_
        refine lv_iload_n hx hb dX7_triesOf_43 rfl (lv_at hl 1 rfl) ?_
        obtain ⟨_, h18, hp⟩ := ob hp
        obtain ⟨v19, hv19, hp⟩ := ob hp
        refine mr_V1 (As := [.int y4, .int f1]) (rest := [.int y3]) C0 cbX7 hM h18 rfl (w_X7_wishOf hG hv19) tw_1428 tw_1430 tws_28 tw_7 tw_1431 yk_X7_wishOf (by decide) rfl hl.1 (Nat.le_of_ble_eq_true rfl) dX7_triesOf_44 rfl (fun H locs hM => ?_)
        refine lv_iconst (v := 0) hx hb dX7_triesOf_47 (by decide) ?_
        refine lv_aload_n hx hb dX7_triesOf_48 rfl (lv_at hl 0 rfl) ?_
        obtain ⟨v20, hv20, hp⟩ := ob hp
        refine mr_getR C0 cbX7 hM 10 (by decide) tw_1234 hv20 dX7_triesOf_49 ?_
        refine lv_iload hx hb dX7_triesOf_52 (lv_at hl 4 rfl) ?_
        obtain ⟨v21, hv21, hp⟩ := ob hp
        refine mr_iald C0 hM hv21 dX7_triesOf_54 ?_
        refine lv_iconst (v := 1) hx hb dX7_triesOf_55 (by decide) ?_
        refine lv_isub hx hb dX7_triesOf_56 ?_
        obtain ⟨v22, hv22, hp⟩ := ob hp
        refine mr_S1 (As := [.int v19, .int (0 : Int32), .int (v21 - (1 : Int32))]) (rest := [.int y3]) C0 hM (w_X7_inRange hG hv22) tw_1325 tw_1326 tw_7 tw_1327 yk_X7_inRange (by decide) rfl hl.1 (Nat.le_of_ble_eq_true rfl) dX7_triesOf_57 rfl (fun H locs hM => ?_)
        obtain ⟨k24, ek24, hp⟩ := ojn hp
        have hk24 : ∀ (s23 : Int32) (H : Heap) (locs : List Loc) (ls : Array Slot), mm G A s M H locs → lv_has ls 5 [(0, .ref f0), (1, .int f1), (2, .int f2), (4, .int y4)] → k24 s23 = some (r, M') → W p l e rm_X7_triesOf s m args below meth c H locs 0 0 (MQ below (CQ G M' (some (.int r)) A) args s 0 0 A) (F0 m 68 ls [.int s23, .int y3]) := by
          intro s23 H locs ls hM hl hp
          rw [ek24] at hp
          refine lv_iadd hx hb dX7_triesOf_68 ?_
          refine lv_istore_n (lv' := [(3, .int (y3 + s23)), (0, .ref f0), (1, .int f1), (2, .int f2), (4, .int y4)]) hx hb dX7_triesOf_69 rfl hl (by decide) rfl (fun ls hl => ?_)
          refine lv_iinc (v := (y4 + (1 : Int32))) (lv' := [(4, .int (y4 + (1 : Int32))), (3, .int (y3 + s23)), (0, .ref f0), (1, .int f1), (2, .int f2)]) hx hb dX7_triesOf_70 hl (k := 4) rfl rfl (by decide) rfl (fun ls hl => ?_)
          refine lv_goto (tgt := 24) hx hb dX7_triesOf_73 (by decide) ?_
          exact ih _ _ _ _ _ hM (lv_sub hl [2, 3, 4, 1, 0] rfl) hp
        refine lv_if_eq (tgt := 67) hx hb dX7_triesOf_60 (by decide) (fun c25 => ?_) (fun c25 => ?_)
        · replace hp := oT c25 hp
          refine lv_iconst (v := 0) hx hb dX7_triesOf_67 (by decide) ?_
          exact hk24 _ _ _ _ hM (lv_sub hl [0, 1, 2, 4] rfl) hp
        · replace hp := oF c25 hp
          refine lv_iconst (v := 1) hx hb dX7_triesOf_63 (by decide) ?_
          refine lv_goto (tgt := 68) hx hb dX7_triesOf_64 (by decide) ?_
          exact hk24 _ _ _ _ hM (lv_sub hl [0, 1, 2, 4] rfl) hp
def p_X7_triesOf (a0 : Nat) (a1 : Int32) (M : Mem) : Option (Int32 × Mem) :=
  (Option.bind (isC 6 M a0) fun _ =>
  (ob2 (p_X7_noSchool a0 a1 M) fun v2 M3 =>
  (if v2 = 0 then
   (Option.bind (isC 6 M3 a0) fun _ =>
   (Option.bind (p_X7_begins a0 M3) fun M6 =>
   (Option.bind (isC 6 M6 a0) fun _ =>
   (ob2 (p_X7_allocates a0 M6) fun v8 M9 =>
   (jn (fun (x10 : Int32) =>
    (Option.bind (isC 6 M9 a0) fun _ =>
    (Option.bind (p_X7_ends a0 M9) fun M13 =>
    some (x10, M13)
    )
    )
   ) fun k11 =>
   (pl_X7_triesOf_24
    (fun (z26 : Int32) =>
     (k11 z26)
    )
    a0 a1 v8 M9 FU (0 : Int32) (0 : Int32))
   )
   )
   )
   )
   )
  else
   some ((0 : Int32), M3)
  )
  )
  )
theorem yk_X7_triesOf : yok yX7_triesOf 1 := by decide +kernel
set_option maxHeartbeats 4000000 in
set_option maxRecDepth 100000 in
theorem w_X7_triesOf {G : gG} (hG : GOK G) {l : Launch} {a0 : Nat} {a1 : Int32} {M : Mem} {r : Int32} {M' : Mem} (hp : p_X7_triesOf a0 a1 M = some (r, M')) : CT G l yX7_triesOf (wT yX7_triesOf cX7_triesOf 5 (some FieldType.int)) rm_X7_triesOf [.ref a0, .int a1] M (some (.int r)) M' 0 0 := by
  refine CT_of (own := RX7) (maxL := 5) (ret := (some FieldType.int)) hG (by decide) rfl (Nat.le_of_ble_eq_true rfl) (fun p e s m below meth c A C0 hr hlk hM ls hl => ?_)
  have hl : lv_has ls 5 [(0, .ref a0), (1, .int a1)] := hl
  generalize ([.ref a0, .int a1] : List Value).toArray = args at C0 ⊢
  skip
  have hx := C0.1
  have hb := C0.2.1
  have hown := C0.2.2.2.1
  have hts := C0.2.2.2.2.1
  unfold p_X7_triesOf at hp
  refine lv_aload_n hx hb dX7_triesOf_0 rfl (lv_at hl 0 rfl) ?_
  refine lv_iload_n hx hb dX7_triesOf_1 rfl (lv_at hl 1 rfl) ?_
  obtain ⟨_, h1, hp⟩ := ob hp
  obtain ⟨v2, M3, hv2, hp⟩ := ob3 hp
  refine mr_V1 (As := [.int a1]) (rest := []) C0 cbX7 hM h1 rfl (w_X7_noSchool hG hv2) tw_1471 tw_1473 tws_34 tw_7 tw_1474 yk_X7_noSchool (by decide) rfl hl.1 (Nat.le_of_ble_eq_true rfl) dX7_triesOf_2 rfl (fun H locs hM => ?_)
  refine lv_if_eq (tgt := 10) hx hb dX7_triesOf_5 (by decide) (fun c4 => ?_) (fun c4 => ?_)
  · replace hp := oT c4 hp
    refine lv_aload_n hx hb dX7_triesOf_10 rfl (lv_at hl 0 rfl) ?_
    obtain ⟨_, h5, hp⟩ := ob hp
    obtain ⟨M6, hM6, hp⟩ := ob hp
    refine mr_V0 (As := []) (rest := []) C0 cbX7 hM h5 rfl (w_X7_begins hG hM6) tw_1773 tw_1775 tws_68 tw_7 tw_1776 yk_X7_begins (by decide) rfl hl.1 (Nat.le_of_ble_eq_true rfl) dX7_triesOf_11 rfl (fun H locs hM => ?_)
    refine lv_aload_n hx hb dX7_triesOf_14 rfl (lv_at hl 0 rfl) ?_
    obtain ⟨_, h7, hp⟩ := ob hp
    obtain ⟨v8, M9, hv8, hp⟩ := ob3 hp
    refine mr_V1 (As := []) (rest := []) C0 cbX7 hM h7 rfl (w_X7_allocates hG hv8) tw_1615 tw_1617 tws_55 tw_7 tw_1618 yk_X7_allocates (by decide) rfl hl.1 (Nat.le_of_ble_eq_true rfl) dX7_triesOf_15 rfl (fun H locs hM => ?_)
    refine lv_istore_n (lv' := [(2, .int v8), (0, .ref a0), (1, .int a1)]) hx hb dX7_triesOf_18 rfl hl (by decide) rfl (fun ls hl => ?_)
    refine lv_iconst (v := 0) hx hb dX7_triesOf_19 (by decide) ?_
    refine lv_istore_n (lv' := [(3, .int (0 : Int32)), (2, .int v8), (0, .ref a0), (1, .int a1)]) hx hb dX7_triesOf_20 rfl hl (by decide) rfl (fun ls hl => ?_)
    refine lv_iconst (v := 0) hx hb dX7_triesOf_21 (by decide) ?_
    refine lv_istore (lv' := [(4, .int (0 : Int32)), (3, .int (0 : Int32)), (2, .int v8), (0, .ref a0), (1, .int a1)]) hx hb dX7_triesOf_22 hl (by decide) rfl (fun ls hl => ?_)
    obtain ⟨k11, ek11, hp⟩ := ojn hp
    have hk11 : ∀ (x10 : Int32) (H : Heap) (locs : List Loc) (ls : Array Slot), mm G A s M9 H locs → lv_has ls 5 [(0, .ref a0), (3, .int x10)] → k11 x10 = some (r, M') → W p l e rm_X7_triesOf s m args below meth c H locs 0 0 (MQ below (CQ G M' (some (.int r)) A) args s 0 0 A) (F0 m 76 ls []) := by
      intro x10 H locs ls hM hl hp
      rw [ek11] at hp
      refine lv_aload_n hx hb dX7_triesOf_76 rfl (lv_at hl 0 rfl) ?_
      obtain ⟨_, h12, hp⟩ := ob hp
      obtain ⟨M13, hM13, hp⟩ := ob hp
      refine mr_V0 (As := []) (rest := []) C0 cbX7 hM h12 rfl (w_X7_ends hG hM13) tw_1777 tw_1779 tws_69 tw_7 tw_1780 yk_X7_ends (by decide) rfl hl.1 (Nat.le_of_ble_eq_true rfl) dX7_triesOf_77 rfl (fun H locs hM => ?_)
      refine lv_iload_n hx hb dX7_triesOf_80 rfl (lv_at hl 1 rfl) ?_
      exact mr_iret C0 hr hlk hM (Prod.mk.inj (Option.some.inj hp)).2 (Prod.mk.inj (Option.some.inj hp)).1 (Nat.le_refl _) (Nat.le_refl _) dX7_triesOf_81
    refine wl_X7_triesOf_24 C0 hr hlk hG (fun z26 H locs ls hM hl hp => ?_) FU _ _ _ _ _ hM (lv_sub hl [3, 4, 2, 1, 0] rfl) hp
    exact hk11 _ _ _ _ hM (lv_sub hl [0, 1] rfl) hp
  · replace hp := oF c4 hp
    refine lv_iconst (v := 0) hx hb dX7_triesOf_8 (by decide) ?_
    exact mr_iret C0 hr hlk hM (Prod.mk.inj (Option.some.inj hp)).2 (Prod.mk.inj (Option.some.inj hp)).1 (Nat.le_refl _) (Nat.le_refl _) dX7_triesOf_9
abbrev rm_X7_placeIn : Room := { frames := 8, cells := 0, slots := 0, locals := 183 }
def p_X7_placeIn (a0 : Nat) (a1 : Int32) (a2 : Int32) (a3 : Int32) (M : Mem) : Option (Int32 × Mem) :=
  (Option.bind (isC 6 M a0) fun _ =>
  (Option.bind (p_X7_begins a0 M) fun M2 =>
  (Option.bind (gR 6 0 M2 a0) fun v3 =>
  (Option.bind (aIs M2 v3 ((20 : Int32) + a2) a3) fun M4 =>
  (Option.bind (isC 6 M4 a0) fun _ =>
  (ob2 (p_X7_allocates a0 M4) fun v6 M7 =>
  (jn (fun (s8 : Int32) =>
   (Option.bind (isC 6 M7 a0) fun _ =>
   (Option.bind (p_X7_ends a0 M7) fun M11 =>
   some (s8, M11)
   )
   )
  ) fun k9 =>
  (if v6 < 0 then
   (k9 (-1 : Int32))
  else
   (Option.bind (gR 6 0 M7 a0) fun v13 =>
   (Option.bind (aI 0 M7 v13 ((484 : Int32) + a1)) fun v14 =>
   (k9 v14)
   )
   )
  )
  )
  )
  )
  )
  )
  )
  )
theorem yk_X7_placeIn : yok yX7_placeIn 3 := by decide +kernel
set_option maxHeartbeats 4000000 in
set_option maxRecDepth 100000 in
theorem w_X7_placeIn {G : gG} (hG : GOK G) {l : Launch} {a0 : Nat} {a1 : Int32} {a2 : Int32} {a3 : Int32} {M : Mem} {r : Int32} {M' : Mem} (hp : p_X7_placeIn a0 a1 a2 a3 M = some (r, M')) : CT G l yX7_placeIn (wT yX7_placeIn cX7_placeIn 6 (some FieldType.int)) rm_X7_placeIn [.ref a0, .int a1, .int a2, .int a3] M (some (.int r)) M' 0 0 := by
  refine CT_of (own := RX7) (maxL := 6) (ret := (some FieldType.int)) hG (by decide) rfl (Nat.le_of_ble_eq_true rfl) (fun p e s m below meth c A C0 hr hlk hM ls hl => ?_)
  have hl : lv_has ls 6 [(0, .ref a0), (1, .int a1), (2, .int a2), (3, .int a3)] := hl
  generalize ([.ref a0, .int a1, .int a2, .int a3] : List Value).toArray = args at C0 ⊢
  skip
  have hx := C0.1
  have hb := C0.2.1
  have hown := C0.2.2.2.1
  have hts := C0.2.2.2.2.1
  unfold p_X7_placeIn at hp
  refine lv_aload_n hx hb dX7_placeIn_0 rfl (lv_at hl 0 rfl) ?_
  obtain ⟨_, h1, hp⟩ := ob hp
  obtain ⟨M2, hM2, hp⟩ := ob hp
  refine mr_V0 (As := []) (rest := []) C0 cbX7 hM h1 rfl (w_X7_begins hG hM2) tw_1773 tw_1775 tws_68 tw_7 tw_1776 yk_X7_begins (by decide) rfl hl.1 (Nat.le_of_ble_eq_true rfl) dX7_placeIn_1 rfl (fun H locs hM => ?_)
  refine lv_aload_n hx hb dX7_placeIn_4 rfl (lv_at hl 0 rfl) ?_
  obtain ⟨v3, hv3, hp⟩ := ob hp
  refine mr_getR C0 cbX7 hM 0 (by decide) tw_1224 hv3 dX7_placeIn_5 ?_
  refine lv_bipush (v := 20) hx hb dX7_placeIn_8 (by decide) ?_
  refine lv_iload_n hx hb dX7_placeIn_10 rfl (lv_at hl 2 rfl) ?_
  refine lv_iadd hx hb dX7_placeIn_11 ?_
  refine lv_iload_n hx hb dX7_placeIn_12 rfl (lv_at hl 3 rfl) ?_
  obtain ⟨M4, hM4, hp⟩ := ob hp
  refine mr_iast C0 hM hM4 dX7_placeIn_13 (fun H locs hM => ?_)
  refine lv_aload_n hx hb dX7_placeIn_14 rfl (lv_at hl 0 rfl) ?_
  obtain ⟨_, h5, hp⟩ := ob hp
  obtain ⟨v6, M7, hv6, hp⟩ := ob3 hp
  refine mr_V1 (As := []) (rest := []) C0 cbX7 hM h5 rfl (w_X7_allocates hG hv6) tw_1615 tw_1617 tws_55 tw_7 tw_1618 yk_X7_allocates (by decide) rfl hl.1 (Nat.le_of_ble_eq_true rfl) dX7_placeIn_15 rfl (fun H locs hM => ?_)
  refine lv_istore (lv' := [(4, .int v6), (0, .ref a0), (1, .int a1), (2, .int a2), (3, .int a3)]) hx hb dX7_placeIn_18 hl (by decide) rfl (fun ls hl => ?_)
  refine lv_iload hx hb dX7_placeIn_20 (lv_at hl 0 rfl) ?_
  obtain ⟨k9, ek9, hp⟩ := ojn hp
  have hk9 : ∀ (s8 : Int32) (H : Heap) (locs : List Loc) (ls : Array Slot), mm G A s M7 H locs → lv_has ls 6 [(0, .ref a0)] → k9 s8 = some (r, M') → W p l e rm_X7_placeIn s m args below meth c H locs 0 0 (MQ below (CQ G M' (some (.int r)) A) args s 0 0 A) (F0 m 39 ls [.int s8]) := by
    intro s8 H locs ls hM hl hp
    rw [ek9] at hp
    refine lv_istore (lv' := [(5, .int s8), (0, .ref a0)]) hx hb dX7_placeIn_39 hl (by decide) rfl (fun ls hl => ?_)
    refine lv_aload_n hx hb dX7_placeIn_41 rfl (lv_at hl 1 rfl) ?_
    obtain ⟨_, h10, hp⟩ := ob hp
    obtain ⟨M11, hM11, hp⟩ := ob hp
    refine mr_V0 (As := []) (rest := []) C0 cbX7 hM h10 rfl (w_X7_ends hG hM11) tw_1777 tw_1779 tws_69 tw_7 tw_1780 yk_X7_ends (by decide) rfl hl.1 (Nat.le_of_ble_eq_true rfl) dX7_placeIn_42 rfl (fun H locs hM => ?_)
    refine lv_iload hx hb dX7_placeIn_45 (lv_at hl 0 rfl) ?_
    exact mr_iret C0 hr hlk hM (Prod.mk.inj (Option.some.inj hp)).2 (Prod.mk.inj (Option.some.inj hp)).1 (Nat.le_refl _) (Nat.le_refl _) dX7_placeIn_47
  refine lv_if_lt (tgt := 38) hx hb dX7_placeIn_22 (by decide) (fun c12 => ?_) (fun c12 => ?_)
  · replace hp := oT c12 hp
    refine lv_iconst (v := -1) hx hb dX7_placeIn_38 (by decide) ?_
    exact hk9 _ _ _ _ hM (lv_sub hl [1] rfl) hp
  · replace hp := oF c12 hp
    refine lv_aload_n hx hb dX7_placeIn_25 rfl (lv_at hl 1 rfl) ?_
    obtain ⟨v13, hv13, hp⟩ := ob hp
    refine mr_getR C0 cbX7 hM 0 (by decide) tw_1224 hv13 dX7_placeIn_26 ?_
    refine lv_sipush (v := 484) hx hb dX7_placeIn_29 (by decide) ?_
    refine lv_iload_n hx hb dX7_placeIn_32 rfl (lv_at hl 2 rfl) ?_
    refine lv_iadd hx hb dX7_placeIn_33 ?_
    obtain ⟨v14, hv14, hp⟩ := ob hp
    refine mr_iald C0 hM hv14 dX7_placeIn_34 ?_
    refine lv_goto (tgt := 39) hx hb dX7_placeIn_35 (by decide) ?_
    exact hk9 _ _ _ _ hM (lv_sub hl [1] rfl) hp
abbrev rm_X7_placeWith : Room := { frames := 9, cells := 0, slots := 0, locals := 208 }
def p_X7_placeWith (a0 : Nat) (a1 : Int32) (a2 : Int32) (a3 : Int32) (M : Mem) : Option (Int32 × Mem) :=
  (Option.bind (isC 6 M a0) fun _ =>
  (ob2 (p_X7_noneOf a0 a1 a2 M) fun v2 M3 =>
  (if v2 = 0 then
   (Option.bind (p_X7_inRange a3 (0 : Int32) (40 : Int32) M3) fun v5 =>
   (jn (fun (s6 : Int32) =>
    (Option.bind (isC 6 M3 a0) fun _ =>
    (ob2 (p_X7_fails a0 s6 (2 : Int32) M3) fun v9 M10 =>
    (if v9 = 0 then
     (Option.bind (isC 6 M10 a0) fun _ =>
     (ob2 (p_X7_placeIn a0 a1 a2 a3 M10) fun v13 M14 =>
     some (v13, M14)
     )
     )
    else
     some ((0 : Int32), M10)
    )
    )
    )
   ) fun k7 =>
   (if v5 = 0 then
    (k7 (1 : Int32))
   else
    (k7 (0 : Int32))
   )
   )
   )
  else
   some ((0 : Int32), M3)
  )
  )
  )
theorem yk_X7_placeWith : yok yX7_placeWith 3 := by decide +kernel
set_option maxHeartbeats 4000000 in
set_option maxRecDepth 100000 in
theorem w_X7_placeWith {G : gG} (hG : GOK G) {l : Launch} {a0 : Nat} {a1 : Int32} {a2 : Int32} {a3 : Int32} {M : Mem} {r : Int32} {M' : Mem} (hp : p_X7_placeWith a0 a1 a2 a3 M = some (r, M')) : CT G l yX7_placeWith (wT yX7_placeWith cX7_placeWith 4 (some FieldType.int)) rm_X7_placeWith [.ref a0, .int a1, .int a2, .int a3] M (some (.int r)) M' 0 0 := by
  refine CT_of (own := RX7) (maxL := 4) (ret := (some FieldType.int)) hG (by decide) rfl (Nat.le_of_ble_eq_true rfl) (fun p e s m below meth c A C0 hr hlk hM ls hl => ?_)
  have hl : lv_has ls 4 [(0, .ref a0), (1, .int a1), (2, .int a2), (3, .int a3)] := hl
  generalize ([.ref a0, .int a1, .int a2, .int a3] : List Value).toArray = args at C0 ⊢
  skip
  have hx := C0.1
  have hb := C0.2.1
  have hown := C0.2.2.2.1
  have hts := C0.2.2.2.2.1
  unfold p_X7_placeWith at hp
  refine lv_aload_n hx hb dX7_placeWith_0 rfl (lv_at hl 0 rfl) ?_
  refine lv_iload_n hx hb dX7_placeWith_1 rfl (lv_at hl 1 rfl) ?_
  refine lv_iload_n hx hb dX7_placeWith_2 rfl (lv_at hl 2 rfl) ?_
  obtain ⟨_, h1, hp⟩ := ob hp
  obtain ⟨v2, M3, hv2, hp⟩ := ob3 hp
  refine mr_V1 (As := [.int a1, .int a2]) (rest := []) C0 cbX7 hM h1 rfl (w_X7_noneOf hG hv2) tw_1531 tw_1533 tws_43 tw_7 tw_1534 yk_X7_noneOf (by decide) rfl hl.1 (Nat.le_of_ble_eq_true rfl) dX7_placeWith_3 rfl (fun H locs hM => ?_)
  refine lv_if_ne (tgt := 32) hx hb dX7_placeWith_6 (by decide) (fun c4 => ?_) (fun c4 => ?_)
  · replace hp := oF c4 hp
    refine lv_iconst (v := 0) hx hb dX7_placeWith_32 (by decide) ?_
    exact mr_iret C0 hr hlk hM (Prod.mk.inj (Option.some.inj hp)).2 (Prod.mk.inj (Option.some.inj hp)).1 (Nat.le_refl _) (Nat.le_refl _) dX7_placeWith_33
  · replace hp := oT c4 hp
    refine lv_aload_n hx hb dX7_placeWith_9 rfl (lv_at hl 0 rfl) ?_
    refine lv_iload_n hx hb dX7_placeWith_10 rfl (lv_at hl 3 rfl) ?_
    refine lv_iconst (v := 0) hx hb dX7_placeWith_11 (by decide) ?_
    refine lv_bipush (v := 40) hx hb dX7_placeWith_12 (by decide) ?_
    obtain ⟨v5, hv5, hp⟩ := ob hp
    refine mr_S1 (As := [.int a3, .int (0 : Int32), .int (40 : Int32)]) (rest := [.ref a0]) C0 hM (w_X7_inRange hG hv5) tw_1325 tw_1326 tw_7 tw_1327 yk_X7_inRange (by decide) rfl hl.1 (Nat.le_of_ble_eq_true rfl) dX7_placeWith_14 rfl (fun H locs hM => ?_)
    obtain ⟨k7, ek7, hp⟩ := ojn hp
    have hk7 : ∀ (s6 : Int32) (H : Heap) (locs : List Loc) (ls : Array Slot), mm G A s M3 H locs → lv_has ls 4 [(0, .ref a0), (1, .int a1), (2, .int a2), (3, .int a3)] → k7 s6 = some (r, M') → W p l e rm_X7_placeWith s m args below meth c H locs 0 0 (MQ below (CQ G M' (some (.int r)) A) args s 0 0 A) (F0 m 25 ls [.int s6, .ref a0]) := by
      intro s6 H locs ls hM hl hp
      rw [ek7] at hp
      refine lv_iconst (v := 2) hx hb dX7_placeWith_25 (by decide) ?_
      obtain ⟨_, h8, hp⟩ := ob hp
      obtain ⟨v9, M10, hv9, hp⟩ := ob3 hp
      refine mr_V1 (As := [.int s6, .int (2 : Int32)]) (rest := []) C0 cbX7 hM h8 rfl (w_X7_fails hG hv9) tw_1459 tw_1461 tws_32 tw_7 tw_1462 yk_X7_fails (by decide) rfl hl.1 (Nat.le_of_ble_eq_true rfl) dX7_placeWith_26 rfl (fun H locs hM => ?_)
      refine lv_if_eq (tgt := 34) hx hb dX7_placeWith_29 (by decide) (fun c11 => ?_) (fun c11 => ?_)
      · replace hp := oT c11 hp
        refine lv_aload_n hx hb dX7_placeWith_34 rfl (lv_at hl 0 rfl) ?_
        refine lv_iload_n hx hb dX7_placeWith_35 rfl (lv_at hl 1 rfl) ?_
        refine lv_iload_n hx hb dX7_placeWith_36 rfl (lv_at hl 2 rfl) ?_
        refine lv_iload_n hx hb dX7_placeWith_37 rfl (lv_at hl 3 rfl) ?_
        obtain ⟨_, h12, hp⟩ := ob hp
        obtain ⟨v13, M14, hv13, hp⟩ := ob3 hp
        refine mr_V1 (As := [.int a1, .int a2, .int a3]) (rest := []) C0 cbX7 hM h12 rfl (w_X7_placeIn hG hv13) tw_1793 tw_1795 tws_70 tw_7 tw_1796 yk_X7_placeIn (by decide) rfl hl.1 (Nat.le_of_ble_eq_true rfl) dX7_placeWith_38 rfl (fun H locs hM => ?_)
        exact mr_iret C0 hr hlk hM (Prod.mk.inj (Option.some.inj hp)).2 (Prod.mk.inj (Option.some.inj hp)).1 (Nat.le_refl _) (Nat.le_refl _) dX7_placeWith_41
      · replace hp := oF c11 hp
        refine lv_iconst (v := 0) hx hb dX7_placeWith_32 (by decide) ?_
        exact mr_iret C0 hr hlk hM (Prod.mk.inj (Option.some.inj hp)).2 (Prod.mk.inj (Option.some.inj hp)).1 (Nat.le_refl _) (Nat.le_refl _) dX7_placeWith_33
    refine lv_if_ne (tgt := 24) hx hb dX7_placeWith_17 (by decide) (fun c15 => ?_) (fun c15 => ?_)
    · replace hp := oF c15 hp
      refine lv_iconst (v := 0) hx hb dX7_placeWith_24 (by decide) ?_
      exact hk7 _ _ _ _ hM (lv_sub hl [0, 1, 2, 3] rfl) hp
    · replace hp := oT c15 hp
      refine lv_iconst (v := 1) hx hb dX7_placeWith_20 (by decide) ?_
      refine lv_goto (tgt := 25) hx hb dX7_placeWith_21 (by decide) ?_
      exact hk7 _ _ _ _ hM (lv_sub hl [0, 1, 2, 3] rfl) hp
abbrev rm_X7_neededCapacity : Room := { frames := 9, cells := 0, slots := 0, locals := 208 }
def pl_X7_neededCapacity_13 (k1 : Int32 → Mem → Option (Int32 × Mem)) (k2 : Mem → Option (Int32 × Mem)) (f0 : Nat) (f1 : Int32) (f2 : Int32) : Nat → Int32 → Mem → Option (Int32 × Mem)
  | 0, _, _ => none
  | n + 1, y3, M =>
    (if (40 : Int32) < y3 then
     (k2  M)
    else
     (Option.bind (isC 6 M f0) fun _ =>
     (ob2 (p_X7_placeIn f0 f1 f2 y3 M) fun v7 M8 =>
     (if v7 = f2 then
      (k1 y3 M8)
     else
      (pl_X7_neededCapacity_13 k1 k2 f0 f1 f2 n (y3 + (1 : Int32)) M8)
     )
     )
     )
    )
set_option maxHeartbeats 4000000 in
set_option maxRecDepth 100000 in
theorem wl_X7_neededCapacity_13 {G : gG} {p : Program} {l : Launch} {e : Env} {s : State} {m : MethodId} {args : Array Value} {below : List Frame} {meth : Method} {c : Code} {A : Nat → Prop} {r : Int32} {M' : Mem} {k1 : Int32 → Mem → Option (Int32 × Mem)} {k2 : Mem → Option (Int32 × Mem)} {f0 : Nat} {f1 : Int32} {f2 : Int32} (C0 : cx G p s m args c cX7_neededCapacity RX7 4 A) (hr : meth.sig.returnType = (some FieldType.int)) (hlk : meth.locks = false) (hG : GOK G) (hk1 : ∀ (z3 : Int32) (M : Mem) (H : Heap) (locs : List Loc) (ls : Array Slot), mm G A s M H locs → lv_has ls 4 [(3, .int z3)] → k1 z3 M = some (r, M') → W p l e rm_X7_neededCapacity s m args below meth c H locs 0 0 (MQ below (CQ G M' (some (.int r)) A) args s 0 0 A) (F0 m 30 ls [])) (hk2 : ∀ (M : Mem) (H : Heap) (locs : List Loc) (ls : Array Slot), mm G A s M H locs → lv_has ls 4 [] → k2 M = some (r, M') → W p l e rm_X7_neededCapacity s m args below meth c H locs 0 0 (MQ below (CQ G M' (some (.int r)) A) args s 0 0 A) (F0 m 38 ls [])) : ∀ (n : Nat) (y3 : Int32) (M : Mem) (H : Heap) (locs : List Loc) (ls : Array Slot), mm G A s M H locs → lv_has ls 4 [(0, .ref f0), (1, .int f1), (2, .int f2), (3, .int y3)] → pl_X7_neededCapacity_13 k1 k2 f0 f1 f2 n y3 M = some (r, M') → W p l e rm_X7_neededCapacity s m args below meth c H locs 0 0 (MQ below (CQ G M' (some (.int r)) A) args s 0 0 A) (F0 m 13 ls []) := by
  have hx := C0.1
  have hb := C0.2.1
  have hown := C0.2.2.2.1
  have hts := C0.2.2.2.2.1
  intro n
  induction n with
  | zero => intro y3 M H locs ls hM hl hp; rw [pl_X7_neededCapacity_13] at hp; cases hp
  | succ n ih =>
    intro y3 M H locs ls hM hl hp
    rw [pl_X7_neededCapacity_13] at hp
    refine lv_iload_n hx hb dX7_neededCapacity_13 rfl (lv_at hl 3 rfl) ?_
    refine lv_bipush (v := 40) hx hb dX7_neededCapacity_14 (by decide) ?_
    refine lv_icmp_gt (tgt := 38) hx hb dX7_neededCapacity_16 (by decide) (fun c5 => ?_) (fun c5 => ?_)
    · replace hp := oT c5 hp
      exact hk2  _ _ _ _ hM (lv_sub hl [] rfl) hp
    · replace hp := oF c5 hp
      refine lv_aload_n hx hb dX7_neededCapacity_19 rfl (lv_at hl 0 rfl) ?_
      refine lv_iload_n hx hb dX7_neededCapacity_20 rfl (lv_at hl 1 rfl) ?_
      refine lv_iload_n hx hb dX7_neededCapacity_21 rfl (lv_at hl 2 rfl) ?_
      refine lv_iload_n hx hb dX7_neededCapacity_22 rfl (lv_at hl 3 rfl) ?_
      obtain ⟨_, h6, hp⟩ := ob hp
      obtain ⟨v7, M8, hv7, hp⟩ := ob3 hp
      refine mr_V1 (As := [.int f1, .int f2, .int y3]) (rest := []) C0 cbX7 hM h6 rfl (w_X7_placeIn hG hv7) tw_1793 tw_1795 tws_70 tw_7 tw_1796 yk_X7_placeIn (by decide) rfl hl.1 (Nat.le_of_ble_eq_true rfl) dX7_neededCapacity_23 rfl (fun H locs hM => ?_)
      refine lv_iload_n hx hb dX7_neededCapacity_26 rfl (lv_at hl 2 rfl) ?_
      refine lv_icmp_ne (tgt := 32) hx hb dX7_neededCapacity_27 (by decide) (fun c9 => ?_) (fun c9 => ?_)
      · replace hp := oF c9 hp
        refine lv_iinc (v := (y3 + (1 : Int32))) (lv' := [(3, .int (y3 + (1 : Int32))), (0, .ref f0), (1, .int f1), (2, .int f2)]) hx hb dX7_neededCapacity_32 hl (k := 3) rfl rfl (by decide) rfl (fun ls hl => ?_)
        refine lv_goto (tgt := 13) hx hb dX7_neededCapacity_35 (by decide) ?_
        exact ih _ _ _ _ _ hM (lv_sub hl [1, 2, 3, 0] rfl) hp
      · replace hp := oT c9 hp
        exact hk1 _ _ _ _ _ hM (lv_sub hl [3] rfl) hp
def p_X7_neededCapacity (a0 : Nat) (a1 : Int32) (a2 : Int32) (M : Mem) : Option (Int32 × Mem) :=
  (Option.bind (isC 6 M a0) fun _ =>
  (ob2 (p_X7_noneOf a0 a1 a2 M) fun v2 M3 =>
  (if v2 = 0 then
   (pl_X7_neededCapacity_13
    (fun (z10 : Int32) (M11 : Mem) =>
     some (z10, M11)
    )
    (fun  (M12 : Mem) =>
     some ((-1 : Int32), M12)
    )
    a0 a1 a2 FU (0 : Int32) M3)
  else
   some ((0 : Int32), M3)
  )
  )
  )
theorem yk_X7_neededCapacity : yok yX7_neededCapacity 2 := by decide +kernel
set_option maxHeartbeats 4000000 in
set_option maxRecDepth 100000 in
theorem w_X7_neededCapacity {G : gG} (hG : GOK G) {l : Launch} {a0 : Nat} {a1 : Int32} {a2 : Int32} {M : Mem} {r : Int32} {M' : Mem} (hp : p_X7_neededCapacity a0 a1 a2 M = some (r, M')) : CT G l yX7_neededCapacity (wT yX7_neededCapacity cX7_neededCapacity 4 (some FieldType.int)) rm_X7_neededCapacity [.ref a0, .int a1, .int a2] M (some (.int r)) M' 0 0 := by
  refine CT_of (own := RX7) (maxL := 4) (ret := (some FieldType.int)) hG (by decide) rfl (Nat.le_of_ble_eq_true rfl) (fun p e s m below meth c A C0 hr hlk hM ls hl => ?_)
  have hl : lv_has ls 4 [(0, .ref a0), (1, .int a1), (2, .int a2)] := hl
  generalize ([.ref a0, .int a1, .int a2] : List Value).toArray = args at C0 ⊢
  skip
  have hx := C0.1
  have hb := C0.2.1
  have hown := C0.2.2.2.1
  have hts := C0.2.2.2.2.1
  unfold p_X7_neededCapacity at hp
  refine lv_aload_n hx hb dX7_neededCapacity_0 rfl (lv_at hl 0 rfl) ?_
  refine lv_iload_n hx hb dX7_neededCapacity_1 rfl (lv_at hl 1 rfl) ?_
  refine lv_iload_n hx hb dX7_neededCapacity_2 rfl (lv_at hl 2 rfl) ?_
  obtain ⟨_, h1, hp⟩ := ob hp
  obtain ⟨v2, M3, hv2, hp⟩ := ob3 hp
  refine mr_V1 (As := [.int a1, .int a2]) (rest := []) C0 cbX7 hM h1 rfl (w_X7_noneOf hG hv2) tw_1531 tw_1533 tws_43 tw_7 tw_1534 yk_X7_noneOf (by decide) rfl hl.1 (Nat.le_of_ble_eq_true rfl) dX7_neededCapacity_3 rfl (fun H locs hM => ?_)
  refine lv_if_eq (tgt := 11) hx hb dX7_neededCapacity_6 (by decide) (fun c4 => ?_) (fun c4 => ?_)
  · replace hp := oT c4 hp
    refine lv_iconst (v := 0) hx hb dX7_neededCapacity_11 (by decide) ?_
    refine lv_istore_n (lv' := [(3, .int (0 : Int32)), (0, .ref a0), (1, .int a1), (2, .int a2)]) hx hb dX7_neededCapacity_12 rfl hl (by decide) rfl (fun ls hl => ?_)
    refine wl_X7_neededCapacity_13 C0 hr hlk hG (fun z10 M11 H locs ls hM hl hp => ?_) (fun M12 H locs ls hM hl hp => ?_) FU _ _ _ _ _ hM (lv_sub hl [1, 2, 3, 0] rfl) hp
    · refine lv_iload_n hx hb dX7_neededCapacity_30 rfl (lv_at hl 0 rfl) ?_
      exact mr_iret C0 hr hlk hM (Prod.mk.inj (Option.some.inj hp)).2 (Prod.mk.inj (Option.some.inj hp)).1 (Nat.le_refl _) (Nat.le_refl _) dX7_neededCapacity_31
    · refine lv_iconst (v := -1) hx hb dX7_neededCapacity_38 (by decide) ?_
      exact mr_iret C0 hr hlk hM (Prod.mk.inj (Option.some.inj hp)).2 (Prod.mk.inj (Option.some.inj hp)).1 (Nat.le_refl _) (Nat.le_refl _) dX7_neededCapacity_39
  · replace hp := oF c4 hp
    refine lv_iconst (v := 0) hx hb dX7_neededCapacity_9 (by decide) ?_
    exact mr_iret C0 hr hlk hM (Prod.mk.inj (Option.some.inj hp)).2 (Prod.mk.inj (Option.some.inj hp)).1 (Nat.le_refl _) (Nat.le_refl _) dX7_neededCapacity_10
abbrev rm_X7_isBetter : Room := { frames := 0, cells := 0, slots := 0, locals := 0 }
def p_X7_isBetter (a0 : Int32) (a1 : Int32) (M : Mem) : Option (Int32) :=
  (if a0 = (-1 : Int32) then
   some (0 : Int32)
  else
   (if a1 = (-1 : Int32) then
    some (1 : Int32)
   else
    (if a1 ≤ a0 then
     some (0 : Int32)
    else
     some (1 : Int32)
    )
   )
  )
theorem yk_X7_isBetter : yok yX7_isBetter 2 := by decide +kernel
set_option maxHeartbeats 4000000 in
set_option maxRecDepth 100000 in
theorem w_X7_isBetter {G : gG} (hG : GOK G) {l : Launch} {a0 : Int32} {a1 : Int32} {M : Mem} {r : Int32} (hp : p_X7_isBetter a0 a1 M = some r) : CT G l yX7_isBetter (wT yX7_isBetter cX7_isBetter 2 (some FieldType.boolean)) rm_X7_isBetter [.int a0, .int a1] M (some (.int r)) M 0 0 := by
  refine CT_of (own := RX7) (maxL := 2) (ret := (some FieldType.boolean)) hG (by decide) rfl (Nat.le_of_ble_eq_true rfl) (fun p e s m below meth c A C0 hr hlk hM ls hl => ?_)
  have hl : lv_has ls 2 [(0, .int a0), (1, .int a1)] := hl
  generalize ([.int a0, .int a1] : List Value).toArray = args at C0 ⊢
  skip
  have hx := C0.1
  have hb := C0.2.1
  have hown := C0.2.2.2.1
  have hts := C0.2.2.2.2.1
  unfold p_X7_isBetter at hp
  refine lv_iload_n hx hb dX7_isBetter_0 rfl (lv_at hl 0 rfl) ?_
  refine lv_iconst (v := -1) hx hb dX7_isBetter_1 (by decide) ?_
  refine lv_icmp_eq (tgt := 19) hx hb dX7_isBetter_2 (by decide) (fun c1 => ?_) (fun c1 => ?_)
  · replace hp := oT c1 hp
    refine lv_iconst (v := 0) hx hb dX7_isBetter_19 (by decide) ?_
    exact mr_zret C0 hr hlk hM rfl (Or.inl rfl) (Option.some.inj hp) (Nat.le_refl _) (Nat.le_refl _) dX7_isBetter_20
  · replace hp := oF c1 hp
    refine lv_iload_n hx hb dX7_isBetter_5 rfl (lv_at hl 1 rfl) ?_
    refine lv_iconst (v := -1) hx hb dX7_isBetter_6 (by decide) ?_
    refine lv_icmp_eq (tgt := 15) hx hb dX7_isBetter_7 (by decide) (fun c2 => ?_) (fun c2 => ?_)
    · replace hp := oT c2 hp
      refine lv_iconst (v := 1) hx hb dX7_isBetter_15 (by decide) ?_
      refine lv_goto (tgt := 20) hx hb dX7_isBetter_16 (by decide) ?_
      exact mr_zret C0 hr hlk hM rfl (Or.inr rfl) (Option.some.inj hp) (Nat.le_refl _) (Nat.le_refl _) dX7_isBetter_20
    · replace hp := oF c2 hp
      refine lv_iload_n hx hb dX7_isBetter_10 rfl (lv_at hl 0 rfl) ?_
      refine lv_iload_n hx hb dX7_isBetter_11 rfl (lv_at hl 1 rfl) ?_
      refine lv_icmp_ge (tgt := 19) hx hb dX7_isBetter_12 (by decide) (fun c3 => ?_) (fun c3 => ?_)
      · replace hp := oT c3 hp
        refine lv_iconst (v := 0) hx hb dX7_isBetter_19 (by decide) ?_
        exact mr_zret C0 hr hlk hM rfl (Or.inl rfl) (Option.some.inj hp) (Nat.le_refl _) (Nat.le_refl _) dX7_isBetter_20
      · replace hp := oF c3 hp
        refine lv_iconst (v := 1) hx hb dX7_isBetter_15 (by decide) ?_
        refine lv_goto (tgt := 20) hx hb dX7_isBetter_16 (by decide) ?_
        exact mr_zret C0 hr hlk hM rfl (Or.inr rfl) (Option.some.inj hp) (Nat.le_refl _) (Nat.le_refl _) dX7_isBetter_20
abbrev rm_X7_gainersWithout : Room := { frames := 8, cells := 0, slots := 0, locals := 183 }
def pl_X7_gainersWithout_21 (k1 : Mem → Option (Int64 × Mem)) (f0 : Nat) (f1 : Int32) (f2 : Int32) : Nat → Int32 → Mem → Option (Int64 × Mem)
  | 0, _, _ => none
  | n + 1, y3, M =>
    (Option.bind (gR 6 0 M f0) fun v10 =>
    (Option.bind (aI 0 M v10 (1 : Int32)) fun v11 =>
    (if v11 ≤ y3 then
     (k1  M)
    else
     (Option.bind (gR 6 23 M f0) fun v13 =>
     (Option.bind (isC 6 M f0) fun _ =>
     (Option.bind (p_X7_gotOf f0 y3 M) fun v15 =>
     (Option.bind (aIs M v13 y3 v15) fun M16 =>
     (pl_X7_gainersWithout_21 k1 f0 f1 f2 n (y3 + (1 : Int32)) M16)
     )
     )
     )
     )
    )
    )
    )
set_option maxHeartbeats 4000000 in
set_option maxRecDepth 100000 in
theorem wl_X7_gainersWithout_21 {G : gG} {p : Program} {l : Launch} {e : Env} {s : State} {m : MethodId} {args : Array Value} {below : List Frame} {meth : Method} {c : Code} {A : Nat → Prop} {r : Int64} {M' : Mem} {k1 : Mem → Option (Int64 × Mem)} {f0 : Nat} {f1 : Int32} {f2 : Int32} (C0 : cx G p s m args c cX7_gainersWithout RX7 6 A) (hr : meth.sig.returnType = (some FieldType.long)) (hlk : meth.locks = false) (hG : GOK G) (hk1 : ∀ (M : Mem) (H : Heap) (locs : List Loc) (ls : Array Slot), mm G A s M H locs → lv_has ls 6 [(0, .ref f0), (1, .int f1), (2, .int f2)] → k1 M = some (r, M') → W p l e rm_X7_gainersWithout s m args below meth c H locs 0 0 (MQ below (CQ G M' (some (.long r)) A) args s 0 0 A) (F0 m 48 ls [])) : ∀ (n : Nat) (y3 : Int32) (M : Mem) (H : Heap) (locs : List Loc) (ls : Array Slot), mm G A s M H locs → lv_has ls 6 [(0, .ref f0), (1, .int f1), (2, .int f2), (3, .int y3)] → pl_X7_gainersWithout_21 k1 f0 f1 f2 n y3 M = some (r, M') → W p l e rm_X7_gainersWithout s m args below meth c H locs 0 0 (MQ below (CQ G M' (some (.long r)) A) args s 0 0 A) (F0 m 21 ls []) := by
  have hx := C0.1
  have hb := C0.2.1
  have hown := C0.2.2.2.1
  have hts := C0.2.2.2.2.1
  intro n
  induction n with
  | zero => intro y3 M H locs ls hM hl hp; rw [pl_X7_gainersWithout_21] at hp; cases hp
  | succ n ih =>
    intro y3 M H locs ls hM hl hp
    rw [pl_X7_gainersWithout_21] at hp
    refine lv_iload_n hx hb dX7_gainersWithout_21 rfl (lv_at hl 3 rfl) ?_
    refine lv_aload_n hx hb dX7_gainersWithout_22 rfl (lv_at hl 0 rfl) ?_
    obtain ⟨v10, hv10, hp⟩ := ob hp
    refine mr_getR C0 cbX7 hM 0 (by decide) tw_1224 hv10 dX7_gainersWithout_23 ?_
    refine lv_iconst (v := 1) hx hb dX7_gainersWithout_26 (by decide) ?_
    obtain ⟨v11, hv11, hp⟩ := ob hp
    refine mr_iald C0 hM hv11 dX7_gainersWithout_27 ?_
    refine lv_icmp_ge (tgt := 48) hx hb dX7_gainersWithout_28 (by decide) (fun c12 => ?_) (fun c12 => ?_)
    · replace hp := oT c12 hp
      exact hk1  _ _ _ _ hM (lv_sub hl [0, 1, 2] rfl) hp
    · replace hp := oF c12 hp
      refine lv_aload_n hx hb dX7_gainersWithout_31 rfl (lv_at hl 0 rfl) ?_
      obtain ⟨v13, hv13, hp⟩ := ob hp
      refine mr_getR C0 cbX7 hM 23 (by decide) tw_1247 hv13 dX7_gainersWithout_32 ?_
      refine lv_iload_n hx hb dX7_gainersWithout_35 rfl (lv_at hl 3 rfl) ?_
      refine lv_aload_n hx hb dX7_gainersWithout_36 rfl (lv_at hl 0 rfl) ?_
      refine lv_iload_n hx hb dX7_gainersWithout_37 rfl (lv_at hl 3 rfl) ?_
      obtain ⟨_, h14, hp⟩ := ob hp
      obtain ⟨v15, hv15, hp⟩ := ob hp
      refine mr_V1 (As := [.int y3]) (rest := [.int y3, .ref v13]) C0 cbX7 hM h14 rfl (w_X7_gotOf hG hv15) tw_1499 tw_1501 tws_41 tw_7 tw_1502 yk_X7_gotOf (by decide) rfl hl.1 (Nat.le_of_ble_eq_true rfl) dX7_gainersWithout_38 rfl (fun H locs hM => ?_)
      obtain ⟨M16, hM16, hp⟩ := ob hp
      refine mr_iast C0 hM hM16 dX7_gainersWithout_41 (fun H locs hM => ?_)
      refine lv_iinc (v := (y3 + (1 : Int32))) (lv' := [(3, .int (y3 + (1 : Int32))), (0, .ref f0), (1, .int f1), (2, .int f2)]) hx hb dX7_gainersWithout_42 hl (k := 3) rfl rfl (by decide) rfl (fun ls hl => ?_)
      refine lv_goto (tgt := 21) hx hb dX7_gainersWithout_45 (by decide) ?_
      exact ih _ _ _ _ _ hM (lv_sub hl [1, 2, 3, 0] rfl) hp
def pl_X7_gainersWithout_71 (k1 : Int64 → Option (Int64 × Mem)) (f0 : Nat) (f1 : Int32) (M : Mem) : Nat → Int64 → Int32 → Option (Int64 × Mem)
  | 0, _, _ => none
  | n + 1, y3, y5 =>
    (Option.bind (gR 6 0 M f0) fun v23 =>
    (Option.bind (aI 0 M v23 (1 : Int32)) fun v24 =>
    (if v24 ≤ y5 then
     (k1 y3)
    else
     (jn (fun (s26 : Int64) =>
      (pl_X7_gainersWithout_71 k1 f0 f1 M n (y3 ||| s26) (y5 + (1 : Int32)))
     ) fun k27 =>
     (if y5 = f1 then
      (k27 (0 : Int64))
     else
      (Option.bind (isC 6 M f0) fun _ =>
      (Option.bind (p_X7_gotOf f0 y5 M) fun v30 =>
      (Option.bind (gR 6 23 M f0) fun v31 =>
      (Option.bind (aI 0 M v31 y5) fun v32 =>
      (Option.bind (p_X7_isBetter v30 v32 M) fun v33 =>
      (if v33 = 0 then
       (k27 (0 : Int64))
      else
       (k27 ((1 : Int64) <<< (Int32.toInt64 y5 &&& 63)))
      )
      )
      )
      )
      )
      )
     )
     )
    )
    )
    )
set_option maxHeartbeats 4000000 in
set_option maxRecDepth 100000 in
theorem wl_X7_gainersWithout_71 {G : gG} {p : Program} {l : Launch} {e : Env} {s : State} {m : MethodId} {args : Array Value} {below : List Frame} {meth : Method} {c : Code} {A : Nat → Prop} {r : Int64} {M' : Mem} {k1 : Int64 → Option (Int64 × Mem)} {f0 : Nat} {f1 : Int32} {M : Mem} (C0 : cx G p s m args c cX7_gainersWithout RX7 6 A) (hr : meth.sig.returnType = (some FieldType.long)) (hlk : meth.locks = false) (hG : GOK G) (hk1 : ∀ (z3 : Int64) (H : Heap) (locs : List Loc) (ls : Array Slot), mm G A s M H locs → lv_has ls 6 [(0, .ref f0), (3, .long z3)] → k1 z3 = some (r, M') → W p l e rm_X7_gainersWithout s m args below meth c H locs 0 0 (MQ below (CQ G M' (some (.long r)) A) args s 0 0 A) (F0 m 124 ls [])) : ∀ (n : Nat) (y3 : Int64) (y5 : Int32) (H : Heap) (locs : List Loc) (ls : Array Slot), mm G A s M H locs → lv_has ls 6 [(0, .ref f0), (1, .int f1), (3, .long y3), (5, .int y5)] → pl_X7_gainersWithout_71 k1 f0 f1 M n y3 y5 = some (r, M') → W p l e rm_X7_gainersWithout s m args below meth c H locs 0 0 (MQ below (CQ G M' (some (.long r)) A) args s 0 0 A) (F0 m 71 ls []) := by
  have hx := C0.1
  have hb := C0.2.1
  have hown := C0.2.2.2.1
  have hts := C0.2.2.2.2.1
  intro n
  induction n with
  | zero => intro y3 y5 H locs ls hM hl hp; rw [pl_X7_gainersWithout_71] at hp; cases hp
  | succ n ih =>
    intro y3 y5 H locs ls hM hl hp
    rw [pl_X7_gainersWithout_71] at hp
    refine lv_iload hx hb dX7_gainersWithout_71 (lv_at hl 3 rfl) ?_
    refine lv_aload_n hx hb dX7_gainersWithout_73 rfl (lv_at hl 0 rfl) ?_
    obtain ⟨v23, hv23, hp⟩ := ob hp
    refine mr_getR C0 cbX7 hM 0 (by decide) tw_1224 hv23 dX7_gainersWithout_74 ?_
    refine lv_iconst (v := 1) hx hb dX7_gainersWithout_77 (by decide) ?_
    obtain ⟨v24, hv24, hp⟩ := ob hp
    refine mr_iald C0 hM hv24 dX7_gainersWithout_78 ?_
    refine lv_icmp_ge (tgt := 124) hx hb dX7_gainersWithout_79 (by decide) (fun c25 => ?_) (fun c25 => ?_)
    · replace hp := oT c25 hp
      exact hk1 _ _ _ _ hM (lv_sub hl [0, 2] rfl) hp
    · replace hp := oF c25 hp
      refine lv_lload_n hx hb dX7_gainersWithout_82 rfl (lv_at hl 2 rfl) ?_
      refine lv_iload hx hb dX7_gainersWithout_83 (lv_at hl 3 rfl) ?_
      refine lv_iload_n hx hb dX7_gainersWithout_85 rfl (lv_at hl 1 rfl) ?_
      obtain ⟨k27, ek27, hp⟩ := ojn hp
      have hk27 : ∀ (s26 : Int64) (H : Heap) (locs : List Loc) (ls : Array Slot), mm G A s M H locs → lv_has ls 6 [(0, .ref f0), (1, .int f1), (5, .int y5)] → k27 s26 = some (r, M') → W p l e rm_X7_gainersWithout s m args below meth c H locs 0 0 (MQ below (CQ G M' (some (.long r)) A) args s 0 0 A) (F0 m 116 ls [.long s26, .long y3]) := by
        intro s26 H locs ls hM hl hp
        rw [ek27] at hp
        refine lv_lor hx hb dX7_gainersWithout_116 ?_
        refine lv_lstore_n (lv' := [(3, .long (y3 ||| s26)), (0, .ref f0), (1, .int f1), (5, .int y5)]) hx hb dX7_gainersWithout_117 rfl hl (by decide) rfl (fun ls hl => ?_)
        refine lv_iinc (v := (y5 + (1 : Int32))) (lv' := [(5, .int (y5 + (1 : Int32))), (3, .long (y3 ||| s26)), (0, .ref f0), (1, .int f1)]) hx hb dX7_gainersWithout_118 hl (k := 3) rfl rfl (by decide) rfl (fun ls hl => ?_)
        refine lv_goto (tgt := 71) hx hb dX7_gainersWithout_121 (by decide) ?_
        exact ih _ _ _ _ _ hM (lv_sub hl [2, 3, 1, 0] rfl) hp
      refine lv_icmp_eq (tgt := 115) hx hb dX7_gainersWithout_86 (by decide) (fun c28 => ?_) (fun c28 => ?_)
      · replace hp := oT c28 hp
        refine lv_lconst (v := 0) hx hb dX7_gainersWithout_115 (by decide) ?_
        exact hk27 _ _ _ _ hM (lv_sub hl [0, 1, 3] rfl) hp
      · replace hp := oF c28 hp
        refine lv_aload_n hx hb dX7_gainersWithout_89 rfl (lv_at hl 0 rfl) ?_
        refine lv_iload hx hb dX7_gainersWithout_90 (lv_at hl 3 rfl) ?_
        obtain ⟨_, h29, hp⟩ := ob hp
        obtain ⟨v30, hv30, hp⟩ := ob hp
        refine mr_V1 (As := [.int y5]) (rest := [.long y3]) C0 cbX7 hM h29 rfl (w_X7_gotOf hG hv30) tw_1499 tw_1501 tws_41 tw_7 tw_1502 yk_X7_gotOf (by decide) rfl hl.1 (Nat.le_of_ble_eq_true rfl) dX7_gainersWithout_92 rfl (fun H locs hM => ?_)
        refine lv_aload_n hx hb dX7_gainersWithout_95 rfl (lv_at hl 0 rfl) ?_
        obtain ⟨v31, hv31, hp⟩ := ob hp
        refine mr_getR C0 cbX7 hM 23 (by decide) tw_1247 hv31 dX7_gainersWithout_96 ?_
        refine lv_iload hx hb dX7_gainersWithout_99 (lv_at hl 3 rfl) ?_
        obtain ⟨v32, hv32, hp⟩ := ob hp
        refine mr_iald C0 hM hv32 dX7_gainersWithout_101 ?_
        obtain ⟨v33, hv33, hp⟩ := ob hp
        refine mr_S1 (As := [.int v30, .int v32]) (rest := [.long y3]) C0 hM (w_X7_isBetter hG hv33) tw_1805 tw_1806 tw_7 tw_1807 yk_X7_isBetter (by decide) rfl hl.1 (Nat.le_of_ble_eq_true rfl) dX7_gainersWithout_102 rfl (fun H locs hM => ?_)
        refine lv_if_eq (tgt := 115) hx hb dX7_gainersWithout_105 (by decide) (fun c34 => ?_) (fun c34 => ?_)
        · replace hp := oT c34 hp
          refine lv_lconst (v := 0) hx hb dX7_gainersWithout_115 (by decide) ?_
          exact hk27 _ _ _ _ hM (lv_sub hl [0, 1, 3] rfl) hp
        · replace hp := oF c34 hp
          refine lv_lconst (v := 1) hx hb dX7_gainersWithout_108 (by decide) ?_
          refine lv_iload hx hb dX7_gainersWithout_109 (lv_at hl 3 rfl) ?_
          refine lv_lshl (v := ((1 : Int64) <<< (Int32.toInt64 y5 &&& 63))) hx hb dX7_gainersWithout_111 rfl ?_
          refine lv_goto (tgt := 116) hx hb dX7_gainersWithout_112 (by decide) ?_
          exact hk27 _ _ _ _ hM (lv_sub hl [0, 1, 3] rfl) hp
def p_X7_gainersWithout (a0 : Nat) (a1 : Int32) (M : Mem) : Option (Int64 × Mem) :=
  (Option.bind (isC 6 M a0) fun _ =>
  (ob2 (p_X7_noChild a0 a1 M) fun v2 M3 =>
  (if v2 = 0 then
   (Option.bind (isC 6 M3 a0) fun _ =>
   (Option.bind (p_X7_begins a0 M3) fun M6 =>
   (Option.bind (isC 6 M6 a0) fun _ =>
   (ob2 (p_X7_allocates a0 M6) fun v8 M9 =>
   (pl_X7_gainersWithout_21
    (fun  (M17 : Mem) =>
     (Option.bind (gR 6 0 M17 a0) fun v18 =>
     (Option.bind (aIs M17 v18 ((404 : Int32) + a1) (1 : Int32)) fun M19 =>
     (Option.bind (isC 6 M19 a0) fun _ =>
     (ob2 (p_X7_allocates a0 M19) fun v21 M22 =>
     (pl_X7_gainersWithout_71
      (fun (z35 : Int64) =>
       (Option.bind (isC 6 M22 a0) fun _ =>
       (Option.bind (p_X7_ends a0 M22) fun M37 =>
       some (z35, M37)
       )
       )
      )
      a0 a1 M22 FU (0 : Int64) (0 : Int32))
     )
     )
     )
     )
    )
    a0 a1 v8 FU (0 : Int32) M9)
   )
   )
   )
   )
  else
   some ((0 : Int64), M3)
  )
  )
  )
theorem yk_X7_gainersWithout : yok yX7_gainersWithout 1 := by decide +kernel
set_option maxHeartbeats 4000000 in
set_option maxRecDepth 100000 in
theorem w_X7_gainersWithout {G : gG} (hG : GOK G) {l : Launch} {a0 : Nat} {a1 : Int32} {M : Mem} {r : Int64} {M' : Mem} (hp : p_X7_gainersWithout a0 a1 M = some (r, M')) : CT G l yX7_gainersWithout (wT yX7_gainersWithout cX7_gainersWithout 6 (some FieldType.long)) rm_X7_gainersWithout [.ref a0, .int a1] M (some (.long r)) M' 0 0 := by
  refine CT_of (own := RX7) (maxL := 6) (ret := (some FieldType.long)) hG (by decide) rfl (Nat.le_of_ble_eq_true rfl) (fun p e s m below meth c A C0 hr hlk hM ls hl => ?_)
  have hl : lv_has ls 6 [(0, .ref a0), (1, .int a1)] := hl
  generalize ([.ref a0, .int a1] : List Value).toArray = args at C0 ⊢
  skip
  have hx := C0.1
  have hb := C0.2.1
  have hown := C0.2.2.2.1
  have hts := C0.2.2.2.2.1
  unfold p_X7_gainersWithout at hp
  refine lv_aload_n hx hb dX7_gainersWithout_0 rfl (lv_at hl 0 rfl) ?_
  refine lv_iload_n hx hb dX7_gainersWithout_1 rfl (lv_at hl 1 rfl) ?_
  obtain ⟨_, h1, hp⟩ := ob hp
  obtain ⟨v2, M3, hv2, hp⟩ := ob3 hp
  refine mr_V1 (As := [.int a1]) (rest := []) C0 cbX7 hM h1 rfl (w_X7_noChild hG hv2) tw_1511 tw_1513 tws_42 tw_7 tw_1514 yk_X7_noChild (by decide) rfl hl.1 (Nat.le_of_ble_eq_true rfl) dX7_gainersWithout_2 rfl (fun H locs hM => ?_)
  refine lv_if_eq (tgt := 10) hx hb dX7_gainersWithout_5 (by decide) (fun c4 => ?_) (fun c4 => ?_)
  · replace hp := oT c4 hp
    refine lv_aload_n hx hb dX7_gainersWithout_10 rfl (lv_at hl 0 rfl) ?_
    obtain ⟨_, h5, hp⟩ := ob hp
    obtain ⟨M6, hM6, hp⟩ := ob hp
    refine mr_V0 (As := []) (rest := []) C0 cbX7 hM h5 rfl (w_X7_begins hG hM6) tw_1773 tw_1775 tws_68 tw_7 tw_1776 yk_X7_begins (by decide) rfl hl.1 (Nat.le_of_ble_eq_true rfl) dX7_gainersWithout_11 rfl (fun H locs hM => ?_)
    refine lv_aload_n hx hb dX7_gainersWithout_14 rfl (lv_at hl 0 rfl) ?_
    obtain ⟨_, h7, hp⟩ := ob hp
    obtain ⟨v8, M9, hv8, hp⟩ := ob3 hp
    refine mr_V1 (As := []) (rest := []) C0 cbX7 hM h7 rfl (w_X7_allocates hG hv8) tw_1615 tw_1617 tws_55 tw_7 tw_1618 yk_X7_allocates (by decide) rfl hl.1 (Nat.le_of_ble_eq_true rfl) dX7_gainersWithout_15 rfl (fun H locs hM => ?_)
    refine lv_istore_n (lv' := [(2, .int v8), (0, .ref a0), (1, .int a1)]) hx hb dX7_gainersWithout_18 rfl hl (by decide) rfl (fun ls hl => ?_)
    refine lv_iconst (v := 0) hx hb dX7_gainersWithout_19 (by decide) ?_
    refine lv_istore_n (lv' := [(3, .int (0 : Int32)), (2, .int v8), (0, .ref a0), (1, .int a1)]) hx hb dX7_gainersWithout_20 rfl hl (by decide) rfl (fun ls hl => ?_)
    refine wl_X7_gainersWithout_21 C0 hr hlk hG (fun M17 H locs ls hM hl hp => ?_) FU _ _ _ _ _ hM (lv_sub hl [2, 3, 1, 0] rfl) hp
    refine lv_aload_n hx hb dX7_gainersWithout_48 rfl (lv_at hl 0 rfl) ?_
    obtain ⟨v18, hv18, hp⟩ := ob hp
    refine mr_getR C0 cbX7 hM 0 (by decide) tw_1224 hv18 dX7_gainersWithout_49 ?_
    refine lv_sipush (v := 404) hx hb dX7_gainersWithout_52 (by decide) ?_
    refine lv_iload_n hx hb dX7_gainersWithout_55 rfl (lv_at hl 1 rfl) ?_
    refine lv_iadd hx hb dX7_gainersWithout_56 ?_
    refine lv_iconst (v := 1) hx hb dX7_gainersWithout_57 (by decide) ?_
    obtain ⟨M19, hM19, hp⟩ := ob hp
    refine mr_iast C0 hM hM19 dX7_gainersWithout_58 (fun H locs hM => ?_)
    refine lv_iload_n hx hb dX7_gainersWithout_59 rfl (lv_at hl 2 rfl) ?_
    refine lv_aload_n hx hb dX7_gainersWithout_60 rfl (lv_at hl 0 rfl) ?_
    obtain ⟨_, h20, hp⟩ := ob hp
    obtain ⟨v21, M22, hv21, hp⟩ := ob3 hp
    refine mr_V1 (As := []) (rest := [.int v8]) C0 cbX7 hM h20 rfl (w_X7_allocates hG hv21) tw_1615 tw_1617 tws_55 tw_7 tw_1618 yk_X7_allocates (by decide) rfl hl.1 (Nat.le_of_ble_eq_true rfl) dX7_gainersWithout_61 rfl (fun H locs hM => ?_)
    refine lv_iadd hx hb dX7_gainersWithout_64 ?_
    refine lv_istore_n (lv' := [(2, .int (v8 + v21)), (0, .ref a0), (1, .int a1)]) hx hb dX7_gainersWithout_65 rfl hl (by decide) rfl (fun ls hl => ?_)
    refine lv_lconst (v := 0) hx hb dX7_gainersWithout_66 (by decide) ?_
    refine lv_lstore_n (lv' := [(3, .long (0 : Int64)), (2, .int (v8 + v21)), (0, .ref a0), (1, .int a1)]) hx hb dX7_gainersWithout_67 rfl hl (by decide) rfl (fun ls hl => ?_)
    refine lv_iconst (v := 0) hx hb dX7_gainersWithout_68 (by decide) ?_
    refine lv_istore (lv' := [(5, .int (0 : Int32)), (3, .long (0 : Int64)), (2, .int (v8 + v21)), (0, .ref a0), (1, .int a1)]) hx hb dX7_gainersWithout_69 hl (by decide) rfl (fun ls hl => ?_)
    refine wl_X7_gainersWithout_71 C0 hr hlk hG (fun z35 H locs ls hM hl hp => ?_) FU _ _ _ _ _ hM (lv_sub hl [3, 4, 1, 0] rfl) hp
    refine lv_aload_n hx hb dX7_gainersWithout_124 rfl (lv_at hl 0 rfl) ?_
    obtain ⟨_, h36, hp⟩ := ob hp
    obtain ⟨M37, hM37, hp⟩ := ob hp
    refine mr_V0 (As := []) (rest := []) C0 cbX7 hM h36 rfl (w_X7_ends hG hM37) tw_1777 tw_1779 tws_69 tw_7 tw_1780 yk_X7_ends (by decide) rfl hl.1 (Nat.le_of_ble_eq_true rfl) dX7_gainersWithout_125 rfl (fun H locs hM => ?_)
    refine lv_lload_n hx hb dX7_gainersWithout_128 rfl (lv_at hl 1 rfl) ?_
    exact mr_lret C0 hr hlk hM (Prod.mk.inj (Option.some.inj hp)).2 (Prod.mk.inj (Option.some.inj hp)).1 (Nat.le_refl _) (Nat.le_refl _) dX7_gainersWithout_129
  · replace hp := oF c4 hp
    refine lv_lconst (v := 0) hx hb dX7_gainersWithout_8 (by decide) ?_
    exact mr_lret C0 hr hlk hM (Prod.mk.inj (Option.some.inj hp)).2 (Prod.mk.inj (Option.some.inj hp)).1 (Nat.le_refl _) (Nat.le_refl _) dX7_gainersWithout_9
abbrev rm_X7_write : Room := { frames := 0, cells := 0, slots := 0, locals := 0 }
def p_X7_write (a0 : Nat) (a1 : Int32) (M : Mem) : Option (Mem) :=
  (Option.bind (gR 6 26 M a0) fun v1 =>
  (Option.bind (gI 6 27 M a0) fun v2 =>
  (Option.bind (aIs M v1 v2 a1) fun M3 =>
  (Option.bind (gI 6 27 M3 a0) fun v4 =>
  (Option.bind (sV 6 27 M3 a0 (.int (v4 + (1 : Int32)))) fun M5 =>
  some M5
  )
  )
  )
  )
  )
theorem yk_X7_write : yok yX7_write 1 := by decide +kernel
set_option maxHeartbeats 4000000 in
set_option maxRecDepth 100000 in
theorem w_X7_write {G : gG} (hG : GOK G) {l : Launch} {a0 : Nat} {a1 : Int32} {M : Mem} {M' : Mem} (hp : p_X7_write a0 a1 M = some M') : CT G l yX7_write (wT yX7_write cX7_write 2 (none)) rm_X7_write [.ref a0, .int a1] M none M' 0 0 := by
  refine CT_of (own := RX7) (maxL := 2) (ret := (none)) hG (by decide) rfl (Nat.le_of_ble_eq_true rfl) (fun p e s m below meth c A C0 hr hlk hM ls hl => ?_)
  have hl : lv_has ls 2 [(0, .ref a0), (1, .int a1)] := hl
  generalize ([.ref a0, .int a1] : List Value).toArray = args at C0 ⊢
  skip
  have hx := C0.1
  have hb := C0.2.1
  have hown := C0.2.2.2.1
  have hts := C0.2.2.2.2.1
  unfold p_X7_write at hp
  refine lv_aload_n hx hb dX7_write_0 rfl (lv_at hl 0 rfl) ?_
  obtain ⟨v1, hv1, hp⟩ := ob hp
  refine mr_getR C0 cbX7 hM 26 (by decide) tw_1250 hv1 dX7_write_1 ?_
  refine lv_aload_n hx hb dX7_write_4 rfl (lv_at hl 0 rfl) ?_
  obtain ⟨v2, hv2, hp⟩ := ob hp
  refine mr_getI C0 cbX7 hM 27 (by decide) tw_1251 hv2 dX7_write_5 ?_
  refine lv_iload_n hx hb dX7_write_8 rfl (lv_at hl 1 rfl) ?_
  obtain ⟨M3, hM3, hp⟩ := ob hp
  refine mr_iast C0 hM hM3 dX7_write_9 (fun H locs hM => ?_)
  refine lv_aload_n hx hb dX7_write_10 rfl (lv_at hl 0 rfl) ?_
  refine lv_dup hx hb dX7_write_11 rfl ?_
  obtain ⟨v4, hv4, hp⟩ := ob hp
  refine mr_getI C0 cbX7 hM 27 (by decide) tw_1251 hv4 dX7_write_12 ?_
  refine lv_iconst (v := 1) hx hb dX7_write_15 (by decide) ?_
  refine lv_iadd hx hb dX7_write_16 ?_
  obtain ⟨M5, hM5, hp⟩ := ob hp
  refine mr_putI C0 cbX7 hM 27 (by decide) rfl rfl tw_1251 hM5 dX7_write_17 (fun H locs hM => ?_)
  exact mr_vret C0 hr hlk hM (Option.some.inj hp) (Nat.le_refl _) (Nat.le_refl _) dX7_write_20
abbrev rm_X7_writeChild : Room := { frames := 1, cells := 0, slots := 0, locals := 21 }
def p_X7_writeChild (a0 : Nat) (a1 : Int32) (M : Mem) : Option (Mem) :=
  (Option.bind (isC 6 M a0) fun _ =>
  (Option.bind (p_X7_write a0 (32 : Int32) M) fun M2 =>
  (jn (fun  (M3 : Mem) =>
   (Option.bind (isC 6 M3 a0) fun _ =>
   (Option.bind (p_X7_write a0 ((48 : Int32) + (a1 - a1 / (10 : Int32) * (10 : Int32))) M3) fun M6 =>
   some M6
   )
   )
  ) fun k4 =>
  (if a1 ≤ (9 : Int32) then
   (k4  M2)
  else
   (Option.bind (isC 6 M2 a0) fun _ =>
   (Option.bind (p_X7_write a0 ((48 : Int32) + (a1 / (10 : Int32))) M2) fun M9 =>
   (k4  M9)
   )
   )
  )
  )
  )
  )
theorem yk_X7_writeChild : yok yX7_writeChild 1 := by decide +kernel
set_option maxHeartbeats 4000000 in
set_option maxRecDepth 100000 in
theorem w_X7_writeChild {G : gG} (hG : GOK G) {l : Launch} {a0 : Nat} {a1 : Int32} {M : Mem} {M' : Mem} (hp : p_X7_writeChild a0 a1 M = some M') : CT G l yX7_writeChild (wT yX7_writeChild cX7_writeChild 2 (none)) rm_X7_writeChild [.ref a0, .int a1] M none M' 0 0 := by
  refine CT_of (own := RX7) (maxL := 2) (ret := (none)) hG (by decide) rfl (Nat.le_of_ble_eq_true rfl) (fun p e s m below meth c A C0 hr hlk hM ls hl => ?_)
  have hl : lv_has ls 2 [(0, .ref a0), (1, .int a1)] := hl
  generalize ([.ref a0, .int a1] : List Value).toArray = args at C0 ⊢
  skip
  have hx := C0.1
  have hb := C0.2.1
  have hown := C0.2.2.2.1
  have hts := C0.2.2.2.2.1
  unfold p_X7_writeChild at hp
  refine lv_aload_n hx hb dX7_writeChild_0 rfl (lv_at hl 0 rfl) ?_
  refine lv_bipush (v := 32) hx hb dX7_writeChild_1 (by decide) ?_
  obtain ⟨_, h1, hp⟩ := ob hp
  obtain ⟨M2, hM2, hp⟩ := ob hp
  refine mr_V0 (As := [.int (32 : Int32)]) (rest := []) C0 cbX7 hM h1 rfl (w_X7_write hG hM2) tw_1820 tw_1822 tws_72 tw_7 tw_1823 yk_X7_write (by decide) rfl hl.1 (Nat.le_of_ble_eq_true rfl) dX7_writeChild_3 rfl (fun H locs hM => ?_)
  refine lv_iload_n hx hb dX7_writeChild_6 rfl (lv_at hl 1 rfl) ?_
  refine lv_bipush (v := 9) hx hb dX7_writeChild_7 (by decide) ?_
  obtain ⟨k4, ek4, hp⟩ := ojn hp
  have hk4 : ∀ (M3 : Mem) (H : Heap) (locs : List Loc) (ls : Array Slot), mm G A s M3 H locs → lv_has ls 2 [(0, .ref a0), (1, .int a1)] → k4  M3 = some M' → W p l e rm_X7_writeChild s m args below meth c H locs 0 0 (MQ below (CQ G M' none A) args s 0 0 A) (F0 m 23 ls []) := by
    intro  M3 H locs ls hM hl hp
    rw [ek4] at hp
    refine lv_aload_n hx hb dX7_writeChild_23 rfl (lv_at hl 0 rfl) ?_
    refine lv_bipush (v := 48) hx hb dX7_writeChild_24 (by decide) ?_
    refine lv_iload_n hx hb dX7_writeChild_26 rfl (lv_at hl 1 rfl) ?_
    refine lv_bipush (v := 10) hx hb dX7_writeChild_27 (by decide) ?_
    refine lv_irem hx hb dX7_writeChild_29 (by decide) ?_
    refine lv_iadd hx hb dX7_writeChild_30 ?_
    obtain ⟨_, h5, hp⟩ := ob hp
    obtain ⟨M6, hM6, hp⟩ := ob hp
    refine mr_V0 (As := [.int ((48 : Int32) + (a1 - a1 / (10 : Int32) * (10 : Int32)))]) (rest := []) C0 cbX7 hM h5 rfl (w_X7_write hG hM6) tw_1820 tw_1822 tws_72 tw_7 tw_1823 yk_X7_write (by decide) rfl hl.1 (Nat.le_of_ble_eq_true rfl) dX7_writeChild_31 rfl (fun H locs hM => ?_)
    exact mr_vret C0 hr hlk hM (Option.some.inj hp) (Nat.le_refl _) (Nat.le_refl _) dX7_writeChild_34
  refine lv_icmp_le (tgt := 23) hx hb dX7_writeChild_9 (by decide) (fun c7 => ?_) (fun c7 => ?_)
  · replace hp := oT c7 hp
    exact hk4  _ _ _ _ hM (lv_sub hl [0, 1] rfl) hp
  · replace hp := oF c7 hp
    refine lv_aload_n hx hb dX7_writeChild_12 rfl (lv_at hl 0 rfl) ?_
    refine lv_bipush (v := 48) hx hb dX7_writeChild_13 (by decide) ?_
    refine lv_iload_n hx hb dX7_writeChild_15 rfl (lv_at hl 1 rfl) ?_
    refine lv_bipush (v := 10) hx hb dX7_writeChild_16 (by decide) ?_
    refine lv_idiv hx hb dX7_writeChild_18 (by decide) ?_
    refine lv_iadd hx hb dX7_writeChild_19 ?_
    obtain ⟨_, h8, hp⟩ := ob hp
    obtain ⟨M9, hM9, hp⟩ := ob hp
    refine mr_V0 (As := [.int ((48 : Int32) + (a1 / (10 : Int32)))]) (rest := []) C0 cbX7 hM h8 rfl (w_X7_write hG hM9) tw_1820 tw_1822 tws_72 tw_7 tw_1823 yk_X7_write (by decide) rfl hl.1 (Nat.le_of_ble_eq_true rfl) dX7_writeChild_20 rfl (fun H locs hM => ?_)
    exact hk4  _ _ _ _ hM (lv_sub hl [0, 1] rfl) hp
abbrev rm_X7_printSchool : Room := { frames := 7, cells := 0, slots := 0, locals := 165 }
def pl_X7_printSchool_17 (k1 : Mem → Option (Int32 × Mem)) (f0 : Nat) (f1 : Int32) : Nat → Int32 → Mem → Option (Int32 × Mem)
  | 0, _, _ => none
  | n + 1, y2, M =>
    (if (6 : Int32) ≤ y2 then
     (k1  M)
    else
     (Option.bind (gR 6 7 M f0) fun v7 =>
     (Option.bind (aI 0 M v7 (((6 : Int32) * f1) + y2)) fun v8 =>
     (if v8 = 0 then
      (pl_X7_printSchool_17 k1 f0 f1 n (y2 + (1 : Int32)) M)
     else
      (Option.bind (gR 6 7 M f0) fun v10 =>
      (Option.bind (aI 0 M v10 (((6 : Int32) * f1) + y2)) fun v11 =>
      (Option.bind (isC 6 M f0) fun _ =>
      (Option.bind (p_X7_write f0 v11 M) fun M13 =>
      (pl_X7_printSchool_17 k1 f0 f1 n (y2 + (1 : Int32)) M13)
      )
      )
      )
      )
     )
     )
     )
    )
set_option maxHeartbeats 4000000 in
set_option maxRecDepth 100000 in
theorem wl_X7_printSchool_17 {G : gG} {p : Program} {l : Launch} {e : Env} {s : State} {m : MethodId} {args : Array Value} {below : List Frame} {meth : Method} {c : Code} {A : Nat → Prop} {r : Int32} {M' : Mem} {k1 : Mem → Option (Int32 × Mem)} {f0 : Nat} {f1 : Int32} (C0 : cx G p s m args c cX7_printSchool RX7 4 A) (hr : meth.sig.returnType = (some FieldType.int)) (hlk : meth.locks = false) (hG : GOK G) (hk1 : ∀ (M : Mem) (H : Heap) (locs : List Loc) (ls : Array Slot), mm G A s M H locs → lv_has ls 4 [(0, .ref f0), (1, .int f1)] → k1 M = some (r, M') → W p l e rm_X7_printSchool s m args below meth c H locs 0 0 (MQ below (CQ G M' (some (.int r)) A) args s 0 0 A) (F0 m 58 ls [])) : ∀ (n : Nat) (y2 : Int32) (M : Mem) (H : Heap) (locs : List Loc) (ls : Array Slot), mm G A s M H locs → lv_has ls 4 [(0, .ref f0), (1, .int f1), (2, .int y2)] → pl_X7_printSchool_17 k1 f0 f1 n y2 M = some (r, M') → W p l e rm_X7_printSchool s m args below meth c H locs 0 0 (MQ below (CQ G M' (some (.int r)) A) args s 0 0 A) (F0 m 17 ls []) := by
  have hx := C0.1
  have hb := C0.2.1
  have hown := C0.2.2.2.1
  have hts := C0.2.2.2.2.1
  intro n
  induction n with
  | zero => intro y2 M H locs ls hM hl hp; rw [pl_X7_printSchool_17] at hp; cases hp
  | succ n ih =>
    intro y2 M H locs ls hM hl hp
    rw [pl_X7_printSchool_17] at hp
    refine lv_iload_n hx hb dX7_printSchool_17 rfl (lv_at hl 2 rfl) ?_
    refine lv_bipush (v := 6) hx hb dX7_printSchool_18 (by decide) ?_
    refine lv_icmp_ge (tgt := 58) hx hb dX7_printSchool_20 (by decide) (fun c6 => ?_) (fun c6 => ?_)
    · replace hp := oT c6 hp
      exact hk1  _ _ _ _ hM (lv_sub hl [0, 1] rfl) hp
    · replace hp := oF c6 hp
      refine lv_aload_n hx hb dX7_printSchool_23 rfl (lv_at hl 0 rfl) ?_
      obtain ⟨v7, hv7, hp⟩ := ob hp
      refine mr_getR C0 cbX7 hM 7 (by decide) tw_1231 hv7 dX7_printSchool_24 ?_
      refine lv_bipush (v := 6) hx hb dX7_printSchool_27 (by decide) ?_
      refine lv_iload_n hx hb dX7_printSchool_29 rfl (lv_at hl 1 rfl) ?_
      refine lv_imul hx hb dX7_printSchool_30 ?_
      refine lv_iload_n hx hb dX7_printSchool_31 rfl (lv_at hl 2 rfl) ?_
      refine lv_iadd hx hb dX7_printSchool_32 ?_
      obtain ⟨v8, hv8, hp⟩ := ob hp
      refine mr_iald C0 hM hv8 dX7_printSchool_33 ?_
      refine lv_if_eq (tgt := 52) hx hb dX7_printSchool_34 (by decide) (fun c9 => ?_) (fun c9 => ?_)
      · replace hp := oT c9 hp
        refine lv_iinc (v := (y2 + (1 : Int32))) (lv' := [(2, .int (y2 + (1 : Int32))), (0, .ref f0), (1, .int f1)]) hx hb dX7_printSchool_52 hl (k := 2) rfl rfl (by decide) rfl (fun ls hl => ?_)
        refine lv_goto (tgt := 17) hx hb dX7_printSchool_55 (by decide) ?_
        exact ih _ _ _ _ _ hM (lv_sub hl [1, 2, 0] rfl) hp
      · replace hp := oF c9 hp
        refine lv_aload_n hx hb dX7_printSchool_37 rfl (lv_at hl 0 rfl) ?_
        refine lv_aload_n hx hb dX7_printSchool_38 rfl (lv_at hl 0 rfl) ?_
        obtain ⟨v10, hv10, hp⟩ := ob hp
        refine mr_getR C0 cbX7 hM 7 (by decide) tw_1231 hv10 dX7_printSchool_39 ?_
        refine lv_bipush (v := 6) hx hb dX7_printSchool_42 (by decide) ?_
        refine lv_iload_n hx hb dX7_printSchool_44 rfl (lv_at hl 1 rfl) ?_
        refine lv_imul hx hb dX7_printSchool_45 ?_
        refine lv_iload_n hx hb dX7_printSchool_46 rfl (lv_at hl 2 rfl) ?_
        refine lv_iadd hx hb dX7_printSchool_47 ?_
        obtain ⟨v11, hv11, hp⟩ := ob hp
        refine mr_iald C0 hM hv11 dX7_printSchool_48 ?_
        obtain ⟨_, h12, hp⟩ := ob hp
        obtain ⟨M13, hM13, hp⟩ := ob hp
        refine mr_V0 (As := [.int v11]) (rest := []) C0 cbX7 hM h12 rfl (w_X7_write hG hM13) tw_1820 tw_1822 tws_72 tw_7 tw_1823 yk_X7_write (by decide) rfl hl.1 (Nat.le_of_ble_eq_true rfl) dX7_printSchool_49 rfl (fun H locs hM => ?_)
        refine lv_iinc (v := (y2 + (1 : Int32))) (lv' := [(2, .int (y2 + (1 : Int32))), (0, .ref f0), (1, .int f1)]) hx hb dX7_printSchool_52 hl (k := 2) rfl rfl (by decide) rfl (fun ls hl => ?_)
        refine lv_goto (tgt := 17) hx hb dX7_printSchool_55 (by decide) ?_
        exact ih _ _ _ _ _ hM (lv_sub hl [1, 2, 0] rfl) hp
def pl_X7_printSchool_66 (k1 : Mem → Option (Int32 × Mem)) (f0 : Nat) (f1 : Int32) : Nat → Int32 → Mem → Option (Int32 × Mem)
  | 0, _, _ => none
  | n + 1, y2, M =>
    (Option.bind (isC 6 M f0) fun _ =>
    (Option.bind (p_X7_holders f0 f1 M) fun v18 =>
    (if v18 ≤ y2 then
     (k1  M)
    else
     (Option.bind (isC 6 M f0) fun _ =>
     (Option.bind (p_X7_standsAt f0 f1 y2 (0 : Int32) M) fun v21 =>
     (Option.bind (isC 6 M f0) fun _ =>
     (Option.bind (p_X7_writeChild f0 v21 M) fun M23 =>
     (Option.bind (gR 6 0 M23 f0) fun v24 =>
     (Option.bind (aI 0 M23 v24 ((444 : Int32) + v21)) fun v25 =>
     (if v25 = (1 : Int32) then
      (Option.bind (isC 6 M23 f0) fun _ =>
      (Option.bind (p_X7_write f0 (42 : Int32) M23) fun M28 =>
      (pl_X7_printSchool_66 k1 f0 f1 n (y2 + (1 : Int32)) M28)
      )
      )
     else
      (pl_X7_printSchool_66 k1 f0 f1 n (y2 + (1 : Int32)) M23)
     )
     )
     )
     )
     )
     )
     )
    )
    )
    )
set_option maxHeartbeats 4000000 in
set_option maxRecDepth 100000 in
theorem wl_X7_printSchool_66 {G : gG} {p : Program} {l : Launch} {e : Env} {s : State} {m : MethodId} {args : Array Value} {below : List Frame} {meth : Method} {c : Code} {A : Nat → Prop} {r : Int32} {M' : Mem} {k1 : Mem → Option (Int32 × Mem)} {f0 : Nat} {f1 : Int32} (C0 : cx G p s m args c cX7_printSchool RX7 4 A) (hr : meth.sig.returnType = (some FieldType.int)) (hlk : meth.locks = false) (hG : GOK G) (hk1 : ∀ (M : Mem) (H : Heap) (locs : List Loc) (ls : Array Slot), mm G A s M H locs → lv_has ls 4 [(0, .ref f0), (1, .int f1)] → k1 M = some (r, M') → W p l e rm_X7_printSchool s m args below meth c H locs 0 0 (MQ below (CQ G M' (some (.int r)) A) args s 0 0 A) (F0 m 114 ls [])) : ∀ (n : Nat) (y2 : Int32) (M : Mem) (H : Heap) (locs : List Loc) (ls : Array Slot), mm G A s M H locs → lv_has ls 4 [(0, .ref f0), (1, .int f1), (2, .int y2)] → pl_X7_printSchool_66 k1 f0 f1 n y2 M = some (r, M') → W p l e rm_X7_printSchool s m args below meth c H locs 0 0 (MQ below (CQ G M' (some (.int r)) A) args s 0 0 A) (F0 m 66 ls []) := by
  have hx := C0.1
  have hb := C0.2.1
  have hown := C0.2.2.2.1
  have hts := C0.2.2.2.2.1
  intro n
  induction n with
  | zero => intro y2 M H locs ls hM hl hp; rw [pl_X7_printSchool_66] at hp; cases hp
  | succ n ih =>
    intro y2 M H locs ls hM hl hp
    rw [pl_X7_printSchool_66] at hp
    refine lv_iload_n hx hb dX7_printSchool_66 rfl (lv_at hl 2 rfl) ?_
    refine lv_aload_n hx hb dX7_printSchool_67 rfl (lv_at hl 0 rfl) ?_
    refine lv_iload_n hx hb dX7_printSchool_68 rfl (lv_at hl 1 rfl) ?_
    obtain ⟨_, h17, hp⟩ := ob hp
    obtain ⟨v18, hv18, hp⟩ := ob hp
    refine mr_V1 (As := [.int f1]) (rest := [.int y2]) C0 cbX7 hM h17 rfl (w_X7_holders hG hv18) tw_1479 tw_1481 tws_36 tw_7 tw_1482 yk_X7_holders (by decide) rfl hl.1 (Nat.le_of_ble_eq_true rfl) dX7_printSchool_69 rfl (fun H locs hM => ?_)
    refine lv_icmp_ge (tgt := 114) hx hb dX7_printSchool_72 (by decide) (fun c19 => ?_) (fun c19 => ?_)
    · replace hp := oT c19 hp
      exact hk1  _ _ _ _ hM (lv_sub hl [0, 1] rfl) hp
    · replace hp := oF c19 hp
      refine lv_aload_n hx hb dX7_printSchool_75 rfl (lv_at hl 0 rfl) ?_
      refine lv_iload_n hx hb dX7_printSchool_76 rfl (lv_at hl 1 rfl) ?_
      refine lv_iload_n hx hb dX7_printSchool_77 rfl (lv_at hl 2 rfl) ?_
      refine lv_iconst (v := 0) hx hb dX7_printSchool_78 (by decide) ?_
      obtain ⟨_, h20, hp⟩ := ob hp
      obtain ⟨v21, hv21, hp⟩ := ob hp
      refine mr_V1 (As := [.int f1, .int y2, .int (0 : Int32)]) (rest := []) C0 cbX7 hM h20 rfl (w_X7_standsAt hG hv21) tw_1575 tw_1577 tws_50 tw_7 tw_1578 yk_X7_standsAt (by decide) rfl hl.1 (Nat.le_of_ble_eq_true rfl) dX7_printSchool_79 rfl (fun H locs hM => ?_)
      refine lv_istore_n (lv' := [(3, .int v21), (0, .ref f0), (1, .int f1), (2, .int y2)]) hx hb dX7_printSchool_82 rfl hl (by decide) rfl (fun ls hl => ?_)
      refine lv_aload_n hx hb dX7_printSchool_83 rfl (lv_at hl 1 rfl) ?_
      refine lv_iload_n hx hb dX7_printSchool_84 rfl (lv_at hl 0 rfl) ?_
      obtain ⟨_, h22, hp⟩ := ob hp
      obtain ⟨M23, hM23, hp⟩ := ob hp
      refine mr_V0 (As := [.int v21]) (rest := []) C0 cbX7 hM h22 rfl (w_X7_writeChild hG hM23) tw_1824 tw_1826 tws_73 tw_7 tw_1827 yk_X7_writeChild (by decide) rfl hl.1 (Nat.le_of_ble_eq_true rfl) dX7_printSchool_85 rfl (fun H locs hM => ?_)
      refine lv_aload_n hx hb dX7_printSchool_88 rfl (lv_at hl 1 rfl) ?_
      obtain ⟨v24, hv24, hp⟩ := ob hp
      refine mr_getR C0 cbX7 hM 0 (by decide) tw_1224 hv24 dX7_printSchool_89 ?_
      refine lv_sipush (v := 444) hx hb dX7_printSchool_92 (by decide) ?_
      refine lv_iload_n hx hb dX7_printSchool_95 rfl (lv_at hl 0 rfl) ?_
      refine lv_iadd hx hb dX7_printSchool_96 ?_
      obtain ⟨v25, hv25, hp⟩ := ob hp
      refine mr_iald C0 hM hv25 dX7_printSchool_97 ?_
      refine lv_iconst (v := 1) hx hb dX7_printSchool_98 (by decide) ?_
      refine lv_icmp_ne (tgt := 108) hx hb dX7_printSchool_99 (by decide) (fun c26 => ?_) (fun c26 => ?_)
      · replace hp := oF c26 hp
        refine lv_iinc (v := (y2 + (1 : Int32))) (lv' := [(2, .int (y2 + (1 : Int32))), (3, .int v21), (0, .ref f0), (1, .int f1)]) hx hb dX7_printSchool_108 hl (k := 3) rfl rfl (by decide) rfl (fun ls hl => ?_)
        refine lv_goto (tgt := 66) hx hb dX7_printSchool_111 (by decide) ?_
        exact ih _ _ _ _ _ hM (lv_sub hl [2, 3, 0] rfl) hp
      · replace hp := oT c26 hp
        refine lv_aload_n hx hb dX7_printSchool_102 rfl (lv_at hl 1 rfl) ?_
        refine lv_bipush (v := 42) hx hb dX7_printSchool_103 (by decide) ?_
        obtain ⟨_, h27, hp⟩ := ob hp
        obtain ⟨M28, hM28, hp⟩ := ob hp
        refine mr_V0 (As := [.int (42 : Int32)]) (rest := []) C0 cbX7 hM h27 rfl (w_X7_write hG hM28) tw_1820 tw_1822 tws_72 tw_7 tw_1823 yk_X7_write (by decide) rfl hl.1 (Nat.le_of_ble_eq_true rfl) dX7_printSchool_105 rfl (fun H locs hM => ?_)
        refine lv_iinc (v := (y2 + (1 : Int32))) (lv' := [(2, .int (y2 + (1 : Int32))), (3, .int v21), (0, .ref f0), (1, .int f1)]) hx hb dX7_printSchool_108 hl (k := 3) rfl rfl (by decide) rfl (fun ls hl => ?_)
        refine lv_goto (tgt := 66) hx hb dX7_printSchool_111 (by decide) ?_
        exact ih _ _ _ _ _ hM (lv_sub hl [2, 3, 0] rfl) hp
def pl_X7_printSchool_122 (k1 : Mem → Option (Int32 × Mem)) (f0 : Nat) (f1 : Int32) : Nat → Int32 → Mem → Option (Int32 × Mem)
  | 0, _, _ => none
  | n + 1, y2, M =>
    (Option.bind (isC 6 M f0) fun _ =>
    (Option.bind (p_X7_waitingMany f0 f1 M) fun v33 =>
    (if v33 ≤ y2 then
     (k1  M)
    else
     (Option.bind (isC 6 M f0) fun _ =>
     (Option.bind (p_X7_standsAt f0 f1 y2 (1 : Int32) M) fun v36 =>
     (Option.bind (isC 6 M f0) fun _ =>
     (Option.bind (p_X7_writeChild f0 v36 M) fun M38 =>
     (pl_X7_printSchool_122 k1 f0 f1 n (y2 + (1 : Int32)) M38)
     )
     )
     )
     )
    )
    )
    )
set_option maxHeartbeats 4000000 in
set_option maxRecDepth 100000 in
theorem wl_X7_printSchool_122 {G : gG} {p : Program} {l : Launch} {e : Env} {s : State} {m : MethodId} {args : Array Value} {below : List Frame} {meth : Method} {c : Code} {A : Nat → Prop} {r : Int32} {M' : Mem} {k1 : Mem → Option (Int32 × Mem)} {f0 : Nat} {f1 : Int32} (C0 : cx G p s m args c cX7_printSchool RX7 4 A) (hr : meth.sig.returnType = (some FieldType.int)) (hlk : meth.locks = false) (hG : GOK G) (hk1 : ∀ (M : Mem) (H : Heap) (locs : List Loc) (ls : Array Slot), mm G A s M H locs → lv_has ls 4 [(0, .ref f0)] → k1 M = some (r, M') → W p l e rm_X7_printSchool s m args below meth c H locs 0 0 (MQ below (CQ G M' (some (.int r)) A) args s 0 0 A) (F0 m 148 ls [])) : ∀ (n : Nat) (y2 : Int32) (M : Mem) (H : Heap) (locs : List Loc) (ls : Array Slot), mm G A s M H locs → lv_has ls 4 [(0, .ref f0), (1, .int f1), (2, .int y2)] → pl_X7_printSchool_122 k1 f0 f1 n y2 M = some (r, M') → W p l e rm_X7_printSchool s m args below meth c H locs 0 0 (MQ below (CQ G M' (some (.int r)) A) args s 0 0 A) (F0 m 122 ls []) := by
  have hx := C0.1
  have hb := C0.2.1
  have hown := C0.2.2.2.1
  have hts := C0.2.2.2.2.1
  intro n
  induction n with
  | zero => intro y2 M H locs ls hM hl hp; rw [pl_X7_printSchool_122] at hp; cases hp
  | succ n ih =>
    intro y2 M H locs ls hM hl hp
    rw [pl_X7_printSchool_122] at hp
    refine lv_iload_n hx hb dX7_printSchool_122 rfl (lv_at hl 2 rfl) ?_
    refine lv_aload_n hx hb dX7_printSchool_123 rfl (lv_at hl 0 rfl) ?_
    refine lv_iload_n hx hb dX7_printSchool_124 rfl (lv_at hl 1 rfl) ?_
    obtain ⟨_, h32, hp⟩ := ob hp
    obtain ⟨v33, hv33, hp⟩ := ob hp
    refine mr_V1 (As := [.int f1]) (rest := [.int y2]) C0 cbX7 hM h32 rfl (w_X7_waitingMany hG hv33) tw_1487 tw_1489 tws_38 tw_7 tw_1490 yk_X7_waitingMany (by decide) rfl hl.1 (Nat.le_of_ble_eq_true rfl) dX7_printSchool_125 rfl (fun H locs hM => ?_)
    refine lv_icmp_ge (tgt := 148) hx hb dX7_printSchool_128 (by decide) (fun c34 => ?_) (fun c34 => ?_)
    · replace hp := oT c34 hp
      exact hk1  _ _ _ _ hM (lv_sub hl [0] rfl) hp
    · replace hp := oF c34 hp
      refine lv_aload_n hx hb dX7_printSchool_131 rfl (lv_at hl 0 rfl) ?_
      refine lv_aload_n hx hb dX7_printSchool_132 rfl (lv_at hl 0 rfl) ?_
      refine lv_iload_n hx hb dX7_printSchool_133 rfl (lv_at hl 1 rfl) ?_
      refine lv_iload_n hx hb dX7_printSchool_134 rfl (lv_at hl 2 rfl) ?_
      refine lv_iconst (v := 1) hx hb dX7_printSchool_135 (by decide) ?_
      obtain ⟨_, h35, hp⟩ := ob hp
      obtain ⟨v36, hv36, hp⟩ := ob hp
      refine mr_V1 (As := [.int f1, .int y2, .int (1 : Int32)]) (rest := [.ref f0]) C0 cbX7 hM h35 rfl (w_X7_standsAt hG hv36) tw_1575 tw_1577 tws_50 tw_7 tw_1578 yk_X7_standsAt (by decide) rfl hl.1 (Nat.le_of_ble_eq_true rfl) dX7_printSchool_136 rfl (fun H locs hM => ?_)
      obtain ⟨_, h37, hp⟩ := ob hp
      obtain ⟨M38, hM38, hp⟩ := ob hp
      refine mr_V0 (As := [.int v36]) (rest := []) C0 cbX7 hM h37 rfl (w_X7_writeChild hG hM38) tw_1824 tw_1826 tws_73 tw_7 tw_1827 yk_X7_writeChild (by decide) rfl hl.1 (Nat.le_of_ble_eq_true rfl) dX7_printSchool_139 rfl (fun H locs hM => ?_)
      refine lv_iinc (v := (y2 + (1 : Int32))) (lv' := [(2, .int (y2 + (1 : Int32))), (0, .ref f0), (1, .int f1)]) hx hb dX7_printSchool_142 hl (k := 2) rfl rfl (by decide) rfl (fun ls hl => ?_)
      refine lv_goto (tgt := 122) hx hb dX7_printSchool_145 (by decide) ?_
      exact ih _ _ _ _ _ hM (lv_sub hl [1, 2, 0] rfl) hp
def p_X7_printSchool (a0 : Nat) (a1 : Int32) (M : Mem) : Option (Int32 × Mem) :=
  (Option.bind (isC 6 M a0) fun _ =>
  (ob2 (p_X7_noSchool a0 a1 M) fun v2 M3 =>
  (if v2 = 0 then
   (Option.bind (sV 6 27 M3 a0 (.int (0 : Int32))) fun M5 =>
   (pl_X7_printSchool_17
    (fun  (M14 : Mem) =>
     (Option.bind (isC 6 M14 a0) fun _ =>
     (Option.bind (p_X7_write a0 (58 : Int32) M14) fun M16 =>
     (pl_X7_printSchool_66
      (fun  (M29 : Mem) =>
       (Option.bind (isC 6 M29 a0) fun _ =>
       (Option.bind (p_X7_write a0 (47 : Int32) M29) fun M31 =>
       (pl_X7_printSchool_122
        (fun  (M39 : Mem) =>
         (Option.bind (gI 6 27 M39 a0) fun v40 =>
         some (v40, M39)
         )
        )
        a0 a1 FU (0 : Int32) M31)
       )
       )
      )
      a0 a1 FU (0 : Int32) M16)
     )
     )
    )
    a0 a1 FU (0 : Int32) M5)
   )
  else
   some ((0 : Int32), M3)
  )
  )
  )
theorem yk_X7_printSchool : yok yX7_printSchool 1 := by decide +kernel
set_option maxHeartbeats 4000000 in
set_option maxRecDepth 100000 in
theorem w_X7_printSchool {G : gG} (hG : GOK G) {l : Launch} {a0 : Nat} {a1 : Int32} {M : Mem} {r : Int32} {M' : Mem} (hp : p_X7_printSchool a0 a1 M = some (r, M')) : CT G l yX7_printSchool (wT yX7_printSchool cX7_printSchool 4 (some FieldType.int)) rm_X7_printSchool [.ref a0, .int a1] M (some (.int r)) M' 0 0 := by
  refine CT_of (own := RX7) (maxL := 4) (ret := (some FieldType.int)) hG (by decide) rfl (Nat.le_of_ble_eq_true rfl) (fun p e s m below meth c A C0 hr hlk hM ls hl => ?_)
  have hl : lv_has ls 4 [(0, .ref a0), (1, .int a1)] := hl
  generalize ([.ref a0, .int a1] : List Value).toArray = args at C0 ⊢
  skip
  have hx := C0.1
  have hb := C0.2.1
  have hown := C0.2.2.2.1
  have hts := C0.2.2.2.2.1
  unfold p_X7_printSchool at hp
  refine lv_aload_n hx hb dX7_printSchool_0 rfl (lv_at hl 0 rfl) ?_
  refine lv_iload_n hx hb dX7_printSchool_1 rfl (lv_at hl 1 rfl) ?_
  obtain ⟨_, h1, hp⟩ := ob hp
  obtain ⟨v2, M3, hv2, hp⟩ := ob3 hp
  refine mr_V1 (As := [.int a1]) (rest := []) C0 cbX7 hM h1 rfl (w_X7_noSchool hG hv2) tw_1471 tw_1473 tws_34 tw_7 tw_1474 yk_X7_noSchool (by decide) rfl hl.1 (Nat.le_of_ble_eq_true rfl) dX7_printSchool_2 rfl (fun H locs hM => ?_)
  refine lv_if_eq (tgt := 10) hx hb dX7_printSchool_5 (by decide) (fun c4 => ?_) (fun c4 => ?_)
  · replace hp := oT c4 hp
    refine lv_aload_n hx hb dX7_printSchool_10 rfl (lv_at hl 0 rfl) ?_
    refine lv_iconst (v := 0) hx hb dX7_printSchool_11 (by decide) ?_
    obtain ⟨M5, hM5, hp⟩ := ob hp
    refine mr_putI C0 cbX7 hM 27 (by decide) rfl rfl tw_1251 hM5 dX7_printSchool_12 (fun H locs hM => ?_)
    refine lv_iconst (v := 0) hx hb dX7_printSchool_15 (by decide) ?_
    refine lv_istore_n (lv' := [(2, .int (0 : Int32)), (0, .ref a0), (1, .int a1)]) hx hb dX7_printSchool_16 rfl hl (by decide) rfl (fun ls hl => ?_)
    refine wl_X7_printSchool_17 C0 hr hlk hG (fun M14 H locs ls hM hl hp => ?_) FU _ _ _ _ _ hM (lv_sub hl [1, 2, 0] rfl) hp
    refine lv_aload_n hx hb dX7_printSchool_58 rfl (lv_at hl 0 rfl) ?_
    refine lv_bipush (v := 58) hx hb dX7_printSchool_59 (by decide) ?_
    obtain ⟨_, h15, hp⟩ := ob hp
    obtain ⟨M16, hM16, hp⟩ := ob hp
    refine mr_V0 (As := [.int (58 : Int32)]) (rest := []) C0 cbX7 hM h15 rfl (w_X7_write hG hM16) tw_1820 tw_1822 tws_72 tw_7 tw_1823 yk_X7_write (by decide) rfl hl.1 (Nat.le_of_ble_eq_true rfl) dX7_printSchool_61 rfl (fun H locs hM => ?_)
    refine lv_iconst (v := 0) hx hb dX7_printSchool_64 (by decide) ?_
    refine lv_istore_n (lv' := [(2, .int (0 : Int32)), (0, .ref a0), (1, .int a1)]) hx hb dX7_printSchool_65 rfl hl (by decide) rfl (fun ls hl => ?_)
    refine wl_X7_printSchool_66 C0 hr hlk hG (fun M29 H locs ls hM hl hp => ?_) FU _ _ _ _ _ hM (lv_sub hl [1, 2, 0] rfl) hp
    refine lv_aload_n hx hb dX7_printSchool_114 rfl (lv_at hl 0 rfl) ?_
    refine lv_bipush (v := 47) hx hb dX7_printSchool_115 (by decide) ?_
    obtain ⟨_, h30, hp⟩ := ob hp
    obtain ⟨M31, hM31, hp⟩ := ob hp
    refine mr_V0 (As := [.int (47 : Int32)]) (rest := []) C0 cbX7 hM h30 rfl (w_X7_write hG hM31) tw_1820 tw_1822 tws_72 tw_7 tw_1823 yk_X7_write (by decide) rfl hl.1 (Nat.le_of_ble_eq_true rfl) dX7_printSchool_117 rfl (fun H locs hM => ?_)
    refine lv_iconst (v := 0) hx hb dX7_printSchool_120 (by decide) ?_
    refine lv_istore_n (lv' := [(2, .int (0 : Int32)), (0, .ref a0), (1, .int a1)]) hx hb dX7_printSchool_121 rfl hl (by decide) rfl (fun ls hl => ?_)
    refine wl_X7_printSchool_122 C0 hr hlk hG (fun M39 H locs ls hM hl hp => ?_) FU _ _ _ _ _ hM (lv_sub hl [1, 2, 0] rfl) hp
    refine lv_aload_n hx hb dX7_printSchool_148 rfl (lv_at hl 0 rfl) ?_
    obtain ⟨v40, hv40, hp⟩ := ob hp
    refine mr_getI C0 cbX7 hM 27 (by decide) tw_1251 hv40 dX7_printSchool_149 ?_
    exact mr_iret C0 hr hlk hM (Prod.mk.inj (Option.some.inj hp)).2 (Prod.mk.inj (Option.some.inj hp)).1 (Nat.le_refl _) (Nat.le_refl _) dX7_printSchool_152
  · replace hp := oF c4 hp
    refine lv_iconst (v := 0) hx hb dX7_printSchool_8 (by decide) ?_
    exact mr_iret C0 hr hlk hM (Prod.mk.inj (Option.some.inj hp)).2 (Prod.mk.inj (Option.some.inj hp)).1 (Nat.le_refl _) (Nat.le_refl _) dX7_printSchool_9
abbrev rm_X7_outputByte : Room := { frames := 1, cells := 0, slots := 0, locals := 22 }
def p_X7_outputByte (a0 : Nat) (a1 : Int32) (M : Mem) : Option (Int32 × Mem) :=
  (Option.bind (sV 6 9 M a0 (.int (0 : Int32))) fun M1 =>
  (Option.bind (gI 6 27 M1 a0) fun v2 =>
  (Option.bind (p_X7_inRange a1 (0 : Int32) (v2 - (1 : Int32)) M1) fun v3 =>
  (if v3 = 0 then
   some ((-1 : Int32), M1)
  else
   (Option.bind (gR 6 26 M1 a0) fun v5 =>
   (Option.bind (aI 0 M1 v5 a1) fun v6 =>
   some (v6, M1)
   )
   )
  )
  )
  )
  )
theorem yk_X7_outputByte : yok yX7_outputByte 1 := by decide +kernel
set_option maxHeartbeats 4000000 in
set_option maxRecDepth 100000 in
theorem w_X7_outputByte {G : gG} (hG : GOK G) {l : Launch} {a0 : Nat} {a1 : Int32} {M : Mem} {r : Int32} {M' : Mem} (hp : p_X7_outputByte a0 a1 M = some (r, M')) : CT G l yX7_outputByte (wT yX7_outputByte cX7_outputByte 2 (some FieldType.int)) rm_X7_outputByte [.ref a0, .int a1] M (some (.int r)) M' 0 0 := by
  refine CT_of (own := RX7) (maxL := 2) (ret := (some FieldType.int)) hG (by decide) rfl (Nat.le_of_ble_eq_true rfl) (fun p e s m below meth c A C0 hr hlk hM ls hl => ?_)
  have hl : lv_has ls 2 [(0, .ref a0), (1, .int a1)] := hl
  generalize ([.ref a0, .int a1] : List Value).toArray = args at C0 ⊢
  skip
  have hx := C0.1
  have hb := C0.2.1
  have hown := C0.2.2.2.1
  have hts := C0.2.2.2.2.1
  unfold p_X7_outputByte at hp
  refine lv_aload_n hx hb dX7_outputByte_0 rfl (lv_at hl 0 rfl) ?_
  refine lv_iconst (v := 0) hx hb dX7_outputByte_1 (by decide) ?_
  obtain ⟨M1, hM1, hp⟩ := ob hp
  refine mr_putI C0 cbX7 hM 9 (by decide) rfl rfl tw_1233 hM1 dX7_outputByte_2 (fun H locs hM => ?_)
  refine lv_iload_n hx hb dX7_outputByte_5 rfl (lv_at hl 1 rfl) ?_
  refine lv_iconst (v := 0) hx hb dX7_outputByte_6 (by decide) ?_
  refine lv_aload_n hx hb dX7_outputByte_7 rfl (lv_at hl 0 rfl) ?_
  obtain ⟨v2, hv2, hp⟩ := ob hp
  refine mr_getI C0 cbX7 hM 27 (by decide) tw_1251 hv2 dX7_outputByte_8 ?_
  refine lv_iconst (v := 1) hx hb dX7_outputByte_11 (by decide) ?_
  refine lv_isub hx hb dX7_outputByte_12 ?_
  obtain ⟨v3, hv3, hp⟩ := ob hp
  refine mr_S1 (As := [.int a1, .int (0 : Int32), .int (v2 - (1 : Int32))]) (rest := []) C0 hM (w_X7_inRange hG hv3) tw_1325 tw_1326 tw_7 tw_1327 yk_X7_inRange (by decide) rfl hl.1 (Nat.le_of_ble_eq_true rfl) dX7_outputByte_13 rfl (fun H locs hM => ?_)
  refine lv_if_eq (tgt := 28) hx hb dX7_outputByte_16 (by decide) (fun c4 => ?_) (fun c4 => ?_)
  · replace hp := oT c4 hp
    refine lv_iconst (v := -1) hx hb dX7_outputByte_28 (by decide) ?_
    exact mr_iret C0 hr hlk hM (Prod.mk.inj (Option.some.inj hp)).2 (Prod.mk.inj (Option.some.inj hp)).1 (Nat.le_refl _) (Nat.le_refl _) dX7_outputByte_29
  · replace hp := oF c4 hp
    refine lv_aload_n hx hb dX7_outputByte_19 rfl (lv_at hl 0 rfl) ?_
    obtain ⟨v5, hv5, hp⟩ := ob hp
    refine mr_getR C0 cbX7 hM 26 (by decide) tw_1250 hv5 dX7_outputByte_20 ?_
    refine lv_iload_n hx hb dX7_outputByte_23 rfl (lv_at hl 1 rfl) ?_
    obtain ⟨v6, hv6, hp⟩ := ob hp
    refine mr_iald C0 hM hv6 dX7_outputByte_24 ?_
    refine lv_goto (tgt := 29) hx hb dX7_outputByte_25 (by decide) ?_
    exact mr_iret C0 hr hlk hM (Prod.mk.inj (Option.some.inj hp)).2 (Prod.mk.inj (Option.some.inj hp)).1 (Nat.le_refl _) (Nat.le_refl _) dX7_outputByte_29
abbrev rm_X7_undo : Room := { frames := 1, cells := 0, slots := 0, locals := 25 }
def p_X7_undo (a0 : Nat) (M : Mem) : Option (Int32 × Mem) :=
  (Option.bind (sV 6 9 M a0 (.int (0 : Int32))) fun M1 =>
  (Option.bind (gI 6 5 M1 a0) fun v2 =>
  (if v2 = 0 then
   some ((-1 : Int32), M1)
  else
   (Option.bind (gI 6 5 M1 a0) fun v4 =>
   (Option.bind (sV 6 5 M1 a0 (.int (v4 - (1 : Int32)))) fun M5 =>
   (Option.bind (gR 6 4 M5 a0) fun v6 =>
   (Option.bind (gI 6 5 M5 a0) fun v7 =>
   (Option.bind (gR 6 0 M5 a0) fun v8 =>
   (Option.bind (p_X7_copies v6 ((764 : Int32) * v7) v8 (0 : Int32) (764 : Int32) M5) fun M9 =>
   (Option.bind (gI 6 5 M9 a0) fun v10 =>
   some (v10, M9)
   )
   )
   )
   )
   )
   )
   )
  )
  )
  )
theorem yk_X7_undo : yok yX7_undo 0 := by decide +kernel
set_option maxHeartbeats 4000000 in
set_option maxRecDepth 100000 in
theorem w_X7_undo {G : gG} (hG : GOK G) {l : Launch} {a0 : Nat} {M : Mem} {r : Int32} {M' : Mem} (hp : p_X7_undo a0 M = some (r, M')) : CT G l yX7_undo (wT yX7_undo cX7_undo 1 (some FieldType.int)) rm_X7_undo [.ref a0] M (some (.int r)) M' 0 0 := by
  refine CT_of (own := RX7) (maxL := 1) (ret := (some FieldType.int)) hG (by decide) rfl (Nat.le_of_ble_eq_true rfl) (fun p e s m below meth c A C0 hr hlk hM ls hl => ?_)
  have hl : lv_has ls 1 [(0, .ref a0)] := hl
  generalize ([.ref a0] : List Value).toArray = args at C0 ⊢
  skip
  have hx := C0.1
  have hb := C0.2.1
  have hown := C0.2.2.2.1
  have hts := C0.2.2.2.2.1
  unfold p_X7_undo at hp
  refine lv_aload_n hx hb dX7_undo_0 rfl (lv_at hl 0 rfl) ?_
  refine lv_iconst (v := 0) hx hb dX7_undo_1 (by decide) ?_
  obtain ⟨M1, hM1, hp⟩ := ob hp
  refine mr_putI C0 cbX7 hM 9 (by decide) rfl rfl tw_1233 hM1 dX7_undo_2 (fun H locs hM => ?_)
  refine lv_aload_n hx hb dX7_undo_5 rfl (lv_at hl 0 rfl) ?_
  obtain ⟨v2, hv2, hp⟩ := ob hp
  refine mr_getI C0 cbX7 hM 5 (by decide) tw_1229 hv2 dX7_undo_6 ?_
  refine lv_if_ne (tgt := 14) hx hb dX7_undo_9 (by decide) (fun c3 => ?_) (fun c3 => ?_)
  · replace hp := oF c3 hp
    refine lv_aload_n hx hb dX7_undo_14 rfl (lv_at hl 0 rfl) ?_
    refine lv_dup hx hb dX7_undo_15 rfl ?_
    obtain ⟨v4, hv4, hp⟩ := ob hp
    refine mr_getI C0 cbX7 hM 5 (by decide) tw_1229 hv4 dX7_undo_16 ?_
    refine lv_iconst (v := 1) hx hb dX7_undo_19 (by decide) ?_
    refine lv_isub hx hb dX7_undo_20 ?_
    obtain ⟨M5, hM5, hp⟩ := ob hp
    refine mr_putI C0 cbX7 hM 5 (by decide) rfl rfl tw_1229 hM5 dX7_undo_21 (fun H locs hM => ?_)
    refine lv_aload_n hx hb dX7_undo_24 rfl (lv_at hl 0 rfl) ?_
    obtain ⟨v6, hv6, hp⟩ := ob hp
    refine mr_getR C0 cbX7 hM 4 (by decide) tw_1228 hv6 dX7_undo_25 ?_
    refine lv_sipush (v := 764) hx hb dX7_undo_28 (by decide) ?_
    refine lv_aload_n hx hb dX7_undo_31 rfl (lv_at hl 0 rfl) ?_
    obtain ⟨v7, hv7, hp⟩ := ob hp
    refine mr_getI C0 cbX7 hM 5 (by decide) tw_1229 hv7 dX7_undo_32 ?_
    refine lv_imul hx hb dX7_undo_35 ?_
    refine lv_aload_n hx hb dX7_undo_36 rfl (lv_at hl 0 rfl) ?_
    obtain ⟨v8, hv8, hp⟩ := ob hp
    refine mr_getR C0 cbX7 hM 0 (by decide) tw_1224 hv8 dX7_undo_37 ?_
    refine lv_iconst (v := 0) hx hb dX7_undo_40 (by decide) ?_
    refine lv_sipush (v := 764) hx hb dX7_undo_41 (by decide) ?_
    obtain ⟨M9, hM9, hp⟩ := ob hp
    refine mr_S0 (As := [.ref v6, .int ((764 : Int32) * v7), .ref v8, .int (0 : Int32), .int (764 : Int32)]) (rest := []) C0 hM (w_X7_copies hG hM9) tw_1332 tw_1333 tw_7 tw_1334 yk_X7_copies (by decide) rfl hl.1 (Nat.le_of_ble_eq_true rfl) dX7_undo_44 rfl (fun H locs hM => ?_)
    refine lv_aload_n hx hb dX7_undo_47 rfl (lv_at hl 0 rfl) ?_
    obtain ⟨v10, hv10, hp⟩ := ob hp
    refine mr_getI C0 cbX7 hM 5 (by decide) tw_1229 hv10 dX7_undo_48 ?_
    exact mr_iret C0 hr hlk hM (Prod.mk.inj (Option.some.inj hp)).2 (Prod.mk.inj (Option.some.inj hp)).1 (Nat.le_refl _) (Nat.le_refl _) dX7_undo_51
  · replace hp := oT c3 hp
    refine lv_iconst (v := -1) hx hb dX7_undo_12 (by decide) ?_
    exact mr_iret C0 hr hlk hM (Prod.mk.inj (Option.some.inj hp)).2 (Prod.mk.inj (Option.some.inj hp)).1 (Nat.le_refl _) (Nat.le_refl _) dX7_undo_13
abbrev rm_X7_saveState : Room := { frames := 1, cells := 0, slots := 0, locals := 25 }
def p_X7_saveState (a0 : Nat) (M : Mem) : Option (Int32 × Mem) :=
  (Option.bind (sV 6 9 M a0 (.int (0 : Int32))) fun M1 =>
  (Option.bind (gR 6 0 M1 a0) fun v2 =>
  (Option.bind (gR 6 3 M1 a0) fun v3 =>
  (Option.bind (p_X7_copies v2 (0 : Int32) v3 (0 : Int32) (764 : Int32) M1) fun M4 =>
  (Option.bind (sZ 6 6 M4 a0 (1 : Int32)) fun M5 =>
  (Option.bind (gR 6 0 M5 a0) fun v6 =>
  (Option.bind (aI 0 M5 v6 (1 : Int32)) fun v7 =>
  some (v7, M5)
  )
  )
  )
  )
  )
  )
  )
theorem yk_X7_saveState : yok yX7_saveState 0 := by decide +kernel
set_option maxHeartbeats 4000000 in
set_option maxRecDepth 100000 in
theorem w_X7_saveState {G : gG} (hG : GOK G) {l : Launch} {a0 : Nat} {M : Mem} {r : Int32} {M' : Mem} (hp : p_X7_saveState a0 M = some (r, M')) : CT G l yX7_saveState (wT yX7_saveState cX7_saveState 1 (some FieldType.int)) rm_X7_saveState [.ref a0] M (some (.int r)) M' 0 0 := by
  refine CT_of (own := RX7) (maxL := 1) (ret := (some FieldType.int)) hG (by decide) rfl (Nat.le_of_ble_eq_true rfl) (fun p e s m below meth c A C0 hr hlk hM ls hl => ?_)
  have hl : lv_has ls 1 [(0, .ref a0)] := hl
  generalize ([.ref a0] : List Value).toArray = args at C0 ⊢
  skip
  have hx := C0.1
  have hb := C0.2.1
  have hown := C0.2.2.2.1
  have hts := C0.2.2.2.2.1
  unfold p_X7_saveState at hp
  refine lv_aload_n hx hb dX7_saveState_0 rfl (lv_at hl 0 rfl) ?_
  refine lv_iconst (v := 0) hx hb dX7_saveState_1 (by decide) ?_
  obtain ⟨M1, hM1, hp⟩ := ob hp
  refine mr_putI C0 cbX7 hM 9 (by decide) rfl rfl tw_1233 hM1 dX7_saveState_2 (fun H locs hM => ?_)
  refine lv_aload_n hx hb dX7_saveState_5 rfl (lv_at hl 0 rfl) ?_
  obtain ⟨v2, hv2, hp⟩ := ob hp
  refine mr_getR C0 cbX7 hM 0 (by decide) tw_1224 hv2 dX7_saveState_6 ?_
  refine lv_iconst (v := 0) hx hb dX7_saveState_9 (by decide) ?_
  refine lv_aload_n hx hb dX7_saveState_10 rfl (lv_at hl 0 rfl) ?_
  obtain ⟨v3, hv3, hp⟩ := ob hp
  refine mr_getR C0 cbX7 hM 3 (by decide) tw_1227 hv3 dX7_saveState_11 ?_
  refine lv_iconst (v := 0) hx hb dX7_saveState_14 (by decide) ?_
  refine lv_sipush (v := 764) hx hb dX7_saveState_15 (by decide) ?_
  obtain ⟨M4, hM4, hp⟩ := ob hp
  refine mr_S0 (As := [.ref v2, .int (0 : Int32), .ref v3, .int (0 : Int32), .int (764 : Int32)]) (rest := []) C0 hM (w_X7_copies hG hM4) tw_1332 tw_1333 tw_7 tw_1334 yk_X7_copies (by decide) rfl hl.1 (Nat.le_of_ble_eq_true rfl) dX7_saveState_18 rfl (fun H locs hM => ?_)
  refine lv_aload_n hx hb dX7_saveState_21 rfl (lv_at hl 0 rfl) ?_
  refine lv_iconst (v := 1) hx hb dX7_saveState_22 (by decide) ?_
  obtain ⟨M5, hM5, hp⟩ := ob hp
  refine mr_putZ C0 cbX7 hM 6 (by decide) rfl rfl tw_1230 hM5 dX7_saveState_23 (fun H locs hM => ?_)
  refine lv_aload_n hx hb dX7_saveState_26 rfl (lv_at hl 0 rfl) ?_
  obtain ⟨v6, hv6, hp⟩ := ob hp
  refine mr_getR C0 cbX7 hM 0 (by decide) tw_1224 hv6 dX7_saveState_27 ?_
  refine lv_iconst (v := 1) hx hb dX7_saveState_30 (by decide) ?_
  obtain ⟨v7, hv7, hp⟩ := ob hp
  refine mr_iald C0 hM hv7 dX7_saveState_31 ?_
  exact mr_iret C0 hr hlk hM (Prod.mk.inj (Option.some.inj hp)).2 (Prod.mk.inj (Option.some.inj hp)).1 (Nat.le_refl _) (Nat.le_refl _) dX7_saveState_32
abbrev rm_X7_restoreState : Room := { frames := 1, cells := 0, slots := 0, locals := 25 }
def p_X7_restoreState (a0 : Nat) (M : Mem) : Option (Int32 × Mem) :=
  (Option.bind (sV 6 9 M a0 (.int (0 : Int32))) fun M1 =>
  (Option.bind (gI 6 6 M1 a0) fun v2 =>
  (jn (fun (s3 : Int32) =>
   (Option.bind (isC 6 M1 a0) fun _ =>
   (ob2 (p_X7_fails a0 s3 (1 : Int32) M1) fun v6 M7 =>
   (if v6 = 0 then
    (Option.bind (gR 6 3 M7 a0) fun v9 =>
    (Option.bind (gR 6 0 M7 a0) fun v10 =>
    (Option.bind (p_X7_copies v9 (0 : Int32) v10 (0 : Int32) (764 : Int32) M7) fun M11 =>
    (Option.bind (sV 6 5 M11 a0 (.int (0 : Int32))) fun M12 =>
    (Option.bind (gR 6 0 M12 a0) fun v13 =>
    (Option.bind (aI 0 M12 v13 (1 : Int32)) fun v14 =>
    some (v14, M12)
    )
    )
    )
    )
    )
    )
   else
    some ((0 : Int32), M7)
   )
   )
   )
  ) fun k4 =>
  (if v2 = 0 then
   (k4 (1 : Int32))
  else
   (k4 (0 : Int32))
  )
  )
  )
  )
theorem yk_X7_restoreState : yok yX7_restoreState 0 := by decide +kernel
set_option maxHeartbeats 4000000 in
set_option maxRecDepth 100000 in
theorem w_X7_restoreState {G : gG} (hG : GOK G) {l : Launch} {a0 : Nat} {M : Mem} {r : Int32} {M' : Mem} (hp : p_X7_restoreState a0 M = some (r, M')) : CT G l yX7_restoreState (wT yX7_restoreState cX7_restoreState 1 (some FieldType.int)) rm_X7_restoreState [.ref a0] M (some (.int r)) M' 0 0 := by
  refine CT_of (own := RX7) (maxL := 1) (ret := (some FieldType.int)) hG (by decide) rfl (Nat.le_of_ble_eq_true rfl) (fun p e s m below meth c A C0 hr hlk hM ls hl => ?_)
  have hl : lv_has ls 1 [(0, .ref a0)] := hl
  generalize ([.ref a0] : List Value).toArray = args at C0 ⊢
  skip
  have hx := C0.1
  have hb := C0.2.1
  have hown := C0.2.2.2.1
  have hts := C0.2.2.2.2.1
  unfold p_X7_restoreState at hp
  refine lv_aload_n hx hb dX7_restoreState_0 rfl (lv_at hl 0 rfl) ?_
  refine lv_iconst (v := 0) hx hb dX7_restoreState_1 (by decide) ?_
  obtain ⟨M1, hM1, hp⟩ := ob hp
  refine mr_putI C0 cbX7 hM 9 (by decide) rfl rfl tw_1233 hM1 dX7_restoreState_2 (fun H locs hM => ?_)
  refine lv_aload_n hx hb dX7_restoreState_5 rfl (lv_at hl 0 rfl) ?_
  refine lv_aload_n hx hb dX7_restoreState_6 rfl (lv_at hl 0 rfl) ?_
  obtain ⟨v2, hv2, hp⟩ := ob hp
  refine mr_getI C0 cbX7 hM 6 (by decide) tw_1230 hv2 dX7_restoreState_7 ?_
  obtain ⟨k4, ek4, hp⟩ := ojn hp
  have hk4 : ∀ (s3 : Int32) (H : Heap) (locs : List Loc) (ls : Array Slot), mm G A s M1 H locs → lv_has ls 1 [(0, .ref a0)] → k4 s3 = some (r, M') → W p l e rm_X7_restoreState s m args below meth c H locs 0 0 (MQ below (CQ G M' (some (.int r)) A) args s 0 0 A) (F0 m 18 ls [.int s3, .ref a0]) := by
    intro s3 H locs ls hM hl hp
    rw [ek4] at hp
    refine lv_iconst (v := 1) hx hb dX7_restoreState_18 (by decide) ?_
    obtain ⟨_, h5, hp⟩ := ob hp
    obtain ⟨v6, M7, hv6, hp⟩ := ob3 hp
    refine mr_V1 (As := [.int s3, .int (1 : Int32)]) (rest := []) C0 cbX7 hM h5 rfl (w_X7_fails hG hv6) tw_1459 tw_1461 tws_32 tw_7 tw_1462 yk_X7_fails (by decide) rfl hl.1 (Nat.le_of_ble_eq_true rfl) dX7_restoreState_19 rfl (fun H locs hM => ?_)
    refine lv_if_eq (tgt := 27) hx hb dX7_restoreState_22 (by decide) (fun c8 => ?_) (fun c8 => ?_)
    · replace hp := oT c8 hp
      refine lv_aload_n hx hb dX7_restoreState_27 rfl (lv_at hl 0 rfl) ?_
      obtain ⟨v9, hv9, hp⟩ := ob hp
      refine mr_getR C0 cbX7 hM 3 (by decide) tw_1227 hv9 dX7_restoreState_28 ?_
      refine lv_iconst (v := 0) hx hb dX7_restoreState_31 (by decide) ?_
      refine lv_aload_n hx hb dX7_restoreState_32 rfl (lv_at hl 0 rfl) ?_
      obtain ⟨v10, hv10, hp⟩ := ob hp
      refine mr_getR C0 cbX7 hM 0 (by decide) tw_1224 hv10 dX7_restoreState_33 ?_
      refine lv_iconst (v := 0) hx hb dX7_restoreState_36 (by decide) ?_
      refine lv_sipush (v := 764) hx hb dX7_restoreState_37 (by decide) ?_
      obtain ⟨M11, hM11, hp⟩ := ob hp
      refine mr_S0 (As := [.ref v9, .int (0 : Int32), .ref v10, .int (0 : Int32), .int (764 : Int32)]) (rest := []) C0 hM (w_X7_copies hG hM11) tw_1332 tw_1333 tw_7 tw_1334 yk_X7_copies (by decide) rfl hl.1 (Nat.le_of_ble_eq_true rfl) dX7_restoreState_40 rfl (fun H locs hM => ?_)
      refine lv_aload_n hx hb dX7_restoreState_43 rfl (lv_at hl 0 rfl) ?_
      refine lv_iconst (v := 0) hx hb dX7_restoreState_44 (by decide) ?_
      obtain ⟨M12, hM12, hp⟩ := ob hp
      refine mr_putI C0 cbX7 hM 5 (by decide) rfl rfl tw_1229 hM12 dX7_restoreState_45 (fun H locs hM => ?_)
      refine lv_aload_n hx hb dX7_restoreState_48 rfl (lv_at hl 0 rfl) ?_
      obtain ⟨v13, hv13, hp⟩ := ob hp
      refine mr_getR C0 cbX7 hM 0 (by decide) tw_1224 hv13 dX7_restoreState_49 ?_
      refine lv_iconst (v := 1) hx hb dX7_restoreState_52 (by decide) ?_
      obtain ⟨v14, hv14, hp⟩ := ob hp
      refine mr_iald C0 hM hv14 dX7_restoreState_53 ?_
      exact mr_iret C0 hr hlk hM (Prod.mk.inj (Option.some.inj hp)).2 (Prod.mk.inj (Option.some.inj hp)).1 (Nat.le_refl _) (Nat.le_refl _) dX7_restoreState_54
    · replace hp := oF c8 hp
      refine lv_iconst (v := 0) hx hb dX7_restoreState_25 (by decide) ?_
      exact mr_iret C0 hr hlk hM (Prod.mk.inj (Option.some.inj hp)).2 (Prod.mk.inj (Option.some.inj hp)).1 (Nat.le_refl _) (Nat.le_refl _) dX7_restoreState_26
  refine lv_if_ne (tgt := 17) hx hb dX7_restoreState_10 (by decide) (fun c15 => ?_) (fun c15 => ?_)
  · replace hp := oF c15 hp
    refine lv_iconst (v := 0) hx hb dX7_restoreState_17 (by decide) ?_
    exact hk4 _ _ _ _ hM (lv_sub hl [0] rfl) hp
  · replace hp := oT c15 hp
    refine lv_iconst (v := 1) hx hb dX7_restoreState_13 (by decide) ?_
    refine lv_goto (tgt := 18) hx hb dX7_restoreState_14 (by decide) ?_
    exact hk4 _ _ _ _ hM (lv_sub hl [0] rfl) hp
