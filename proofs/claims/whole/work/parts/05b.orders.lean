abbrev rmo_0 : Room := { frames := 0, cells := 0, slots := 0, locals := 0 }
theorem yk_X7_orders : yok yX7_orders 3 := by decide +kernel
abbrev rmo_1 : Room := { frames := 8, cells := 0, slots := 0, locals := 183 }
def pl_X7_orders_92 (rc : Nat → Int32 → Int32 → Int32 → Mem → Option Mem) (k1 : Mem → Option (Mem)) (f0 : Nat) (f1 : Int32) (f4 : Int32) (f5 : Int32) : Nat → Int32 → Mem → Option (Mem)
  | 0, _, _ => none
  | n + 1, y6, M =>
    (if f4 ≤ y6 then
     (k1  M)
    else
     (if f5 < 0 then
      (k1  M)
     else
      (Option.bind (gR 6 24 M f0) fun v11 =>
      (Option.bind (aI 0 M v11 y6) fun v12 =>
      (Option.bind (gR 6 0 M f0) fun v13 =>
      (Option.bind (aI 0 M v13 ((484 : Int32) + f1)) fun v14 =>
      (if v12 = v14 then
       (Option.bind (gI 6 25 M f0) fun v16 =>
       (jn (fun (_ : Unit) =>
        (Option.bind (sV 6 25 M f0 (.int y6)) fun M18 =>
        (pl_X7_orders_92 rc k1 f0 f1 f4 f5 n (y6 + (1 : Int32)) M18)
        )
       ) fun k17 =>
       (if v16 = (-1 : Int32) then
        (k17 ())
       else
        (Option.bind (gI 6 25 M f0) fun v20 =>
        (if v20 ≤ y6 then
         (pl_X7_orders_92 rc k1 f0 f1 f4 f5 n (y6 + (1 : Int32)) M)
        else
         (k17 ())
        )
        )
       )
       )
       )
      else
       (pl_X7_orders_92 rc k1 f0 f1 f4 f5 n (y6 + (1 : Int32)) M)
      )
      )
      )
      )
      )
     )
    )
set_option maxHeartbeats 4000000 in
set_option maxRecDepth 100000 in
theorem wl_X7_orders1_92 {rc : Nat → Int32 → Int32 → Int32 → Mem → Option Mem} {G : gG} {p : Program} {l : Launch} {e : Env} {s : State} {m : MethodId} {args : Array Value} {below : List Frame} {meth : Method} {c : Code} {A : Nat → Prop} {M' : Mem} {k1 : Mem → Option (Mem)} {f0 : Nat} {f1 : Int32} {f4 : Int32} {f5 : Int32} (C0 : cx G p s m args c cX7_orders RX7 7 A) (hr : meth.sig.returnType = (none)) (hlk : meth.locks = false) (hG : GOK G) (hrc : ∀ {a0 : Nat} {a1 a2 a3 : Int32} {M M1 : Mem}, rc a0 a1 a2 a3 M = some M1 → CT G l yX7_orders (wT yX7_orders cX7_orders 7 (none)) rmo_0 [.ref a0, .int a1, .int a2, .int a3] M none M1 0 0) (hk1 : ∀ (M : Mem) (H : Heap) (locs : List Loc) (ls : Array Slot), mm G A s M H locs → lv_has ls 7 [] → k1 M = some M' → W p l e rmo_1 s m args below meth c H locs 0 0 (MQ below (CQ G M' none A) args s 0 0 A) (F0 m 153 ls [])) : ∀ (n : Nat) (y6 : Int32) (M : Mem) (H : Heap) (locs : List Loc) (ls : Array Slot), mm G A s M H locs → lv_has ls 7 [(0, .ref f0), (1, .int f1), (4, .int f4), (5, .int f5), (6, .int y6)] → pl_X7_orders_92 rc k1 f0 f1 f4 f5 n y6 M = some M' → W p l e rmo_1 s m args below meth c H locs 0 0 (MQ below (CQ G M' none A) args s 0 0 A) (F0 m 92 ls []) := by
  have hx := C0.1
  have hb := C0.2.1
  have hown := C0.2.2.2.1
  have hts := C0.2.2.2.2.1
  intro n
  induction n with
  | zero => intro y6 M H locs ls hM hl hp; rw [pl_X7_orders_92] at hp; cases hp
  | succ n ih =>
    intro y6 M H locs ls hM hl hp
    rw [pl_X7_orders_92] at hp
    refine lv_iload hx hb dX7_orders_92 (lv_at hl 4 rfl) ?_
    refine lv_iload hx hb dX7_orders_94 (lv_at hl 2 rfl) ?_
    refine lv_icmp_ge (tgt := 153) hx hb dX7_orders_96 (by decide) (fun c9 => ?_) (fun c9 => ?_)
    · replace hp := oT c9 hp
      exact hk1  _ _ _ _ hM (lv_sub hl [] rfl) hp
    · replace hp := oF c9 hp
      refine lv_iload hx hb dX7_orders_99 (lv_at hl 3 rfl) ?_
      refine lv_if_lt (tgt := 153) hx hb dX7_orders_101 (by decide) (fun c10 => ?_) (fun c10 => ?_)
      · replace hp := oT c10 hp
        exact hk1  _ _ _ _ hM (lv_sub hl [] rfl) hp
      · replace hp := oF c10 hp
        refine lv_aload_n hx hb dX7_orders_104 rfl (lv_at hl 0 rfl) ?_
        obtain ⟨v11, hv11, hp⟩ := ob hp
        refine mr_getR C0 cbX7 hM 24 (by decide) tw_1248 hv11 dX7_orders_105 ?_
        refine lv_iload hx hb dX7_orders_108 (lv_at hl 4 rfl) ?_
        obtain ⟨v12, hv12, hp⟩ := ob hp
        refine mr_iald C0 hM hv12 dX7_orders_110 ?_
        refine lv_aload_n hx hb dX7_orders_111 rfl (lv_at hl 0 rfl) ?_
        obtain ⟨v13, hv13, hp⟩ := ob hp
        refine mr_getR C0 cbX7 hM 0 (by decide) tw_1224 hv13 dX7_orders_112 ?_
        refine lv_sipush (v := 484) hx hb dX7_orders_115 (by decide) ?_
        refine lv_iload_n hx hb dX7_orders_118 rfl (lv_at hl 1 rfl) ?_
        refine lv_iadd hx hb dX7_orders_119 ?_
        obtain ⟨v14, hv14, hp⟩ := ob hp
        refine mr_iald C0 hM hv14 dX7_orders_120 ?_
        refine lv_icmp_ne (tgt := 147) hx hb dX7_orders_121 (by decide) (fun c15 => ?_) (fun c15 => ?_)
        · replace hp := oF c15 hp
          refine lv_iinc (v := (y6 + (1 : Int32))) (lv' := [(6, .int (y6 + (1 : Int32))), (0, .ref f0), (1, .int f1), (4, .int f4), (5, .int f5)]) hx hb dX7_orders_147 hl (k := 4) rfl rfl (by decide) rfl (fun ls hl => ?_)
          refine lv_goto (tgt := 92) hx hb dX7_orders_150 (by decide) ?_
          exact ih _ _ _ _ _ hM (lv_sub hl [1, 2, 3, 4, 0] rfl) hp
        · replace hp := oT c15 hp
          refine lv_aload_n hx hb dX7_orders_124 rfl (lv_at hl 0 rfl) ?_
          obtain ⟨v16, hv16, hp⟩ := ob hp
          refine mr_getI C0 cbX7 hM 25 (by decide) tw_1249 hv16 dX7_orders_125 ?_
          refine lv_iconst (v := -1) hx hb dX7_orders_128 (by decide) ?_
          obtain ⟨k17, ek17, hp⟩ := ojn hp
          have hk17 : ∀ (H : Heap) (locs : List Loc) (ls : Array Slot), mm G A s M H locs → lv_has ls 7 [(0, .ref f0), (1, .int f1), (4, .int f4), (5, .int f5), (6, .int y6)] → k17 () = some M' → W p l e rmo_1 s m args below meth c H locs 0 0 (MQ below (CQ G M' none A) args s 0 0 A) (F0 m 141 ls []) := by
            intro  H locs ls hM hl hp
            rw [ek17] at hp
            refine lv_aload_n hx hb dX7_orders_141 rfl (lv_at hl 0 rfl) ?_
            refine lv_iload hx hb dX7_orders_142 (lv_at hl 4 rfl) ?_
            obtain ⟨M18, hM18, hp⟩ := ob hp
            refine mr_putI C0 cbX7 hM 25 (by decide) rfl rfl tw_1249 hM18 dX7_orders_144 (fun H locs hM => ?_)
            refine lv_iinc (v := (y6 + (1 : Int32))) (lv' := [(6, .int (y6 + (1 : Int32))), (0, .ref f0), (1, .int f1), (4, .int f4), (5, .int f5)]) hx hb dX7_orders_147 hl (k := 4) rfl rfl (by decide) rfl (fun ls hl => ?_)
            refine lv_goto (tgt := 92) hx hb dX7_orders_150 (by decide) ?_
            exact ih _ _ _ _ _ hM (lv_sub hl [1, 2, 3, 4, 0] rfl) hp
          refine lv_icmp_eq (tgt := 141) hx hb dX7_orders_129 (by decide) (fun c19 => ?_) (fun c19 => ?_)
          · replace hp := oT c19 hp
            exact hk17  _ _ _ hM (lv_sub hl [0, 1, 2, 3, 4] rfl) hp
          · replace hp := oF c19 hp
            refine lv_iload hx hb dX7_orders_132 (lv_at hl 4 rfl) ?_
            refine lv_aload_n hx hb dX7_orders_134 rfl (lv_at hl 0 rfl) ?_
            obtain ⟨v20, hv20, hp⟩ := ob hp
            refine mr_getI C0 cbX7 hM 25 (by decide) tw_1249 hv20 dX7_orders_135 ?_
            refine lv_icmp_ge (tgt := 147) hx hb dX7_orders_138 (by decide) (fun c21 => ?_) (fun c21 => ?_)
            · replace hp := oT c21 hp
              refine lv_iinc (v := (y6 + (1 : Int32))) (lv' := [(6, .int (y6 + (1 : Int32))), (0, .ref f0), (1, .int f1), (4, .int f4), (5, .int f5)]) hx hb dX7_orders_147 hl (k := 4) rfl rfl (by decide) rfl (fun ls hl => ?_)
              refine lv_goto (tgt := 92) hx hb dX7_orders_150 (by decide) ?_
              exact ih _ _ _ _ _ hM (lv_sub hl [1, 2, 3, 4, 0] rfl) hp
            · replace hp := oF c21 hp
              exact hk17  _ _ _ hM (lv_sub hl [0, 1, 2, 3, 4] rfl) hp
def pl_X7_orders_21 (rc : Nat → Int32 → Int32 → Int32 → Mem → Option Mem) (k1 : Mem → Option (Mem)) (f0 : Nat) (f1 : Int32) (f2 : Int32) (f3 : Int32) (f4 : Int32) : Nat → Int32 → Mem → Option (Mem)
  | 0, _, _ => none
  | n + 1, y5, M =>
    (if f4 ≤ y5 then
     (k1  M)
    else
     (if ((f2 >>> (y5 &&& 31)) &&& (1 : Int32)) = (1 : Int32) then
      (pl_X7_orders_21 rc k1 f0 f1 f2 f3 f4 n (y5 + (1 : Int32)) M)
     else
      (Option.bind (gR 6 0 M f0) fun v25 =>
      (Option.bind (gR 6 24 M f0) fun v26 =>
      (Option.bind (aI 0 M v26 y5) fun v27 =>
      (Option.bind (aIs M v25 (((564 : Int32) + ((4 : Int32) * f1)) + f3) v27) fun M28 =>
      (Option.bind (isC 6 M28 f0) fun _ =>
      (Option.bind (rc f0 f1 (f2 ||| ((1 : Int32) <<< (y5 &&& 31))) (f3 + (1 : Int32)) M28) fun M30 =>
      (pl_X7_orders_21 rc k1 f0 f1 f2 f3 f4 n (y5 + (1 : Int32)) M30)
      )
      )
      )
      )
      )
      )
     )
    )
set_option maxHeartbeats 4000000 in
set_option maxRecDepth 100000 in
theorem wl_X7_orders1_21 {rc : Nat → Int32 → Int32 → Int32 → Mem → Option Mem} {G : gG} {p : Program} {l : Launch} {e : Env} {s : State} {m : MethodId} {args : Array Value} {below : List Frame} {meth : Method} {c : Code} {A : Nat → Prop} {M' : Mem} {k1 : Mem → Option (Mem)} {f0 : Nat} {f1 : Int32} {f2 : Int32} {f3 : Int32} {f4 : Int32} (C0 : cx G p s m args c cX7_orders RX7 7 A) (hr : meth.sig.returnType = (none)) (hlk : meth.locks = false) (hG : GOK G) (hrc : ∀ {a0 : Nat} {a1 a2 a3 : Int32} {M M1 : Mem}, rc a0 a1 a2 a3 M = some M1 → CT G l yX7_orders (wT yX7_orders cX7_orders 7 (none)) rmo_0 [.ref a0, .int a1, .int a2, .int a3] M none M1 0 0) (hk1 : ∀ (M : Mem) (H : Heap) (locs : List Loc) (ls : Array Slot), mm G A s M H locs → lv_has ls 7 [] → k1 M = some M' → W p l e rmo_1 s m args below meth c H locs 0 0 (MQ below (CQ G M' none A) args s 0 0 A) (F0 m 82 ls [])) : ∀ (n : Nat) (y5 : Int32) (M : Mem) (H : Heap) (locs : List Loc) (ls : Array Slot), mm G A s M H locs → lv_has ls 7 [(0, .ref f0), (1, .int f1), (2, .int f2), (3, .int f3), (4, .int f4), (5, .int y5)] → pl_X7_orders_21 rc k1 f0 f1 f2 f3 f4 n y5 M = some M' → W p l e rmo_1 s m args below meth c H locs 0 0 (MQ below (CQ G M' none A) args s 0 0 A) (F0 m 21 ls []) := by
  have hx := C0.1
  have hb := C0.2.1
  have hown := C0.2.2.2.1
  have hts := C0.2.2.2.2.1
  intro n
  induction n with
  | zero => intro y5 M H locs ls hM hl hp; rw [pl_X7_orders_21] at hp; cases hp
  | succ n ih =>
    intro y5 M H locs ls hM hl hp
    rw [pl_X7_orders_21] at hp
    refine lv_iload hx hb dX7_orders_21 (lv_at hl 5 rfl) ?_
    refine lv_iload hx hb dX7_orders_23 (lv_at hl 4 rfl) ?_
    refine lv_icmp_ge (tgt := 82) hx hb dX7_orders_25 (by decide) (fun c23 => ?_) (fun c23 => ?_)
    · replace hp := oT c23 hp
      exact hk1  _ _ _ _ hM (lv_sub hl [] rfl) hp
    · replace hp := oF c23 hp
      refine lv_iload_n hx hb dX7_orders_28 rfl (lv_at hl 2 rfl) ?_
      refine lv_iload hx hb dX7_orders_29 (lv_at hl 5 rfl) ?_
      refine lv_ishr hx hb dX7_orders_31 ?_
      refine lv_iconst (v := 1) hx hb dX7_orders_32 (by decide) ?_
      refine lv_iand hx hb dX7_orders_33 ?_
      refine lv_iconst (v := 1) hx hb dX7_orders_34 (by decide) ?_
      refine lv_icmp_ne (tgt := 41) hx hb dX7_orders_35 (by decide) (fun c24 => ?_) (fun c24 => ?_)
      · replace hp := oF c24 hp
        refine lv_aload_n hx hb dX7_orders_41 rfl (lv_at hl 0 rfl) ?_
        obtain ⟨v25, hv25, hp⟩ := ob hp
        refine mr_getR C0 cbX7 hM 0 (by decide) tw_1224 hv25 dX7_orders_42 ?_
        refine lv_sipush (v := 564) hx hb dX7_orders_45 (by decide) ?_
        refine lv_iconst (v := 4) hx hb dX7_orders_48 (by decide) ?_
        refine lv_iload_n hx hb dX7_orders_49 rfl (lv_at hl 1 rfl) ?_
        refine lv_imul hx hb dX7_orders_50 ?_
        refine lv_iadd hx hb dX7_orders_51 ?_
        refine lv_iload_n hx hb dX7_orders_52 rfl (lv_at hl 3 rfl) ?_
        refine lv_iadd hx hb dX7_orders_53 ?_
        refine lv_aload_n hx hb dX7_orders_54 rfl (lv_at hl 0 rfl) ?_
        obtain ⟨v26, hv26, hp⟩ := ob hp
        refine mr_getR C0 cbX7 hM 24 (by decide) tw_1248 hv26 dX7_orders_55 ?_
        refine lv_iload hx hb dX7_orders_58 (lv_at hl 5 rfl) ?_
        obtain ⟨v27, hv27, hp⟩ := ob hp
        refine mr_iald C0 hM hv27 dX7_orders_60 ?_
        obtain ⟨M28, hM28, hp⟩ := ob hp
        refine mr_iast C0 hM hM28 dX7_orders_61 (fun H locs hM => ?_)
        refine lv_aload_n hx hb dX7_orders_62 rfl (lv_at hl 0 rfl) ?_
        refine lv_iload_n hx hb dX7_orders_63 rfl (lv_at hl 1 rfl) ?_
        refine lv_iload_n hx hb dX7_orders_64 rfl (lv_at hl 2 rfl) ?_
        refine lv_iconst (v := 1) hx hb dX7_orders_65 (by decide) ?_
        refine lv_iload hx hb dX7_orders_66 (lv_at hl 5 rfl) ?_
        refine lv_ishl hx hb dX7_orders_68 ?_
        refine lv_ior hx hb dX7_orders_69 ?_
        refine lv_iload_n hx hb dX7_orders_70 rfl (lv_at hl 3 rfl) ?_
        refine lv_iconst (v := 1) hx hb dX7_orders_71 (by decide) ?_
        refine lv_iadd hx hb dX7_orders_72 ?_
        obtain ⟨_, h29, hp⟩ := ob hp
        obtain ⟨M30, hM30, hp⟩ := ob hp
        refine mr_V0 (As := [.int f1, .int (f2 ||| ((1 : Int32) <<< (y5 &&& 31))), .int (f3 + (1 : Int32))]) (rest := []) C0 cbX7 hM h29 rfl (hrc hM30) tw_1812 tw_1814 tws_71 tw_7 tw_1815 yk_X7_orders (by decide) rfl hl.1 (Nat.le_of_ble_eq_true rfl) dX7_orders_73 rfl (fun H locs hM => ?_)
        refine lv_iinc (v := (y5 + (1 : Int32))) (lv' := [(5, .int (y5 + (1 : Int32))), (0, .ref f0), (1, .int f1), (2, .int f2), (3, .int f3), (4, .int f4)]) hx hb dX7_orders_76 hl (k := 5) rfl rfl (by decide) rfl (fun ls hl => ?_)
        refine lv_goto (tgt := 21) hx hb dX7_orders_79 (by decide) ?_
        exact ih _ _ _ _ _ hM (lv_sub hl [1, 2, 3, 4, 5, 0] rfl) hp
      · replace hp := oT c24 hp
        refine lv_goto (tgt := 76) hx hb dX7_orders_38 (by decide) ?_
        refine lv_iinc (v := (y5 + (1 : Int32))) (lv' := [(5, .int (y5 + (1 : Int32))), (0, .ref f0), (1, .int f1), (2, .int f2), (3, .int f3), (4, .int f4)]) hx hb dX7_orders_76 hl (k := 5) rfl rfl (by decide) rfl (fun ls hl => ?_)
        refine lv_goto (tgt := 21) hx hb dX7_orders_79 (by decide) ?_
        exact ih _ _ _ _ _ hM (lv_sub hl [1, 2, 3, 4, 5, 0] rfl) hp
def pr_X7_orders (rc : Nat → Int32 → Int32 → Int32 → Mem → Option Mem) (a0 : Nat) (a1 : Int32) (a2 : Int32) (a3 : Int32) (M : Mem) : Option (Mem) :=
  (Option.bind (gR 6 0 M a0) fun v1 =>
  (Option.bind (aI 0 M v1 ((324 : Int32) + a1)) fun v2 =>
  (if v2 ≤ a3 then
   (Option.bind (isC 6 M a0) fun _ =>
   (ob2 (p_X7_allocates a0 M) fun v5 M6 =>
   (jn (fun  (M7 : Mem) =>
    some M7
   ) fun k8 =>
   (pl_X7_orders_92 rc
    (fun  (M22 : Mem) =>
     (k8  M22)
    )
    a0 a1 v2 v5 FU (0 : Int32) M6)
   )
   )
   )
  else
   (pl_X7_orders_21 rc
    (fun  (M31 : Mem) =>
     some M31
    )
    a0 a1 a2 a3 v2 FU (0 : Int32) M)
  )
  )
  )
set_option maxHeartbeats 4000000 in
set_option maxRecDepth 100000 in
theorem wr_X7_orders1 {rc : Nat → Int32 → Int32 → Int32 → Mem → Option Mem} {G : gG} (hG : GOK G) {l : Launch} (hrc : ∀ {a0 : Nat} {a1 a2 a3 : Int32} {M M1 : Mem}, rc a0 a1 a2 a3 M = some M1 → CT G l yX7_orders (wT yX7_orders cX7_orders 7 (none)) rmo_0 [.ref a0, .int a1, .int a2, .int a3] M none M1 0 0) {a0 : Nat} {a1 : Int32} {a2 : Int32} {a3 : Int32} {M : Mem} {M' : Mem} (hp : pr_X7_orders rc a0 a1 a2 a3 M = some M') : CT G l yX7_orders (wT yX7_orders cX7_orders 7 (none)) rmo_1 [.ref a0, .int a1, .int a2, .int a3] M none M' 0 0 := by
  refine CT_of (own := RX7) (maxL := 7) (ret := (none)) hG (by decide) rfl (Nat.le_of_ble_eq_true rfl) (fun p e s m below meth c A C0 hr hlk hM ls hl => ?_)
  have hl : lv_has ls 7 [(0, .ref a0), (1, .int a1), (2, .int a2), (3, .int a3)] := hl
  generalize ([.ref a0, .int a1, .int a2, .int a3] : List Value).toArray = args at C0 ⊢
  have hx := C0.1
  have hb := C0.2.1
  have hown := C0.2.2.2.1
  have hts := C0.2.2.2.2.1
  unfold pr_X7_orders at hp
  refine lv_aload_n hx hb dX7_orders_0 rfl (lv_at hl 0 rfl) ?_
  obtain ⟨v1, hv1, hp⟩ := ob hp
  refine mr_getR C0 cbX7 hM 0 (by decide) tw_1224 hv1 dX7_orders_1 ?_
  refine lv_sipush (v := 324) hx hb dX7_orders_4 (by decide) ?_
  refine lv_iload_n hx hb dX7_orders_7 rfl (lv_at hl 1 rfl) ?_
  refine lv_iadd hx hb dX7_orders_8 ?_
  obtain ⟨v2, hv2, hp⟩ := ob hp
  refine mr_iald C0 hM hv2 dX7_orders_9 ?_
  refine lv_istore (lv' := [(4, .int v2), (0, .ref a0), (1, .int a1), (2, .int a2), (3, .int a3)]) hx hb dX7_orders_10 hl (by decide) rfl (fun ls hl => ?_)
  refine lv_iload_n hx hb dX7_orders_12 rfl (lv_at hl 4 rfl) ?_
  refine lv_iload hx hb dX7_orders_13 (lv_at hl 0 rfl) ?_
  refine lv_icmp_ge (tgt := 83) hx hb dX7_orders_15 (by decide) (fun c3 => ?_) (fun c3 => ?_)
  · replace hp := oT c3 hp
    refine lv_aload_n hx hb dX7_orders_83 rfl (lv_at hl 1 rfl) ?_
    obtain ⟨_, h4, hp⟩ := ob hp
    obtain ⟨v5, M6, hv5, hp⟩ := ob3 hp
    refine mr_V1 (As := []) (rest := []) C0 cbX7 hM h4 rfl (w_X7_allocates hG hv5) tw_1615 tw_1617 tws_55 tw_7 tw_1618 yk_X7_allocates (by decide) rfl hl.1 (Nat.le_of_ble_eq_true rfl) dX7_orders_84 rfl (fun H locs hM => ?_)
    refine lv_istore (lv' := [(5, .int v5), (4, .int v2), (0, .ref a0), (1, .int a1), (2, .int a2), (3, .int a3)]) hx hb dX7_orders_87 hl (by decide) rfl (fun ls hl => ?_)
    refine lv_iconst (v := 0) hx hb dX7_orders_89 (by decide) ?_
    refine lv_istore (lv' := [(6, .int (0 : Int32)), (5, .int v5), (4, .int v2), (0, .ref a0), (1, .int a1), (2, .int a2), (3, .int a3)]) hx hb dX7_orders_90 hl (by decide) rfl (fun ls hl => ?_)
    obtain ⟨k8, ek8, hp⟩ := ojn hp
    have hk8 : ∀ (M7 : Mem) (H : Heap) (locs : List Loc) (ls : Array Slot), mm G A s M7 H locs → lv_has ls 7 [] → k8  M7 = some M' → W p l e rmo_1 s m args below meth c H locs 0 0 (MQ below (CQ G M' none A) args s 0 0 A) (F0 m 153 ls []) := by
      intro  M7 H locs ls hM hl hp
      rw [ek8] at hp
      exact mr_vret C0 hr hlk hM (Option.some.inj hp) (Nat.le_refl _) (Nat.le_refl _) dX7_orders_153
    refine wl_X7_orders1_92 C0 hr hlk hG hrc (fun M22 H locs ls hM hl hp => ?_) FU _ _ _ _ _ hM (lv_sub hl [3, 4, 2, 1, 0] rfl) hp
    exact hk8  _ _ _ _ hM (lv_sub hl [] rfl) hp
  · replace hp := oF c3 hp
    refine lv_iconst (v := 0) hx hb dX7_orders_18 (by decide) ?_
    refine lv_istore (lv' := [(5, .int (0 : Int32)), (4, .int v2), (0, .ref a0), (1, .int a1), (2, .int a2), (3, .int a3)]) hx hb dX7_orders_19 hl (by decide) rfl (fun ls hl => ?_)
    refine wl_X7_orders1_21 C0 hr hlk hG hrc (fun M31 H locs ls hM hl hp => ?_) FU _ _ _ _ _ hM (lv_sub hl [2, 3, 4, 5, 1, 0] rfl) hp
    exact mr_vret C0 hr hlk hM (Option.some.inj hp) (Nat.le_refl _) (Nat.le_refl _) dX7_orders_82
abbrev rmo_2 : Room := { frames := 9, cells := 0, slots := 0, locals := 209 }
set_option maxHeartbeats 4000000 in
set_option maxRecDepth 100000 in
theorem wl_X7_orders2_92 {rc : Nat → Int32 → Int32 → Int32 → Mem → Option Mem} {G : gG} {p : Program} {l : Launch} {e : Env} {s : State} {m : MethodId} {args : Array Value} {below : List Frame} {meth : Method} {c : Code} {A : Nat → Prop} {M' : Mem} {k1 : Mem → Option (Mem)} {f0 : Nat} {f1 : Int32} {f4 : Int32} {f5 : Int32} (C0 : cx G p s m args c cX7_orders RX7 7 A) (hr : meth.sig.returnType = (none)) (hlk : meth.locks = false) (hG : GOK G) (hrc : ∀ {a0 : Nat} {a1 a2 a3 : Int32} {M M1 : Mem}, rc a0 a1 a2 a3 M = some M1 → CT G l yX7_orders (wT yX7_orders cX7_orders 7 (none)) rmo_1 [.ref a0, .int a1, .int a2, .int a3] M none M1 0 0) (hk1 : ∀ (M : Mem) (H : Heap) (locs : List Loc) (ls : Array Slot), mm G A s M H locs → lv_has ls 7 [] → k1 M = some M' → W p l e rmo_2 s m args below meth c H locs 0 0 (MQ below (CQ G M' none A) args s 0 0 A) (F0 m 153 ls [])) : ∀ (n : Nat) (y6 : Int32) (M : Mem) (H : Heap) (locs : List Loc) (ls : Array Slot), mm G A s M H locs → lv_has ls 7 [(0, .ref f0), (1, .int f1), (4, .int f4), (5, .int f5), (6, .int y6)] → pl_X7_orders_92 rc k1 f0 f1 f4 f5 n y6 M = some M' → W p l e rmo_2 s m args below meth c H locs 0 0 (MQ below (CQ G M' none A) args s 0 0 A) (F0 m 92 ls []) := by
  have hx := C0.1
  have hb := C0.2.1
  have hown := C0.2.2.2.1
  have hts := C0.2.2.2.2.1
  intro n
  induction n with
  | zero => intro y6 M H locs ls hM hl hp; rw [pl_X7_orders_92] at hp; cases hp
  | succ n ih =>
    intro y6 M H locs ls hM hl hp
    rw [pl_X7_orders_92] at hp
    refine lv_iload hx hb dX7_orders_92 (lv_at hl 4 rfl) ?_
    refine lv_iload hx hb dX7_orders_94 (lv_at hl 2 rfl) ?_
    refine lv_icmp_ge (tgt := 153) hx hb dX7_orders_96 (by decide) (fun c9 => ?_) (fun c9 => ?_)
    · replace hp := oT c9 hp
      exact hk1  _ _ _ _ hM (lv_sub hl [] rfl) hp
    · replace hp := oF c9 hp
      refine lv_iload hx hb dX7_orders_99 (lv_at hl 3 rfl) ?_
      refine lv_if_lt (tgt := 153) hx hb dX7_orders_101 (by decide) (fun c10 => ?_) (fun c10 => ?_)
      · replace hp := oT c10 hp
        exact hk1  _ _ _ _ hM (lv_sub hl [] rfl) hp
      · replace hp := oF c10 hp
        refine lv_aload_n hx hb dX7_orders_104 rfl (lv_at hl 0 rfl) ?_
        obtain ⟨v11, hv11, hp⟩ := ob hp
        refine mr_getR C0 cbX7 hM 24 (by decide) tw_1248 hv11 dX7_orders_105 ?_
        refine lv_iload hx hb dX7_orders_108 (lv_at hl 4 rfl) ?_
        obtain ⟨v12, hv12, hp⟩ := ob hp
        refine mr_iald C0 hM hv12 dX7_orders_110 ?_
        refine lv_aload_n hx hb dX7_orders_111 rfl (lv_at hl 0 rfl) ?_
        obtain ⟨v13, hv13, hp⟩ := ob hp
        refine mr_getR C0 cbX7 hM 0 (by decide) tw_1224 hv13 dX7_orders_112 ?_
        refine lv_sipush (v := 484) hx hb dX7_orders_115 (by decide) ?_
        refine lv_iload_n hx hb dX7_orders_118 rfl (lv_at hl 1 rfl) ?_
        refine lv_iadd hx hb dX7_orders_119 ?_
        obtain ⟨v14, hv14, hp⟩ := ob hp
        refine mr_iald C0 hM hv14 dX7_orders_120 ?_
        refine lv_icmp_ne (tgt := 147) hx hb dX7_orders_121 (by decide) (fun c15 => ?_) (fun c15 => ?_)
        · replace hp := oF c15 hp
          refine lv_iinc (v := (y6 + (1 : Int32))) (lv' := [(6, .int (y6 + (1 : Int32))), (0, .ref f0), (1, .int f1), (4, .int f4), (5, .int f5)]) hx hb dX7_orders_147 hl (k := 4) rfl rfl (by decide) rfl (fun ls hl => ?_)
          refine lv_goto (tgt := 92) hx hb dX7_orders_150 (by decide) ?_
          exact ih _ _ _ _ _ hM (lv_sub hl [1, 2, 3, 4, 0] rfl) hp
        · replace hp := oT c15 hp
          refine lv_aload_n hx hb dX7_orders_124 rfl (lv_at hl 0 rfl) ?_
          obtain ⟨v16, hv16, hp⟩ := ob hp
          refine mr_getI C0 cbX7 hM 25 (by decide) tw_1249 hv16 dX7_orders_125 ?_
          refine lv_iconst (v := -1) hx hb dX7_orders_128 (by decide) ?_
          obtain ⟨k17, ek17, hp⟩ := ojn hp
          have hk17 : ∀ (H : Heap) (locs : List Loc) (ls : Array Slot), mm G A s M H locs → lv_has ls 7 [(0, .ref f0), (1, .int f1), (4, .int f4), (5, .int f5), (6, .int y6)] → k17 () = some M' → W p l e rmo_2 s m args below meth c H locs 0 0 (MQ below (CQ G M' none A) args s 0 0 A) (F0 m 141 ls []) := by
            intro  H locs ls hM hl hp
            rw [ek17] at hp
            refine lv_aload_n hx hb dX7_orders_141 rfl (lv_at hl 0 rfl) ?_
            refine lv_iload hx hb dX7_orders_142 (lv_at hl 4 rfl) ?_
            obtain ⟨M18, hM18, hp⟩ := ob hp
            refine mr_putI C0 cbX7 hM 25 (by decide) rfl rfl tw_1249 hM18 dX7_orders_144 (fun H locs hM => ?_)
            refine lv_iinc (v := (y6 + (1 : Int32))) (lv' := [(6, .int (y6 + (1 : Int32))), (0, .ref f0), (1, .int f1), (4, .int f4), (5, .int f5)]) hx hb dX7_orders_147 hl (k := 4) rfl rfl (by decide) rfl (fun ls hl => ?_)
            refine lv_goto (tgt := 92) hx hb dX7_orders_150 (by decide) ?_
            exact ih _ _ _ _ _ hM (lv_sub hl [1, 2, 3, 4, 0] rfl) hp
          refine lv_icmp_eq (tgt := 141) hx hb dX7_orders_129 (by decide) (fun c19 => ?_) (fun c19 => ?_)
          · replace hp := oT c19 hp
            exact hk17  _ _ _ hM (lv_sub hl [0, 1, 2, 3, 4] rfl) hp
          · replace hp := oF c19 hp
            refine lv_iload hx hb dX7_orders_132 (lv_at hl 4 rfl) ?_
            refine lv_aload_n hx hb dX7_orders_134 rfl (lv_at hl 0 rfl) ?_
            obtain ⟨v20, hv20, hp⟩ := ob hp
            refine mr_getI C0 cbX7 hM 25 (by decide) tw_1249 hv20 dX7_orders_135 ?_
            refine lv_icmp_ge (tgt := 147) hx hb dX7_orders_138 (by decide) (fun c21 => ?_) (fun c21 => ?_)
            · replace hp := oT c21 hp
              refine lv_iinc (v := (y6 + (1 : Int32))) (lv' := [(6, .int (y6 + (1 : Int32))), (0, .ref f0), (1, .int f1), (4, .int f4), (5, .int f5)]) hx hb dX7_orders_147 hl (k := 4) rfl rfl (by decide) rfl (fun ls hl => ?_)
              refine lv_goto (tgt := 92) hx hb dX7_orders_150 (by decide) ?_
              exact ih _ _ _ _ _ hM (lv_sub hl [1, 2, 3, 4, 0] rfl) hp
            · replace hp := oF c21 hp
              exact hk17  _ _ _ hM (lv_sub hl [0, 1, 2, 3, 4] rfl) hp
set_option maxHeartbeats 4000000 in
set_option maxRecDepth 100000 in
theorem wl_X7_orders2_21 {rc : Nat → Int32 → Int32 → Int32 → Mem → Option Mem} {G : gG} {p : Program} {l : Launch} {e : Env} {s : State} {m : MethodId} {args : Array Value} {below : List Frame} {meth : Method} {c : Code} {A : Nat → Prop} {M' : Mem} {k1 : Mem → Option (Mem)} {f0 : Nat} {f1 : Int32} {f2 : Int32} {f3 : Int32} {f4 : Int32} (C0 : cx G p s m args c cX7_orders RX7 7 A) (hr : meth.sig.returnType = (none)) (hlk : meth.locks = false) (hG : GOK G) (hrc : ∀ {a0 : Nat} {a1 a2 a3 : Int32} {M M1 : Mem}, rc a0 a1 a2 a3 M = some M1 → CT G l yX7_orders (wT yX7_orders cX7_orders 7 (none)) rmo_1 [.ref a0, .int a1, .int a2, .int a3] M none M1 0 0) (hk1 : ∀ (M : Mem) (H : Heap) (locs : List Loc) (ls : Array Slot), mm G A s M H locs → lv_has ls 7 [] → k1 M = some M' → W p l e rmo_2 s m args below meth c H locs 0 0 (MQ below (CQ G M' none A) args s 0 0 A) (F0 m 82 ls [])) : ∀ (n : Nat) (y5 : Int32) (M : Mem) (H : Heap) (locs : List Loc) (ls : Array Slot), mm G A s M H locs → lv_has ls 7 [(0, .ref f0), (1, .int f1), (2, .int f2), (3, .int f3), (4, .int f4), (5, .int y5)] → pl_X7_orders_21 rc k1 f0 f1 f2 f3 f4 n y5 M = some M' → W p l e rmo_2 s m args below meth c H locs 0 0 (MQ below (CQ G M' none A) args s 0 0 A) (F0 m 21 ls []) := by
  have hx := C0.1
  have hb := C0.2.1
  have hown := C0.2.2.2.1
  have hts := C0.2.2.2.2.1
  intro n
  induction n with
  | zero => intro y5 M H locs ls hM hl hp; rw [pl_X7_orders_21] at hp; cases hp
  | succ n ih =>
    intro y5 M H locs ls hM hl hp
    rw [pl_X7_orders_21] at hp
    refine lv_iload hx hb dX7_orders_21 (lv_at hl 5 rfl) ?_
    refine lv_iload hx hb dX7_orders_23 (lv_at hl 4 rfl) ?_
    refine lv_icmp_ge (tgt := 82) hx hb dX7_orders_25 (by decide) (fun c23 => ?_) (fun c23 => ?_)
    · replace hp := oT c23 hp
      exact hk1  _ _ _ _ hM (lv_sub hl [] rfl) hp
    · replace hp := oF c23 hp
      refine lv_iload_n hx hb dX7_orders_28 rfl (lv_at hl 2 rfl) ?_
      refine lv_iload hx hb dX7_orders_29 (lv_at hl 5 rfl) ?_
      refine lv_ishr hx hb dX7_orders_31 ?_
      refine lv_iconst (v := 1) hx hb dX7_orders_32 (by decide) ?_
      refine lv_iand hx hb dX7_orders_33 ?_
      refine lv_iconst (v := 1) hx hb dX7_orders_34 (by decide) ?_
      refine lv_icmp_ne (tgt := 41) hx hb dX7_orders_35 (by decide) (fun c24 => ?_) (fun c24 => ?_)
      · replace hp := oF c24 hp
        refine lv_aload_n hx hb dX7_orders_41 rfl (lv_at hl 0 rfl) ?_
        obtain ⟨v25, hv25, hp⟩ := ob hp
        refine mr_getR C0 cbX7 hM 0 (by decide) tw_1224 hv25 dX7_orders_42 ?_
        refine lv_sipush (v := 564) hx hb dX7_orders_45 (by decide) ?_
        refine lv_iconst (v := 4) hx hb dX7_orders_48 (by decide) ?_
        refine lv_iload_n hx hb dX7_orders_49 rfl (lv_at hl 1 rfl) ?_
        refine lv_imul hx hb dX7_orders_50 ?_
        refine lv_iadd hx hb dX7_orders_51 ?_
        refine lv_iload_n hx hb dX7_orders_52 rfl (lv_at hl 3 rfl) ?_
        refine lv_iadd hx hb dX7_orders_53 ?_
        refine lv_aload_n hx hb dX7_orders_54 rfl (lv_at hl 0 rfl) ?_
        obtain ⟨v26, hv26, hp⟩ := ob hp
        refine mr_getR C0 cbX7 hM 24 (by decide) tw_1248 hv26 dX7_orders_55 ?_
        refine lv_iload hx hb dX7_orders_58 (lv_at hl 5 rfl) ?_
        obtain ⟨v27, hv27, hp⟩ := ob hp
        refine mr_iald C0 hM hv27 dX7_orders_60 ?_
        obtain ⟨M28, hM28, hp⟩ := ob hp
        refine mr_iast C0 hM hM28 dX7_orders_61 (fun H locs hM => ?_)
        refine lv_aload_n hx hb dX7_orders_62 rfl (lv_at hl 0 rfl) ?_
        refine lv_iload_n hx hb dX7_orders_63 rfl (lv_at hl 1 rfl) ?_
        refine lv_iload_n hx hb dX7_orders_64 rfl (lv_at hl 2 rfl) ?_
        refine lv_iconst (v := 1) hx hb dX7_orders_65 (by decide) ?_
        refine lv_iload hx hb dX7_orders_66 (lv_at hl 5 rfl) ?_
        refine lv_ishl hx hb dX7_orders_68 ?_
        refine lv_ior hx hb dX7_orders_69 ?_
        refine lv_iload_n hx hb dX7_orders_70 rfl (lv_at hl 3 rfl) ?_
        refine lv_iconst (v := 1) hx hb dX7_orders_71 (by decide) ?_
        refine lv_iadd hx hb dX7_orders_72 ?_
        obtain ⟨_, h29, hp⟩ := ob hp
        obtain ⟨M30, hM30, hp⟩ := ob hp
        refine mr_V0 (As := [.int f1, .int (f2 ||| ((1 : Int32) <<< (y5 &&& 31))), .int (f3 + (1 : Int32))]) (rest := []) C0 cbX7 hM h29 rfl (hrc hM30) tw_1812 tw_1814 tws_71 tw_7 tw_1815 yk_X7_orders (by decide) rfl hl.1 (Nat.le_of_ble_eq_true rfl) dX7_orders_73 rfl (fun H locs hM => ?_)
        refine lv_iinc (v := (y5 + (1 : Int32))) (lv' := [(5, .int (y5 + (1 : Int32))), (0, .ref f0), (1, .int f1), (2, .int f2), (3, .int f3), (4, .int f4)]) hx hb dX7_orders_76 hl (k := 5) rfl rfl (by decide) rfl (fun ls hl => ?_)
        refine lv_goto (tgt := 21) hx hb dX7_orders_79 (by decide) ?_
        exact ih _ _ _ _ _ hM (lv_sub hl [1, 2, 3, 4, 5, 0] rfl) hp
      · replace hp := oT c24 hp
        refine lv_goto (tgt := 76) hx hb dX7_orders_38 (by decide) ?_
        refine lv_iinc (v := (y5 + (1 : Int32))) (lv' := [(5, .int (y5 + (1 : Int32))), (0, .ref f0), (1, .int f1), (2, .int f2), (3, .int f3), (4, .int f4)]) hx hb dX7_orders_76 hl (k := 5) rfl rfl (by decide) rfl (fun ls hl => ?_)
        refine lv_goto (tgt := 21) hx hb dX7_orders_79 (by decide) ?_
        exact ih _ _ _ _ _ hM (lv_sub hl [1, 2, 3, 4, 5, 0] rfl) hp
set_option maxHeartbeats 4000000 in
set_option maxRecDepth 100000 in
theorem wr_X7_orders2 {rc : Nat → Int32 → Int32 → Int32 → Mem → Option Mem} {G : gG} (hG : GOK G) {l : Launch} (hrc : ∀ {a0 : Nat} {a1 a2 a3 : Int32} {M M1 : Mem}, rc a0 a1 a2 a3 M = some M1 → CT G l yX7_orders (wT yX7_orders cX7_orders 7 (none)) rmo_1 [.ref a0, .int a1, .int a2, .int a3] M none M1 0 0) {a0 : Nat} {a1 : Int32} {a2 : Int32} {a3 : Int32} {M : Mem} {M' : Mem} (hp : pr_X7_orders rc a0 a1 a2 a3 M = some M') : CT G l yX7_orders (wT yX7_orders cX7_orders 7 (none)) rmo_2 [.ref a0, .int a1, .int a2, .int a3] M none M' 0 0 := by
  refine CT_of (own := RX7) (maxL := 7) (ret := (none)) hG (by decide) rfl (Nat.le_of_ble_eq_true rfl) (fun p e s m below meth c A C0 hr hlk hM ls hl => ?_)
  have hl : lv_has ls 7 [(0, .ref a0), (1, .int a1), (2, .int a2), (3, .int a3)] := hl
  generalize ([.ref a0, .int a1, .int a2, .int a3] : List Value).toArray = args at C0 ⊢
  have hx := C0.1
  have hb := C0.2.1
  have hown := C0.2.2.2.1
  have hts := C0.2.2.2.2.1
  unfold pr_X7_orders at hp
  refine lv_aload_n hx hb dX7_orders_0 rfl (lv_at hl 0 rfl) ?_
  obtain ⟨v1, hv1, hp⟩ := ob hp
  refine mr_getR C0 cbX7 hM 0 (by decide) tw_1224 hv1 dX7_orders_1 ?_
  refine lv_sipush (v := 324) hx hb dX7_orders_4 (by decide) ?_
  refine lv_iload_n hx hb dX7_orders_7 rfl (lv_at hl 1 rfl) ?_
  refine lv_iadd hx hb dX7_orders_8 ?_
  obtain ⟨v2, hv2, hp⟩ := ob hp
  refine mr_iald C0 hM hv2 dX7_orders_9 ?_
  refine lv_istore (lv' := [(4, .int v2), (0, .ref a0), (1, .int a1), (2, .int a2), (3, .int a3)]) hx hb dX7_orders_10 hl (by decide) rfl (fun ls hl => ?_)
  refine lv_iload_n hx hb dX7_orders_12 rfl (lv_at hl 4 rfl) ?_
  refine lv_iload hx hb dX7_orders_13 (lv_at hl 0 rfl) ?_
  refine lv_icmp_ge (tgt := 83) hx hb dX7_orders_15 (by decide) (fun c3 => ?_) (fun c3 => ?_)
  · replace hp := oT c3 hp
    refine lv_aload_n hx hb dX7_orders_83 rfl (lv_at hl 1 rfl) ?_
    obtain ⟨_, h4, hp⟩ := ob hp
    obtain ⟨v5, M6, hv5, hp⟩ := ob3 hp
    refine mr_V1 (As := []) (rest := []) C0 cbX7 hM h4 rfl (w_X7_allocates hG hv5) tw_1615 tw_1617 tws_55 tw_7 tw_1618 yk_X7_allocates (by decide) rfl hl.1 (Nat.le_of_ble_eq_true rfl) dX7_orders_84 rfl (fun H locs hM => ?_)
    refine lv_istore (lv' := [(5, .int v5), (4, .int v2), (0, .ref a0), (1, .int a1), (2, .int a2), (3, .int a3)]) hx hb dX7_orders_87 hl (by decide) rfl (fun ls hl => ?_)
    refine lv_iconst (v := 0) hx hb dX7_orders_89 (by decide) ?_
    refine lv_istore (lv' := [(6, .int (0 : Int32)), (5, .int v5), (4, .int v2), (0, .ref a0), (1, .int a1), (2, .int a2), (3, .int a3)]) hx hb dX7_orders_90 hl (by decide) rfl (fun ls hl => ?_)
    obtain ⟨k8, ek8, hp⟩ := ojn hp
    have hk8 : ∀ (M7 : Mem) (H : Heap) (locs : List Loc) (ls : Array Slot), mm G A s M7 H locs → lv_has ls 7 [] → k8  M7 = some M' → W p l e rmo_2 s m args below meth c H locs 0 0 (MQ below (CQ G M' none A) args s 0 0 A) (F0 m 153 ls []) := by
      intro  M7 H locs ls hM hl hp
      rw [ek8] at hp
      exact mr_vret C0 hr hlk hM (Option.some.inj hp) (Nat.le_refl _) (Nat.le_refl _) dX7_orders_153
    refine wl_X7_orders2_92 C0 hr hlk hG hrc (fun M22 H locs ls hM hl hp => ?_) FU _ _ _ _ _ hM (lv_sub hl [3, 4, 2, 1, 0] rfl) hp
    exact hk8  _ _ _ _ hM (lv_sub hl [] rfl) hp
  · replace hp := oF c3 hp
    refine lv_iconst (v := 0) hx hb dX7_orders_18 (by decide) ?_
    refine lv_istore (lv' := [(5, .int (0 : Int32)), (4, .int v2), (0, .ref a0), (1, .int a1), (2, .int a2), (3, .int a3)]) hx hb dX7_orders_19 hl (by decide) rfl (fun ls hl => ?_)
    refine wl_X7_orders2_21 C0 hr hlk hG hrc (fun M31 H locs ls hM hl hp => ?_) FU _ _ _ _ _ hM (lv_sub hl [2, 3, 4, 5, 1, 0] rfl) hp
    exact mr_vret C0 hr hlk hM (Option.some.inj hp) (Nat.le_refl _) (Nat.le_refl _) dX7_orders_82
abbrev rmo_3 : Room := { frames := 10, cells := 0, slots := 0, locals := 235 }
set_option maxHeartbeats 4000000 in
set_option maxRecDepth 100000 in
theorem wl_X7_orders3_92 {rc : Nat → Int32 → Int32 → Int32 → Mem → Option Mem} {G : gG} {p : Program} {l : Launch} {e : Env} {s : State} {m : MethodId} {args : Array Value} {below : List Frame} {meth : Method} {c : Code} {A : Nat → Prop} {M' : Mem} {k1 : Mem → Option (Mem)} {f0 : Nat} {f1 : Int32} {f4 : Int32} {f5 : Int32} (C0 : cx G p s m args c cX7_orders RX7 7 A) (hr : meth.sig.returnType = (none)) (hlk : meth.locks = false) (hG : GOK G) (hrc : ∀ {a0 : Nat} {a1 a2 a3 : Int32} {M M1 : Mem}, rc a0 a1 a2 a3 M = some M1 → CT G l yX7_orders (wT yX7_orders cX7_orders 7 (none)) rmo_2 [.ref a0, .int a1, .int a2, .int a3] M none M1 0 0) (hk1 : ∀ (M : Mem) (H : Heap) (locs : List Loc) (ls : Array Slot), mm G A s M H locs → lv_has ls 7 [] → k1 M = some M' → W p l e rmo_3 s m args below meth c H locs 0 0 (MQ below (CQ G M' none A) args s 0 0 A) (F0 m 153 ls [])) : ∀ (n : Nat) (y6 : Int32) (M : Mem) (H : Heap) (locs : List Loc) (ls : Array Slot), mm G A s M H locs → lv_has ls 7 [(0, .ref f0), (1, .int f1), (4, .int f4), (5, .int f5), (6, .int y6)] → pl_X7_orders_92 rc k1 f0 f1 f4 f5 n y6 M = some M' → W p l e rmo_3 s m args below meth c H locs 0 0 (MQ below (CQ G M' none A) args s 0 0 A) (F0 m 92 ls []) := by
  have hx := C0.1
  have hb := C0.2.1
  have hown := C0.2.2.2.1
  have hts := C0.2.2.2.2.1
  intro n
  induction n with
  | zero => intro y6 M H locs ls hM hl hp; rw [pl_X7_orders_92] at hp; cases hp
  | succ n ih =>
    intro y6 M H locs ls hM hl hp
    rw [pl_X7_orders_92] at hp
    refine lv_iload hx hb dX7_orders_92 (lv_at hl 4 rfl) ?_
    refine lv_iload hx hb dX7_orders_94 (lv_at hl 2 rfl) ?_
    refine lv_icmp_ge (tgt := 153) hx hb dX7_orders_96 (by decide) (fun c9 => ?_) (fun c9 => ?_)
    · replace hp := oT c9 hp
      exact hk1  _ _ _ _ hM (lv_sub hl [] rfl) hp
    · replace hp := oF c9 hp
      refine lv_iload hx hb dX7_orders_99 (lv_at hl 3 rfl) ?_
      refine lv_if_lt (tgt := 153) hx hb dX7_orders_101 (by decide) (fun c10 => ?_) (fun c10 => ?_)
      · replace hp := oT c10 hp
        exact hk1  _ _ _ _ hM (lv_sub hl [] rfl) hp
      · replace hp := oF c10 hp
        refine lv_aload_n hx hb dX7_orders_104 rfl (lv_at hl 0 rfl) ?_
        obtain ⟨v11, hv11, hp⟩ := ob hp
        refine mr_getR C0 cbX7 hM 24 (by decide) tw_1248 hv11 dX7_orders_105 ?_
        refine lv_iload hx hb dX7_orders_108 (lv_at hl 4 rfl) ?_
        obtain ⟨v12, hv12, hp⟩ := ob hp
        refine mr_iald C0 hM hv12 dX7_orders_110 ?_
        refine lv_aload_n hx hb dX7_orders_111 rfl (lv_at hl 0 rfl) ?_
        obtain ⟨v13, hv13, hp⟩ := ob hp
        refine mr_getR C0 cbX7 hM 0 (by decide) tw_1224 hv13 dX7_orders_112 ?_
        refine lv_sipush (v := 484) hx hb dX7_orders_115 (by decide) ?_
        refine lv_iload_n hx hb dX7_orders_118 rfl (lv_at hl 1 rfl) ?_
        refine lv_iadd hx hb dX7_orders_119 ?_
        obtain ⟨v14, hv14, hp⟩ := ob hp
        refine mr_iald C0 hM hv14 dX7_orders_120 ?_
        refine lv_icmp_ne (tgt := 147) hx hb dX7_orders_121 (by decide) (fun c15 => ?_) (fun c15 => ?_)
        · replace hp := oF c15 hp
          refine lv_iinc (v := (y6 + (1 : Int32))) (lv' := [(6, .int (y6 + (1 : Int32))), (0, .ref f0), (1, .int f1), (4, .int f4), (5, .int f5)]) hx hb dX7_orders_147 hl (k := 4) rfl rfl (by decide) rfl (fun ls hl => ?_)
          refine lv_goto (tgt := 92) hx hb dX7_orders_150 (by decide) ?_
          exact ih _ _ _ _ _ hM (lv_sub hl [1, 2, 3, 4, 0] rfl) hp
        · replace hp := oT c15 hp
          refine lv_aload_n hx hb dX7_orders_124 rfl (lv_at hl 0 rfl) ?_
          obtain ⟨v16, hv16, hp⟩ := ob hp
          refine mr_getI C0 cbX7 hM 25 (by decide) tw_1249 hv16 dX7_orders_125 ?_
          refine lv_iconst (v := -1) hx hb dX7_orders_128 (by decide) ?_
          obtain ⟨k17, ek17, hp⟩ := ojn hp
          have hk17 : ∀ (H : Heap) (locs : List Loc) (ls : Array Slot), mm G A s M H locs → lv_has ls 7 [(0, .ref f0), (1, .int f1), (4, .int f4), (5, .int f5), (6, .int y6)] → k17 () = some M' → W p l e rmo_3 s m args below meth c H locs 0 0 (MQ below (CQ G M' none A) args s 0 0 A) (F0 m 141 ls []) := by
            intro  H locs ls hM hl hp
            rw [ek17] at hp
            refine lv_aload_n hx hb dX7_orders_141 rfl (lv_at hl 0 rfl) ?_
            refine lv_iload hx hb dX7_orders_142 (lv_at hl 4 rfl) ?_
            obtain ⟨M18, hM18, hp⟩ := ob hp
            refine mr_putI C0 cbX7 hM 25 (by decide) rfl rfl tw_1249 hM18 dX7_orders_144 (fun H locs hM => ?_)
            refine lv_iinc (v := (y6 + (1 : Int32))) (lv' := [(6, .int (y6 + (1 : Int32))), (0, .ref f0), (1, .int f1), (4, .int f4), (5, .int f5)]) hx hb dX7_orders_147 hl (k := 4) rfl rfl (by decide) rfl (fun ls hl => ?_)
            refine lv_goto (tgt := 92) hx hb dX7_orders_150 (by decide) ?_
            exact ih _ _ _ _ _ hM (lv_sub hl [1, 2, 3, 4, 0] rfl) hp
          refine lv_icmp_eq (tgt := 141) hx hb dX7_orders_129 (by decide) (fun c19 => ?_) (fun c19 => ?_)
          · replace hp := oT c19 hp
            exact hk17  _ _ _ hM (lv_sub hl [0, 1, 2, 3, 4] rfl) hp
          · replace hp := oF c19 hp
            refine lv_iload hx hb dX7_orders_132 (lv_at hl 4 rfl) ?_
            refine lv_aload_n hx hb dX7_orders_134 rfl (lv_at hl 0 rfl) ?_
            obtain ⟨v20, hv20, hp⟩ := ob hp
            refine mr_getI C0 cbX7 hM 25 (by decide) tw_1249 hv20 dX7_orders_135 ?_
            refine lv_icmp_ge (tgt := 147) hx hb dX7_orders_138 (by decide) (fun c21 => ?_) (fun c21 => ?_)
            · replace hp := oT c21 hp
              refine lv_iinc (v := (y6 + (1 : Int32))) (lv' := [(6, .int (y6 + (1 : Int32))), (0, .ref f0), (1, .int f1), (4, .int f4), (5, .int f5)]) hx hb dX7_orders_147 hl (k := 4) rfl rfl (by decide) rfl (fun ls hl => ?_)
              refine lv_goto (tgt := 92) hx hb dX7_orders_150 (by decide) ?_
              exact ih _ _ _ _ _ hM (lv_sub hl [1, 2, 3, 4, 0] rfl) hp
            · replace hp := oF c21 hp
              exact hk17  _ _ _ hM (lv_sub hl [0, 1, 2, 3, 4] rfl) hp
set_option maxHeartbeats 4000000 in
set_option maxRecDepth 100000 in
theorem wl_X7_orders3_21 {rc : Nat → Int32 → Int32 → Int32 → Mem → Option Mem} {G : gG} {p : Program} {l : Launch} {e : Env} {s : State} {m : MethodId} {args : Array Value} {below : List Frame} {meth : Method} {c : Code} {A : Nat → Prop} {M' : Mem} {k1 : Mem → Option (Mem)} {f0 : Nat} {f1 : Int32} {f2 : Int32} {f3 : Int32} {f4 : Int32} (C0 : cx G p s m args c cX7_orders RX7 7 A) (hr : meth.sig.returnType = (none)) (hlk : meth.locks = false) (hG : GOK G) (hrc : ∀ {a0 : Nat} {a1 a2 a3 : Int32} {M M1 : Mem}, rc a0 a1 a2 a3 M = some M1 → CT G l yX7_orders (wT yX7_orders cX7_orders 7 (none)) rmo_2 [.ref a0, .int a1, .int a2, .int a3] M none M1 0 0) (hk1 : ∀ (M : Mem) (H : Heap) (locs : List Loc) (ls : Array Slot), mm G A s M H locs → lv_has ls 7 [] → k1 M = some M' → W p l e rmo_3 s m args below meth c H locs 0 0 (MQ below (CQ G M' none A) args s 0 0 A) (F0 m 82 ls [])) : ∀ (n : Nat) (y5 : Int32) (M : Mem) (H : Heap) (locs : List Loc) (ls : Array Slot), mm G A s M H locs → lv_has ls 7 [(0, .ref f0), (1, .int f1), (2, .int f2), (3, .int f3), (4, .int f4), (5, .int y5)] → pl_X7_orders_21 rc k1 f0 f1 f2 f3 f4 n y5 M = some M' → W p l e rmo_3 s m args below meth c H locs 0 0 (MQ below (CQ G M' none A) args s 0 0 A) (F0 m 21 ls []) := by
  have hx := C0.1
  have hb := C0.2.1
  have hown := C0.2.2.2.1
  have hts := C0.2.2.2.2.1
  intro n
  induction n with
  | zero => intro y5 M H locs ls hM hl hp; rw [pl_X7_orders_21] at hp; cases hp
  | succ n ih =>
    intro y5 M H locs ls hM hl hp
    rw [pl_X7_orders_21] at hp
    refine lv_iload hx hb dX7_orders_21 (lv_at hl 5 rfl) ?_
    refine lv_iload hx hb dX7_orders_23 (lv_at hl 4 rfl) ?_
    refine lv_icmp_ge (tgt := 82) hx hb dX7_orders_25 (by decide) (fun c23 => ?_) (fun c23 => ?_)
    · replace hp := oT c23 hp
      exact hk1  _ _ _ _ hM (lv_sub hl [] rfl) hp
    · replace hp := oF c23 hp
      refine lv_iload_n hx hb dX7_orders_28 rfl (lv_at hl 2 rfl) ?_
      refine lv_iload hx hb dX7_orders_29 (lv_at hl 5 rfl) ?_
      refine lv_ishr hx hb dX7_orders_31 ?_
      refine lv_iconst (v := 1) hx hb dX7_orders_32 (by decide) ?_
      refine lv_iand hx hb dX7_orders_33 ?_
      refine lv_iconst (v := 1) hx hb dX7_orders_34 (by decide) ?_
      refine lv_icmp_ne (tgt := 41) hx hb dX7_orders_35 (by decide) (fun c24 => ?_) (fun c24 => ?_)
      · replace hp := oF c24 hp
        refine lv_aload_n hx hb dX7_orders_41 rfl (lv_at hl 0 rfl) ?_
        obtain ⟨v25, hv25, hp⟩ := ob hp
        refine mr_getR C0 cbX7 hM 0 (by decide) tw_1224 hv25 dX7_orders_42 ?_
        refine lv_sipush (v := 564) hx hb dX7_orders_45 (by decide) ?_
        refine lv_iconst (v := 4) hx hb dX7_orders_48 (by decide) ?_
        refine lv_iload_n hx hb dX7_orders_49 rfl (lv_at hl 1 rfl) ?_
        refine lv_imul hx hb dX7_orders_50 ?_
        refine lv_iadd hx hb dX7_orders_51 ?_
        refine lv_iload_n hx hb dX7_orders_52 rfl (lv_at hl 3 rfl) ?_
        refine lv_iadd hx hb dX7_orders_53 ?_
        refine lv_aload_n hx hb dX7_orders_54 rfl (lv_at hl 0 rfl) ?_
        obtain ⟨v26, hv26, hp⟩ := ob hp
        refine mr_getR C0 cbX7 hM 24 (by decide) tw_1248 hv26 dX7_orders_55 ?_
        refine lv_iload hx hb dX7_orders_58 (lv_at hl 5 rfl) ?_
        obtain ⟨v27, hv27, hp⟩ := ob hp
        refine mr_iald C0 hM hv27 dX7_orders_60 ?_
        obtain ⟨M28, hM28, hp⟩ := ob hp
        refine mr_iast C0 hM hM28 dX7_orders_61 (fun H locs hM => ?_)
        refine lv_aload_n hx hb dX7_orders_62 rfl (lv_at hl 0 rfl) ?_
        refine lv_iload_n hx hb dX7_orders_63 rfl (lv_at hl 1 rfl) ?_
        refine lv_iload_n hx hb dX7_orders_64 rfl (lv_at hl 2 rfl) ?_
        refine lv_iconst (v := 1) hx hb dX7_orders_65 (by decide) ?_
        refine lv_iload hx hb dX7_orders_66 (lv_at hl 5 rfl) ?_
        refine lv_ishl hx hb dX7_orders_68 ?_
        refine lv_ior hx hb dX7_orders_69 ?_
        refine lv_iload_n hx hb dX7_orders_70 rfl (lv_at hl 3 rfl) ?_
        refine lv_iconst (v := 1) hx hb dX7_orders_71 (by decide) ?_
        refine lv_iadd hx hb dX7_orders_72 ?_
        obtain ⟨_, h29, hp⟩ := ob hp
        obtain ⟨M30, hM30, hp⟩ := ob hp
        refine mr_V0 (As := [.int f1, .int (f2 ||| ((1 : Int32) <<< (y5 &&& 31))), .int (f3 + (1 : Int32))]) (rest := []) C0 cbX7 hM h29 rfl (hrc hM30) tw_1812 tw_1814 tws_71 tw_7 tw_1815 yk_X7_orders (by decide) rfl hl.1 (Nat.le_of_ble_eq_true rfl) dX7_orders_73 rfl (fun H locs hM => ?_)
        refine lv_iinc (v := (y5 + (1 : Int32))) (lv' := [(5, .int (y5 + (1 : Int32))), (0, .ref f0), (1, .int f1), (2, .int f2), (3, .int f3), (4, .int f4)]) hx hb dX7_orders_76 hl (k := 5) rfl rfl (by decide) rfl (fun ls hl => ?_)
        refine lv_goto (tgt := 21) hx hb dX7_orders_79 (by decide) ?_
        exact ih _ _ _ _ _ hM (lv_sub hl [1, 2, 3, 4, 5, 0] rfl) hp
      · replace hp := oT c24 hp
        refine lv_goto (tgt := 76) hx hb dX7_orders_38 (by decide) ?_
        refine lv_iinc (v := (y5 + (1 : Int32))) (lv' := [(5, .int (y5 + (1 : Int32))), (0, .ref f0), (1, .int f1), (2, .int f2), (3, .int f3), (4, .int f4)]) hx hb dX7_orders_76 hl (k := 5) rfl rfl (by decide) rfl (fun ls hl => ?_)
        refine lv_goto (tgt := 21) hx hb dX7_orders_79 (by decide) ?_
        exact ih _ _ _ _ _ hM (lv_sub hl [1, 2, 3, 4, 5, 0] rfl) hp
set_option maxHeartbeats 4000000 in
set_option maxRecDepth 100000 in
theorem wr_X7_orders3 {rc : Nat → Int32 → Int32 → Int32 → Mem → Option Mem} {G : gG} (hG : GOK G) {l : Launch} (hrc : ∀ {a0 : Nat} {a1 a2 a3 : Int32} {M M1 : Mem}, rc a0 a1 a2 a3 M = some M1 → CT G l yX7_orders (wT yX7_orders cX7_orders 7 (none)) rmo_2 [.ref a0, .int a1, .int a2, .int a3] M none M1 0 0) {a0 : Nat} {a1 : Int32} {a2 : Int32} {a3 : Int32} {M : Mem} {M' : Mem} (hp : pr_X7_orders rc a0 a1 a2 a3 M = some M') : CT G l yX7_orders (wT yX7_orders cX7_orders 7 (none)) rmo_3 [.ref a0, .int a1, .int a2, .int a3] M none M' 0 0 := by
  refine CT_of (own := RX7) (maxL := 7) (ret := (none)) hG (by decide) rfl (Nat.le_of_ble_eq_true rfl) (fun p e s m below meth c A C0 hr hlk hM ls hl => ?_)
  have hl : lv_has ls 7 [(0, .ref a0), (1, .int a1), (2, .int a2), (3, .int a3)] := hl
  generalize ([.ref a0, .int a1, .int a2, .int a3] : List Value).toArray = args at C0 ⊢
  have hx := C0.1
  have hb := C0.2.1
  have hown := C0.2.2.2.1
  have hts := C0.2.2.2.2.1
  unfold pr_X7_orders at hp
  refine lv_aload_n hx hb dX7_orders_0 rfl (lv_at hl 0 rfl) ?_
  obtain ⟨v1, hv1, hp⟩ := ob hp
  refine mr_getR C0 cbX7 hM 0 (by decide) tw_1224 hv1 dX7_orders_1 ?_
  refine lv_sipush (v := 324) hx hb dX7_orders_4 (by decide) ?_
  refine lv_iload_n hx hb dX7_orders_7 rfl (lv_at hl 1 rfl) ?_
  refine lv_iadd hx hb dX7_orders_8 ?_
  obtain ⟨v2, hv2, hp⟩ := ob hp
  refine mr_iald C0 hM hv2 dX7_orders_9 ?_
  refine lv_istore (lv' := [(4, .int v2), (0, .ref a0), (1, .int a1), (2, .int a2), (3, .int a3)]) hx hb dX7_orders_10 hl (by decide) rfl (fun ls hl => ?_)
  refine lv_iload_n hx hb dX7_orders_12 rfl (lv_at hl 4 rfl) ?_
  refine lv_iload hx hb dX7_orders_13 (lv_at hl 0 rfl) ?_
  refine lv_icmp_ge (tgt := 83) hx hb dX7_orders_15 (by decide) (fun c3 => ?_) (fun c3 => ?_)
  · replace hp := oT c3 hp
    refine lv_aload_n hx hb dX7_orders_83 rfl (lv_at hl 1 rfl) ?_
    obtain ⟨_, h4, hp⟩ := ob hp
    obtain ⟨v5, M6, hv5, hp⟩ := ob3 hp
    refine mr_V1 (As := []) (rest := []) C0 cbX7 hM h4 rfl (w_X7_allocates hG hv5) tw_1615 tw_1617 tws_55 tw_7 tw_1618 yk_X7_allocates (by decide) rfl hl.1 (Nat.le_of_ble_eq_true rfl) dX7_orders_84 rfl (fun H locs hM => ?_)
    refine lv_istore (lv' := [(5, .int v5), (4, .int v2), (0, .ref a0), (1, .int a1), (2, .int a2), (3, .int a3)]) hx hb dX7_orders_87 hl (by decide) rfl (fun ls hl => ?_)
    refine lv_iconst (v := 0) hx hb dX7_orders_89 (by decide) ?_
    refine lv_istore (lv' := [(6, .int (0 : Int32)), (5, .int v5), (4, .int v2), (0, .ref a0), (1, .int a1), (2, .int a2), (3, .int a3)]) hx hb dX7_orders_90 hl (by decide) rfl (fun ls hl => ?_)
    obtain ⟨k8, ek8, hp⟩ := ojn hp
    have hk8 : ∀ (M7 : Mem) (H : Heap) (locs : List Loc) (ls : Array Slot), mm G A s M7 H locs → lv_has ls 7 [] → k8  M7 = some M' → W p l e rmo_3 s m args below meth c H locs 0 0 (MQ below (CQ G M' none A) args s 0 0 A) (F0 m 153 ls []) := by
      intro  M7 H locs ls hM hl hp
      rw [ek8] at hp
      exact mr_vret C0 hr hlk hM (Option.some.inj hp) (Nat.le_refl _) (Nat.le_refl _) dX7_orders_153
    refine wl_X7_orders3_92 C0 hr hlk hG hrc (fun M22 H locs ls hM hl hp => ?_) FU _ _ _ _ _ hM (lv_sub hl [3, 4, 2, 1, 0] rfl) hp
    exact hk8  _ _ _ _ hM (lv_sub hl [] rfl) hp
  · replace hp := oF c3 hp
    refine lv_iconst (v := 0) hx hb dX7_orders_18 (by decide) ?_
    refine lv_istore (lv' := [(5, .int (0 : Int32)), (4, .int v2), (0, .ref a0), (1, .int a1), (2, .int a2), (3, .int a3)]) hx hb dX7_orders_19 hl (by decide) rfl (fun ls hl => ?_)
    refine wl_X7_orders3_21 C0 hr hlk hG hrc (fun M31 H locs ls hM hl hp => ?_) FU _ _ _ _ _ hM (lv_sub hl [2, 3, 4, 5, 1, 0] rfl) hp
    exact mr_vret C0 hr hlk hM (Option.some.inj hp) (Nat.le_refl _) (Nat.le_refl _) dX7_orders_82
abbrev rmo_4 : Room := { frames := 11, cells := 0, slots := 0, locals := 261 }
set_option maxHeartbeats 4000000 in
set_option maxRecDepth 100000 in
theorem wl_X7_orders4_92 {rc : Nat → Int32 → Int32 → Int32 → Mem → Option Mem} {G : gG} {p : Program} {l : Launch} {e : Env} {s : State} {m : MethodId} {args : Array Value} {below : List Frame} {meth : Method} {c : Code} {A : Nat → Prop} {M' : Mem} {k1 : Mem → Option (Mem)} {f0 : Nat} {f1 : Int32} {f4 : Int32} {f5 : Int32} (C0 : cx G p s m args c cX7_orders RX7 7 A) (hr : meth.sig.returnType = (none)) (hlk : meth.locks = false) (hG : GOK G) (hrc : ∀ {a0 : Nat} {a1 a2 a3 : Int32} {M M1 : Mem}, rc a0 a1 a2 a3 M = some M1 → CT G l yX7_orders (wT yX7_orders cX7_orders 7 (none)) rmo_3 [.ref a0, .int a1, .int a2, .int a3] M none M1 0 0) (hk1 : ∀ (M : Mem) (H : Heap) (locs : List Loc) (ls : Array Slot), mm G A s M H locs → lv_has ls 7 [] → k1 M = some M' → W p l e rmo_4 s m args below meth c H locs 0 0 (MQ below (CQ G M' none A) args s 0 0 A) (F0 m 153 ls [])) : ∀ (n : Nat) (y6 : Int32) (M : Mem) (H : Heap) (locs : List Loc) (ls : Array Slot), mm G A s M H locs → lv_has ls 7 [(0, .ref f0), (1, .int f1), (4, .int f4), (5, .int f5), (6, .int y6)] → pl_X7_orders_92 rc k1 f0 f1 f4 f5 n y6 M = some M' → W p l e rmo_4 s m args below meth c H locs 0 0 (MQ below (CQ G M' none A) args s 0 0 A) (F0 m 92 ls []) := by
  have hx := C0.1
  have hb := C0.2.1
  have hown := C0.2.2.2.1
  have hts := C0.2.2.2.2.1
  intro n
  induction n with
  | zero => intro y6 M H locs ls hM hl hp; rw [pl_X7_orders_92] at hp; cases hp
  | succ n ih =>
    intro y6 M H locs ls hM hl hp
    rw [pl_X7_orders_92] at hp
    refine lv_iload hx hb dX7_orders_92 (lv_at hl 4 rfl) ?_
    refine lv_iload hx hb dX7_orders_94 (lv_at hl 2 rfl) ?_
    refine lv_icmp_ge (tgt := 153) hx hb dX7_orders_96 (by decide) (fun c9 => ?_) (fun c9 => ?_)
    · replace hp := oT c9 hp
      exact hk1  _ _ _ _ hM (lv_sub hl [] rfl) hp
    · replace hp := oF c9 hp
      refine lv_iload hx hb dX7_orders_99 (lv_at hl 3 rfl) ?_
      refine lv_if_lt (tgt := 153) hx hb dX7_orders_101 (by decide) (fun c10 => ?_) (fun c10 => ?_)
      · replace hp := oT c10 hp
        exact hk1  _ _ _ _ hM (lv_sub hl [] rfl) hp
      · replace hp := oF c10 hp
        refine lv_aload_n hx hb dX7_orders_104 rfl (lv_at hl 0 rfl) ?_
        obtain ⟨v11, hv11, hp⟩ := ob hp
        refine mr_getR C0 cbX7 hM 24 (by decide) tw_1248 hv11 dX7_orders_105 ?_
        refine lv_iload hx hb dX7_orders_108 (lv_at hl 4 rfl) ?_
        obtain ⟨v12, hv12, hp⟩ := ob hp
        refine mr_iald C0 hM hv12 dX7_orders_110 ?_
        refine lv_aload_n hx hb dX7_orders_111 rfl (lv_at hl 0 rfl) ?_
        obtain ⟨v13, hv13, hp⟩ := ob hp
        refine mr_getR C0 cbX7 hM 0 (by decide) tw_1224 hv13 dX7_orders_112 ?_
        refine lv_sipush (v := 484) hx hb dX7_orders_115 (by decide) ?_
        refine lv_iload_n hx hb dX7_orders_118 rfl (lv_at hl 1 rfl) ?_
        refine lv_iadd hx hb dX7_orders_119 ?_
        obtain ⟨v14, hv14, hp⟩ := ob hp
        refine mr_iald C0 hM hv14 dX7_orders_120 ?_
        refine lv_icmp_ne (tgt := 147) hx hb dX7_orders_121 (by decide) (fun c15 => ?_) (fun c15 => ?_)
        · replace hp := oF c15 hp
          refine lv_iinc (v := (y6 + (1 : Int32))) (lv' := [(6, .int (y6 + (1 : Int32))), (0, .ref f0), (1, .int f1), (4, .int f4), (5, .int f5)]) hx hb dX7_orders_147 hl (k := 4) rfl rfl (by decide) rfl (fun ls hl => ?_)
          refine lv_goto (tgt := 92) hx hb dX7_orders_150 (by decide) ?_
          exact ih _ _ _ _ _ hM (lv_sub hl [1, 2, 3, 4, 0] rfl) hp
        · replace hp := oT c15 hp
          refine lv_aload_n hx hb dX7_orders_124 rfl (lv_at hl 0 rfl) ?_
          obtain ⟨v16, hv16, hp⟩ := ob hp
          refine mr_getI C0 cbX7 hM 25 (by decide) tw_1249 hv16 dX7_orders_125 ?_
          refine lv_iconst (v := -1) hx hb dX7_orders_128 (by decide) ?_
          obtain ⟨k17, ek17, hp⟩ := ojn hp
          have hk17 : ∀ (H : Heap) (locs : List Loc) (ls : Array Slot), mm G A s M H locs → lv_has ls 7 [(0, .ref f0), (1, .int f1), (4, .int f4), (5, .int f5), (6, .int y6)] → k17 () = some M' → W p l e rmo_4 s m args below meth c H locs 0 0 (MQ below (CQ G M' none A) args s 0 0 A) (F0 m 141 ls []) := by
            intro  H locs ls hM hl hp
            rw [ek17] at hp
            refine lv_aload_n hx hb dX7_orders_141 rfl (lv_at hl 0 rfl) ?_
            refine lv_iload hx hb dX7_orders_142 (lv_at hl 4 rfl) ?_
            obtain ⟨M18, hM18, hp⟩ := ob hp
            refine mr_putI C0 cbX7 hM 25 (by decide) rfl rfl tw_1249 hM18 dX7_orders_144 (fun H locs hM => ?_)
            refine lv_iinc (v := (y6 + (1 : Int32))) (lv' := [(6, .int (y6 + (1 : Int32))), (0, .ref f0), (1, .int f1), (4, .int f4), (5, .int f5)]) hx hb dX7_orders_147 hl (k := 4) rfl rfl (by decide) rfl (fun ls hl => ?_)
            refine lv_goto (tgt := 92) hx hb dX7_orders_150 (by decide) ?_
            exact ih _ _ _ _ _ hM (lv_sub hl [1, 2, 3, 4, 0] rfl) hp
          refine lv_icmp_eq (tgt := 141) hx hb dX7_orders_129 (by decide) (fun c19 => ?_) (fun c19 => ?_)
          · replace hp := oT c19 hp
            exact hk17  _ _ _ hM (lv_sub hl [0, 1, 2, 3, 4] rfl) hp
          · replace hp := oF c19 hp
            refine lv_iload hx hb dX7_orders_132 (lv_at hl 4 rfl) ?_
            refine lv_aload_n hx hb dX7_orders_134 rfl (lv_at hl 0 rfl) ?_
            obtain ⟨v20, hv20, hp⟩ := ob hp
            refine mr_getI C0 cbX7 hM 25 (by decide) tw_1249 hv20 dX7_orders_135 ?_
            refine lv_icmp_ge (tgt := 147) hx hb dX7_orders_138 (by decide) (fun c21 => ?_) (fun c21 => ?_)
            · replace hp := oT c21 hp
              refine lv_iinc (v := (y6 + (1 : Int32))) (lv' := [(6, .int (y6 + (1 : Int32))), (0, .ref f0), (1, .int f1), (4, .int f4), (5, .int f5)]) hx hb dX7_orders_147 hl (k := 4) rfl rfl (by decide) rfl (fun ls hl => ?_)
              refine lv_goto (tgt := 92) hx hb dX7_orders_150 (by decide) ?_
              exact ih _ _ _ _ _ hM (lv_sub hl [1, 2, 3, 4, 0] rfl) hp
            · replace hp := oF c21 hp
              exact hk17  _ _ _ hM (lv_sub hl [0, 1, 2, 3, 4] rfl) hp
set_option maxHeartbeats 4000000 in
set_option maxRecDepth 100000 in
theorem wl_X7_orders4_21 {rc : Nat → Int32 → Int32 → Int32 → Mem → Option Mem} {G : gG} {p : Program} {l : Launch} {e : Env} {s : State} {m : MethodId} {args : Array Value} {below : List Frame} {meth : Method} {c : Code} {A : Nat → Prop} {M' : Mem} {k1 : Mem → Option (Mem)} {f0 : Nat} {f1 : Int32} {f2 : Int32} {f3 : Int32} {f4 : Int32} (C0 : cx G p s m args c cX7_orders RX7 7 A) (hr : meth.sig.returnType = (none)) (hlk : meth.locks = false) (hG : GOK G) (hrc : ∀ {a0 : Nat} {a1 a2 a3 : Int32} {M M1 : Mem}, rc a0 a1 a2 a3 M = some M1 → CT G l yX7_orders (wT yX7_orders cX7_orders 7 (none)) rmo_3 [.ref a0, .int a1, .int a2, .int a3] M none M1 0 0) (hk1 : ∀ (M : Mem) (H : Heap) (locs : List Loc) (ls : Array Slot), mm G A s M H locs → lv_has ls 7 [] → k1 M = some M' → W p l e rmo_4 s m args below meth c H locs 0 0 (MQ below (CQ G M' none A) args s 0 0 A) (F0 m 82 ls [])) : ∀ (n : Nat) (y5 : Int32) (M : Mem) (H : Heap) (locs : List Loc) (ls : Array Slot), mm G A s M H locs → lv_has ls 7 [(0, .ref f0), (1, .int f1), (2, .int f2), (3, .int f3), (4, .int f4), (5, .int y5)] → pl_X7_orders_21 rc k1 f0 f1 f2 f3 f4 n y5 M = some M' → W p l e rmo_4 s m args below meth c H locs 0 0 (MQ below (CQ G M' none A) args s 0 0 A) (F0 m 21 ls []) := by
  have hx := C0.1
  have hb := C0.2.1
  have hown := C0.2.2.2.1
  have hts := C0.2.2.2.2.1
  intro n
  induction n with
  | zero => intro y5 M H locs ls hM hl hp; rw [pl_X7_orders_21] at hp; cases hp
  | succ n ih =>
    intro y5 M H locs ls hM hl hp
    rw [pl_X7_orders_21] at hp
    refine lv_iload hx hb dX7_orders_21 (lv_at hl 5 rfl) ?_
    refine lv_iload hx hb dX7_orders_23 (lv_at hl 4 rfl) ?_
    refine lv_icmp_ge (tgt := 82) hx hb dX7_orders_25 (by decide) (fun c23 => ?_) (fun c23 => ?_)
    · replace hp := oT c23 hp
      exact hk1  _ _ _ _ hM (lv_sub hl [] rfl) hp
    · replace hp := oF c23 hp
      refine lv_iload_n hx hb dX7_orders_28 rfl (lv_at hl 2 rfl) ?_
      refine lv_iload hx hb dX7_orders_29 (lv_at hl 5 rfl) ?_
      refine lv_ishr hx hb dX7_orders_31 ?_
      refine lv_iconst (v := 1) hx hb dX7_orders_32 (by decide) ?_
      refine lv_iand hx hb dX7_orders_33 ?_
      refine lv_iconst (v := 1) hx hb dX7_orders_34 (by decide) ?_
      refine lv_icmp_ne (tgt := 41) hx hb dX7_orders_35 (by decide) (fun c24 => ?_) (fun c24 => ?_)
      · replace hp := oF c24 hp
        refine lv_aload_n hx hb dX7_orders_41 rfl (lv_at hl 0 rfl) ?_
        obtain ⟨v25, hv25, hp⟩ := ob hp
        refine mr_getR C0 cbX7 hM 0 (by decide) tw_1224 hv25 dX7_orders_42 ?_
        refine lv_sipush (v := 564) hx hb dX7_orders_45 (by decide) ?_
        refine lv_iconst (v := 4) hx hb dX7_orders_48 (by decide) ?_
        refine lv_iload_n hx hb dX7_orders_49 rfl (lv_at hl 1 rfl) ?_
        refine lv_imul hx hb dX7_orders_50 ?_
        refine lv_iadd hx hb dX7_orders_51 ?_
        refine lv_iload_n hx hb dX7_orders_52 rfl (lv_at hl 3 rfl) ?_
        refine lv_iadd hx hb dX7_orders_53 ?_
        refine lv_aload_n hx hb dX7_orders_54 rfl (lv_at hl 0 rfl) ?_
        obtain ⟨v26, hv26, hp⟩ := ob hp
        refine mr_getR C0 cbX7 hM 24 (by decide) tw_1248 hv26 dX7_orders_55 ?_
        refine lv_iload hx hb dX7_orders_58 (lv_at hl 5 rfl) ?_
        obtain ⟨v27, hv27, hp⟩ := ob hp
        refine mr_iald C0 hM hv27 dX7_orders_60 ?_
        obtain ⟨M28, hM28, hp⟩ := ob hp
        refine mr_iast C0 hM hM28 dX7_orders_61 (fun H locs hM => ?_)
        refine lv_aload_n hx hb dX7_orders_62 rfl (lv_at hl 0 rfl) ?_
        refine lv_iload_n hx hb dX7_orders_63 rfl (lv_at hl 1 rfl) ?_
        refine lv_iload_n hx hb dX7_orders_64 rfl (lv_at hl 2 rfl) ?_
        refine lv_iconst (v := 1) hx hb dX7_orders_65 (by decide) ?_
        refine lv_iload hx hb dX7_orders_66 (lv_at hl 5 rfl) ?_
        refine lv_ishl hx hb dX7_orders_68 ?_
        refine lv_ior hx hb dX7_orders_69 ?_
        refine lv_iload_n hx hb dX7_orders_70 rfl (lv_at hl 3 rfl) ?_
        refine lv_iconst (v := 1) hx hb dX7_orders_71 (by decide) ?_
        refine lv_iadd hx hb dX7_orders_72 ?_
        obtain ⟨_, h29, hp⟩ := ob hp
        obtain ⟨M30, hM30, hp⟩ := ob hp
        refine mr_V0 (As := [.int f1, .int (f2 ||| ((1 : Int32) <<< (y5 &&& 31))), .int (f3 + (1 : Int32))]) (rest := []) C0 cbX7 hM h29 rfl (hrc hM30) tw_1812 tw_1814 tws_71 tw_7 tw_1815 yk_X7_orders (by decide) rfl hl.1 (Nat.le_of_ble_eq_true rfl) dX7_orders_73 rfl (fun H locs hM => ?_)
        refine lv_iinc (v := (y5 + (1 : Int32))) (lv' := [(5, .int (y5 + (1 : Int32))), (0, .ref f0), (1, .int f1), (2, .int f2), (3, .int f3), (4, .int f4)]) hx hb dX7_orders_76 hl (k := 5) rfl rfl (by decide) rfl (fun ls hl => ?_)
        refine lv_goto (tgt := 21) hx hb dX7_orders_79 (by decide) ?_
        exact ih _ _ _ _ _ hM (lv_sub hl [1, 2, 3, 4, 5, 0] rfl) hp
      · replace hp := oT c24 hp
        refine lv_goto (tgt := 76) hx hb dX7_orders_38 (by decide) ?_
        refine lv_iinc (v := (y5 + (1 : Int32))) (lv' := [(5, .int (y5 + (1 : Int32))), (0, .ref f0), (1, .int f1), (2, .int f2), (3, .int f3), (4, .int f4)]) hx hb dX7_orders_76 hl (k := 5) rfl rfl (by decide) rfl (fun ls hl => ?_)
        refine lv_goto (tgt := 21) hx hb dX7_orders_79 (by decide) ?_
        exact ih _ _ _ _ _ hM (lv_sub hl [1, 2, 3, 4, 5, 0] rfl) hp
set_option maxHeartbeats 4000000 in
set_option maxRecDepth 100000 in
theorem wr_X7_orders4 {rc : Nat → Int32 → Int32 → Int32 → Mem → Option Mem} {G : gG} (hG : GOK G) {l : Launch} (hrc : ∀ {a0 : Nat} {a1 a2 a3 : Int32} {M M1 : Mem}, rc a0 a1 a2 a3 M = some M1 → CT G l yX7_orders (wT yX7_orders cX7_orders 7 (none)) rmo_3 [.ref a0, .int a1, .int a2, .int a3] M none M1 0 0) {a0 : Nat} {a1 : Int32} {a2 : Int32} {a3 : Int32} {M : Mem} {M' : Mem} (hp : pr_X7_orders rc a0 a1 a2 a3 M = some M') : CT G l yX7_orders (wT yX7_orders cX7_orders 7 (none)) rmo_4 [.ref a0, .int a1, .int a2, .int a3] M none M' 0 0 := by
  refine CT_of (own := RX7) (maxL := 7) (ret := (none)) hG (by decide) rfl (Nat.le_of_ble_eq_true rfl) (fun p e s m below meth c A C0 hr hlk hM ls hl => ?_)
  have hl : lv_has ls 7 [(0, .ref a0), (1, .int a1), (2, .int a2), (3, .int a3)] := hl
  generalize ([.ref a0, .int a1, .int a2, .int a3] : List Value).toArray = args at C0 ⊢
  have hx := C0.1
  have hb := C0.2.1
  have hown := C0.2.2.2.1
  have hts := C0.2.2.2.2.1
  unfold pr_X7_orders at hp
  refine lv_aload_n hx hb dX7_orders_0 rfl (lv_at hl 0 rfl) ?_
  obtain ⟨v1, hv1, hp⟩ := ob hp
  refine mr_getR C0 cbX7 hM 0 (by decide) tw_1224 hv1 dX7_orders_1 ?_
  refine lv_sipush (v := 324) hx hb dX7_orders_4 (by decide) ?_
  refine lv_iload_n hx hb dX7_orders_7 rfl (lv_at hl 1 rfl) ?_
  refine lv_iadd hx hb dX7_orders_8 ?_
  obtain ⟨v2, hv2, hp⟩ := ob hp
  refine mr_iald C0 hM hv2 dX7_orders_9 ?_
  refine lv_istore (lv' := [(4, .int v2), (0, .ref a0), (1, .int a1), (2, .int a2), (3, .int a3)]) hx hb dX7_orders_10 hl (by decide) rfl (fun ls hl => ?_)
  refine lv_iload_n hx hb dX7_orders_12 rfl (lv_at hl 4 rfl) ?_
  refine lv_iload hx hb dX7_orders_13 (lv_at hl 0 rfl) ?_
  refine lv_icmp_ge (tgt := 83) hx hb dX7_orders_15 (by decide) (fun c3 => ?_) (fun c3 => ?_)
  · replace hp := oT c3 hp
    refine lv_aload_n hx hb dX7_orders_83 rfl (lv_at hl 1 rfl) ?_
    obtain ⟨_, h4, hp⟩ := ob hp
    obtain ⟨v5, M6, hv5, hp⟩ := ob3 hp
    refine mr_V1 (As := []) (rest := []) C0 cbX7 hM h4 rfl (w_X7_allocates hG hv5) tw_1615 tw_1617 tws_55 tw_7 tw_1618 yk_X7_allocates (by decide) rfl hl.1 (Nat.le_of_ble_eq_true rfl) dX7_orders_84 rfl (fun H locs hM => ?_)
    refine lv_istore (lv' := [(5, .int v5), (4, .int v2), (0, .ref a0), (1, .int a1), (2, .int a2), (3, .int a3)]) hx hb dX7_orders_87 hl (by decide) rfl (fun ls hl => ?_)
    refine lv_iconst (v := 0) hx hb dX7_orders_89 (by decide) ?_
    refine lv_istore (lv' := [(6, .int (0 : Int32)), (5, .int v5), (4, .int v2), (0, .ref a0), (1, .int a1), (2, .int a2), (3, .int a3)]) hx hb dX7_orders_90 hl (by decide) rfl (fun ls hl => ?_)
    obtain ⟨k8, ek8, hp⟩ := ojn hp
    have hk8 : ∀ (M7 : Mem) (H : Heap) (locs : List Loc) (ls : Array Slot), mm G A s M7 H locs → lv_has ls 7 [] → k8  M7 = some M' → W p l e rmo_4 s m args below meth c H locs 0 0 (MQ below (CQ G M' none A) args s 0 0 A) (F0 m 153 ls []) := by
      intro  M7 H locs ls hM hl hp
      rw [ek8] at hp
      exact mr_vret C0 hr hlk hM (Option.some.inj hp) (Nat.le_refl _) (Nat.le_refl _) dX7_orders_153
    refine wl_X7_orders4_92 C0 hr hlk hG hrc (fun M22 H locs ls hM hl hp => ?_) FU _ _ _ _ _ hM (lv_sub hl [3, 4, 2, 1, 0] rfl) hp
    exact hk8  _ _ _ _ hM (lv_sub hl [] rfl) hp
  · replace hp := oF c3 hp
    refine lv_iconst (v := 0) hx hb dX7_orders_18 (by decide) ?_
    refine lv_istore (lv' := [(5, .int (0 : Int32)), (4, .int v2), (0, .ref a0), (1, .int a1), (2, .int a2), (3, .int a3)]) hx hb dX7_orders_19 hl (by decide) rfl (fun ls hl => ?_)
    refine wl_X7_orders4_21 C0 hr hlk hG hrc (fun M31 H locs ls hM hl hp => ?_) FU _ _ _ _ _ hM (lv_sub hl [2, 3, 4, 5, 1, 0] rfl) hp
    exact mr_vret C0 hr hlk hM (Option.some.inj hp) (Nat.le_refl _) (Nat.le_refl _) dX7_orders_82
abbrev rmo_5 : Room := { frames := 12, cells := 0, slots := 0, locals := 287 }
set_option maxHeartbeats 4000000 in
set_option maxRecDepth 100000 in
theorem wl_X7_orders5_92 {rc : Nat → Int32 → Int32 → Int32 → Mem → Option Mem} {G : gG} {p : Program} {l : Launch} {e : Env} {s : State} {m : MethodId} {args : Array Value} {below : List Frame} {meth : Method} {c : Code} {A : Nat → Prop} {M' : Mem} {k1 : Mem → Option (Mem)} {f0 : Nat} {f1 : Int32} {f4 : Int32} {f5 : Int32} (C0 : cx G p s m args c cX7_orders RX7 7 A) (hr : meth.sig.returnType = (none)) (hlk : meth.locks = false) (hG : GOK G) (hrc : ∀ {a0 : Nat} {a1 a2 a3 : Int32} {M M1 : Mem}, rc a0 a1 a2 a3 M = some M1 → CT G l yX7_orders (wT yX7_orders cX7_orders 7 (none)) rmo_4 [.ref a0, .int a1, .int a2, .int a3] M none M1 0 0) (hk1 : ∀ (M : Mem) (H : Heap) (locs : List Loc) (ls : Array Slot), mm G A s M H locs → lv_has ls 7 [] → k1 M = some M' → W p l e rmo_5 s m args below meth c H locs 0 0 (MQ below (CQ G M' none A) args s 0 0 A) (F0 m 153 ls [])) : ∀ (n : Nat) (y6 : Int32) (M : Mem) (H : Heap) (locs : List Loc) (ls : Array Slot), mm G A s M H locs → lv_has ls 7 [(0, .ref f0), (1, .int f1), (4, .int f4), (5, .int f5), (6, .int y6)] → pl_X7_orders_92 rc k1 f0 f1 f4 f5 n y6 M = some M' → W p l e rmo_5 s m args below meth c H locs 0 0 (MQ below (CQ G M' none A) args s 0 0 A) (F0 m 92 ls []) := by
  have hx := C0.1
  have hb := C0.2.1
  have hown := C0.2.2.2.1
  have hts := C0.2.2.2.2.1
  intro n
  induction n with
  | zero => intro y6 M H locs ls hM hl hp; rw [pl_X7_orders_92] at hp; cases hp
  | succ n ih =>
    intro y6 M H locs ls hM hl hp
    rw [pl_X7_orders_92] at hp
    refine lv_iload hx hb dX7_orders_92 (lv_at hl 4 rfl) ?_
    refine lv_iload hx hb dX7_orders_94 (lv_at hl 2 rfl) ?_
    refine lv_icmp_ge (tgt := 153) hx hb dX7_orders_96 (by decide) (fun c9 => ?_) (fun c9 => ?_)
    · replace hp := oT c9 hp
      exact hk1  _ _ _ _ hM (lv_sub hl [] rfl) hp
    · replace hp := oF c9 hp
      refine lv_iload hx hb dX7_orders_99 (lv_at hl 3 rfl) ?_
      refine lv_if_lt (tgt := 153) hx hb dX7_orders_101 (by decide) (fun c10 => ?_) (fun c10 => ?_)
      · replace hp := oT c10 hp
        exact hk1  _ _ _ _ hM (lv_sub hl [] rfl) hp
      · replace hp := oF c10 hp
        refine lv_aload_n hx hb dX7_orders_104 rfl (lv_at hl 0 rfl) ?_
        obtain ⟨v11, hv11, hp⟩ := ob hp
        refine mr_getR C0 cbX7 hM 24 (by decide) tw_1248 hv11 dX7_orders_105 ?_
        refine lv_iload hx hb dX7_orders_108 (lv_at hl 4 rfl) ?_
        obtain ⟨v12, hv12, hp⟩ := ob hp
        refine mr_iald C0 hM hv12 dX7_orders_110 ?_
        refine lv_aload_n hx hb dX7_orders_111 rfl (lv_at hl 0 rfl) ?_
        obtain ⟨v13, hv13, hp⟩ := ob hp
        refine mr_getR C0 cbX7 hM 0 (by decide) tw_1224 hv13 dX7_orders_112 ?_
        refine lv_sipush (v := 484) hx hb dX7_orders_115 (by decide) ?_
        refine lv_iload_n hx hb dX7_orders_118 rfl (lv_at hl 1 rfl) ?_
        refine lv_iadd hx hb dX7_orders_119 ?_
        obtain ⟨v14, hv14, hp⟩ := ob hp
        refine mr_iald C0 hM hv14 dX7_orders_120 ?_
        refine lv_icmp_ne (tgt := 147) hx hb dX7_orders_121 (by decide) (fun c15 => ?_) (fun c15 => ?_)
        · replace hp := oF c15 hp
          refine lv_iinc (v := (y6 + (1 : Int32))) (lv' := [(6, .int (y6 + (1 : Int32))), (0, .ref f0), (1, .int f1), (4, .int f4), (5, .int f5)]) hx hb dX7_orders_147 hl (k := 4) rfl rfl (by decide) rfl (fun ls hl => ?_)
          refine lv_goto (tgt := 92) hx hb dX7_orders_150 (by decide) ?_
          exact ih _ _ _ _ _ hM (lv_sub hl [1, 2, 3, 4, 0] rfl) hp
        · replace hp := oT c15 hp
          refine lv_aload_n hx hb dX7_orders_124 rfl (lv_at hl 0 rfl) ?_
          obtain ⟨v16, hv16, hp⟩ := ob hp
          refine mr_getI C0 cbX7 hM 25 (by decide) tw_1249 hv16 dX7_orders_125 ?_
          refine lv_iconst (v := -1) hx hb dX7_orders_128 (by decide) ?_
          obtain ⟨k17, ek17, hp⟩ := ojn hp
          have hk17 : ∀ (H : Heap) (locs : List Loc) (ls : Array Slot), mm G A s M H locs → lv_has ls 7 [(0, .ref f0), (1, .int f1), (4, .int f4), (5, .int f5), (6, .int y6)] → k17 () = some M' → W p l e rmo_5 s m args below meth c H locs 0 0 (MQ below (CQ G M' none A) args s 0 0 A) (F0 m 141 ls []) := by
            intro  H locs ls hM hl hp
            rw [ek17] at hp
            refine lv_aload_n hx hb dX7_orders_141 rfl (lv_at hl 0 rfl) ?_
            refine lv_iload hx hb dX7_orders_142 (lv_at hl 4 rfl) ?_
            obtain ⟨M18, hM18, hp⟩ := ob hp
            refine mr_putI C0 cbX7 hM 25 (by decide) rfl rfl tw_1249 hM18 dX7_orders_144 (fun H locs hM => ?_)
            refine lv_iinc (v := (y6 + (1 : Int32))) (lv' := [(6, .int (y6 + (1 : Int32))), (0, .ref f0), (1, .int f1), (4, .int f4), (5, .int f5)]) hx hb dX7_orders_147 hl (k := 4) rfl rfl (by decide) rfl (fun ls hl => ?_)
            refine lv_goto (tgt := 92) hx hb dX7_orders_150 (by decide) ?_
            exact ih _ _ _ _ _ hM (lv_sub hl [1, 2, 3, 4, 0] rfl) hp
          refine lv_icmp_eq (tgt := 141) hx hb dX7_orders_129 (by decide) (fun c19 => ?_) (fun c19 => ?_)
          · replace hp := oT c19 hp
            exact hk17  _ _ _ hM (lv_sub hl [0, 1, 2, 3, 4] rfl) hp
          · replace hp := oF c19 hp
            refine lv_iload hx hb dX7_orders_132 (lv_at hl 4 rfl) ?_
            refine lv_aload_n hx hb dX7_orders_134 rfl (lv_at hl 0 rfl) ?_
            obtain ⟨v20, hv20, hp⟩ := ob hp
            refine mr_getI C0 cbX7 hM 25 (by decide) tw_1249 hv20 dX7_orders_135 ?_
            refine lv_icmp_ge (tgt := 147) hx hb dX7_orders_138 (by decide) (fun c21 => ?_) (fun c21 => ?_)
            · replace hp := oT c21 hp
              refine lv_iinc (v := (y6 + (1 : Int32))) (lv' := [(6, .int (y6 + (1 : Int32))), (0, .ref f0), (1, .int f1), (4, .int f4), (5, .int f5)]) hx hb dX7_orders_147 hl (k := 4) rfl rfl (by decide) rfl (fun ls hl => ?_)
              refine lv_goto (tgt := 92) hx hb dX7_orders_150 (by decide) ?_
              exact ih _ _ _ _ _ hM (lv_sub hl [1, 2, 3, 4, 0] rfl) hp
            · replace hp := oF c21 hp
              exact hk17  _ _ _ hM (lv_sub hl [0, 1, 2, 3, 4] rfl) hp
set_option maxHeartbeats 4000000 in
set_option maxRecDepth 100000 in
theorem wl_X7_orders5_21 {rc : Nat → Int32 → Int32 → Int32 → Mem → Option Mem} {G : gG} {p : Program} {l : Launch} {e : Env} {s : State} {m : MethodId} {args : Array Value} {below : List Frame} {meth : Method} {c : Code} {A : Nat → Prop} {M' : Mem} {k1 : Mem → Option (Mem)} {f0 : Nat} {f1 : Int32} {f2 : Int32} {f3 : Int32} {f4 : Int32} (C0 : cx G p s m args c cX7_orders RX7 7 A) (hr : meth.sig.returnType = (none)) (hlk : meth.locks = false) (hG : GOK G) (hrc : ∀ {a0 : Nat} {a1 a2 a3 : Int32} {M M1 : Mem}, rc a0 a1 a2 a3 M = some M1 → CT G l yX7_orders (wT yX7_orders cX7_orders 7 (none)) rmo_4 [.ref a0, .int a1, .int a2, .int a3] M none M1 0 0) (hk1 : ∀ (M : Mem) (H : Heap) (locs : List Loc) (ls : Array Slot), mm G A s M H locs → lv_has ls 7 [] → k1 M = some M' → W p l e rmo_5 s m args below meth c H locs 0 0 (MQ below (CQ G M' none A) args s 0 0 A) (F0 m 82 ls [])) : ∀ (n : Nat) (y5 : Int32) (M : Mem) (H : Heap) (locs : List Loc) (ls : Array Slot), mm G A s M H locs → lv_has ls 7 [(0, .ref f0), (1, .int f1), (2, .int f2), (3, .int f3), (4, .int f4), (5, .int y5)] → pl_X7_orders_21 rc k1 f0 f1 f2 f3 f4 n y5 M = some M' → W p l e rmo_5 s m args below meth c H locs 0 0 (MQ below (CQ G M' none A) args s 0 0 A) (F0 m 21 ls []) := by
  have hx := C0.1
  have hb := C0.2.1
  have hown := C0.2.2.2.1
  have hts := C0.2.2.2.2.1
  intro n
  induction n with
  | zero => intro y5 M H locs ls hM hl hp; rw [pl_X7_orders_21] at hp; cases hp
  | succ n ih =>
    intro y5 M H locs ls hM hl hp
    rw [pl_X7_orders_21] at hp
    refine lv_iload hx hb dX7_orders_21 (lv_at hl 5 rfl) ?_
    refine lv_iload hx hb dX7_orders_23 (lv_at hl 4 rfl) ?_
    refine lv_icmp_ge (tgt := 82) hx hb dX7_orders_25 (by decide) (fun c23 => ?_) (fun c23 => ?_)
    · replace hp := oT c23 hp
      exact hk1  _ _ _ _ hM (lv_sub hl [] rfl) hp
    · replace hp := oF c23 hp
      refine lv_iload_n hx hb dX7_orders_28 rfl (lv_at hl 2 rfl) ?_
      refine lv_iload hx hb dX7_orders_29 (lv_at hl 5 rfl) ?_
      refine lv_ishr hx hb dX7_orders_31 ?_
      refine lv_iconst (v := 1) hx hb dX7_orders_32 (by decide) ?_
      refine lv_iand hx hb dX7_orders_33 ?_
      refine lv_iconst (v := 1) hx hb dX7_orders_34 (by decide) ?_
      refine lv_icmp_ne (tgt := 41) hx hb dX7_orders_35 (by decide) (fun c24 => ?_) (fun c24 => ?_)
      · replace hp := oF c24 hp
        refine lv_aload_n hx hb dX7_orders_41 rfl (lv_at hl 0 rfl) ?_
        obtain ⟨v25, hv25, hp⟩ := ob hp
        refine mr_getR C0 cbX7 hM 0 (by decide) tw_1224 hv25 dX7_orders_42 ?_
        refine lv_sipush (v := 564) hx hb dX7_orders_45 (by decide) ?_
        refine lv_iconst (v := 4) hx hb dX7_orders_48 (by decide) ?_
        refine lv_iload_n hx hb dX7_orders_49 rfl (lv_at hl 1 rfl) ?_
        refine lv_imul hx hb dX7_orders_50 ?_
        refine lv_iadd hx hb dX7_orders_51 ?_
        refine lv_iload_n hx hb dX7_orders_52 rfl (lv_at hl 3 rfl) ?_
        refine lv_iadd hx hb dX7_orders_53 ?_
        refine lv_aload_n hx hb dX7_orders_54 rfl (lv_at hl 0 rfl) ?_
        obtain ⟨v26, hv26, hp⟩ := ob hp
        refine mr_getR C0 cbX7 hM 24 (by decide) tw_1248 hv26 dX7_orders_55 ?_
        refine lv_iload hx hb dX7_orders_58 (lv_at hl 5 rfl) ?_
        obtain ⟨v27, hv27, hp⟩ := ob hp
        refine mr_iald C0 hM hv27 dX7_orders_60 ?_
        obtain ⟨M28, hM28, hp⟩ := ob hp
        refine mr_iast C0 hM hM28 dX7_orders_61 (fun H locs hM => ?_)
        refine lv_aload_n hx hb dX7_orders_62 rfl (lv_at hl 0 rfl) ?_
        refine lv_iload_n hx hb dX7_orders_63 rfl (lv_at hl 1 rfl) ?_
        refine lv_iload_n hx hb dX7_orders_64 rfl (lv_at hl 2 rfl) ?_
        refine lv_iconst (v := 1) hx hb dX7_orders_65 (by decide) ?_
        refine lv_iload hx hb dX7_orders_66 (lv_at hl 5 rfl) ?_
        refine lv_ishl hx hb dX7_orders_68 ?_
        refine lv_ior hx hb dX7_orders_69 ?_
        refine lv_iload_n hx hb dX7_orders_70 rfl (lv_at hl 3 rfl) ?_
        refine lv_iconst (v := 1) hx hb dX7_orders_71 (by decide) ?_
        refine lv_iadd hx hb dX7_orders_72 ?_
        obtain ⟨_, h29, hp⟩ := ob hp
        obtain ⟨M30, hM30, hp⟩ := ob hp
        refine mr_V0 (As := [.int f1, .int (f2 ||| ((1 : Int32) <<< (y5 &&& 31))), .int (f3 + (1 : Int32))]) (rest := []) C0 cbX7 hM h29 rfl (hrc hM30) tw_1812 tw_1814 tws_71 tw_7 tw_1815 yk_X7_orders (by decide) rfl hl.1 (Nat.le_of_ble_eq_true rfl) dX7_orders_73 rfl (fun H locs hM => ?_)
        refine lv_iinc (v := (y5 + (1 : Int32))) (lv' := [(5, .int (y5 + (1 : Int32))), (0, .ref f0), (1, .int f1), (2, .int f2), (3, .int f3), (4, .int f4)]) hx hb dX7_orders_76 hl (k := 5) rfl rfl (by decide) rfl (fun ls hl => ?_)
        refine lv_goto (tgt := 21) hx hb dX7_orders_79 (by decide) ?_
        exact ih _ _ _ _ _ hM (lv_sub hl [1, 2, 3, 4, 5, 0] rfl) hp
      · replace hp := oT c24 hp
        refine lv_goto (tgt := 76) hx hb dX7_orders_38 (by decide) ?_
        refine lv_iinc (v := (y5 + (1 : Int32))) (lv' := [(5, .int (y5 + (1 : Int32))), (0, .ref f0), (1, .int f1), (2, .int f2), (3, .int f3), (4, .int f4)]) hx hb dX7_orders_76 hl (k := 5) rfl rfl (by decide) rfl (fun ls hl => ?_)
        refine lv_goto (tgt := 21) hx hb dX7_orders_79 (by decide) ?_
        exact ih _ _ _ _ _ hM (lv_sub hl [1, 2, 3, 4, 5, 0] rfl) hp
set_option maxHeartbeats 4000000 in
set_option maxRecDepth 100000 in
theorem wr_X7_orders5 {rc : Nat → Int32 → Int32 → Int32 → Mem → Option Mem} {G : gG} (hG : GOK G) {l : Launch} (hrc : ∀ {a0 : Nat} {a1 a2 a3 : Int32} {M M1 : Mem}, rc a0 a1 a2 a3 M = some M1 → CT G l yX7_orders (wT yX7_orders cX7_orders 7 (none)) rmo_4 [.ref a0, .int a1, .int a2, .int a3] M none M1 0 0) {a0 : Nat} {a1 : Int32} {a2 : Int32} {a3 : Int32} {M : Mem} {M' : Mem} (hp : pr_X7_orders rc a0 a1 a2 a3 M = some M') : CT G l yX7_orders (wT yX7_orders cX7_orders 7 (none)) rmo_5 [.ref a0, .int a1, .int a2, .int a3] M none M' 0 0 := by
  refine CT_of (own := RX7) (maxL := 7) (ret := (none)) hG (by decide) rfl (Nat.le_of_ble_eq_true rfl) (fun p e s m below meth c A C0 hr hlk hM ls hl => ?_)
  have hl : lv_has ls 7 [(0, .ref a0), (1, .int a1), (2, .int a2), (3, .int a3)] := hl
  generalize ([.ref a0, .int a1, .int a2, .int a3] : List Value).toArray = args at C0 ⊢
  have hx := C0.1
  have hb := C0.2.1
  have hown := C0.2.2.2.1
  have hts := C0.2.2.2.2.1
  unfold pr_X7_orders at hp
  refine lv_aload_n hx hb dX7_orders_0 rfl (lv_at hl 0 rfl) ?_
  obtain ⟨v1, hv1, hp⟩ := ob hp
  refine mr_getR C0 cbX7 hM 0 (by decide) tw_1224 hv1 dX7_orders_1 ?_
  refine lv_sipush (v := 324) hx hb dX7_orders_4 (by decide) ?_
  refine lv_iload_n hx hb dX7_orders_7 rfl (lv_at hl 1 rfl) ?_
  refine lv_iadd hx hb dX7_orders_8 ?_
  obtain ⟨v2, hv2, hp⟩ := ob hp
  refine mr_iald C0 hM hv2 dX7_orders_9 ?_
  refine lv_istore (lv' := [(4, .int v2), (0, .ref a0), (1, .int a1), (2, .int a2), (3, .int a3)]) hx hb dX7_orders_10 hl (by decide) rfl (fun ls hl => ?_)
  refine lv_iload_n hx hb dX7_orders_12 rfl (lv_at hl 4 rfl) ?_
  refine lv_iload hx hb dX7_orders_13 (lv_at hl 0 rfl) ?_
  refine lv_icmp_ge (tgt := 83) hx hb dX7_orders_15 (by decide) (fun c3 => ?_) (fun c3 => ?_)
  · replace hp := oT c3 hp
    refine lv_aload_n hx hb dX7_orders_83 rfl (lv_at hl 1 rfl) ?_
    obtain ⟨_, h4, hp⟩ := ob hp
    obtain ⟨v5, M6, hv5, hp⟩ := ob3 hp
    refine mr_V1 (As := []) (rest := []) C0 cbX7 hM h4 rfl (w_X7_allocates hG hv5) tw_1615 tw_1617 tws_55 tw_7 tw_1618 yk_X7_allocates (by decide) rfl hl.1 (Nat.le_of_ble_eq_true rfl) dX7_orders_84 rfl (fun H locs hM => ?_)
    refine lv_istore (lv' := [(5, .int v5), (4, .int v2), (0, .ref a0), (1, .int a1), (2, .int a2), (3, .int a3)]) hx hb dX7_orders_87 hl (by decide) rfl (fun ls hl => ?_)
    refine lv_iconst (v := 0) hx hb dX7_orders_89 (by decide) ?_
    refine lv_istore (lv' := [(6, .int (0 : Int32)), (5, .int v5), (4, .int v2), (0, .ref a0), (1, .int a1), (2, .int a2), (3, .int a3)]) hx hb dX7_orders_90 hl (by decide) rfl (fun ls hl => ?_)
    obtain ⟨k8, ek8, hp⟩ := ojn hp
    have hk8 : ∀ (M7 : Mem) (H : Heap) (locs : List Loc) (ls : Array Slot), mm G A s M7 H locs → lv_has ls 7 [] → k8  M7 = some M' → W p l e rmo_5 s m args below meth c H locs 0 0 (MQ below (CQ G M' none A) args s 0 0 A) (F0 m 153 ls []) := by
      intro  M7 H locs ls hM hl hp
      rw [ek8] at hp
      exact mr_vret C0 hr hlk hM (Option.some.inj hp) (Nat.le_refl _) (Nat.le_refl _) dX7_orders_153
    refine wl_X7_orders5_92 C0 hr hlk hG hrc (fun M22 H locs ls hM hl hp => ?_) FU _ _ _ _ _ hM (lv_sub hl [3, 4, 2, 1, 0] rfl) hp
    exact hk8  _ _ _ _ hM (lv_sub hl [] rfl) hp
  · replace hp := oF c3 hp
    refine lv_iconst (v := 0) hx hb dX7_orders_18 (by decide) ?_
    refine lv_istore (lv' := [(5, .int (0 : Int32)), (4, .int v2), (0, .ref a0), (1, .int a1), (2, .int a2), (3, .int a3)]) hx hb dX7_orders_19 hl (by decide) rfl (fun ls hl => ?_)
    refine wl_X7_orders5_21 C0 hr hlk hG hrc (fun M31 H locs ls hM hl hp => ?_) FU _ _ _ _ _ hM (lv_sub hl [2, 3, 4, 5, 1, 0] rfl) hp
    exact mr_vret C0 hr hlk hM (Option.some.inj hp) (Nat.le_refl _) (Nat.le_refl _) dX7_orders_82
def po_0 : Nat → Int32 → Int32 → Int32 → Mem → Option Mem := fun _ _ _ _ _ => none
def po_1 : Nat → Int32 → Int32 → Int32 → Mem → Option Mem := fun a b c d M => pr_X7_orders po_0 a b c d M
def po_2 : Nat → Int32 → Int32 → Int32 → Mem → Option Mem := fun a b c d M => pr_X7_orders po_1 a b c d M
def po_3 : Nat → Int32 → Int32 → Int32 → Mem → Option Mem := fun a b c d M => pr_X7_orders po_2 a b c d M
def po_4 : Nat → Int32 → Int32 → Int32 → Mem → Option Mem := fun a b c d M => pr_X7_orders po_3 a b c d M
def po_5 : Nat → Int32 → Int32 → Int32 → Mem → Option Mem := fun a b c d M => pr_X7_orders po_4 a b c d M
theorem wo_0 {G : gG} {l : Launch} {a0 : Nat} {a1 a2 a3 : Int32} {M M1 : Mem} (h : po_0 a0 a1 a2 a3 M = some M1) : CT G l yX7_orders (wT yX7_orders cX7_orders 7 (none)) rmo_0 [.ref a0, .int a1, .int a2, .int a3] M none M1 0 0 := by cases h
theorem wo_1 {G : gG} (hG : GOK G) {l : Launch} {a0 : Nat} {a1 a2 a3 : Int32} {M M1 : Mem} (h : po_1 a0 a1 a2 a3 M = some M1) : CT G l yX7_orders (wT yX7_orders cX7_orders 7 (none)) rmo_1 [.ref a0, .int a1, .int a2, .int a3] M none M1 0 0 := wr_X7_orders1 (rc := po_0) hG (fun h => wo_0 h) h
theorem wo_2 {G : gG} (hG : GOK G) {l : Launch} {a0 : Nat} {a1 a2 a3 : Int32} {M M1 : Mem} (h : po_2 a0 a1 a2 a3 M = some M1) : CT G l yX7_orders (wT yX7_orders cX7_orders 7 (none)) rmo_2 [.ref a0, .int a1, .int a2, .int a3] M none M1 0 0 := wr_X7_orders2 (rc := po_1) hG (fun h => wo_1 hG h) h
theorem wo_3 {G : gG} (hG : GOK G) {l : Launch} {a0 : Nat} {a1 a2 a3 : Int32} {M M1 : Mem} (h : po_3 a0 a1 a2 a3 M = some M1) : CT G l yX7_orders (wT yX7_orders cX7_orders 7 (none)) rmo_3 [.ref a0, .int a1, .int a2, .int a3] M none M1 0 0 := wr_X7_orders3 (rc := po_2) hG (fun h => wo_2 hG h) h
theorem wo_4 {G : gG} (hG : GOK G) {l : Launch} {a0 : Nat} {a1 a2 a3 : Int32} {M M1 : Mem} (h : po_4 a0 a1 a2 a3 M = some M1) : CT G l yX7_orders (wT yX7_orders cX7_orders 7 (none)) rmo_4 [.ref a0, .int a1, .int a2, .int a3] M none M1 0 0 := wr_X7_orders4 (rc := po_3) hG (fun h => wo_3 hG h) h
theorem wo_5 {G : gG} (hG : GOK G) {l : Launch} {a0 : Nat} {a1 a2 a3 : Int32} {M M1 : Mem} (h : po_5 a0 a1 a2 a3 M = some M1) : CT G l yX7_orders (wT yX7_orders cX7_orders 7 (none)) rmo_5 [.ref a0, .int a1, .int a2, .int a3] M none M1 0 0 := wr_X7_orders5 (rc := po_4) hG (fun h => wo_4 hG h) h
def p_X7_orders (a0 : Nat) (a1 : Int32) (a2 : Int32) (a3 : Int32) (M : Mem) : Option (Mem) := po_5 a0 a1 a2 a3 M
theorem w_X7_orders {G : gG} (hG : GOK G) {l : Launch} {a0 : Nat} {a1 a2 a3 : Int32} {M M' : Mem} (h : p_X7_orders a0 a1 a2 a3 M = some M') : CT G l yX7_orders (wT yX7_orders cX7_orders 7 (none)) rmo_5 [.ref a0, .int a1, .int a2, .int a3] M none M' 0 0 := wo_5 hG h
abbrev rm_X7_bestByOrder : Room := { frames := 13, cells := 0, slots := 0, locals := 313 }
def pl_X7_bestByOrder_16 (k1 : Mem → Option (Int32 × Mem)) (f0 : Nat) (f1 : Int32) : Nat → Int32 → Mem → Option (Int32 × Mem)
  | 0, _, _ => none
  | n + 1, y2, M =>
    (if (4 : Int32) ≤ y2 then
     (k1  M)
    else
     (Option.bind (gR 6 24 M f0) fun v8 =>
     (Option.bind (gR 6 0 M f0) fun v9 =>
     (Option.bind (aI 0 M v9 (((564 : Int32) + ((4 : Int32) * f1)) + y2)) fun v10 =>
     (Option.bind (aIs M v8 y2 v10) fun M11 =>
     (pl_X7_bestByOrder_16 k1 f0 f1 n (y2 + (1 : Int32)) M11)
     )
     )
     )
     )
    )
set_option maxHeartbeats 4000000 in
set_option maxRecDepth 100000 in
theorem wl_X7_bestByOrder_16 {G : gG} {p : Program} {l : Launch} {e : Env} {s : State} {m : MethodId} {args : Array Value} {below : List Frame} {meth : Method} {c : Code} {A : Nat → Prop} {r : Int32} {M' : Mem} {k1 : Mem → Option (Int32 × Mem)} {f0 : Nat} {f1 : Int32} (C0 : cx G p s m args c cX7_bestByOrder RX7 3 A) (hr : meth.sig.returnType = (some FieldType.int)) (hlk : meth.locks = false) (hG : GOK G) (hk1 : ∀ (M : Mem) (H : Heap) (locs : List Loc) (ls : Array Slot), mm G A s M H locs → lv_has ls 3 [(0, .ref f0), (1, .int f1)] → k1 M = some (r, M') → W p l e rm_X7_bestByOrder s m args below meth c H locs 0 0 (MQ below (CQ G M' (some (.int r)) A) args s 0 0 A) (F0 m 47 ls [])) : ∀ (n : Nat) (y2 : Int32) (M : Mem) (H : Heap) (locs : List Loc) (ls : Array Slot), mm G A s M H locs → lv_has ls 3 [(0, .ref f0), (1, .int f1), (2, .int y2)] → pl_X7_bestByOrder_16 k1 f0 f1 n y2 M = some (r, M') → W p l e rm_X7_bestByOrder s m args below meth c H locs 0 0 (MQ below (CQ G M' (some (.int r)) A) args s 0 0 A) (F0 m 16 ls []) := by
  have hx := C0.1
  have hb := C0.2.1
  have hown := C0.2.2.2.1
  have hts := C0.2.2.2.2.1
  intro n
  induction n with
  | zero => intro y2 M H locs ls hM hl hp; rw [pl_X7_bestByOrder_16] at hp; cases hp
  | succ n ih =>
    intro y2 M H locs ls hM hl hp
    rw [pl_X7_bestByOrder_16] at hp
    refine lv_iload_n hx hb dX7_bestByOrder_16 rfl (lv_at hl 2 rfl) ?_
    refine lv_iconst (v := 4) hx hb dX7_bestByOrder_17 (by decide) ?_
    refine lv_icmp_ge (tgt := 47) hx hb dX7_bestByOrder_18 (by decide) (fun c7 => ?_) (fun c7 => ?_)
    · replace hp := oT c7 hp
      exact hk1  _ _ _ _ hM (lv_sub hl [0, 1] rfl) hp
    · replace hp := oF c7 hp
      refine lv_aload_n hx hb dX7_bestByOrder_21 rfl (lv_at hl 0 rfl) ?_
      obtain ⟨v8, hv8, hp⟩ := ob hp
      refine mr_getR C0 cbX7 hM 24 (by decide) tw_1248 hv8 dX7_bestByOrder_22 ?_
      refine lv_iload_n hx hb dX7_bestByOrder_25 rfl (lv_at hl 2 rfl) ?_
      refine lv_aload_n hx hb dX7_bestByOrder_26 rfl (lv_at hl 0 rfl) ?_
      obtain ⟨v9, hv9, hp⟩ := ob hp
      refine mr_getR C0 cbX7 hM 0 (by decide) tw_1224 hv9 dX7_bestByOrder_27 ?_
      refine lv_sipush (v := 564) hx hb dX7_bestByOrder_30 (by decide) ?_
      refine lv_iconst (v := 4) hx hb dX7_bestByOrder_33 (by decide) ?_
      refine lv_iload_n hx hb dX7_bestByOrder_34 rfl (lv_at hl 1 rfl) ?_
      refine lv_imul hx hb dX7_bestByOrder_35 ?_
      refine lv_iadd hx hb dX7_bestByOrder_36 ?_
      refine lv_iload_n hx hb dX7_bestByOrder_37 rfl (lv_at hl 2 rfl) ?_
      refine lv_iadd hx hb dX7_bestByOrder_38 ?_
      obtain ⟨v10, hv10, hp⟩ := ob hp
      refine mr_iald C0 hM hv10 dX7_bestByOrder_39 ?_
      obtain ⟨M11, hM11, hp⟩ := ob hp
      refine mr_iast C0 hM hM11 dX7_bestByOrder_40 (fun H locs hM => ?_)
      refine lv_iinc (v := (y2 + (1 : Int32))) (lv' := [(2, .int (y2 + (1 : Int32))), (0, .ref f0), (1, .int f1)]) hx hb dX7_bestByOrder_41 hl (k := 2) rfl rfl (by decide) rfl (fun ls hl => ?_)
      refine lv_goto (tgt := 16) hx hb dX7_bestByOrder_44 (by decide) ?_
      exact ih _ _ _ _ _ hM (lv_sub hl [1, 2, 0] rfl) hp
def p_X7_bestByOrder (a0 : Nat) (a1 : Int32) (M : Mem) : Option (Int32 × Mem) :=
  (Option.bind (isC 6 M a0) fun _ =>
  (ob2 (p_X7_noChild a0 a1 M) fun v2 M3 =>
  (if v2 = 0 then
   (Option.bind (isC 6 M3 a0) fun _ =>
   (Option.bind (p_X7_begins a0 M3) fun M6 =>
   (pl_X7_bestByOrder_16
    (fun  (M12 : Mem) =>
     (Option.bind (sV 6 25 M12 a0 (.int (-1 : Int32))) fun M13 =>
     (Option.bind (isC 6 M13 a0) fun _ =>
     (Option.bind (p_X7_orders a0 a1 (0 : Int32) (0 : Int32) M13) fun M15 =>
     (Option.bind (isC 6 M15 a0) fun _ =>
     (Option.bind (p_X7_ends a0 M15) fun M17 =>
     (Option.bind (gI 6 25 M17 a0) fun v18 =>
     some (v18, M17)
     )
     )
     )
     )
     )
     )
    )
    a0 a1 FU (0 : Int32) M6)
   )
   )
  else
   some ((0 : Int32), M3)
  )
  )
  )
theorem yk_X7_bestByOrder : yok yX7_bestByOrder 1 := by decide +kernel
set_option maxHeartbeats 4000000 in
set_option maxRecDepth 100000 in
theorem w_X7_bestByOrder {G : gG} (hG : GOK G) {l : Launch} {a0 : Nat} {a1 : Int32} {M : Mem} {r : Int32} {M' : Mem} (hp : p_X7_bestByOrder a0 a1 M = some (r, M')) : CT G l yX7_bestByOrder (wT yX7_bestByOrder cX7_bestByOrder 3 (some FieldType.int)) rm_X7_bestByOrder [.ref a0, .int a1] M (some (.int r)) M' 0 0 := by
  refine CT_of (own := RX7) (maxL := 3) (ret := (some FieldType.int)) hG (by decide) rfl (Nat.le_of_ble_eq_true rfl) (fun p e s m below meth c A C0 hr hlk hM ls hl => ?_)
  have hl : lv_has ls 3 [(0, .ref a0), (1, .int a1)] := hl
  generalize ([.ref a0, .int a1] : List Value).toArray = args at C0 ⊢
  skip
  have hx := C0.1
  have hb := C0.2.1
  have hown := C0.2.2.2.1
  have hts := C0.2.2.2.2.1
  unfold p_X7_bestByOrder at hp
  refine lv_aload_n hx hb dX7_bestByOrder_0 rfl (lv_at hl 0 rfl) ?_
  refine lv_iload_n hx hb dX7_bestByOrder_1 rfl (lv_at hl 1 rfl) ?_
  obtain ⟨_, h1, hp⟩ := ob hp
  obtain ⟨v2, M3, hv2, hp⟩ := ob3 hp
  refine mr_V1 (As := [.int a1]) (rest := []) C0 cbX7 hM h1 rfl (w_X7_noChild hG hv2) tw_1511 tw_1513 tws_42 tw_7 tw_1514 yk_X7_noChild (by decide) rfl hl.1 (Nat.le_of_ble_eq_true rfl) dX7_bestByOrder_2 rfl (fun H locs hM => ?_)
  refine lv_if_eq (tgt := 10) hx hb dX7_bestByOrder_5 (by decide) (fun c4 => ?_) (fun c4 => ?_)
  · replace hp := oT c4 hp
    refine lv_aload_n hx hb dX7_bestByOrder_10 rfl (lv_at hl 0 rfl) ?_
    obtain ⟨_, h5, hp⟩ := ob hp
    obtain ⟨M6, hM6, hp⟩ := ob hp
    refine mr_V0 (As := []) (rest := []) C0 cbX7 hM h5 rfl (w_X7_begins hG hM6) tw_1773 tw_1775 tws_68 tw_7 tw_1776 yk_X7_begins (by decide) rfl hl.1 (Nat.le_of_ble_eq_true rfl) dX7_bestByOrder_11 rfl (fun H locs hM => ?_)
    refine lv_iconst (v := 0) hx hb dX7_bestByOrder_14 (by decide) ?_
    refine lv_istore_n (lv' := [(2, .int (0 : Int32)), (0, .ref a0), (1, .int a1)]) hx hb dX7_bestByOrder_15 rfl hl (by decide) rfl (fun ls hl => ?_)
    refine wl_X7_bestByOrder_16 C0 hr hlk hG (fun M12 H locs ls hM hl hp => ?_) FU _ _ _ _ _ hM (lv_sub hl [1, 2, 0] rfl) hp
    refine lv_aload_n hx hb dX7_bestByOrder_47 rfl (lv_at hl 0 rfl) ?_
    refine lv_iconst (v := -1) hx hb dX7_bestByOrder_48 (by decide) ?_
    obtain ⟨M13, hM13, hp⟩ := ob hp
    refine mr_putI C0 cbX7 hM 25 (by decide) rfl rfl tw_1249 hM13 dX7_bestByOrder_49 (fun H locs hM => ?_)
    refine lv_aload_n hx hb dX7_bestByOrder_52 rfl (lv_at hl 0 rfl) ?_
    refine lv_iload_n hx hb dX7_bestByOrder_53 rfl (lv_at hl 1 rfl) ?_
    refine lv_iconst (v := 0) hx hb dX7_bestByOrder_54 (by decide) ?_
    refine lv_iconst (v := 0) hx hb dX7_bestByOrder_55 (by decide) ?_
    obtain ⟨_, h14, hp⟩ := ob hp
    obtain ⟨M15, hM15, hp⟩ := ob hp
    refine mr_V0 (As := [.int a1, .int (0 : Int32), .int (0 : Int32)]) (rest := []) C0 cbX7 hM h14 rfl (w_X7_orders hG hM15) tw_1812 tw_1814 tws_71 tw_7 tw_1815 yk_X7_orders (by decide) rfl hl.1 (Nat.le_of_ble_eq_true rfl) dX7_bestByOrder_56 rfl (fun H locs hM => ?_)
    refine lv_aload_n hx hb dX7_bestByOrder_59 rfl (lv_at hl 0 rfl) ?_
    obtain ⟨_, h16, hp⟩ := ob hp
    obtain ⟨M17, hM17, hp⟩ := ob hp
    refine mr_V0 (As := []) (rest := []) C0 cbX7 hM h16 rfl (w_X7_ends hG hM17) tw_1777 tw_1779 tws_69 tw_7 tw_1780 yk_X7_ends (by decide) rfl hl.1 (Nat.le_of_ble_eq_true rfl) dX7_bestByOrder_60 rfl (fun H locs hM => ?_)
    refine lv_aload_n hx hb dX7_bestByOrder_63 rfl (lv_at hl 0 rfl) ?_
    obtain ⟨v18, hv18, hp⟩ := ob hp
    refine mr_getI C0 cbX7 hM 25 (by decide) tw_1249 hv18 dX7_bestByOrder_64 ?_
    exact mr_iret C0 hr hlk hM (Prod.mk.inj (Option.some.inj hp)).2 (Prod.mk.inj (Option.some.inj hp)).1 (Nat.le_refl _) (Nat.le_refl _) dX7_bestByOrder_67
  · replace hp := oF c4 hp
    refine lv_iconst (v := 0) hx hb dX7_bestByOrder_8 (by decide) ?_
    exact mr_iret C0 hr hlk hM (Prod.mk.inj (Option.some.inj hp)).2 (Prod.mk.inj (Option.some.inj hp)).1 (Nat.le_refl _) (Nat.le_refl _) dX7_bestByOrder_9
