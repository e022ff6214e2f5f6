abbrev rm_X2_holdersOf : Room := { frames := 0, cells := 0, slots := 0, locals := 0 }
def pl_X2_holdersOf_5 (k1 : Int64 → Option (Int64)) (f0 : Nat) (f1 : Int32) (M : Mem) : Nat → Int64 → Int32 → Option (Int64)
  | 0, _, _ => none
  | n + 1, y2, y4 =>
    (Option.bind (gI 2 1 M f0) fun v1 =>
    (if v1 ≤ y4 then
     (k1 y2)
    else
     (Option.bind (gR 2 16 M f0) fun v3 =>
     (Option.bind (aI 0 M v3 y4) fun v4 =>
     (if v4 = f1 then
      (pl_X2_holdersOf_5 k1 f0 f1 M n (y2 ||| ((1 : Int64) <<< (Int32.toInt64 y4 &&& 63))) (y4 + (1 : Int32)))
     else
      (pl_X2_holdersOf_5 k1 f0 f1 M n y2 (y4 + (1 : Int32)))
     )
     )
     )
    )
    )
set_option maxHeartbeats 4000000 in
set_option maxRecDepth 100000 in
theorem wl_X2_holdersOf_5 {G : gG} {p : Program} {l : Launch} {e : Env} {s : State} {m : MethodId} {args : Array Value} {below : List Frame} {meth : Method} {c : Code} {A : Nat → Prop} {r : Int64} {k1 : Int64 → Option (Int64)} {f0 : Nat} {f1 : Int32} {M : Mem} (C0 : cx G p s m args c cX2_holdersOf RX2 5 A) (hr : meth.sig.returnType = (some FieldType.long)) (hlk : meth.locks = false) (hG : GOK G) (hk1 : ∀ (z2 : Int64) (H : Heap) (locs : List Loc) (ls : Array Slot), mm G A s M H locs → lv_has ls 5 [(2, .long z2)] → k1 z2 = some r → W p l e rm_X2_holdersOf s m args below meth c H locs 0 0 (MQ below (CQ G M (some (.long r)) A) args s 0 0 A) (F0 m 38 ls [])) : ∀ (n : Nat) (y2 : Int64) (y4 : Int32) (H : Heap) (locs : List Loc) (ls : Array Slot), mm G A s M H locs → lv_has ls 5 [(0, .ref f0), (1, .int f1), (2, .long y2), (4, .int y4)] → pl_X2_holdersOf_5 k1 f0 f1 M n y2 y4 = some r → W p l e rm_X2_holdersOf s m args below meth c H locs 0 0 (MQ below (CQ G M (some (.long r)) A) args s 0 0 A) (F0 m 5 ls []) := by
  have hx := C0.1
  have hb := C0.2.1
  have hown := C0.2.2.2.1
  have hts := C0.2.2.2.2.1
  intro n
  induction n with
  | zero => intro y2 y4 H locs ls hM hl hp; rw [pl_X2_holdersOf_5] at hp; cases hp
  | succ n ih =>
    intro y2 y4 H locs ls hM hl hp
    rw [pl_X2_holdersOf_5] at hp
    refine lv_iload hx hb dX2_holdersOf_5 (lv_at hl 3 rfl) ?_
    refine lv_aload_n hx hb dX2_holdersOf_7 rfl (lv_at hl 0 rfl) ?_
    obtain ⟨v1, hv1, hp⟩ := ob hp
    refine mr_getI C0 cbX2 hM 1 (by decide) tw_135 hv1 dX2_holdersOf_8 ?_
    refine lv_icmp_ge (tgt := 38) hx hb dX2_holdersOf_11 (by decide) (fun c2 => ?_) (fun c2 => ?_)
    · replace hp := oT c2 hp
      exact hk1 _ _ _ _ hM (lv_sub hl [2] rfl) hp
    · replace hp := oF c2 hp
      refine lv_aload_n hx hb dX2_holdersOf_14 rfl (lv_at hl 0 rfl) ?_
      obtain ⟨v3, hv3, hp⟩ := ob hp
      refine mr_getR C0 cbX2 hM 16 (by decide) tw_171 hv3 dX2_holdersOf_15 ?_
      refine lv_iload hx hb dX2_holdersOf_18 (lv_at hl 3 rfl) ?_
      obtain ⟨v4, hv4, hp⟩ := ob hp
      refine mr_iald C0 hM hv4 dX2_holdersOf_20 ?_
      refine lv_iload_n hx hb dX2_holdersOf_21 rfl (lv_at hl 1 rfl) ?_
      refine lv_icmp_ne (tgt := 32) hx hb dX2_holdersOf_22 (by decide) (fun c5 => ?_) (fun c5 => ?_)
      · replace hp := oF c5 hp
        refine lv_iinc (v := (y4 + (1 : Int32))) (lv' := [(4, .int (y4 + (1 : Int32))), (0, .ref f0), (1, .int f1), (2, .long y2)]) hx hb dX2_holdersOf_32 hl (k := 3) rfl rfl (by decide) rfl (fun ls hl => ?_)
        refine lv_goto (tgt := 5) hx hb dX2_holdersOf_35 (by decide) ?_
        exact ih _ _ _ _ _ hM (lv_sub hl [1, 2, 3, 0] rfl) hp
      · replace hp := oT c5 hp
        refine lv_lload_n hx hb dX2_holdersOf_25 rfl (lv_at hl 2 rfl) ?_
        refine lv_lconst (v := 1) hx hb dX2_holdersOf_26 (by decide) ?_
        refine lv_iload hx hb dX2_holdersOf_27 (lv_at hl 3 rfl) ?_
        refine lv_lshl (v := ((1 : Int64) <<< (Int32.toInt64 y4 &&& 63))) hx hb dX2_holdersOf_29 rfl ?_
        refine lv_lor hx hb dX2_holdersOf_30 ?_
        refine lv_lstore_n (lv' := [(2, .long (y2 ||| ((1 : Int64) <<< (Int32.toInt64 y4 &&& 63)))), (0, .ref f0), (1, .int f1), (4, .int y4)]) hx hb dX2_holdersOf_31 rfl hl (by decide) rfl (fun ls hl => ?_)
        refine lv_iinc (v := (y4 + (1 : Int32))) (lv' := [(4, .int (y4 + (1 : Int32))), (2, .long (y2 ||| ((1 : Int64) <<< (Int32.toInt64 y4 &&& 63)))), (0, .ref f0), (1, .int f1)]) hx hb dX2_holdersOf_32 hl (k := 3) rfl rfl (by decide) rfl (fun ls hl => ?_)
        refine lv_goto (tgt := 5) hx hb dX2_holdersOf_35 (by decide) ?_
        exact ih _ _ _ _ _ hM (lv_sub hl [2, 3, 1, 0] rfl) hp
def p_X2_holdersOf (a0 : Nat) (a1 : Int32) (M : Mem) : Option (Int64) :=
  (pl_X2_holdersOf_5
   (fun (z6 : Int64) =>
    some z6
   )
   a0 a1 M FU (0 : Int64) (0 : Int32))
theorem yk_X2_holdersOf : yok yX2_holdersOf 1 := by decide +kernel
set_option maxHeartbeats 4000000 in
set_option maxRecDepth 100000 in
theorem w_X2_holdersOf {G : gG} (hG : GOK G) {l : Launch} {a0 : Nat} {a1 : Int32} {M : Mem} {r : Int64} (hp : p_X2_holdersOf a0 a1 M = some r) : CT G l yX2_holdersOf (wT yX2_holdersOf cX2_holdersOf 5 (some FieldType.long)) rm_X2_holdersOf [.ref a0, .int a1] M (some (.long r)) M 0 0 := by
  refine CT_of (own := RX2) (maxL := 5) (ret := (some FieldType.long)) hG (by decide) rfl (Nat.le_of_ble_eq_true rfl) (fun p e s m below meth c A C0 hr hlk hM ls hl => ?_)
  have hl : lv_has ls 5 [(0, .ref a0), (1, .int a1)] := hl
  generalize ([.ref a0, .int a1] : List Value).toArray = args at C0 ⊢
  skip
  have hx := C0.1
  have hb := C0.2.1
  have hown := C0.2.2.2.1
  have hts := C0.2.2.2.2.1
  unfold p_X2_holdersOf at hp
  refine lv_lconst (v := 0) hx hb dX2_holdersOf_0 (by decide) ?_
  refine lv_lstore_n (lv' := [(2, .long (0 : Int64)), (0, .ref a0), (1, .int a1)]) hx hb dX2_holdersOf_1 rfl hl (by decide) rfl (fun ls hl => ?_)
  refine lv_iconst (v := 0) hx hb dX2_holdersOf_2 (by decide) ?_
  refine lv_istore (lv' := [(4, .int (0 : Int32)), (2, .long (0 : Int64)), (0, .ref a0), (1, .int a1)]) hx hb dX2_holdersOf_3 hl (by decide) rfl (fun ls hl => ?_)
  refine wl_X2_holdersOf_5 C0 hr hlk hG (fun z6 H locs ls hM hl hp => ?_) FU _ _ _ _ _ hM (lv_sub hl [2, 3, 1, 0] rfl) hp
  refine lv_lload_n hx hb dX2_holdersOf_38 rfl (lv_at hl 0 rfl) ?_
  exact mr_lret C0 hr hlk hM rfl (Option.some.inj hp) (Nat.le_refl _) (Nat.le_refl _) dX2_holdersOf_39
abbrev rm_X2_fits : Room := { frames := 0, cells := 0, slots := 0, locals := 0 }
def p_X2_fits (a0 : Nat) (a1 : Int32) (a2 : Int32) (a3 : Int32) (M : Mem) : Option (Int32) :=
  (if a3 = 0 then
   (Option.bind (gL 2 7 M a0) fun v36 =>
   (if (lg_cmp ((v36 >>> (Int32.toInt64 a1 &&& 63)) &&& (1 : Int64)) (0 : Int64)) = 0 then
    some (0 : Int32)
   else
    some (1 : Int32)
   )
   )
  else
   (if a3 = (1 : Int32) then
    (Option.bind (gR 2 13 M a0) fun v27 =>
    (Option.bind (aI 0 M v27 a1) fun v28 =>
    (if v28 = 0 then
     some (0 : Int32)
    else
     (Option.bind (gR 2 0 M a0) fun v30 =>
     (Option.bind (gR 4 12 M v30) fun v31 =>
     (Option.bind (gR 2 13 M a0) fun v32 =>
     (Option.bind (aI 0 M v32 a1) fun v33 =>
     (Option.bind (aI 0 M v31 v33) fun v34 =>
     (if ((v34 >>> (a2 &&& 31)) &&& (1 : Int32)) = 0 then
      some (0 : Int32)
     else
      some (1 : Int32)
     )
     )
     )
     )
     )
     )
    )
    )
    )
   else
    (Option.bind (gR 2 0 M a0) fun v3 =>
    (Option.bind (gR 4 8 M v3) fun v4 =>
    (Option.bind (aI 0 M v4 a2) fun v5 =>
    (Option.bind (gR 2 11 M a0) fun v6 =>
    (Option.bind (aI 0 M v6 a1) fun v7 =>
    (if v7 < v5 then
     some (0 : Int32)
    else
     (Option.bind (gR 2 11 M a0) fun v9 =>
     (Option.bind (aI 0 M v9 a1) fun v10 =>
     (Option.bind (gR 2 0 M a0) fun v11 =>
     (Option.bind (gR 4 10 M v11) fun v12 =>
     (Option.bind (aI 0 M v12 a2) fun v13 =>
     (if v13 < v10 then
      some (0 : Int32)
     else
      (Option.bind (gR 2 0 M a0) fun v15 =>
      (Option.bind (gR 4 9 M v15) fun v16 =>
      (Option.bind (aI 0 M v16 a2) fun v17 =>
      (Option.bind (gR 2 12 M a0) fun v18 =>
      (Option.bind (aI 0 M v18 a1) fun v19 =>
      (if v19 < v17 then
       some (0 : Int32)
      else
       (Option.bind (gR 2 12 M a0) fun v21 =>
       (Option.bind (aI 0 M v21 a1) fun v22 =>
       (Option.bind (gR 2 0 M a0) fun v23 =>
       (Option.bind (gR 4 11 M v23) fun v24 =>
       (Option.bind (aI 0 M v24 a2) fun v25 =>
       (if v25 < v22 then
        some (0 : Int32)
       else
        some (1 : Int32)
       )
       )
       )
       )
       )
       )
      )
      )
      )
      )
      )
      )
     )
     )
     )
     )
     )
     )
    )
    )
    )
    )
    )
    )
   )
  )
theorem yk_X2_fits : yok yX2_fits 3 := by decide +kernel
set_option maxHeartbeats 4000000 in
set_option maxRecDepth 100000 in
theorem w_X2_fits {G : gG} (hG : GOK G) {l : Launch} {a0 : Nat} {a1 : Int32} {a2 : Int32} {a3 : Int32} {M : Mem} {r : Int32} (hp : p_X2_fits a0 a1 a2 a3 M = some r) : CT G l yX2_fits (wT yX2_fits cX2_fits 4 (some FieldType.boolean)) rm_X2_fits [.ref a0, .int a1, .int a2, .int a3] M (some (.int r)) M 0 0 := by
  refine CT_of (own := RX2) (maxL := 4) (ret := (some FieldType.boolean)) hG (by decide) rfl (Nat.le_of_ble_eq_true rfl) (fun p e s m below meth c A C0 hr hlk hM ls hl => ?_)
  have hl : lv_has ls 4 [(0, .ref a0), (1, .int a1), (2, .int a2), (3, .int a3)] := hl
  generalize ([.ref a0, .int a1, .int a2, .int a3] : List Value).toArray = args at C0 ⊢
  skip
  have hx := C0.1
  have hb := C0.2.1
  have hown := C0.2.2.2.1
  have hts := C0.2.2.2.2.1
  unfold p_X2_fits at hp
  refine lv_iload_n hx hb dX2_fits_0 rfl (lv_at hl 3 rfl) ?_
  refine lv_if_ne (tgt := 23) hx hb dX2_fits_1 (by decide) (fun c1 => ?_) (fun c1 => ?_)
  · replace hp := oF c1 hp
    refine lv_iload_n hx hb dX2_fits_23 rfl (lv_at hl 3 rfl) ?_
    refine lv_iconst (v := 1) hx hb dX2_fits_24 (by decide) ?_
    refine lv_icmp_ne (tgt := 64) hx hb dX2_fits_25 (by decide) (fun c2 => ?_) (fun c2 => ?_)
    · replace hp := oF c2 hp
      refine lv_aload_n hx hb dX2_fits_64 rfl (lv_at hl 0 rfl) ?_
      obtain ⟨v3, hv3, hp⟩ := ob hp
      refine mr_getR C0 cbX2 hM 0 (by decide) tw_132 hv3 dX2_fits_65 ?_
      obtain ⟨v4, hv4, hp⟩ := ob hp
      refine mr_getR C0 cbX4 hM 8 (by decide) tw_89 hv4 dX2_fits_68 ?_
      refine lv_iload_n hx hb dX2_fits_71 rfl (lv_at hl 2 rfl) ?_
      obtain ⟨v5, hv5, hp⟩ := ob hp
      refine mr_iald C0 hM hv5 dX2_fits_72 ?_
      refine lv_aload_n hx hb dX2_fits_73 rfl (lv_at hl 0 rfl) ?_
      obtain ⟨v6, hv6, hp⟩ := ob hp
      refine mr_getR C0 cbX2 hM 11 (by decide) tw_160 hv6 dX2_fits_74 ?_
      refine lv_iload_n hx hb dX2_fits_77 rfl (lv_at hl 1 rfl) ?_
      obtain ⟨v7, hv7, hp⟩ := ob hp
      refine mr_iald C0 hM hv7 dX2_fits_78 ?_
      refine lv_icmp_gt (tgt := 140) hx hb dX2_fits_79 (by decide) (fun c8 => ?_) (fun c8 => ?_)
      · replace hp := oT c8 hp
        refine lv_iconst (v := 0) hx hb dX2_fits_140 (by decide) ?_
        exact mr_zret C0 hr hlk hM rfl (Or.inl rfl) (Option.some.inj hp) (Nat.le_refl _) (Nat.le_refl _) dX2_fits_141
      · replace hp := oF c8 hp
        refine lv_aload_n hx hb dX2_fits_82 rfl (lv_at hl 0 rfl) ?_
        obtain ⟨v9, hv9, hp⟩ := ob hp
        refine mr_getR C0 cbX2 hM 11 (by decide) tw_160 hv9 dX2_fits_83 ?_
        refine lv_iload_n hx hb dX2_fits_86 rfl (lv_at hl 1 rfl) ?_
        obtain ⟨v10, hv10, hp⟩ := ob hp
        refine mr_iald C0 hM hv10 dX2_fits_87 ?_
        refine lv_aload_n hx hb dX2_fits_88 rfl (lv_at hl 0 rfl) ?_
        obtain ⟨v11, hv11, hp⟩ := ob hp
        refine mr_getR C0 cbX2 hM 0 (by decide) tw_132 hv11 dX2_fits_89 ?_
        obtain ⟨v12, hv12, hp⟩ := ob hp
        refine mr_getR C0 cbX4 hM 10 (by decide) tw_93 hv12 dX2_fits_92 ?_
        refine lv_iload_n hx hb dX2_fits_95 rfl (lv_at hl 2 rfl) ?_
        obtain ⟨v13, hv13, hp⟩ := ob hp
        refine mr_iald C0 hM hv13 dX2_fits_96 ?_
        refine lv_icmp_gt (tgt := 140) hx hb dX2_fits_97 (by decide) (fun c14 => ?_) (fun c14 => ?_)
        · replace hp := oT c14 hp
          refine lv_iconst (v := 0) hx hb dX2_fits_140 (by decide) ?_
          exact mr_zret C0 hr hlk hM rfl (Or.inl rfl) (Option.some.inj hp) (Nat.le_refl _) (Nat.le_refl _) dX2_fits_141
        · replace hp := oF c14 hp
          refine lv_aload_n hx hb dX2_fits_100 rfl (lv_at hl 0 rfl) ?_
          obtain ⟨v15, hv15, hp⟩ := ob hp
          refine mr_getR C0 cbX2 hM 0 (by decide) tw_132 hv15 dX2_fits_101 ?_
          obtain ⟨v16, hv16, hp⟩ := ob hp
          refine mr_getR C0 cbX4 hM 9 (by decide) tw_91 hv16 dX2_fits_104 ?_
          refine lv_iload_n hx hb dX2_fits_107 rfl (lv_at hl 2 rfl) ?_
          obtain ⟨v17, hv17, hp⟩ := ob hp
          refine mr_iald C0 hM hv17 dX2_fits_108 ?_
          refine lv_aload_n hx hb dX2_fits_109 rfl (lv_at hl 0 rfl) ?_
          obtain ⟨v18, hv18, hp⟩ := ob hp
          refine mr_getR C0 cbX2 hM 12 (by decide) tw_162 hv18 dX2_fits_110 ?_
          refine lv_iload_n hx hb dX2_fits_113 rfl (lv_at hl 1 rfl) ?_
          obtain ⟨v19, hv19, hp⟩ := ob hp
          refine mr_iald C0 hM hv19 dX2_fits_114 ?_
          refine lv_icmp_gt (tgt := 140) hx hb dX2_fits_115 (by decide) (fun c20 => ?_) (fun c20 => ?_)
          · replace hp := oT c20 hp
            refine lv_iconst (v := 0) hx hb dX2_fits_140 (by decide) ?_
            exact mr_zret C0 hr hlk hM rfl (Or.inl rfl) (Option.some.inj hp) (Nat.le_refl _) (Nat.le_refl _) dX2_fits_141
          · replace hp := oF c20 hp
            refine lv_aload_n hx hb dX2_fits_118 rfl (lv_at hl 0 rfl) ?_
            obtain ⟨v21, hv21, hp⟩ := ob hp
            refine mr_getR C0 cbX2 hM 12 (by decide) tw_162 hv21 dX2_fits_119 ?_
            refine lv_iload_n hx hb dX2_fits_122 rfl (lv_at hl 1 rfl) ?_
            obtain ⟨v22, hv22, hp⟩ := ob hp
            refine mr_iald C0 hM hv22 dX2_fits_123 ?_
            refine lv_aload_n hx hb dX2_fits_124 rfl (lv_at hl 0 rfl) ?_
            obtain ⟨v23, hv23, hp⟩ := ob hp
            refine mr_getR C0 cbX2 hM 0 (by decide) tw_132 hv23 dX2_fits_125 ?_
            obtain ⟨v24, hv24, hp⟩ := ob hp
            refine mr_getR C0 cbX4 hM 11 (by decide) tw_95 hv24 dX2_fits_128 ?_
            refine lv_iload_n hx hb dX2_fits_131 rfl (lv_at hl 2 rfl) ?_
            obtain ⟨v25, hv25, hp⟩ := ob hp
            refine mr_iald C0 hM hv25 dX2_fits_132 ?_
            refine lv_icmp_gt (tgt := 140) hx hb dX2_fits_133 (by decide) (fun c26 => ?_) (fun c26 => ?_)
            · replace hp := oT c26 hp
              refine lv_iconst (v := 0) hx hb dX2_fits_140 (by decide) ?_
              exact mr_zret C0 hr hlk hM rfl (Or.inl rfl) (Option.some.inj hp) (Nat.le_refl _) (Nat.le_refl _) dX2_fits_141
            · replace hp := oF c26 hp
              refine lv_iconst (v := 1) hx hb dX2_fits_136 (by decide) ?_
              refine lv_goto (tgt := 141) hx hb dX2_fits_137 (by decide) ?_
              exact mr_zret C0 hr hlk hM rfl (Or.inr rfl) (Option.some.inj hp) (Nat.le_refl _) (Nat.le_refl _) dX2_fits_141
    · replace hp := oT c2 hp
      refine lv_aload_n hx hb dX2_fits_28 rfl (lv_at hl 0 rfl) ?_
      obtain ⟨v27, hv27, hp⟩ := ob hp
      refine mr_getR C0 cbX2 hM 13 (by decide) tw_164 hv27 dX2_fits_29 ?_
      refine lv_iload_n hx hb dX2_fits_32 rfl (lv_at hl 1 rfl) ?_
      obtain ⟨v28, hv28, hp⟩ := ob hp
      refine mr_iald C0 hM hv28 dX2_fits_33 ?_
      refine lv_if_eq (tgt := 62) hx hb dX2_fits_34 (by decide) (fun c29 => ?_) (fun c29 => ?_)
      · replace hp := oT c29 hp
        refine lv_iconst (v := 0) hx hb dX2_fits_62 (by decide) ?_
        exact mr_zret C0 hr hlk hM rfl (Or.inl rfl) (Option.some.inj hp) (Nat.le_refl _) (Nat.le_refl _) dX2_fits_63
      · replace hp := oF c29 hp
        refine lv_aload_n hx hb dX2_fits_37 rfl (lv_at hl 0 rfl) ?_
        obtain ⟨v30, hv30, hp⟩ := ob hp
        refine mr_getR C0 cbX2 hM 0 (by decide) tw_132 hv30 dX2_fits_38 ?_
        obtain ⟨v31, hv31, hp⟩ := ob hp
        refine mr_getR C0 cbX4 hM 12 (by decide) tw_97 hv31 dX2_fits_41 ?_
        refine lv_aload_n hx hb dX2_fits_44 rfl (lv_at hl 0 rfl) ?_
        obtain ⟨v32, hv32, hp⟩ := ob hp
        refine mr_getR C0 cbX2 hM 13 (by decide) tw_164 hv32 dX2_fits_45 ?_
        refine lv_iload_n hx hb dX2_fits_48 rfl (lv_at hl 1 rfl) ?_
        obtain ⟨v33, hv33, hp⟩ := ob hp
        refine mr_iald C0 hM hv33 dX2_fits_49 ?_
        obtain ⟨v34, hv34, hp⟩ := ob hp
        refine mr_iald C0 hM hv34 dX2_fits_50 ?_
        refine lv_iload_n hx hb dX2_fits_51 rfl (lv_at hl 2 rfl) ?_
        refine lv_ishr hx hb dX2_fits_52 ?_
        refine lv_iconst (v := 1) hx hb dX2_fits_53 (by decide) ?_
        refine lv_iand hx hb dX2_fits_54 ?_
        refine lv_if_eq (tgt := 62) hx hb dX2_fits_55 (by decide) (fun c35 => ?_) (fun c35 => ?_)
        · replace hp := oT c35 hp
          refine lv_iconst (v := 0) hx hb dX2_fits_62 (by decide) ?_
          exact mr_zret C0 hr hlk hM rfl (Or.inl rfl) (Option.some.inj hp) (Nat.le_refl _) (Nat.le_refl _) dX2_fits_63
        · replace hp := oF c35 hp
          refine lv_iconst (v := 1) hx hb dX2_fits_58 (by decide) ?_
          refine lv_goto (tgt := 63) hx hb dX2_fits_59 (by decide) ?_
          exact mr_zret C0 hr hlk hM rfl (Or.inr rfl) (Option.some.inj hp) (Nat.le_refl _) (Nat.le_refl _) dX2_fits_63
  · replace hp := oT c1 hp
    refine lv_aload_n hx hb dX2_fits_4 rfl (lv_at hl 0 rfl) ?_
    obtain ⟨v36, hv36, hp⟩ := ob hp
    refine mr_getL C0 cbX2 hM 7 (by decide) tw_151 hv36 dX2_fits_5 ?_
    refine lv_iload_n hx hb dX2_fits_8 rfl (lv_at hl 1 rfl) ?_
    refine lv_lshr (v := (v36 >>> (Int32.toInt64 a1 &&& 63))) hx hb dX2_fits_9 rfl ?_
    refine lv_lconst (v := 1) hx hb dX2_fits_10 (by decide) ?_
    refine lv_land hx hb dX2_fits_11 ?_
    refine lv_lconst (v := 0) hx hb dX2_fits_12 (by decide) ?_
    refine W.lcmp hx hb dX2_fits_13 ?_
    refine lv_if_eq (tgt := 21) hx hb dX2_fits_14 (by decide) (fun c37 => ?_) (fun c37 => ?_)
    · replace hp := oT c37 hp
      refine lv_iconst (v := 0) hx hb dX2_fits_21 (by decide) ?_
      exact mr_zret C0 hr hlk hM rfl (Or.inl rfl) (Option.some.inj hp) (Nat.le_refl _) (Nat.le_refl _) dX2_fits_22
    · replace hp := oF c37 hp
      refine lv_iconst (v := 1) hx hb dX2_fits_17 (by decide) ?_
      refine lv_goto (tgt := 22) hx hb dX2_fits_18 (by decide) ?_
      exact mr_zret C0 hr hlk hM rfl (Or.inr rfl) (Option.some.inj hp) (Nat.le_refl _) (Nat.le_refl _) dX2_fits_22
abbrev rm_X6_rowEntry : Room := { frames := 0, cells := 0, slots := 0, locals := 0 }
def p_X6_rowEntry (a0 : Int32) (a1 : Int32) (M : Mem) : Option (Int32) :=
  (if a1 < 0 then
   some (-1 : Int32)
  else
   (if a1 < (4 : Int32) then
    some (((a0 >>> (((4 : Int32) * a1) &&& 31)) &&& (15 : Int32)) - (1 : Int32))
   else
    some (-1 : Int32)
   )
  )
theorem yk_X6_rowEntry : yok yX6_rowEntry 2 := by decide +kernel
set_option maxHeartbeats 4000000 in
set_option maxRecDepth 100000 in
theorem w_X6_rowEntry {G : gG} (hG : GOK G) {l : Launch} {a0 : Int32} {a1 : Int32} {M : Mem} {r : Int32} (hp : p_X6_rowEntry a0 a1 M = some r) : CT G l yX6_rowEntry (wT yX6_rowEntry cX6_rowEntry 2 (some FieldType.int)) rm_X6_rowEntry [.int a0, .int a1] M (some (.int r)) M 0 0 := by
  refine CT_of (own := RX6) (maxL := 2) (ret := (some FieldType.int)) hG (by decide) rfl (Nat.le_of_ble_eq_true rfl) (fun p e s m below meth c A C0 hr hlk hM ls hl => ?_)
  have hl : lv_has ls 2 [(0, .int a0), (1, .int a1)] := hl
  generalize ([.int a0, .int a1] : List Value).toArray = args at C0 ⊢
  skip
  have hx := C0.1
  have hb := C0.2.1
  have hown := C0.2.2.2.1
  have hts := C0.2.2.2.2.1
  unfold p_X6_rowEntry at hp
  refine lv_iload_n hx hb dX6_rowEntry_0 rfl (lv_at hl 1 rfl) ?_
  refine lv_if_lt (tgt := 9) hx hb dX6_rowEntry_1 (by decide) (fun c1 => ?_) (fun c1 => ?_)
  · replace hp := oT c1 hp
    refine lv_iconst (v := -1) hx hb dX6_rowEntry_9 (by decide) ?_
    refine lv_goto (tgt := 23) hx hb dX6_rowEntry_10 (by decide) ?_
    exact mr_iret C0 hr hlk hM rfl (Option.some.inj hp) (Nat.le_refl _) (Nat.le_refl _) dX6_rowEntry_23
  · replace hp := oF c1 hp
    refine lv_iload_n hx hb dX6_rowEntry_4 rfl (lv_at hl 1 rfl) ?_
    refine lv_iconst (v := 4) hx hb dX6_rowEntry_5 (by decide) ?_
    refine lv_icmp_lt (tgt := 13) hx hb dX6_rowEntry_6 (by decide) (fun c2 => ?_) (fun c2 => ?_)
    · replace hp := oT c2 hp
      refine lv_iload_n hx hb dX6_rowEntry_13 rfl (lv_at hl 0 rfl) ?_
      refine lv_iconst (v := 4) hx hb dX6_rowEntry_14 (by decide) ?_
      refine lv_iload_n hx hb dX6_rowEntry_15 rfl (lv_at hl 1 rfl) ?_
      refine lv_imul hx hb dX6_rowEntry_16 ?_
      refine lv_ishr hx hb dX6_rowEntry_17 ?_
      refine lv_bipush (v := 15) hx hb dX6_rowEntry_18 (by decide) ?_
      refine lv_iand hx hb dX6_rowEntry_20 ?_
      refine lv_iconst (v := 1) hx hb dX6_rowEntry_21 (by decide) ?_
      refine lv_isub hx hb dX6_rowEntry_22 ?_
      exact mr_iret C0 hr hlk hM rfl (Option.some.inj hp) (Nat.le_refl _) (Nat.le_refl _) dX6_rowEntry_23
    · replace hp := oF c2 hp
      refine lv_iconst (v := -1) hx hb dX6_rowEntry_9 (by decide) ?_
      refine lv_goto (tgt := 23) hx hb dX6_rowEntry_10 (by decide) ?_
      exact mr_iret C0 hr hlk hM rfl (Option.some.inj hp) (Nat.le_refl _) (Nat.le_refl _) dX6_rowEntry_23
abbrev rm_X2_rankClass : Room := { frames := 1, cells := 0, slots := 0, locals := 23 }
def pl_X2_rankClass_5 (k1 : Int32 → Option (Int32)) (k2 : Int32 → Option (Int32)) (f0 : Nat) (f1 : Int32) (f2 : Int32) (M : Mem) : Nat → Int32 → Int32 → Option (Int32)
  | 0, _, _ => none
  | n + 1, y3, y4 =>
    (if (3 : Int32) ≤ y4 then
     (k2 y3)
    else
     (Option.bind (gR 2 0 M f0) fun v4 =>
     (Option.bind (gR 4 6 M v4) fun v5 =>
     (Option.bind (aI 0 M v5 f2) fun v6 =>
     (Option.bind (p_X6_rowEntry v6 y4 M) fun v7 =>
     (if v7 = (-1 : Int32) then
      (k1 y3)
     else
      (Option.bind (isC 2 M f0) fun _ =>
      (Option.bind (p_X2_fits f0 f1 f2 v7 M) fun v10 =>
      (if v10 = 0 then
       (pl_X2_rankClass_5 k1 k2 f0 f1 f2 M n (y3 + (1 : Int32)) (y4 + (1 : Int32)))
      else
       (k1 y3)
      )
      )
      )
     )
     )
     )
     )
     )
    )
set_option maxHeartbeats 4000000 in
set_option maxRecDepth 100000 in
theorem wl_X2_rankClass_5 {G : gG} {p : Program} {l : Launch} {e : Env} {s : State} {m : MethodId} {args : Array Value} {below : List Frame} {meth : Method} {c : Code} {A : Nat → Prop} {r : Int32} {k1 : Int32 → Option (Int32)} {k2 : Int32 → Option (Int32)} {f0 : Nat} {f1 : Int32} {f2 : Int32} {M : Mem} (C0 : cx G p s m args c cX2_rankClass RX2 6 A) (hr : meth.sig.returnType = (some FieldType.int)) (hlk : meth.locks = false) (hG : GOK G) (hk1 : ∀ (z3 : Int32) (H : Heap) (locs : List Loc) (ls : Array Slot), mm G A s M H locs → lv_has ls 6 [(3, .int z3)] → k1 z3 = some r → W p l e rm_X2_rankClass s m args below meth c H locs 0 0 (MQ below (CQ G M (some (.int r)) A) args s 0 0 A) (F0 m 44 ls [])) (hk2 : ∀ (z3 : Int32) (H : Heap) (locs : List Loc) (ls : Array Slot), mm G A s M H locs → lv_has ls 6 [(3, .int z3)] → k2 z3 = some r → W p l e rm_X2_rankClass s m args below meth c H locs 0 0 (MQ below (CQ G M (some (.int r)) A) args s 0 0 A) (F0 m 55 ls [])) : ∀ (n : Nat) (y3 : Int32) (y4 : Int32) (H : Heap) (locs : List Loc) (ls : Array Slot), mm G A s M H locs → lv_has ls 6 [(0, .ref f0), (1, .int f1), (2, .int f2), (3, .int y3), (4, .int y4)] → pl_X2_rankClass_5 k1 k2 f0 f1 f2 M n y3 y4 = some r → W p l e rm_X2_rankClass s m args below meth c H locs 0 0 (MQ below (CQ G M (some (.int r)) A) args s 0 0 A) (F0 m 5 ls []) := by
  have hx := C0.1
  have hb := C0.2.1
  have hown := C0.2.2.2.1
  have hts := C0.2.2.2.2.1
  intro n
  induction n with
  | zero => intro y3 y4 H locs ls hM hl hp; rw [pl_X2_rankClass_5] at hp; cases hp
  | succ n ih =>
    intro y3 y4 H locs ls hM hl hp
    rw [pl_X2_rankClass_5] at hp
    refine lv_iload hx hb dX2_rankClass_5 (lv_at hl 4 rfl) ?_
    refine lv_iconst (v := 3) hx hb dX2_rankClass_7 (by decide) ?_
    refine lv_icmp_ge (tgt := 55) hx hb dX2_rankClass_8 (by decide) (fun c3 => ?_) (fun c3 => ?_)
    · replace hp := oT c3 hp
      exact hk2 _ _ _ _ hM (lv_sub hl [3] rfl) hp
    · replace hp := oF c3 hp
      refine lv_aload_n hx hb dX2_rankClass_11 rfl (lv_at hl 0 rfl) ?_
      obtain ⟨v4, hv4, hp⟩ := ob hp
      refine mr_getR C0 cbX2 hM 0 (by decide) tw_132 hv4 dX2_rankClass_12 ?_
      obtain ⟨v5, hv5, hp⟩ := ob hp
      refine mr_getR C0 cbX4 hM 6 (by decide) tw_84 hv5 dX2_rankClass_15 ?_
      refine lv_iload_n hx hb dX2_rankClass_18 rfl (lv_at hl 2 rfl) ?_
      obtain ⟨v6, hv6, hp⟩ := ob hp
      refine mr_iald C0 hM hv6 dX2_rankClass_19 ?_
      refine lv_iload hx hb dX2_rankClass_20 (lv_at hl 4 rfl) ?_
      obtain ⟨v7, hv7, hp⟩ := ob hp
      refine mr_N1 (As := [.int v6, .int y4]) (rest := []) C0 hM (w_X6_rowEntry hG hv7) tw_590 tw_561 tw_15 tw_562 yk_X6_rowEntry (by decide) rfl hl.1 (Nat.le_of_ble_eq_true rfl) dX2_rankClass_22 rfl (fun H locs hM => ?_)
      refine lv_istore (lv' := [(5, .int v7), (0, .ref f0), (1, .int f1), (2, .int f2), (3, .int y3), (4, .int y4)]) hx hb dX2_rankClass_25 hl (by decide) rfl (fun ls hl => ?_)
      refine lv_iload hx hb dX2_rankClass_27 (lv_at hl 0 rfl) ?_
      refine lv_iconst (v := -1) hx hb dX2_rankClass_29 (by decide) ?_
      refine lv_icmp_eq (tgt := 44) hx hb dX2_rankClass_30 (by decide) (fun c8 => ?_) (fun c8 => ?_)
      · replace hp := oT c8 hp
        exact hk1 _ _ _ _ hM (lv_sub hl [4] rfl) hp
      · replace hp := oF c8 hp
        refine lv_aload_n hx hb dX2_rankClass_33 rfl (lv_at hl 1 rfl) ?_
        refine lv_iload_n hx hb dX2_rankClass_34 rfl (lv_at hl 2 rfl) ?_
        refine lv_iload_n hx hb dX2_rankClass_35 rfl (lv_at hl 3 rfl) ?_
        refine lv_iload hx hb dX2_rankClass_36 (lv_at hl 0 rfl) ?_
        obtain ⟨_, h9, hp⟩ := ob hp
        obtain ⟨v10, hv10, hp⟩ := ob hp
        refine mr_V1 (As := [.int f1, .int f2, .int v7]) (rest := []) C0 cbX2 hM h9 rfl (w_X2_fits hG hv10) tw_591 tw_592 tw_593 tw_17 tw_594 yk_X2_fits (by decide) rfl hl.1 (Nat.le_of_ble_eq_true rfl) dX2_rankClass_38 rfl (fun H locs hM => ?_)
        refine lv_if_eq (tgt := 46) hx hb dX2_rankClass_41 (by decide) (fun c11 => ?_) (fun c11 => ?_)
        · replace hp := oT c11 hp
          refine lv_iinc (v := (y3 + (1 : Int32))) (lv' := [(3, .int (y3 + (1 : Int32))), (5, .int v7), (0, .ref f0), (1, .int f1), (2, .int f2), (4, .int y4)]) hx hb dX2_rankClass_46 hl (k := 4) rfl rfl (by decide) rfl (fun ls hl => ?_)
          refine lv_iinc (v := (y4 + (1 : Int32))) (lv' := [(4, .int (y4 + (1 : Int32))), (3, .int (y3 + (1 : Int32))), (5, .int v7), (0, .ref f0), (1, .int f1), (2, .int f2)]) hx hb dX2_rankClass_49 hl (k := 5) rfl rfl (by decide) rfl (fun ls hl => ?_)
          refine lv_goto (tgt := 5) hx hb dX2_rankClass_52 (by decide) ?_
          exact ih _ _ _ _ _ hM (lv_sub hl [3, 4, 5, 1, 0] rfl) hp
        · replace hp := oF c11 hp
          exact hk1 _ _ _ _ hM (lv_sub hl [4] rfl) hp
def p_X2_rankClass (a0 : Nat) (a1 : Int32) (a2 : Int32) (M : Mem) : Option (Int32) :=
  (jn (fun (x1 : Int32) =>
   some x1
  ) fun k2 =>
  (pl_X2_rankClass_5
   (fun (z12 : Int32) =>
    (k2 z12)
   )
   (fun (z13 : Int32) =>
    some z13
   )
   a0 a1 a2 M FU (0 : Int32) (0 : Int32))
  )
theorem yk_X2_rankClass : yok yX2_rankClass 2 := by decide +kernel
set_option maxHeartbeats 4000000 in
set_option maxRecDepth 100000 in
theorem w_X2_rankClass {G : gG} (hG : GOK G) {l : Launch} {a0 : Nat} {a1 : Int32} {a2 : Int32} {M : Mem} {r : Int32} (hp : p_X2_rankClass a0 a1 a2 M = some r) : CT G l yX2_rankClass (wT yX2_rankClass cX2_rankClass 6 (some FieldType.int)) rm_X2_rankClass [.ref a0, .int a1, .int a2] M (some (.int r)) M 0 0 := by
  refine CT_of (own := RX2) (maxL := 6) (ret := (some FieldType.int)) hG (by decide) rfl (Nat.le_of_ble_eq_true rfl) (fun p e s m below meth c A C0 hr hlk hM ls hl => ?_)
  have hl : lv_has ls 6 [(0, .ref a0), (1, .int a1), (2, .int a2)] := hl
  generalize ([.ref a0, .int a1, .int a2] : List Value).toArray = args at C0 ⊢
  skip
  have hx := C0.1
  have hb := C0.2.1
  have hown := C0.2.2.2.1
  have hts := C0.2.2.2.2.1
  unfold p_X2_rankClass at hp
  refine lv_iconst (v := 0) hx hb dX2_rankClass_0 (by decide) ?_
  refine lv_istore_n (lv' := [(3, .int (0 : Int32)), (0, .ref a0), (1, .int a1), (2, .int a2)]) hx hb dX2_rankClass_1 rfl hl (by decide) rfl (fun ls hl => ?_)
  refine lv_iconst (v := 0) hx hb dX2_rankClass_2 (by decide) ?_
  refine lv_istore (lv' := [(4, .int (0 : Int32)), (3, .int (0 : Int32)), (0, .ref a0), (1, .int a1), (2, .int a2)]) hx hb dX2_rankClass_3 hl (by decide) rfl (fun ls hl => ?_)
  obtain ⟨k2, ek2, hp⟩ := ojn hp
  have hk2 : ∀ (x1 : Int32) (H : Heap) (locs : List Loc) (ls : Array Slot), mm G A s M H locs → lv_has ls 6 [(3, .int x1)] → k2 x1 = some r → W p l e rm_X2_rankClass s m args below meth c H locs 0 0 (MQ below (CQ G M (some (.int r)) A) args s 0 0 A) (F0 m 44 ls []) := by
    intro x1 H locs ls hM hl hp
    rw [ek2] at hp
    refine lv_iload_n hx hb dX2_rankClass_44 rfl (lv_at hl 0 rfl) ?_
    exact mr_iret C0 hr hlk hM rfl (Option.some.inj hp) (Nat.le_refl _) (Nat.le_refl _) dX2_rankClass_45
  refine wl_X2_rankClass_5 C0 hr hlk hG (fun z12 H locs ls hM hl hp => ?_) (fun z13 H locs ls hM hl hp => ?_) FU _ _ _ _ _ hM (lv_sub hl [2, 3, 4, 1, 0] rfl) hp
  · exact hk2 _ _ _ _ hM (lv_sub hl [0] rfl) hp
  · refine lv_iload_n hx hb dX2_rankClass_55 rfl (lv_at hl 0 rfl) ?_
    exact mr_iret C0 hr hlk hM rfl (Option.some.inj hp) (Nat.le_refl _) (Nat.le_refl _) dX2_rankClass_56
abbrev rm_X2_squareWay : Room := { frames := 0, cells := 0, slots := 0, locals := 0 }
def p_X2_squareWay (a0 : Nat) (a1 : Int32) (a2 : Int32) (M : Mem) : Option (Int32) :=
  (Option.bind (gR 2 11 M a0) fun v1 =>
  (Option.bind (aI 0 M v1 a1) fun v2 =>
  (Option.bind (gR 2 0 M a0) fun v3 =>
  (Option.bind (gR 4 4 M v3) fun v4 =>
  (Option.bind (aI 0 M v4 a2) fun v5 =>
  (Option.bind (gR 2 12 M a0) fun v6 =>
  (Option.bind (aI 0 M v6 a1) fun v7 =>
  (Option.bind (gR 2 0 M a0) fun v8 =>
  (Option.bind (gR 4 5 M v8) fun v9 =>
  (Option.bind (aI 0 M v9 a2) fun v10 =>
  some (((v2 - v5) * (v2 - v5)) + ((v7 - v10) * (v7 - v10)))
  )
  )
  )
  )
  )
  )
  )
  )
  )
  )
theorem yk_X2_squareWay : yok yX2_squareWay 2 := by decide +kernel
set_option maxHeartbeats 4000000 in
set_option maxRecDepth 100000 in
theorem w_X2_squareWay {G : gG} (hG : GOK G) {l : Launch} {a0 : Nat} {a1 : Int32} {a2 : Int32} {M : Mem} {r : Int32} (hp : p_X2_squareWay a0 a1 a2 M = some r) : CT G l yX2_squareWay (wT yX2_squareWay cX2_squareWay 5 (some FieldType.int)) rm_X2_squareWay [.ref a0, .int a1, .int a2] M (some (.int r)) M 0 0 := by
  refine CT_of (own := RX2) (maxL := 5) (ret := (some FieldType.int)) hG (by decide) rfl (Nat.le_of_ble_eq_true rfl) (fun p e s m below meth c A C0 hr hlk hM ls hl => ?_)
  have hl : lv_has ls 5 [(0, .ref a0), (1, .int a1), (2, .int a2)] := hl
  generalize ([.ref a0, .int a1, .int a2] : List Value).toArray = args at C0 ⊢
  skip
  have hx := C0.1
  have hb := C0.2.1
  have hown := C0.2.2.2.1
  have hts := C0.2.2.2.2.1
  unfold p_X2_squareWay at hp
  refine lv_aload_n hx hb dX2_squareWay_0 rfl (lv_at hl 0 rfl) ?_
  obtain ⟨v1, hv1, hp⟩ := ob hp
  refine mr_getR C0 cbX2 hM 11 (by decide) tw_160 hv1 dX2_squareWay_1 ?_
  refine lv_iload_n hx hb dX2_squareWay_4 rfl (lv_at hl 1 rfl) ?_
  obtain ⟨v2, hv2, hp⟩ := ob hp
  refine mr_iald C0 hM hv2 dX2_squareWay_5 ?_
  refine lv_aload_n hx hb dX2_squareWay_6 rfl (lv_at hl 0 rfl) ?_
  obtain ⟨v3, hv3, hp⟩ := ob hp
  refine mr_getR C0 cbX2 hM 0 (by decide) tw_132 hv3 dX2_squareWay_7 ?_
  obtain ⟨v4, hv4, hp⟩ := ob hp
  refine mr_getR C0 cbX4 hM 4 (by decide) tw_78 hv4 dX2_squareWay_10 ?_
  refine lv_iload_n hx hb dX2_squareWay_13 rfl (lv_at hl 2 rfl) ?_
  obtain ⟨v5, hv5, hp⟩ := ob hp
  refine mr_iald C0 hM hv5 dX2_squareWay_14 ?_
  refine lv_isub hx hb dX2_squareWay_15 ?_
  refine lv_istore_n (lv' := [(3, .int (v2 - v5)), (0, .ref a0), (1, .int a1), (2, .int a2)]) hx hb dX2_squareWay_16 rfl hl (by decide) rfl (fun ls hl => ?_)
  refine lv_aload_n hx hb dX2_squareWay_17 rfl (lv_at hl 1 rfl) ?_
  obtain ⟨v6, hv6, hp⟩ := ob hp
  refine mr_getR C0 cbX2 hM 12 (by decide) tw_162 hv6 dX2_squareWay_18 ?_
  refine lv_iload_n hx hb dX2_squareWay_21 rfl (lv_at hl 2 rfl) ?_
  obtain ⟨v7, hv7, hp⟩ := ob hp
  refine mr_iald C0 hM hv7 dX2_squareWay_22 ?_
  refine lv_aload_n hx hb dX2_squareWay_23 rfl (lv_at hl 1 rfl) ?_
  obtain ⟨v8, hv8, hp⟩ := ob hp
  refine mr_getR C0 cbX2 hM 0 (by decide) tw_132 hv8 dX2_squareWay_24 ?_
  obtain ⟨v9, hv9, hp⟩ := ob hp
  refine mr_getR C0 cbX4 hM 5 (by decide) tw_81 hv9 dX2_squareWay_27 ?_
  refine lv_iload_n hx hb dX2_squareWay_30 rfl (lv_at hl 3 rfl) ?_
  obtain ⟨v10, hv10, hp⟩ := ob hp
  refine mr_iald C0 hM hv10 dX2_squareWay_31 ?_
  refine lv_isub hx hb dX2_squareWay_32 ?_
  refine lv_istore (lv' := [(4, .int (v7 - v10)), (3, .int (v2 - v5)), (0, .ref a0), (1, .int a1), (2, .int a2)]) hx hb dX2_squareWay_33 hl (by decide) rfl (fun ls hl => ?_)
  refine lv_iload_n hx hb dX2_squareWay_35 rfl (lv_at hl 1 rfl) ?_
  refine lv_iload_n hx hb dX2_squareWay_36 rfl (lv_at hl 1 rfl) ?_
  refine lv_imul hx hb dX2_squareWay_37 ?_
  refine lv_iload hx hb dX2_squareWay_38 (lv_at hl 0 rfl) ?_
  refine lv_iload hx hb dX2_squareWay_40 (lv_at hl 0 rfl) ?_
  refine lv_imul hx hb dX2_squareWay_42 ?_
  refine lv_iadd hx hb dX2_squareWay_43 ?_
  exact mr_iret C0 hr hlk hM rfl (Option.some.inj hp) (Nat.le_refl _) (Nat.le_refl _) dX2_squareWay_44
abbrev rm_X6_isIn : Room := { frames := 0, cells := 0, slots := 0, locals := 0 }
def p_X6_isIn (a0 : Int64) (a2 : Int32) (M : Mem) : Option (Int32) :=
  (if (lg_cmp ((a0 >>> (Int32.toInt64 a2 &&& 63)) &&& (1 : Int64)) (0 : Int64)) = 0 then
   some (0 : Int32)
  else
   some (1 : Int32)
  )
theorem yk_X6_isIn : yok yX6_isIn 2 := by decide +kernel
set_option maxHeartbeats 4000000 in
set_option maxRecDepth 100000 in
theorem w_X6_isIn {G : gG} (hG : GOK G) {l : Launch} {a0 : Int64} {a2 : Int32} {M : Mem} {r : Int32} (hp : p_X6_isIn a0 a2 M = some r) : CT G l yX6_isIn (wT yX6_isIn cX6_isIn 3 (some FieldType.boolean)) rm_X6_isIn [.long a0, .int a2] M (some (.int r)) M 0 0 := by
  refine CT_of (own := RX6) (maxL := 3) (ret := (some FieldType.boolean)) hG (by decide) rfl (Nat.le_of_ble_eq_true rfl) (fun p e s m below meth c A C0 hr hlk hM ls hl => ?_)
  have hl : lv_has ls 3 [(0, .long a0), (2, .int a2)] := hl
  generalize ([.long a0, .int a2] : List Value).toArray = args at C0 ⊢
  skip
  have hx := C0.1
  have hb := C0.2.1
  have hown := C0.2.2.2.1
  have hts := C0.2.2.2.2.1
  unfold p_X6_isIn at hp
  refine lv_lload_n hx hb dX6_isIn_0 rfl (lv_at hl 0 rfl) ?_
  refine lv_iload_n hx hb dX6_isIn_1 rfl (lv_at hl 1 rfl) ?_
  refine lv_lshr (v := (a0 >>> (Int32.toInt64 a2 &&& 63))) hx hb dX6_isIn_2 rfl ?_
  refine lv_lconst (v := 1) hx hb dX6_isIn_3 (by decide) ?_
  refine lv_land hx hb dX6_isIn_4 ?_
  refine lv_lconst (v := 0) hx hb dX6_isIn_5 (by decide) ?_
  refine W.lcmp hx hb dX6_isIn_6 ?_
  refine lv_if_eq (tgt := 14) hx hb dX6_isIn_7 (by decide) (fun c1 => ?_) (fun c1 => ?_)
  · replace hp := oT c1 hp
    refine lv_iconst (v := 0) hx hb dX6_isIn_14 (by decide) ?_
    exact mr_zret C0 hr hlk hM rfl (Or.inl rfl) (Option.some.inj hp) (Nat.le_refl _) (Nat.le_refl _) dX6_isIn_15
  · replace hp := oF c1 hp
    refine lv_iconst (v := 1) hx hb dX6_isIn_10 (by decide) ?_
    refine lv_goto (tgt := 15) hx hb dX6_isIn_11 (by decide) ?_
    exact mr_zret C0 hr hlk hM rfl (Or.inr rfl) (Option.some.inj hp) (Nat.le_refl _) (Nat.le_refl _) dX6_isIn_15
abbrev rm_X2_standing : Room := { frames := 2, cells := 0, slots := 0, locals := 48 }
def p_X2_standing (a0 : Nat) (a1 : Int32) (a2 : Int32) (M : Mem) : Option (Int64) :=
  (Option.bind (gI 2 3 M a0) fun v1 =>
  (jn (fun (s2 : Int64) =>
   (Option.bind (isC 2 M a0) fun _ =>
   (Option.bind (p_X2_rankClass a0 a1 a2 M) fun v5 =>
   (Option.bind (isC 2 M a0) fun _ =>
   (Option.bind (p_X2_squareWay a0 a1 a2 M) fun v7 =>
   (Option.bind (gR 2 14 M a0) fun v8 =>
   (Option.bind (aI 0 M v8 a1) fun v9 =>
   some ((((((((s2 <<< (Int32.toInt64 (2 : Int32) &&& 63)) ||| (Int32.toInt64 v5)) <<< (Int32.toInt64 (15 : Int32) &&& 63)) ||| (Int32.toInt64 v7)) <<< (Int32.toInt64 (14 : Int32) &&& 63)) ||| (Int32.toInt64 v9)) <<< (Int32.toInt64 (6 : Int32) &&& 63)) ||| (Int32.toInt64 a1))
   )
   )
   )
   )
   )
   )
  ) fun k3 =>
  (if v1 = 0 then
   (k3 (0 : Int64))
  else
   (Option.bind (gL 2 8 M a0) fun v11 =>
   (Option.bind (p_X6_isIn v11 a1 M) fun v12 =>
   (if v12 = 0 then
    (k3 (0 : Int64))
   else
    (k3 (1 : Int64))
   )
   )
   )
  )
  )
  )
theorem yk_X2_standing : yok yX2_standing 2 := by decide +kernel
set_option maxHeartbeats 4000000 in
set_option maxRecDepth 100000 in
theorem w_X2_standing {G : gG} (hG : GOK G) {l : Launch} {a0 : Nat} {a1 : Int32} {a2 : Int32} {M : Mem} {r : Int64} (hp : p_X2_standing a0 a1 a2 M = some r) : CT G l yX2_standing (wT yX2_standing cX2_standing 5 (some FieldType.long)) rm_X2_standing [.ref a0, .int a1, .int a2] M (some (.long r)) M 0 0 := by
  refine CT_of (own := RX2) (maxL := 5) (ret := (some FieldType.long)) hG (by decide) rfl (Nat.le_of_ble_eq_true rfl) (fun p e s m below meth c A C0 hr hlk hM ls hl => ?_)
  have hl : lv_has ls 5 [(0, .ref a0), (1, .int a1), (2, .int a2)] := hl
  generalize ([.ref a0, .int a1, .int a2] : List Value).toArray = args at C0 ⊢
  skip
  have hx := C0.1
  have hb := C0.2.1
  have hown := C0.2.2.2.1
  have hts := C0.2.2.2.2.1
  unfold p_X2_standing at hp
  refine lv_aload_n hx hb dX2_standing_0 rfl (lv_at hl 0 rfl) ?_
  obtain ⟨v1, hv1, hp⟩ := ob hp
  refine mr_getI C0 cbX2 hM 3 (by decide) tw_141 hv1 dX2_standing_1 ?_
  obtain ⟨k3, ek3, hp⟩ := ojn hp
  have hk3 : ∀ (s2 : Int64) (H : Heap) (locs : List Loc) (ls : Array Slot), mm G A s M H locs → lv_has ls 5 [(0, .ref a0), (1, .int a1), (2, .int a2)] → k3 s2 = some r → W p l e rm_X2_standing s m args below meth c H locs 0 0 (MQ below (CQ G M (some (.long r)) A) args s 0 0 A) (F0 m 23 ls [.long s2]) := by
    intro s2 H locs ls hM hl hp
    rw [ek3] at hp
    refine lv_lstore_n (lv' := [(3, .long s2), (0, .ref a0), (1, .int a1), (2, .int a2)]) hx hb dX2_standing_23 rfl hl (by decide) rfl (fun ls hl => ?_)
    refine lv_lload_n hx hb dX2_standing_24 rfl (lv_at hl 0 rfl) ?_
    refine lv_iconst (v := 2) hx hb dX2_standing_25 (by decide) ?_
    refine lv_lshl (v := (s2 <<< (Int32.toInt64 (2 : Int32) &&& 63))) hx hb dX2_standing_26 rfl ?_
    refine lv_aload_n hx hb dX2_standing_27 rfl (lv_at hl 1 rfl) ?_
    refine lv_iload_n hx hb dX2_standing_28 rfl (lv_at hl 2 rfl) ?_
    refine lv_iload_n hx hb dX2_standing_29 rfl (lv_at hl 3 rfl) ?_
    obtain ⟨_, h4, hp⟩ := ob hp
    obtain ⟨v5, hv5, hp⟩ := ob hp
    refine mr_V1 (As := [.int a1, .int a2]) (rest := [.long (s2 <<< (Int32.toInt64 (2 : Int32) &&& 63))]) C0 cbX2 hM h4 rfl (w_X2_rankClass hG hv5) tw_586 tw_587 tw_588 tw_17 tw_589 yk_X2_rankClass (by decide) rfl hl.1 (Nat.le_of_ble_eq_true rfl) dX2_standing_30 rfl (fun H locs hM => ?_)
    refine lv_i2l (v := (Int32.toInt64 v5)) hx hb dX2_standing_33 rfl ?_
    refine lv_lor hx hb dX2_standing_34 ?_
    refine lv_lstore_n (lv' := [(3, .long ((s2 <<< (Int32.toInt64 (2 : Int32) &&& 63)) ||| (Int32.toInt64 v5))), (0, .ref a0), (1, .int a1), (2, .int a2)]) hx hb dX2_standing_35 rfl hl (by decide) rfl (fun ls hl => ?_)
    refine lv_lload_n hx hb dX2_standing_36 rfl (lv_at hl 0 rfl) ?_
    refine lv_bipush (v := 15) hx hb dX2_standing_37 (by decide) ?_
    refine lv_lshl (v := (((s2 <<< (Int32.toInt64 (2 : Int32) &&& 63)) ||| (Int32.toInt64 v5)) <<< (Int32.toInt64 (15 : Int32) &&& 63))) hx hb dX2_standing_39 rfl ?_
    refine lv_aload_n hx hb dX2_standing_40 rfl (lv_at hl 1 rfl) ?_
    refine lv_iload_n hx hb dX2_standing_41 rfl (lv_at hl 2 rfl) ?_
    refine lv_iload_n hx hb dX2_standing_42 rfl (lv_at hl 3 rfl) ?_
    obtain ⟨_, h6, hp⟩ := ob hp
    obtain ⟨v7, hv7, hp⟩ := ob hp
    refine mr_V1 (As := [.int a1, .int a2]) (rest := [.long (((s2 <<< (Int32.toInt64 (2 : Int32) &&& 63)) ||| (Int32.toInt64 v5)) <<< (Int32.toInt64 (15 : Int32) &&& 63))]) C0 cbX2 hM h6 rfl (w_X2_squareWay hG hv7) tw_595 tw_596 tw_597 tw_17 tw_598 yk_X2_squareWay (by decide) rfl hl.1 (Nat.le_of_ble_eq_true rfl) dX2_standing_43 rfl (fun H locs hM => ?_)
    refine lv_i2l (v := (Int32.toInt64 v7)) hx hb dX2_standing_46 rfl ?_
    refine lv_lor hx hb dX2_standing_47 ?_
    refine lv_lstore_n (lv' := [(3, .long ((((s2 <<< (Int32.toInt64 (2 : Int32) &&& 63)) ||| (Int32.toInt64 v5)) <<< (Int32.toInt64 (15 : Int32) &&& 63)) ||| (Int32.toInt64 v7))), (0, .ref a0), (1, .int a1), (2, .int a2)]) hx hb dX2_standing_48 rfl hl (by decide) rfl (fun ls hl => ?_)
    refine lv_lload_n hx hb dX2_standing_49 rfl (lv_at hl 0 rfl) ?_
    refine lv_bipush (v := 14) hx hb dX2_standing_50 (by decide) ?_
    refine lv_lshl (v := (((((s2 <<< (Int32.toInt64 (2 : Int32) &&& 63)) ||| (Int32.toInt64 v5)) <<< (Int32.toInt64 (15 : Int32) &&& 63)) ||| (Int32.toInt64 v7)) <<< (Int32.toInt64 (14 : Int32) &&& 63))) hx hb dX2_standing_52 rfl ?_
    refine lv_aload_n hx hb dX2_standing_53 rfl (lv_at hl 1 rfl) ?_
    obtain ⟨v8, hv8, hp⟩ := ob hp
    refine mr_getR C0 cbX2 hM 14 (by decide) tw_166 hv8 dX2_standing_54 ?_
    refine lv_iload_n hx hb dX2_standing_57 rfl (lv_at hl 2 rfl) ?_
    obtain ⟨v9, hv9, hp⟩ := ob hp
    refine mr_iald C0 hM hv9 dX2_standing_58 ?_
    refine lv_i2l (v := (Int32.toInt64 v9)) hx hb dX2_standing_59 rfl ?_
    refine lv_lor hx hb dX2_standing_60 ?_
    refine lv_lstore_n (lv' := [(3, .long ((((((s2 <<< (Int32.toInt64 (2 : Int32) &&& 63)) ||| (Int32.toInt64 v5)) <<< (Int32.toInt64 (15 : Int32) &&& 63)) ||| (Int32.toInt64 v7)) <<< (Int32.toInt64 (14 : Int32) &&& 63)) ||| (Int32.toInt64 v9))), (0, .ref a0), (1, .int a1), (2, .int a2)]) hx hb dX2_standing_61 rfl hl (by decide) rfl (fun ls hl => ?_)
    refine lv_lload_n hx hb dX2_standing_62 rfl (lv_at hl 0 rfl) ?_
    refine lv_bipush (v := 6) hx hb dX2_standing_63 (by decide) ?_
    refine lv_lshl (v := (((((((s2 <<< (Int32.toInt64 (2 : Int32) &&& 63)) ||| (Int32.toInt64 v5)) <<< (Int32.toInt64 (15 : Int32) &&& 63)) ||| (Int32.toInt64 v7)) <<< (Int32.toInt64 (14 : Int32) &&& 63)) ||| (Int32.toInt64 v9)) <<< (Int32.toInt64 (6 : Int32) &&& 63))) hx hb dX2_standing_65 rfl ?_
    refine lv_iload_n hx hb dX2_standing_66 rfl (lv_at hl 2 rfl) ?_
    refine lv_i2l (v := (Int32.toInt64 a1)) hx hb dX2_standing_67 rfl ?_
    refine lv_lor hx hb dX2_standing_68 ?_
    exact mr_lret C0 hr hlk hM rfl (Option.some.inj hp) (Nat.le_refl _) (Nat.le_refl _) dX2_standing_69
  refine lv_if_eq (tgt := 22) hx hb dX2_standing_4 (by decide) (fun c10 => ?_) (fun c10 => ?_)
  · replace hp := oT c10 hp
    refine lv_lconst (v := 0) hx hb dX2_standing_22 (by decide) ?_
    exact hk3 _ _ _ _ hM (lv_sub hl [0, 1, 2] rfl) hp
  · replace hp := oF c10 hp
    refine lv_aload_n hx hb dX2_standing_7 rfl (lv_at hl 0 rfl) ?_
    obtain ⟨v11, hv11, hp⟩ := ob hp
    refine mr_getL C0 cbX2 hM 8 (by decide) tw_153 hv11 dX2_standing_8 ?_
    refine lv_iload_n hx hb dX2_standing_11 rfl (lv_at hl 1 rfl) ?_
    obtain ⟨v12, hv12, hp⟩ := ob hp
    refine mr_N1 (As := [.long v11, .int a1]) (rest := []) C0 hM (w_X6_isIn hG hv12) tw_581 tw_558 tw_15 tw_559 yk_X6_isIn (by decide) rfl hl.1 (Nat.le_of_ble_eq_true rfl) dX2_standing_12 rfl (fun H locs hM => ?_)
    refine lv_if_eq (tgt := 22) hx hb dX2_standing_15 (by decide) (fun c13 => ?_) (fun c13 => ?_)
    · replace hp := oT c13 hp
      refine lv_lconst (v := 0) hx hb dX2_standing_22 (by decide) ?_
      exact hk3 _ _ _ _ hM (lv_sub hl [0, 1, 2] rfl) hp
    · replace hp := oF c13 hp
      refine lv_lconst (v := 1) hx hb dX2_standing_18 (by decide) ?_
      refine lv_goto (tgt := 23) hx hb dX2_standing_19 (by decide) ?_
      exact hk3 _ _ _ _ hM (lv_sub hl [0, 1, 2] rfl) hp
abbrev rm_X2_lastOf : Room := { frames := 3, cells := 0, slots := 0, locals := 72 }
def pl_X2_lastOf_9 (k1 : Int32 → Option (Int32)) (f0 : Nat) (f1 : Int64) (f3 : Int32) (M : Mem) : Nat → Int32 → Int64 → Int32 → Option (Int32)
  | 0, _, _, _ => none
  | n + 1, y4, y5, y7 =>
    (Option.bind (gI 2 1 M f0) fun v1 =>
    (if v1 ≤ y7 then
     (k1 y4)
    else
     (Option.bind (p_X6_isIn f1 y7 M) fun v3 =>
     (if v3 = 0 then
      (pl_X2_lastOf_9 k1 f0 f1 f3 M n y4 y5 (y7 + (1 : Int32)))
     else
      (Option.bind (isC 2 M f0) fun _ =>
      (Option.bind (p_X2_standing f0 y7 f3 M) fun v6 =>
      (jn (fun (_ : Unit) =>
       (pl_X2_lastOf_9 k1 f0 f1 f3 M n y7 v6 (y7 + (1 : Int32)))
      ) fun k7 =>
      (if y4 = (-1 : Int32) then
       (k7 ())
      else
       (if (lg_cmp v6 y5) ≤ 0 then
        (pl_X2_lastOf_9 k1 f0 f1 f3 M n y4 y5 (y7 + (1 : Int32)))
       else
        (k7 ())
       )
      )
      )
      )
      )
     )
     )
    )
    )
set_option maxHeartbeats 4000000 in
set_option maxRecDepth 100000 in
theorem wl_X2_lastOf_9 {G : gG} {p : Program} {l : Launch} {e : Env} {s : State} {m : MethodId} {args : Array Value} {below : List Frame} {meth : Method} {c : Code} {A : Nat → Prop} {r : Int32} {k1 : Int32 → Option (Int32)} {f0 : Nat} {f1 : Int64} {f3 : Int32} {M : Mem} (C0 : cx G p s m args c cX2_lastOf RX2 10 A) (hr : meth.sig.returnType = (some FieldType.int)) (hlk : meth.locks = false) (hG : GOK G) (hk1 : ∀ (z4 : Int32) (H : Heap) (locs : List Loc) (ls : Array Slot), mm G A s M H locs → lv_has ls 10 [(4, .int z4)] → k1 z4 = some r → W p l e rm_X2_lastOf s m args below meth c H locs 0 0 (MQ below (CQ G M (some (.int r)) A) args s 0 0 A) (F0 m 64 ls [])) : ∀ (n : Nat) (y4 : Int32) (y5 : Int64) (y7 : Int32) (H : Heap) (locs : List Loc) (ls : Array Slot), mm G A s M H locs → lv_has ls 10 [(0, .ref f0), (1, .long f1), (3, .int f3), (4, .int y4), (5, .long y5), (7, .int y7)] → pl_X2_lastOf_9 k1 f0 f1 f3 M n y4 y5 y7 = some r → W p l e rm_X2_lastOf s m args below meth c H locs 0 0 (MQ below (CQ G M (some (.int r)) A) args s 0 0 A) (F0 m 9 ls []) := by
  have hx := C0.1
  have hb := C0.2.1
  have hown := C0.2.2.2.1
  have hts := C0.2.2.2.2.1
  intro n
  induction n with
  | zero => intro y4 y5 y7 H locs ls hM hl hp; rw [pl_X2_lastOf_9] at hp; cases hp
  | succ n ih =>
    intro y4 y5 y7 H locs ls hM hl hp
    rw [pl_X2_lastOf_9] at hp
    refine lv_iload hx hb dX2_lastOf_9 (lv_at hl 5 rfl) ?_
    refine lv_aload_n hx hb dX2_lastOf_11 rfl (lv_at hl 0 rfl) ?_
    obtain ⟨v1, hv1, hp⟩ := ob hp
    refine mr_getI C0 cbX2 hM 1 (by decide) tw_135 hv1 dX2_lastOf_12 ?_
    refine lv_icmp_ge (tgt := 64) hx hb dX2_lastOf_15 (by decide) (fun c2 => ?_) (fun c2 => ?_)
    · replace hp := oT c2 hp
      exact hk1 _ _ _ _ hM (lv_sub hl [3] rfl) hp
    · replace hp := oF c2 hp
      refine lv_lload_n hx hb dX2_lastOf_18 rfl (lv_at hl 1 rfl) ?_
      refine lv_iload hx hb dX2_lastOf_19 (lv_at hl 5 rfl) ?_
      obtain ⟨v3, hv3, hp⟩ := ob hp
      refine mr_N1 (As := [.long f1, .int y7]) (rest := []) C0 hM (w_X6_isIn hG hv3) tw_581 tw_558 tw_15 tw_559 yk_X6_isIn (by decide) rfl hl.1 (Nat.le_of_ble_eq_true rfl) dX2_lastOf_21 rfl (fun H locs hM => ?_)
      refine lv_if_eq (tgt := 58) hx hb dX2_lastOf_24 (by decide) (fun c4 => ?_) (fun c4 => ?_)
      · replace hp := oT c4 hp
        refine lv_iinc (v := (y7 + (1 : Int32))) (lv' := [(7, .int (y7 + (1 : Int32))), (0, .ref f0), (1, .long f1), (3, .int f3), (4, .int y4), (5, .long y5)]) hx hb dX2_lastOf_58 hl (k := 5) rfl rfl (by decide) rfl (fun ls hl => ?_)
        refine lv_goto (tgt := 9) hx hb dX2_lastOf_61 (by decide) ?_
        exact ih _ _ _ _ _ _ hM (lv_sub hl [1, 2, 3, 4, 5, 0] rfl) hp
      · replace hp := oF c4 hp
        refine lv_aload_n hx hb dX2_lastOf_27 rfl (lv_at hl 0 rfl) ?_
        refine lv_iload hx hb dX2_lastOf_28 (lv_at hl 5 rfl) ?_
        refine lv_iload_n hx hb dX2_lastOf_30 rfl (lv_at hl 2 rfl) ?_
        obtain ⟨_, h5, hp⟩ := ob hp
        obtain ⟨v6, hv6, hp⟩ := ob hp
        refine mr_V1 (As := [.int y7, .int f3]) (rest := []) C0 cbX2 hM h5 rfl (w_X2_standing hG hv6) tw_582 tw_583 tw_584 tw_17 tw_585 yk_X2_standing (by decide) rfl hl.1 (Nat.le_of_ble_eq_true rfl) dX2_lastOf_31 rfl (fun H locs hM => ?_)
        refine lv_lstore (lv' := [(8, .long v6), (0, .ref f0), (1, .long f1), (3, .int f3), (4, .int y4), (5, .long y5), (7, .int y7)]) hx hb dX2_lastOf_34 hl (by decide) rfl (fun ls hl => ?_)
        refine lv_iload hx hb dX2_lastOf_36 (lv_at hl 4 rfl) ?_
        refine lv_iconst (v := -1) hx hb dX2_lastOf_38 (by decide) ?_
        obtain ⟨k7, ek7, hp⟩ := ojn hp
        have hk7 : ∀ (H : Heap) (locs : List Loc) (ls : Array Slot), mm G A s M H locs → lv_has ls 10 [(0, .ref f0), (1, .long f1), (3, .int f3), (7, .int y7), (8, .long v6)] → k7 () = some r → W p l e rm_X2_lastOf s m args below meth c H locs 0 0 (MQ below (CQ G M (some (.int r)) A) args s 0 0 A) (F0 m 50 ls []) := by
          intro  H locs ls hM hl hp
          rw [ek7] at hp
          refine lv_iload hx hb dX2_lastOf_50 (lv_at hl 3 rfl) ?_
          refine lv_istore (lv' := [(4, .int y7), (0, .ref f0), (1, .long f1), (3, .int f3), (7, .int y7), (8, .long v6)]) hx hb dX2_lastOf_52 hl (by decide) rfl (fun ls hl => ?_)
          refine lv_lload hx hb dX2_lastOf_54 (lv_at hl 5 rfl) ?_
          refine lv_lstore (lv' := [(5, .long v6), (4, .int y7), (0, .ref f0), (1, .long f1), (3, .int f3), (7, .int y7), (8, .long v6)]) hx hb dX2_lastOf_56 hl (by decide) rfl (fun ls hl => ?_)
          refine lv_iinc (v := (y7 + (1 : Int32))) (lv' := [(7, .int (y7 + (1 : Int32))), (5, .long v6), (4, .int y7), (0, .ref f0), (1, .long f1), (3, .int f3), (8, .long v6)]) hx hb dX2_lastOf_58 hl (k := 5) rfl rfl (by decide) rfl (fun ls hl => ?_)
          refine lv_goto (tgt := 9) hx hb dX2_lastOf_61 (by decide) ?_
          exact ih _ _ _ _ _ _ hM (lv_sub hl [3, 4, 5, 2, 1, 0] rfl) hp
        refine lv_icmp_eq (tgt := 50) hx hb dX2_lastOf_39 (by decide) (fun c8 => ?_) (fun c8 => ?_)
        · replace hp := oT c8 hp
          exact hk7  _ _ _ hM (lv_sub hl [1, 2, 3, 6, 0] rfl) hp
        · replace hp := oF c8 hp
          refine lv_lload hx hb dX2_lastOf_42 (lv_at hl 0 rfl) ?_
          refine lv_lload hx hb dX2_lastOf_44 (lv_at hl 5 rfl) ?_
          refine W.lcmp hx hb dX2_lastOf_46 ?_
          refine lv_if_le (tgt := 58) hx hb dX2_lastOf_47 (by decide) (fun c9 => ?_) (fun c9 => ?_)
          · replace hp := oT c9 hp
            refine lv_iinc (v := (y7 + (1 : Int32))) (lv' := [(7, .int (y7 + (1 : Int32))), (8, .long v6), (0, .ref f0), (1, .long f1), (3, .int f3), (4, .int y4), (5, .long y5)]) hx hb dX2_lastOf_58 hl (k := 6) rfl rfl (by decide) rfl (fun ls hl => ?_)
            refine lv_goto (tgt := 9) hx hb dX2_lastOf_61 (by decide) ?_
            exact ih _ _ _ _ _ _ hM (lv_sub hl [2, 3, 4, 5, 6, 0] rfl) hp
          · replace hp := oF c9 hp
            exact hk7  _ _ _ hM (lv_sub hl [1, 2, 3, 6, 0] rfl) hp
def p_X2_lastOf (a0 : Nat) (a1 : Int64) (a3 : Int32) (M : Mem) : Option (Int32) :=
  (pl_X2_lastOf_9
   (fun (z10 : Int32) =>
    some z10
   )
   a0 a1 a3 M FU (-1 : Int32) (0 : Int64) (0 : Int32))
theorem yk_X2_lastOf : yok yX2_lastOf 2 := by decide +kernel
set_option maxHeartbeats 4000000 in
set_option maxRecDepth 100000 in
theorem w_X2_lastOf {G : gG} (hG : GOK G) {l : Launch} {a0 : Nat} {a1 : Int64} {a3 : Int32} {M : Mem} {r : Int32} (hp : p_X2_lastOf a0 a1 a3 M = some r) : CT G l yX2_lastOf (wT yX2_lastOf cX2_lastOf 10 (some FieldType.int)) rm_X2_lastOf [.ref a0, .long a1, .int a3] M (some (.int r)) M 0 0 := by
  refine CT_of (own := RX2) (maxL := 10) (ret := (some FieldType.int)) hG (by decide) rfl (Nat.le_of_ble_eq_true rfl) (fun p e s m below meth c A C0 hr hlk hM ls hl => ?_)
  have hl : lv_has ls 10 [(0, .ref a0), (1, .long a1), (3, .int a3)] := hl
  generalize ([.ref a0, .long a1, .int a3] : List Value).toArray = args at C0 ⊢
  skip
  have hx := C0.1
  have hb := C0.2.1
  have hown := C0.2.2.2.1
  have hts := C0.2.2.2.2.1
  unfold p_X2_lastOf at hp
  refine lv_iconst (v := -1) hx hb dX2_lastOf_0 (by decide) ?_
  refine lv_istore (lv' := [(4, .int (-1 : Int32)), (0, .ref a0), (1, .long a1), (3, .int a3)]) hx hb dX2_lastOf_1 hl (by decide) rfl (fun ls hl => ?_)
  refine lv_lconst (v := 0) hx hb dX2_lastOf_3 (by decide) ?_
  refine lv_lstore (lv' := [(5, .long (0 : Int64)), (4, .int (-1 : Int32)), (0, .ref a0), (1, .long a1), (3, .int a3)]) hx hb dX2_lastOf_4 hl (by decide) rfl (fun ls hl => ?_)
  refine lv_iconst (v := 0) hx hb dX2_lastOf_6 (by decide) ?_
  refine lv_istore (lv' := [(7, .int (0 : Int32)), (5, .long (0 : Int64)), (4, .int (-1 : Int32)), (0, .ref a0), (1, .long a1), (3, .int a3)]) hx hb dX2_lastOf_7 hl (by decide) rfl (fun ls hl => ?_)
  refine wl_X2_lastOf_9 C0 hr hlk hG (fun z10 H locs ls hM hl hp => ?_) FU _ _ _ _ _ _ hM (lv_sub hl [3, 4, 5, 2, 1, 0] rfl) hp
  refine lv_iload hx hb dX2_lastOf_64 (lv_at hl 0 rfl) ?_
  exact mr_iret C0 hr hlk hM rfl (Option.some.inj hp) (Nat.le_refl _) (Nat.le_refl _) dX2_lastOf_66
abbrev rm_J13_bitCount_95d88 : Room := { frames := 0, cells := 0, slots := 0, locals := 0 }
def p_J13_bitCount_95d88 (a0 : Int64) (M : Mem) : Option (Int32) :=
  some ((Int64.toInt32 ((((((((a0 - (((Int64.toUInt64 a0 >>> ((Int32.toInt64 (1 : Int32)).toUInt64 &&& Int64.toUInt64 63)).toInt64) &&& (6148914691236517205 : Int64))) &&& (3689348814741910323 : Int64)) + (((Int64.toUInt64 (a0 - (((Int64.toUInt64 a0 >>> ((Int32.toInt64 (1 : Int32)).toUInt64 &&& Int64.toUInt64 63)).toInt64) &&& (6148914691236517205 : Int64))) >>> ((Int32.toInt64 (2 : Int32)).toUInt64 &&& Int64.toUInt64 63)).toInt64) &&& (3689348814741910323 : Int64))) + ((Int64.toUInt64 (((a0 - (((Int64.toUInt64 a0 >>> ((Int32.toInt64 (1 : Int32)).toUInt64 &&& Int64.toUInt64 63)).toInt64) &&& (6148914691236517205 : Int64))) &&& (3689348814741910323 : Int64)) + (((Int64.toUInt64 (a0 - (((Int64.toUInt64 a0 >>> ((Int32.toInt64 (1 : Int32)).toUInt64 &&& Int64.toUInt64 63)).toInt64) &&& (6148914691236517205 : Int64))) >>> ((Int32.toInt64 (2 : Int32)).toUInt64 &&& Int64.toUInt64 63)).toInt64) &&& (3689348814741910323 : Int64))) >>> ((Int32.toInt64 (4 : Int32)).toUInt64 &&& Int64.toUInt64 63)).toInt64)) &&& (1085102592571150095 : Int64)) + ((Int64.toUInt64 (((((a0 - (((Int64.toUInt64 a0 >>> ((Int32.toInt64 (1 : Int32)).toUInt64 &&& Int64.toUInt64 63)).toInt64) &&& (6148914691236517205 : Int64))) &&& (3689348814741910323 : Int64)) + (((Int64.toUInt64 (a0 - (((Int64.toUInt64 a0 >>> ((Int32.toInt64 (1 : Int32)).toUInt64 &&& Int64.toUInt64 63)).toInt64) &&& (6148914691236517205 : Int64))) >>> ((Int32.toInt64 (2 : Int32)).toUInt64 &&& Int64.toUInt64 63)).toInt64) &&& (3689348814741910323 : Int64))) + ((Int64.toUInt64 (((a0 - (((Int64.toUInt64 a0 >>> ((Int32.toInt64 (1 : Int32)).toUInt64 &&& Int64.toUInt64 63)).toInt64) &&& (6148914691236517205 : Int64))) &&& (3689348814741910323 : Int64)) + (((Int64.toUInt64 (a0 - (((Int64.toUInt64 a0 >>> ((Int32.toInt64 (1 : Int32)).toUInt64 &&& Int64.toUInt64 63)).toInt64) &&& (6148914691236517205 : Int64))) >>> ((Int32.toInt64 (2 : Int32)).toUInt64 &&& Int64.toUInt64 63)).toInt64) &&& (3689348814741910323 : Int64))) >>> ((Int32.toInt64 (4 : Int32)).toUInt64 &&& Int64.toUInt64 63)).toInt64)) &&& (1085102592571150095 : Int64)) >>> ((Int32.toInt64 (8 : Int32)).toUInt64 &&& Int64.toUInt64 63)).toInt64)) + ((Int64.toUInt64 ((((((a0 - (((Int64.toUInt64 a0 >>> ((Int32.toInt64 (1 : Int32)).toUInt64 &&& Int64.toUInt64 63)).toInt64) &&& (6148914691236517205 : Int64))) &&& (3689348814741910323 : Int64)) + (((Int64.toUInt64 (a0 - (((Int64.toUInt64 a0 >>> ((Int32.toInt64 (1 : Int32)).toUInt64 &&& Int64.toUInt64 63)).toInt64) &&& (6148914691236517205 : Int64))) >>> ((Int32.toInt64 (2 : Int32)).toUInt64 &&& Int64.toUInt64 63)).toInt64) &&& (3689348814741910323 : Int64))) + ((Int64.toUInt64 (((a0 - (((Int64.toUInt64 a0 >>> ((Int32.toInt64 (1 : Int32)).toUInt64 &&& Int64.toUInt64 63)).toInt64) &&& (6148914691236517205 : Int64))) &&& (3689348814741910323 : Int64)) + (((Int64.toUInt64 (a0 - (((Int64.toUInt64 a0 >>> ((Int32.toInt64 (1 : Int32)).toUInt64 &&& Int64.toUInt64 63)).toInt64) &&& (6148914691236517205 : Int64))) >>> ((Int32.toInt64 (2 : Int32)).toUInt64 &&& Int64.toUInt64 63)).toInt64) &&& (3689348814741910323 : Int64))) >>> ((Int32.toInt64 (4 : Int32)).toUInt64 &&& Int64.toUInt64 63)).toInt64)) &&& (1085102592571150095 : Int64)) + ((Int64.toUInt64 (((((a0 - (((Int64.toUInt64 a0 >>> ((Int32.toInt64 (1 : Int32)).toUInt64 &&& Int64.toUInt64 63)).toInt64) &&& (6148914691236517205 : Int64))) &&& (3689348814741910323 : Int64)) + (((Int64.toUInt64 (a0 - (((Int64.toUInt64 a0 >>> ((Int32.toInt64 (1 : Int32)).toUInt64 &&& Int64.toUInt64 63)).toInt64) &&& (6148914691236517205 : Int64))) >>> ((Int32.toInt64 (2 : Int32)).toUInt64 &&& Int64.toUInt64 63)).toInt64) &&& (3689348814741910323 : Int64))) + ((Int64.toUInt64 (((a0 - (((Int64.toUInt64 a0 >>> ((Int32.toInt64 (1 : Int32)).toUInt64 &&& Int64.toUInt64 63)).toInt64) &&& (6148914691236517205 : Int64))) &&& (3689348814741910323 : Int64)) + (((Int64.toUInt64 (a0 - (((Int64.toUInt64 a0 >>> ((Int32.toInt64 (1 : Int32)).toUInt64 &&& Int64.toUInt64 63)).toInt64) &&& (6148914691236517205 : Int64))) >>> ((Int32.toInt64 (2 : Int32)).toUInt64 &&& Int64.toUInt64 63)).toInt64) &&& (3689348814741910323 : Int64))) >>> ((Int32.toInt64 (4 : Int32)).toUInt64 &&& Int64.toUInt64 63)).toInt64)) &&& (1085102592571150095 : Int64)) >>> ((Int32.toInt64 (8 : Int32)).toUInt64 &&& Int64.toUInt64 63)).toInt64)) >>> ((Int32.toInt64 (16 : Int32)).toUInt64 &&& Int64.toUInt64 63)).toInt64)) + ((Int64.toUInt64 (((((((a0 - (((Int64.toUInt64 a0 >>> ((Int32.toInt64 (1 : Int32)).toUInt64 &&& Int64.toUInt64 63)).toInt64) &&& (6148914691236517205 : Int64))) &&& (3689348814741910323 : Int64)) + (((Int64.toUInt64 (a0 - (((Int64.toUInt64 a0 >>> ((Int32.toInt64 (1 : Int32)).toUInt64 &&& Int64.toUInt64 63)).toInt64) &&& (6148914691236517205 : Int64))) >>> ((Int32.toInt64 (2 : Int32)).toUInt64 &&& Int64.toUInt64 63)).toInt64) &&& (3689348814741910323 : Int64))) + ((Int64.toUInt64 (((a0 - (((Int64.toUInt64 a0 >>> ((Int32.toInt64 (1 : Int32)).toUInt64 &&& Int64.toUInt64 63)).toInt64) &&& (6148914691236517205 : Int64))) &&& (3689348814741910323 : Int64)) + (((Int64.toUInt64 (a0 - (((Int64.toUInt64 a0 >>> ((Int32.toInt64 (1 : Int32)).toUInt64 &&& Int64.toUInt64 63)).toInt64) &&& (6148914691236517205 : Int64))) >>> ((Int32.toInt64 (2 : Int32)).toUInt64 &&& Int64.toUInt64 63)).toInt64) &&& (3689348814741910323 : Int64))) >>> ((Int32.toInt64 (4 : Int32)).toUInt64 &&& Int64.toUInt64 63)).toInt64)) &&& (1085102592571150095 : Int64)) + ((Int64.toUInt64 (((((a0 - (((Int64.toUInt64 a0 >>> ((Int32.toInt64 (1 : Int32)).toUInt64 &&& Int64.toUInt64 63)).toInt64) &&& (6148914691236517205 : Int64))) &&& (3689348814741910323 : Int64)) + (((Int64.toUInt64 (a0 - (((Int64.toUInt64 a0 >>> ((Int32.toInt64 (1 : Int32)).toUInt64 &&& Int64.toUInt64 63)).toInt64) &&& (6148914691236517205 : Int64))) >>> ((Int32.toInt64 (2 : Int32)).toUInt64 &&& Int64.toUInt64 63)).toInt64) &&& (3689348814741910323 : Int64))) + ((Int64.toUInt64 (((a0 - (((Int64.toUInt64 a0 >>> ((Int32.toInt64 (1 : Int32)).toUInt64 &&& Int64.toUInt64 63)).toInt64) &&& (6148914691236517205 : Int64))) &&& (3689348814741910323 : Int64)) + (((Int64.toUInt64 (a0 - (((Int64.toUInt64 a0 >>> ((Int32.toInt64 (1 : Int32)).toUInt64 &&& Int64.toUInt64 63)).toInt64) &&& (6148914691236517205 : Int64))) >>> ((Int32.toInt64 (2 : Int32)).toUInt64 &&& Int64.toUInt64 63)).toInt64) &&& (3689348814741910323 : Int64))) >>> ((Int32.toInt64 (4 : Int32)).toUInt64 &&& Int64.toUInt64 63)).toInt64)) &&& (1085102592571150095 : Int64)) >>> ((Int32.toInt64 (8 : Int32)).toUInt64 &&& Int64.toUInt64 63)).toInt64)) + ((Int64.toUInt64 ((((((a0 - (((Int64.toUInt64 a0 >>> ((Int32.toInt64 (1 : Int32)).toUInt64 &&& Int64.toUInt64 63)).toInt64) &&& (6148914691236517205 : Int64))) &&& (3689348814741910323 : Int64)) + (((Int64.toUInt64 (a0 - (((Int64.toUInt64 a0 >>> ((Int32.toInt64 (1 : Int32)).toUInt64 &&& Int64.toUInt64 63)).toInt64) &&& (6148914691236517205 : Int64))) >>> ((Int32.toInt64 (2 : Int32)).toUInt64 &&& Int64.toUInt64 63)).toInt64) &&& (3689348814741910323 : Int64))) + ((Int64.toUInt64 (((a0 - (((Int64.toUInt64 a0 >>> ((Int32.toInt64 (1 : Int32)).toUInt64 &&& Int64.toUInt64 63)).toInt64) &&& (6148914691236517205 : Int64))) &&& (3689348814741910323 : Int64)) + (((Int64.toUInt64 (a0 - (((Int64.toUInt64 a0 >>> ((Int32.toInt64 (1 : Int32)).toUInt64 &&& Int64.toUInt64 63)).toInt64) &&& (6148914691236517205 : Int64))) >>> ((Int32.toInt64 (2 : Int32)).toUInt64 &&& Int64.toUInt64 63)).toInt64) &&& (3689348814741910323 : Int64))) >>> ((Int32.toInt64 (4 : Int32)).toUInt64 &&& Int64.toUInt64 63)).toInt64)) &&& (1085102592571150095 : Int64)) + ((Int64.toUInt64 (((((a0 - (((Int64.toUInt64 a0 >>> ((Int32.toInt64 (1 : Int32)).toUInt64 &&& Int64.toUInt64 63)).toInt64) &&& (6148914691236517205 : Int64))) &&& (3689348814741910323 : Int64)) + (((Int64.toUInt64 (a0 - (((Int64.toUInt64 a0 >>> ((Int32.toInt64 (1 : Int32)).toUInt64 &&& Int64.toUInt64 63)).toInt64) &&& (6148914691236517205 : Int64))) >>> ((Int32.toInt64 (2 : Int32)).toUInt64 &&& Int64.toUInt64 63)).toInt64) &&& (3689348814741910323 : Int64))) + ((Int64.toUInt64 (((a0 - (((Int64.toUInt64 a0 >>> ((Int32.toInt64 (1 : Int32)).toUInt64 &&& Int64.toUInt64 63)).toInt64) &&& (6148914691236517205 : Int64))) &&& (3689348814741910323 : Int64)) + (((Int64.toUInt64 (a0 - (((Int64.toUInt64 a0 >>> ((Int32.toInt64 (1 : Int32)).toUInt64 &&& Int64.toUInt64 63)).toInt64) &&& (6148914691236517205 : Int64))) >>> ((Int32.toInt64 (2 : Int32)).toUInt64 &&& Int64.toUInt64 63)).toInt64) &&& (3689348814741910323 : Int64))) >>> ((Int32.toInt64 (4 : Int32)).toUInt64 &&& Int64.toUInt64 63)).toInt64)) &&& (1085102592571150095 : Int64)) >>> ((Int32.toInt64 (8 : Int32)).toUInt64 &&& Int64.toUInt64 63)).toInt64)) >>> ((Int32.toInt64 (16 : Int32)).toUInt64 &&& Int64.toUInt64 63)).toInt64)) >>> ((Int32.toInt64 (32 : Int32)).toUInt64 &&& Int64.toUInt64 63)).toInt64))) &&& (127 : Int32))
theorem yk_J13_bitCount_95d88 : yok yJ13_bitCount_95d88 1 := by decide +kernel
set_option maxHeartbeats 4000000 in
set_option maxRecDepth 100000 in
theorem w_J13_bitCount_95d88 {G : gG} (hG : GOK G) {l : Launch} {a0 : Int64} {M : Mem} {r : Int32} (hp : p_J13_bitCount_95d88 a0 M = some r) : CT G l yJ13_bitCount_95d88 (wT yJ13_bitCount_95d88 cJ13_bitCount_95d88 2 (some FieldType.int)) rm_J13_bitCount_95d88 [.long a0] M (some (.int r)) M 0 0 := by
  refine CT_of (own := RJ13) (maxL := 2) (ret := (some FieldType.int)) hG (by decide) rfl (Nat.le_of_ble_eq_true rfl) (fun p e s m below meth c A C0 hr hlk hM ls hl => ?_)
  have hl : lv_has ls 2 [(0, .long a0)] := hl
  generalize ([.long a0] : List Value).toArray = args at C0 ⊢
  skip
  have hx := C0.1
  have hb := C0.2.1
  have hown := C0.2.2.2.1
  have hts := C0.2.2.2.2.1
  unfold p_J13_bitCount_95d88 at hp
  refine lv_lload_n hx hb dJ13_bitCount_95d88_0 rfl (lv_at hl 0 rfl) ?_
  refine lv_lload_n hx hb dJ13_bitCount_95d88_1 rfl (lv_at hl 0 rfl) ?_
  refine lv_iconst (v := 1) hx hb dJ13_bitCount_95d88_2 (by decide) ?_
  refine lv_lushr (v := (Int64.toUInt64 a0 >>> ((Int32.toInt64 (1 : Int32)).toUInt64 &&& Int64.toUInt64 63)).toInt64) hx hb dJ13_bitCount_95d88_3 rfl ?_
  refine lv_ldc2 (v := 6148914691236517205) hx hb hown (hts _ tw_574) dJ13_bitCount_95d88_4 ?_
  refine lv_land hx hb dJ13_bitCount_95d88_7 ?_
  refine lv_lsub hx hb dJ13_bitCount_95d88_8 ?_
  refine lv_lstore_n (lv' := [(0, .long (a0 - (((Int64.toUInt64 a0 >>> ((Int32.toInt64 (1 : Int32)).toUInt64 &&& Int64.toUInt64 63)).toInt64) &&& (6148914691236517205 : Int64))))]) hx hb dJ13_bitCount_95d88_9 rfl hl (by decide) rfl (fun ls hl => ?_)
  refine lv_lload_n hx hb dJ13_bitCount_95d88_10 rfl (lv_at hl 0 rfl) ?_
  refine lv_ldc2 (v := 3689348814741910323) hx hb hown (hts _ tw_575) dJ13_bitCount_95d88_11 ?_
  refine lv_land hx hb dJ13_bitCount_95d88_14 ?_
  refine lv_lload_n hx hb dJ13_bitCount_95d88_15 rfl (lv_at hl 0 rfl) ?_
  refine lv_iconst (v := 2) hx hb dJ13_bitCount_95d88_16 (by decide) ?_
  refine lv_lushr (v := (Int64.toUInt64 (a0 - (((Int64.toUInt64 a0 >>> ((Int32.toInt64 (1 : Int32)).toUInt64 &&& Int64.toUInt64 63)).toInt64) &&& (6148914691236517205 : Int64))) >>> ((Int32.toInt64 (2 : Int32)).toUInt64 &&& Int64.toUInt64 63)).toInt64) hx hb dJ13_bitCount_95d88_17 rfl ?_
  refine lv_ldc2 (v := 3689348814741910323) hx hb hown (hts _ tw_575) dJ13_bitCount_95d88_18 ?_
  refine lv_land hx hb dJ13_bitCount_95d88_21 ?_
  refine lv_ladd hx hb dJ13_bitCount_95d88_22 ?_
  refine lv_lstore_n (lv' := [(0, .long (((a0 - (((Int64.toUInt64 a0 >>> ((Int32.toInt64 (1 : Int32)).toUInt64 &&& Int64.toUInt64 63)).toInt64) &&& (6148914691236517205 : Int64))) &&& (3689348814741910323 : Int64)) + (((Int64.toUInt64 (a0 - (((Int64.toUInt64 a0 >>> ((Int32.toInt64 (1 : Int32)).toUInt64 &&& Int64.toUInt64 63)).toInt64) &&& (6148914691236517205 : Int64))) >>> ((Int32.toInt64 (2 : Int32)).toUInt64 &&& Int64.toUInt64 63)).toInt64) &&& (3689348814741910323 : Int64))))]) hx hb dJ13_bitCount_95d88_23 rfl hl (by decide) rfl (fun ls hl => ?_)
  refine lv_lload_n hx hb dJ13_bitCount_95d88_24 rfl (lv_at hl 0 rfl) ?_
  refine lv_lload_n hx hb dJ13_bitCount_95d88_25 rfl (lv_at hl 0 rfl) ?_
  refine lv_iconst (v := 4) hx hb dJ13_bitCount_95d88_26 (by decide) ?_
  refine lv_lushr (v := (Int64.toUInt64 (((a0 - (((Int64.toUInt64 a0 >>> ((Int32.toInt64 (1 : Int32)).toUInt64 &&& Int64.toUInt64 63)).toInt64) &&& (6148914691236517205 : Int64))) &&& (3689348814741910323 : Int64)) + (((Int64.toUInt64 (a0 - (((Int64.toUInt64 a0 >>> ((Int32.toInt64 (1 : Int32)).toUInt64 &&& Int64.toUInt64 63)).toInt64) &&& (6148914691236517205 : Int64))) >>> ((Int32.toInt64 (2 : Int32)).toUInt64 &&& Int64.toUInt64 63)).toInt64) &&& (3689348814741910323 : Int64))) >>> ((Int32.toInt64 (4 : Int32)).toUInt64 &&& Int64.toUInt64 63)).toInt64) hx hb dJ13_bitCount_95d88_27 rfl ?_
  refine lv_ladd hx hb dJ13_bitCount_95d88_28 ?_
  refine lv_ldc2 (v := 1085102592571150095) hx hb hown (hts _ tw_576) dJ13_bitCount_95d88_29 ?_
  refine lv_land hx hb dJ13_bitCount_95d88_32 ?_
  refine lv_lstore_n (lv' := [(0, .long (((((a0 - (((Int64.toUInt64 a0 >>> ((Int32.toInt64 (1 : Int32)).toUInt64 &&& Int64.toUInt64 63)).toInt64) &&& (6148914691236517205 : Int64))) &&& (3689348814741910323 : Int64)) + (((Int64.toUInt64 (a0 - (((Int64.toUInt64 a0 >>> ((Int32.toInt64 (1 : Int32)).toUInt64 &&& Int64.toUInt64 63)).toInt64) &&& (6148914691236517205 : Int64))) >>> ((Int32.toInt64 (2 : Int32)).toUInt64 &&& Int64.toUInt64 63)).toInt64) &&& (3689348814741910323 : Int64))) + ((Int64.toUInt64 (((a0 - (((Int64.toUInt64 a0 >>> ((Int32.toInt64 (1 : Int32)).toUInt64 &&& Int64.toUInt64 63)).toInt64) &&& (6148914691236517205 : Int64))) &&& (3689348814741910323 : Int64)) + (((Int64.toUInt64 (a0 - (((Int64.toUInt64 a0 >>> ((Int32.toInt64 (1 : Int32)).toUInt64 &&& Int64.toUInt64 63)).toInt64) &&& (6148914691236517205 : Int64))) >>> ((Int32.toInt64 (2 : Int32)).toUInt64 &&& Int64.toUInt64 63)).toInt64) &&& (3689348814741910323 : Int64))) >>> ((Int32.toInt64 (4 : Int32)).toUInt64 &&& Int64.toUInt64 63)).toInt64)) &&& (1085102592571150095 : Int64)))]) hx hb dJ13_bitCount_95d88_33 rfl hl (by decide) rfl (fun ls hl => ?_)
  refine lv_lload_n hx hb dJ13_bitCount_95d88_34 rfl (lv_at hl 0 rfl) ?_
  refine lv_lload_n hx hb dJ13_bitCount_95d88_35 rfl (lv_at hl 0 rfl) ?_
  refine lv_bipush (v := 8) hx hb dJ13_bitCount_95d88_36 (by decide) ?_
  refine lv_lushr (v := (Int64.toUInt64 (((((a0 - (((Int64.toUInt64 a0 >>> ((Int32.toInt64 (1 : Int32)).toUInt64 &&& Int64.toUInt64 63)).toInt64) &&& (6148914691236517205 : Int64))) &&& (3689348814741910323 : Int64)) + (((Int64.toUInt64 (a0 - (((Int64.toUInt64 a0 >>> ((Int32.toInt64 (1 : Int32)).toUInt64 &&& Int64.toUInt64 63)).toInt64) &&& (6148914691236517205 : Int64))) >>> ((Int32.toInt64 (2 : Int32)).toUInt64 &&& Int64.toUInt64 63)).toInt64) &&& (3689348814741910323 : Int64))) + ((Int64.toUInt64 (((a0 - (((Int64.toUInt64 a0 >>> ((Int32.toInt64 (1 : Int32)).toUInt64 &&& Int64.toUInt64 63)).toInt64) &&& (6148914691236517205 : Int64))) &&& (3689348814741910323 : Int64)) + (((Int64.toUInt64 (a0 - (((Int64.toUInt64 a0 >>> ((Int32.toInt64 (1 : Int32)).toUInt64 &&& Int64.toUInt64 63)).toInt64) &&& (6148914691236517205 : Int64))) >>> ((Int32.toInt64 (2 : Int32)).toUInt64 &&& Int64.toUInt64 63)).toInt64) &&& (3689348814741910323 : Int64))) >>> ((Int32.toInt64 (4 : Int32)).toUInt64 &&& Int64.toUInt64 63)).toInt64)) &&& (1085102592571150095 : Int64)) >>> ((Int32.toInt64 (8 : Int32)).toUInt64 &&& Int64.toUInt64 63)).toInt64) hx hb dJ13_bitCount_95d88_38 rfl ?_
  refine lv_ladd hx hb dJ13_bitCount_95d88_39 ?_
  refine lv_lstore_n (lv' := [(0, .long ((((((a0 - (((Int64.toUInt64 a0 >>> ((Int32.toInt64 (1 : Int32)).toUInt64 &&& Int64.toUInt64 63)).toInt64) &&& (6148914691236517205 : Int64))) &&& (3689348814741910323 : Int64)) + (((Int64.toUInt64 (a0 - (((Int64.toUInt64 a0 >>> ((Int32.toInt64 (1 : Int32)).toUInt64 &&& Int64.toUInt64 63)).toInt64) &&& (6148914691236517205 : Int64))) >>> ((Int32.toInt64 (2 : Int32)).toUInt64 &&& Int64.toUInt64 63)).toInt64) &&& (3689348814741910323 : Int64))) + ((Int64.toUInt64 (((a0 - (((Int64.toUInt64 a0 >>> ((Int32.toInt64 (1 : Int32)).toUInt64 &&& Int64.toUInt64 63)).toInt64) &&& (6148914691236517205 : Int64))) &&& (3689348814741910323 : Int64)) + (((Int64.toUInt64 (a0 - (((Int64.toUInt64 a0 >>> ((Int32.toInt64 (1 : Int32)).toUInt64 &&& Int64.toUInt64 63)).toInt64) &&& (6148914691236517205 : Int64))) >>> ((Int32.toInt64 (2 : Int32)).toUInt64 &&& Int64.toUInt64 63)).toInt64) &&& (3689348814741910323 : Int64))) >>> ((Int32.toInt64 (4 : Int32)).toUInt64 &&& Int64.toUInt64 63)).toInt64)) &&& (1085102592571150095 : Int64)) + ((Int64.toUInt64 (((((a0 - (((Int64.toUInt64 a0 >>> ((Int32.toInt64 (1 : Int32)).toUInt64 &&& Int64.toUInt64 63)).toInt64) &&& (6148914691236517205 : Int64))) &&& (3689348814741910323 : Int64)) + (((Int64.toUInt64 (a0 - (((Int64.toUInt64 a0 >>> ((Int32.toInt64 (1 : Int32)).toUInt64 &&& Int64.toUInt64 63)).toInt64) &&& (6148914691236517205 : Int64))) >>> ((Int32.toInt64 (2 : Int32)).toUInt64 &&& Int64.toUInt64 63)).toInt64) &&& (3689348814741910323 : Int64))) + ((Int64.toUInt64 (((a0 - (((Int64.toUInt64 a0 >>> ((Int32.toInt64 (1 : Int32)).toUInt64 &&& Int64.toUInt64 63)).toInt64) &&& (6148914691236517205 : Int64))) &&& (3689348814741910323 : Int64)) + (((Int64.toUInt64 (a0 - (((Int64.toUInt64 a0 >>> ((Int32.toInt64 (1 : Int32)).toUInt64 &&& Int64.toUInt64 63)).toInt64) &&& (6148914691236517205 : Int64))) >>> ((Int32.toInt64 (2 : Int32)).toUInt64 &&& Int64.toUInt64 63)).toInt64) &&& (3689348814741910323 : Int64))) >>> ((Int32.toInt64 (4 : Int32)).toUInt64 &&& Int64.toUInt64 63)).toInt64)) &&& (1085102592571150095 : Int64)) >>> ((Int32.toInt64 (8 : Int32)).toUInt64 &&& Int64.toUInt64 63)).toInt64)))]) hx hb dJ13_bitCount_95d88_40 rfl hl (by decide) rfl (fun ls hl => ?_)
  refine lv_lload_n hx hb dJ13_bitCount_95d88_41 rfl (lv_at hl 0 rfl) ?_
  refine lv_lload_n hx hb dJ13_bitCount_95d88_42 rfl (lv_at hl 0 rfl) ?_
  refine lv_bipush (v := 16) hx hb dJ13_bitCount_95d88_43 (by decide) ?_
  refine lv_lushr (v := (Int64.toUInt64 ((((((a0 - (((Int64.toUInt64 a0 >>> ((Int32.toInt64 (1 : Int32)).toUInt64 &&& Int64.toUInt64 63)).toInt64) &&& (6148914691236517205 : Int64))) &&& (3689348814741910323 : Int64)) + (((Int64.toUInt64 (a0 - (((Int64.toUInt64 a0 >>> ((Int32.toInt64 (1 : Int32)).toUInt64 &&& Int64.toUInt64 63)).toInt64) &&& (6148914691236517205 : Int64))) >>> ((Int32.toInt64 (2 : Int32)).toUInt64 &&& Int64.toUInt64 63)).toInt64) &&& (3689348814741910323 : Int64))) + ((Int64.toUInt64 (((a0 - (((Int64.toUInt64 a0 >>> ((Int32.toInt64 (1 : Int32)).toUInt64 &&& Int64.toUInt64 63)).toInt64) &&& (6148914691236517205 : Int64))) &&& (3689348814741910323 : Int64)) + (((Int64.toUInt64 (a0 - (((Int64.toUInt64 a0 >>> ((Int32.toInt64 (1 : Int32)).toUInt64 &&& Int64.toUInt64 63)).toInt64) &&& (6148914691236517205 : Int64))) >>> ((Int32.toInt64 (2 : Int32)).toUInt64 &&& Int64.toUInt64 63)).toInt64) &&& (3689348814741910323 : Int64))) >>> ((Int32.toInt64 (4 : Int32)).toUInt64 &&& Int64.toUInt64 63)).toInt64)) &&& (1085102592571150095 : Int64)) + ((Int64.toUInt64 (((((a0 - (((Int64.toUInt64 a0 >>> ((Int32.toInt64 (1 : Int32)).toUInt64 &&& Int64.toUInt64 63)).toInt64) &&& (6148914691236517205 : Int64))) &&& (3689348814741910323 : Int64)) + (((Int64.toUInt64 (a0 - (((Int64.toUInt64 a0 >>> ((Int32.toInt64 (1 : Int32)).toUInt64 &&& Int64.toUInt64 63)).toInt64) &&& (6148914691236517205 : Int64))) >>> ((Int32.toInt64 (2 : Int32)).toUInt64 &&& Int64.toUInt64 63)).toInt64) &&& (3689348814741910323 : Int64))) + ((Int64.toUInt64 (((a0 - (((Int64.toUInt64 a0 >>> ((Int32.toInt64 (1 : Int32)).toUInt64 &&& Int64.toUInt64 63)).toInt64) &&& (6148914691236517205 : Int64))) &&& (3689348814741910323 : Int64)) + (((Int64.toUInt64 (a0 - (((Int64.toUInt64 a0 >>> ((Int32.toInt64 (1 : Int32)).toUInt64 &&& Int64.toUInt64 63)).toInt64) &&& (6148914691236517205 : Int64))) >>> ((Int32.toInt64 (2 : Int32)).toUInt64 &&& Int64.toUInt64 63)).toInt64) &&& (3689348814741910323 : Int64))) >>> ((Int32.toInt64 (4 : Int32)).toUInt64 &&& Int64.toUInt64 63)).toInt64)) &&& (1085102592571150095 : Int64)) >>> ((Int32.toInt64 (8 : Int32)).toUInt64 &&& Int64.toUInt64 63)).toInt64)) >>> ((Int32.toInt64 (16 : Int32)).toUInt64 &&& Int64.toUInt64 63)).toInt64) hx hb dJ13_bitCount_95d88_45 rfl ?_
  refine lv_ladd hx hb dJ13_bitCount_95d88_46 ?_
  refine lv_lstore_n (lv' := [(0, .long (((((((a0 - (((Int64.toUInt64 a0 >>> ((Int32.toInt64 (1 : Int32)).toUInt64 &&& Int64.toUInt64 63)).toInt64) &&& (6148914691236517205 : Int64))) &&& (3689348814741910323 : Int64)) + (((Int64.toUInt64 (a0 - (((Int64.toUInt64 a0 >>> ((Int32.toInt64 (1 : Int32)).toUInt64 &&& Int64.toUInt64 63)).toInt64) &&& (6148914691236517205 : Int64))) >>> ((Int32.toInt64 (2 : Int32)).toUInt64 &&& Int64.toUInt64 63)).toInt64) &&& (3689348814741910323 : Int64))) + ((Int64.toUInt64 (((a0 - (((Int64.toUInt64 a0 >>> ((Int32.toInt64 (1 : Int32)).toUInt64 &&& Int64.toUInt64 63)).toInt64) &&& (6148914691236517205 : Int64))) &&& (3689348814741910323 : Int64)) + (((Int64.toUInt64 (a0 - (((Int64.toUInt64 a0 >>> ((Int32.toInt64 (1 : Int32)).toUInt64 &&& Int64.toUInt64 63)).toInt64) &&& (6148914691236517205 : Int64))) >>> ((Int32.toInt64 (2 : Int32)).toUInt64 &&& Int64.toUInt64 63)).toInt64) &&& (3689348814741910323 : Int64))) >>> ((Int32.toInt64 (4 : Int32)).toUInt64 &&& Int64.toUInt64 63)).toInt64)) &&& (1085102592571150095 : Int64)) + ((Int64.toUInt64 (((((a0 - (((Int64.toUInt64 a0 >>> ((Int32.toInt64 (1 : Int32)).toUInt64 &&& Int64.toUInt64 63)).toInt64) &&& (6148914691236517205 : Int64))) &&& (3689348814741910323 : Int64)) + (((Int64.toUInt64 (a0 - (((Int64.toUInt64 a0 >>> ((Int32.toInt64 (1 : Int32)).toUInt64 &&& Int64.toUInt64 63)).toInt64) &&& (6148914691236517205 : Int64))) >>> ((Int32.toInt64 (2 : Int32)).toUInt64 &&& Int64.toUInt64 63)).toInt64) &&& (3689348814741910323 : Int64))) + ((Int64.toUInt64 (((a0 - (((Int64.toUInt64 a0 >>> ((Int32.toInt64 (1 : Int32)).toUInt64 &&& Int64.toUInt64 63)).toInt64) &&& (6148914691236517205 : Int64))) &&& (3689348814741910323 : Int64)) + (((Int64.toUInt64 (a0 - (((Int64.toUInt64 a0 >>> ((Int32.toInt64 (1 : Int32)).toUInt64 &&& Int64.toUInt64 63)).toInt64) &&& (6148914691236517205 : Int64))) >>> ((Int32.toInt64 (2 : Int32)).toUInt64 &&& Int64.toUInt64 63)).toInt64) &&& (3689348814741910323 : Int64))) >>> ((Int32.toInt64 (4 : Int32)).toUInt64 &&& Int64.toUInt64 63)).toInt64)) &&& (1085102592571150095 : Int64)) >>> ((Int32.toInt64 (8 : Int32)).toUInt64 &&& Int64.toUInt64 63)).toInt64)) + ((Int64.toUInt64 ((((((a0 - (((Int64.toUInt64 a0 >>> ((Int32.toInt64 (1 : Int32)).toUInt64 &&& Int64.toUInt64 63)).toInt64) &&& (6148914691236517205 : Int64))) &&& (3689348814741910323 : Int64)) + (((Int64.toUInt64 (a0 - (((Int64.toUInt64 a0 >>> ((Int32.toInt64 (1 : Int32)).toUInt64 &&& Int64.toUInt64 63)).toInt64) &&& (6148914691236517205 : Int64))) >>> ((Int32.toInt64 (2 : Int32)).toUInt64 &&& Int64.toUInt64 63)).toInt64) &&& (3689348814741910323 : Int64))) + ((Int64.toUInt64 (((a0 - (((Int64.toUInt64 a0 >>> ((Int32.toInt64 (1 : Int32)).toUInt64 &&& Int64.toUInt64 63)).toInt64) &&& (6148914691236517205 : Int64))) &&& (3689348814741910323 : Int64)) + (((Int64.toUInt64 (a0 - (((Int64.toUInt64 a0 >>> ((Int32.toInt64 (1 : Int32)).toUInt64 &&& Int64.toUInt64 63)).toInt64) &&& (6148914691236517205 : Int64))) >>> ((Int32.toInt64 (2 : Int32)).toUInt64 &&& Int64.toUInt64 63)).toInt64) &&& (3689348814741910323 : Int64))) >>> ((Int32.toInt64 (4 : Int32)).toUInt64 &&& Int64.toUInt64 63)).toInt64)) &&& (1085102592571150095 : Int64)) + ((Int64.toUInt64 (((((a0 - (((Int64.toUInt64 a0 >>> ((Int32.toInt64 (1 : Int32)).toUInt64 &&& Int64.toUInt64 63)).toInt64) &&& (6148914691236517205 : Int64))) &&& (3689348814741910323 : Int64)) + (((Int64.toUInt64 (a0 - (((Int64.toUInt64 a0 >>> ((Int32.toInt64 (1 : Int32)).toUInt64 &&& Int64.toUInt64 63)).toInt64) &&& (6148914691236517205 : Int64))) >>> ((Int32.toInt64 (2 : Int32)).toUInt64 &&& Int64.toUInt64 63)).toInt64) &&& (3689348814741910323 : Int64))) + ((Int64.toUInt64 (((a0 - (((Int64.toUInt64 a0 >>> ((Int32.toInt64 (1 : Int32)).toUInt64 &&& Int64.toUInt64 63)).toInt64) &&& (6148914691236517205 : Int64))) &&& (3689348814741910323 : Int64)) + (((Int64.toUInt64 (a0 - (((Int64.toUInt64 a0 >>> ((Int32.toInt64 (1 : Int32)).toUInt64 &&& Int64.toUInt64 63)).toInt64) &&& (6148914691236517205 : Int64))) >>> ((Int32.toInt64 (2 : Int32)).toUInt64 &&& Int64.toUInt64 63)).toInt64) &&& (3689348814741910323 : Int64))) >>> ((Int32.toInt64 (4 : Int32)).toUInt64 &&& Int64.toUInt64 63)).toInt64)) &&& (1085102592571150095 : Int64)) >>> ((Int32.toInt64 (8 : Int32)).toUInt64 &&& Int64.toUInt64 63)).toInt64)) >>> ((Int32.toInt64 (16 : Int32)).toUInt64 &&& Int64.toUInt64 63)).toInt64)))]) hx hb dJ13_bitCount_95d88_47 rfl hl (by decide) rfl (fun ls hl => ?_)
  refine lv_lload_n hx hb dJ13_bitCount_95d88_48 rfl (lv_at hl 0 rfl) ?_
  refine lv_lload_n hx hb dJ13_bitCount_95d88_49 rfl (lv_at hl 0 rfl) ?_
  refine lv_bipush (v := 32) hx hb dJ13_bitCount_95d88_50 (by decide) ?_
  refine lv_lushr (v := (Int64.toUInt64 (((((((a0 - (((Int64.toUInt64 a0 >>> ((Int32.toInt64 (1 : Int32)).toUInt64 &&& Int64.toUInt64 63)).toInt64) &&& (6148914691236517205 : Int64))) &&& (3689348814741910323 : Int64)) + (((Int64.toUInt64 (a0 - (((Int64.toUInt64 a0 >>> ((Int32.toInt64 (1 : Int32)).toUInt64 &&& Int64.toUInt64 63)).toInt64) &&& (6148914691236517205 : Int64))) >>> ((Int32.toInt64 (2 : Int32)).toUInt64 &&& Int64.toUInt64 63)).toInt64) &&& (3689348814741910323 : Int64))) + ((Int64.toUInt64 (((a0 - (((Int64.toUInt64 a0 >>> ((Int32.toInt64 (1 : Int32)).toUInt64 &&& Int64.toUInt64 63)).toInt64) &&& (6148914691236517205 : Int64))) &&& (3689348814741910323 : Int64)) + (((Int64.toUInt64 (a0 - (((Int64.toUInt64 a0 >>> ((Int32.toInt64 (1 : Int32)).toUInt64 &&& Int64.toUInt64 63)).toInt64) &&& (6148914691236517205 : Int64))) >>> ((Int32.toInt64 (2 : Int32)).toUInt64 &&& Int64.toUInt64 63)).toInt64) &&& (3689348814741910323 : Int64))) >>> ((Int32.toInt64 (4 : Int32)).toUInt64 &&& Int64.toUInt64 63)).toInt64)) &&& (1085102592571150095 : Int64)) + ((Int64.toUInt64 (((((a0 - (((Int64.toUInt64 a0 >>> ((Int32.toInt64 (1 : Int32)).toUInt64 &&& Int64.toUInt64 63)).toInt64) &&& (6148914691236517205 : Int64))) &&& (3689348814741910323 : Int64)) + (((Int64.toUInt64 (a0 - (((Int64.toUInt64 a0 >>> ((Int32.toInt64 (1 : Int32)).toUInt64 &&& Int64.toUInt64 63)).toInt64) &&& (6148914691236517205 : Int64))) >>> ((Int32.toInt64 (2 : Int32)).toUInt64 &&& Int64.toUInt64 63)).toInt64) &&& (3689348814741910323 : Int64))) + ((Int64.toUInt64 (((a0 - (((Int64.toUInt64 a0 >>> ((Int32.toInt64 (1 : Int32)).toUInt64 &&& Int64.toUInt64 63)).toInt64) &&& (6148914691236517205 : Int64))) &&& (3689348814741910323 : Int64)) + (((Int64.toUInt64 (a0 - (((Int64.toUInt64 a0 >>> ((Int32.toInt64 (1 : Int32)).toUInt64 &&& Int64.toUInt64 63)).toInt64) &&& (6148914691236517205 : Int64))) >>> ((Int32.toInt64 (2 : Int32)).toUInt64 &&& Int64.toUInt64 63)).toInt64) &&& (3689348814741910323 : Int64))) >>> ((Int32.toInt64 (4 : Int32)).toUInt64 &&& Int64.toUInt64 63)).toInt64)) &&& (1085102592571150095 : Int64)) >>> ((Int32.toInt64 (8 : Int32)).toUInt64 &&& Int64.toUInt64 63)).toInt64)) + ((Int64.toUInt64 ((((((a0 - (((Int64.toUInt64 a0 >>> ((Int32.toInt64 (1 : Int32)).toUInt64 &&& Int64.toUInt64 63)).toInt64) &&& (6148914691236517205 : Int64))) &&& (3689348814741910323 : Int64)) + (((Int64.toUInt64 (a0 - (((Int64.toUInt64 a0 >>> ((Int32.toInt64 (1 : Int32)).toUInt64 &&& Int64.toUInt64 63)).toInt64) &&& (6148914691236517205 : Int64))) >>> ((Int32.toInt64 (2 : Int32)).toUInt64 &&& Int64.toUInt64 63)).toInt64) &&& (3689348814741910323 : Int64))) + ((Int64.toUInt64 (((a0 - (((Int64.toUInt64 a0 >>> ((Int32.toInt64 (1 : Int32)).toUInt64 &&& Int64.toUInt64 63)).toInt64) &&& (6148914691236517205 : Int64))) &&& (3689348814741910323 : Int64)) + (((Int64.toUInt64 (a0 - (((Int64.toUInt64 a0 >>> ((Int32.toInt64 (1 : Int32)).toUInt64 &&& Int64.toUInt64 63)).toInt64) &&& (6148914691236517205 : Int64))) >>> ((Int32.toInt64 (2 : Int32)).toUInt64 &&& Int64.toUInt64 63)).toInt64) &&& (3689348814741910323 : Int64))) >>> ((Int32.toInt64 (4 : Int32)).toUInt64 &&& Int64.toUInt64 63)).toInt64)) &&& (1085102592571150095 : Int64)) + ((Int64.toUInt64 (((((a0 - (((Int64.toUInt64 a0 >>> ((Int32.toInt64 (1 : Int32)).toUInt64 &&& Int64.toUInt64 63)).toInt64) &&& (6148914691236517205 : Int64))) &&& (3689348814741910323 : Int64)) + (((Int64.toUInt64 (a0 - (((Int64.toUInt64 a0 >>> ((Int32.toInt64 (1 : Int32)).toUInt64 &&& Int64.toUInt64 63)).toInt64) &&& (6148914691236517205 : Int64))) >>> ((Int32.toInt64 (2 : Int32)).toUInt64 &&& Int64.toUInt64 63)).toInt64) &&& (3689348814741910323 : Int64))) + ((Int64.toUInt64 (((a0 - (((Int64.toUInt64 a0 >>> ((Int32.toInt64 (1 : Int32)).toUInt64 &&& Int64.toUInt64 63)).toInt64) &&& (6148914691236517205 : Int64))) &&& (3689348814741910323 : Int64)) + (((Int64.toUInt64 (a0 - (((Int64.toUInt64 a0 >>> ((Int32.toInt64 (1 : Int32)).toUInt64 &&& Int64.toUInt64 63)).toInt64) &&& (6148914691236517205 : Int64))) >>> ((Int32.toInt64 (2 : Int32)).toUInt64 &&& Int64.toUInt64 63)).toInt64) &&& (3689348814741910323 : Int64))) >>> ((Int32.toInt64 (4 : Int32)).toUInt64 &&& Int64.toUInt64 63)).toInt64)) &&& (1085102592571150095 : Int64)) >>> ((Int32.toInt64 (8 : Int32)).toUInt64 &&& Int64.toUInt64 63)).toInt64)) >>> ((Int32.toInt64 (16 : Int32)).toUInt64 &&& Int64.toUInt64 63)).toInt64)) >>> ((Int32.toInt64 (32 : Int32)).toUInt64 &&& Int64.toUInt64 63)).toInt64) hx hb dJ13_bitCount_95d88_52 rfl ?_
  refine lv_ladd hx hb dJ13_bitCount_95d88_53 ?_
  refine lv_lstore_n (lv' := [(0, .long ((((((((a0 - (((Int64.toUInt64 a0 >>> ((Int32.toInt64 (1 : Int32)).toUInt64 &&& Int64.toUInt64 63)).toInt64) &&& (6148914691236517205 : Int64))) &&& (3689348814741910323 : Int64)) + (((Int64.toUInt64 (a0 - (((Int64.toUInt64 a0 >>> ((Int32.toInt64 (1 : Int32)).toUInt64 &&& Int64.toUInt64 63)).toInt64) &&& (6148914691236517205 : Int64))) >>> ((Int32.toInt64 (2 : Int32)).toUInt64 &&& Int64.toUInt64 63)).toInt64) &&& (3689348814741910323 : Int64))) + ((Int64.toUInt64 (((a0 - (((Int64.toUInt64 a0 >>> ((Int32.toInt64 (1 : Int32)).toUInt64 &&& Int64.toUInt64 63)).toInt64) &&& (6148914691236517205 : Int64))) &&& (3689348814741910323 : Int64)) + (((Int64.toUInt64 (a0 - (((Int64.toUInt64 a0 >>> ((Int32.toInt64 (1 : Int32)).toUInt64 &&& Int64.toUInt64 63)).toInt64) &&& (6148914691236517205 : Int64))) >>> ((Int32.toInt64 (2 : Int32)).toUInt64 &&& Int64.toUInt64 63)).toInt64) &&& (3689348814741910323 : Int64))) >>> ((Int32.toInt64 (4 : Int32)).toUInt64 &&& Int64.toUInt64 63)).toInt64)) &&& (1085102592571150095 : Int64)) + ((Int64.toUInt64 (((((a0 - (((Int64.toUInt64 a0 >>> ((Int32.toInt64 (1 : Int32)).toUInt64 &&& Int64.toUInt64 63)).toInt64) &&& (6148914691236517205 : Int64))) &&& (3689348814741910323 : Int64)) + (((Int64.toUInt64 (a0 - (((Int64.toUInt64 a0 >>> ((Int32.toInt64 (1 : Int32)).toUInt64 &&& Int64.toUInt64 63)).toInt64) &&& (6148914691236517205 : Int64))) >>> ((Int32.toInt64 (2 : Int32)).toUInt64 &&& Int64.toUInt64 63)).toInt64) &&& (3689348814741910323 : Int64))) + ((Int64.toUInt64 (((a0 - (((Int64.toUInt64 a0 >>> ((Int32.toInt64 (1 : Int32)).toUInt64 &&& Int64.toUInt64 63)).toInt64) &&& (6148914691236517205 : Int64))) &&& (3689348814741910323 : Int64)) + (((Int64.toUInt64 (a0 - (((Int64.toUInt64 a0 >>> ((Int32.toInt64 (1 : Int32)).toUInt64 &&& Int64.toUInt64 63)).toInt64) &&& (6148914691236517205 : Int64))) >>> ((Int32.toInt64 (2 : Int32)).toUInt64 &&& Int64.toUInt64 63)).toInt64) &&& (3689348814741910323 : Int64))) >>> ((Int32.toInt64 (4 : Int32)).toUInt64 &&& Int64.toUInt64 63)).toInt64)) &&& (1085102592571150095 : Int64)) >>> ((Int32.toInt64 (8 : Int32)).toUInt64 &&& Int64.toUInt64 63)).toInt64)) + ((Int64.toUInt64 ((((((a0 - (((Int64.toUInt64 a0 >>> ((Int32.toInt64 (1 : Int32)).toUInt64 &&& Int64.toUInt64 63)).toInt64) &&& (6148914691236517205 : Int64))) &&& (3689348814741910323 : Int64)) + (((Int64.toUInt64 (a0 - (((Int64.toUInt64 a0 >>> ((Int32.toInt64 (1 : Int32)).toUInt64 &&& Int64.toUInt64 63)).toInt64) &&& (6148914691236517205 : Int64))) >>> ((Int32.toInt64 (2 : Int32)).toUInt64 &&& Int64.toUInt64 63)).toInt64) &&& (3689348814741910323 : Int64))) + ((Int64.toUInt64 (((a0 - (((Int64.toUInt64 a0 >>> ((Int32.toInt64 (1 : Int32)).toUInt64 &&& Int64.toUInt64 63)).toInt64) &&& (6148914691236517205 : Int64))) &&& (3689348814741910323 : Int64)) + (((Int64.toUInt64 (a0 - (((Int64.toUInt64 a0 >>> ((Int32.toInt64 (1 : Int32)).toUInt64 &&& Int64.toUInt64 63)).toInt64) &&& (6148914691236517205 : Int64))) >>> ((Int32.toInt64 (2 : Int32)).toUInt64 &&& Int64.toUInt64 63)).toInt64) &&& (3689348814741910323 : Int64))) >>> ((Int32.toInt64 (4 : Int32)).toUInt64 &&& Int64.toUInt64 63)).toInt64)) &&& (1085102592571150095 : Int64)) + ((Int64.toUInt64 (((((a0 - (((Int64.toUInt64 a0 >>> ((Int32.toInt64 (1 : Int32)).toUInt64 &&& Int64.toUInt64 63)).toInt64) &&& (6148914691236517205 : Int64))) &&& (3689348814741910323 : Int64)) + (((Int64.toUInt64 (a0 - (((Int64.toUInt64 a0 >>> ((Int32.toInt64 (1 : Int32)).toUInt64 &&& Int64.toUInt64 63)).toInt64) &&& (6148914691236517205 : Int64))) >>> ((Int32.toInt64 (2 : Int32)).toUInt64 &&& Int64.toUInt64 63)).toInt64) &&& (3689348814741910323 : Int64))) + ((Int64.toUInt64 (((a0 - (((Int64.toUInt64 a0 >>> ((Int32.toInt64 (1 : Int32)).toUInt64 &&& Int64.toUInt64 63)).toInt64) &&& (6148914691236517205 : Int64))) &&& (3689348814741910323 : Int64)) + (((Int64.toUInt64 (a0 - (((Int64.toUInt64 a0 >>> ((Int32.toInt64 (1 : Int32)).toUInt64 &&& Int64.toUInt64 63)).toInt64) &&& (6148914691236517205 : Int64))) >>> ((Int32.toInt64 (2 : Int32)).toUInt64 &&& Int64.toUInt64 63)).toInt64) &&& (3689348814741910323 : Int64))) >>> ((Int32.toInt64 (4 : Int32)).toUInt64 &&& Int64.toUInt64 63)).toInt64)) &&& (1085102592571150095 : Int64)) >>> ((Int32.toInt64 (8 : Int32)).toUInt64 &&& Int64.toUInt64 63)).toInt64)) >>> ((Int32.toInt64 (16 : Int32)).toUInt64 &&& Int64.toUInt64 63)).toInt64)) + ((Int64.toUInt64 (((((((a0 - (((Int64.toUInt64 a0 >>> ((Int32.toInt64 (1 : Int32)).toUInt64 &&& Int64.toUInt64 63)).toInt64) &&& (6148914691236517205 : Int64))) &&& (3689348814741910323 : Int64)) + (((Int64.toUInt64 (a0 - (((Int64.toUInt64 a0 >>> ((Int32.toInt64 (1 : Int32)).toUInt64 &&& Int64.toUInt64 63)).toInt64) &&& (6148914691236517205 : Int64))) >>> ((Int32.toInt64 (2 : Int32)).toUInt64 &&& Int64.toUInt64 63)).toInt64) &&& (3689348814741910323 : Int64))) + ((Int64.toUInt64 (((a0 - (((Int64.toUInt64 a0 >>> ((Int32.toInt64 (1 : Int32)).toUInt64 &&& Int64.toUInt64 63)).toInt64) &&& (6148914691236517205 : Int64))) &&& (3689348814741910323 : Int64)) + (((Int64.toUInt64 (a0 - (((Int64.toUInt64 a0 >>> ((Int32.toInt64 (1 : Int32)).toUInt64 &&& Int64.toUInt64 63)).toInt64) &&& (6148914691236517205 : Int64))) >>> ((Int32.toInt64 (2 : Int32)).toUInt64 &&& Int64.toUInt64 63)).toInt64) &&& (3689348814741910323 : Int64))) >>> ((Int32.toInt64 (4 : Int32)).toUInt64 &&& Int64.toUInt64 63)).toInt64)) &&& (1085102592571150095 : Int64)) + ((Int64.toUInt64 (((((a0 - (((Int64.toUInt64 a0 >>> ((Int32.toInt64 (1 : Int32)).toUInt64 &&& Int64.toUInt64 63)).toInt64) &&& (6148914691236517205 : Int64))) &&& (3689348814741910323 : Int64)) + (((Int64.toUInt64 (a0 - (((Int64.toUInt64 a0 >>> ((Int32.toInt64 (1 : Int32)).toUInt64 &&& Int64.toUInt64 63)).toInt64) &&& (6148914691236517205 : Int64))) >>> ((Int32.toInt64 (2 : Int32)).toUInt64 &&& Int64.toUInt64 63)).toInt64) &&& (3689348814741910323 : Int64))) + ((Int64.toUInt64 (((a0 - (((Int64.toUInt64 a0 >>> ((Int32.toInt64 (1 : Int32)).toUInt64 &&& Int64.toUInt64 63)).toInt64) &&& (6148914691236517205 : Int64))) &&& (3689348814741910323 : Int64)) + (((Int64.toUInt64 (a0 - (((Int64.toUInt64 a0 >>> ((Int32.toInt64 (1 : Int32)).toUInt64 &&& Int64.toUInt64 63)).toInt64) &&& (6148914691236517205 : Int64))) >>> ((Int32.toInt64 (2 : Int32)).toUInt64 &&& Int64.toUInt64 63)).toInt64) &&& (3689348814741910323 : Int64))) >>> ((Int32.toInt64 (4 : Int32)).toUInt64 &&& Int64.toUInt64 63)).toInt64)) &&& (1085102592571150095 : Int64)) >>> ((Int32.toInt64 (8 : Int32)).toUInt64 &&& Int64.toUInt64 63)).toInt64)) + ((Int64.toUInt64 ((((((a0 - (((Int64.toUInt64 a0 >>> ((Int32.toInt64 (1 : Int32)).toUInt64 &&& Int64.toUInt64 63)).toInt64) &&& (6148914691236517205 : Int64))) &&& (3689348814741910323 : Int64)) + (((Int64.toUInt64 (a0 - (((Int64.toUInt64 a0 >>> ((Int32.toInt64 (1 : Int32)).toUInt64 &&& Int64.toUInt64 63)).toInt64) &&& (6148914691236517205 : Int64))) >>> ((Int32.toInt64 (2 : Int32)).toUInt64 &&& Int64.toUInt64 63)).toInt64) &&& (3689348814741910323 : Int64))) + ((Int64.toUInt64 (((a0 - (((Int64.toUInt64 a0 >>> ((Int32.toInt64 (1 : Int32)).toUInt64 &&& Int64.toUInt64 63)).toInt64) &&& (6148914691236517205 : Int64))) &&& (3689348814741910323 : Int64)) + (((Int64.toUInt64 (a0 - (((Int64.toUInt64 a0 >>> ((Int32.toInt64 (1 : Int32)).toUInt64 &&& Int64.toUInt64 63)).toInt64) &&& (6148914691236517205 : Int64))) >>> ((Int32.toInt64 (2 : Int32)).toUInt64 &&& Int64.toUInt64 63)).toInt64) &&& (3689348814741910323 : Int64))) >>> ((Int32.toInt64 (4 : Int32)).toUInt64 &&& Int64.toUInt64 63)).toInt64)) &&& (1085102592571150095 : Int64)) + ((Int64.toUInt64 (((((a0 - (((Int64.toUInt64 a0 >>> ((Int32.toInt64 (1 : Int32)).toUInt64 &&& Int64.toUInt64 63)).toInt64) &&& (6148914691236517205 : Int64))) &&& (3689348814741910323 : Int64)) + (((Int64.toUInt64 (a0 - (((Int64.toUInt64 a0 >>> ((Int32.toInt64 (1 : Int32)).toUInt64 &&& Int64.toUInt64 63)).toInt64) &&& (6148914691236517205 : Int64))) >>> ((Int32.toInt64 (2 : Int32)).toUInt64 &&& Int64.toUInt64 63)).toInt64) &&& (3689348814741910323 : Int64))) + ((Int64.toUInt64 (((a0 - (((Int64.toUInt64 a0 >>> ((Int32.toInt64 (1 : Int32)).toUInt64 &&& Int64.toUInt64 63)).toInt64) &&& (6148914691236517205 : Int64))) &&& (3689348814741910323 : Int64)) + (((Int64.toUInt64 (a0 - (((Int64.toUInt64 a0 >>> ((Int32.toInt64 (1 : Int32)).toUInt64 &&& Int64.toUInt64 63)).toInt64) &&& (6148914691236517205 : Int64))) >>> ((Int32.toInt64 (2 : Int32)).toUInt64 &&& Int64.toUInt64 63)).toInt64) &&& (3689348814741910323 : Int64))) >>> ((Int32.toInt64 (4 : Int32)).toUInt64 &&& Int64.toUInt64 63)).toInt64)) &&& (1085102592571150095 : Int64)) >>> ((Int32.toInt64 (8 : Int32)).toUInt64 &&& Int64.toUInt64 63)).toInt64)) >>> ((Int32.toInt64 (16 : Int32)).toUInt64 &&& Int64.toUInt64 63)).toInt64)) >>> ((Int32.toInt64 (32 : Int32)).toUInt64 &&& Int64.toUInt64 63)).toInt64)))]) hx hb dJ13_bitCount_95d88_54 rfl hl (by decide) rfl (fun ls hl => ?_)
  refine lv_lload_n hx hb dJ13_bitCount_95d88_55 rfl (lv_at hl 0 rfl) ?_
  refine lv_l2i (v := (Int64.toInt32 ((((((((a0 - (((Int64.toUInt64 a0 >>> ((Int32.toInt64 (1 : Int32)).toUInt64 &&& Int64.toUInt64 63)).toInt64) &&& (6148914691236517205 : Int64))) &&& (3689348814741910323 : Int64)) + (((Int64.toUInt64 (a0 - (((Int64.toUInt64 a0 >>> ((Int32.toInt64 (1 : Int32)).toUInt64 &&& Int64.toUInt64 63)).toInt64) &&& (6148914691236517205 : Int64))) >>> ((Int32.toInt64 (2 : Int32)).toUInt64 &&& Int64.toUInt64 63)).toInt64) &&& (3689348814741910323 : Int64))) + ((Int64.toUInt64 (((a0 - (((Int64.toUInt64 a0 >>> ((Int32.toInt64 (1 : Int32)).toUInt64 &&& Int64.toUInt64 63)).toInt64) &&& (6148914691236517205 : Int64))) &&& (3689348814741910323 : Int64)) + (((Int64.toUInt64 (a0 - (((Int64.toUInt64 a0 >>> ((Int32.toInt64 (1 : Int32)).toUInt64 &&& Int64.toUInt64 63)).toInt64) &&& (6148914691236517205 : Int64))) >>> ((Int32.toInt64 (2 : Int32)).toUInt64 &&& Int64.toUInt64 63)).toInt64) &&& (3689348814741910323 : Int64))) >>> ((Int32.toInt64 (4 : Int32)).toUInt64 &&& Int64.toUInt64 63)).toInt64)) &&& (1085102592571150095 : Int64)) + ((Int64.toUInt64 (((((a0 - (((Int64.toUInt64 a0 >>> ((Int32.toInt64 (1 : Int32)).toUInt64 &&& Int64.toUInt64 63)).toInt64) &&& (6148914691236517205 : Int64))) &&& (3689348814741910323 : Int64)) + (((Int64.toUInt64 (a0 - (((Int64.toUInt64 a0 >>> ((Int32.toInt64 (1 : Int32)).toUInt64 &&& Int64.toUInt64 63)).toInt64) &&& (6148914691236517205 : Int64))) >>> ((Int32.toInt64 (2 : Int32)).toUInt64 &&& Int64.toUInt64 63)).toInt64) &&& (3689348814741910323 : Int64))) + ((Int64.toUInt64 (((a0 - (((Int64.toUInt64 a0 >>> ((Int32.toInt64 (1 : Int32)).toUInt64 &&& Int64.toUInt64 63)).toInt64) &&& (6148914691236517205 : Int64))) &&& (3689348814741910323 : Int64)) + (((Int64.toUInt64 (a0 - (((Int64.toUInt64 a0 >>> ((Int32.toInt64 (1 : Int32)).toUInt64 &&& Int64.toUInt64 63)).toInt64) &&& (6148914691236517205 : Int64))) >>> ((Int32.toInt64 (2 : Int32)).toUInt64 &&& Int64.toUInt64 63)).toInt64) &&& (3689348814741910323 : Int64))) >>> ((Int32.toInt64 (4 : Int32)).toUInt64 &&& Int64.toUInt64 63)).toInt64)) &&& (1085102592571150095 : Int64)) >>> ((Int32.toInt64 (8 : Int32)).toUInt64 &&& Int64.toUInt64 63)).toInt64)) + ((Int64.toUInt64 ((((((a0 - (((Int64.toUInt64 a0 >>> ((Int32.toInt64 (1 : Int32)).toUInt64 &&& Int64.toUInt64 63)).toInt64) &&& (6148914691236517205 : Int64))) &&& (3689348814741910323 : Int64)) + (((Int64.toUInt64 (a0 - (((Int64.toUInt64 a0 >>> ((Int32.toInt64 (1 : Int32)).toUInt64 &&& Int64.toUInt64 63)).toInt64) &&& (6148914691236517205 : Int64))) >>> ((Int32.toInt64 (2 : Int32)).toUInt64 &&& Int64.toUInt64 63)).toInt64) &&& (3689348814741910323 : Int64))) + ((Int64.toUInt64 (((a0 - (((Int64.toUInt64 a0 >>> ((Int32.toInt64 (1 : Int32)).toUInt64 &&& Int64.toUInt64 63)).toInt64) &&& (6148914691236517205 : Int64))) &&& (3689348814741910323 : Int64)) + (((Int64.toUInt64 (a0 - (((Int64.toUInt64 a0 >>> ((Int32.toInt64 (1 : Int32)).toUInt64 &&& Int64.toUInt64 63)).toInt64) &&& (6148914691236517205 : Int64))) >>> ((Int32.toInt64 (2 : Int32)).toUInt64 &&& Int64.toUInt64 63)).toInt64) &&& (3689348814741910323 : Int64))) >>> ((Int32.toInt64 (4 : Int32)).toUInt64 &&& Int64.toUInt64 63)).toInt64)) &&& (1085102592571150095 : Int64)) + ((Int64.toUInt64 (((((a0 - (((Int64.toUInt64 a0 >>> ((Int32.toInt64 (1 : Int32)).toUInt64 &&& Int64.toUInt64 63)).toInt64) &&& (6148914691236517205 : Int64))) &&& (3689348814741910323 : Int64)) + (((Int64.toUInt64 (a0 - (((Int64.toUInt64 a0 >>> ((Int32.toInt64 (1 : Int32)).toUInt64 &&& Int64.toUInt64 63)).toInt64) &&& (6148914691236517205 : Int64))) >>> ((Int32.toInt64 (2 : Int32)).toUInt64 &&& Int64.toUInt64 63)).toInt64) &&& (3689348814741910323 : Int64))) + ((Int64.toUInt64 (((a0 - (((Int64.toUInt64 a0 >>> ((Int32.toInt64 (1 : Int32)).toUInt64 &&& Int64.toUInt64 63)).toInt64) &&& (6148914691236517205 : Int64))) &&& (3689348814741910323 : Int64)) + (((Int64.toUInt64 (a0 - (((Int64.toUInt64 a0 >>> ((Int32.toInt64 (1 : Int32)).toUInt64 &&& Int64.toUInt64 63)).toInt64) &&& (6148914691236517205 : Int64))) >>> ((Int32.toInt64 (2 : Int32)).toUInt64 &&& Int64.toUInt64 63)).toInt64) &&& (3689348814741910323 : Int64))) >>> ((Int32.toInt64 (4 : Int32)).toUInt64 &&& Int64.toUInt64 63)).toInt64)) &&& (1085102592571150095 : Int64)) >>> ((Int32.toInt64 (8 : Int32)).toUInt64 &&& Int64.toUInt64 63)).toInt64)) >>> ((Int32.toInt64 (16 : Int32)).toUInt64 &&& Int64.toUInt64 63)).toInt64)) + ((Int64.toUInt64 (((((((a0 - (((Int64.toUInt64 a0 >>> ((Int32.toInt64 (1 : Int32)).toUInt64 &&& Int64.toUInt64 63)).toInt64) &&& (6148914691236517205 : Int64))) &&& (3689348814741910323 : Int64)) + (((Int64.toUInt64 (a0 - (((Int64.toUInt64 a0 >>> ((Int32.toInt64 (1 : Int32)).toUInt64 &&& Int64.toUInt64 63)).toInt64) &&& (6148914691236517205 : Int64))) >>> ((Int32.toInt64 (2 : Int32)).toUInt64 &&& Int64.toUInt64 63)).toInt64) &&& (3689348814741910323 : Int64))) + ((Int64.toUInt64 (((a0 - (((Int64.toUInt64 a0 >>> ((Int32.toInt64 (1 : Int32)).toUInt64 &&& Int64.toUInt64 63)).toInt64) &&& (6148914691236517205 : Int64))) &&& (3689348814741910323 : Int64)) + (((Int64.toUInt64 (a0 - (((Int64.toUInt64 a0 >>> ((Int32.toInt64 (1 : Int32)).toUInt64 &&& Int64.toUInt64 63)).toInt64) &&& (6148914691236517205 : Int64))) >>> ((Int32.toInt64 (2 : Int32)).toUInt64 &&& Int64.toUInt64 63)).toInt64) &&& (3689348814741910323 : Int64))) >>> ((Int32.toInt64 (4 : Int32)).toUInt64 &&& Int64.toUInt64 63)).toInt64)) &&& (1085102592571150095 : Int64)) + ((Int64.toUInt64 (((((a0 - (((Int64.toUInt64 a0 >>> ((Int32.toInt64 (1 : Int32)).toUInt64 &&& Int64.toUInt64 63)).toInt64) &&& (6148914691236517205 : Int64))) &&& (3689348814741910323 : Int64)) + (((Int64.toUInt64 (a0 - (((Int64.toUInt64 a0 >>> ((Int32.toInt64 (1 : Int32)).toUInt64 &&& Int64.toUInt64 63)).toInt64) &&& (6148914691236517205 : Int64))) >>> ((Int32.toInt64 (2 : Int32)).toUInt64 &&& Int64.toUInt64 63)).toInt64) &&& (3689348814741910323 : Int64))) + ((Int64.toUInt64 (((a0 - (((Int64.toUInt64 a0 >>> ((Int32.toInt64 (1 : Int32)).toUInt64 &&& Int64.toUInt64 63)).toInt64) &&& (6148914691236517205 : Int64))) &&& (3689348814741910323 : Int64)) + (((Int64.toUInt64 (a0 - (((Int64.toUInt64 a0 >>> ((Int32.toInt64 (1 : Int32)).toUInt64 &&& Int64.toUInt64 63)).toInt64) &&& (6148914691236517205 : Int64))) >>> ((Int32.toInt64 (2 : Int32)).toUInt64 &&& Int64.toUInt64 63)).toInt64) &&& (3689348814741910323 : Int64))) >>> ((Int32.toInt64 (4 : Int32)).toUInt64 &&& Int64.toUInt64 63)).toInt64)) &&& (1085102592571150095 : Int64)) >>> ((Int32.toInt64 (8 : Int32)).toUInt64 &&& Int64.toUInt64 63)).toInt64)) + ((Int64.toUInt64 ((((((a0 - (((Int64.toUInt64 a0 >>> ((Int32.toInt64 (1 : Int32)).toUInt64 &&& Int64.toUInt64 63)).toInt64) &&& (6148914691236517205 : Int64))) &&& (3689348814741910323 : Int64)) + (((Int64.toUInt64 (a0 - (((Int64.toUInt64 a0 >>> ((Int32.toInt64 (1 : Int32)).toUInt64 &&& Int64.toUInt64 63)).toInt64) &&& (6148914691236517205 : Int64))) >>> ((Int32.toInt64 (2 : Int32)).toUInt64 &&& Int64.toUInt64 63)).toInt64) &&& (3689348814741910323 : Int64))) + ((Int64.toUInt64 (((a0 - (((Int64.toUInt64 a0 >>> ((Int32.toInt64 (1 : Int32)).toUInt64 &&& Int64.toUInt64 63)).toInt64) &&& (6148914691236517205 : Int64))) &&& (3689348814741910323 : Int64)) + (((Int64.toUInt64 (a0 - (((Int64.toUInt64 a0 >>> ((Int32.toInt64 (1 : Int32)).toUInt64 &&& Int64.toUInt64 63)).toInt64) &&& (6148914691236517205 : Int64))) >>> ((Int32.toInt64 (2 : Int32)).toUInt64 &&& Int64.toUInt64 63)).toInt64) &&& (3689348814741910323 : Int64))) >>> ((Int32.toInt64 (4 : Int32)).toUInt64 &&& Int64.toUInt64 63)).toInt64)) &&& (1085102592571150095 : Int64)) + ((Int64.toUInt64 (((((a0 - (((Int64.toUInt64 a0 >>> ((Int32.toInt64 (1 : Int32)).toUInt64 &&& Int64.toUInt64 63)).toInt64) &&& (6148914691236517205 : Int64))) &&& (3689348814741910323 : Int64)) + (((Int64.toUInt64 (a0 - (((Int64.toUInt64 a0 >>> ((Int32.toInt64 (1 : Int32)).toUInt64 &&& Int64.toUInt64 63)).toInt64) &&& (6148914691236517205 : Int64))) >>> ((Int32.toInt64 (2 : Int32)).toUInt64 &&& Int64.toUInt64 63)).toInt64) &&& (3689348814741910323 : Int64))) + ((Int64.toUInt64 (((a0 - (((Int64.toUInt64 a0 >>> ((Int32.toInt64 (1 : Int32)).toUInt64 &&& Int64.toUInt64 63)).toInt64) &&& (6148914691236517205 : Int64))) &&& (3689348814741910323 : Int64)) + (((Int64.toUInt64 (a0 - (((Int64.toUInt64 a0 >>> ((Int32.toInt64 (1 : Int32)).toUInt64 &&& Int64.toUInt64 63)).toInt64) &&& (6148914691236517205 : Int64))) >>> ((Int32.toInt64 (2 : Int32)).toUInt64 &&& Int64.toUInt64 63)).toInt64) &&& (3689348814741910323 : Int64))) >>> ((Int32.toInt64 (4 : Int32)).toUInt64 &&& Int64.toUInt64 63)).toInt64)) &&& (1085102592571150095 : Int64)) >>> ((Int32.toInt64 (8 : Int32)).toUInt64 &&& Int64.toUInt64 63)).toInt64)) >>> ((Int32.toInt64 (16 : Int32)).toUInt64 &&& Int64.toUInt64 63)).toInt64)) >>> ((Int32.toInt64 (32 : Int32)).toUInt64 &&& Int64.toUInt64 63)).toInt64)))) hx hb dJ13_bitCount_95d88_56 rfl ?_
  refine lv_bipush (v := 127) hx hb dJ13_bitCount_95d88_57 (by decide) ?_
  refine lv_iand hx hb dJ13_bitCount_95d88_59 ?_
  exact mr_iret C0 hr hlk hM rfl (Option.some.inj hp) (Nat.le_refl _) (Nat.le_refl _) dJ13_bitCount_95d88_60
abbrev rm_X0_keepFirst : Room := { frames := 4, cells := 0, slots := 0, locals := 101 }
def pl_X0_keepFirst_19 (k1 : Mem → Option (Mem)) (k2 : Mem → Option (Mem)) (f1 : Nat) (f2 : Int32) : Nat → Int64 → Int32 → Mem → Option (Mem)
  | 0, _, _, _ => none
  | n + 1, y3, y5, M =>
    (if y5 ≤ 0 then
     (k2  M)
    else
     (Option.bind (isC 2 M f1) fun _ =>
     (Option.bind (p_X2_lastOf f1 y3 f2 M) fun v8 =>
     (if v8 = (-1 : Int32) then
      (k1  M)
     else
      (Option.bind (gR 2 16 M f1) fun v10 =>
      (Option.bind (aIs M v10 v8 (-1 : Int32)) fun M11 =>
      (Option.bind (gR 2 17 M11 f1) fun v12 =>
      (Option.bind (aIs M11 v12 v8 (0 : Int32)) fun M13 =>
      (pl_X0_keepFirst_19 k1 k2 f1 f2 n (y3 &&& (((1 : Int64) <<< (Int32.toInt64 v8 &&& 63)) ^^^ (-1 : Int64))) (y5 + (-1 : Int32)) M13)
      )
      )
      )
      )
     )
     )
     )
    )
set_option maxHeartbeats 4000000 in
set_option maxRecDepth 100000 in
theorem wl_X0_keepFirst_19 {G : gG} {p : Program} {l : Launch} {e : Env} {s : State} {m : MethodId} {args : Array Value} {below : List Frame} {meth : Method} {c : Code} {A : Nat → Prop} {M' : Mem} {k1 : Mem → Option (Mem)} {k2 : Mem → Option (Mem)} {f1 : Nat} {f2 : Int32} (C0 : cx G p s m args c cX0_keepFirst RX0 7 A) (hr : meth.sig.returnType = (none)) (hlk : meth.locks = false) (hG : GOK G) (hk1 : ∀ (M : Mem) (H : Heap) (locs : List Loc) (ls : Array Slot), mm G A s M H locs → lv_has ls 7 [] → k1 M = some M' → W p l e rm_X0_keepFirst s m args below meth c H locs 0 0 (MQ below (CQ G M' none A) args s 0 0 A) (F0 m 38 ls [])) (hk2 : ∀ (M : Mem) (H : Heap) (locs : List Loc) (ls : Array Slot), mm G A s M H locs → lv_has ls 7 [] → k2 M = some M' → W p l e rm_X0_keepFirst s m args below meth c H locs 0 0 (MQ below (CQ G M' none A) args s 0 0 A) (F0 m 72 ls [])) : ∀ (n : Nat) (y3 : Int64) (y5 : Int32) (M : Mem) (H : Heap) (locs : List Loc) (ls : Array Slot), mm G A s M H locs → lv_has ls 7 [(1, .ref f1), (2, .int f2), (3, .long y3), (5, .int y5)] → pl_X0_keepFirst_19 k1 k2 f1 f2 n y3 y5 M = some M' → W p l e rm_X0_keepFirst s m args below meth c H locs 0 0 (MQ below (CQ G M' none A) args s 0 0 A) (F0 m 19 ls []) := by
  have hx := C0.1
  have hb := C0.2.1
  have hown := C0.2.2.2.1
  have hts := C0.2.2.2.2.1
  intro n
  induction n with
  | zero => intro y3 y5 M H locs ls hM hl hp; rw [pl_X0_keepFirst_19] at hp; cases hp
  | succ n ih =>
    intro y3 y5 M H locs ls hM hl hp
    rw [pl_X0_keepFirst_19] at hp
    refine lv_iload hx hb dX0_keepFirst_19 (lv_at hl 3 rfl) ?_
    refine lv_if_le (tgt := 72) hx hb dX0_keepFirst_21 (by decide) (fun c6 => ?_) (fun c6 => ?_)
    · replace hp := oT c6 hp
      exact hk2  _ _ _ _ hM (lv_sub hl [] rfl) hp
    · replace hp := oF c6 hp
      refine lv_aload_n hx hb dX0_keepFirst_24 rfl (lv_at hl 0 rfl) ?_
      refine lv_lload_n hx hb dX0_keepFirst_25 rfl (lv_at hl 2 rfl) ?_
      refine lv_iload_n hx hb dX0_keepFirst_26 rfl (lv_at hl 1 rfl) ?_
      obtain ⟨_, h7, hp⟩ := ob hp
      obtain ⟨v8, hv8, hp⟩ := ob hp
      refine mr_V1 (As := [.long y3, .int f2]) (rest := []) C0 cbX2 hM h7 rfl (w_X2_lastOf hG hv8) tw_577 tw_578 tw_579 tw_17 tw_580 yk_X2_lastOf (by decide) rfl hl.1 (Nat.le_of_ble_eq_true rfl) dX0_keepFirst_27 rfl (fun H locs hM => ?_)
      refine lv_istore (lv' := [(6, .int v8), (1, .ref f1), (2, .int f2), (3, .long y3), (5, .int y5)]) hx hb dX0_keepFirst_30 hl (by decide) rfl (fun ls hl => ?_)
      refine lv_iload hx hb dX0_keepFirst_32 (lv_at hl 0 rfl) ?_
      refine lv_iconst (v := -1) hx hb dX0_keepFirst_34 (by decide) ?_
      refine lv_icmp_ne (tgt := 39) hx hb dX0_keepFirst_35 (by decide) (fun c9 => ?_) (fun c9 => ?_)
      · replace hp := oF c9 hp
        refine lv_lload_n hx hb dX0_keepFirst_39 rfl (lv_at hl 3 rfl) ?_
        refine lv_lconst (v := 1) hx hb dX0_keepFirst_40 (by decide) ?_
        refine lv_iload hx hb dX0_keepFirst_41 (lv_at hl 0 rfl) ?_
        refine lv_lshl (v := ((1 : Int64) <<< (Int32.toInt64 v8 &&& 63))) hx hb dX0_keepFirst_43 rfl ?_
        refine lv_ldc2 (v := -1) hx hb hown (hts _ tw_599) dX0_keepFirst_44 ?_
        refine lv_lxor hx hb dX0_keepFirst_47 ?_
        refine lv_land hx hb dX0_keepFirst_48 ?_
        refine lv_lstore_n (lv' := [(3, .long (y3 &&& (((1 : Int64) <<< (Int32.toInt64 v8 &&& 63)) ^^^ (-1 : Int64)))), (6, .int v8), (1, .ref f1), (2, .int f2), (5, .int y5)]) hx hb dX0_keepFirst_49 rfl hl (by decide) rfl (fun ls hl => ?_)
        refine lv_aload_n hx hb dX0_keepFirst_50 rfl (lv_at hl 2 rfl) ?_
        obtain ⟨v10, hv10, hp⟩ := ob hp
        refine mr_getR C0 cbX2 hM 16 (by decide) tw_172 hv10 dX0_keepFirst_51 ?_
        refine lv_iload hx hb dX0_keepFirst_54 (lv_at hl 1 rfl) ?_
        refine lv_iconst (v := -1) hx hb dX0_keepFirst_56 (by decide) ?_
        obtain ⟨M11, hM11, hp⟩ := ob hp
        refine mr_iast C0 hM hM11 dX0_keepFirst_57 (fun H locs hM => ?_)
        refine lv_aload_n hx hb dX0_keepFirst_58 rfl (lv_at hl 2 rfl) ?_
        obtain ⟨v12, hv12, hp⟩ := ob hp
        refine mr_getR C0 cbX2 hM 17 (by decide) tw_175 hv12 dX0_keepFirst_59 ?_
        refine lv_iload hx hb dX0_keepFirst_62 (lv_at hl 1 rfl) ?_
        refine lv_iconst (v := 0) hx hb dX0_keepFirst_64 (by decide) ?_
        obtain ⟨M13, hM13, hp⟩ := ob hp
        refine mr_iast C0 hM hM13 dX0_keepFirst_65 (fun H locs hM => ?_)
        refine lv_iinc (v := (y5 + (-1 : Int32))) (lv' := [(5, .int (y5 + (-1 : Int32))), (3, .long (y3 &&& (((1 : Int64) <<< (Int32.toInt64 v8 &&& 63)) ^^^ (-1 : Int64)))), (6, .int v8), (1, .ref f1), (2, .int f2)]) hx hb dX0_keepFirst_66 hl (k := 4) rfl rfl (by decide) rfl (fun ls hl => ?_)
        refine lv_goto (tgt := 19) hx hb dX0_keepFirst_69 (by decide) ?_
        exact ih _ _ _ _ _ _ hM (lv_sub hl [3, 4, 1, 0] rfl) hp
      · replace hp := oT c9 hp
        exact hk1  _ _ _ _ hM (lv_sub hl [] rfl) hp
def p_X0_keepFirst (a0 : Nat) (a1 : Nat) (a2 : Int32) (M : Mem) : Option (Mem) :=
  (Option.bind (isC 2 M a1) fun _ =>
  (Option.bind (p_X2_holdersOf a1 a2 M) fun v2 =>
  (Option.bind (p_J13_bitCount_95d88 v2 M) fun v3 =>
  (Option.bind (gR 2 18 M a1) fun v4 =>
  (Option.bind (aI 0 M v4 a2) fun v5 =>
  (pl_X0_keepFirst_19
   (fun  (M14 : Mem) =>
    some M14
   )
   (fun  (M15 : Mem) =>
    some M15
   )
   a1 a2 FU v2 (v3 - v5) M)
  )
  )
  )
  )
  )
theorem yk_X0_keepFirst : yok yX0_keepFirst 2 := by decide +kernel
set_option maxHeartbeats 4000000 in
set_option maxRecDepth 100000 in
theorem w_X0_keepFirst {G : gG} (hG : GOK G) {l : Launch} {a0 : Nat} {a1 : Nat} {a2 : Int32} {M : Mem} {M' : Mem} (hp : p_X0_keepFirst a0 a1 a2 M = some M') : CT G l yX0_keepFirst (wT yX0_keepFirst cX0_keepFirst 7 (none)) rm_X0_keepFirst [.ref a0, .ref a1, .int a2] M none M' 0 0 := by
  refine CT_of (own := RX0) (maxL := 7) (ret := (none)) hG (by decide) rfl (Nat.le_of_ble_eq_true rfl) (fun p e s m below meth c A C0 hr hlk hM ls hl => ?_)
  have hl : lv_has ls 7 [(0, .ref a0), (1, .ref a1), (2, .int a2)] := hl
  generalize ([.ref a0, .ref a1, .int a2] : List Value).toArray = args at C0 ⊢
  skip
  have hx := C0.1
  have hb := C0.2.1
  have hown := C0.2.2.2.1
  have hts := C0.2.2.2.2.1
  unfold p_X0_keepFirst at hp
  refine lv_aload_n hx hb dX0_keepFirst_0 rfl (lv_at hl 1 rfl) ?_
  refine lv_iload_n hx hb dX0_keepFirst_1 rfl (lv_at hl 2 rfl) ?_
  obtain ⟨_, h1, hp⟩ := ob hp
  obtain ⟨v2, hv2, hp⟩ := ob hp
  refine mr_V1 (As := [.int a2]) (rest := []) C0 cbX2 hM h1 rfl (w_X2_holdersOf hG hv2) tw_567 tw_568 tw_569 tw_17 tw_570 yk_X2_holdersOf (by decide) rfl hl.1 (Nat.le_of_ble_eq_true rfl) dX0_keepFirst_2 rfl (fun H locs hM => ?_)
  refine lv_lstore_n (lv' := [(3, .long v2), (0, .ref a0), (1, .ref a1), (2, .int a2)]) hx hb dX0_keepFirst_5 rfl hl (by decide) rfl (fun ls hl => ?_)
  refine lv_lload_n hx hb dX0_keepFirst_6 rfl (lv_at hl 0 rfl) ?_
  obtain ⟨v3, hv3, hp⟩ := ob hp
  refine mr_S1 (As := [.long v2]) (rest := []) C0 hM (w_J13_bitCount_95d88 hG hv3) tw_571 tw_572 tw_39 tw_573 yk_J13_bitCount_95d88 (by decide) rfl hl.1 (Nat.le_of_ble_eq_true rfl) dX0_keepFirst_7 rfl (fun H locs hM => ?_)
  refine lv_aload_n hx hb dX0_keepFirst_10 rfl (lv_at hl 2 rfl) ?_
  obtain ⟨v4, hv4, hp⟩ := ob hp
  refine mr_getR C0 cbX2 hM 18 (by decide) tw_177 hv4 dX0_keepFirst_11 ?_
  refine lv_iload_n hx hb dX0_keepFirst_14 rfl (lv_at hl 3 rfl) ?_
  obtain ⟨v5, hv5, hp⟩ := ob hp
  refine mr_iald C0 hM hv5 dX0_keepFirst_15 ?_
  refine lv_isub hx hb dX0_keepFirst_16 ?_
  refine lv_istore (lv' := [(5, .int (v3 - v5)), (3, .long v2), (0, .ref a0), (1, .ref a1), (2, .int a2)]) hx hb dX0_keepFirst_17 hl (by decide) rfl (fun ls hl => ?_)
  refine wl_X0_keepFirst_19 C0 hr hlk hG (fun M14 H locs ls hM hl hp => ?_) (fun M15 H locs ls hM hl hp => ?_) FU _ _ _ _ _ _ hM (lv_sub hl [3, 4, 1, 0] rfl) hp
  · exact mr_vret C0 hr hlk hM (Option.some.inj hp) (Nat.le_refl _) (Nat.le_refl _) dX0_keepFirst_38
  · exact mr_vret C0 hr hlk hM (Option.some.inj hp) (Nat.le_refl _) (Nat.le_refl _) dX0_keepFirst_72
abbrev rm_X0_tryNext : Room := { frames := 1, cells := 0, slots := 0, locals := 22 }
def pl_X0_tryNext_5 (k1 : Int32 → Mem → Option (Int32 × Mem)) (f0 : Nat) (f1 : Nat) (f2 : Int32) : Nat → Int32 → Int32 → Mem → Option (Int32 × Mem)
  | 0, _, _, _ => none
  | n + 1, y3, y4, M =>
    (Option.bind (gI 2 1 M f1) fun v1 =>
    (if v1 ≤ y4 then
     (k1 y3 M)
    else
     (Option.bind (gR 2 16 M f1) fun v3 =>
     (Option.bind (aI 0 M v3 y4) fun v4 =>
     (if v4 = (-1 : Int32) then
      (Option.bind (gL 2 9 M f1) fun v6 =>
      (Option.bind (p_X6_isIn v6 y4 M) fun v7 =>
      (if v7 = 0 then
       (Option.bind (gR 2 15 M f1) fun v9 =>
       (Option.bind (aI 0 M v9 y4) fun v10 =>
       (Option.bind (gR 0 0 M f0) fun v11 =>
       (Option.bind (aI 0 M v11 y4) fun v12 =>
       (Option.bind (p_X6_rowEntry v10 v12 M) fun v13 =>
       (if v13 = (-1 : Int32) then
        (pl_X0_tryNext_5 k1 f0 f1 f2 n y3 (y4 + (1 : Int32)) M)
       else
        (Option.bind (gR 0 0 M f0) fun v15 =>
        (Option.bind (aI 0 M v15 y4) fun v16 =>
        (Option.bind (aIs M v15 y4 (v16 + (1 : Int32))) fun M17 =>
        (Option.bind (gR 2 16 M17 f1) fun v18 =>
        (Option.bind (aIs M17 v18 y4 v13) fun M19 =>
        (Option.bind (gR 2 17 M19 f1) fun v20 =>
        (Option.bind (aIs M19 v20 y4 f2) fun M21 =>
        (pl_X0_tryNext_5 k1 f0 f1 f2 n (1 : Int32) (y4 + (1 : Int32)) M21)
        )
        )
        )
        )
        )
        )
        )
       )
       )
       )
       )
       )
       )
      else
       (pl_X0_tryNext_5 k1 f0 f1 f2 n y3 (y4 + (1 : Int32)) M)
      )
      )
      )
     else
      (pl_X0_tryNext_5 k1 f0 f1 f2 n y3 (y4 + (1 : Int32)) M)
     )
     )
     )
    )
    )
set_option maxHeartbeats 4000000 in
set_option maxRecDepth 100000 in
theorem wl_X0_tryNext_5 {G : gG} {p : Program} {l : Launch} {e : Env} {s : State} {m : MethodId} {args : Array Value} {below : List Frame} {meth : Method} {c : Code} {A : Nat → Prop} {r : Int32} {M' : Mem} {k1 : Int32 → Mem → Option (Int32 × Mem)} {f0 : Nat} {f1 : Nat} {f2 : Int32} (C0 : cx G p s m args c cX0_tryNext RX0 6 A) (hr : meth.sig.returnType = (some FieldType.boolean)) (hlk : meth.locks = false) (hG : GOK G) (hk1 : ∀ (z3 : Int32) (M : Mem) (H : Heap) (locs : List Loc) (ls : Array Slot), mm G A s M H locs → lv_has ls 6 [(3, .int z3)] → k1 z3 M = some (r, M') → W p l e rm_X0_tryNext s m args below meth c H locs 0 0 (MQ below (CQ G M' (some (.int r)) A) args s 0 0 A) (F0 m 98 ls [])) : ∀ (n : Nat) (y3 : Int32) (y4 : Int32) (M : Mem) (H : Heap) (locs : List Loc) (ls : Array Slot), mm G A s M H locs → lv_has ls 6 [(0, .ref f0), (1, .ref f1), (2, .int f2), (3, .int y3), (4, .int y4)] → pl_X0_tryNext_5 k1 f0 f1 f2 n y3 y4 M = some (r, M') → W p l e rm_X0_tryNext s m args below meth c H locs 0 0 (MQ below (CQ G M' (some (.int r)) A) args s 0 0 A) (F0 m 5 ls []) := by
  have hx := C0.1
  have hb := C0.2.1
  have hown := C0.2.2.2.1
  have hts := C0.2.2.2.2.1
  intro n
  induction n with
  | zero => intro y3 y4 M H locs ls hM hl hp; rw [pl_X0_tryNext_5] at hp; cases hp
  | succ n ih =>
    intro y3 y4 M H locs ls hM hl hp
    rw [pl_X0_tryNext_5] at hp
    refine lv_iload hx hb dX0_tryNext_5 (lv_at hl 4 rfl) ?_
    refine lv_aload_n hx hb dX0_tryNext_7 rfl (lv_at hl 1 rfl) ?_
    obtain ⟨v1, hv1, hp⟩ := ob hp
    refine mr_getI C0 cbX2 hM 1 (by decide) tw_136 hv1 dX0_tryNext_8 ?_
    refine lv_icmp_ge (tgt := 98) hx hb dX0_tryNext_11 (by decide) (fun c2 => ?_) (fun c2 => ?_)
    · replace hp := oT c2 hp
      exact hk1 _ _ _ _ _ hM (lv_sub hl [3] rfl) hp
    · replace hp := oF c2 hp
      refine lv_aload_n hx hb dX0_tryNext_14 rfl (lv_at hl 1 rfl) ?_
      obtain ⟨v3, hv3, hp⟩ := ob hp
      refine mr_getR C0 cbX2 hM 16 (by decide) tw_172 hv3 dX0_tryNext_15 ?_
      refine lv_iload hx hb dX0_tryNext_18 (lv_at hl 4 rfl) ?_
      obtain ⟨v4, hv4, hp⟩ := ob hp
      refine mr_iald C0 hM hv4 dX0_tryNext_20 ?_
      refine lv_iconst (v := -1) hx hb dX0_tryNext_21 (by decide) ?_
      refine lv_icmp_ne (tgt := 92) hx hb dX0_tryNext_22 (by decide) (fun c5 => ?_) (fun c5 => ?_)
      · replace hp := oF c5 hp
        refine lv_iinc (v := (y4 + (1 : Int32))) (lv' := [(4, .int (y4 + (1 : Int32))), (0, .ref f0), (1, .ref f1), (2, .int f2), (3, .int y3)]) hx hb dX0_tryNext_92 hl (k := 4) rfl rfl (by decide) rfl (fun ls hl => ?_)
        refine lv_goto (tgt := 5) hx hb dX0_tryNext_95 (by decide) ?_
        exact ih _ _ _ _ _ _ hM (lv_sub hl [1, 2, 3, 4, 0] rfl) hp
      · replace hp := oT c5 hp
        refine lv_aload_n hx hb dX0_tryNext_25 rfl (lv_at hl 1 rfl) ?_
        obtain ⟨v6, hv6, hp⟩ := ob hp
        refine mr_getL C0 cbX2 hM 9 (by decide) tw_156 hv6 dX0_tryNext_26 ?_
        refine lv_iload hx hb dX0_tryNext_29 (lv_at hl 4 rfl) ?_
        obtain ⟨v7, hv7, hp⟩ := ob hp
        refine mr_N1 (As := [.long v6, .int y4]) (rest := []) C0 hM (w_X6_isIn hG hv7) tw_557 tw_558 tw_15 tw_559 yk_X6_isIn (by decide) rfl hl.1 (Nat.le_of_ble_eq_true rfl) dX0_tryNext_31 rfl (fun H locs hM => ?_)
        refine lv_if_ne (tgt := 92) hx hb dX0_tryNext_34 (by decide) (fun c8 => ?_) (fun c8 => ?_)
        · replace hp := oF c8 hp
          refine lv_iinc (v := (y4 + (1 : Int32))) (lv' := [(4, .int (y4 + (1 : Int32))), (0, .ref f0), (1, .ref f1), (2, .int f2), (3, .int y3)]) hx hb dX0_tryNext_92 hl (k := 4) rfl rfl (by decide) rfl (fun ls hl => ?_)
          refine lv_goto (tgt := 5) hx hb dX0_tryNext_95 (by decide) ?_
          exact ih _ _ _ _ _ _ hM (lv_sub hl [1, 2, 3, 4, 0] rfl) hp
        · replace hp := oT c8 hp
          refine lv_aload_n hx hb dX0_tryNext_37 rfl (lv_at hl 1 rfl) ?_
          obtain ⟨v9, hv9, hp⟩ := ob hp
          refine mr_getR C0 cbX2 hM 15 (by decide) tw_169 hv9 dX0_tryNext_38 ?_
          refine lv_iload hx hb dX0_tryNext_41 (lv_at hl 4 rfl) ?_
          obtain ⟨v10, hv10, hp⟩ := ob hp
          refine mr_iald C0 hM hv10 dX0_tryNext_43 ?_
          refine lv_aload_n hx hb dX0_tryNext_44 rfl (lv_at hl 0 rfl) ?_
          obtain ⟨v11, hv11, hp⟩ := ob hp
          refine mr_getR C0 cbX0 hM 0 (by decide) tw_269 hv11 dX0_tryNext_45 ?_
          refine lv_iload hx hb dX0_tryNext_48 (lv_at hl 4 rfl) ?_
          obtain ⟨v12, hv12, hp⟩ := ob hp
          refine mr_iald C0 hM hv12 dX0_tryNext_50 ?_
          obtain ⟨v13, hv13, hp⟩ := ob hp
          refine mr_N1 (As := [.int v10, .int v12]) (rest := []) C0 hM (w_X6_rowEntry hG hv13) tw_560 tw_561 tw_15 tw_562 yk_X6_rowEntry (by decide) rfl hl.1 (Nat.le_of_ble_eq_true rfl) dX0_tryNext_51 rfl (fun H locs hM => ?_)
          refine lv_istore (lv' := [(5, .int v13), (0, .ref f0), (1, .ref f1), (2, .int f2), (3, .int y3), (4, .int y4)]) hx hb dX0_tryNext_54 hl (by decide) rfl (fun ls hl => ?_)
          refine lv_iload hx hb dX0_tryNext_56 (lv_at hl 0 rfl) ?_
          refine lv_iconst (v := -1) hx hb dX0_tryNext_58 (by decide) ?_
          refine lv_icmp_eq (tgt := 92) hx hb dX0_tryNext_59 (by decide) (fun c14 => ?_) (fun c14 => ?_)
          · replace hp := oT c14 hp
            refine lv_iinc (v := (y4 + (1 : Int32))) (lv' := [(4, .int (y4 + (1 : Int32))), (5, .int v13), (0, .ref f0), (1, .ref f1), (2, .int f2), (3, .int y3)]) hx hb dX0_tryNext_92 hl (k := 5) rfl rfl (by decide) rfl (fun ls hl => ?_)
            refine lv_goto (tgt := 5) hx hb dX0_tryNext_95 (by decide) ?_
            exact ih _ _ _ _ _ _ hM (lv_sub hl [2, 3, 4, 5, 0] rfl) hp
          · replace hp := oF c14 hp
            refine lv_aload_n hx hb dX0_tryNext_62 rfl (lv_at hl 1 rfl) ?_
            obtain ⟨v15, hv15, hp⟩ := ob hp
            refine mr_getR C0 cbX0 hM 0 (by decide) tw_269 hv15 dX0_tryNext_63 ?_
            refine lv_iload hx hb dX0_tryNext_66 (lv_at hl 5 rfl) ?_
            refine lv_dup2_11 hx hb dX0_tryNext_68 rfl rfl ?_
            obtain ⟨v16, hv16, hp⟩ := ob hp
            refine mr_iald C0 hM hv16 dX0_tryNext_69 ?_
            refine lv_iconst (v := 1) hx hb dX0_tryNext_70 (by decide) ?_
            refine lv_iadd hx hb dX0_tryNext_71 ?_
            obtain ⟨M17, hM17, hp⟩ := ob hp
            refine mr_iast C0 hM hM17 dX0_tryNext_72 (fun H locs hM => ?_)
            refine lv_aload_n hx hb dX0_tryNext_73 rfl (lv_at hl 2 rfl) ?_
            obtain ⟨v18, hv18, hp⟩ := ob hp
            refine mr_getR C0 cbX2 hM 16 (by decide) tw_172 hv18 dX0_tryNext_74 ?_
            refine lv_iload hx hb dX0_tryNext_77 (lv_at hl 5 rfl) ?_
            refine lv_iload hx hb dX0_tryNext_79 (lv_at hl 0 rfl) ?_
            obtain ⟨M19, hM19, hp⟩ := ob hp
            refine mr_iast C0 hM hM19 dX0_tryNext_81 (fun H locs hM => ?_)
            refine lv_aload_n hx hb dX0_tryNext_82 rfl (lv_at hl 2 rfl) ?_
            obtain ⟨v20, hv20, hp⟩ := ob hp
            refine mr_getR C0 cbX2 hM 17 (by decide) tw_175 hv20 dX0_tryNext_83 ?_
            refine lv_iload hx hb dX0_tryNext_86 (lv_at hl 5 rfl) ?_
            refine lv_iload_n hx hb dX0_tryNext_88 rfl (lv_at hl 3 rfl) ?_
            obtain ⟨M21, hM21, hp⟩ := ob hp
            refine mr_iast C0 hM hM21 dX0_tryNext_89 (fun H locs hM => ?_)
            refine lv_iconst (v := 1) hx hb dX0_tryNext_90 (by decide) ?_
            refine lv_istore_n (lv' := [(3, .int (1 : Int32)), (5, .int v13), (0, .ref f0), (1, .ref f1), (2, .int f2), (4, .int y4)]) hx hb dX0_tryNext_91 rfl hl (by decide) rfl (fun ls hl => ?_)
            refine lv_iinc (v := (y4 + (1 : Int32))) (lv' := [(4, .int (y4 + (1 : Int32))), (3, .int (1 : Int32)), (5, .int v13), (0, .ref f0), (1, .ref f1), (2, .int f2)]) hx hb dX0_tryNext_92 hl (k := 5) rfl rfl (by decide) rfl (fun ls hl => ?_)
            refine lv_goto (tgt := 5) hx hb dX0_tryNext_95 (by decide) ?_
            exact ih _ _ _ _ _ _ hM (lv_sub hl [3, 4, 5, 1, 0] rfl) hp
def p_X0_tryNext (a0 : Nat) (a1 : Nat) (a2 : Int32) (M : Mem) : Option (Int32 × Mem) :=
  (pl_X0_tryNext_5
   (fun (z22 : Int32) (M23 : Mem) =>
    (if z22 = 0 ∨ z22 = 1 then some (z22, M23) else none)
   )
   a0 a1 a2 FU (0 : Int32) (0 : Int32) M)
theorem yk_X0_tryNext : yok yX0_tryNext 2 := by decide +kernel
set_option maxHeartbeats 4000000 in
set_option maxRecDepth 100000 in
theorem w_X0_tryNext {G : gG} (hG : GOK G) {l : Launch} {a0 : Nat} {a1 : Nat} {a2 : Int32} {M : Mem} {r : Int32} {M' : Mem} (hp : p_X0_tryNext a0 a1 a2 M = some (r, M')) : CT G l yX0_tryNext (wT yX0_tryNext cX0_tryNext 6 (some FieldType.boolean)) rm_X0_tryNext [.ref a0, .ref a1, .int a2] M (some (.int r)) M' 0 0 := by
  refine CT_of (own := RX0) (maxL := 6) (ret := (some FieldType.boolean)) hG (by decide) rfl (Nat.le_of_ble_eq_true rfl) (fun p e s m below meth c A C0 hr hlk hM ls hl => ?_)
  have hl : lv_has ls 6 [(0, .ref a0), (1, .ref a1), (2, .int a2)] := hl
  generalize ([.ref a0, .ref a1, .int a2] : List Value).toArray = args at C0 ⊢
  skip
  have hx := C0.1
  have hb := C0.2.1
  have hown := C0.2.2.2.1
  have hts := C0.2.2.2.2.1
  unfold p_X0_tryNext at hp
  refine lv_iconst (v := 0) hx hb dX0_tryNext_0 (by decide) ?_
  refine lv_istore_n (lv' := [(3, .int (0 : Int32)), (0, .ref a0), (1, .ref a1), (2, .int a2)]) hx hb dX0_tryNext_1 rfl hl (by decide) rfl (fun ls hl => ?_)
  refine lv_iconst (v := 0) hx hb dX0_tryNext_2 (by decide) ?_
  refine lv_istore (lv' := [(4, .int (0 : Int32)), (3, .int (0 : Int32)), (0, .ref a0), (1, .ref a1), (2, .int a2)]) hx hb dX0_tryNext_3 hl (by decide) rfl (fun ls hl => ?_)
  refine wl_X0_tryNext_5 C0 hr hlk hG (fun z22 M23 H locs ls hM hl hp => ?_) FU _ _ _ _ _ _ hM (lv_sub hl [2, 3, 4, 1, 0] rfl) hp
  refine lv_iload_n hx hb dX0_tryNext_98 rfl (lv_at hl 0 rfl) ?_
  obtain ⟨hz, hp⟩ := oG hp
  exact mr_zret C0 hr hlk hM (Prod.mk.inj (Option.some.inj hp)).2 hz (Prod.mk.inj (Option.some.inj hp)).1 (Nat.le_refl _) (Nat.le_refl _) dX0_tryNext_99
abbrev rm_J7_fill_53178 : Room := { frames := 0, cells := 0, slots := 0, locals := 0 }
def pl_J7_fill_53178_5 (k1 : Mem → Option (Mem)) (f0 : Nat) (f1 : Int32) (f3 : Int32) : Nat → Int32 → Mem → Option (Mem)
  | 0, _, _ => none
  | n + 1, y2, M =>
    (if f3 ≤ y2 then
     (k1  M)
    else
     (Option.bind (aIs M f0 y2 f1) fun M3 =>
     (pl_J7_fill_53178_5 k1 f0 f1 f3 n (y2 + (1 : Int32)) M3)
     )
    )
set_option maxHeartbeats 4000000 in
set_option maxRecDepth 100000 in
theorem wl_J7_fill_53178_5 {G : gG} {p : Program} {l : Launch} {e : Env} {s : State} {m : MethodId} {args : Array Value} {below : List Frame} {meth : Method} {c : Code} {A : Nat → Prop} {M' : Mem} {k1 : Mem → Option (Mem)} {f0 : Nat} {f1 : Int32} {f3 : Int32} (C0 : cx G p s m args c cJ7_fill_53178 RJ7 4 A) (hr : meth.sig.returnType = (none)) (hlk : meth.locks = false) (hG : GOK G) (hk1 : ∀ (M : Mem) (H : Heap) (locs : List Loc) (ls : Array Slot), mm G A s M H locs → lv_has ls 4 [] → k1 M = some M' → W p l e rm_J7_fill_53178 s m args below meth c H locs 0 0 (MQ below (CQ G M' none A) args s 0 0 A) (F0 m 20 ls [])) : ∀ (n : Nat) (y2 : Int32) (M : Mem) (H : Heap) (locs : List Loc) (ls : Array Slot), mm G A s M H locs → lv_has ls 4 [(0, .ref f0), (1, .int f1), (2, .int y2), (3, .int f3)] → pl_J7_fill_53178_5 k1 f0 f1 f3 n y2 M = some M' → W p l e rm_J7_fill_53178 s m args below meth c H locs 0 0 (MQ below (CQ G M' none A) args s 0 0 A) (F0 m 5 ls []) := by
  have hx := C0.1
  have hb := C0.2.1
  have hown := C0.2.2.2.1
  have hts := C0.2.2.2.2.1
  intro n
  induction n with
  | zero => intro y2 M H locs ls hM hl hp; rw [pl_J7_fill_53178_5] at hp; cases hp
  | succ n ih =>
    intro y2 M H locs ls hM hl hp
    rw [pl_J7_fill_53178_5] at hp
    refine lv_iload_n hx hb dJ7_fill_53178_5 rfl (lv_at hl 2 rfl) ?_
    refine lv_iload_n hx hb dJ7_fill_53178_6 rfl (lv_at hl 3 rfl) ?_
    refine lv_icmp_ge (tgt := 20) hx hb dJ7_fill_53178_7 (by decide) (fun c2 => ?_) (fun c2 => ?_)
    · replace hp := oT c2 hp
      exact hk1  _ _ _ _ hM (lv_sub hl [] rfl) hp
    · replace hp := oF c2 hp
      refine lv_aload_n hx hb dJ7_fill_53178_10 rfl (lv_at hl 0 rfl) ?_
      refine lv_iload_n hx hb dJ7_fill_53178_11 rfl (lv_at hl 2 rfl) ?_
      refine lv_iload_n hx hb dJ7_fill_53178_12 rfl (lv_at hl 1 rfl) ?_
      obtain ⟨M3, hM3, hp⟩ := ob hp
      refine mr_iast C0 hM hM3 dJ7_fill_53178_13 (fun H locs hM => ?_)
      refine lv_iinc (v := (y2 + (1 : Int32))) (lv' := [(2, .int (y2 + (1 : Int32))), (0, .ref f0), (1, .int f1), (3, .int f3)]) hx hb dJ7_fill_53178_14 hl (k := 2) rfl rfl (by decide) rfl (fun ls hl => ?_)
      refine lv_goto (tgt := 5) hx hb dJ7_fill_53178_17 (by decide) ?_
      exact ih _ _ _ _ _ hM (lv_sub hl [1, 2, 0, 3] rfl) hp
def p_J7_fill_53178 (a0 : Nat) (a1 : Int32) (M : Mem) : Option (Mem) :=
  (Option.bind (aN 0 M a0) fun v1 =>
  (pl_J7_fill_53178_5
   (fun  (M4 : Mem) =>
    some M4
   )
   a0 a1 v1 FU (0 : Int32) M)
  )
theorem yk_J7_fill_53178 : yok yJ7_fill_53178 2 := by decide +kernel
set_option maxHeartbeats 4000000 in
set_option maxRecDepth 100000 in
theorem w_J7_fill_53178 {G : gG} (hG : GOK G) {l : Launch} {a0 : Nat} {a1 : Int32} {M : Mem} {M' : Mem} (hp : p_J7_fill_53178 a0 a1 M = some M') : CT G l yJ7_fill_53178 (wT yJ7_fill_53178 cJ7_fill_53178 4 (none)) rm_J7_fill_53178 [.ref a0, .int a1] M none M' 0 0 := by
  refine CT_of (own := RJ7) (maxL := 4) (ret := (none)) hG (by decide) rfl (Nat.le_of_ble_eq_true rfl) (fun p e s m below meth c A C0 hr hlk hM ls hl => ?_)
  have hl : lv_has ls 4 [(0, .ref a0), (1, .int a1)] := hl
  generalize ([.ref a0, .int a1] : List Value).toArray = args at C0 ⊢
  skip
  have hx := C0.1
  have hb := C0.2.1
  have hown := C0.2.2.2.1
  have hts := C0.2.2.2.2.1
  unfold p_J7_fill_53178 at hp
  refine lv_iconst (v := 0) hx hb dJ7_fill_53178_0 (by decide) ?_
  refine lv_istore_n (lv' := [(2, .int (0 : Int32)), (0, .ref a0), (1, .int a1)]) hx hb dJ7_fill_53178_1 rfl hl (by decide) rfl (fun ls hl => ?_)
  refine lv_aload_n hx hb dJ7_fill_53178_2 rfl (lv_at hl 1 rfl) ?_
  obtain ⟨v1, hv1, hp⟩ := ob hp
  refine mr_alen C0 hM 0 rfl hv1 dJ7_fill_53178_3 ?_
  refine lv_istore_n (lv' := [(3, .int v1), (2, .int (0 : Int32)), (0, .ref a0), (1, .int a1)]) hx hb dJ7_fill_53178_4 rfl hl (by decide) rfl (fun ls hl => ?_)
  refine wl_J7_fill_53178_5 C0 hr hlk hG (fun M4 H locs ls hM hl hp => ?_) FU _ _ _ _ _ hM (lv_sub hl [2, 3, 1, 0] rfl) hp
  exact mr_vret C0 hr hlk hM (Option.some.inj hp) (Nat.le_refl _) (Nat.le_refl _) dJ7_fill_53178_20
abbrev rm_X2_takeAllBack : Room := { frames := 1, cells := 0, slots := 0, locals := 23 }
def p_X2_takeAllBack (a0 : Nat) (M : Mem) : Option (Mem) :=
  (Option.bind (gR 2 16 M a0) fun v1 =>
  (Option.bind (p_J7_fill_53178 v1 (-1 : Int32) M) fun M2 =>
  (Option.bind (gR 2 17 M2 a0) fun v3 =>
  (Option.bind (p_J7_fill_53178 v3 (0 : Int32) M2) fun M4 =>
  (Option.bind (gR 2 19 M4 a0) fun v5 =>
  (Option.bind (p_J7_fill_53178 v5 (0 : Int32) M4) fun M6 =>
  (Option.bind (sV 2 10 M6 a0 (.long (0 : Int64))) fun M7 =>
  (Option.bind (sZ 2 4 M7 a0 (1 : Int32)) fun M8 =>
  (Option.bind (sV 2 5 M8 a0 (.int (0 : Int32))) fun M9 =>
  (Option.bind (sV 2 6 M9 a0 (.int (0 : Int32))) fun M10 =>
  some M10
  )
  )
  )
  )
  )
  )
  )
  )
  )
  )
theorem yk_X2_takeAllBack : yok yX2_takeAllBack 0 := by decide +kernel
set_option maxHeartbeats 4000000 in
set_option maxRecDepth 100000 in
theorem w_X2_takeAllBack {G : gG} (hG : GOK G) {l : Launch} {a0 : Nat} {M : Mem} {M' : Mem} (hp : p_X2_takeAllBack a0 M = some M') : CT G l yX2_takeAllBack (wT yX2_takeAllBack cX2_takeAllBack 1 (none)) rm_X2_takeAllBack [.ref a0] M none M' 0 0 := by
  refine CT_of (own := RX2) (maxL := 1) (ret := (none)) hG (by decide) rfl (Nat.le_of_ble_eq_true rfl) (fun p e s m below meth c A C0 hr hlk hM ls hl => ?_)
  have hl : lv_has ls 1 [(0, .ref a0)] := hl
  generalize ([.ref a0] : List Value).toArray = args at C0 ⊢
  skip
  have hx := C0.1
  have hb := C0.2.1
  have hown := C0.2.2.2.1
  have hts := C0.2.2.2.2.1
  unfold p_X2_takeAllBack at hp
  refine lv_aload_n hx hb dX2_takeAllBack_0 rfl (lv_at hl 0 rfl) ?_
  obtain ⟨v1, hv1, hp⟩ := ob hp
  refine mr_getR C0 cbX2 hM 16 (by decide) tw_171 hv1 dX2_takeAllBack_1 ?_
  refine lv_iconst (v := -1) hx hb dX2_takeAllBack_4 (by decide) ?_
  obtain ⟨M2, hM2, hp⟩ := ob hp
  refine mr_S0 (As := [.ref v1, .int (-1 : Int32)]) (rest := []) C0 hM (w_J7_fill_53178 hG hM2) tw_344 tw_338 tw_12 tw_339 yk_J7_fill_53178 (by decide) rfl hl.1 (Nat.le_of_ble_eq_true rfl) dX2_takeAllBack_5 rfl (fun H locs hM => ?_)
  refine lv_aload_n hx hb dX2_takeAllBack_8 rfl (lv_at hl 0 rfl) ?_
  obtain ⟨v3, hv3, hp⟩ := ob hp
  refine mr_getR C0 cbX2 hM 17 (by decide) tw_174 hv3 dX2_takeAllBack_9 ?_
  refine lv_iconst (v := 0) hx hb dX2_takeAllBack_12 (by decide) ?_
  obtain ⟨M4, hM4, hp⟩ := ob hp
  refine mr_S0 (As := [.ref v3, .int (0 : Int32)]) (rest := []) C0 hM (w_J7_fill_53178 hG hM4) tw_344 tw_338 tw_12 tw_339 yk_J7_fill_53178 (by decide) rfl hl.1 (Nat.le_of_ble_eq_true rfl) dX2_takeAllBack_13 rfl (fun H locs hM => ?_)
  refine lv_aload_n hx hb dX2_takeAllBack_16 rfl (lv_at hl 0 rfl) ?_
  obtain ⟨v5, hv5, hp⟩ := ob hp
  refine mr_getR C0 cbX2 hM 19 (by decide) tw_180 hv5 dX2_takeAllBack_17 ?_
  refine lv_iconst (v := 0) hx hb dX2_takeAllBack_20 (by decide) ?_
  obtain ⟨M6, hM6, hp⟩ := ob hp
  refine mr_S0 (As := [.ref v5, .int (0 : Int32)]) (rest := []) C0 hM (w_J7_fill_53178 hG hM6) tw_344 tw_338 tw_12 tw_339 yk_J7_fill_53178 (by decide) rfl hl.1 (Nat.le_of_ble_eq_true rfl) dX2_takeAllBack_21 rfl (fun H locs hM => ?_)
  refine lv_aload_n hx hb dX2_takeAllBack_24 rfl (lv_at hl 0 rfl) ?_
  refine lv_lconst (v := 0) hx hb dX2_takeAllBack_25 (by decide) ?_
  obtain ⟨M7, hM7, hp⟩ := ob hp
  refine mr_putL C0 cbX2 hM 10 (by decide) rfl rfl tw_158 hM7 dX2_takeAllBack_26 (fun H locs hM => ?_)
  refine lv_aload_n hx hb dX2_takeAllBack_29 rfl (lv_at hl 0 rfl) ?_
  refine lv_iconst (v := 1) hx hb dX2_takeAllBack_30 (by decide) ?_
  obtain ⟨M8, hM8, hp⟩ := ob hp
  refine mr_putZ C0 cbX2 hM 4 (by decide) rfl rfl tw_144 hM8 dX2_takeAllBack_31 (fun H locs hM => ?_)
  refine lv_aload_n hx hb dX2_takeAllBack_34 rfl (lv_at hl 0 rfl) ?_
  refine lv_iconst (v := 0) hx hb dX2_takeAllBack_35 (by decide) ?_
  obtain ⟨M9, hM9, hp⟩ := ob hp
  refine mr_putI C0 cbX2 hM 5 (by decide) rfl rfl tw_146 hM9 dX2_takeAllBack_36 (fun H locs hM => ?_)
  refine lv_aload_n hx hb dX2_takeAllBack_39 rfl (lv_at hl 0 rfl) ?_
  refine lv_iconst (v := 0) hx hb dX2_takeAllBack_40 (by decide) ?_
  obtain ⟨M10, hM10, hp⟩ := ob hp
  refine mr_putI C0 cbX2 hM 6 (by decide) rfl rfl tw_149 hM10 dX2_takeAllBack_41 (fun H locs hM => ?_)
  exact mr_vret C0 hr hlk hM (Option.some.inj hp) (Nat.le_refl _) (Nat.le_refl _) dX2_takeAllBack_44
abbrev rm_X0_run : Room := { frames := 5, cells := 0, slots := 0, locals := 127 }
def pl_X0_run_38 (k1 : Mem → Option (Mem)) (f0 : Nat) (f1 : Nat) (f2 : Int32) : Nat → Int32 → Mem → Option (Mem)
  | 0, _, _ => none
  | n + 1, y3, M =>
    (Option.bind (gR 2 0 M f1) fun v11 =>
    (Option.bind (gI 4 0 M v11) fun v12 =>
    (if v12 ≤ y3 then
     (k1  M)
    else
     (Option.bind (isC 0 M f0) fun _ =>
     (Option.bind (p_X0_keepFirst f0 f1 y3 M) fun M15 =>
     (pl_X0_run_38 k1 f0 f1 f2 n (y3 + (1 : Int32)) M15)
     )
     )
    )
    )
    )
set_option maxHeartbeats 4000000 in
set_option maxRecDepth 100000 in
theorem wl_X0_run_38 {G : gG} {p : Program} {l : Launch} {e : Env} {s : State} {m : MethodId} {args : Array Value} {below : List Frame} {meth : Method} {c : Code} {A : Nat → Prop} {M' : Mem} {k1 : Mem → Option (Mem)} {f0 : Nat} {f1 : Nat} {f2 : Int32} (C0 : cx G p s m args c cX0_run RX0 4 A) (hr : meth.sig.returnType = (none)) (hlk : meth.locks = false) (hG : GOK G) (hk1 : ∀ (M : Mem) (H : Heap) (locs : List Loc) (ls : Array Slot), mm G A s M H locs → lv_has ls 4 [(0, .ref f0), (1, .ref f1), (2, .int f2)] → k1 M = some M' → W p l e rm_X0_run s m args below meth c H locs 0 0 (MQ below (CQ G M' none A) args s 0 0 A) (F0 m 61 ls [])) : ∀ (n : Nat) (y3 : Int32) (M : Mem) (H : Heap) (locs : List Loc) (ls : Array Slot), mm G A s M H locs → lv_has ls 4 [(0, .ref f0), (1, .ref f1), (2, .int f2), (3, .int y3)] → pl_X0_run_38 k1 f0 f1 f2 n y3 M = some M' → W p l e rm_X0_run s m args below meth c H locs 0 0 (MQ below (CQ G M' none A) args s 0 0 A) (F0 m 38 ls []) := by
  have hx := C0.1
  have hb := C0.2.1
  have hown := C0.2.2.2.1
  have hts := C0.2.2.2.2.1
  intro n
  induction n with
  | zero => intro y3 M H locs ls hM hl hp; rw [pl_X0_run_38] at hp; cases hp
  | succ n ih =>
    intro y3 M H locs ls hM hl hp
    rw [pl_X0_run_38] at hp
    refine lv_iload_n hx hb dX0_run_38 rfl (lv_at hl 3 rfl) ?_
    refine lv_aload_n hx hb dX0_run_39 rfl (lv_at hl 1 rfl) ?_
    obtain ⟨v11, hv11, hp⟩ := ob hp
    refine mr_getR C0 cbX2 hM 0 (by decide) tw_133 hv11 dX0_run_40 ?_
    obtain ⟨v12, hv12, hp⟩ := ob hp
    refine mr_getI C0 cbX4 hM 0 (by decide) tw_65 hv12 dX0_run_43 ?_
    refine lv_icmp_ge (tgt := 61) hx hb dX0_run_46 (by decide) (fun c13 => ?_) (fun c13 => ?_)
    · replace hp := oT c13 hp
      exact hk1  _ _ _ _ hM (lv_sub hl [0, 1, 2] rfl) hp
    · replace hp := oF c13 hp
      refine lv_aload_n hx hb dX0_run_49 rfl (lv_at hl 0 rfl) ?_
      refine lv_aload_n hx hb dX0_run_50 rfl (lv_at hl 1 rfl) ?_
      refine lv_iload_n hx hb dX0_run_51 rfl (lv_at hl 3 rfl) ?_
      obtain ⟨_, h14, hp⟩ := ob hp
      obtain ⟨M15, hM15, hp⟩ := ob hp
      refine mr_V0 (As := [.ref f1, .int y3]) (rest := []) C0 cbX0 hM h14 rfl (w_X0_keepFirst hG hM15) tw_563 tw_564 tw_565 tw_19 tw_566 yk_X0_keepFirst (by decide) rfl hl.1 (Nat.le_of_ble_eq_true rfl) dX0_run_52 rfl (fun H locs hM => ?_)
      refine lv_iinc (v := (y3 + (1 : Int32))) (lv' := [(3, .int (y3 + (1 : Int32))), (0, .ref f0), (1, .ref f1), (2, .int f2)]) hx hb dX0_run_55 hl (k := 3) rfl rfl (by decide) rfl (fun ls hl => ?_)
      refine lv_goto (tgt := 38) hx hb dX0_run_58 (by decide) ?_
      exact ih _ _ _ _ _ hM (lv_sub hl [1, 2, 3, 0] rfl) hp
def pl_X0_run_14 (k1 : Mem → Option (Mem)) (k2 : Mem → Option (Mem)) (f0 : Nat) (f1 : Nat) : Nat → Int32 → Mem → Option (Mem)
  | 0, _, _ => none
  | n + 1, y2, M =>
    (if (160 : Int32) < y2 then
     (k2  M)
    else
     (Option.bind (isC 0 M f0) fun _ =>
     (ob2 (p_X0_tryNext f0 f1 y2 M) fun v7 M8 =>
     (if v7 = 0 then
      (k1  M8)
     else
      (Option.bind (sV 2 5 M8 f1 (.int y2)) fun M10 =>
      (pl_X0_run_38
       (fun  (M16 : Mem) =>
        (pl_X0_run_14 k1 k2 f0 f1 n (y2 + (1 : Int32)) M16)
       )
       f0 f1 y2 FU (0 : Int32) M10)
      )
     )
     )
     )
    )
set_option maxHeartbeats 4000000 in
set_option maxRecDepth 100000 in
theorem wl_X0_run_14 {G : gG} {p : Program} {l : Launch} {e : Env} {s : State} {m : MethodId} {args : Array Value} {below : List Frame} {meth : Method} {c : Code} {A : Nat → Prop} {M' : Mem} {k1 : Mem → Option (Mem)} {k2 : Mem → Option (Mem)} {f0 : Nat} {f1 : Nat} (C0 : cx G p s m args c cX0_run RX0 4 A) (hr : meth.sig.returnType = (none)) (hlk : meth.locks = false) (hG : GOK G) (hk1 : ∀ (M : Mem) (H : Heap) (locs : List Loc) (ls : Array Slot), mm G A s M H locs → lv_has ls 4 [] → k1 M = some M' → W p l e rm_X0_run s m args below meth c H locs 0 0 (MQ below (CQ G M' none A) args s 0 0 A) (F0 m 30 ls [])) (hk2 : ∀ (M : Mem) (H : Heap) (locs : List Loc) (ls : Array Slot), mm G A s M H locs → lv_has ls 4 [] → k2 M = some M' → W p l e rm_X0_run s m args below meth c H locs 0 0 (MQ below (CQ G M' none A) args s 0 0 A) (F0 m 67 ls [])) : ∀ (n : Nat) (y2 : Int32) (M : Mem) (H : Heap) (locs : List Loc) (ls : Array Slot), mm G A s M H locs → lv_has ls 4 [(0, .ref f0), (1, .ref f1), (2, .int y2)] → pl_X0_run_14 k1 k2 f0 f1 n y2 M = some M' → W p l e rm_X0_run s m args below meth c H locs 0 0 (MQ below (CQ G M' none A) args s 0 0 A) (F0 m 14 ls []) := by
  have hx := C0.1
  have hb := C0.2.1
  have hown := C0.2.2.2.1
  have hts := C0.2.2.2.2.1
  intro n
  induction n with
  | zero => intro y2 M H locs ls hM hl hp; rw [pl_X0_run_14] at hp; cases hp
  | succ n ih =>
    intro y2 M H locs ls hM hl hp
    rw [pl_X0_run_14] at hp
    refine lv_iload_n hx hb dX0_run_14 rfl (lv_at hl 2 rfl) ?_
    refine lv_sipush (v := 160) hx hb dX0_run_15 (by decide) ?_
    refine lv_icmp_gt (tgt := 67) hx hb dX0_run_18 (by decide) (fun c5 => ?_) (fun c5 => ?_)
    · replace hp := oT c5 hp
      exact hk2  _ _ _ _ hM (lv_sub hl [] rfl) hp
    · replace hp := oF c5 hp
      refine lv_aload_n hx hb dX0_run_21 rfl (lv_at hl 0 rfl) ?_
      refine lv_aload_n hx hb dX0_run_22 rfl (lv_at hl 1 rfl) ?_
      refine lv_iload_n hx hb dX0_run_23 rfl (lv_at hl 2 rfl) ?_
      obtain ⟨_, h6, hp⟩ := ob hp
      obtain ⟨v7, M8, hv7, hp⟩ := ob3 hp
      refine mr_V1 (As := [.ref f1, .int y2]) (rest := []) C0 cbX0 hM h6 rfl (w_X0_tryNext hG hv7) tw_553 tw_554 tw_555 tw_19 tw_556 yk_X0_tryNext (by decide) rfl hl.1 (Nat.le_of_ble_eq_true rfl) dX0_run_24 rfl (fun H locs hM => ?_)
      refine lv_if_ne (tgt := 31) hx hb dX0_run_27 (by decide) (fun c9 => ?_) (fun c9 => ?_)
      · replace hp := oF c9 hp
        refine lv_aload_n hx hb dX0_run_31 rfl (lv_at hl 1 rfl) ?_
        refine lv_iload_n hx hb dX0_run_32 rfl (lv_at hl 2 rfl) ?_
        obtain ⟨M10, hM10, hp⟩ := ob hp
        refine mr_putI C0 cbX2 hM 5 (by decide) rfl rfl tw_147 hM10 dX0_run_33 (fun H locs hM => ?_)
        refine lv_iconst (v := 0) hx hb dX0_run_36 (by decide) ?_
        refine lv_istore_n (lv' := [(3, .int (0 : Int32)), (0, .ref f0), (1, .ref f1), (2, .int y2)]) hx hb dX0_run_37 rfl hl (by decide) rfl (fun ls hl => ?_)
        refine wl_X0_run_38 C0 hr hlk hG (fun M16 H locs ls hM hl hp => ?_) FU _ _ _ _ _ hM (lv_sub hl [1, 2, 3, 0] rfl) hp
        refine lv_iinc (v := (y2 + (1 : Int32))) (lv' := [(2, .int (y2 + (1 : Int32))), (0, .ref f0), (1, .ref f1)]) hx hb dX0_run_61 hl (k := 2) rfl rfl (by decide) rfl (fun ls hl => ?_)
        refine lv_goto (tgt := 14) hx hb dX0_run_64 (by decide) ?_
        exact ih _ _ _ _ _ hM (lv_sub hl [1, 2, 0] rfl) hp
      · replace hp := oT c9 hp
        exact hk1  _ _ _ _ hM (lv_sub hl [] rfl) hp
def p_X0_run (a0 : Nat) (a1 : Nat) (M : Mem) : Option (Mem) :=
  (Option.bind (isC 2 M a1) fun _ =>
  (Option.bind (p_X2_takeAllBack a1 M) fun M2 =>
  (Option.bind (gR 0 0 M2 a0) fun v3 =>
  (Option.bind (p_J7_fill_53178 v3 (0 : Int32) M2) fun M4 =>
  (pl_X0_run_14
   (fun  (M17 : Mem) =>
    some M17
   )
   (fun  (M18 : Mem) =>
    some M18
   )
   a0 a1 FU (1 : Int32) M4)
  )
  )
  )
  )
theorem yk_X0_run : yok yX0_run 1 := by decide +kernel
set_option maxHeartbeats 4000000 in
set_option maxRecDepth 100000 in
theorem w_X0_run {G : gG} (hG : GOK G) {l : Launch} {a0 : Nat} {a1 : Nat} {M : Mem} {M' : Mem} (hp : p_X0_run a0 a1 M = some M') : CT G l yX0_run (wT yX0_run cX0_run 4 (none)) rm_X0_run [.ref a0, .ref a1] M none M' 0 0 := by
  refine CT_of (own := RX0) (maxL := 4) (ret := (none)) hG (by decide) rfl (Nat.le_of_ble_eq_true rfl) (fun p e s m below meth c A C0 hr hlk hM ls hl => ?_)
  have hl : lv_has ls 4 [(0, .ref a0), (1, .ref a1)] := hl
  generalize ([.ref a0, .ref a1] : List Value).toArray = args at C0 ⊢
  skip
  have hx := C0.1
  have hb := C0.2.1
  have hown := C0.2.2.2.1
  have hts := C0.2.2.2.2.1
  unfold p_X0_run at hp
  refine lv_aload_n hx hb dX0_run_0 rfl (lv_at hl 1 rfl) ?_
  obtain ⟨_, h1, hp⟩ := ob hp
  obtain ⟨M2, hM2, hp⟩ := ob hp
  refine mr_V0 (As := []) (rest := []) C0 cbX2 hM h1 rfl (w_X2_takeAllBack hG hM2) tw_548 tw_549 tw_550 tw_17 tw_551 yk_X2_takeAllBack (by decide) rfl hl.1 (Nat.le_of_ble_eq_true rfl) dX0_run_1 rfl (fun H locs hM => ?_)
  refine lv_aload_n hx hb dX0_run_4 rfl (lv_at hl 0 rfl) ?_
  obtain ⟨v3, hv3, hp⟩ := ob hp
  refine mr_getR C0 cbX0 hM 0 (by decide) tw_269 hv3 dX0_run_5 ?_
  refine lv_iconst (v := 0) hx hb dX0_run_8 (by decide) ?_
  obtain ⟨M4, hM4, hp⟩ := ob hp
  refine mr_S0 (As := [.ref v3, .int (0 : Int32)]) (rest := []) C0 hM (w_J7_fill_53178 hG hM4) tw_552 tw_338 tw_12 tw_339 yk_J7_fill_53178 (by decide) rfl hl.1 (Nat.le_of_ble_eq_true rfl) dX0_run_9 rfl (fun H locs hM => ?_)
  refine lv_iconst (v := 1) hx hb dX0_run_12 (by decide) ?_
  refine lv_istore_n (lv' := [(2, .int (1 : Int32)), (0, .ref a0), (1, .ref a1)]) hx hb dX0_run_13 rfl hl (by decide) rfl (fun ls hl => ?_)
  refine wl_X0_run_14 C0 hr hlk hG (fun M17 H locs ls hM hl hp => ?_) (fun M18 H locs ls hM hl hp => ?_) FU _ _ _ _ _ hM (lv_sub hl [1, 2, 0] rfl) hp
  · exact mr_vret C0 hr hlk hM (Option.some.inj hp) (Nat.le_refl _) (Nat.le_refl _) dX0_run_30
  · exact mr_vret C0 hr hlk hM (Option.some.inj hp) (Nat.le_refl _) (Nat.le_refl _) dX0_run_67
abbrev rm_X2_clear : Room := { frames := 1, cells := 0, slots := 0, locals := 23 }
def p_X2_clear (a0 : Nat) (M : Mem) : Option (Mem) :=
  (Option.bind (sV 2 1 M a0 (.int (0 : Int32))) fun M1 =>
  (Option.bind (sV 2 2 M1 a0 (.int (0 : Int32))) fun M2 =>
  (Option.bind (sZ 2 3 M2 a0 (0 : Int32)) fun M3 =>
  (Option.bind (sZ 2 4 M3 a0 (0 : Int32)) fun M4 =>
  (Option.bind (sV 2 5 M4 a0 (.int (0 : Int32))) fun M5 =>
  (Option.bind (sV 2 6 M5 a0 (.int (0 : Int32))) fun M6 =>
  (Option.bind (sV 2 7 M6 a0 (.long (0 : Int64))) fun M7 =>
  (Option.bind (sV 2 8 M7 a0 (.long (0 : Int64))) fun M8 =>
  (Option.bind (sV 2 9 M8 a0 (.long (0 : Int64))) fun M9 =>
  (Option.bind (sV 2 10 M9 a0 (.long (0 : Int64))) fun M10 =>
  (Option.bind (gR 2 19 M10 a0) fun v11 =>
  (Option.bind (p_J7_fill_53178 v11 (0 : Int32) M10) fun M12 =>
  some M12
  )
  )
  )
  )
  )
  )
  )
  )
  )
  )
  )
  )
theorem yk_X2_clear : yok yX2_clear 0 := by decide +kernel
set_option maxHeartbeats 4000000 in
set_option maxRecDepth 100000 in
theorem w_X2_clear {G : gG} (hG : GOK G) {l : Launch} {a0 : Nat} {M : Mem} {M' : Mem} (hp : p_X2_clear a0 M = some M') : CT G l yX2_clear (wT yX2_clear cX2_clear 1 (none)) rm_X2_clear [.ref a0] M none M' 0 0 := by
  refine CT_of (own := RX2) (maxL := 1) (ret := (none)) hG (by decide) rfl (Nat.le_of_ble_eq_true rfl) (fun p e s m below meth c A C0 hr hlk hM ls hl => ?_)
  have hl : lv_has ls 1 [(0, .ref a0)] := hl
  generalize ([.ref a0] : List Value).toArray = args at C0 ⊢
  skip
  have hx := C0.1
  have hb := C0.2.1
  have hown := C0.2.2.2.1
  have hts := C0.2.2.2.2.1
  unfold p_X2_clear at hp
  refine lv_aload_n hx hb dX2_clear_0 rfl (lv_at hl 0 rfl) ?_
  refine lv_iconst (v := 0) hx hb dX2_clear_1 (by decide) ?_
  obtain ⟨M1, hM1, hp⟩ := ob hp
  refine mr_putI C0 cbX2 hM 1 (by decide) rfl rfl tw_135 hM1 dX2_clear_2 (fun H locs hM => ?_)
  refine lv_aload_n hx hb dX2_clear_5 rfl (lv_at hl 0 rfl) ?_
  refine lv_iconst (v := 0) hx hb dX2_clear_6 (by decide) ?_
  obtain ⟨M2, hM2, hp⟩ := ob hp
  refine mr_putI C0 cbX2 hM 2 (by decide) rfl rfl tw_139 hM2 dX2_clear_7 (fun H locs hM => ?_)
  refine lv_aload_n hx hb dX2_clear_10 rfl (lv_at hl 0 rfl) ?_
  refine lv_iconst (v := 0) hx hb dX2_clear_11 (by decide) ?_
  obtain ⟨M3, hM3, hp⟩ := ob hp
  refine mr_putZ C0 cbX2 hM 3 (by decide) rfl rfl tw_141 hM3 dX2_clear_12 (fun H locs hM => ?_)
  refine lv_aload_n hx hb dX2_clear_15 rfl (lv_at hl 0 rfl) ?_
  refine lv_iconst (v := 0) hx hb dX2_clear_16 (by decide) ?_
  obtain ⟨M4, hM4, hp⟩ := ob hp
  refine mr_putZ C0 cbX2 hM 4 (by decide) rfl rfl tw_144 hM4 dX2_clear_17 (fun H locs hM => ?_)
  refine lv_aload_n hx hb dX2_clear_20 rfl (lv_at hl 0 rfl) ?_
  refine lv_iconst (v := 0) hx hb dX2_clear_21 (by decide) ?_
  obtain ⟨M5, hM5, hp⟩ := ob hp
  refine mr_putI C0 cbX2 hM 5 (by decide) rfl rfl tw_146 hM5 dX2_clear_22 (fun H locs hM => ?_)
  refine lv_aload_n hx hb dX2_clear_25 rfl (lv_at hl 0 rfl) ?_
  refine lv_iconst (v := 0) hx hb dX2_clear_26 (by decide) ?_
  obtain ⟨M6, hM6, hp⟩ := ob hp
  refine mr_putI C0 cbX2 hM 6 (by decide) rfl rfl tw_149 hM6 dX2_clear_27 (fun H locs hM => ?_)
  refine lv_aload_n hx hb dX2_clear_30 rfl (lv_at hl 0 rfl) ?_
  refine lv_lconst (v := 0) hx hb dX2_clear_31 (by decide) ?_
  obtain ⟨M7, hM7, hp⟩ := ob hp
  refine mr_putL C0 cbX2 hM 7 (by decide) rfl rfl tw_151 hM7 dX2_clear_32 (fun H locs hM => ?_)
  refine lv_aload_n hx hb dX2_clear_35 rfl (lv_at hl 0 rfl) ?_
  refine lv_lconst (v := 0) hx hb dX2_clear_36 (by decide) ?_
  obtain ⟨M8, hM8, hp⟩ := ob hp
  refine mr_putL C0 cbX2 hM 8 (by decide) rfl rfl tw_153 hM8 dX2_clear_37 (fun H locs hM => ?_)
  refine lv_aload_n hx hb dX2_clear_40 rfl (lv_at hl 0 rfl) ?_
  refine lv_lconst (v := 0) hx hb dX2_clear_41 (by decide) ?_
  obtain ⟨M9, hM9, hp⟩ := ob hp
  refine mr_putL C0 cbX2 hM 9 (by decide) rfl rfl tw_155 hM9 dX2_clear_42 (fun H locs hM => ?_)
  refine lv_aload_n hx hb dX2_clear_45 rfl (lv_at hl 0 rfl) ?_
  refine lv_lconst (v := 0) hx hb dX2_clear_46 (by decide) ?_
  obtain ⟨M10, hM10, hp⟩ := ob hp
  refine mr_putL C0 cbX2 hM 10 (by decide) rfl rfl tw_158 hM10 dX2_clear_47 (fun H locs hM => ?_)
  refine lv_aload_n hx hb dX2_clear_50 rfl (lv_at hl 0 rfl) ?_
  obtain ⟨v11, hv11, hp⟩ := ob hp
  refine mr_getR C0 cbX2 hM 19 (by decide) tw_180 hv11 dX2_clear_51 ?_
  refine lv_iconst (v := 0) hx hb dX2_clear_54 (by decide) ?_
  obtain ⟨M12, hM12, hp⟩ := ob hp
  refine mr_S0 (As := [.ref v11, .int (0 : Int32)]) (rest := []) C0 hM (w_J7_fill_53178 hG hM12) tw_344 tw_338 tw_12 tw_339 yk_J7_fill_53178 (by decide) rfl hl.1 (Nat.le_of_ble_eq_true rfl) dX2_clear_55 rfl (fun H locs hM => ?_)
  exact mr_vret C0 hr hlk hM (Option.some.inj hp) (Nat.le_refl _) (Nat.le_refl _) dX2_clear_58
abbrev rm_X2_copyFrom : Room := { frames := 1, cells := 0, slots := 0, locals := 40 }
def p_X2_copyFrom (a0 : Nat) (a1 : Nat) (M : Mem) : Option (Mem) :=
  (Option.bind (gR 2 0 M a1) fun v1 =>
  (Option.bind (sV 2 0 M a0 (.ref v1)) fun M2 =>
  (Option.bind (gI 2 1 M2 a1) fun v3 =>
  (Option.bind (sV 2 1 M2 a0 (.int v3)) fun M4 =>
  (Option.bind (gI 2 2 M4 a1) fun v5 =>
  (Option.bind (sV 2 2 M4 a0 (.int v5)) fun M6 =>
  (Option.bind (gI 2 3 M6 a1) fun v7 =>
  (Option.bind (sZ 2 3 M6 a0 v7) fun M8 =>
  (Option.bind (gI 2 4 M8 a1) fun v9 =>
  (Option.bind (sZ 2 4 M8 a0 v9) fun M10 =>
  (Option.bind (gI 2 5 M10 a1) fun v11 =>
  (Option.bind (sV 2 5 M10 a0 (.int v11)) fun M12 =>
  (Option.bind (gI 2 6 M12 a1) fun v13 =>
  (Option.bind (sV 2 6 M12 a0 (.int v13)) fun M14 =>
  (Option.bind (gL 2 7 M14 a1) fun v15 =>
  (Option.bind (sV 2 7 M14 a0 (.long v15)) fun M16 =>
  (Option.bind (gL 2 8 M16 a1) fun v17 =>
  (Option.bind (sV 2 8 M16 a0 (.long v17)) fun M18 =>
  (Option.bind (gL 2 9 M18 a1) fun v19 =>
  (Option.bind (sV 2 9 M18 a0 (.long v19)) fun M20 =>
  (Option.bind (gL 2 10 M20 a1) fun v21 =>
  (Option.bind (sV 2 10 M20 a0 (.long v21)) fun M22 =>
  (Option.bind (gR 2 11 M22 a1) fun v23 =>
  (Option.bind (gR 2 11 M22 a0) fun v24 =>
  (Option.bind (aCp M22 v23 (0 : Int32) v24 (0 : Int32) (40 : Int32)) fun M25 =>
  (Option.bind (gR 2 12 M25 a1) fun v26 =>
  (Option.bind (gR 2 12 M25 a0) fun v27 =>
  (Option.bind (aCp M25 v26 (0 : Int32) v27 (0 : Int32) (40 : Int32)) fun M28 =>
  (Option.bind (gR 2 13 M28 a1) fun v29 =>
  (Option.bind (gR 2 13 M28 a0) fun v30 =>
  (Option.bind (aCp M28 v29 (0 : Int32) v30 (0 : Int32) (40 : Int32)) fun M31 =>
  (Option.bind (gR 2 14 M31 a1) fun v32 =>
  (Option.bind (gR 2 14 M31 a0) fun v33 =>
  (Option.bind (aCp M31 v32 (0 : Int32) v33 (0 : Int32) (40 : Int32)) fun M34 =>
  (Option.bind (gR 2 15 M34 a1) fun v35 =>
  (Option.bind (gR 2 15 M34 a0) fun v36 =>
  (Option.bind (aCp M34 v35 (0 : Int32) v36 (0 : Int32) (40 : Int32)) fun M37 =>
  (Option.bind (gR 2 16 M37 a1) fun v38 =>
  (Option.bind (gR 2 16 M37 a0) fun v39 =>
  (Option.bind (aCp M37 v38 (0 : Int32) v39 (0 : Int32) (40 : Int32)) fun M40 =>
  (Option.bind (gR 2 17 M40 a1) fun v41 =>
  (Option.bind (gR 2 17 M40 a0) fun v42 =>
  (Option.bind (aCp M40 v41 (0 : Int32) v42 (0 : Int32) (40 : Int32)) fun M43 =>
  (Option.bind (gR 2 18 M43 a1) fun v44 =>
  (Option.bind (gR 2 18 M43 a0) fun v45 =>
  (Option.bind (aCp M43 v44 (0 : Int32) v45 (0 : Int32) (8 : Int32)) fun M46 =>
  (Option.bind (gR 2 19 M46 a1) fun v47 =>
  (Option.bind (gR 2 19 M46 a0) fun v48 =>
  (Option.bind (aCp M46 v47 (0 : Int32) v48 (0 : Int32) (8 : Int32)) fun M49 =>
  some M49
  )
  )
  )
  )
  )
  )
  )
  )
  )
  )
  )
  )
  )
  )
  )
  )
  )
  )
  )
  )
  )
  )
  )
  )
  )
  )
  )
  )
  )
  )
  )
  )
  )
  )
  )
  )
  )
  )
  )
  )
  )
  )
  )
  )
  )
  )
  )
  )
  )
theorem yk_X2_copyFrom : yok yX2_copyFrom 1 := by decide +kernel
set_option maxHeartbeats 4000000 in
set_option maxRecDepth 100000 in
theorem w_X2_copyFrom {G : gG} (hG : GOK G) {l : Launch} {a0 : Nat} {a1 : Nat} {M : Mem} {M' : Mem} (hp : p_X2_copyFrom a0 a1 M = some M') : CT G l yX2_copyFrom (wT yX2_copyFrom cX2_copyFrom 2 (none)) rm_X2_copyFrom [.ref a0, .ref a1] M none M' 0 0 := by
  refine CT_of (own := RX2) (maxL := 2) (ret := (none)) hG (by decide) rfl (Nat.le_of_ble_eq_true rfl) (fun p e s m below meth c A C0 hr hlk hM ls hl => ?_)
  have hl : lv_has ls 2 [(0, .ref a0), (1, .ref a1)] := hl
  generalize ([.ref a0, .ref a1] : List Value).toArray = args at C0 ⊢
  skip
  have hx := C0.1
  have hb := C0.2.1
  have hown := C0.2.2.2.1
  have hts := C0.2.2.2.2.1
  unfold p_X2_copyFrom at hp
  refine lv_aload_n hx hb dX2_copyFrom_0 rfl (lv_at hl 0 rfl) ?_
  refine lv_aload_n hx hb dX2_copyFrom_1 rfl (lv_at hl 1 rfl) ?_
  obtain ⟨v1, hv1, hp⟩ := ob hp
  refine mr_getR C0 cbX2 hM 0 (by decide) tw_132 hv1 dX2_copyFrom_2 ?_
  obtain ⟨M2, hM2, hp⟩ := ob hp
  refine mr_putR C0 cbX2 hM 0 (by decide) rfl rfl tw_132 hM2 dX2_copyFrom_5 (fun H locs hM => ?_)
  refine lv_aload_n hx hb dX2_copyFrom_8 rfl (lv_at hl 0 rfl) ?_
  refine lv_aload_n hx hb dX2_copyFrom_9 rfl (lv_at hl 1 rfl) ?_
  obtain ⟨v3, hv3, hp⟩ := ob hp
  refine mr_getI C0 cbX2 hM 1 (by decide) tw_135 hv3 dX2_copyFrom_10 ?_
  obtain ⟨M4, hM4, hp⟩ := ob hp
  refine mr_putI C0 cbX2 hM 1 (by decide) rfl rfl tw_135 hM4 dX2_copyFrom_13 (fun H locs hM => ?_)
  refine lv_aload_n hx hb dX2_copyFrom_16 rfl (lv_at hl 0 rfl) ?_
  refine lv_aload_n hx hb dX2_copyFrom_17 rfl (lv_at hl 1 rfl) ?_
  obtain ⟨v5, hv5, hp⟩ := ob hp
  refine mr_getI C0 cbX2 hM 2 (by decide) tw_139 hv5 dX2_copyFrom_18 ?_
  obtain ⟨M6, hM6, hp⟩ := ob hp
  refine mr_putI C0 cbX2 hM 2 (by decide) rfl rfl tw_139 hM6 dX2_copyFrom_21 (fun H locs hM => ?_)
  refine lv_aload_n hx hb dX2_copyFrom_24 rfl (lv_at hl 0 rfl) ?_
  refine lv_aload_n hx hb dX2_copyFrom_25 rfl (lv_at hl 1 rfl) ?_
  obtain ⟨v7, hv7, hp⟩ := ob hp
  refine mr_getI C0 cbX2 hM 3 (by decide) tw_141 hv7 dX2_copyFrom_26 ?_
  obtain ⟨M8, hM8, hp⟩ := ob hp
  refine mr_putZ C0 cbX2 hM 3 (by decide) rfl rfl tw_141 hM8 dX2_copyFrom_29 (fun H locs hM => ?_)
  refine lv_aload_n hx hb dX2_copyFrom_32 rfl (lv_at hl 0 rfl) ?_
  refine lv_aload_n hx hb dX2_copyFrom_33 rfl (lv_at hl 1 rfl) ?_
  obtain ⟨v9, hv9, hp⟩ := ob hp
  refine mr_getI C0 cbX2 hM 4 (by decide) tw_144 hv9 dX2_copyFrom_34 ?_
  obtain ⟨M10, hM10, hp⟩ := ob hp
  refine mr_putZ C0 cbX2 hM 4 (by decide) rfl rfl tw_144 hM10 dX2_copyFrom_37 (fun H locs hM => ?_)
  refine lv_aload_n hx hb dX2_copyFrom_40 rfl (lv_at hl 0 rfl) ?_
  refine lv_aload_n hx hb dX2_copyFrom_41 rfl (lv_at hl 1 rfl) ?_
  obtain ⟨v11, hv11, hp⟩ := ob hp
  refine mr_getI C0 cbX2 hM 5 (by decide) tw_146 hv11 dX2_copyFrom_42 ?_
  obtain ⟨M12, hM12, hp⟩ := ob hp
  refine mr_putI C0 cbX2 hM 5 (by decide) rfl rfl tw_146 hM12 dX2_copyFrom_45 (fun H locs hM => ?_)
  refine lv_aload_n hx hb dX2_copyFrom_48 rfl (lv_at hl 0 rfl) ?_
  refine lv_aload_n hx hb dX2_copyFrom_49 rfl (lv_at hl 1 rfl) ?_
  obtain ⟨v13, hv13, hp⟩ := ob hp
  refine mr_getI C0 cbX2 hM 6 (by decide) tw_149 hv13 dX2_copyFrom_50 ?_
  obtain ⟨M14, hM14, hp⟩ := ob hp
  refine mr_putI C0 cbX2 hM 6 (by decide) rfl rfl tw_149 hM14 dX2_copyFrom_53 (fun H locs hM => ?_)
  refine lv_aload_n hx hb dX2_copyFrom_56 rfl (lv_at hl 0 rfl) ?_
  refine lv_aload_n hx hb dX2_copyFrom_57 rfl (lv_at hl 1 rfl) ?_
  obtain ⟨v15, hv15, hp⟩ := ob hp
  refine mr_getL C0 cbX2 hM 7 (by decide) tw_151 hv15 dX2_copyFrom_58 ?_
  obtain ⟨M16, hM16, hp⟩ := ob hp
  refine mr_putL C0 cbX2 hM 7 (by decide) rfl rfl tw_151 hM16 dX2_copyFrom_61 (fun H locs hM => ?_)
  refine lv_aload_n hx hb dX2_copyFrom_64 rfl (lv_at hl 0 rfl) ?_
  refine lv_aload_n hx hb dX2_copyFrom_65 rfl (lv_at hl 1 rfl) ?_
  obtain ⟨v17, hv17, hp⟩ := ob hp
  refine mr_getL C0 cbX2 hM 8 (by decide) tw_153 hv17 dX2_copyFrom_66 ?_
  obtain ⟨M18, hM18, hp⟩ := ob hp
  refine mr_putL C0 cbX2 hM 8 (by decide) rfl rfl tw_153 hM18 dX2_copyFrom_69 (fun H locs hM => ?_)
  refine lv_aload_n hx hb dX2_copyFrom_72 rfl (lv_at hl 0 rfl) ?_
  refine lv_aload_n hx hb dX2_copyFrom_73 rfl (lv_at hl 1 rfl) ?_
  obtain ⟨v19, hv19, hp⟩ := ob hp
  refine mr_getL C0 cbX2 hM 9 (by decide) tw_155 hv19 dX2_copyFrom_74 ?_
  obtain ⟨M20, hM20, hp⟩ := ob hp
  refine mr_putL C0 cbX2 hM 9 (by decide) rfl rfl tw_155 hM20 dX2_copyFrom_77 (fun H locs hM => ?_)
  refine lv_aload_n hx hb dX2_copyFrom_80 rfl (lv_at hl 0 rfl) ?_
  refine lv_aload_n hx hb dX2_copyFrom_81 rfl (lv_at hl 1 rfl) ?_
  obtain ⟨v21, hv21, hp⟩ := ob hp
  refine mr_getL C0 cbX2 hM 10 (by decide) tw_158 hv21 dX2_copyFrom_82 ?_
  obtain ⟨M22, hM22, hp⟩ := ob hp
  refine mr_putL C0 cbX2 hM 10 (by decide) rfl rfl tw_158 hM22 dX2_copyFrom_85 (fun H locs hM => ?_)
  refine lv_aload_n hx hb dX2_copyFrom_88 rfl (lv_at hl 1 rfl) ?_
  obtain ⟨v23, hv23, hp⟩ := ob hp
  refine mr_getR C0 cbX2 hM 11 (by decide) tw_160 hv23 dX2_copyFrom_89 ?_
  refine lv_iconst (v := 0) hx hb dX2_copyFrom_92 (by decide) ?_
  refine lv_aload_n hx hb dX2_copyFrom_93 rfl (lv_at hl 0 rfl) ?_
  obtain ⟨v24, hv24, hp⟩ := ob hp
  refine mr_getR C0 cbX2 hM 11 (by decide) tw_160 hv24 dX2_copyFrom_94 ?_
  refine lv_iconst (v := 0) hx hb dX2_copyFrom_97 (by decide) ?_
  refine lv_bipush (v := 40) hx hb dX2_copyFrom_98 (by decide) ?_
  obtain ⟨M25, hM25, hp⟩ := ob hp
  refine mr_copy C0 hM hM25 tw_538 tw_540 tw_539 tw_13 (by decide) (by decide) hl.1 dX2_copyFrom_100 (fun H locs hM => ?_)
  refine lv_aload_n hx hb dX2_copyFrom_103 rfl (lv_at hl 1 rfl) ?_
  obtain ⟨v26, hv26, hp⟩ := ob hp
  refine mr_getR C0 cbX2 hM 12 (by decide) tw_162 hv26 dX2_copyFrom_104 ?_
  refine lv_iconst (v := 0) hx hb dX2_copyFrom_107 (by decide) ?_
  refine lv_aload_n hx hb dX2_copyFrom_108 rfl (lv_at hl 0 rfl) ?_
  obtain ⟨v27, hv27, hp⟩ := ob hp
  refine mr_getR C0 cbX2 hM 12 (by decide) tw_162 hv27 dX2_copyFrom_109 ?_
  refine lv_iconst (v := 0) hx hb dX2_copyFrom_112 (by decide) ?_
  refine lv_bipush (v := 40) hx hb dX2_copyFrom_113 (by decide) ?_
  obtain ⟨M28, hM28, hp⟩ := ob hp
  refine mr_copy C0 hM hM28 tw_538 tw_540 tw_539 tw_13 (by decide) (by decide) hl.1 dX2_copyFrom_115 (fun H locs hM => ?_)
  refine lv_aload_n hx hb dX2_copyFrom_118 rfl (lv_at hl 1 rfl) ?_
  obtain ⟨v29, hv29, hp⟩ := ob hp
  refine mr_getR C0 cbX2 hM 13 (by decide) tw_164 hv29 dX2_copyFrom_119 ?_
  refine lv_iconst (v := 0) hx hb dX2_copyFrom_122 (by decide) ?_
  refine lv_aload_n hx hb dX2_copyFrom_123 rfl (lv_at hl 0 rfl) ?_
  obtain ⟨v30, hv30, hp⟩ := ob hp
  refine mr_getR C0 cbX2 hM 13 (by decide) tw_164 hv30 dX2_copyFrom_124 ?_
  refine lv_iconst (v := 0) hx hb dX2_copyFrom_127 (by decide) ?_
  refine lv_bipush (v := 40) hx hb dX2_copyFrom_128 (by decide) ?_
  obtain ⟨M31, hM31, hp⟩ := ob hp
  refine mr_copy C0 hM hM31 tw_538 tw_540 tw_539 tw_13 (by decide) (by decide) hl.1 dX2_copyFrom_130 (fun H locs hM => ?_)
  refine lv_aload_n hx hb dX2_copyFrom_133 rfl (lv_at hl 1 rfl) ?_
  obtain ⟨v32, hv32, hp⟩ := ob hp
  refine mr_getR C0 cbX2 hM 14 (by decide) tw_166 hv32 dX2_copyFrom_134 ?_
  refine lv_iconst (v := 0) hx hb dX2_copyFrom_137 (by decide) ?_
  refine lv_aload_n hx hb dX2_copyFrom_138 rfl (lv_at hl 0 rfl) ?_
  obtain ⟨v33, hv33, hp⟩ := ob hp
  refine mr_getR C0 cbX2 hM 14 (by decide) tw_166 hv33 dX2_copyFrom_139 ?_
  refine lv_iconst (v := 0) hx hb dX2_copyFrom_142 (by decide) ?_
  refine lv_bipush (v := 40) hx hb dX2_copyFrom_143 (by decide) ?_
  obtain ⟨M34, hM34, hp⟩ := ob hp
  refine mr_copy C0 hM hM34 tw_538 tw_540 tw_539 tw_13 (by decide) (by decide) hl.1 dX2_copyFrom_145 (fun H locs hM => ?_)
  refine lv_aload_n hx hb dX2_copyFrom_148 rfl (lv_at hl 1 rfl) ?_
  obtain ⟨v35, hv35, hp⟩ := ob hp
  refine mr_getR C0 cbX2 hM 15 (by decide) tw_168 hv35 dX2_copyFrom_149 ?_
  refine lv_iconst (v := 0) hx hb dX2_copyFrom_152 (by decide) ?_
  refine lv_aload_n hx hb dX2_copyFrom_153 rfl (lv_at hl 0 rfl) ?_
  obtain ⟨v36, hv36, hp⟩ := ob hp
  refine mr_getR C0 cbX2 hM 15 (by decide) tw_168 hv36 dX2_copyFrom_154 ?_
  refine lv_iconst (v := 0) hx hb dX2_copyFrom_157 (by decide) ?_
  refine lv_bipush (v := 40) hx hb dX2_copyFrom_158 (by decide) ?_
  obtain ⟨M37, hM37, hp⟩ := ob hp
  refine mr_copy C0 hM hM37 tw_538 tw_540 tw_539 tw_13 (by decide) (by decide) hl.1 dX2_copyFrom_160 (fun H locs hM => ?_)
  refine lv_aload_n hx hb dX2_copyFrom_163 rfl (lv_at hl 1 rfl) ?_
  obtain ⟨v38, hv38, hp⟩ := ob hp
  refine mr_getR C0 cbX2 hM 16 (by decide) tw_171 hv38 dX2_copyFrom_164 ?_
  refine lv_iconst (v := 0) hx hb dX2_copyFrom_167 (by decide) ?_
  refine lv_aload_n hx hb dX2_copyFrom_168 rfl (lv_at hl 0 rfl) ?_
  obtain ⟨v39, hv39, hp⟩ := ob hp
  refine mr_getR C0 cbX2 hM 16 (by decide) tw_171 hv39 dX2_copyFrom_169 ?_
  refine lv_iconst (v := 0) hx hb dX2_copyFrom_172 (by decide) ?_
  refine lv_bipush (v := 40) hx hb dX2_copyFrom_173 (by decide) ?_
  obtain ⟨M40, hM40, hp⟩ := ob hp
  refine mr_copy C0 hM hM40 tw_538 tw_540 tw_539 tw_13 (by decide) (by decide) hl.1 dX2_copyFrom_175 (fun H locs hM => ?_)
  refine lv_aload_n hx hb dX2_copyFrom_178 rfl (lv_at hl 1 rfl) ?_
  obtain ⟨v41, hv41, hp⟩ := ob hp
  refine mr_getR C0 cbX2 hM 17 (by decide) tw_174 hv41 dX2_copyFrom_179 ?_
  refine lv_iconst (v := 0) hx hb dX2_copyFrom_182 (by decide) ?_
  refine lv_aload_n hx hb dX2_copyFrom_183 rfl (lv_at hl 0 rfl) ?_
  obtain ⟨v42, hv42, hp⟩ := ob hp
  refine mr_getR C0 cbX2 hM 17 (by decide) tw_174 hv42 dX2_copyFrom_184 ?_
  refine lv_iconst (v := 0) hx hb dX2_copyFrom_187 (by decide) ?_
  refine lv_bipush (v := 40) hx hb dX2_copyFrom_188 (by decide) ?_
  obtain ⟨M43, hM43, hp⟩ := ob hp
  refine mr_copy C0 hM hM43 tw_538 tw_540 tw_539 tw_13 (by decide) (by decide) hl.1 dX2_copyFrom_190 (fun H locs hM => ?_)
  refine lv_aload_n hx hb dX2_copyFrom_193 rfl (lv_at hl 1 rfl) ?_
  obtain ⟨v44, hv44, hp⟩ := ob hp
  refine mr_getR C0 cbX2 hM 18 (by decide) tw_176 hv44 dX2_copyFrom_194 ?_
  refine lv_iconst (v := 0) hx hb dX2_copyFrom_197 (by decide) ?_
  refine lv_aload_n hx hb dX2_copyFrom_198 rfl (lv_at hl 0 rfl) ?_
  obtain ⟨v45, hv45, hp⟩ := ob hp
  refine mr_getR C0 cbX2 hM 18 (by decide) tw_176 hv45 dX2_copyFrom_199 ?_
  refine lv_iconst (v := 0) hx hb dX2_copyFrom_202 (by decide) ?_
  refine lv_bipush (v := 8) hx hb dX2_copyFrom_203 (by decide) ?_
  obtain ⟨M46, hM46, hp⟩ := ob hp
  refine mr_copy C0 hM hM46 tw_538 tw_540 tw_539 tw_13 (by decide) (by decide) hl.1 dX2_copyFrom_205 (fun H locs hM => ?_)
  refine lv_aload_n hx hb dX2_copyFrom_208 rfl (lv_at hl 1 rfl) ?_
  obtain ⟨v47, hv47, hp⟩ := ob hp
  refine mr_getR C0 cbX2 hM 19 (by decide) tw_180 hv47 dX2_copyFrom_209 ?_
  refine lv_iconst (v := 0) hx hb dX2_copyFrom_212 (by decide) ?_
  refine lv_aload_n hx hb dX2_copyFrom_213 rfl (lv_at hl 0 rfl) ?_
  obtain ⟨v48, hv48, hp⟩ := ob hp
  refine mr_getR C0 cbX2 hM 19 (by decide) tw_180 hv48 dX2_copyFrom_214 ?_
  refine lv_iconst (v := 0) hx hb dX2_copyFrom_217 (by decide) ?_
  refine lv_bipush (v := 8) hx hb dX2_copyFrom_218 (by decide) ?_
  obtain ⟨M49, hM49, hp⟩ := ob hp
  refine mr_copy C0 hM hM49 tw_538 tw_540 tw_539 tw_13 (by decide) (by decide) hl.1 dX2_copyFrom_220 (fun H locs hM => ?_)
  exact mr_vret C0 hr hlk hM (Option.some.inj hp) (Nat.le_refl _) (Nat.le_refl _) dX2_copyFrom_223
abbrev rm_X2_enrol : Room := { frames := 0, cells := 0, slots := 0, locals := 0 }
def p_X2_enrol (a0 : Nat) (a1 : Int32) (a2 : Int32) (a3 : Int32) (a4 : Int32) (a5 : Int32) (M : Mem) : Option (Int32 × Mem) :=
  (Option.bind (gI 2 1 M a0) fun v1 =>
  (Option.bind (gI 2 1 M a0) fun v2 =>
  (Option.bind (sV 2 1 M a0 (.int (v2 + (1 : Int32)))) fun M3 =>
  (Option.bind (gI 2 2 M3 a0) fun v4 =>
  (Option.bind (sV 2 2 M3 a0 (.int (((v4 * (1103515245 : Int32)) + (12345 : Int32)) &&& (2147483647 : Int32)))) fun M5 =>
  (Option.bind (gR 2 11 M5 a0) fun v6 =>
  (Option.bind (aIs M5 v6 v1 a1) fun M7 =>
  (Option.bind (gR 2 12 M7 a0) fun v8 =>
  (Option.bind (aIs M7 v8 v1 a2) fun M9 =>
  (Option.bind (gR 2 13 M9 a0) fun v10 =>
  (Option.bind (aIs M9 v10 v1 a3) fun M11 =>
  (Option.bind (gR 2 14 M11 a0) fun v12 =>
  (Option.bind (gI 2 2 M11 a0) fun v13 =>
  (Option.bind (aIs M11 v12 v1 ((v13 / (65536 : Int32)) - (v13 / (65536 : Int32)) / (10000 : Int32) * (10000 : Int32))) fun M14 =>
  (Option.bind (gR 2 15 M14 a0) fun v15 =>
  (Option.bind (aIs M14 v15 v1 a5) fun M16 =>
  (Option.bind (gR 2 16 M16 a0) fun v17 =>
  (Option.bind (aIs M16 v17 v1 (-1 : Int32)) fun M18 =>
  (Option.bind (gR 2 17 M18 a0) fun v19 =>
  (Option.bind (aIs M18 v19 v1 (0 : Int32)) fun M20 =>
  (jn (fun  (M21 : Mem) =>
   (Option.bind (gI 2 4 M21 a0) fun v23 =>
   (if v23 = 0 then
    some (v1, M21)
   else
    (Option.bind (gL 2 8 M21 a0) fun v25 =>
    (Option.bind (sV 2 8 M21 a0 (.long (v25 ||| ((1 : Int64) <<< (Int32.toInt64 v1 &&& 63))))) fun M26 =>
    some (v1, M26)
    )
    )
   )
   )
  ) fun k22 =>
  (if a4 = 0 then
   (k22  M20)
  else
   (Option.bind (gL 2 7 M20 a0) fun v28 =>
   (Option.bind (sV 2 7 M20 a0 (.long (v28 ||| ((1 : Int64) <<< (Int32.toInt64 v1 &&& 63))))) fun M29 =>
   (k22  M29)
   )
   )
  )
  )
  )
  )
  )
  )
  )
  )
  )
  )
  )
  )
  )
  )
  )
  )
  )
  )
  )
  )
  )
  )
theorem yk_X2_enrol : yok yX2_enrol 5 := by decide +kernel
set_option maxHeartbeats 4000000 in
set_option maxRecDepth 100000 in
theorem w_X2_enrol {G : gG} (hG : GOK G) {l : Launch} {a0 : Nat} {a1 : Int32} {a2 : Int32} {a3 : Int32} {a4 : Int32} {a5 : Int32} {M : Mem} {r : Int32} {M' : Mem} (hp : p_X2_enrol a0 a1 a2 a3 a4 a5 M = some (r, M')) : CT G l yX2_enrol (wT yX2_enrol cX2_enrol 7 (some FieldType.int)) rm_X2_enrol [.ref a0, .int a1, .int a2, .int a3, .int a4, .int a5] M (some (.int r)) M' 0 0 := by
  refine CT_of (own := RX2) (maxL := 7) (ret := (some FieldType.int)) hG (by decide) rfl (Nat.le_of_ble_eq_true rfl) (fun p e s m below meth c A C0 hr hlk hM ls hl => ?_)
  have hl : lv_has ls 7 [(0, .ref a0), (1, .int a1), (2, .int a2), (3, .int a3), (4, .int a4), (5, .int a5)] := hl
  generalize ([.ref a0, .int a1, .int a2, .int a3, .int a4, .int a5] : List Value).toArray = args at C0 ⊢
  skip
  have hx := C0.1
  have hb := C0.2.1
  have hown := C0.2.2.2.1
  have hts := C0.2.2.2.2.1
  unfold p_X2_enrol at hp
  refine lv_aload_n hx hb dX2_enrol_0 rfl (lv_at hl 0 rfl) ?_
  obtain ⟨v1, hv1, hp⟩ := ob hp
  refine mr_getI C0 cbX2 hM 1 (by decide) tw_135 hv1 dX2_enrol_1 ?_
  refine lv_istore (lv' := [(6, .int v1), (0, .ref a0), (1, .int a1), (2, .int a2), (3, .int a3), (4, .int a4), (5, .int a5)]) hx hb dX2_enrol_4 hl (by decide) rfl (fun ls hl => ?_)
  refine lv_aload_n hx hb dX2_enrol_6 rfl (lv_at hl 1 rfl) ?_
  refine lv_dup hx hb dX2_enrol_7 rfl ?_
  obtain ⟨v2, hv2, hp⟩ := ob hp
  refine mr_getI C0 cbX2 hM 1 (by decide) tw_135 hv2 dX2_enrol_8 ?_
  refine lv_iconst (v := 1) hx hb dX2_enrol_11 (by decide) ?_
  refine lv_iadd hx hb dX2_enrol_12 ?_
  obtain ⟨M3, hM3, hp⟩ := ob hp
  refine mr_putI C0 cbX2 hM 1 (by decide) rfl rfl tw_135 hM3 dX2_enrol_13 (fun H locs hM => ?_)
  refine lv_aload_n hx hb dX2_enrol_16 rfl (lv_at hl 1 rfl) ?_
  refine lv_aload_n hx hb dX2_enrol_17 rfl (lv_at hl 1 rfl) ?_
  obtain ⟨v4, hv4, hp⟩ := ob hp
  refine mr_getI C0 cbX2 hM 2 (by decide) tw_139 hv4 dX2_enrol_18 ?_
  refine lv_ldc (v := 1103515245) hx hb hown (hts _ tw_501) dX2_enrol_21 ?_
  refine lv_imul hx hb dX2_enrol_23 ?_
  refine lv_sipush (v := 12345) hx hb dX2_enrol_24 (by decide) ?_
  refine lv_iadd hx hb dX2_enrol_27 ?_
  refine lv_ldc (v := 2147483647) hx hb hown (hts _ tw_502) dX2_enrol_28 ?_
  refine lv_iand hx hb dX2_enrol_30 ?_
  obtain ⟨M5, hM5, hp⟩ := ob hp
  refine mr_putI C0 cbX2 hM 2 (by decide) rfl rfl tw_139 hM5 dX2_enrol_31 (fun H locs hM => ?_)
  refine lv_aload_n hx hb dX2_enrol_34 rfl (lv_at hl 1 rfl) ?_
  obtain ⟨v6, hv6, hp⟩ := ob hp
  refine mr_getR C0 cbX2 hM 11 (by decide) tw_160 hv6 dX2_enrol_35 ?_
  refine lv_iload hx hb dX2_enrol_38 (lv_at hl 0 rfl) ?_
  refine lv_iload_n hx hb dX2_enrol_40 rfl (lv_at hl 2 rfl) ?_
  obtain ⟨M7, hM7, hp⟩ := ob hp
  refine mr_iast C0 hM hM7 dX2_enrol_41 (fun H locs hM => ?_)
  refine lv_aload_n hx hb dX2_enrol_42 rfl (lv_at hl 1 rfl) ?_
  obtain ⟨v8, hv8, hp⟩ := ob hp
  refine mr_getR C0 cbX2 hM 12 (by decide) tw_162 hv8 dX2_enrol_43 ?_
  refine lv_iload hx hb dX2_enrol_46 (lv_at hl 0 rfl) ?_
  refine lv_iload_n hx hb dX2_enrol_48 rfl (lv_at hl 3 rfl) ?_
  obtain ⟨M9, hM9, hp⟩ := ob hp
  refine mr_iast C0 hM hM9 dX2_enrol_49 (fun H locs hM => ?_)
  refine lv_aload_n hx hb dX2_enrol_50 rfl (lv_at hl 1 rfl) ?_
  obtain ⟨v10, hv10, hp⟩ := ob hp
  refine mr_getR C0 cbX2 hM 13 (by decide) tw_164 hv10 dX2_enrol_51 ?_
  refine lv_iload hx hb dX2_enrol_54 (lv_at hl 0 rfl) ?_
  refine lv_iload_n hx hb dX2_enrol_56 rfl (lv_at hl 4 rfl) ?_
  obtain ⟨M11, hM11, hp⟩ := ob hp
  refine mr_iast C0 hM hM11 dX2_enrol_57 (fun H locs hM => ?_)
  refine lv_aload_n hx hb dX2_enrol_58 rfl (lv_at hl 1 rfl) ?_
  obtain ⟨v12, hv12, hp⟩ := ob hp
  refine mr_getR C0 cbX2 hM 14 (by decide) tw_166 hv12 dX2_enrol_59 ?_
  refine lv_iload hx hb dX2_enrol_62 (lv_at hl 0 rfl) ?_
  refine lv_aload_n hx hb dX2_enrol_64 rfl (lv_at hl 1 rfl) ?_
  obtain ⟨v13, hv13, hp⟩ := ob hp
  refine mr_getI C0 cbX2 hM 2 (by decide) tw_139 hv13 dX2_enrol_65 ?_
  refine lv_ldc (v := 65536) hx hb hown (hts _ tw_503) dX2_enrol_68 ?_
  refine lv_idiv hx hb dX2_enrol_70 (by decide) ?_
  refine lv_sipush (v := 10000) hx hb dX2_enrol_71 (by decide) ?_
  refine lv_irem hx hb dX2_enrol_74 (by decide) ?_
  obtain ⟨M14, hM14, hp⟩ := ob hp
  refine mr_iast C0 hM hM14 dX2_enrol_75 (fun H locs hM => ?_)
  refine lv_aload_n hx hb dX2_enrol_76 rfl (lv_at hl 1 rfl) ?_
  obtain ⟨v15, hv15, hp⟩ := ob hp
  refine mr_getR C0 cbX2 hM 15 (by decide) tw_168 hv15 dX2_enrol_77 ?_
  refine lv_iload hx hb dX2_enrol_80 (lv_at hl 0 rfl) ?_
  refine lv_iload hx hb dX2_enrol_82 (lv_at hl 6 rfl) ?_
  obtain ⟨M16, hM16, hp⟩ := ob hp
  refine mr_iast C0 hM hM16 dX2_enrol_84 (fun H locs hM => ?_)
  refine lv_aload_n hx hb dX2_enrol_85 rfl (lv_at hl 1 rfl) ?_
  obtain ⟨v17, hv17, hp⟩ := ob hp
  refine mr_getR C0 cbX2 hM 16 (by decide) tw_171 hv17 dX2_enrol_86 ?_
  refine lv_iload hx hb dX2_enrol_89 (lv_at hl 0 rfl) ?_
  refine lv_iconst (v := -1) hx hb dX2_enrol_91 (by decide) ?_
  obtain ⟨M18, hM18, hp⟩ := ob hp
  refine mr_iast C0 hM hM18 dX2_enrol_92 (fun H locs hM => ?_)
  refine lv_aload_n hx hb dX2_enrol_93 rfl (lv_at hl 1 rfl) ?_
  obtain ⟨v19, hv19, hp⟩ := ob hp
  refine mr_getR C0 cbX2 hM 17 (by decide) tw_174 hv19 dX2_enrol_94 ?_
  refine lv_iload hx hb dX2_enrol_97 (lv_at hl 0 rfl) ?_
  refine lv_iconst (v := 0) hx hb dX2_enrol_99 (by decide) ?_
  obtain ⟨M20, hM20, hp⟩ := ob hp
  refine mr_iast C0 hM hM20 dX2_enrol_100 (fun H locs hM => ?_)
  refine lv_iload hx hb dX2_enrol_101 (lv_at hl 5 rfl) ?_
  obtain ⟨k22, ek22, hp⟩ := ojn hp
  have hk22 : ∀ (M21 : Mem) (H : Heap) (locs : List Loc) (ls : Array Slot), mm G A s M21 H locs → lv_has ls 7 [(0, .ref a0), (6, .int v1)] → k22  M21 = some (r, M') → W p l e rm_X2_enrol s m args below meth c H locs 0 0 (MQ below (CQ G M' (some (.int r)) A) args s 0 0 A) (F0 m 119 ls []) := by
    intro  M21 H locs ls hM hl hp
    rw [ek22] at hp
    refine lv_aload_n hx hb dX2_enrol_119 rfl (lv_at hl 0 rfl) ?_
    obtain ⟨v23, hv23, hp⟩ := ob hp
    refine mr_getI C0 cbX2 hM 4 (by decide) tw_144 hv23 dX2_enrol_120 ?_
    refine lv_if_eq (tgt := 139) hx hb dX2_enrol_123 (by decide) (fun c24 => ?_) (fun c24 => ?_)
    · replace hp := oT c24 hp
      refine lv_iload hx hb dX2_enrol_139 (lv_at hl 1 rfl) ?_
      exact mr_iret C0 hr hlk hM (Prod.mk.inj (Option.some.inj hp)).2 (Prod.mk.inj (Option.some.inj hp)).1 (Nat.le_refl _) (Nat.le_refl _) dX2_enrol_141
    · replace hp := oF c24 hp
      refine lv_aload_n hx hb dX2_enrol_126 rfl (lv_at hl 0 rfl) ?_
      refine lv_dup hx hb dX2_enrol_127 rfl ?_
      obtain ⟨v25, hv25, hp⟩ := ob hp
      refine mr_getL C0 cbX2 hM 8 (by decide) tw_153 hv25 dX2_enrol_128 ?_
      refine lv_lconst (v := 1) hx hb dX2_enrol_131 (by decide) ?_
      refine lv_iload hx hb dX2_enrol_132 (lv_at hl 1 rfl) ?_
      refine lv_lshl (v := ((1 : Int64) <<< (Int32.toInt64 v1 &&& 63))) hx hb dX2_enrol_134 rfl ?_
      refine lv_lor hx hb dX2_enrol_135 ?_
      obtain ⟨M26, hM26, hp⟩ := ob hp
      refine mr_putL C0 cbX2 hM 8 (by decide) rfl rfl tw_153 hM26 dX2_enrol_136 (fun H locs hM => ?_)
      refine lv_iload hx hb dX2_enrol_139 (lv_at hl 1 rfl) ?_
      exact mr_iret C0 hr hlk hM (Prod.mk.inj (Option.some.inj hp)).2 (Prod.mk.inj (Option.some.inj hp)).1 (Nat.le_refl _) (Nat.le_refl _) dX2_enrol_141
  refine lv_if_eq (tgt := 119) hx hb dX2_enrol_103 (by decide) (fun c27 => ?_) (fun c27 => ?_)
  · replace hp := oT c27 hp
    exact hk22  _ _ _ _ hM (lv_sub hl [1, 0] rfl) hp
  · replace hp := oF c27 hp
    refine lv_aload_n hx hb dX2_enrol_106 rfl (lv_at hl 1 rfl) ?_
    refine lv_dup hx hb dX2_enrol_107 rfl ?_
    obtain ⟨v28, hv28, hp⟩ := ob hp
    refine mr_getL C0 cbX2 hM 7 (by decide) tw_151 hv28 dX2_enrol_108 ?_
    refine lv_lconst (v := 1) hx hb dX2_enrol_111 (by decide) ?_
    refine lv_iload hx hb dX2_enrol_112 (lv_at hl 0 rfl) ?_
    refine lv_lshl (v := ((1 : Int64) <<< (Int32.toInt64 v1 &&& 63))) hx hb dX2_enrol_114 rfl ?_
    refine lv_lor hx hb dX2_enrol_115 ?_
    obtain ⟨M29, hM29, hp⟩ := ob hp
    refine mr_putL C0 cbX2 hM 7 (by decide) rfl rfl tw_151 hM29 dX2_enrol_116 (fun H locs hM => ?_)
    exact hk22  _ _ _ _ hM (lv_sub hl [1, 0] rfl) hp
abbrev rm_X2_firstOf : Room := { frames := 3, cells := 0, slots := 0, locals := 72 }
def pl_X2_firstOf_9 (k1 : Int32 → Option (Int32)) (f0 : Nat) (f1 : Int64) (f3 : Int32) (M : Mem) : Nat → Int32 → Int64 → Int32 → Option (Int32)
  | 0, _, _, _ => none
  | n + 1, y4, y5, y7 =>
    (Option.bind (gI 2 1 M f0) fun v1 =>
    (if v1 ≤ y7 then
     (k1 y4)
    else
     (Option.bind (p_X6_isIn f1 y7 M) fun v3 =>
     (if v3 = 0 then
      (pl_X2_firstOf_9 k1 f0 f1 f3 M n y4 y5 (y7 + (1 : Int32)))
     else
      (Option.bind (isC 2 M f0) fun _ =>
      (Option.bind (p_X2_standing f0 y7 f3 M) fun v6 =>
      (jn (fun (_ : Unit) =>
       (pl_X2_firstOf_9 k1 f0 f1 f3 M n y7 v6 (y7 + (1 : Int32)))
      ) fun k7 =>
      (if y4 = (-1 : Int32) then
       (k7 ())
      else
       (if 0 ≤ (lg_cmp v6 y5) then
        (pl_X2_firstOf_9 k1 f0 f1 f3 M n y4 y5 (y7 + (1 : Int32)))
       else
        (k7 ())
       )
      )
      )
      )
      )
     )
     )
    )
    )
set_option maxHeartbeats 4000000 in
set_option maxRecDepth 100000 in
theorem wl_X2_firstOf_9 {G : gG} {p : Program} {l : Launch} {e : Env} {s : State} {m : MethodId} {args : Array Value} {below : List Frame} {meth : Method} {c : Code} {A : Nat → Prop} {r : Int32} {k1 : Int32 → Option (Int32)} {f0 : Nat} {f1 : Int64} {f3 : Int32} {M : Mem} (C0 : cx G p s m args c cX2_firstOf RX2 10 A) (hr : meth.sig.returnType = (some FieldType.int)) (hlk : meth.locks = false) (hG : GOK G) (hk1 : ∀ (z4 : Int32) (H : Heap) (locs : List Loc) (ls : Array Slot), mm G A s M H locs → lv_has ls 10 [(4, .int z4)] → k1 z4 = some r → W p l e rm_X2_firstOf s m args below meth c H locs 0 0 (MQ below (CQ G M (some (.int r)) A) args s 0 0 A) (F0 m 64 ls [])) : ∀ (n : Nat) (y4 : Int32) (y5 : Int64) (y7 : Int32) (H : Heap) (locs : List Loc) (ls : Array Slot), mm G A s M H locs → lv_has ls 10 [(0, .ref f0), (1, .long f1), (3, .int f3), (4, .int y4), (5, .long y5), (7, .int y7)] → pl_X2_firstOf_9 k1 f0 f1 f3 M n y4 y5 y7 = some r → W p l e rm_X2_firstOf s m args below meth c H locs 0 0 (MQ below (CQ G M (some (.int r)) A) args s 0 0 A) (F0 m 9 ls []) := by
  have hx := C0.1
  have hb := C0.2.1
  have hown := C0.2.2.2.1
  have hts := C0.2.2.2.2.1
  intro n
  induction n with
  | zero => intro y4 y5 y7 H locs ls hM hl hp; rw [pl_X2_firstOf_9] at hp; cases hp
  | succ n ih =>
    intro y4 y5 y7 H locs ls hM hl hp
    rw [pl_X2_firstOf_9] at hp
    refine lv_iload hx hb dX2_firstOf_9 (lv_at hl 5 rfl) ?_
    refine lv_aload_n hx hb dX2_firstOf_11 rfl (lv_at hl 0 rfl) ?_
    obtain ⟨v1, hv1, hp⟩ := ob hp
    refine mr_getI C0 cbX2 hM 1 (by decide) tw_135 hv1 dX2_firstOf_12 ?_
    refine lv_icmp_ge (tgt := 64) hx hb dX2_firstOf_15 (by decide) (fun c2 => ?_) (fun c2 => ?_)
    · replace hp := oT c2 hp
      exact hk1 _ _ _ _ hM (lv_sub hl [3] rfl) hp
    · replace hp := oF c2 hp
      refine lv_lload_n hx hb dX2_firstOf_18 rfl (lv_at hl 1 rfl) ?_
      refine lv_iload hx hb dX2_firstOf_19 (lv_at hl 5 rfl) ?_
      obtain ⟨v3, hv3, hp⟩ := ob hp
      refine mr_N1 (As := [.long f1, .int y7]) (rest := []) C0 hM (w_X6_isIn hG hv3) tw_581 tw_558 tw_15 tw_559 yk_X6_isIn (by decide) rfl hl.1 (Nat.le_of_ble_eq_true rfl) dX2_firstOf_21 rfl (fun H locs hM => ?_)
      refine lv_if_eq (tgt := 58) hx hb dX2_firstOf_24 (by decide) (fun c4 => ?_) (fun c4 => ?_)
      · replace hp := oT c4 hp
        refine lv_iinc (v := (y7 + (1 : Int32))) (lv' := [(7, .int (y7 + (1 : Int32))), (0, .ref f0), (1, .long f1), (3, .int f3), (4, .int y4), (5, .long y5)]) hx hb dX2_firstOf_58 hl (k := 5) rfl rfl (by decide) rfl (fun ls hl => ?_)
        refine lv_goto (tgt := 9) hx hb dX2_firstOf_61 (by decide) ?_
        exact ih _ _ _ _ _ _ hM (lv_sub hl [1, 2, 3, 4, 5, 0] rfl) hp
      · replace hp := oF c4 hp
        refine lv_aload_n hx hb dX2_firstOf_27 rfl (lv_at hl 0 rfl) ?_
        refine lv_iload hx hb dX2_firstOf_28 (lv_at hl 5 rfl) ?_
        refine lv_iload_n hx hb dX2_firstOf_30 rfl (lv_at hl 2 rfl) ?_
        obtain ⟨_, h5, hp⟩ := ob hp
        obtain ⟨v6, hv6, hp⟩ := ob hp
        refine mr_V1 (As := [.int y7, .int f3]) (rest := []) C0 cbX2 hM h5 rfl (w_X2_standing hG hv6) tw_582 tw_583 tw_584 tw_17 tw_585 yk_X2_standing (by decide) rfl hl.1 (Nat.le_of_ble_eq_true rfl) dX2_firstOf_31 rfl (fun H locs hM => ?_)
        refine lv_lstore (lv' := [(8, .long v6), (0, .ref f0), (1, .long f1), (3, .int f3), (4, .int y4), (5, .long y5), (7, .int y7)]) hx hb dX2_firstOf_34 hl (by decide) rfl (fun ls hl => ?_)
        refine lv_iload hx hb dX2_firstOf_36 (lv_at hl 4 rfl) ?_
        refine lv_iconst (v := -1) hx hb dX2_firstOf_38 (by decide) ?_
        obtain ⟨k7, ek7, hp⟩ := ojn hp
        have hk7 : ∀ (H : Heap) (locs : List Loc) (ls : Array Slot), mm G A s M H locs → lv_has ls 10 [(0, .ref f0), (1, .long f1), (3, .int f3), (7, .int y7), (8, .long v6)] → k7 () = some r → W p l e rm_X2_firstOf s m args below meth c H locs 0 0 (MQ below (CQ G M (some (.int r)) A) args s 0 0 A) (F0 m 50 ls []) := by
          intro  H locs ls hM hl hp
          rw [ek7] at hp
          refine lv_iload hx hb dX2_firstOf_50 (lv_at hl 3 rfl) ?_
          refine lv_istore (lv' := [(4, .int y7), (0, .ref f0), (1, .long f1), (3, .int f3), (7, .int y7), (8, .long v6)]) hx hb dX2_firstOf_52 hl (by decide) rfl (fun ls hl => ?_)
          refine lv_lload hx hb dX2_firstOf_54 (lv_at hl 5 rfl) ?_
          refine lv_lstore (lv' := [(5, .long v6), (4, .int y7), (0, .ref f0), (1, .long f1), (3, .int f3), (7, .int y7), (8, .long v6)]) hx hb dX2_firstOf_56 hl (by decide) rfl (fun ls hl => ?_)
          refine lv_iinc (v := (y7 + (1 : Int32))) (lv' := [(7, .int (y7 + (1 : Int32))), (5, .long v6), (4, .int y7), (0, .ref f0), (1, .long f1), (3, .int f3), (8, .long v6)]) hx hb dX2_firstOf_58 hl (k := 5) rfl rfl (by decide) rfl (fun ls hl => ?_)
          refine lv_goto (tgt := 9) hx hb dX2_firstOf_61 (by decide) ?_
          exact ih _ _ _ _ _ _ hM (lv_sub hl [3, 4, 5, 2, 1, 0] rfl) hp
        refine lv_icmp_eq (tgt := 50) hx hb dX2_firstOf_39 (by decide) (fun c8 => ?_) (fun c8 => ?_)
        · replace hp := oT c8 hp
          exact hk7  _ _ _ hM (lv_sub hl [1, 2, 3, 6, 0] rfl) hp
        · replace hp := oF c8 hp
          refine lv_lload hx hb dX2_firstOf_42 (lv_at hl 0 rfl) ?_
          refine lv_lload hx hb dX2_firstOf_44 (lv_at hl 5 rfl) ?_
          refine W.lcmp hx hb dX2_firstOf_46 ?_
          refine lv_if_ge (tgt := 58) hx hb dX2_firstOf_47 (by decide) (fun c9 => ?_) (fun c9 => ?_)
          · replace hp := oT c9 hp
            refine lv_iinc (v := (y7 + (1 : Int32))) (lv' := [(7, .int (y7 + (1 : Int32))), (8, .long v6), (0, .ref f0), (1, .long f1), (3, .int f3), (4, .int y4), (5, .long y5)]) hx hb dX2_firstOf_58 hl (k := 6) rfl rfl (by decide) rfl (fun ls hl => ?_)
            refine lv_goto (tgt := 9) hx hb dX2_firstOf_61 (by decide) ?_
            exact ih _ _ _ _ _ _ hM (lv_sub hl [2, 3, 4, 5, 6, 0] rfl) hp
          · replace hp := oF c9 hp
            exact hk7  _ _ _ hM (lv_sub hl [1, 2, 3, 6, 0] rfl) hp
def p_X2_firstOf (a0 : Nat) (a1 : Int64) (a3 : Int32) (M : Mem) : Option (Int32) :=
  (pl_X2_firstOf_9
   (fun (z10 : Int32) =>
    some z10
   )
   a0 a1 a3 M FU (-1 : Int32) (0 : Int64) (0 : Int32))
theorem yk_X2_firstOf : yok yX2_firstOf 2 := by decide +kernel
set_option maxHeartbeats 4000000 in
set_option maxRecDepth 100000 in
theorem w_X2_firstOf {G : gG} (hG : GOK G) {l : Launch} {a0 : Nat} {a1 : Int64} {a3 : Int32} {M : Mem} {r : Int32} (hp : p_X2_firstOf a0 a1 a3 M = some r) : CT G l yX2_firstOf (wT yX2_firstOf cX2_firstOf 10 (some FieldType.int)) rm_X2_firstOf [.ref a0, .long a1, .int a3] M (some (.int r)) M 0 0 := by
  refine CT_of (own := RX2) (maxL := 10) (ret := (some FieldType.int)) hG (by decide) rfl (Nat.le_of_ble_eq_true rfl) (fun p e s m below meth c A C0 hr hlk hM ls hl => ?_)
  have hl : lv_has ls 10 [(0, .ref a0), (1, .long a1), (3, .int a3)] := hl
  generalize ([.ref a0, .long a1, .int a3] : List Value).toArray = args at C0 ⊢
  skip
  have hx := C0.1
  have hb := C0.2.1
  have hown := C0.2.2.2.1
  have hts := C0.2.2.2.2.1
  unfold p_X2_firstOf at hp
  refine lv_iconst (v := -1) hx hb dX2_firstOf_0 (by decide) ?_
  refine lv_istore (lv' := [(4, .int (-1 : Int32)), (0, .ref a0), (1, .long a1), (3, .int a3)]) hx hb dX2_firstOf_1 hl (by decide) rfl (fun ls hl => ?_)
  refine lv_lconst (v := 0) hx hb dX2_firstOf_3 (by decide) ?_
  refine lv_lstore (lv' := [(5, .long (0 : Int64)), (4, .int (-1 : Int32)), (0, .ref a0), (1, .long a1), (3, .int a3)]) hx hb dX2_firstOf_4 hl (by decide) rfl (fun ls hl => ?_)
  refine lv_iconst (v := 0) hx hb dX2_firstOf_6 (by decide) ?_
  refine lv_istore (lv' := [(7, .int (0 : Int32)), (5, .long (0 : Int64)), (4, .int (-1 : Int32)), (0, .ref a0), (1, .long a1), (3, .int a3)]) hx hb dX2_firstOf_7 hl (by decide) rfl (fun ls hl => ?_)
  refine wl_X2_firstOf_9 C0 hr hlk hG (fun z10 H locs ls hM hl hp => ?_) FU _ _ _ _ _ _ hM (lv_sub hl [3, 4, 5, 2, 1, 0] rfl) hp
  refine lv_iload hx hb dX2_firstOf_64 (lv_at hl 0 rfl) ?_
  exact mr_iret C0 hr hlk hM rfl (Option.some.inj hp) (Nat.le_refl _) (Nat.le_refl _) dX2_firstOf_66
abbrev rm_X2_aheadOf : Room := { frames := 3, cells := 0, slots := 0, locals := 72 }
def pl_X2_aheadOf_15 (k1 : Int32 → Option (Int32)) (f0 : Nat) (f2 : Int64) (f4 : Int32) (f5 : Int64) (M : Mem) : Nat → Int32 → Int32 → Option (Int32)
  | 0, _, _ => none
  | n + 1, y7, y8 =>
    (Option.bind (gI 2 1 M f0) fun v3 =>
    (if v3 ≤ y8 then
     (k1 y7)
    else
     (Option.bind (p_X6_isIn f2 y8 M) fun v5 =>
     (if v5 = 0 then
      (pl_X2_aheadOf_15 k1 f0 f2 f4 f5 M n y7 (y8 + (1 : Int32)))
     else
      (Option.bind (isC 2 M f0) fun _ =>
      (Option.bind (p_X2_standing f0 y8 f4 M) fun v8 =>
      (if 0 ≤ (lg_cmp v8 f5) then
       (pl_X2_aheadOf_15 k1 f0 f2 f4 f5 M n y7 (y8 + (1 : Int32)))
      else
       (pl_X2_aheadOf_15 k1 f0 f2 f4 f5 M n (y7 + (1 : Int32)) (y8 + (1 : Int32)))
      )
      )
      )
     )
     )
    )
    )
set_option maxHeartbeats 4000000 in
set_option maxRecDepth 100000 in
theorem wl_X2_aheadOf_15 {G : gG} {p : Program} {l : Launch} {e : Env} {s : State} {m : MethodId} {args : Array Value} {below : List Frame} {meth : Method} {c : Code} {A : Nat → Prop} {r : Int32} {k1 : Int32 → Option (Int32)} {f0 : Nat} {f2 : Int64} {f4 : Int32} {f5 : Int64} {M : Mem} (C0 : cx G p s m args c cX2_aheadOf RX2 9 A) (hr : meth.sig.returnType = (some FieldType.int)) (hlk : meth.locks = false) (hG : GOK G) (hk1 : ∀ (z7 : Int32) (H : Heap) (locs : List Loc) (ls : Array Slot), mm G A s M H locs → lv_has ls 9 [(7, .int z7)] → k1 z7 = some r → W p l e rm_X2_aheadOf s m args below meth c H locs 0 0 (MQ below (CQ G M (some (.int r)) A) args s 0 0 A) (F0 m 56 ls [])) : ∀ (n : Nat) (y7 : Int32) (y8 : Int32) (H : Heap) (locs : List Loc) (ls : Array Slot), mm G A s M H locs → lv_has ls 9 [(0, .ref f0), (2, .long f2), (4, .int f4), (5, .long f5), (7, .int y7), (8, .int y8)] → pl_X2_aheadOf_15 k1 f0 f2 f4 f5 M n y7 y8 = some r → W p l e rm_X2_aheadOf s m args below meth c H locs 0 0 (MQ below (CQ G M (some (.int r)) A) args s 0 0 A) (F0 m 15 ls []) := by
  have hx := C0.1
  have hb := C0.2.1
  have hown := C0.2.2.2.1
  have hts := C0.2.2.2.2.1
  intro n
  induction n with
  | zero => intro y7 y8 H locs ls hM hl hp; rw [pl_X2_aheadOf_15] at hp; cases hp
  | succ n ih =>
    intro y7 y8 H locs ls hM hl hp
    rw [pl_X2_aheadOf_15] at hp
    refine lv_iload hx hb dX2_aheadOf_15 (lv_at hl 5 rfl) ?_
    refine lv_aload_n hx hb dX2_aheadOf_17 rfl (lv_at hl 0 rfl) ?_
    obtain ⟨v3, hv3, hp⟩ := ob hp
    refine mr_getI C0 cbX2 hM 1 (by decide) tw_135 hv3 dX2_aheadOf_18 ?_
    refine lv_icmp_ge (tgt := 56) hx hb dX2_aheadOf_21 (by decide) (fun c4 => ?_) (fun c4 => ?_)
    · replace hp := oT c4 hp
      exact hk1 _ _ _ _ hM (lv_sub hl [4] rfl) hp
    · replace hp := oF c4 hp
      refine lv_lload_n hx hb dX2_aheadOf_24 rfl (lv_at hl 1 rfl) ?_
      refine lv_iload hx hb dX2_aheadOf_25 (lv_at hl 5 rfl) ?_
      obtain ⟨v5, hv5, hp⟩ := ob hp
      refine mr_N1 (As := [.long f2, .int y8]) (rest := []) C0 hM (w_X6_isIn hG hv5) tw_581 tw_558 tw_15 tw_559 yk_X6_isIn (by decide) rfl hl.1 (Nat.le_of_ble_eq_true rfl) dX2_aheadOf_27 rfl (fun H locs hM => ?_)
      refine lv_if_eq (tgt := 50) hx hb dX2_aheadOf_30 (by decide) (fun c6 => ?_) (fun c6 => ?_)
      · replace hp := oT c6 hp
        refine lv_iinc (v := (y8 + (1 : Int32))) (lv' := [(8, .int (y8 + (1 : Int32))), (0, .ref f0), (2, .long f2), (4, .int f4), (5, .long f5), (7, .int y7)]) hx hb dX2_aheadOf_50 hl (k := 5) rfl rfl (by decide) rfl (fun ls hl => ?_)
        refine lv_goto (tgt := 15) hx hb dX2_aheadOf_53 (by decide) ?_
        exact ih _ _ _ _ _ hM (lv_sub hl [1, 2, 3, 4, 5, 0] rfl) hp
      · replace hp := oF c6 hp
        refine lv_aload_n hx hb dX2_aheadOf_33 rfl (lv_at hl 0 rfl) ?_
        refine lv_iload hx hb dX2_aheadOf_34 (lv_at hl 5 rfl) ?_
        refine lv_iload hx hb dX2_aheadOf_36 (lv_at hl 2 rfl) ?_
        obtain ⟨_, h7, hp⟩ := ob hp
        obtain ⟨v8, hv8, hp⟩ := ob hp
        refine mr_V1 (As := [.int y8, .int f4]) (rest := []) C0 cbX2 hM h7 rfl (w_X2_standing hG hv8) tw_582 tw_583 tw_584 tw_17 tw_585 yk_X2_standing (by decide) rfl hl.1 (Nat.le_of_ble_eq_true rfl) dX2_aheadOf_38 rfl (fun H locs hM => ?_)
        refine lv_lload hx hb dX2_aheadOf_41 (lv_at hl 3 rfl) ?_
        refine W.lcmp hx hb dX2_aheadOf_43 ?_
        refine lv_if_ge (tgt := 50) hx hb dX2_aheadOf_44 (by decide) (fun c9 => ?_) (fun c9 => ?_)
        · replace hp := oT c9 hp
          refine lv_iinc (v := (y8 + (1 : Int32))) (lv' := [(8, .int (y8 + (1 : Int32))), (0, .ref f0), (2, .long f2), (4, .int f4), (5, .long f5), (7, .int y7)]) hx hb dX2_aheadOf_50 hl (k := 5) rfl rfl (by decide) rfl (fun ls hl => ?_)
          refine lv_goto (tgt := 15) hx hb dX2_aheadOf_53 (by decide) ?_
          exact ih _ _ _ _ _ hM (lv_sub hl [1, 2, 3, 4, 5, 0] rfl) hp
        · replace hp := oF c9 hp
          refine lv_iinc (v := (y7 + (1 : Int32))) (lv' := [(7, .int (y7 + (1 : Int32))), (0, .ref f0), (2, .long f2), (4, .int f4), (5, .long f5), (8, .int y8)]) hx hb dX2_aheadOf_47 hl (k := 4) rfl rfl (by decide) rfl (fun ls hl => ?_)
          refine lv_iinc (v := (y8 + (1 : Int32))) (lv' := [(8, .int (y8 + (1 : Int32))), (7, .int (y7 + (1 : Int32))), (0, .ref f0), (2, .long f2), (4, .int f4), (5, .long f5)]) hx hb dX2_aheadOf_50 hl (k := 5) rfl rfl (by decide) rfl (fun ls hl => ?_)
          refine lv_goto (tgt := 15) hx hb dX2_aheadOf_53 (by decide) ?_
          exact ih _ _ _ _ _ hM (lv_sub hl [2, 3, 4, 5, 1, 0] rfl) hp
def p_X2_aheadOf (a0 : Nat) (a1 : Int32) (a2 : Int64) (a4 : Int32) (M : Mem) : Option (Int32) :=
  (Option.bind (isC 2 M a0) fun _ =>
  (Option.bind (p_X2_standing a0 a1 a4 M) fun v2 =>
  (pl_X2_aheadOf_15
   (fun (z10 : Int32) =>
    some z10
   )
   a0 a2 a4 v2 M FU (0 : Int32) (0 : Int32))
  )
  )
theorem yk_X2_aheadOf : yok yX2_aheadOf 3 := by decide +kernel
set_option maxHeartbeats 4000000 in
set_option maxRecDepth 100000 in
theorem w_X2_aheadOf {G : gG} (hG : GOK G) {l : Launch} {a0 : Nat} {a1 : Int32} {a2 : Int64} {a4 : Int32} {M : Mem} {r : Int32} (hp : p_X2_aheadOf a0 a1 a2 a4 M = some r) : CT G l yX2_aheadOf (wT yX2_aheadOf cX2_aheadOf 9 (some FieldType.int)) rm_X2_aheadOf [.ref a0, .int a1, .long a2, .int a4] M (some (.int r)) M 0 0 := by
  refine CT_of (own := RX2) (maxL := 9) (ret := (some FieldType.int)) hG (by decide) rfl (Nat.le_of_ble_eq_true rfl) (fun p e s m below meth c A C0 hr hlk hM ls hl => ?_)
  have hl : lv_has ls 9 [(0, .ref a0), (1, .int a1), (2, .long a2), (4, .int a4)] := hl
  generalize ([.ref a0, .int a1, .long a2, .int a4] : List Value).toArray = args at C0 ⊢
  skip
  have hx := C0.1
  have hb := C0.2.1
  have hown := C0.2.2.2.1
  have hts := C0.2.2.2.2.1
  unfold p_X2_aheadOf at hp
  refine lv_aload_n hx hb dX2_aheadOf_0 rfl (lv_at hl 0 rfl) ?_
  refine lv_iload_n hx hb dX2_aheadOf_1 rfl (lv_at hl 1 rfl) ?_
  refine lv_iload hx hb dX2_aheadOf_2 (lv_at hl 3 rfl) ?_
  obtain ⟨_, h1, hp⟩ := ob hp
  obtain ⟨v2, hv2, hp⟩ := ob hp
  refine mr_V1 (As := [.int a1, .int a4]) (rest := []) C0 cbX2 hM h1 rfl (w_X2_standing hG hv2) tw_582 tw_583 tw_584 tw_17 tw_585 yk_X2_standing (by decide) rfl hl.1 (Nat.le_of_ble_eq_true rfl) dX2_aheadOf_4 rfl (fun H locs hM => ?_)
  refine lv_lstore (lv' := [(5, .long v2), (0, .ref a0), (1, .int a1), (2, .long a2), (4, .int a4)]) hx hb dX2_aheadOf_7 hl (by decide) rfl (fun ls hl => ?_)
  refine lv_iconst (v := 0) hx hb dX2_aheadOf_9 (by decide) ?_
  refine lv_istore (lv' := [(7, .int (0 : Int32)), (5, .long v2), (0, .ref a0), (1, .int a1), (2, .long a2), (4, .int a4)]) hx hb dX2_aheadOf_10 hl (by decide) rfl (fun ls hl => ?_)
  refine lv_iconst (v := 0) hx hb dX2_aheadOf_12 (by decide) ?_
  refine lv_istore (lv' := [(8, .int (0 : Int32)), (7, .int (0 : Int32)), (5, .long v2), (0, .ref a0), (1, .int a1), (2, .long a2), (4, .int a4)]) hx hb dX2_aheadOf_13 hl (by decide) rfl (fun ls hl => ?_)
  refine wl_X2_aheadOf_15 C0 hr hlk hG (fun z10 H locs ls hM hl hp => ?_) FU _ _ _ _ _ hM (lv_sub hl [3, 5, 6, 2, 1, 0] rfl) hp
  refine lv_iload hx hb dX2_aheadOf_56 (lv_at hl 0 rfl) ?_
  exact mr_iret C0 hr hlk hM rfl (Option.some.inj hp) (Nat.le_refl _) (Nat.le_refl _) dX2_aheadOf_58
abbrev rm_X2_orderedOf : Room := { frames := 4, cells := 0, slots := 0, locals := 100 }
def pl_X2_orderedOf_3 (k1 : Int32 → Option (Int32)) (k2 : Unit → Option (Int32)) (f0 : Nat) (f1 : Int64) (f3 : Int32) (f4 : Int32) (M : Mem) : Nat → Int32 → Option (Int32)
  | 0, _ => none
  | n + 1, y5 =>
    (Option.bind (gI 2 1 M f0) fun v1 =>
    (if v1 ≤ y5 then
     (k2 ())
    else
     (Option.bind (p_X6_isIn f1 y5 M) fun v3 =>
     (if v3 = 0 then
      (pl_X2_orderedOf_3 k1 k2 f0 f1 f3 f4 M n (y5 + (1 : Int32)))
     else
      (Option.bind (isC 2 M f0) fun _ =>
      (Option.bind (p_X2_aheadOf f0 y5 f1 f3 M) fun v6 =>
      (if v6 = f4 then
       (k1 y5)
      else
       (pl_X2_orderedOf_3 k1 k2 f0 f1 f3 f4 M n (y5 + (1 : Int32)))
      )
      )
      )
     )
     )
    )
    )
set_option maxHeartbeats 4000000 in
set_option maxRecDepth 100000 in
theorem wl_X2_orderedOf_3 {G : gG} {p : Program} {l : Launch} {e : Env} {s : State} {m : MethodId} {args : Array Value} {below : List Frame} {meth : Method} {c : Code} {A : Nat → Prop} {r : Int32} {k1 : Int32 → Option (Int32)} {k2 : Unit → Option (Int32)} {f0 : Nat} {f1 : Int64} {f3 : Int32} {f4 : Int32} {M : Mem} (C0 : cx G p s m args c cX2_orderedOf RX2 6 A) (hr : meth.sig.returnType = (some FieldType.int)) (hlk : meth.locks = false) (hG : GOK G) (hk1 : ∀ (z5 : Int32) (H : Heap) (locs : List Loc) (ls : Array Slot), mm G A s M H locs → lv_has ls 6 [(5, .int z5)] → k1 z5 = some r → W p l e rm_X2_orderedOf s m args below meth c H locs 0 0 (MQ below (CQ G M (some (.int r)) A) args s 0 0 A) (F0 m 34 ls [])) (hk2 : ∀ (H : Heap) (locs : List Loc) (ls : Array Slot), mm G A s M H locs → lv_has ls 6 [] → k2 () = some r → W p l e rm_X2_orderedOf s m args below meth c H locs 0 0 (MQ below (CQ G M (some (.int r)) A) args s 0 0 A) (F0 m 43 ls [])) : ∀ (n : Nat) (y5 : Int32) (H : Heap) (locs : List Loc) (ls : Array Slot), mm G A s M H locs → lv_has ls 6 [(0, .ref f0), (1, .long f1), (3, .int f3), (4, .int f4), (5, .int y5)] → pl_X2_orderedOf_3 k1 k2 f0 f1 f3 f4 M n y5 = some r → W p l e rm_X2_orderedOf s m args below meth c H locs 0 0 (MQ below (CQ G M (some (.int r)) A) args s 0 0 A) (F0 m 3 ls []) := by
  have hx := C0.1
  have hb := C0.2.1
  have hown := C0.2.2.2.1
  have hts := C0.2.2.2.2.1
  intro n
  induction n with
  | zero => intro y5 H locs ls hM hl hp; rw [pl_X2_orderedOf_3] at hp; cases hp
  | succ n ih =>
    intro y5 H locs ls hM hl hp
    rw [pl_X2_orderedOf_3] at hp
    refine lv_iload hx hb dX2_orderedOf_3 (lv_at hl 4 rfl) ?_
    refine lv_aload_n hx hb dX2_orderedOf_5 rfl (lv_at hl 0 rfl) ?_
    obtain ⟨v1, hv1, hp⟩ := ob hp
    refine mr_getI C0 cbX2 hM 1 (by decide) tw_135 hv1 dX2_orderedOf_6 ?_
    refine lv_icmp_ge (tgt := 43) hx hb dX2_orderedOf_9 (by decide) (fun c2 => ?_) (fun c2 => ?_)
    · replace hp := oT c2 hp
      exact hk2  _ _ _ hM (lv_sub hl [] rfl) hp
    · replace hp := oF c2 hp
      refine lv_lload_n hx hb dX2_orderedOf_12 rfl (lv_at hl 1 rfl) ?_
      refine lv_iload hx hb dX2_orderedOf_13 (lv_at hl 4 rfl) ?_
      obtain ⟨v3, hv3, hp⟩ := ob hp
      refine mr_N1 (As := [.long f1, .int y5]) (rest := []) C0 hM (w_X6_isIn hG hv3) tw_581 tw_558 tw_15 tw_559 yk_X6_isIn (by decide) rfl hl.1 (Nat.le_of_ble_eq_true rfl) dX2_orderedOf_15 rfl (fun H locs hM => ?_)
      refine lv_if_eq (tgt := 37) hx hb dX2_orderedOf_18 (by decide) (fun c4 => ?_) (fun c4 => ?_)
      · replace hp := oT c4 hp
        refine lv_iinc (v := (y5 + (1 : Int32))) (lv' := [(5, .int (y5 + (1 : Int32))), (0, .ref f0), (1, .long f1), (3, .int f3), (4, .int f4)]) hx hb dX2_orderedOf_37 hl (k := 4) rfl rfl (by decide) rfl (fun ls hl => ?_)
        refine lv_goto (tgt := 3) hx hb dX2_orderedOf_40 (by decide) ?_
        exact ih _ _ _ _ hM (lv_sub hl [1, 2, 3, 4, 0] rfl) hp
      · replace hp := oF c4 hp
        refine lv_aload_n hx hb dX2_orderedOf_21 rfl (lv_at hl 0 rfl) ?_
        refine lv_iload hx hb dX2_orderedOf_22 (lv_at hl 4 rfl) ?_
        refine lv_lload_n hx hb dX2_orderedOf_24 rfl (lv_at hl 1 rfl) ?_
        refine lv_iload_n hx hb dX2_orderedOf_25 rfl (lv_at hl 2 rfl) ?_
        obtain ⟨_, h5, hp⟩ := ob hp
        obtain ⟨v6, hv6, hp⟩ := ob hp
        refine mr_V1 (As := [.int y5, .long f1, .int f3]) (rest := []) C0 cbX2 hM h5 rfl (w_X2_aheadOf hG hv6) tw_1763 tw_1735 tw_1736 tw_17 tw_1737 yk_X2_aheadOf (by decide) rfl hl.1 (Nat.le_of_ble_eq_true rfl) dX2_orderedOf_26 rfl (fun H locs hM => ?_)
        refine lv_iload hx hb dX2_orderedOf_29 (lv_at hl 3 rfl) ?_
        refine lv_icmp_ne (tgt := 37) hx hb dX2_orderedOf_31 (by decide) (fun c7 => ?_) (fun c7 => ?_)
        · replace hp := oF c7 hp
          refine lv_iinc (v := (y5 + (1 : Int32))) (lv' := [(5, .int (y5 + (1 : Int32))), (0, .ref f0), (1, .long f1), (3, .int f3), (4, .int f4)]) hx hb dX2_orderedOf_37 hl (k := 4) rfl rfl (by decide) rfl (fun ls hl => ?_)
          refine lv_goto (tgt := 3) hx hb dX2_orderedOf_40 (by decide) ?_
          exact ih _ _ _ _ hM (lv_sub hl [1, 2, 3, 4, 0] rfl) hp
        · replace hp := oT c7 hp
          exact hk1 _ _ _ _ hM (lv_sub hl [4] rfl) hp
def p_X2_orderedOf (a0 : Nat) (a1 : Int64) (a3 : Int32) (a4 : Int32) (M : Mem) : Option (Int32) :=
  (pl_X2_orderedOf_3
   (fun (z8 : Int32) =>
    some z8
   )
   (fun (_ : Unit) =>
    some (-1 : Int32)
   )
   a0 a1 a3 a4 M FU (0 : Int32))
theorem yk_X2_orderedOf : yok yX2_orderedOf 3 := by decide +kernel
set_option maxHeartbeats 4000000 in
set_option maxRecDepth 100000 in
theorem w_X2_orderedOf {G : gG} (hG : GOK G) {l : Launch} {a0 : Nat} {a1 : Int64} {a3 : Int32} {a4 : Int32} {M : Mem} {r : Int32} (hp : p_X2_orderedOf a0 a1 a3 a4 M = some r) : CT G l yX2_orderedOf (wT yX2_orderedOf cX2_orderedOf 6 (some FieldType.int)) rm_X2_orderedOf [.ref a0, .long a1, .int a3, .int a4] M (some (.int r)) M 0 0 := by
  refine CT_of (own := RX2) (maxL := 6) (ret := (some FieldType.int)) hG (by decide) rfl (Nat.le_of_ble_eq_true rfl) (fun p e s m below meth c A C0 hr hlk hM ls hl => ?_)
  have hl : lv_has ls 6 [(0, .ref a0), (1, .long a1), (3, .int a3), (4, .int a4)] := hl
  generalize ([.ref a0, .long a1, .int a3, .int a4] : List Value).toArray = args at C0 ⊢
  skip
  have hx := C0.1
  have hb := C0.2.1
  have hown := C0.2.2.2.1
  have hts := C0.2.2.2.2.1
  unfold p_X2_orderedOf at hp
  refine lv_iconst (v := 0) hx hb dX2_orderedOf_0 (by decide) ?_
  refine lv_istore (lv' := [(5, .int (0 : Int32)), (0, .ref a0), (1, .long a1), (3, .int a3), (4, .int a4)]) hx hb dX2_orderedOf_1 hl (by decide) rfl (fun ls hl => ?_)
  refine wl_X2_orderedOf_3 C0 hr hlk hG (fun z8 H locs ls hM hl hp => ?_) (fun  H locs ls hM hl hp => ?_) FU _ _ _ _ hM (lv_sub hl [1, 2, 3, 4, 0] rfl) hp
  · refine lv_iload hx hb dX2_orderedOf_34 (lv_at hl 0 rfl) ?_
    exact mr_iret C0 hr hlk hM rfl (Option.some.inj hp) (Nat.le_refl _) (Nat.le_refl _) dX2_orderedOf_36
  · refine lv_iconst (v := -1) hx hb dX2_orderedOf_43 (by decide) ?_
    exact mr_iret C0 hr hlk hM rfl (Option.some.inj hp) (Nat.le_refl _) (Nat.le_refl _) dX2_orderedOf_44
abbrev rm_X2_placedOnes : Room := { frames := 0, cells := 0, slots := 0, locals := 0 }
def pl_X2_placedOnes_4 (k1 : Int64 → Option (Int64)) (f0 : Nat) (M : Mem) : Nat → Int64 → Int32 → Option (Int64)
  | 0, _, _ => none
  | n + 1, y1, y3 =>
    (Option.bind (gI 2 1 M f0) fun v1 =>
    (if v1 ≤ y3 then
     (k1 y1)
    else
     (Option.bind (gR 2 16 M f0) fun v3 =>
     (Option.bind (aI 0 M v3 y3) fun v4 =>
     (if v4 = (-1 : Int32) then
      (pl_X2_placedOnes_4 k1 f0 M n y1 (y3 + (1 : Int32)))
     else
      (pl_X2_placedOnes_4 k1 f0 M n (y1 ||| ((1 : Int64) <<< (Int32.toInt64 y3 &&& 63))) (y3 + (1 : Int32)))
     )
     )
     )
    )
    )
set_option maxHeartbeats 4000000 in
set_option maxRecDepth 100000 in
theorem wl_X2_placedOnes_4 {G : gG} {p : Program} {l : Launch} {e : Env} {s : State} {m : MethodId} {args : Array Value} {below : List Frame} {meth : Method} {c : Code} {A : Nat → Prop} {r : Int64} {k1 : Int64 → Option (Int64)} {f0 : Nat} {M : Mem} (C0 : cx G p s m args c cX2_placedOnes RX2 4 A) (hr : meth.sig.returnType = (some FieldType.long)) (hlk : meth.locks = false) (hG : GOK G) (hk1 : ∀ (z1 : Int64) (H : Heap) (locs : List Loc) (ls : Array Slot), mm G A s M H locs → lv_has ls 4 [(1, .long z1)] → k1 z1 = some r → W p l e rm_X2_placedOnes s m args below meth c H locs 0 0 (MQ below (CQ G M (some (.long r)) A) args s 0 0 A) (F0 m 34 ls [])) : ∀ (n : Nat) (y1 : Int64) (y3 : Int32) (H : Heap) (locs : List Loc) (ls : Array Slot), mm G A s M H locs → lv_has ls 4 [(0, .ref f0), (1, .long y1), (3, .int y3)] → pl_X2_placedOnes_4 k1 f0 M n y1 y3 = some r → W p l e rm_X2_placedOnes s m args below meth c H locs 0 0 (MQ below (CQ G M (some (.long r)) A) args s 0 0 A) (F0 m 4 ls []) := by
  have hx := C0.1
  have hb := C0.2.1
  have hown := C0.2.2.2.1
  have hts := C0.2.2.2.2.1
  intro n
  induction n with
  | zero => intro y1 y3 H locs ls hM hl hp; rw [pl_X2_placedOnes_4] at hp; cases hp
  | succ n ih =>
    intro y1 y3 H locs ls hM hl hp
    rw [pl_X2_placedOnes_4] at hp
    refine lv_iload_n hx hb dX2_placedOnes_4 rfl (lv_at hl 2 rfl) ?_
    refine lv_aload_n hx hb dX2_placedOnes_5 rfl (lv_at hl 0 rfl) ?_
    obtain ⟨v1, hv1, hp⟩ := ob hp
    refine mr_getI C0 cbX2 hM 1 (by decide) tw_135 hv1 dX2_placedOnes_6 ?_
    refine lv_icmp_ge (tgt := 34) hx hb dX2_placedOnes_9 (by decide) (fun c2 => ?_) (fun c2 => ?_)
    · replace hp := oT c2 hp
      exact hk1 _ _ _ _ hM (lv_sub hl [1] rfl) hp
    · replace hp := oF c2 hp
      refine lv_aload_n hx hb dX2_placedOnes_12 rfl (lv_at hl 0 rfl) ?_
      obtain ⟨v3, hv3, hp⟩ := ob hp
      refine mr_getR C0 cbX2 hM 16 (by decide) tw_171 hv3 dX2_placedOnes_13 ?_
      refine lv_iload_n hx hb dX2_placedOnes_16 rfl (lv_at hl 2 rfl) ?_
      obtain ⟨v4, hv4, hp⟩ := ob hp
      refine mr_iald C0 hM hv4 dX2_placedOnes_17 ?_
      refine lv_iconst (v := -1) hx hb dX2_placedOnes_18 (by decide) ?_
      refine lv_icmp_eq (tgt := 28) hx hb dX2_placedOnes_19 (by decide) (fun c5 => ?_) (fun c5 => ?_)
      · replace hp := oT c5 hp
        refine lv_iinc (v := (y3 + (1 : Int32))) (lv' := [(3, .int (y3 + (1 : Int32))), (0, .ref f0), (1, .long y1)]) hx hb dX2_placedOnes_28 hl (k := 2) rfl rfl (by decide) rfl (fun ls hl => ?_)
        refine lv_goto (tgt := 4) hx hb dX2_placedOnes_31 (by decide) ?_
        exact ih _ _ _ _ _ hM (lv_sub hl [1, 2, 0] rfl) hp
      · replace hp := oF c5 hp
        refine lv_lload_n hx hb dX2_placedOnes_22 rfl (lv_at hl 1 rfl) ?_
        refine lv_lconst (v := 1) hx hb dX2_placedOnes_23 (by decide) ?_
        refine lv_iload_n hx hb dX2_placedOnes_24 rfl (lv_at hl 2 rfl) ?_
        refine lv_lshl (v := ((1 : Int64) <<< (Int32.toInt64 y3 &&& 63))) hx hb dX2_placedOnes_25 rfl ?_
        refine lv_lor hx hb dX2_placedOnes_26 ?_
        refine lv_lstore_n (lv' := [(1, .long (y1 ||| ((1 : Int64) <<< (Int32.toInt64 y3 &&& 63)))), (0, .ref f0), (3, .int y3)]) hx hb dX2_placedOnes_27 rfl hl (by decide) rfl (fun ls hl => ?_)
        refine lv_iinc (v := (y3 + (1 : Int32))) (lv' := [(3, .int (y3 + (1 : Int32))), (1, .long (y1 ||| ((1 : Int64) <<< (Int32.toInt64 y3 &&& 63)))), (0, .ref f0)]) hx hb dX2_placedOnes_28 hl (k := 2) rfl rfl (by decide) rfl (fun ls hl => ?_)
        refine lv_goto (tgt := 4) hx hb dX2_placedOnes_31 (by decide) ?_
        exact ih _ _ _ _ _ hM (lv_sub hl [2, 1, 0] rfl) hp
def p_X2_placedOnes (a0 : Nat) (M : Mem) : Option (Int64) :=
  (pl_X2_placedOnes_4
   (fun (z6 : Int64) =>
    some z6
   )
   a0 M FU (0 : Int64) (0 : Int32))
theorem yk_X2_placedOnes : yok yX2_placedOnes 0 := by decide +kernel
set_option maxHeartbeats 4000000 in
set_option maxRecDepth 100000 in
theorem w_X2_placedOnes {G : gG} (hG : GOK G) {l : Launch} {a0 : Nat} {M : Mem} {r : Int64} (hp : p_X2_placedOnes a0 M = some r) : CT G l yX2_placedOnes (wT yX2_placedOnes cX2_placedOnes 4 (some FieldType.long)) rm_X2_placedOnes [.ref a0] M (some (.long r)) M 0 0 := by
  refine CT_of (own := RX2) (maxL := 4) (ret := (some FieldType.long)) hG (by decide) rfl (Nat.le_of_ble_eq_true rfl) (fun p e s m below meth c A C0 hr hlk hM ls hl => ?_)
  have hl : lv_has ls 4 [(0, .ref a0)] := hl
  generalize ([.ref a0] : List Value).toArray = args at C0 ⊢
  skip
  have hx := C0.1
  have hb := C0.2.1
  have hown := C0.2.2.2.1
  have hts := C0.2.2.2.2.1
  unfold p_X2_placedOnes at hp
  refine lv_lconst (v := 0) hx hb dX2_placedOnes_0 (by decide) ?_
  refine lv_lstore_n (lv' := [(1, .long (0 : Int64)), (0, .ref a0)]) hx hb dX2_placedOnes_1 rfl hl (by decide) rfl (fun ls hl => ?_)
  refine lv_iconst (v := 0) hx hb dX2_placedOnes_2 (by decide) ?_
  refine lv_istore_n (lv' := [(3, .int (0 : Int32)), (1, .long (0 : Int64)), (0, .ref a0)]) hx hb dX2_placedOnes_3 rfl hl (by decide) rfl (fun ls hl => ?_)
  refine wl_X2_placedOnes_4 C0 hr hlk hG (fun z6 H locs ls hM hl hp => ?_) FU _ _ _ _ _ hM (lv_sub hl [2, 1, 0] rfl) hp
  refine lv_lload_n hx hb dX2_placedOnes_34 rfl (lv_at hl 0 rfl) ?_
  exact mr_lret C0 hr hlk hM rfl (Option.some.inj hp) (Nat.le_refl _) (Nat.le_refl _) dX2_placedOnes_35
abbrev rm_X6_rowIndex : Room := { frames := 0, cells := 0, slots := 0, locals := 0 }
def pl_X6_rowIndex_2 (k1 : Int32 → Option (Int32)) (k2 : Unit → Option (Int32)) (f0 : Int32) (f1 : Int32) (M : Mem) : Nat → Int32 → Option (Int32)
  | 0, _ => none
  | n + 1, y2 =>
    (if (4 : Int32) ≤ y2 then
     (k2 ())
    else
     (if f1 = (-1 : Int32) then
      (pl_X6_rowIndex_2 k1 k2 f0 f1 M n (y2 + (1 : Int32)))
     else
      (if ((f0 >>> (((4 : Int32) * y2) &&& 31)) &&& (15 : Int32)) = (f1 + (1 : Int32)) then
       (k1 y2)
      else
       (pl_X6_rowIndex_2 k1 k2 f0 f1 M n (y2 + (1 : Int32)))
      )
     )
    )
set_option maxHeartbeats 4000000 in
set_option maxRecDepth 100000 in
theorem wl_X6_rowIndex_2 {G : gG} {p : Program} {l : Launch} {e : Env} {s : State} {m : MethodId} {args : Array Value} {below : List Frame} {meth : Method} {c : Code} {A : Nat → Prop} {r : Int32} {k1 : Int32 → Option (Int32)} {k2 : Unit → Option (Int32)} {f0 : Int32} {f1 : Int32} {M : Mem} (C0 : cx G p s m args c cX6_rowIndex RX6 3 A) (hr : meth.sig.returnType = (some FieldType.int)) (hlk : meth.locks = false) (hG : GOK G) (hk1 : ∀ (z2 : Int32) (H : Heap) (locs : List Loc) (ls : Array Slot), mm G A s M H locs → lv_has ls 3 [(2, .int z2)] → k1 z2 = some r → W p l e rm_X6_rowIndex s m args below meth c H locs 0 0 (MQ below (CQ G M (some (.int r)) A) args s 0 0 A) (F0 m 26 ls [])) (hk2 : ∀ (H : Heap) (locs : List Loc) (ls : Array Slot), mm G A s M H locs → lv_has ls 3 [] → k2 () = some r → W p l e rm_X6_rowIndex s m args below meth c H locs 0 0 (MQ below (CQ G M (some (.int r)) A) args s 0 0 A) (F0 m 34 ls [])) : ∀ (n : Nat) (y2 : Int32) (H : Heap) (locs : List Loc) (ls : Array Slot), mm G A s M H locs → lv_has ls 3 [(0, .int f0), (1, .int f1), (2, .int y2)] → pl_X6_rowIndex_2 k1 k2 f0 f1 M n y2 = some r → W p l e rm_X6_rowIndex s m args below meth c H locs 0 0 (MQ below (CQ G M (some (.int r)) A) args s 0 0 A) (F0 m 2 ls []) := by
  have hx := C0.1
  have hb := C0.2.1
  have hown := C0.2.2.2.1
  have hts := C0.2.2.2.2.1
  intro n
  induction n with
  | zero => intro y2 H locs ls hM hl hp; rw [pl_X6_rowIndex_2] at hp; cases hp
  | succ n ih =>
    intro y2 H locs ls hM hl hp
    rw [pl_X6_rowIndex_2] at hp
    refine lv_iload_n hx hb dX6_rowIndex_2 rfl (lv_at hl 2 rfl) ?_
    refine lv_iconst (v := 4) hx hb dX6_rowIndex_3 (by decide) ?_
    refine lv_icmp_ge (tgt := 34) hx hb dX6_rowIndex_4 (by decide) (fun c1 => ?_) (fun c1 => ?_)
    · replace hp := oT c1 hp
      exact hk2  _ _ _ hM (lv_sub hl [] rfl) hp
    · replace hp := oF c1 hp
      refine lv_iload_n hx hb dX6_rowIndex_7 rfl (lv_at hl 1 rfl) ?_
      refine lv_iconst (v := -1) hx hb dX6_rowIndex_8 (by decide) ?_
      refine lv_icmp_eq (tgt := 28) hx hb dX6_rowIndex_9 (by decide) (fun c2 => ?_) (fun c2 => ?_)
      · replace hp := oT c2 hp
        refine lv_iinc (v := (y2 + (1 : Int32))) (lv' := [(2, .int (y2 + (1 : Int32))), (0, .int f0), (1, .int f1)]) hx hb dX6_rowIndex_28 hl (k := 2) rfl rfl (by decide) rfl (fun ls hl => ?_)
        refine lv_goto (tgt := 2) hx hb dX6_rowIndex_31 (by decide) ?_
        exact ih _ _ _ _ hM (lv_sub hl [1, 2, 0] rfl) hp
      · replace hp := oF c2 hp
        refine lv_iload_n hx hb dX6_rowIndex_12 rfl (lv_at hl 0 rfl) ?_
        refine lv_iconst (v := 4) hx hb dX6_rowIndex_13 (by decide) ?_
        refine lv_iload_n hx hb dX6_rowIndex_14 rfl (lv_at hl 2 rfl) ?_
        refine lv_imul hx hb dX6_rowIndex_15 ?_
        refine lv_ishr hx hb dX6_rowIndex_16 ?_
        refine lv_bipush (v := 15) hx hb dX6_rowIndex_17 (by decide) ?_
        refine lv_iand hx hb dX6_rowIndex_19 ?_
        refine lv_iload_n hx hb dX6_rowIndex_20 rfl (lv_at hl 1 rfl) ?_
        refine lv_iconst (v := 1) hx hb dX6_rowIndex_21 (by decide) ?_
        refine lv_iadd hx hb dX6_rowIndex_22 ?_
        refine lv_icmp_ne (tgt := 28) hx hb dX6_rowIndex_23 (by decide) (fun c3 => ?_) (fun c3 => ?_)
        · replace hp := oF c3 hp
          refine lv_iinc (v := (y2 + (1 : Int32))) (lv' := [(2, .int (y2 + (1 : Int32))), (0, .int f0), (1, .int f1)]) hx hb dX6_rowIndex_28 hl (k := 2) rfl rfl (by decide) rfl (fun ls hl => ?_)
          refine lv_goto (tgt := 2) hx hb dX6_rowIndex_31 (by decide) ?_
          exact ih _ _ _ _ hM (lv_sub hl [1, 2, 0] rfl) hp
        · replace hp := oT c3 hp
          exact hk1 _ _ _ _ hM (lv_sub hl [2] rfl) hp
def p_X6_rowIndex (a0 : Int32) (a1 : Int32) (M : Mem) : Option (Int32) :=
  (pl_X6_rowIndex_2
   (fun (z4 : Int32) =>
    some z4
   )
   (fun (_ : Unit) =>
    some (-1 : Int32)
   )
   a0 a1 M FU (0 : Int32))
theorem yk_X6_rowIndex : yok yX6_rowIndex 2 := by decide +kernel
set_option maxHeartbeats 4000000 in
set_option maxRecDepth 100000 in
theorem w_X6_rowIndex {G : gG} (hG : GOK G) {l : Launch} {a0 : Int32} {a1 : Int32} {M : Mem} {r : Int32} (hp : p_X6_rowIndex a0 a1 M = some r) : CT G l yX6_rowIndex (wT yX6_rowIndex cX6_rowIndex 3 (some FieldType.int)) rm_X6_rowIndex [.int a0, .int a1] M (some (.int r)) M 0 0 := by
  refine CT_of (own := RX6) (maxL := 3) (ret := (some FieldType.int)) hG (by decide) rfl (Nat.le_of_ble_eq_true rfl) (fun p e s m below meth c A C0 hr hlk hM ls hl => ?_)
  have hl : lv_has ls 3 [(0, .int a0), (1, .int a1)] := hl
  generalize ([.int a0, .int a1] : List Value).toArray = args at C0 ⊢
  skip
  have hx := C0.1
  have hb := C0.2.1
  have hown := C0.2.2.2.1
  have hts := C0.2.2.2.2.1
  unfold p_X6_rowIndex at hp
  refine lv_iconst (v := 0) hx hb dX6_rowIndex_0 (by decide) ?_
  refine lv_istore_n (lv' := [(2, .int (0 : Int32)), (0, .int a0), (1, .int a1)]) hx hb dX6_rowIndex_1 rfl hl (by decide) rfl (fun ls hl => ?_)
  refine wl_X6_rowIndex_2 C0 hr hlk hG (fun z4 H locs ls hM hl hp => ?_) (fun  H locs ls hM hl hp => ?_) FU _ _ _ _ hM (lv_sub hl [1, 2, 0] rfl) hp
  · refine lv_iload_n hx hb dX6_rowIndex_26 rfl (lv_at hl 0 rfl) ?_
    exact mr_iret C0 hr hlk hM rfl (Option.some.inj hp) (Nat.le_refl _) (Nat.le_refl _) dX6_rowIndex_27
  · refine lv_iconst (v := -1) hx hb dX6_rowIndex_34 (by decide) ?_
    exact mr_iret C0 hr hlk hM rfl (Option.some.inj hp) (Nat.le_refl _) (Nat.le_refl _) dX6_rowIndex_35
abbrev rm_X2_gotWish : Room := { frames := 1, cells := 0, slots := 0, locals := 22 }
def p_X2_gotWish (a0 : Nat) (a1 : Int32) (M : Mem) : Option (Int32) :=
  (Option.bind (gR 2 15 M a0) fun v1 =>
  (Option.bind (aI 0 M v1 a1) fun v2 =>
  (Option.bind (gR 2 16 M a0) fun v3 =>
  (Option.bind (aI 0 M v3 a1) fun v4 =>
  (Option.bind (p_X6_rowIndex v2 v4 M) fun v5 =>
  some v5
  )
  )
  )
  )
  )
theorem yk_X2_gotWish : yok yX2_gotWish 1 := by decide +kernel
set_option maxHeartbeats 4000000 in
set_option maxRecDepth 100000 in
theorem w_X2_gotWish {G : gG} (hG : GOK G) {l : Launch} {a0 : Nat} {a1 : Int32} {M : Mem} {r : Int32} (hp : p_X2_gotWish a0 a1 M = some r) : CT G l yX2_gotWish (wT yX2_gotWish cX2_gotWish 2 (some FieldType.int)) rm_X2_gotWish [.ref a0, .int a1] M (some (.int r)) M 0 0 := by
  refine CT_of (own := RX2) (maxL := 2) (ret := (some FieldType.int)) hG (by decide) rfl (Nat.le_of_ble_eq_true rfl) (fun p e s m below meth c A C0 hr hlk hM ls hl => ?_)
  have hl : lv_has ls 2 [(0, .ref a0), (1, .int a1)] := hl
  generalize ([.ref a0, .int a1] : List Value).toArray = args at C0 ⊢
  skip
  have hx := C0.1
  have hb := C0.2.1
  have hown := C0.2.2.2.1
  have hts := C0.2.2.2.2.1
  unfold p_X2_gotWish at hp
  refine lv_aload_n hx hb dX2_gotWish_0 rfl (lv_at hl 0 rfl) ?_
  obtain ⟨v1, hv1, hp⟩ := ob hp
  refine mr_getR C0 cbX2 hM 15 (by decide) tw_168 hv1 dX2_gotWish_1 ?_
  refine lv_iload_n hx hb dX2_gotWish_4 rfl (lv_at hl 1 rfl) ?_
  obtain ⟨v2, hv2, hp⟩ := ob hp
  refine mr_iald C0 hM hv2 dX2_gotWish_5 ?_
  refine lv_aload_n hx hb dX2_gotWish_6 rfl (lv_at hl 0 rfl) ?_
  obtain ⟨v3, hv3, hp⟩ := ob hp
  refine mr_getR C0 cbX2 hM 16 (by decide) tw_171 hv3 dX2_gotWish_7 ?_
  refine lv_iload_n hx hb dX2_gotWish_10 rfl (lv_at hl 1 rfl) ?_
  obtain ⟨v4, hv4, hp⟩ := ob hp
  refine mr_iald C0 hM hv4 dX2_gotWish_11 ?_
  obtain ⟨v5, hv5, hp⟩ := ob hp
  refine mr_N1 (As := [.int v2, .int v4]) (rest := []) C0 hM (w_X6_rowIndex hG hv5) tw_1690 tw_443 tw_15 tw_444 yk_X6_rowIndex (by decide) rfl hl.1 (Nat.le_of_ble_eq_true rfl) dX2_gotWish_12 rfl (fun H locs hM => ?_)
  exact mr_iret C0 hr hlk hM rfl (Option.some.inj hp) (Nat.le_refl _) (Nat.le_refl _) dX2_gotWish_15
abbrev rm_X2_prefers : Room := { frames := 1, cells := 0, slots := 0, locals := 22 }
def p_X2_prefers (a0 : Nat) (a1 : Int32) (a2 : Int32) (M : Mem) : Option (Int32) :=
  (Option.bind (gR 2 15 M a0) fun v1 =>
  (Option.bind (aI 0 M v1 a1) fun v2 =>
  (Option.bind (p_X6_rowIndex v2 a2 M) fun v3 =>
  (Option.bind (gR 2 15 M a0) fun v4 =>
  (Option.bind (aI 0 M v4 a1) fun v5 =>
  (Option.bind (gR 2 16 M a0) fun v6 =>
  (Option.bind (aI 0 M v6 a1) fun v7 =>
  (Option.bind (p_X6_rowIndex v5 v7 M) fun v8 =>
  (if v3 = (-1 : Int32) then
   some (0 : Int32)
  else
   (if v8 = (-1 : Int32) then
    some (1 : Int32)
   else
    (if v8 ≤ v3 then
     some (0 : Int32)
    else
     some (1 : Int32)
    )
   )
  )
  )
  )
  )
  )
  )
  )
  )
  )
theorem yk_X2_prefers : yok yX2_prefers 2 := by decide +kernel
set_option maxHeartbeats 4000000 in
set_option maxRecDepth 100000 in
theorem w_X2_prefers {G : gG} (hG : GOK G) {l : Launch} {a0 : Nat} {a1 : Int32} {a2 : Int32} {M : Mem} {r : Int32} (hp : p_X2_prefers a0 a1 a2 M = some r) : CT G l yX2_prefers (wT yX2_prefers cX2_prefers 5 (some FieldType.boolean)) rm_X2_prefers [.ref a0, .int a1, .int a2] M (some (.int r)) M 0 0 := by
  refine CT_of (own := RX2) (maxL := 5) (ret := (some FieldType.boolean)) hG (by decide) rfl (Nat.le_of_ble_eq_true rfl) (fun p e s m below meth c A C0 hr hlk hM ls hl => ?_)
  have hl : lv_has ls 5 [(0, .ref a0), (1, .int a1), (2, .int a2)] := hl
  generalize ([.ref a0, .int a1, .int a2] : List Value).toArray = args at C0 ⊢
  skip
  have hx := C0.1
  have hb := C0.2.1
  have hown := C0.2.2.2.1
  have hts := C0.2.2.2.2.1
  unfold p_X2_prefers at hp
  refine lv_aload_n hx hb dX2_prefers_0 rfl (lv_at hl 0 rfl) ?_
  obtain ⟨v1, hv1, hp⟩ := ob hp
  refine mr_getR C0 cbX2 hM 15 (by decide) tw_168 hv1 dX2_prefers_1 ?_
  refine lv_iload_n hx hb dX2_prefers_4 rfl (lv_at hl 1 rfl) ?_
  obtain ⟨v2, hv2, hp⟩ := ob hp
  refine mr_iald C0 hM hv2 dX2_prefers_5 ?_
  refine lv_iload_n hx hb dX2_prefers_6 rfl (lv_at hl 2 rfl) ?_
  obtain ⟨v3, hv3, hp⟩ := ob hp
  refine mr_N1 (As := [.int v2, .int a2]) (rest := []) C0 hM (w_X6_rowIndex hG hv3) tw_1690 tw_443 tw_15 tw_444 yk_X6_rowIndex (by decide) rfl hl.1 (Nat.le_of_ble_eq_true rfl) dX2_prefers_7 rfl (fun H locs hM => ?_)
  refine lv_istore_n (lv' := [(3, .int v3), (0, .ref a0), (1, .int a1), (2, .int a2)]) hx hb dX2_prefers_10 rfl hl (by decide) rfl (fun ls hl => ?_)
  refine lv_aload_n hx hb dX2_prefers_11 rfl (lv_at hl 1 rfl) ?_
  obtain ⟨v4, hv4, hp⟩ := ob hp
  refine mr_getR C0 cbX2 hM 15 (by decide) tw_168 hv4 dX2_prefers_12 ?_
  refine lv_iload_n hx hb dX2_prefers_15 rfl (lv_at hl 2 rfl) ?_
  obtain ⟨v5, hv5, hp⟩ := ob hp
  refine mr_iald C0 hM hv5 dX2_prefers_16 ?_
  refine lv_aload_n hx hb dX2_prefers_17 rfl (lv_at hl 1 rfl) ?_
  obtain ⟨v6, hv6, hp⟩ := ob hp
  refine mr_getR C0 cbX2 hM 16 (by decide) tw_171 hv6 dX2_prefers_18 ?_
  refine lv_iload_n hx hb dX2_prefers_21 rfl (lv_at hl 2 rfl) ?_
  obtain ⟨v7, hv7, hp⟩ := ob hp
  refine mr_iald C0 hM hv7 dX2_prefers_22 ?_
  obtain ⟨v8, hv8, hp⟩ := ob hp
  refine mr_N1 (As := [.int v5, .int v7]) (rest := []) C0 hM (w_X6_rowIndex hG hv8) tw_1690 tw_443 tw_15 tw_444 yk_X6_rowIndex (by decide) rfl hl.1 (Nat.le_of_ble_eq_true rfl) dX2_prefers_23 rfl (fun H locs hM => ?_)
  refine lv_istore (lv' := [(4, .int v8), (3, .int v3), (0, .ref a0), (1, .int a1), (2, .int a2)]) hx hb dX2_prefers_26 hl (by decide) rfl (fun ls hl => ?_)
  refine lv_iload_n hx hb dX2_prefers_28 rfl (lv_at hl 1 rfl) ?_
  refine lv_iconst (v := -1) hx hb dX2_prefers_29 (by decide) ?_
  refine lv_icmp_eq (tgt := 49) hx hb dX2_prefers_30 (by decide) (fun c9 => ?_) (fun c9 => ?_)
  · replace hp := oT c9 hp
    refine lv_iconst (v := 0) hx hb dX2_prefers_49 (by decide) ?_
    exact mr_zret C0 hr hlk hM rfl (Or.inl rfl) (Option.some.inj hp) (Nat.le_refl _) (Nat.le_refl _) dX2_prefers_50
  · replace hp := oF c9 hp
    refine lv_iload hx hb dX2_prefers_33 (lv_at hl 0 rfl) ?_
    refine lv_iconst (v := -1) hx hb dX2_prefers_35 (by decide) ?_
    refine lv_icmp_eq (tgt := 45) hx hb dX2_prefers_36 (by decide) (fun c10 => ?_) (fun c10 => ?_)
    · replace hp := oT c10 hp
      refine lv_iconst (v := 1) hx hb dX2_prefers_45 (by decide) ?_
      refine lv_goto (tgt := 50) hx hb dX2_prefers_46 (by decide) ?_
      exact mr_zret C0 hr hlk hM rfl (Or.inr rfl) (Option.some.inj hp) (Nat.le_refl _) (Nat.le_refl _) dX2_prefers_50
    · replace hp := oF c10 hp
      refine lv_iload_n hx hb dX2_prefers_39 rfl (lv_at hl 1 rfl) ?_
      refine lv_iload hx hb dX2_prefers_40 (lv_at hl 0 rfl) ?_
      refine lv_icmp_ge (tgt := 49) hx hb dX2_prefers_42 (by decide) (fun c11 => ?_) (fun c11 => ?_)
      · replace hp := oT c11 hp
        refine lv_iconst (v := 0) hx hb dX2_prefers_49 (by decide) ?_
        exact mr_zret C0 hr hlk hM rfl (Or.inl rfl) (Option.some.inj hp) (Nat.le_refl _) (Nat.le_refl _) dX2_prefers_50
      · replace hp := oF c11 hp
        refine lv_iconst (v := 1) hx hb dX2_prefers_45 (by decide) ?_
        refine lv_goto (tgt := 50) hx hb dX2_prefers_46 (by decide) ?_
        exact mr_zret C0 hr hlk hM rfl (Or.inr rfl) (Option.some.inj hp) (Nat.le_refl _) (Nat.le_refl _) dX2_prefers_50
abbrev rm_X2_waits : Room := { frames := 2, cells := 0, slots := 0, locals := 46 }
def p_X2_waits (a0 : Nat) (a1 : Int32) (a2 : Int32) (M : Mem) : Option (Int32) :=
  (Option.bind (gI 2 4 M a0) fun v1 =>
  (if v1 = 0 then
   some (0 : Int32)
  else
   (Option.bind (gL 2 9 M a0) fun v3 =>
   (Option.bind (p_X6_isIn v3 a1 M) fun v4 =>
   (if v4 = 0 then
    (Option.bind (isC 2 M a0) fun _ =>
    (Option.bind (p_X2_prefers a0 a1 a2 M) fun v7 =>
    (if v7 = 0 then
     some (0 : Int32)
    else
     some (1 : Int32)
    )
    )
    )
   else
    some (0 : Int32)
   )
   )
   )
  )
  )
theorem yk_X2_waits : yok yX2_waits 2 := by decide +kernel
set_option maxHeartbeats 4000000 in
set_option maxRecDepth 100000 in
theorem w_X2_waits {G : gG} (hG : GOK G) {l : Launch} {a0 : Nat} {a1 : Int32} {a2 : Int32} {M : Mem} {r : Int32} (hp : p_X2_waits a0 a1 a2 M = some r) : CT G l yX2_waits (wT yX2_waits cX2_waits 3 (some FieldType.boolean)) rm_X2_waits [.ref a0, .int a1, .int a2] M (some (.int r)) M 0 0 := by
  refine CT_of (own := RX2) (maxL := 3) (ret := (some FieldType.boolean)) hG (by decide) rfl (Nat.le_of_ble_eq_true rfl) (fun p e s m below meth c A C0 hr hlk hM ls hl => ?_)
  have hl : lv_has ls 3 [(0, .ref a0), (1, .int a1), (2, .int a2)] := hl
  generalize ([.ref a0, .int a1, .int a2] : List Value).toArray = args at C0 ⊢
  skip
  have hx := C0.1
  have hb := C0.2.1
  have hown := C0.2.2.2.1
  have hts := C0.2.2.2.2.1
  unfold p_X2_waits at hp
  refine lv_aload_n hx hb dX2_waits_0 rfl (lv_at hl 0 rfl) ?_
  obtain ⟨v1, hv1, hp⟩ := ob hp
  refine mr_getI C0 cbX2 hM 4 (by decide) tw_144 hv1 dX2_waits_1 ?_
  refine lv_if_eq (tgt := 31) hx hb dX2_waits_4 (by decide) (fun c2 => ?_) (fun c2 => ?_)
  · replace hp := oT c2 hp
    refine lv_iconst (v := 0) hx hb dX2_waits_31 (by decide) ?_
    exact mr_zret C0 hr hlk hM rfl (Or.inl rfl) (Option.some.inj hp) (Nat.le_refl _) (Nat.le_refl _) dX2_waits_32
  · replace hp := oF c2 hp
    refine lv_aload_n hx hb dX2_waits_7 rfl (lv_at hl 0 rfl) ?_
    obtain ⟨v3, hv3, hp⟩ := ob hp
    refine mr_getL C0 cbX2 hM 9 (by decide) tw_155 hv3 dX2_waits_8 ?_
    refine lv_iload_n hx hb dX2_waits_11 rfl (lv_at hl 1 rfl) ?_
    obtain ⟨v4, hv4, hp⟩ := ob hp
    refine mr_N1 (As := [.long v3, .int a1]) (rest := []) C0 hM (w_X6_isIn hG hv4) tw_581 tw_558 tw_15 tw_559 yk_X6_isIn (by decide) rfl hl.1 (Nat.le_of_ble_eq_true rfl) dX2_waits_12 rfl (fun H locs hM => ?_)
    refine lv_if_ne (tgt := 31) hx hb dX2_waits_15 (by decide) (fun c5 => ?_) (fun c5 => ?_)
    · replace hp := oF c5 hp
      refine lv_iconst (v := 0) hx hb dX2_waits_31 (by decide) ?_
      exact mr_zret C0 hr hlk hM rfl (Or.inl rfl) (Option.some.inj hp) (Nat.le_refl _) (Nat.le_refl _) dX2_waits_32
    · replace hp := oT c5 hp
      refine lv_aload_n hx hb dX2_waits_18 rfl (lv_at hl 0 rfl) ?_
      refine lv_iload_n hx hb dX2_waits_19 rfl (lv_at hl 1 rfl) ?_
      refine lv_iload_n hx hb dX2_waits_20 rfl (lv_at hl 2 rfl) ?_
      obtain ⟨_, h6, hp⟩ := ob hp
      obtain ⟨v7, hv7, hp⟩ := ob hp
      refine mr_V1 (As := [.int a1, .int a2]) (rest := []) C0 cbX2 hM h6 rfl (w_X2_prefers hG hv7) tw_1718 tw_1719 tw_1720 tw_17 tw_1721 yk_X2_prefers (by decide) rfl hl.1 (Nat.le_of_ble_eq_true rfl) dX2_waits_21 rfl (fun H locs hM => ?_)
      refine lv_if_eq (tgt := 31) hx hb dX2_waits_24 (by decide) (fun c8 => ?_) (fun c8 => ?_)
      · replace hp := oT c8 hp
        refine lv_iconst (v := 0) hx hb dX2_waits_31 (by decide) ?_
        exact mr_zret C0 hr hlk hM rfl (Or.inl rfl) (Option.some.inj hp) (Nat.le_refl _) (Nat.le_refl _) dX2_waits_32
      · replace hp := oF c8 hp
        refine lv_iconst (v := 1) hx hb dX2_waits_27 (by decide) ?_
        refine lv_goto (tgt := 32) hx hb dX2_waits_28 (by decide) ?_
        exact mr_zret C0 hr hlk hM rfl (Or.inr rfl) (Option.some.inj hp) (Nat.le_refl _) (Nat.le_refl _) dX2_waits_32
abbrev rm_X2_waitersOf : Room := { frames := 3, cells := 0, slots := 0, locals := 68 }
def pl_X2_waitersOf_5 (k1 : Int64 → Option (Int64)) (f0 : Nat) (f1 : Int32) (M : Mem) : Nat → Int64 → Int32 → Option (Int64)
  | 0, _, _ => none
  | n + 1, y2, y4 =>
    (Option.bind (gI 2 1 M f0) fun v1 =>
    (if v1 ≤ y4 then
     (k1 y2)
    else
     (Option.bind (isC 2 M f0) fun _ =>
     (Option.bind (p_X2_waits f0 y4 f1 M) fun v4 =>
     (if v4 = 0 then
      (pl_X2_waitersOf_5 k1 f0 f1 M n y2 (y4 + (1 : Int32)))
     else
      (pl_X2_waitersOf_5 k1 f0 f1 M n (y2 ||| ((1 : Int64) <<< (Int32.toInt64 y4 &&& 63))) (y4 + (1 : Int32)))
     )
     )
     )
    )
    )
set_option maxHeartbeats 4000000 in
set_option maxRecDepth 100000 in
theorem wl_X2_waitersOf_5 {G : gG} {p : Program} {l : Launch} {e : Env} {s : State} {m : MethodId} {args : Array Value} {below : List Frame} {meth : Method} {c : Code} {A : Nat → Prop} {r : Int64} {k1 : Int64 → Option (Int64)} {f0 : Nat} {f1 : Int32} {M : Mem} (C0 : cx G p s m args c cX2_waitersOf RX2 5 A) (hr : meth.sig.returnType = (some FieldType.long)) (hlk : meth.locks = false) (hG : GOK G) (hk1 : ∀ (z2 : Int64) (H : Heap) (locs : List Loc) (ls : Array Slot), mm G A s M H locs → lv_has ls 5 [(2, .long z2)] → k1 z2 = some r → W p l e rm_X2_waitersOf s m args below meth c H locs 0 0 (MQ below (CQ G M (some (.long r)) A) args s 0 0 A) (F0 m 37 ls [])) : ∀ (n : Nat) (y2 : Int64) (y4 : Int32) (H : Heap) (locs : List Loc) (ls : Array Slot), mm G A s M H locs → lv_has ls 5 [(0, .ref f0), (1, .int f1), (2, .long y2), (4, .int y4)] → pl_X2_waitersOf_5 k1 f0 f1 M n y2 y4 = some r → W p l e rm_X2_waitersOf s m args below meth c H locs 0 0 (MQ below (CQ G M (some (.long r)) A) args s 0 0 A) (F0 m 5 ls []) := by
  have hx := C0.1
  have hb := C0.2.1
  have hown := C0.2.2.2.1
  have hts := C0.2.2.2.2.1
  intro n
  induction n with
  | zero => intro y2 y4 H locs ls hM hl hp; rw [pl_X2_waitersOf_5] at hp; cases hp
  | succ n ih =>
    intro y2 y4 H locs ls hM hl hp
    rw [pl_X2_waitersOf_5] at hp
    refine lv_iload hx hb dX2_waitersOf_5 (lv_at hl 3 rfl) ?_
    refine lv_aload_n hx hb dX2_waitersOf_7 rfl (lv_at hl 0 rfl) ?_
    obtain ⟨v1, hv1, hp⟩ := ob hp
    refine mr_getI C0 cbX2 hM 1 (by decide) tw_135 hv1 dX2_waitersOf_8 ?_
    refine lv_icmp_ge (tgt := 37) hx hb dX2_waitersOf_11 (by decide) (fun c2 => ?_) (fun c2 => ?_)
    · replace hp := oT c2 hp
      exact hk1 _ _ _ _ hM (lv_sub hl [2] rfl) hp
    · replace hp := oF c2 hp
      refine lv_aload_n hx hb dX2_waitersOf_14 rfl (lv_at hl 0 rfl) ?_
      refine lv_iload hx hb dX2_waitersOf_15 (lv_at hl 3 rfl) ?_
      refine lv_iload_n hx hb dX2_waitersOf_17 rfl (lv_at hl 1 rfl) ?_
      obtain ⟨_, h3, hp⟩ := ob hp
      obtain ⟨v4, hv4, hp⟩ := ob hp
      refine mr_V1 (As := [.int y4, .int f1]) (rest := []) C0 cbX2 hM h3 rfl (w_X2_waits hG hv4) tw_1714 tw_1715 tw_1716 tw_17 tw_1717 yk_X2_waits (by decide) rfl hl.1 (Nat.le_of_ble_eq_true rfl) dX2_waitersOf_18 rfl (fun H locs hM => ?_)
      refine lv_if_eq (tgt := 31) hx hb dX2_waitersOf_21 (by decide) (fun c5 => ?_) (fun c5 => ?_)
      · replace hp := oT c5 hp
        refine lv_iinc (v := (y4 + (1 : Int32))) (lv' := [(4, .int (y4 + (1 : Int32))), (0, .ref f0), (1, .int f1), (2, .long y2)]) hx hb dX2_waitersOf_31 hl (k := 3) rfl rfl (by decide) rfl (fun ls hl => ?_)
        refine lv_goto (tgt := 5) hx hb dX2_waitersOf_34 (by decide) ?_
        exact ih _ _ _ _ _ hM (lv_sub hl [1, 2, 3, 0] rfl) hp
      · replace hp := oF c5 hp
        refine lv_lload_n hx hb dX2_waitersOf_24 rfl (lv_at hl 2 rfl) ?_
        refine lv_lconst (v := 1) hx hb dX2_waitersOf_25 (by decide) ?_
        refine lv_iload hx hb dX2_waitersOf_26 (lv_at hl 3 rfl) ?_
        refine lv_lshl (v := ((1 : Int64) <<< (Int32.toInt64 y4 &&& 63))) hx hb dX2_waitersOf_28 rfl ?_
        refine lv_lor hx hb dX2_waitersOf_29 ?_
        refine lv_lstore_n (lv' := [(2, .long (y2 ||| ((1 : Int64) <<< (Int32.toInt64 y4 &&& 63)))), (0, .ref f0), (1, .int f1), (4, .int y4)]) hx hb dX2_waitersOf_30 rfl hl (by decide) rfl (fun ls hl => ?_)
        refine lv_iinc (v := (y4 + (1 : Int32))) (lv' := [(4, .int (y4 + (1 : Int32))), (2, .long (y2 ||| ((1 : Int64) <<< (Int32.toInt64 y4 &&& 63)))), (0, .ref f0), (1, .int f1)]) hx hb dX2_waitersOf_31 hl (k := 3) rfl rfl (by decide) rfl (fun ls hl => ?_)
        refine lv_goto (tgt := 5) hx hb dX2_waitersOf_34 (by decide) ?_
        exact ih _ _ _ _ _ hM (lv_sub hl [2, 3, 1, 0] rfl) hp
def p_X2_waitersOf (a0 : Nat) (a1 : Int32) (M : Mem) : Option (Int64) :=
  (pl_X2_waitersOf_5
   (fun (z6 : Int64) =>
    some z6
   )
   a0 a1 M FU (0 : Int64) (0 : Int32))
theorem yk_X2_waitersOf : yok yX2_waitersOf 1 := by decide +kernel
set_option maxHeartbeats 4000000 in
set_option maxRecDepth 100000 in
theorem w_X2_waitersOf {G : gG} (hG : GOK G) {l : Launch} {a0 : Nat} {a1 : Int32} {M : Mem} {r : Int64} (hp : p_X2_waitersOf a0 a1 M = some r) : CT G l yX2_waitersOf (wT yX2_waitersOf cX2_waitersOf 5 (some FieldType.long)) rm_X2_waitersOf [.ref a0, .int a1] M (some (.long r)) M 0 0 := by
  refine CT_of (own := RX2) (maxL := 5) (ret := (some FieldType.long)) hG (by decide) rfl (Nat.le_of_ble_eq_true rfl) (fun p e s m below meth c A C0 hr hlk hM ls hl => ?_)
  have hl : lv_has ls 5 [(0, .ref a0), (1, .int a1)] := hl
  generalize ([.ref a0, .int a1] : List Value).toArray = args at C0 ⊢
  skip
  have hx := C0.1
  have hb := C0.2.1
  have hown := C0.2.2.2.1
  have hts := C0.2.2.2.2.1
  unfold p_X2_waitersOf at hp
  refine lv_lconst (v := 0) hx hb dX2_waitersOf_0 (by decide) ?_
  refine lv_lstore_n (lv' := [(2, .long (0 : Int64)), (0, .ref a0), (1, .int a1)]) hx hb dX2_waitersOf_1 rfl hl (by decide) rfl (fun ls hl => ?_)
  refine lv_iconst (v := 0) hx hb dX2_waitersOf_2 (by decide) ?_
  refine lv_istore (lv' := [(4, .int (0 : Int32)), (2, .long (0 : Int64)), (0, .ref a0), (1, .int a1)]) hx hb dX2_waitersOf_3 hl (by decide) rfl (fun ls hl => ?_)
  refine wl_X2_waitersOf_5 C0 hr hlk hG (fun z6 H locs ls hM hl hp => ?_) FU _ _ _ _ _ hM (lv_sub hl [2, 3, 1, 0] rfl) hp
  refine lv_lload_n hx hb dX2_waitersOf_37 rfl (lv_at hl 0 rfl) ?_
  exact mr_lret C0 hr hlk hM rfl (Option.some.inj hp) (Nat.le_refl _) (Nat.le_refl _) dX2_waitersOf_38
abbrev rm_X2_claimStands : Room := { frames := 4, cells := 0, slots := 0, locals := 101 }
def p_X2_claimStands (a0 : Nat) (a1 : Int32) (a2 : Int32) (M : Mem) : Option (Int32) :=
  (Option.bind (isC 2 M a0) fun _ =>
  (Option.bind (p_X2_waits a0 a1 a2 M) fun v2 =>
  (if v2 = 0 then
   some (0 : Int32)
  else
   (Option.bind (isC 2 M a0) fun _ =>
   (Option.bind (p_X2_holdersOf a0 a2 M) fun v5 =>
   (Option.bind (gL 2 10 M a0) fun v6 =>
   (Option.bind (isC 2 M a0) fun _ =>
   (Option.bind (p_X2_lastOf a0 (v5 &&& (v6 ^^^ (-1 : Int64))) a2 M) fun v8 =>
   (if v8 = (-1 : Int32) then
    some (0 : Int32)
   else
    (Option.bind (isC 2 M a0) fun _ =>
    (Option.bind (p_X2_standing a0 a1 a2 M) fun v11 =>
    (Option.bind (isC 2 M a0) fun _ =>
    (Option.bind (p_X2_standing a0 v8 a2 M) fun v13 =>
    (if 0 ≤ (lg_cmp v11 v13) then
     some (0 : Int32)
    else
     some (1 : Int32)
    )
    )
    )
    )
    )
   )
   )
   )
   )
   )
   )
  )
  )
  )
theorem yk_X2_claimStands : yok yX2_claimStands 2 := by decide +kernel
set_option maxHeartbeats 4000000 in
set_option maxRecDepth 100000 in
theorem w_X2_claimStands {G : gG} (hG : GOK G) {l : Launch} {a0 : Nat} {a1 : Int32} {a2 : Int32} {M : Mem} {r : Int32} (hp : p_X2_claimStands a0 a1 a2 M = some r) : CT G l yX2_claimStands (wT yX2_claimStands cX2_claimStands 4 (some FieldType.boolean)) rm_X2_claimStands [.ref a0, .int a1, .int a2] M (some (.int r)) M 0 0 := by
  refine CT_of (own := RX2) (maxL := 4) (ret := (some FieldType.boolean)) hG (by decide) rfl (Nat.le_of_ble_eq_true rfl) (fun p e s m below meth c A C0 hr hlk hM ls hl => ?_)
  have hl : lv_has ls 4 [(0, .ref a0), (1, .int a1), (2, .int a2)] := hl
  generalize ([.ref a0, .int a1, .int a2] : List Value).toArray = args at C0 ⊢
  skip
  have hx := C0.1
  have hb := C0.2.1
  have hown := C0.2.2.2.1
  have hts := C0.2.2.2.2.1
  unfold p_X2_claimStands at hp
  refine lv_aload_n hx hb dX2_claimStands_0 rfl (lv_at hl 0 rfl) ?_
  refine lv_iload_n hx hb dX2_claimStands_1 rfl (lv_at hl 1 rfl) ?_
  refine lv_iload_n hx hb dX2_claimStands_2 rfl (lv_at hl 2 rfl) ?_
  obtain ⟨_, h1, hp⟩ := ob hp
  obtain ⟨v2, hv2, hp⟩ := ob hp
  refine mr_V1 (As := [.int a1, .int a2]) (rest := []) C0 cbX2 hM h1 rfl (w_X2_waits hG hv2) tw_1714 tw_1715 tw_1716 tw_17 tw_1717 yk_X2_waits (by decide) rfl hl.1 (Nat.le_of_ble_eq_true rfl) dX2_claimStands_3 rfl (fun H locs hM => ?_)
  refine lv_if_ne (tgt := 11) hx hb dX2_claimStands_6 (by decide) (fun c3 => ?_) (fun c3 => ?_)
  · replace hp := oF c3 hp
    refine lv_aload_n hx hb dX2_claimStands_11 rfl (lv_at hl 0 rfl) ?_
    refine lv_aload_n hx hb dX2_claimStands_12 rfl (lv_at hl 0 rfl) ?_
    refine lv_iload_n hx hb dX2_claimStands_13 rfl (lv_at hl 2 rfl) ?_
    obtain ⟨_, h4, hp⟩ := ob hp
    obtain ⟨v5, hv5, hp⟩ := ob hp
    refine mr_V1 (As := [.int a2]) (rest := [.ref a0]) C0 cbX2 hM h4 rfl (w_X2_holdersOf hG hv5) tw_1722 tw_568 tw_569 tw_17 tw_570 yk_X2_holdersOf (by decide) rfl hl.1 (Nat.le_of_ble_eq_true rfl) dX2_claimStands_14 rfl (fun H locs hM => ?_)
    refine lv_aload_n hx hb dX2_claimStands_17 rfl (lv_at hl 0 rfl) ?_
    obtain ⟨v6, hv6, hp⟩ := ob hp
    refine mr_getL C0 cbX2 hM 10 (by decide) tw_158 hv6 dX2_claimStands_18 ?_
    refine lv_ldc2 (v := -1) hx hb hown (hts _ tw_1723) dX2_claimStands_21 ?_
    refine lv_lxor hx hb dX2_claimStands_24 ?_
    refine lv_land hx hb dX2_claimStands_25 ?_
    refine lv_iload_n hx hb dX2_claimStands_26 rfl (lv_at hl 2 rfl) ?_
    obtain ⟨_, h7, hp⟩ := ob hp
    obtain ⟨v8, hv8, hp⟩ := ob hp
    refine mr_V1 (As := [.long (v5 &&& (v6 ^^^ (-1 : Int64))), .int a2]) (rest := []) C0 cbX2 hM h7 rfl (w_X2_lastOf hG hv8) tw_1724 tw_578 tw_579 tw_17 tw_580 yk_X2_lastOf (by decide) rfl hl.1 (Nat.le_of_ble_eq_true rfl) dX2_claimStands_27 rfl (fun H locs hM => ?_)
    refine lv_istore_n (lv' := [(3, .int v8), (0, .ref a0), (1, .int a1), (2, .int a2)]) hx hb dX2_claimStands_30 rfl hl (by decide) rfl (fun ls hl => ?_)
    refine lv_iload_n hx hb dX2_claimStands_31 rfl (lv_at hl 0 rfl) ?_
    refine lv_iconst (v := -1) hx hb dX2_claimStands_32 (by decide) ?_
    refine lv_icmp_eq (tgt := 56) hx hb dX2_claimStands_33 (by decide) (fun c9 => ?_) (fun c9 => ?_)
    · replace hp := oT c9 hp
      refine lv_iconst (v := 0) hx hb dX2_claimStands_56 (by decide) ?_
      exact mr_zret C0 hr hlk hM rfl (Or.inl rfl) (Option.some.inj hp) (Nat.le_refl _) (Nat.le_refl _) dX2_claimStands_57
    · replace hp := oF c9 hp
      refine lv_aload_n hx hb dX2_claimStands_36 rfl (lv_at hl 1 rfl) ?_
      refine lv_iload_n hx hb dX2_claimStands_37 rfl (lv_at hl 2 rfl) ?_
      refine lv_iload_n hx hb dX2_claimStands_38 rfl (lv_at hl 3 rfl) ?_
      obtain ⟨_, h10, hp⟩ := ob hp
      obtain ⟨v11, hv11, hp⟩ := ob hp
      refine mr_V1 (As := [.int a1, .int a2]) (rest := []) C0 cbX2 hM h10 rfl (w_X2_standing hG hv11) tw_582 tw_583 tw_584 tw_17 tw_585 yk_X2_standing (by decide) rfl hl.1 (Nat.le_of_ble_eq_true rfl) dX2_claimStands_39 rfl (fun H locs hM => ?_)
      refine lv_aload_n hx hb dX2_claimStands_42 rfl (lv_at hl 1 rfl) ?_
      refine lv_iload_n hx hb dX2_claimStands_43 rfl (lv_at hl 0 rfl) ?_
      refine lv_iload_n hx hb dX2_claimStands_44 rfl (lv_at hl 3 rfl) ?_
      obtain ⟨_, h12, hp⟩ := ob hp
      obtain ⟨v13, hv13, hp⟩ := ob hp
      refine mr_V1 (As := [.int v8, .int a2]) (rest := [.long v11]) C0 cbX2 hM h12 rfl (w_X2_standing hG hv13) tw_582 tw_583 tw_584 tw_17 tw_585 yk_X2_standing (by decide) rfl hl.1 (Nat.le_of_ble_eq_true rfl) dX2_claimStands_45 rfl (fun H locs hM => ?_)
      refine W.lcmp hx hb dX2_claimStands_48 ?_
      refine lv_if_ge (tgt := 56) hx hb dX2_claimStands_49 (by decide) (fun c14 => ?_) (fun c14 => ?_)
      · replace hp := oT c14 hp
        refine lv_iconst (v := 0) hx hb dX2_claimStands_56 (by decide) ?_
        exact mr_zret C0 hr hlk hM rfl (Or.inl rfl) (Option.some.inj hp) (Nat.le_refl _) (Nat.le_refl _) dX2_claimStands_57
      · replace hp := oF c14 hp
        refine lv_iconst (v := 1) hx hb dX2_claimStands_52 (by decide) ?_
        refine lv_goto (tgt := 57) hx hb dX2_claimStands_53 (by decide) ?_
        exact mr_zret C0 hr hlk hM rfl (Or.inr rfl) (Option.some.inj hp) (Nat.le_refl _) (Nat.le_refl _) dX2_claimStands_57
  · replace hp := oT c3 hp
    refine lv_iconst (v := 0) hx hb dX2_claimStands_9 (by decide) ?_
    exact mr_zret C0 hr hlk hM rfl (Or.inl rfl) (Option.some.inj hp) (Nat.le_refl _) (Nat.le_refl _) dX2_claimStands_10
abbrev rm_X2_leave : Room := { frames := 0, cells := 0, slots := 0, locals := 0 }
def p_X2_leave (a0 : Nat) (a1 : Int32) (M : Mem) : Option (Mem) :=
  (Option.bind (gR 2 16 M a0) fun v1 =>
  (Option.bind (aIs M v1 a1 (-1 : Int32)) fun M2 =>
  (Option.bind (gL 2 10 M2 a0) fun v3 =>
  (Option.bind (sV 2 10 M2 a0 (.long (v3 &&& (((1 : Int64) <<< (Int32.toInt64 a1 &&& 63)) ^^^ (-1 : Int64))))) fun M4 =>
  some M4
  )
  )
  )
  )
theorem yk_X2_leave : yok yX2_leave 1 := by decide +kernel
set_option maxHeartbeats 4000000 in
set_option maxRecDepth 100000 in
theorem w_X2_leave {G : gG} (hG : GOK G) {l : Launch} {a0 : Nat} {a1 : Int32} {M : Mem} {M' : Mem} (hp : p_X2_leave a0 a1 M = some M') : CT G l yX2_leave (wT yX2_leave cX2_leave 2 (none)) rm_X2_leave [.ref a0, .int a1] M none M' 0 0 := by
  refine CT_of (own := RX2) (maxL := 2) (ret := (none)) hG (by decide) rfl (Nat.le_of_ble_eq_true rfl) (fun p e s m below meth c A C0 hr hlk hM ls hl => ?_)
  have hl : lv_has ls 2 [(0, .ref a0), (1, .int a1)] := hl
  generalize ([.ref a0, .int a1] : List Value).toArray = args at C0 ⊢
  skip
  have hx := C0.1
  have hb := C0.2.1
  have hown := C0.2.2.2.1
  have hts := C0.2.2.2.2.1
  unfold p_X2_leave at hp
  refine lv_aload_n hx hb dX2_leave_0 rfl (lv_at hl 0 rfl) ?_
  obtain ⟨v1, hv1, hp⟩ := ob hp
  refine mr_getR C0 cbX2 hM 16 (by decide) tw_171 hv1 dX2_leave_1 ?_
  refine lv_iload_n hx hb dX2_leave_4 rfl (lv_at hl 1 rfl) ?_
  refine lv_iconst (v := -1) hx hb dX2_leave_5 (by decide) ?_
  obtain ⟨M2, hM2, hp⟩ := ob hp
  refine mr_iast C0 hM hM2 dX2_leave_6 (fun H locs hM => ?_)
  refine lv_aload_n hx hb dX2_leave_7 rfl (lv_at hl 0 rfl) ?_
  refine lv_dup hx hb dX2_leave_8 rfl ?_
  obtain ⟨v3, hv3, hp⟩ := ob hp
  refine mr_getL C0 cbX2 hM 10 (by decide) tw_158 hv3 dX2_leave_9 ?_
  refine lv_lconst (v := 1) hx hb dX2_leave_12 (by decide) ?_
  refine lv_iload_n hx hb dX2_leave_13 rfl (lv_at hl 1 rfl) ?_
  refine lv_lshl (v := ((1 : Int64) <<< (Int32.toInt64 a1 &&& 63))) hx hb dX2_leave_14 rfl ?_
  refine lv_ldc2 (v := -1) hx hb hown (hts _ tw_1723) dX2_leave_15 ?_
  refine lv_lxor hx hb dX2_leave_18 ?_
  refine lv_land hx hb dX2_leave_19 ?_
  obtain ⟨M4, hM4, hp⟩ := ob hp
  refine mr_putL C0 cbX2 hM 10 (by decide) rfl rfl tw_158 hM4 dX2_leave_20 (fun H locs hM => ?_)
  exact mr_vret C0 hr hlk hM (Option.some.inj hp) (Nat.le_refl _) (Nat.le_refl _) dX2_leave_23
abbrev rm_X2_takeOut : Room := { frames := 1, cells := 0, slots := 0, locals := 21 }
def p_X2_takeOut (a0 : Nat) (a1 : Int32) (M : Mem) : Option (Mem) :=
  (Option.bind (isC 2 M a0) fun _ =>
  (Option.bind (p_X2_leave a0 a1 M) fun M2 =>
  (Option.bind (gL 2 9 M2 a0) fun v3 =>
  (Option.bind (sV 2 9 M2 a0 (.long (v3 ||| ((1 : Int64) <<< (Int32.toInt64 a1 &&& 63))))) fun M4 =>
  some M4
  )
  )
  )
  )
theorem yk_X2_takeOut : yok yX2_takeOut 1 := by decide +kernel
set_option maxHeartbeats 4000000 in
set_option maxRecDepth 100000 in
theorem w_X2_takeOut {G : gG} (hG : GOK G) {l : Launch} {a0 : Nat} {a1 : Int32} {M : Mem} {M' : Mem} (hp : p_X2_takeOut a0 a1 M = some M') : CT G l yX2_takeOut (wT yX2_takeOut cX2_takeOut 2 (none)) rm_X2_takeOut [.ref a0, .int a1] M none M' 0 0 := by
  refine CT_of (own := RX2) (maxL := 2) (ret := (none)) hG (by decide) rfl (Nat.le_of_ble_eq_true rfl) (fun p e s m below meth c A C0 hr hlk hM ls hl => ?_)
  have hl : lv_has ls 2 [(0, .ref a0), (1, .int a1)] := hl
  generalize ([.ref a0, .int a1] : List Value).toArray = args at C0 ⊢
  skip
  have hx := C0.1
  have hb := C0.2.1
  have hown := C0.2.2.2.1
  have hts := C0.2.2.2.2.1
  unfold p_X2_takeOut at hp
  refine lv_aload_n hx hb dX2_takeOut_0 rfl (lv_at hl 0 rfl) ?_
  refine lv_iload_n hx hb dX2_takeOut_1 rfl (lv_at hl 1 rfl) ?_
  obtain ⟨_, h1, hp⟩ := ob hp
  obtain ⟨M2, hM2, hp⟩ := ob hp
  refine mr_V0 (As := [.int a1]) (rest := []) C0 cbX2 hM h1 rfl (w_X2_leave hG hM2) tw_1841 tw_1842 tw_1843 tw_17 tw_1844 yk_X2_leave (by decide) rfl hl.1 (Nat.le_of_ble_eq_true rfl) dX2_takeOut_2 rfl (fun H locs hM => ?_)
  refine lv_aload_n hx hb dX2_takeOut_5 rfl (lv_at hl 0 rfl) ?_
  refine lv_dup hx hb dX2_takeOut_6 rfl ?_
  obtain ⟨v3, hv3, hp⟩ := ob hp
  refine mr_getL C0 cbX2 hM 9 (by decide) tw_155 hv3 dX2_takeOut_7 ?_
  refine lv_lconst (v := 1) hx hb dX2_takeOut_10 (by decide) ?_
  refine lv_iload_n hx hb dX2_takeOut_11 rfl (lv_at hl 1 rfl) ?_
  refine lv_lshl (v := ((1 : Int64) <<< (Int32.toInt64 a1 &&& 63))) hx hb dX2_takeOut_12 rfl ?_
  refine lv_lor hx hb dX2_takeOut_13 ?_
  obtain ⟨M4, hM4, hp⟩ := ob hp
  refine mr_putL C0 cbX2 hM 9 (by decide) rfl rfl tw_155 hM4 dX2_takeOut_14 (fun H locs hM => ?_)
  exact mr_vret C0 hr hlk hM (Option.some.inj hp) (Nat.le_refl _) (Nat.le_refl _) dX2_takeOut_17
abbrev rm_X2_handBack : Room := { frames := 2, cells := 0, slots := 0, locals := 43 }
def p_X2_handBack (a0 : Nat) (a1 : Int32) (M : Mem) : Option (Mem) :=
  (Option.bind (isC 2 M a0) fun _ =>
  (Option.bind (p_X2_gotWish a0 a1 M) fun v2 =>
  (Option.bind (isC 2 M a0) fun _ =>
  (Option.bind (p_X2_leave a0 a1 M) fun M4 =>
  (if 0 < v2 then
   (Option.bind (gR 2 15 M4 a0) fun v6 =>
   (Option.bind (aI 0 M4 v6 a1) fun v7 =>
   (Option.bind (aIs M4 v6 a1 (v7 &&& (((1 : Int32) <<< (((4 : Int32) * v2) &&& 31)) - (1 : Int32)))) fun M8 =>
   some M8
   )
   )
   )
  else
   (Option.bind (isC 2 M4 a0) fun _ =>
   (Option.bind (p_X2_takeOut a0 a1 M4) fun M10 =>
   some M10
   )
   )
  )
  )
  )
  )
  )
theorem yk_X2_handBack : yok yX2_handBack 1 := by decide +kernel
set_option maxHeartbeats 4000000 in
set_option maxRecDepth 100000 in
theorem w_X2_handBack {G : gG} (hG : GOK G) {l : Launch} {a0 : Nat} {a1 : Int32} {M : Mem} {M' : Mem} (hp : p_X2_handBack a0 a1 M = some M') : CT G l yX2_handBack (wT yX2_handBack cX2_handBack 3 (none)) rm_X2_handBack [.ref a0, .int a1] M none M' 0 0 := by
  refine CT_of (own := RX2) (maxL := 3) (ret := (none)) hG (by decide) rfl (Nat.le_of_ble_eq_true rfl) (fun p e s m below meth c A C0 hr hlk hM ls hl => ?_)
  have hl : lv_has ls 3 [(0, .ref a0), (1, .int a1)] := hl
  generalize ([.ref a0, .int a1] : List Value).toArray = args at C0 ⊢
  skip
  have hx := C0.1
  have hb := C0.2.1
  have hown := C0.2.2.2.1
  have hts := C0.2.2.2.2.1
  unfold p_X2_handBack at hp
  refine lv_aload_n hx hb dX2_handBack_0 rfl (lv_at hl 0 rfl) ?_
  refine lv_iload_n hx hb dX2_handBack_1 rfl (lv_at hl 1 rfl) ?_
  obtain ⟨_, h1, hp⟩ := ob hp
  obtain ⟨v2, hv2, hp⟩ := ob hp
  refine mr_V1 (As := [.int a1]) (rest := []) C0 cbX2 hM h1 rfl (w_X2_gotWish hG hv2) tw_1909 tw_1687 tw_1688 tw_17 tw_1689 yk_X2_gotWish (by decide) rfl hl.1 (Nat.le_of_ble_eq_true rfl) dX2_handBack_2 rfl (fun H locs hM => ?_)
  refine lv_istore_n (lv' := [(2, .int v2), (0, .ref a0), (1, .int a1)]) hx hb dX2_handBack_5 rfl hl (by decide) rfl (fun ls hl => ?_)
  refine lv_aload_n hx hb dX2_handBack_6 rfl (lv_at hl 1 rfl) ?_
  refine lv_iload_n hx hb dX2_handBack_7 rfl (lv_at hl 2 rfl) ?_
  obtain ⟨_, h3, hp⟩ := ob hp
  obtain ⟨M4, hM4, hp⟩ := ob hp
  refine mr_V0 (As := [.int a1]) (rest := []) C0 cbX2 hM h3 rfl (w_X2_leave hG hM4) tw_1841 tw_1842 tw_1843 tw_17 tw_1844 yk_X2_leave (by decide) rfl hl.1 (Nat.le_of_ble_eq_true rfl) dX2_handBack_8 rfl (fun H locs hM => ?_)
  refine lv_iload_n hx hb dX2_handBack_11 rfl (lv_at hl 0 rfl) ?_
  refine lv_if_gt (tgt := 23) hx hb dX2_handBack_12 (by decide) (fun c5 => ?_) (fun c5 => ?_)
  · replace hp := oT c5 hp
    refine lv_aload_n hx hb dX2_handBack_23 rfl (lv_at hl 1 rfl) ?_
    obtain ⟨v6, hv6, hp⟩ := ob hp
    refine mr_getR C0 cbX2 hM 15 (by decide) tw_168 hv6 dX2_handBack_24 ?_
    refine lv_iload_n hx hb dX2_handBack_27 rfl (lv_at hl 2 rfl) ?_
    refine lv_dup2_11 hx hb dX2_handBack_28 rfl rfl ?_
    obtain ⟨v7, hv7, hp⟩ := ob hp
    refine mr_iald C0 hM hv7 dX2_handBack_29 ?_
    refine lv_iconst (v := 1) hx hb dX2_handBack_30 (by decide) ?_
    refine lv_iconst (v := 4) hx hb dX2_handBack_31 (by decide) ?_
    refine lv_iload_n hx hb dX2_handBack_32 rfl (lv_at hl 0 rfl) ?_
    refine lv_imul hx hb dX2_handBack_33 ?_
    refine lv_ishl hx hb dX2_handBack_34 ?_
    refine lv_iconst (v := 1) hx hb dX2_handBack_35 (by decide) ?_
    refine lv_isub hx hb dX2_handBack_36 ?_
    refine lv_iand hx hb dX2_handBack_37 ?_
    obtain ⟨M8, hM8, hp⟩ := ob hp
    refine mr_iast C0 hM hM8 dX2_handBack_38 (fun H locs hM => ?_)
    exact mr_vret C0 hr hlk hM (Option.some.inj hp) (Nat.le_refl _) (Nat.le_refl _) dX2_handBack_39
  · replace hp := oF c5 hp
    refine lv_aload_n hx hb dX2_handBack_15 rfl (lv_at hl 1 rfl) ?_
    refine lv_iload_n hx hb dX2_handBack_16 rfl (lv_at hl 2 rfl) ?_
    obtain ⟨_, h9, hp⟩ := ob hp
    obtain ⟨M10, hM10, hp⟩ := ob hp
    refine mr_V0 (As := [.int a1]) (rest := []) C0 cbX2 hM h9 rfl (w_X2_takeOut hG hM10) tw_1910 tw_1851 tw_1852 tw_17 tw_1853 yk_X2_takeOut (by decide) rfl hl.1 (Nat.le_of_ble_eq_true rfl) dX2_handBack_17 rfl (fun H locs hM => ?_)
    refine lv_goto (tgt := 39) hx hb dX2_handBack_20 (by decide) ?_
    exact mr_vret C0 hr hlk hM (Option.some.inj hp) (Nat.le_refl _) (Nat.le_refl _) dX2_handBack_39
abbrev rm_X2_hearAppeal : Room := { frames := 5, cells := 0, slots := 0, locals := 124 }
def p_X2_hearAppeal (a0 : Nat) (a1 : Int32) (a2 : Int32) (M : Mem) : Option (Int32 × Mem) :=
  (Option.bind (isC 2 M a0) fun _ =>
  (Option.bind (p_X2_claimStands a0 a1 a2 M) fun v2 =>
  (jn (fun (_ : Unit) =>
   (jn (fun  (M4 : Mem) =>
    (Option.bind (gR 2 16 M4 a0) fun v6 =>
    (Option.bind (aIs M4 v6 a1 a2) fun M7 =>
    (Option.bind (gL 2 10 M7 a0) fun v8 =>
    (Option.bind (sV 2 10 M7 a0 (.long (v8 ||| ((1 : Int64) <<< (Int32.toInt64 a1 &&& 63))))) fun M9 =>
    (if v2 = 0 then
     some ((1 : Int32), M9)
    else
     some ((2 : Int32), M9)
    )
    )
    )
    )
    )
   ) fun k5 =>
   (if v2 = 0 then
    (Option.bind (gR 2 19 M a0) fun v12 =>
    (Option.bind (aI 0 M v12 a2) fun v13 =>
    (Option.bind (aIs M v12 a2 (v13 + (1 : Int32))) fun M14 =>
    (k5  M14)
    )
    )
    )
   else
    (k5  M)
   )
   )
  ) fun k3 =>
  (if v2 = 0 then
   (Option.bind (gR 2 19 M a0) fun v16 =>
   (Option.bind (aI 0 M v16 a2) fun v17 =>
   (Option.bind (gR 2 0 M a0) fun v18 =>
   (Option.bind (gI 4 2 M v18) fun v19 =>
   (if v17 < v19 then
    (k3 ())
   else
    some ((0 : Int32), M)
   )
   )
   )
   )
   )
  else
   (k3 ())
  )
  )
  )
  )
theorem yk_X2_hearAppeal : yok yX2_hearAppeal 2 := by decide +kernel
set_option maxHeartbeats 4000000 in
set_option maxRecDepth 100000 in
theorem w_X2_hearAppeal {G : gG} (hG : GOK G) {l : Launch} {a0 : Nat} {a1 : Int32} {a2 : Int32} {M : Mem} {r : Int32} {M' : Mem} (hp : p_X2_hearAppeal a0 a1 a2 M = some (r, M')) : CT G l yX2_hearAppeal (wT yX2_hearAppeal cX2_hearAppeal 4 (some FieldType.int)) rm_X2_hearAppeal [.ref a0, .int a1, .int a2] M (some (.int r)) M' 0 0 := by
  refine CT_of (own := RX2) (maxL := 4) (ret := (some FieldType.int)) hG (by decide) rfl (Nat.le_of_ble_eq_true rfl) (fun p e s m below meth c A C0 hr hlk hM ls hl => ?_)
  have hl : lv_has ls 4 [(0, .ref a0), (1, .int a1), (2, .int a2)] := hl
  generalize ([.ref a0, .int a1, .int a2] : List Value).toArray = args at C0 ⊢
  skip
  have hx := C0.1
  have hb := C0.2.1
  have hown := C0.2.2.2.1
  have hts := C0.2.2.2.2.1
  unfold p_X2_hearAppeal at hp
  refine lv_aload_n hx hb dX2_hearAppeal_0 rfl (lv_at hl 0 rfl) ?_
  refine lv_iload_n hx hb dX2_hearAppeal_1 rfl (lv_at hl 1 rfl) ?_
  refine lv_iload_n hx hb dX2_hearAppeal_2 rfl (lv_at hl 2 rfl) ?_
  obtain ⟨_, h1, hp⟩ := ob hp
  obtain ⟨v2, hv2, hp⟩ := ob hp
  refine mr_V1 (As := [.int a1, .int a2]) (rest := []) C0 cbX2 hM h1 rfl (w_X2_claimStands hG hv2) tw_1937 tw_1711 tw_1712 tw_17 tw_1713 yk_X2_claimStands (by decide) rfl hl.1 (Nat.le_of_ble_eq_true rfl) dX2_hearAppeal_3 rfl (fun H locs hM => ?_)
  refine lv_istore_n (lv' := [(3, .int v2), (0, .ref a0), (1, .int a1), (2, .int a2)]) hx hb dX2_hearAppeal_6 rfl hl (by decide) rfl (fun ls hl => ?_)
  refine lv_iload_n hx hb dX2_hearAppeal_7 rfl (lv_at hl 0 rfl) ?_
  obtain ⟨k3, ek3, hp⟩ := ojn hp
  have hk3 : ∀ (H : Heap) (locs : List Loc) (ls : Array Slot), mm G A s M H locs → lv_has ls 4 [(0, .ref a0), (1, .int a1), (2, .int a2), (3, .int v2)] → k3 () = some (r, M') → W p l e rm_X2_hearAppeal s m args below meth c H locs 0 0 (MQ below (CQ G M' (some (.int r)) A) args s 0 0 A) (F0 m 29 ls []) := by
    intro  H locs ls hM hl hp
    rw [ek3] at hp
    refine lv_iload_n hx hb dX2_hearAppeal_29 rfl (lv_at hl 3 rfl) ?_
    obtain ⟨k5, ek5, hp⟩ := ojn hp
    have hk5 : ∀ (M4 : Mem) (H : Heap) (locs : List Loc) (ls : Array Slot), mm G A s M4 H locs → lv_has ls 4 [(0, .ref a0), (1, .int a1), (2, .int a2), (3, .int v2)] → k5  M4 = some (r, M') → W p l e rm_X2_hearAppeal s m args below meth c H locs 0 0 (MQ below (CQ G M' (some (.int r)) A) args s 0 0 A) (F0 m 43 ls []) := by
      intro  M4 H locs ls hM hl hp
      rw [ek5] at hp
      refine lv_aload_n hx hb dX2_hearAppeal_43 rfl (lv_at hl 0 rfl) ?_
      obtain ⟨v6, hv6, hp⟩ := ob hp
      refine mr_getR C0 cbX2 hM 16 (by decide) tw_171 hv6 dX2_hearAppeal_44 ?_
      refine lv_iload_n hx hb dX2_hearAppeal_47 rfl (lv_at hl 1 rfl) ?_
      refine lv_iload_n hx hb dX2_hearAppeal_48 rfl (lv_at hl 2 rfl) ?_
      obtain ⟨M7, hM7, hp⟩ := ob hp
      refine mr_iast C0 hM hM7 dX2_hearAppeal_49 (fun H locs hM => ?_)
      refine lv_aload_n hx hb dX2_hearAppeal_50 rfl (lv_at hl 0 rfl) ?_
      refine lv_dup hx hb dX2_hearAppeal_51 rfl ?_
      obtain ⟨v8, hv8, hp⟩ := ob hp
      refine mr_getL C0 cbX2 hM 10 (by decide) tw_158 hv8 dX2_hearAppeal_52 ?_
      refine lv_lconst (v := 1) hx hb dX2_hearAppeal_55 (by decide) ?_
      refine lv_iload_n hx hb dX2_hearAppeal_56 rfl (lv_at hl 1 rfl) ?_
      refine lv_lshl (v := ((1 : Int64) <<< (Int32.toInt64 a1 &&& 63))) hx hb dX2_hearAppeal_57 rfl ?_
      refine lv_lor hx hb dX2_hearAppeal_58 ?_
      obtain ⟨M9, hM9, hp⟩ := ob hp
      refine mr_putL C0 cbX2 hM 10 (by decide) rfl rfl tw_158 hM9 dX2_hearAppeal_59 (fun H locs hM => ?_)
      refine lv_iload_n hx hb dX2_hearAppeal_62 rfl (lv_at hl 3 rfl) ?_
      refine lv_if_eq (tgt := 70) hx hb dX2_hearAppeal_63 (by decide) (fun c10 => ?_) (fun c10 => ?_)
      · replace hp := oT c10 hp
        refine lv_iconst (v := 1) hx hb dX2_hearAppeal_70 (by decide) ?_
        exact mr_iret C0 hr hlk hM (Prod.mk.inj (Option.some.inj hp)).2 (Prod.mk.inj (Option.some.inj hp)).1 (Nat.le_refl _) (Nat.le_refl _) dX2_hearAppeal_71
      · replace hp := oF c10 hp
        refine lv_iconst (v := 2) hx hb dX2_hearAppeal_66 (by decide) ?_
        refine lv_goto (tgt := 71) hx hb dX2_hearAppeal_67 (by decide) ?_
        exact mr_iret C0 hr hlk hM (Prod.mk.inj (Option.some.inj hp)).2 (Prod.mk.inj (Option.some.inj hp)).1 (Nat.le_refl _) (Nat.le_refl _) dX2_hearAppeal_71
    refine lv_if_ne (tgt := 43) hx hb dX2_hearAppeal_30 (by decide) (fun c11 => ?_) (fun c11 => ?_)
    · replace hp := oF c11 hp
      exact hk5  _ _ _ _ hM (lv_sub hl [0, 1, 2, 3] rfl) hp
    · replace hp := oT c11 hp
      refine lv_aload_n hx hb dX2_hearAppeal_33 rfl (lv_at hl 0 rfl) ?_
      obtain ⟨v12, hv12, hp⟩ := ob hp
      refine mr_getR C0 cbX2 hM 19 (by decide) tw_180 hv12 dX2_hearAppeal_34 ?_
      refine lv_iload_n hx hb dX2_hearAppeal_37 rfl (lv_at hl 2 rfl) ?_
      refine lv_dup2_11 hx hb dX2_hearAppeal_38 rfl rfl ?_
      obtain ⟨v13, hv13, hp⟩ := ob hp
      refine mr_iald C0 hM hv13 dX2_hearAppeal_39 ?_
      refine lv_iconst (v := 1) hx hb dX2_hearAppeal_40 (by decide) ?_
      refine lv_iadd hx hb dX2_hearAppeal_41 ?_
      obtain ⟨M14, hM14, hp⟩ := ob hp
      refine mr_iast C0 hM hM14 dX2_hearAppeal_42 (fun H locs hM => ?_)
      exact hk5  _ _ _ _ hM (lv_sub hl [0, 1, 2, 3] rfl) hp
  refine lv_if_ne (tgt := 29) hx hb dX2_hearAppeal_8 (by decide) (fun c15 => ?_) (fun c15 => ?_)
  · replace hp := oF c15 hp
    exact hk3  _ _ _ hM (lv_sub hl [1, 2, 3, 0] rfl) hp
  · replace hp := oT c15 hp
    refine lv_aload_n hx hb dX2_hearAppeal_11 rfl (lv_at hl 1 rfl) ?_
    obtain ⟨v16, hv16, hp⟩ := ob hp
    refine mr_getR C0 cbX2 hM 19 (by decide) tw_180 hv16 dX2_hearAppeal_12 ?_
    refine lv_iload_n hx hb dX2_hearAppeal_15 rfl (lv_at hl 3 rfl) ?_
    obtain ⟨v17, hv17, hp⟩ := ob hp
    refine mr_iald C0 hM hv17 dX2_hearAppeal_16 ?_
    refine lv_aload_n hx hb dX2_hearAppeal_17 rfl (lv_at hl 1 rfl) ?_
    obtain ⟨v18, hv18, hp⟩ := ob hp
    refine mr_getR C0 cbX2 hM 0 (by decide) tw_132 hv18 dX2_hearAppeal_18 ?_
    obtain ⟨v19, hv19, hp⟩ := ob hp
    refine mr_getI C0 cbX4 hM 2 (by decide) tw_75 hv19 dX2_hearAppeal_21 ?_
    refine lv_icmp_lt (tgt := 29) hx hb dX2_hearAppeal_24 (by decide) (fun c20 => ?_) (fun c20 => ?_)
    · replace hp := oT c20 hp
      exact hk3  _ _ _ hM (lv_sub hl [1, 2, 3, 0] rfl) hp
    · replace hp := oF c20 hp
      refine lv_iconst (v := 0) hx hb dX2_hearAppeal_27 (by decide) ?_
      exact mr_iret C0 hr hlk hM (Prod.mk.inj (Option.some.inj hp)).2 (Prod.mk.inj (Option.some.inj hp)).1 (Nat.le_refl _) (Nat.le_refl _) dX2_hearAppeal_28
abbrev rm_X2_fillOne : Room := { frames := 4, cells := 0, slots := 0, locals := 101 }
def pl_X2_fillOne_2 (k1 : Int32 → Int32 → Option (Int32 × Mem)) (k2 : Unit → Option (Int32 × Mem)) (f0 : Nat) (M : Mem) : Nat → Int32 → Option (Int32 × Mem)
  | 0, _ => none
  | n + 1, y1 =>
    (Option.bind (gR 2 0 M f0) fun v1 =>
    (Option.bind (gI 4 0 M v1) fun v2 =>
    (if v2 ≤ y1 then
     (k2 ())
    else
     (Option.bind (isC 2 M f0) fun _ =>
     (Option.bind (p_X2_holdersOf f0 y1 M) fun v5 =>
     (Option.bind (p_J13_bitCount_95d88 v5 M) fun v6 =>
     (Option.bind (gR 2 18 M f0) fun v7 =>
     (Option.bind (aI 0 M v7 y1) fun v8 =>
     (if v8 ≤ v6 then
      (pl_X2_fillOne_2 k1 k2 f0 M n (y1 + (1 : Int32)))
     else
      (Option.bind (isC 2 M f0) fun _ =>
      (Option.bind (p_X2_waitersOf f0 y1 M) fun v11 =>
      (Option.bind (isC 2 M f0) fun _ =>
      (Option.bind (p_X2_firstOf f0 v11 y1 M) fun v13 =>
      (if v13 = (-1 : Int32) then
       (pl_X2_fillOne_2 k1 k2 f0 M n (y1 + (1 : Int32)))
      else
       (k1 y1 v13)
      )
      )
      )
      )
      )
     )
     )
     )
     )
     )
     )
    )
    )
    )
set_option maxHeartbeats 4000000 in
set_option maxRecDepth 100000 in
theorem wl_X2_fillOne_2 {G : gG} {p : Program} {l : Launch} {e : Env} {s : State} {m : MethodId} {args : Array Value} {below : List Frame} {meth : Method} {c : Code} {A : Nat → Prop} {r : Int32} {M' : Mem} {k1 : Int32 → Int32 → Option (Int32 × Mem)} {k2 : Unit → Option (Int32 × Mem)} {f0 : Nat} {M : Mem} (C0 : cx G p s m args c cX2_fillOne RX2 3 A) (hr : meth.sig.returnType = (some FieldType.boolean)) (hlk : meth.locks = false) (hG : GOK G) (hk1 : ∀ (z1 : Int32) (z2 : Int32) (H : Heap) (locs : List Loc) (ls : Array Slot), mm G A s M H locs → lv_has ls 3 [(0, .ref f0), (1, .int z1), (2, .int z2)] → k1 z1 z2 = some (r, M') → W p l e rm_X2_fillOne s m args below meth c H locs 0 0 (MQ below (CQ G M' (some (.int r)) A) args s 0 0 A) (F0 m 46 ls [])) (hk2 : ∀ (H : Heap) (locs : List Loc) (ls : Array Slot), mm G A s M H locs → lv_has ls 3 [] → k2 () = some (r, M') → W p l e rm_X2_fillOne s m args below meth c H locs 0 0 (MQ below (CQ G M' (some (.int r)) A) args s 0 0 A) (F0 m 66 ls [])) : ∀ (n : Nat) (y1 : Int32) (H : Heap) (locs : List Loc) (ls : Array Slot), mm G A s M H locs → lv_has ls 3 [(0, .ref f0), (1, .int y1)] → pl_X2_fillOne_2 k1 k2 f0 M n y1 = some (r, M') → W p l e rm_X2_fillOne s m args below meth c H locs 0 0 (MQ below (CQ G M' (some (.int r)) A) args s 0 0 A) (F0 m 2 ls []) := by
  have hx := C0.1
  have hb := C0.2.1
  have hown := C0.2.2.2.1
  have hts := C0.2.2.2.2.1
  intro n
  induction n with
  | zero => intro y1 H locs ls hM hl hp; rw [pl_X2_fillOne_2] at hp; cases hp
  | succ n ih =>
    intro y1 H locs ls hM hl hp
    rw [pl_X2_fillOne_2] at hp
    refine lv_iload_n hx hb dX2_fillOne_2 rfl (lv_at hl 1 rfl) ?_
    refine lv_aload_n hx hb dX2_fillOne_3 rfl (lv_at hl 0 rfl) ?_
    obtain ⟨v1, hv1, hp⟩ := ob hp
    refine mr_getR C0 cbX2 hM 0 (by decide) tw_132 hv1 dX2_fillOne_4 ?_
    obtain ⟨v2, hv2, hp⟩ := ob hp
    refine mr_getI C0 cbX4 hM 0 (by decide) tw_68 hv2 dX2_fillOne_7 ?_
    refine lv_icmp_ge (tgt := 66) hx hb dX2_fillOne_10 (by decide) (fun c3 => ?_) (fun c3 => ?_)
    · replace hp := oT c3 hp
      exact hk2  _ _ _ hM (lv_sub hl [] rfl) hp
    · replace hp := oF c3 hp
      refine lv_aload_n hx hb dX2_fillOne_13 rfl (lv_at hl 0 rfl) ?_
      refine lv_iload_n hx hb dX2_fillOne_14 rfl (lv_at hl 1 rfl) ?_
      obtain ⟨_, h4, hp⟩ := ob hp
      obtain ⟨v5, hv5, hp⟩ := ob hp
      refine mr_V1 (As := [.int y1]) (rest := []) C0 cbX2 hM h4 rfl (w_X2_holdersOf hG hv5) tw_1722 tw_568 tw_569 tw_17 tw_570 yk_X2_holdersOf (by decide) rfl hl.1 (Nat.le_of_ble_eq_true rfl) dX2_fillOne_15 rfl (fun H locs hM => ?_)
      obtain ⟨v6, hv6, hp⟩ := ob hp
      refine mr_S1 (As := [.long v5]) (rest := []) C0 hM (w_J13_bitCount_95d88 hG hv6) tw_1835 tw_572 tw_39 tw_573 yk_J13_bitCount_95d88 (by decide) rfl hl.1 (Nat.le_of_ble_eq_true rfl) dX2_fillOne_18 rfl (fun H locs hM => ?_)
      refine lv_aload_n hx hb dX2_fillOne_21 rfl (lv_at hl 0 rfl) ?_
      obtain ⟨v7, hv7, hp⟩ := ob hp
      refine mr_getR C0 cbX2 hM 18 (by decide) tw_176 hv7 dX2_fillOne_22 ?_
      refine lv_iload_n hx hb dX2_fillOne_25 rfl (lv_at hl 1 rfl) ?_
      obtain ⟨v8, hv8, hp⟩ := ob hp
      refine mr_iald C0 hM hv8 dX2_fillOne_26 ?_
      refine lv_icmp_ge (tgt := 60) hx hb dX2_fillOne_27 (by decide) (fun c9 => ?_) (fun c9 => ?_)
      · replace hp := oT c9 hp
        refine lv_iinc (v := (y1 + (1 : Int32))) (lv' := [(1, .int (y1 + (1 : Int32))), (0, .ref f0)]) hx hb dX2_fillOne_60 hl (k := 1) rfl rfl (by decide) rfl (fun ls hl => ?_)
        refine lv_goto (tgt := 2) hx hb dX2_fillOne_63 (by decide) ?_
        exact ih _ _ _ _ hM (lv_sub hl [1, 0] rfl) hp
      · replace hp := oF c9 hp
        refine lv_aload_n hx hb dX2_fillOne_30 rfl (lv_at hl 0 rfl) ?_
        refine lv_aload_n hx hb dX2_fillOne_31 rfl (lv_at hl 0 rfl) ?_
        refine lv_iload_n hx hb dX2_fillOne_32 rfl (lv_at hl 1 rfl) ?_
        obtain ⟨_, h10, hp⟩ := ob hp
        obtain ⟨v11, hv11, hp⟩ := ob hp
        refine mr_V1 (As := [.int y1]) (rest := [.ref f0]) C0 cbX2 hM h10 rfl (w_X2_waitersOf hG hv11) tw_1836 tw_1731 tw_1732 tw_17 tw_1733 yk_X2_waitersOf (by decide) rfl hl.1 (Nat.le_of_ble_eq_true rfl) dX2_fillOne_33 rfl (fun H locs hM => ?_)
        refine lv_iload_n hx hb dX2_fillOne_36 rfl (lv_at hl 1 rfl) ?_
        obtain ⟨_, h12, hp⟩ := ob hp
        obtain ⟨v13, hv13, hp⟩ := ob hp
        refine mr_V1 (As := [.long v11, .int y1]) (rest := []) C0 cbX2 hM h12 rfl (w_X2_firstOf hG hv13) tw_1837 tw_1838 tw_1839 tw_17 tw_1840 yk_X2_firstOf (by decide) rfl hl.1 (Nat.le_of_ble_eq_true rfl) dX2_fillOne_37 rfl (fun H locs hM => ?_)
        refine lv_istore_n (lv' := [(2, .int v13), (0, .ref f0), (1, .int y1)]) hx hb dX2_fillOne_40 rfl hl (by decide) rfl (fun ls hl => ?_)
        refine lv_iload_n hx hb dX2_fillOne_41 rfl (lv_at hl 0 rfl) ?_
        refine lv_iconst (v := -1) hx hb dX2_fillOne_42 (by decide) ?_
        refine lv_icmp_eq (tgt := 60) hx hb dX2_fillOne_43 (by decide) (fun c14 => ?_) (fun c14 => ?_)
        · replace hp := oT c14 hp
          refine lv_iinc (v := (y1 + (1 : Int32))) (lv' := [(1, .int (y1 + (1 : Int32))), (2, .int v13), (0, .ref f0)]) hx hb dX2_fillOne_60 hl (k := 2) rfl rfl (by decide) rfl (fun ls hl => ?_)
          refine lv_goto (tgt := 2) hx hb dX2_fillOne_63 (by decide) ?_
          exact ih _ _ _ _ hM (lv_sub hl [2, 0] rfl) hp
        · replace hp := oF c14 hp
          exact hk1 _ _ _ _ _ hM (lv_sub hl [1, 2, 0] rfl) hp
def p_X2_fillOne (a0 : Nat) (M : Mem) : Option (Int32 × Mem) :=
  (pl_X2_fillOne_2
   (fun (z15 : Int32) (z16 : Int32) =>
    (Option.bind (isC 2 M a0) fun _ =>
    (Option.bind (p_X2_leave a0 z16 M) fun M18 =>
    (Option.bind (gR 2 16 M18 a0) fun v19 =>
    (Option.bind (aIs M18 v19 z16 z15) fun M20 =>
    some ((1 : Int32), M20)
    )
    )
    )
    )
   )
   (fun (_ : Unit) =>
    some ((0 : Int32), M)
   )
   a0 M FU (0 : Int32))
theorem yk_X2_fillOne : yok yX2_fillOne 0 := by decide +kernel
set_option maxHeartbeats 4000000 in
set_option maxRecDepth 100000 in
theorem w_X2_fillOne {G : gG} (hG : GOK G) {l : Launch} {a0 : Nat} {M : Mem} {r : Int32} {M' : Mem} (hp : p_X2_fillOne a0 M = some (r, M')) : CT G l yX2_fillOne (wT yX2_fillOne cX2_fillOne 3 (some FieldType.boolean)) rm_X2_fillOne [.ref a0] M (some (.int r)) M' 0 0 := by
  refine CT_of (own := RX2) (maxL := 3) (ret := (some FieldType.boolean)) hG (by decide) rfl (Nat.le_of_ble_eq_true rfl) (fun p e s m below meth c A C0 hr hlk hM ls hl => ?_)
  have hl : lv_has ls 3 [(0, .ref a0)] := hl
  generalize ([.ref a0] : List Value).toArray = args at C0 ⊢
  skip
  have hx := C0.1
  have hb := C0.2.1
  have hown := C0.2.2.2.1
  have hts := C0.2.2.2.2.1
  unfold p_X2_fillOne at hp
  refine lv_iconst (v := 0) hx hb dX2_fillOne_0 (by decide) ?_
  refine lv_istore_n (lv' := [(1, .int (0 : Int32)), (0, .ref a0)]) hx hb dX2_fillOne_1 rfl hl (by decide) rfl (fun ls hl => ?_)
  refine wl_X2_fillOne_2 C0 hr hlk hG (fun z15 z16 H locs ls hM hl hp => ?_) (fun  H locs ls hM hl hp => ?_) FU _ _ _ _ hM (lv_sub hl [1, 0] rfl) hp
  · refine lv_aload_n hx hb dX2_fillOne_46 rfl (lv_at hl 0 rfl) ?_
    refine lv_iload_n hx hb dX2_fillOne_47 rfl (lv_at hl 2 rfl) ?_
    obtain ⟨_, h17, hp⟩ := ob hp
    obtain ⟨M18, hM18, hp⟩ := ob hp
    refine mr_V0 (As := [.int z16]) (rest := []) C0 cbX2 hM h17 rfl (w_X2_leave hG hM18) tw_1841 tw_1842 tw_1843 tw_17 tw_1844 yk_X2_leave (by decide) rfl hl.1 (Nat.le_of_ble_eq_true rfl) dX2_fillOne_48 rfl (fun H locs hM => ?_)
    refine lv_aload_n hx hb dX2_fillOne_51 rfl (lv_at hl 0 rfl) ?_
    obtain ⟨v19, hv19, hp⟩ := ob hp
    refine mr_getR C0 cbX2 hM 16 (by decide) tw_171 hv19 dX2_fillOne_52 ?_
    refine lv_iload_n hx hb dX2_fillOne_55 rfl (lv_at hl 2 rfl) ?_
    refine lv_iload_n hx hb dX2_fillOne_56 rfl (lv_at hl 1 rfl) ?_
    obtain ⟨M20, hM20, hp⟩ := ob hp
    refine mr_iast C0 hM hM20 dX2_fillOne_57 (fun H locs hM => ?_)
    refine lv_iconst (v := 1) hx hb dX2_fillOne_58 (by decide) ?_
    exact mr_zret C0 hr hlk hM (Prod.mk.inj (Option.some.inj hp)).2 (Or.inr rfl) (Prod.mk.inj (Option.some.inj hp)).1 (Nat.le_refl _) (Nat.le_refl _) dX2_fillOne_59
  · refine lv_iconst (v := 0) hx hb dX2_fillOne_66 (by decide) ?_
    exact mr_zret C0 hr hlk hM (Prod.mk.inj (Option.some.inj hp)).2 (Or.inl rfl) (Prod.mk.inj (Option.some.inj hp)).1 (Nat.le_refl _) (Nat.le_refl _) dX2_fillOne_67
abbrev rm_X2_fillPlaces : Room := { frames := 5, cells := 0, slots := 0, locals := 123 }
def pl_X2_fillPlaces_2 (k1 : Mem → Option (Mem)) (k2 : Mem → Option (Mem)) (f0 : Nat) : Nat → Int32 → Mem → Option (Mem)
  | 0, _, _ => none
  | n + 1, y1, M =>
    (if (160 : Int32) ≤ y1 then
     (k2  M)
    else
     (Option.bind (isC 2 M f0) fun _ =>
     (ob2 (p_X2_fillOne f0 M) fun v3 M4 =>
     (if v3 = 0 then
      (k1  M4)
     else
      (Option.bind (gI 2 6 M4 f0) fun v6 =>
      (Option.bind (sV 2 6 M4 f0 (.int (v6 + (1 : Int32)))) fun M7 =>
      (pl_X2_fillPlaces_2 k1 k2 f0 n (y1 + (1 : Int32)) M7)
      )
      )
     )
     )
     )
    )
set_option maxHeartbeats 4000000 in
set_option maxRecDepth 100000 in
theorem wl_X2_fillPlaces_2 {G : gG} {p : Program} {l : Launch} {e : Env} {s : State} {m : MethodId} {args : Array Value} {below : List Frame} {meth : Method} {c : Code} {A : Nat → Prop} {M' : Mem} {k1 : Mem → Option (Mem)} {k2 : Mem → Option (Mem)} {f0 : Nat} (C0 : cx G p s m args c cX2_fillPlaces RX2 2 A) (hr : meth.sig.returnType = (none)) (hlk : meth.locks = false) (hG : GOK G) (hk1 : ∀ (M : Mem) (H : Heap) (locs : List Loc) (ls : Array Slot), mm G A s M H locs → lv_has ls 2 [] → k1 M = some M' → W p l e rm_X2_fillPlaces s m args below meth c H locs 0 0 (MQ below (CQ G M' none A) args s 0 0 A) (F0 m 16 ls [])) (hk2 : ∀ (M : Mem) (H : Heap) (locs : List Loc) (ls : Array Slot), mm G A s M H locs → lv_has ls 2 [] → k2 M = some M' → W p l e rm_X2_fillPlaces s m args below meth c H locs 0 0 (MQ below (CQ G M' none A) args s 0 0 A) (F0 m 33 ls [])) : ∀ (n : Nat) (y1 : Int32) (M : Mem) (H : Heap) (locs : List Loc) (ls : Array Slot), mm G A s M H locs → lv_has ls 2 [(0, .ref f0), (1, .int y1)] → pl_X2_fillPlaces_2 k1 k2 f0 n y1 M = some M' → W p l e rm_X2_fillPlaces s m args below meth c H locs 0 0 (MQ below (CQ G M' none A) args s 0 0 A) (F0 m 2 ls []) := by
  have hx := C0.1
  have hb := C0.2.1
  have hown := C0.2.2.2.1
  have hts := C0.2.2.2.2.1
  intro n
  induction n with
  | zero => intro y1 M H locs ls hM hl hp; rw [pl_X2_fillPlaces_2] at hp; cases hp
  | succ n ih =>
    intro y1 M H locs ls hM hl hp
    rw [pl_X2_fillPlaces_2] at hp
    refine lv_iload_n hx hb dX2_fillPlaces_2 rfl (lv_at hl 1 rfl) ?_
    refine lv_sipush (v := 160) hx hb dX2_fillPlaces_3 (by decide) ?_
    refine lv_icmp_ge (tgt := 33) hx hb dX2_fillPlaces_6 (by decide) (fun c1 => ?_) (fun c1 => ?_)
    · replace hp := oT c1 hp
      exact hk2  _ _ _ _ hM (lv_sub hl [] rfl) hp
    · replace hp := oF c1 hp
      refine lv_aload_n hx hb dX2_fillPlaces_9 rfl (lv_at hl 0 rfl) ?_
      obtain ⟨_, h2, hp⟩ := ob hp
      obtain ⟨v3, M4, hv3, hp⟩ := ob3 hp
      refine mr_V1 (As := []) (rest := []) C0 cbX2 hM h2 rfl (w_X2_fillOne hG hv3) tw_1831 tw_1832 tw_1833 tw_17 tw_1834 yk_X2_fillOne (by decide) rfl hl.1 (Nat.le_of_ble_eq_true rfl) dX2_fillPlaces_10 rfl (fun H locs hM => ?_)
      refine lv_if_ne (tgt := 17) hx hb dX2_fillPlaces_13 (by decide) (fun c5 => ?_) (fun c5 => ?_)
      · replace hp := oF c5 hp
        refine lv_aload_n hx hb dX2_fillPlaces_17 rfl (lv_at hl 0 rfl) ?_
        refine lv_dup hx hb dX2_fillPlaces_18 rfl ?_
        obtain ⟨v6, hv6, hp⟩ := ob hp
        refine mr_getI C0 cbX2 hM 6 (by decide) tw_149 hv6 dX2_fillPlaces_19 ?_
        refine lv_iconst (v := 1) hx hb dX2_fillPlaces_22 (by decide) ?_
        refine lv_iadd hx hb dX2_fillPlaces_23 ?_
        obtain ⟨M7, hM7, hp⟩ := ob hp
        refine mr_putI C0 cbX2 hM 6 (by decide) rfl rfl tw_149 hM7 dX2_fillPlaces_24 (fun H locs hM => ?_)
        refine lv_iinc (v := (y1 + (1 : Int32))) (lv' := [(1, .int (y1 + (1 : Int32))), (0, .ref f0)]) hx hb dX2_fillPlaces_27 hl (k := 1) rfl rfl (by decide) rfl (fun ls hl => ?_)
        refine lv_goto (tgt := 2) hx hb dX2_fillPlaces_30 (by decide) ?_
        exact ih _ _ _ _ _ hM (lv_sub hl [1, 0] rfl) hp
      · replace hp := oT c5 hp
        exact hk1  _ _ _ _ hM (lv_sub hl [] rfl) hp
def p_X2_fillPlaces (a0 : Nat) (M : Mem) : Option (Mem) :=
  (pl_X2_fillPlaces_2
   (fun  (M8 : Mem) =>
    some M8
   )
   (fun  (M9 : Mem) =>
    some M9
   )
   a0 FU (0 : Int32) M)
theorem yk_X2_fillPlaces : yok yX2_fillPlaces 0 := by decide +kernel
set_option maxHeartbeats 4000000 in
set_option maxRecDepth 100000 in
theorem w_X2_fillPlaces {G : gG} (hG : GOK G) {l : Launch} {a0 : Nat} {M : Mem} {M' : Mem} (hp : p_X2_fillPlaces a0 M = some M') : CT G l yX2_fillPlaces (wT yX2_fillPlaces cX2_fillPlaces 2 (none)) rm_X2_fillPlaces [.ref a0] M none M' 0 0 := by
  refine CT_of (own := RX2) (maxL := 2) (ret := (none)) hG (by decide) rfl (Nat.le_of_ble_eq_true rfl) (fun p e s m below meth c A C0 hr hlk hM ls hl => ?_)
  have hl : lv_has ls 2 [(0, .ref a0)] := hl
  generalize ([.ref a0] : List Value).toArray = args at C0 ⊢
  skip
  have hx := C0.1
  have hb := C0.2.1
  have hown := C0.2.2.2.1
  have hts := C0.2.2.2.2.1
  unfold p_X2_fillPlaces at hp
  refine lv_iconst (v := 0) hx hb dX2_fillPlaces_0 (by decide) ?_
  refine lv_istore_n (lv' := [(1, .int (0 : Int32)), (0, .ref a0)]) hx hb dX2_fillPlaces_1 rfl hl (by decide) rfl (fun ls hl => ?_)
  refine wl_X2_fillPlaces_2 C0 hr hlk hG (fun M8 H locs ls hM hl hp => ?_) (fun M9 H locs ls hM hl hp => ?_) FU _ _ _ _ _ hM (lv_sub hl [1, 0] rfl) hp
  · exact mr_vret C0 hr hlk hM (Option.some.inj hp) (Nat.le_refl _) (Nat.le_refl _) dX2_fillPlaces_16
  · exact mr_vret C0 hr hlk hM (Option.some.inj hp) (Nat.le_refl _) (Nat.le_refl _) dX2_fillPlaces_33
abbrev rm_X4_find : Room := { frames := 0, cells := 0, slots := 0, locals := 0 }
def pl_X4_find_2 (k1 : Int32 → Option (Int32)) (k2 : Unit → Option (Int32)) (f0 : Nat) (f1 : Int32) (M : Mem) : Nat → Int32 → Option (Int32)
  | 0, _ => none
  | n + 1, y2 =>
    (Option.bind (gI 4 0 M f0) fun v1 =>
    (if v1 ≤ y2 then
     (k2 ())
    else
     (Option.bind (gR 4 3 M f0) fun v3 =>
     (Option.bind (aI 0 M v3 y2) fun v4 =>
     (if v4 = f1 then
      (k1 y2)
     else
      (pl_X4_find_2 k1 k2 f0 f1 M n (y2 + (1 : Int32)))
     )
     )
     )
    )
    )
set_option maxHeartbeats 4000000 in
set_option maxRecDepth 100000 in
theorem wl_X4_find_2 {G : gG} {p : Program} {l : Launch} {e : Env} {s : State} {m : MethodId} {args : Array Value} {below : List Frame} {meth : Method} {c : Code} {A : Nat → Prop} {r : Int32} {k1 : Int32 → Option (Int32)} {k2 : Unit → Option (Int32)} {f0 : Nat} {f1 : Int32} {M : Mem} (C0 : cx G p s m args c cX4_find RX4 3 A) (hr : meth.sig.returnType = (some FieldType.int)) (hlk : meth.locks = false) (hG : GOK G) (hk1 : ∀ (z2 : Int32) (H : Heap) (locs : List Loc) (ls : Array Slot), mm G A s M H locs → lv_has ls 3 [(2, .int z2)] → k1 z2 = some r → W p l e rm_X4_find s m args below meth c H locs 0 0 (MQ below (CQ G M (some (.int r)) A) args s 0 0 A) (F0 m 20 ls [])) (hk2 : ∀ (H : Heap) (locs : List Loc) (ls : Array Slot), mm G A s M H locs → lv_has ls 3 [] → k2 () = some r → W p l e rm_X4_find s m args below meth c H locs 0 0 (MQ below (CQ G M (some (.int r)) A) args s 0 0 A) (F0 m 28 ls [])) : ∀ (n : Nat) (y2 : Int32) (H : Heap) (locs : List Loc) (ls : Array Slot), mm G A s M H locs → lv_has ls 3 [(0, .ref f0), (1, .int f1), (2, .int y2)] → pl_X4_find_2 k1 k2 f0 f1 M n y2 = some r → W p l e rm_X4_find s m args below meth c H locs 0 0 (MQ below (CQ G M (some (.int r)) A) args s 0 0 A) (F0 m 2 ls []) := by
  have hx := C0.1
  have hb := C0.2.1
  have hown := C0.2.2.2.1
  have hts := C0.2.2.2.2.1
  intro n
  induction n with
  | zero => intro y2 H locs ls hM hl hp; rw [pl_X4_find_2] at hp; cases hp
  | succ n ih =>
    intro y2 H locs ls hM hl hp
    rw [pl_X4_find_2] at hp
    refine lv_iload_n hx hb dX4_find_2 rfl (lv_at hl 2 rfl) ?_
    refine lv_aload_n hx hb dX4_find_3 rfl (lv_at hl 0 rfl) ?_
    obtain ⟨v1, hv1, hp⟩ := ob hp
    refine mr_getI C0 cbX4 hM 0 (by decide) tw_64 hv1 dX4_find_4 ?_
    refine lv_icmp_ge (tgt := 28) hx hb dX4_find_7 (by decide) (fun c2 => ?_) (fun c2 => ?_)
    · replace hp := oT c2 hp
      exact hk2  _ _ _ hM (lv_sub hl [] rfl) hp
    · replace hp := oF c2 hp
      refine lv_aload_n hx hb dX4_find_10 rfl (lv_at hl 0 rfl) ?_
      obtain ⟨v3, hv3, hp⟩ := ob hp
      refine mr_getR C0 cbX4 hM 3 (by decide) tw_76 hv3 dX4_find_11 ?_
      refine lv_iload_n hx hb dX4_find_14 rfl (lv_at hl 2 rfl) ?_
      obtain ⟨v4, hv4, hp⟩ := ob hp
      refine mr_iald C0 hM hv4 dX4_find_15 ?_
      refine lv_iload_n hx hb dX4_find_16 rfl (lv_at hl 1 rfl) ?_
      refine lv_icmp_ne (tgt := 22) hx hb dX4_find_17 (by decide) (fun c5 => ?_) (fun c5 => ?_)
      · replace hp := oF c5 hp
        refine lv_iinc (v := (y2 + (1 : Int32))) (lv' := [(2, .int (y2 + (1 : Int32))), (0, .ref f0), (1, .int f1)]) hx hb dX4_find_22 hl (k := 2) rfl rfl (by decide) rfl (fun ls hl => ?_)
        refine lv_goto (tgt := 2) hx hb dX4_find_25 (by decide) ?_
        exact ih _ _ _ _ hM (lv_sub hl [1, 2, 0] rfl) hp
      · replace hp := oT c5 hp
        exact hk1 _ _ _ _ hM (lv_sub hl [2] rfl) hp
def p_X4_find (a0 : Nat) (a1 : Int32) (M : Mem) : Option (Int32) :=
  (pl_X4_find_2
   (fun (z6 : Int32) =>
    some z6
   )
   (fun (_ : Unit) =>
    some (-1 : Int32)
   )
   a0 a1 M FU (0 : Int32))
theorem yk_X4_find : yok yX4_find 1 := by decide +kernel
set_option maxHeartbeats 4000000 in
set_option maxRecDepth 100000 in
theorem w_X4_find {G : gG} (hG : GOK G) {l : Launch} {a0 : Nat} {a1 : Int32} {M : Mem} {r : Int32} (hp : p_X4_find a0 a1 M = some r) : CT G l yX4_find (wT yX4_find cX4_find 3 (some FieldType.int)) rm_X4_find [.ref a0, .int a1] M (some (.int r)) M 0 0 := by
  refine CT_of (own := RX4) (maxL := 3) (ret := (some FieldType.int)) hG (by decide) rfl (Nat.le_of_ble_eq_true rfl) (fun p e s m below meth c A C0 hr hlk hM ls hl => ?_)
  have hl : lv_has ls 3 [(0, .ref a0), (1, .int a1)] := hl
  generalize ([.ref a0, .int a1] : List Value).toArray = args at C0 ⊢
  skip
  have hx := C0.1
  have hb := C0.2.1
  have hown := C0.2.2.2.1
  have hts := C0.2.2.2.2.1
  unfold p_X4_find at hp
  refine lv_iconst (v := 0) hx hb dX4_find_0 (by decide) ?_
  refine lv_istore_n (lv' := [(2, .int (0 : Int32)), (0, .ref a0), (1, .int a1)]) hx hb dX4_find_1 rfl hl (by decide) rfl (fun ls hl => ?_)
  refine wl_X4_find_2 C0 hr hlk hG (fun z6 H locs ls hM hl hp => ?_) (fun  H locs ls hM hl hp => ?_) FU _ _ _ _ hM (lv_sub hl [1, 2, 0] rfl) hp
  · refine lv_iload_n hx hb dX4_find_20 rfl (lv_at hl 0 rfl) ?_
    exact mr_iret C0 hr hlk hM rfl (Option.some.inj hp) (Nat.le_refl _) (Nat.le_refl _) dX4_find_21
  · refine lv_iconst (v := -1) hx hb dX4_find_28 (by decide) ?_
    exact mr_iret C0 hr hlk hM rfl (Option.some.inj hp) (Nat.le_refl _) (Nat.le_refl _) dX4_find_29
abbrev rm_X4_tellPupil : Room := { frames := 0, cells := 0, slots := 0, locals := 0 }
def p_X4_tellPupil (a0 : Nat) (a1 : Int32) (a2 : Int32) (M : Mem) : Option (Mem) :=
  (Option.bind (gI 4 1 M a0) fun v1 =>
  (Option.bind (sV 4 1 M a0 (.int (v1 + (1 : Int32)))) fun M2 =>
  (Option.bind (gR 4 7 M2 a0) fun v3 =>
  (Option.bind (aI 0 M2 v3 a2) fun v4 =>
  (Option.bind (aIs M2 v3 a2 (v4 + (1 : Int32))) fun M5 =>
  (Option.bind (gR 4 12 M5 a0) fun v6 =>
  (Option.bind (aI 0 M5 v6 a1) fun v7 =>
  (Option.bind (aIs M5 v6 a1 (v7 ||| ((1 : Int32) <<< (a2 &&& 31)))) fun M8 =>
  some M8
  )
  )
  )
  )
  )
  )
  )
  )
theorem yk_X4_tellPupil : yok yX4_tellPupil 2 := by decide +kernel
set_option maxHeartbeats 4000000 in
set_option maxRecDepth 100000 in
theorem w_X4_tellPupil {G : gG} (hG : GOK G) {l : Launch} {a0 : Nat} {a1 : Int32} {a2 : Int32} {M : Mem} {M' : Mem} (hp : p_X4_tellPupil a0 a1 a2 M = some M') : CT G l yX4_tellPupil (wT yX4_tellPupil cX4_tellPupil 3 (none)) rm_X4_tellPupil [.ref a0, .int a1, .int a2] M none M' 0 0 := by
  refine CT_of (own := RX4) (maxL := 3) (ret := (none)) hG (by decide) rfl (Nat.le_of_ble_eq_true rfl) (fun p e s m below meth c A C0 hr hlk hM ls hl => ?_)
  have hl : lv_has ls 3 [(0, .ref a0), (1, .int a1), (2, .int a2)] := hl
  generalize ([.ref a0, .int a1, .int a2] : List Value).toArray = args at C0 ⊢
  skip
  have hx := C0.1
  have hb := C0.2.1
  have hown := C0.2.2.2.1
  have hts := C0.2.2.2.2.1
  unfold p_X4_tellPupil at hp
  refine lv_aload_n hx hb dX4_tellPupil_0 rfl (lv_at hl 0 rfl) ?_
  refine lv_dup hx hb dX4_tellPupil_1 rfl ?_
  obtain ⟨v1, hv1, hp⟩ := ob hp
  refine mr_getI C0 cbX4 hM 1 (by decide) tw_69 hv1 dX4_tellPupil_2 ?_
  refine lv_iconst (v := 1) hx hb dX4_tellPupil_5 (by decide) ?_
  refine lv_iadd hx hb dX4_tellPupil_6 ?_
  obtain ⟨M2, hM2, hp⟩ := ob hp
  refine mr_putI C0 cbX4 hM 1 (by decide) rfl rfl tw_69 hM2 dX4_tellPupil_7 (fun H locs hM => ?_)
  refine lv_aload_n hx hb dX4_tellPupil_10 rfl (lv_at hl 0 rfl) ?_
  obtain ⟨v3, hv3, hp⟩ := ob hp
  refine mr_getR C0 cbX4 hM 7 (by decide) tw_86 hv3 dX4_tellPupil_11 ?_
  refine lv_iload_n hx hb dX4_tellPupil_14 rfl (lv_at hl 2 rfl) ?_
  refine lv_dup2_11 hx hb dX4_tellPupil_15 rfl rfl ?_
  obtain ⟨v4, hv4, hp⟩ := ob hp
  refine mr_iald C0 hM hv4 dX4_tellPupil_16 ?_
  refine lv_iconst (v := 1) hx hb dX4_tellPupil_17 (by decide) ?_
  refine lv_iadd hx hb dX4_tellPupil_18 ?_
  obtain ⟨M5, hM5, hp⟩ := ob hp
  refine mr_iast C0 hM hM5 dX4_tellPupil_19 (fun H locs hM => ?_)
  refine lv_aload_n hx hb dX4_tellPupil_20 rfl (lv_at hl 0 rfl) ?_
  obtain ⟨v6, hv6, hp⟩ := ob hp
  refine mr_getR C0 cbX4 hM 12 (by decide) tw_96 hv6 dX4_tellPupil_21 ?_
  refine lv_iload_n hx hb dX4_tellPupil_24 rfl (lv_at hl 1 rfl) ?_
  refine lv_dup2_11 hx hb dX4_tellPupil_25 rfl rfl ?_
  obtain ⟨v7, hv7, hp⟩ := ob hp
  refine mr_iald C0 hM hv7 dX4_tellPupil_26 ?_
  refine lv_iconst (v := 1) hx hb dX4_tellPupil_27 (by decide) ?_
  refine lv_iload_n hx hb dX4_tellPupil_28 rfl (lv_at hl 2 rfl) ?_
  refine lv_ishl hx hb dX4_tellPupil_29 ?_
  refine lv_ior hx hb dX4_tellPupil_30 ?_
  obtain ⟨M8, hM8, hp⟩ := ob hp
  refine mr_iast C0 hM hM8 dX4_tellPupil_31 (fun H locs hM => ?_)
  exact mr_vret C0 hr hlk hM (Option.some.inj hp) (Nat.le_refl _) (Nat.le_refl _) dX4_tellPupil_32
abbrev rm_X4_tellSchool : Room := { frames := 0, cells := 0, slots := 0, locals := 0 }
def p_X4_tellSchool (a0 : Nat) (a1 : Int32) (a2 : Int32) (a3 : Int32) (a4 : Int32) (M : Mem) : Option (Mem) :=
  (Option.bind (gR 4 3 M a0) fun v1 =>
  (Option.bind (gI 4 0 M a0) fun v2 =>
  (Option.bind (aIs M v1 v2 a1) fun M3 =>
  (Option.bind (gR 4 4 M3 a0) fun v4 =>
  (Option.bind (gI 4 0 M3 a0) fun v5 =>
  (Option.bind (aIs M3 v4 v5 a2) fun M6 =>
  (Option.bind (gR 4 5 M6 a0) fun v7 =>
  (Option.bind (gI 4 0 M6 a0) fun v8 =>
  (Option.bind (aIs M6 v7 v8 a3) fun M9 =>
  (Option.bind (gR 4 6 M9 a0) fun v10 =>
  (Option.bind (gI 4 0 M9 a0) fun v11 =>
  (Option.bind (aIs M9 v10 v11 a4) fun M12 =>
  (Option.bind (gR 4 7 M12 a0) fun v13 =>
  (Option.bind (gI 4 0 M12 a0) fun v14 =>
  (Option.bind (aIs M12 v13 v14 (0 : Int32)) fun M15 =>
  (Option.bind (gR 4 10 M15 a0) fun v16 =>
  (Option.bind (gI 4 0 M15 a0) fun v17 =>
  (Option.bind (aIs M15 v16 v17 (-1 : Int32)) fun M18 =>
  (Option.bind (gR 4 11 M18 a0) fun v19 =>
  (Option.bind (gI 4 0 M18 a0) fun v20 =>
  (Option.bind (aIs M18 v19 v20 (-1 : Int32)) fun M21 =>
  (Option.bind (gI 4 0 M21 a0) fun v22 =>
  (Option.bind (sV 4 0 M21 a0 (.int (v22 + (1 : Int32)))) fun M23 =>
  some M23
  )
  )
  )
  )
  )
  )
  )
  )
  )
  )
  )
  )
  )
  )
  )
  )
  )
  )
  )
  )
  )
  )
  )
theorem yk_X4_tellSchool : yok yX4_tellSchool 4 := by decide +kernel
set_option maxHeartbeats 4000000 in
set_option maxRecDepth 100000 in
theorem w_X4_tellSchool {G : gG} (hG : GOK G) {l : Launch} {a0 : Nat} {a1 : Int32} {a2 : Int32} {a3 : Int32} {a4 : Int32} {M : Mem} {M' : Mem} (hp : p_X4_tellSchool a0 a1 a2 a3 a4 M = some M') : CT G l yX4_tellSchool (wT yX4_tellSchool cX4_tellSchool 5 (none)) rm_X4_tellSchool [.ref a0, .int a1, .int a2, .int a3, .int a4] M none M' 0 0 := by
  refine CT_of (own := RX4) (maxL := 5) (ret := (none)) hG (by decide) rfl (Nat.le_of_ble_eq_true rfl) (fun p e s m below meth c A C0 hr hlk hM ls hl => ?_)
  have hl : lv_has ls 5 [(0, .ref a0), (1, .int a1), (2, .int a2), (3, .int a3), (4, .int a4)] := hl
  generalize ([.ref a0, .int a1, .int a2, .int a3, .int a4] : List Value).toArray = args at C0 ⊢
  skip
  have hx := C0.1
  have hb := C0.2.1
  have hown := C0.2.2.2.1
  have hts := C0.2.2.2.2.1
  unfold p_X4_tellSchool at hp
  refine lv_aload_n hx hb dX4_tellSchool_0 rfl (lv_at hl 0 rfl) ?_
  obtain ⟨v1, hv1, hp⟩ := ob hp
  refine mr_getR C0 cbX4 hM 3 (by decide) tw_76 hv1 dX4_tellSchool_1 ?_
  refine lv_aload_n hx hb dX4_tellSchool_4 rfl (lv_at hl 0 rfl) ?_
  obtain ⟨v2, hv2, hp⟩ := ob hp
  refine mr_getI C0 cbX4 hM 0 (by decide) tw_64 hv2 dX4_tellSchool_5 ?_
  refine lv_iload_n hx hb dX4_tellSchool_8 rfl (lv_at hl 1 rfl) ?_
  obtain ⟨M3, hM3, hp⟩ := ob hp
  refine mr_iast C0 hM hM3 dX4_tellSchool_9 (fun H locs hM => ?_)
  refine lv_aload_n hx hb dX4_tellSchool_10 rfl (lv_at hl 0 rfl) ?_
  obtain ⟨v4, hv4, hp⟩ := ob hp
  refine mr_getR C0 cbX4 hM 4 (by decide) tw_77 hv4 dX4_tellSchool_11 ?_
  refine lv_aload_n hx hb dX4_tellSchool_14 rfl (lv_at hl 0 rfl) ?_
  obtain ⟨v5, hv5, hp⟩ := ob hp
  refine mr_getI C0 cbX4 hM 0 (by decide) tw_64 hv5 dX4_tellSchool_15 ?_
  refine lv_iload_n hx hb dX4_tellSchool_18 rfl (lv_at hl 2 rfl) ?_
  obtain ⟨M6, hM6, hp⟩ := ob hp
  refine mr_iast C0 hM hM6 dX4_tellSchool_19 (fun H locs hM => ?_)
  refine lv_aload_n hx hb dX4_tellSchool_20 rfl (lv_at hl 0 rfl) ?_
  obtain ⟨v7, hv7, hp⟩ := ob hp
  refine mr_getR C0 cbX4 hM 5 (by decide) tw_80 hv7 dX4_tellSchool_21 ?_
  refine lv_aload_n hx hb dX4_tellSchool_24 rfl (lv_at hl 0 rfl) ?_
  obtain ⟨v8, hv8, hp⟩ := ob hp
  refine mr_getI C0 cbX4 hM 0 (by decide) tw_64 hv8 dX4_tellSchool_25 ?_
  refine lv_iload_n hx hb dX4_tellSchool_28 rfl (lv_at hl 3 rfl) ?_
  obtain ⟨M9, hM9, hp⟩ := ob hp
  refine mr_iast C0 hM hM9 dX4_tellSchool_29 (fun H locs hM => ?_)
  refine lv_aload_n hx hb dX4_tellSchool_30 rfl (lv_at hl 0 rfl) ?_
  obtain ⟨v10, hv10, hp⟩ := ob hp
  refine mr_getR C0 cbX4 hM 6 (by decide) tw_83 hv10 dX4_tellSchool_31 ?_
  refine lv_aload_n hx hb dX4_tellSchool_34 rfl (lv_at hl 0 rfl) ?_
  obtain ⟨v11, hv11, hp⟩ := ob hp
  refine mr_getI C0 cbX4 hM 0 (by decide) tw_64 hv11 dX4_tellSchool_35 ?_
  refine lv_iload hx hb dX4_tellSchool_38 (lv_at hl 4 rfl) ?_
  obtain ⟨M12, hM12, hp⟩ := ob hp
  refine mr_iast C0 hM hM12 dX4_tellSchool_40 (fun H locs hM => ?_)
  refine lv_aload_n hx hb dX4_tellSchool_41 rfl (lv_at hl 0 rfl) ?_
  obtain ⟨v13, hv13, hp⟩ := ob hp
  refine mr_getR C0 cbX4 hM 7 (by decide) tw_86 hv13 dX4_tellSchool_42 ?_
  refine lv_aload_n hx hb dX4_tellSchool_45 rfl (lv_at hl 0 rfl) ?_
  obtain ⟨v14, hv14, hp⟩ := ob hp
  refine mr_getI C0 cbX4 hM 0 (by decide) tw_64 hv14 dX4_tellSchool_46 ?_
  refine lv_iconst (v := 0) hx hb dX4_tellSchool_49 (by decide) ?_
  obtain ⟨M15, hM15, hp⟩ := ob hp
  refine mr_iast C0 hM hM15 dX4_tellSchool_50 (fun H locs hM => ?_)
  refine lv_aload_n hx hb dX4_tellSchool_51 rfl (lv_at hl 0 rfl) ?_
  obtain ⟨v16, hv16, hp⟩ := ob hp
  refine mr_getR C0 cbX4 hM 10 (by decide) tw_92 hv16 dX4_tellSchool_52 ?_
  refine lv_aload_n hx hb dX4_tellSchool_55 rfl (lv_at hl 0 rfl) ?_
  obtain ⟨v17, hv17, hp⟩ := ob hp
  refine mr_getI C0 cbX4 hM 0 (by decide) tw_64 hv17 dX4_tellSchool_56 ?_
  refine lv_iconst (v := -1) hx hb dX4_tellSchool_59 (by decide) ?_
  obtain ⟨M18, hM18, hp⟩ := ob hp
  refine mr_iast C0 hM hM18 dX4_tellSchool_60 (fun H locs hM => ?_)
  refine lv_aload_n hx hb dX4_tellSchool_61 rfl (lv_at hl 0 rfl) ?_
  obtain ⟨v19, hv19, hp⟩ := ob hp
  refine mr_getR C0 cbX4 hM 11 (by decide) tw_94 hv19 dX4_tellSchool_62 ?_
  refine lv_aload_n hx hb dX4_tellSchool_65 rfl (lv_at hl 0 rfl) ?_
  obtain ⟨v20, hv20, hp⟩ := ob hp
  refine mr_getI C0 cbX4 hM 0 (by decide) tw_64 hv20 dX4_tellSchool_66 ?_
  refine lv_iconst (v := -1) hx hb dX4_tellSchool_69 (by decide) ?_
  obtain ⟨M21, hM21, hp⟩ := ob hp
  refine mr_iast C0 hM hM21 dX4_tellSchool_70 (fun H locs hM => ?_)
  refine lv_aload_n hx hb dX4_tellSchool_71 rfl (lv_at hl 0 rfl) ?_
  refine lv_dup hx hb dX4_tellSchool_72 rfl ?_
  obtain ⟨v22, hv22, hp⟩ := ob hp
  refine mr_getI C0 cbX4 hM 0 (by decide) tw_64 hv22 dX4_tellSchool_73 ?_
  refine lv_iconst (v := 1) hx hb dX4_tellSchool_76 (by decide) ?_
  refine lv_iadd hx hb dX4_tellSchool_77 ?_
  obtain ⟨M23, hM23, hp⟩ := ob hp
  refine mr_putI C0 cbX4 hM 0 (by decide) rfl rfl tw_64 hM23 dX4_tellSchool_78 (fun H locs hM => ?_)
  exact mr_vret C0 hr hlk hM (Option.some.inj hp) (Nat.le_refl _) (Nat.le_refl _) dX4_tellSchool_81
abbrev rm_X4_isZoned : Room := { frames := 0, cells := 0, slots := 0, locals := 0 }
def p_X4_isZoned (a0 : Nat) (a1 : Int32) (M : Mem) : Option (Int32) :=
  (Option.bind (gR 4 10 M a0) fun v1 =>
  (Option.bind (aI 0 M v1 a1) fun v2 =>
  (if v2 = (-1 : Int32) then
   some (0 : Int32)
  else
   some (1 : Int32)
  )
  )
  )
theorem yk_X4_isZoned : yok yX4_isZoned 1 := by decide +kernel
set_option maxHeartbeats 4000000 in
set_option maxRecDepth 100000 in
theorem w_X4_isZoned {G : gG} (hG : GOK G) {l : Launch} {a0 : Nat} {a1 : Int32} {M : Mem} {r : Int32} (hp : p_X4_isZoned a0 a1 M = some r) : CT G l yX4_isZoned (wT yX4_isZoned cX4_isZoned 2 (some FieldType.boolean)) rm_X4_isZoned [.ref a0, .int a1] M (some (.int r)) M 0 0 := by
  refine CT_of (own := RX4) (maxL := 2) (ret := (some FieldType.boolean)) hG (by decide) rfl (Nat.le_of_ble_eq_true rfl) (fun p e s m below meth c A C0 hr hlk hM ls hl => ?_)
  have hl : lv_has ls 2 [(0, .ref a0), (1, .int a1)] := hl
  generalize ([.ref a0, .int a1] : List Value).toArray = args at C0 ⊢
  skip
  have hx := C0.1
  have hb := C0.2.1
  have hown := C0.2.2.2.1
  have hts := C0.2.2.2.2.1
  unfold p_X4_isZoned at hp
  refine lv_aload_n hx hb dX4_isZoned_0 rfl (lv_at hl 0 rfl) ?_
  obtain ⟨v1, hv1, hp⟩ := ob hp
  refine mr_getR C0 cbX4 hM 10 (by decide) tw_92 hv1 dX4_isZoned_1 ?_
  refine lv_iload_n hx hb dX4_isZoned_4 rfl (lv_at hl 1 rfl) ?_
  obtain ⟨v2, hv2, hp⟩ := ob hp
  refine mr_iald C0 hM hv2 dX4_isZoned_5 ?_
  refine lv_iconst (v := -1) hx hb dX4_isZoned_6 (by decide) ?_
  refine lv_icmp_eq (tgt := 14) hx hb dX4_isZoned_7 (by decide) (fun c3 => ?_) (fun c3 => ?_)
  · replace hp := oT c3 hp
    refine lv_iconst (v := 0) hx hb dX4_isZoned_14 (by decide) ?_
    exact mr_zret C0 hr hlk hM rfl (Or.inl rfl) (Option.some.inj hp) (Nat.le_refl _) (Nat.le_refl _) dX4_isZoned_15
  · replace hp := oF c3 hp
    refine lv_iconst (v := 1) hx hb dX4_isZoned_10 (by decide) ?_
    refine lv_goto (tgt := 15) hx hb dX4_isZoned_11 (by decide) ?_
    exact mr_zret C0 hr hlk hM rfl (Or.inr rfl) (Option.some.inj hp) (Nat.le_refl _) (Nat.le_refl _) dX4_isZoned_15
abbrev rm_X4_tellZone : Room := { frames := 0, cells := 0, slots := 0, locals := 0 }
def p_X4_tellZone (a0 : Nat) (a1 : Int32) (a2 : Int32) (a3 : Int32) (a4 : Int32) (a5 : Int32) (M : Mem) : Option (Mem) :=
  (Option.bind (gR 4 8 M a0) fun v1 =>
  (Option.bind (aIs M v1 a1 a2) fun M2 =>
  (Option.bind (gR 4 9 M2 a0) fun v3 =>
  (Option.bind (aIs M2 v3 a1 a3) fun M4 =>
  (Option.bind (gR 4 10 M4 a0) fun v5 =>
  (Option.bind (aIs M4 v5 a1 a4) fun M6 =>
  (Option.bind (gR 4 11 M6 a0) fun v7 =>
  (Option.bind (aIs M6 v7 a1 a5) fun M8 =>
  some M8
  )
  )
  )
  )
  )
  )
  )
  )
theorem yk_X4_tellZone : yok yX4_tellZone 5 := by decide +kernel
set_option maxHeartbeats 4000000 in
set_option maxRecDepth 100000 in
theorem w_X4_tellZone {G : gG} (hG : GOK G) {l : Launch} {a0 : Nat} {a1 : Int32} {a2 : Int32} {a3 : Int32} {a4 : Int32} {a5 : Int32} {M : Mem} {M' : Mem} (hp : p_X4_tellZone a0 a1 a2 a3 a4 a5 M = some M') : CT G l yX4_tellZone (wT yX4_tellZone cX4_tellZone 6 (none)) rm_X4_tellZone [.ref a0, .int a1, .int a2, .int a3, .int a4, .int a5] M none M' 0 0 := by
  refine CT_of (own := RX4) (maxL := 6) (ret := (none)) hG (by decide) rfl (Nat.le_of_ble_eq_true rfl) (fun p e s m below meth c A C0 hr hlk hM ls hl => ?_)
  have hl : lv_has ls 6 [(0, .ref a0), (1, .int a1), (2, .int a2), (3, .int a3), (4, .int a4), (5, .int a5)] := hl
  generalize ([.ref a0, .int a1, .int a2, .int a3, .int a4, .int a5] : List Value).toArray = args at C0 ⊢
  skip
  have hx := C0.1
  have hb := C0.2.1
  have hown := C0.2.2.2.1
  have hts := C0.2.2.2.2.1
  unfold p_X4_tellZone at hp
  refine lv_aload_n hx hb dX4_tellZone_0 rfl (lv_at hl 0 rfl) ?_
  obtain ⟨v1, hv1, hp⟩ := ob hp
  refine mr_getR C0 cbX4 hM 8 (by decide) tw_88 hv1 dX4_tellZone_1 ?_
  refine lv_iload_n hx hb dX4_tellZone_4 rfl (lv_at hl 1 rfl) ?_
  refine lv_iload_n hx hb dX4_tellZone_5 rfl (lv_at hl 2 rfl) ?_
  obtain ⟨M2, hM2, hp⟩ := ob hp
  refine mr_iast C0 hM hM2 dX4_tellZone_6 (fun H locs hM => ?_)
  refine lv_aload_n hx hb dX4_tellZone_7 rfl (lv_at hl 0 rfl) ?_
  obtain ⟨v3, hv3, hp⟩ := ob hp
  refine mr_getR C0 cbX4 hM 9 (by decide) tw_90 hv3 dX4_tellZone_8 ?_
  refine lv_iload_n hx hb dX4_tellZone_11 rfl (lv_at hl 1 rfl) ?_
  refine lv_iload_n hx hb dX4_tellZone_12 rfl (lv_at hl 3 rfl) ?_
  obtain ⟨M4, hM4, hp⟩ := ob hp
  refine mr_iast C0 hM hM4 dX4_tellZone_13 (fun H locs hM => ?_)
  refine lv_aload_n hx hb dX4_tellZone_14 rfl (lv_at hl 0 rfl) ?_
  obtain ⟨v5, hv5, hp⟩ := ob hp
  refine mr_getR C0 cbX4 hM 10 (by decide) tw_92 hv5 dX4_tellZone_15 ?_
  refine lv_iload_n hx hb dX4_tellZone_18 rfl (lv_at hl 1 rfl) ?_
  refine lv_iload hx hb dX4_tellZone_19 (lv_at hl 4 rfl) ?_
  obtain ⟨M6, hM6, hp⟩ := ob hp
  refine mr_iast C0 hM hM6 dX4_tellZone_21 (fun H locs hM => ?_)
  refine lv_aload_n hx hb dX4_tellZone_22 rfl (lv_at hl 0 rfl) ?_
  obtain ⟨v7, hv7, hp⟩ := ob hp
  refine mr_getR C0 cbX4 hM 11 (by decide) tw_94 hv7 dX4_tellZone_23 ?_
  refine lv_iload_n hx hb dX4_tellZone_26 rfl (lv_at hl 1 rfl) ?_
  refine lv_iload hx hb dX4_tellZone_27 (lv_at hl 5 rfl) ?_
  obtain ⟨M8, hM8, hp⟩ := ob hp
  refine mr_iast C0 hM hM8 dX4_tellZone_29 (fun H locs hM => ?_)
  exact mr_vret C0 hr hlk hM (Option.some.inj hp) (Nat.le_refl _) (Nat.le_refl _) dX4_tellZone_30
abbrev rm_X4_clear : Room := { frames := 1, cells := 0, slots := 0, locals := 23 }
def p_X4_clear (a0 : Nat) (M : Mem) : Option (Mem) :=
  (Option.bind (sV 4 0 M a0 (.int (0 : Int32))) fun M1 =>
  (Option.bind (sV 4 1 M1 a0 (.int (0 : Int32))) fun M2 =>
  (Option.bind (sV 4 2 M2 a0 (.int (0 : Int32))) fun M3 =>
  (Option.bind (gR 4 12 M3 a0) fun v4 =>
  (Option.bind (p_J7_fill_53178 v4 (0 : Int32) M3) fun M5 =>
  some M5
  )
  )
  )
  )
  )
theorem yk_X4_clear : yok yX4_clear 0 := by decide +kernel
set_option maxHeartbeats 4000000 in
set_option maxRecDepth 100000 in
theorem w_X4_clear {G : gG} (hG : GOK G) {l : Launch} {a0 : Nat} {M : Mem} {M' : Mem} (hp : p_X4_clear a0 M = some M') : CT G l yX4_clear (wT yX4_clear cX4_clear 1 (none)) rm_X4_clear [.ref a0] M none M' 0 0 := by
  refine CT_of (own := RX4) (maxL := 1) (ret := (none)) hG (by decide) rfl (Nat.le_of_ble_eq_true rfl) (fun p e s m below meth c A C0 hr hlk hM ls hl => ?_)
  have hl : lv_has ls 1 [(0, .ref a0)] := hl
  generalize ([.ref a0] : List Value).toArray = args at C0 ⊢
  skip
  have hx := C0.1
  have hb := C0.2.1
  have hown := C0.2.2.2.1
  have hts := C0.2.2.2.2.1
  unfold p_X4_clear at hp
  refine lv_aload_n hx hb dX4_clear_0 rfl (lv_at hl 0 rfl) ?_
  refine lv_iconst (v := 0) hx hb dX4_clear_1 (by decide) ?_
  obtain ⟨M1, hM1, hp⟩ := ob hp
  refine mr_putI C0 cbX4 hM 0 (by decide) rfl rfl tw_64 hM1 dX4_clear_2 (fun H locs hM => ?_)
  refine lv_aload_n hx hb dX4_clear_5 rfl (lv_at hl 0 rfl) ?_
  refine lv_iconst (v := 0) hx hb dX4_clear_6 (by decide) ?_
  obtain ⟨M2, hM2, hp⟩ := ob hp
  refine mr_putI C0 cbX4 hM 1 (by decide) rfl rfl tw_69 hM2 dX4_clear_7 (fun H locs hM => ?_)
  refine lv_aload_n hx hb dX4_clear_10 rfl (lv_at hl 0 rfl) ?_
  refine lv_iconst (v := 0) hx hb dX4_clear_11 (by decide) ?_
  obtain ⟨M3, hM3, hp⟩ := ob hp
  refine mr_putI C0 cbX4 hM 2 (by decide) rfl rfl tw_72 hM3 dX4_clear_12 (fun H locs hM => ?_)
  refine lv_aload_n hx hb dX4_clear_15 rfl (lv_at hl 0 rfl) ?_
  obtain ⟨v4, hv4, hp⟩ := ob hp
  refine mr_getR C0 cbX4 hM 12 (by decide) tw_96 hv4 dX4_clear_16 ?_
  refine lv_iconst (v := 0) hx hb dX4_clear_19 (by decide) ?_
  obtain ⟨M5, hM5, hp⟩ := ob hp
  refine mr_S0 (As := [.ref v4, .int (0 : Int32)]) (rest := []) C0 hM (w_J7_fill_53178 hG hM5) tw_337 tw_338 tw_12 tw_339 yk_J7_fill_53178 (by decide) rfl hl.1 (Nat.le_of_ble_eq_true rfl) dX4_clear_20 rfl (fun H locs hM => ?_)
  exact mr_vret C0 hr hlk hM (Option.some.inj hp) (Nat.le_refl _) (Nat.le_refl _) dX4_clear_23
