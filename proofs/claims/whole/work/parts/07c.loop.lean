def p_step (Z : gZ) (L : Nat) (xs : Nat → Int32) (x0 mo od od2 : Nat) (i0 : Int32) (M : Mem) : Option Mem :=
  Option.bind (xI L xs i0) fun v =>
  (if (Int32.toInt (v &&& (63 : Int32))) < 0 ∨ 57 < (Int32.toInt (v &&& (63 : Int32))) then some M else
  (if (v &&& (63 : Int32)) = (0 : Int32) then pk_0 L xs x0 mo od od2 i0 M else
  (if (v &&& (63 : Int32)) = (1 : Int32) then pk_1 L xs x0 mo od od2 i0 M else
  (if (v &&& (63 : Int32)) = (2 : Int32) then pk_2 Z L xs x0 mo od od2 i0 M else
  (if (v &&& (63 : Int32)) = (3 : Int32) then pk_3 L xs x0 mo od od2 i0 M else
  (if (v &&& (63 : Int32)) = (4 : Int32) then pk_4 L xs x0 mo od od2 i0 M else
  (if (v &&& (63 : Int32)) = (5 : Int32) then pk_5 L xs x0 mo od od2 i0 M else
  (if (v &&& (63 : Int32)) = (6 : Int32) then pk_6 L xs x0 mo od od2 i0 M else
  (if (v &&& (63 : Int32)) = (7 : Int32) then pk_7 L xs x0 mo od od2 i0 M else
  (if (v &&& (63 : Int32)) = (8 : Int32) then pk_8 L xs x0 mo od od2 i0 M else
  (if (v &&& (63 : Int32)) = (9 : Int32) then pk_9 L xs x0 mo od od2 i0 M else
  (if (v &&& (63 : Int32)) = (10 : Int32) then pk_10 L xs x0 mo od od2 i0 M else
  (if (v &&& (63 : Int32)) = (11 : Int32) then pk_11 L xs x0 mo od od2 i0 M else
  (if (v &&& (63 : Int32)) = (12 : Int32) then pk_12 L xs x0 mo od od2 i0 M else
  (if (v &&& (63 : Int32)) = (13 : Int32) then pk_13 L xs x0 mo od od2 i0 M else
  (if (v &&& (63 : Int32)) = (14 : Int32) then pk_14 L xs x0 mo od od2 i0 M else
  (if (v &&& (63 : Int32)) = (15 : Int32) then pk_15 L xs x0 mo od od2 i0 M else
  (if (v &&& (63 : Int32)) = (16 : Int32) then pk_16 L xs x0 mo od od2 i0 M else
  (if (v &&& (63 : Int32)) = (17 : Int32) then pk_17 L xs x0 mo od od2 i0 M else
  (if (v &&& (63 : Int32)) = (18 : Int32) then pk_18 L xs x0 mo od od2 i0 M else
  (if (v &&& (63 : Int32)) = (19 : Int32) then pk_19 L xs x0 mo od od2 i0 M else
  (if (v &&& (63 : Int32)) = (20 : Int32) then pk_20 L xs x0 mo od od2 i0 M else
  (if (v &&& (63 : Int32)) = (21 : Int32) then pk_21 L xs x0 mo od od2 i0 M else
  (if (v &&& (63 : Int32)) = (22 : Int32) then pk_22 L xs x0 mo od od2 i0 M else
  (if (v &&& (63 : Int32)) = (23 : Int32) then pk_23 L xs x0 mo od od2 i0 M else
  (if (v &&& (63 : Int32)) = (24 : Int32) then pk_24 L xs x0 mo od od2 i0 M else
  (if (v &&& (63 : Int32)) = (25 : Int32) then pk_25 L xs x0 mo od od2 i0 M else
  (if (v &&& (63 : Int32)) = (26 : Int32) then pk_26 L xs x0 mo od od2 i0 M else
  (if (v &&& (63 : Int32)) = (27 : Int32) then pk_27 L xs x0 mo od od2 i0 M else
  (if (v &&& (63 : Int32)) = (28 : Int32) then pk_28 L xs x0 mo od od2 i0 M else
  (if (v &&& (63 : Int32)) = (29 : Int32) then pk_29 L xs x0 mo od od2 i0 M else
  (if (v &&& (63 : Int32)) = (30 : Int32) then pk_30 L xs x0 mo od od2 i0 M else
  (if (v &&& (63 : Int32)) = (31 : Int32) then pk_31 L xs x0 mo od od2 i0 M else
  (if (v &&& (63 : Int32)) = (32 : Int32) then pk_32 L xs x0 mo od od2 i0 M else
  (if (v &&& (63 : Int32)) = (33 : Int32) then pk_33 L xs x0 mo od od2 i0 M else
  (if (v &&& (63 : Int32)) = (34 : Int32) then pk_34 L xs x0 mo od od2 i0 M else
  (if (v &&& (63 : Int32)) = (35 : Int32) then pk_35 L xs x0 mo od od2 i0 M else
  (if (v &&& (63 : Int32)) = (36 : Int32) then pk_36 L xs x0 mo od od2 i0 M else
  (if (v &&& (63 : Int32)) = (37 : Int32) then pk_37 L xs x0 mo od od2 i0 M else
  (if (v &&& (63 : Int32)) = (38 : Int32) then pk_38 L xs x0 mo od od2 i0 M else
  (if (v &&& (63 : Int32)) = (39 : Int32) then pk_39 L xs x0 mo od od2 i0 M else
  (if (v &&& (63 : Int32)) = (40 : Int32) then pk_40 L xs x0 mo od od2 i0 M else
  (if (v &&& (63 : Int32)) = (41 : Int32) then pk_41 L xs x0 mo od od2 i0 M else
  (if (v &&& (63 : Int32)) = (42 : Int32) then pk_42 L xs x0 mo od od2 i0 M else
  (if (v &&& (63 : Int32)) = (43 : Int32) then pk_43 L xs x0 mo od od2 i0 M else
  (if (v &&& (63 : Int32)) = (44 : Int32) then pk_44 L xs x0 mo od od2 i0 M else
  (if (v &&& (63 : Int32)) = (45 : Int32) then pk_45 L xs x0 mo od od2 i0 M else
  (if (v &&& (63 : Int32)) = (46 : Int32) then pk_46 L xs x0 mo od od2 i0 M else
  (if (v &&& (63 : Int32)) = (47 : Int32) then pk_47 L xs x0 mo od od2 i0 M else
  (if (v &&& (63 : Int32)) = (48 : Int32) then pk_48 L xs x0 mo od od2 i0 M else
  (if (v &&& (63 : Int32)) = (49 : Int32) then pk_49 L xs x0 mo od od2 i0 M else
  (if (v &&& (63 : Int32)) = (50 : Int32) then pk_50 L xs x0 mo od od2 i0 M else
  (if (v &&& (63 : Int32)) = (51 : Int32) then pk_51 L xs x0 mo od od2 i0 M else
  (if (v &&& (63 : Int32)) = (52 : Int32) then pk_52 L xs x0 mo od od2 i0 M else
  (if (v &&& (63 : Int32)) = (53 : Int32) then pk_53 L xs x0 mo od od2 i0 M else
  (if (v &&& (63 : Int32)) = (54 : Int32) then pk_54 L xs x0 mo od od2 i0 M else
  (if (v &&& (63 : Int32)) = (55 : Int32) then pk_55 L xs x0 mo od od2 i0 M else
  (if (v &&& (63 : Int32)) = (56 : Int32) then pk_56 L xs x0 mo od od2 i0 M else
  (if (v &&& (63 : Int32)) = (57 : Int32) then pk_57 L xs x0 mo od od2 i0 M else
  none)))))))))))))))))))))))))))))))))))))))))))))))))))))))))))
set_option maxHeartbeats 4000000 in
set_option maxRecDepth 100000 in
theorem w_step {G : gG} {p : Program} {l : Launch} {e : Env} {s : State} {m : MethodId} {args : Array Value} {below : List Frame} {meth : Method} {c : Code} {A : Nat → Prop} {Z : gZ} {Q : State → Prop} {cells slots b L : Nat} {xs : Nat → Int32} {x0 mo od od2 : Nat} {i0 : Int32} (C0 : cx G p s m args c cL_law RL 10 A) (hG : GOK G) (hZ : GS G Z) (hY : GY G) (hlf : l.stackTraces = false) (hX : va_X b L xs s s.heap) (hbl : b < s.heap.size) (hbA : ¬ A b) (hcs : cells + 8 ≤ room_1.cells ∧ slots + 48 ≤ room_1.slots) {M M' : Mem} {H : Heap} {locs : List Loc} {ls : Array Slot} (hM : mm G A s M H locs) (hl : lv_has ls 10 [(0, .ref b), (1, .ref x0), (2, .ref mo), (3, .ref od), (4, .ref od2), (5, .int i0)]) (hp : p_step Z L xs x0 mo od od2 i0 M = some M') (kk : ∀ (H : Heap) (locs : List Loc) (ls : Array Slot), mm G A s M' H locs → lv_has ls 10 [(0, .ref b), (1, .ref x0), (2, .ref mo), (3, .ref od), (4, .ref od2), (5, .int i0)] → W p l e room_1 s m args below meth c H locs (cells + 8) (slots + 48) Q (F0 m 3302 ls [])) : W p l e room_1 s m args below meth c H locs cells slots Q (F0 m 38 ls []) := by
  have hx := C0.1
  have hb := C0.2.1
  unfold p_step at hp
  obtain ⟨v, hv, hp⟩ := ob hp
  obtain ⟨hin, rfl⟩ := xI_at hv
  skip
  refine lv_aload_n hx hb dL_law_38 rfl (lv_at hl 0 rfl) ?_
  refine lv_iload hx hb dL_law_39 (lv_at hl 5 rfl) ?_
  refine va_sld hx hb hX hbl hbA hM.2.2 hin dL_law_41 ?_
  refine lv_bipush (v := 63) hx hb dL_law_42 (by decide) ?_
  refine lv_iand hx hb dL_law_44 ?_
  generalize xs i0.toNatClampNeg &&& (63 : Int32) = k at hp ⊢
  by_cases hd : (Int32.toInt k) < 0 ∨ 57 < (Int32.toInt k)
  · replace hp := oT hd hp
    refine lv_tableOut (tgt := 3302) hx hb dL_law_45 hd (by decide) ?_
    cases hp
    exact W.widen (by omega) (by omega) (kk H locs ls hM hl)
  replace hp := oF hd hp
  by_cases hd0 : k = (0 : Int32)
  · replace hp := oT hd0 hp
    refine mr_tsIn (tgt := 292) C0 (0 : Int32) hd0 dL_law_45 (by decide) (by decide) rfl (by decide) ?_
    exact wk_0 C0 hG hZ hY hlf hX hbl hbA hcs hM hl hp kk
  replace hp := oF hd0 hp
  by_cases hd1 : k = (1 : Int32)
  · replace hp := oT hd1 hp
    refine mr_tsIn (tgt := 365) C0 (1 : Int32) hd1 dL_law_45 (by decide) (by decide) rfl (by decide) ?_
    exact wk_1 C0 hG hZ hY hlf hX hbl hbA hcs hM hl hp kk
  replace hp := oF hd1 hp
  by_cases hd2 : k = (2 : Int32)
  · replace hp := oT hd2 hp
    refine mr_tsIn (tgt := 390) C0 (2 : Int32) hd2 dL_law_45 (by decide) (by decide) rfl (by decide) ?_
    exact wk_2 C0 hG hZ hY hlf hX hbl hbA hcs hM hl hp kk
  replace hp := oF hd2 hp
  by_cases hd3 : k = (3 : Int32)
  · replace hp := oT hd3 hp
    refine mr_tsIn (tgt := 403) C0 (3 : Int32) hd3 dL_law_45 (by decide) (by decide) rfl (by decide) ?_
    exact wk_3 C0 hG hZ hY hlf hX hbl hbA hcs hM hl hp kk
  replace hp := oF hd3 hp
  by_cases hd4 : k = (4 : Int32)
  · replace hp := oT hd4 hp
    refine mr_tsIn (tgt := 416) C0 (4 : Int32) hd4 dL_law_45 (by decide) (by decide) rfl (by decide) ?_
    exact wk_4 C0 hG hZ hY hlf hX hbl hbA hcs hM hl hp kk
  replace hp := oF hd4 hp
  by_cases hd5 : k = (5 : Int32)
  · replace hp := oT hd5 hp
    refine mr_tsIn (tgt := 429) C0 (5 : Int32) hd5 dL_law_45 (by decide) (by decide) rfl (by decide) ?_
    exact wk_5 C0 hG hZ hY hlf hX hbl hbA hcs hM hl hp kk
  replace hp := oF hd5 hp
  by_cases hd6 : k = (6 : Int32)
  · replace hp := oT hd6 hp
    refine mr_tsIn (tgt := 485) C0 (6 : Int32) hd6 dL_law_45 (by decide) (by decide) rfl (by decide) ?_
    exact wk_6 C0 hG hZ hY hlf hX hbl hbA hcs hM hl hp kk
  replace hp := oF hd6 hp
  by_cases hd7 : k = (7 : Int32)
  · replace hp := oT hd7 hp
    refine mr_tsIn (tgt := 553) C0 (7 : Int32) hd7 dL_law_45 (by decide) (by decide) rfl (by decide) ?_
    exact wk_7 C0 hG hZ hY hlf hX hbl hbA hcs hM hl hp kk
  replace hp := oF hd7 hp
  by_cases hd8 : k = (8 : Int32)
  · replace hp := oT hd8 hp
    refine mr_tsIn (tgt := 621) C0 (8 : Int32) hd8 dL_law_45 (by decide) (by decide) rfl (by decide) ?_
    exact wk_8 C0 hG hZ hY hlf hX hbl hbA hcs hM hl hp kk
  replace hp := oF hd8 hp
  by_cases hd9 : k = (9 : Int32)
  · replace hp := oT hd9 hp
    refine mr_tsIn (tgt := 689) C0 (9 : Int32) hd9 dL_law_45 (by decide) (by decide) rfl (by decide) ?_
    exact wk_9 C0 hG hZ hY hlf hX hbl hbA hcs hM hl hp kk
  replace hp := oF hd9 hp
  by_cases hd10 : k = (10 : Int32)
  · replace hp := oT hd10 hp
    refine mr_tsIn (tgt := 757) C0 (10 : Int32) hd10 dL_law_45 (by decide) (by decide) rfl (by decide) ?_
    exact wk_10 C0 hG hZ hY hlf hX hbl hbA hcs hM hl hp kk
  replace hp := oF hd10 hp
  by_cases hd11 : k = (11 : Int32)
  · replace hp := oT hd11 hp
    refine mr_tsIn (tgt := 813) C0 (11 : Int32) hd11 dL_law_45 (by decide) (by decide) rfl (by decide) ?_
    exact wk_11 C0 hG hZ hY hlf hX hbl hbA hcs hM hl hp kk
  replace hp := oF hd11 hp
  by_cases hd12 : k = (12 : Int32)
  · replace hp := oT hd12 hp
    refine mr_tsIn (tgt := 869) C0 (12 : Int32) hd12 dL_law_45 (by decide) (by decide) rfl (by decide) ?_
    exact wk_12 C0 hG hZ hY hlf hX hbl hbA hcs hM hl hp kk
  replace hp := oF hd12 hp
  by_cases hd13 : k = (13 : Int32)
  · replace hp := oT hd13 hp
    refine mr_tsIn (tgt := 956) C0 (13 : Int32) hd13 dL_law_45 (by decide) (by decide) rfl (by decide) ?_
    exact wk_13 C0 hG hZ hY hlf hX hbl hbA hcs hM hl hp kk
  replace hp := oF hd13 hp
  by_cases hd14 : k = (14 : Int32)
  · replace hp := oT hd14 hp
    refine mr_tsIn (tgt := 1024) C0 (14 : Int32) hd14 dL_law_45 (by decide) (by decide) rfl (by decide) ?_
    exact wk_14 C0 hG hZ hY hlf hX hbl hbA hcs hM hl hp kk
  replace hp := oF hd14 hp
  by_cases hd15 : k = (15 : Int32)
  · replace hp := oT hd15 hp
    refine mr_tsIn (tgt := 1092) C0 (15 : Int32) hd15 dL_law_45 (by decide) (by decide) rfl (by decide) ?_
    exact wk_15 C0 hG hZ hY hlf hX hbl hbA hcs hM hl hp kk
  replace hp := oF hd15 hp
  by_cases hd16 : k = (16 : Int32)
  · replace hp := oT hd16 hp
    refine mr_tsIn (tgt := 1179) C0 (16 : Int32) hd16 dL_law_45 (by decide) (by decide) rfl (by decide) ?_
    exact wk_16 C0 hG hZ hY hlf hX hbl hbA hcs hM hl hp kk
  replace hp := oF hd16 hp
  by_cases hd17 : k = (17 : Int32)
  · replace hp := oT hd17 hp
    refine mr_tsIn (tgt := 1247) C0 (17 : Int32) hd17 dL_law_45 (by decide) (by decide) rfl (by decide) ?_
    exact wk_17 C0 hG hZ hY hlf hX hbl hbA hcs hM hl hp kk
  replace hp := oF hd17 hp
  by_cases hd18 : k = (18 : Int32)
  · replace hp := oT hd18 hp
    refine mr_tsIn (tgt := 1315) C0 (18 : Int32) hd18 dL_law_45 (by decide) (by decide) rfl (by decide) ?_
    exact wk_18 C0 hG hZ hY hlf hX hbl hbA hcs hM hl hp kk
  replace hp := oF hd18 hp
  by_cases hd19 : k = (19 : Int32)
  · replace hp := oT hd19 hp
    refine mr_tsIn (tgt := 1383) C0 (19 : Int32) hd19 dL_law_45 (by decide) (by decide) rfl (by decide) ?_
    exact wk_19 C0 hG hZ hY hlf hX hbl hbA hcs hM hl hp kk
  replace hp := oF hd19 hp
  by_cases hd20 : k = (20 : Int32)
  · replace hp := oT hd20 hp
    refine mr_tsIn (tgt := 1458) C0 (20 : Int32) hd20 dL_law_45 (by decide) (by decide) rfl (by decide) ?_
    exact wk_20 C0 hG hZ hY hlf hX hbl hbA hcs hM hl hp kk
  replace hp := oF hd20 hp
  by_cases hd21 : k = (21 : Int32)
  · replace hp := oT hd21 hp
    refine mr_tsIn (tgt := 1471) C0 (21 : Int32) hd21 dL_law_45 (by decide) (by decide) rfl (by decide) ?_
    exact wk_21 C0 hG hZ hY hlf hX hbl hbA hcs hM hl hp kk
  replace hp := oF hd21 hp
  by_cases hd22 : k = (22 : Int32)
  · replace hp := oT hd22 hp
    refine mr_tsIn (tgt := 1484) C0 (22 : Int32) hd22 dL_law_45 (by decide) (by decide) rfl (by decide) ?_
    exact wk_22 C0 hG hZ hY hlf hX hbl hbA hcs hM hl hp kk
  replace hp := oF hd22 hp
  by_cases hd23 : k = (23 : Int32)
  · replace hp := oT hd23 hp
    refine mr_tsIn (tgt := 1540) C0 (23 : Int32) hd23 dL_law_45 (by decide) (by decide) rfl (by decide) ?_
    exact wk_23 C0 hG hZ hY hlf hX hbl hbA hcs hM hl hp kk
  replace hp := oF hd23 hp
  by_cases hd24 : k = (24 : Int32)
  · replace hp := oT hd24 hp
    refine mr_tsIn (tgt := 1660) C0 (24 : Int32) hd24 dL_law_45 (by decide) (by decide) rfl (by decide) ?_
    exact wk_24 C0 hG hZ hY hlf hX hbl hbA hcs hM hl hp kk
  replace hp := oF hd24 hp
  by_cases hd25 : k = (25 : Int32)
  · replace hp := oT hd25 hp
    refine mr_tsIn (tgt := 1716) C0 (25 : Int32) hd25 dL_law_45 (by decide) (by decide) rfl (by decide) ?_
    exact wk_25 C0 hG hZ hY hlf hX hbl hbA hcs hM hl hp kk
  replace hp := oF hd25 hp
  by_cases hd26 : k = (26 : Int32)
  · replace hp := oT hd26 hp
    refine mr_tsIn (tgt := 1772) C0 (26 : Int32) hd26 dL_law_45 (by decide) (by decide) rfl (by decide) ?_
    exact wk_26 C0 hG hZ hY hlf hX hbl hbA hcs hM hl hp kk
  replace hp := oF hd26 hp
  by_cases hd27 : k = (27 : Int32)
  · replace hp := oT hd27 hp
    refine mr_tsIn (tgt := 1852) C0 (27 : Int32) hd27 dL_law_45 (by decide) (by decide) rfl (by decide) ?_
    exact wk_27 C0 hG hZ hY hlf hX hbl hbA hcs hM hl hp kk
  replace hp := oF hd27 hp
  by_cases hd28 : k = (28 : Int32)
  · replace hp := oT hd28 hp
    refine mr_tsIn (tgt := 1920) C0 (28 : Int32) hd28 dL_law_45 (by decide) (by decide) rfl (by decide) ?_
    exact wk_28 C0 hG hZ hY hlf hX hbl hbA hcs hM hl hp kk
  replace hp := oF hd28 hp
  by_cases hd29 : k = (29 : Int32)
  · replace hp := oT hd29 hp
    refine mr_tsIn (tgt := 1988) C0 (29 : Int32) hd29 dL_law_45 (by decide) (by decide) rfl (by decide) ?_
    exact wk_29 C0 hG hZ hY hlf hX hbl hbA hcs hM hl hp kk
  replace hp := oF hd29 hp
  by_cases hd30 : k = (30 : Int32)
  · replace hp := oT hd30 hp
    refine mr_tsIn (tgt := 2029) C0 (30 : Int32) hd30 dL_law_45 (by decide) (by decide) rfl (by decide) ?_
    exact wk_30 C0 hG hZ hY hlf hX hbl hbA hcs hM hl hp kk
  replace hp := oF hd30 hp
  by_cases hd31 : k = (31 : Int32)
  · replace hp := oT hd31 hp
    refine mr_tsIn (tgt := 2085) C0 (31 : Int32) hd31 dL_law_45 (by decide) (by decide) rfl (by decide) ?_
    exact wk_31 C0 hG hZ hY hlf hX hbl hbA hcs hM hl hp kk
  replace hp := oF hd31 hp
  by_cases hd32 : k = (32 : Int32)
  · replace hp := oT hd32 hp
    refine mr_tsIn (tgt := 2128) C0 (32 : Int32) hd32 dL_law_45 (by decide) (by decide) rfl (by decide) ?_
    exact wk_32 C0 hG hZ hY hlf hX hbl hbA hcs hM hl hp kk
  replace hp := oF hd32 hp
  by_cases hd33 : k = (33 : Int32)
  · replace hp := oT hd33 hp
    refine mr_tsIn (tgt := 2169) C0 (33 : Int32) hd33 dL_law_45 (by decide) (by decide) rfl (by decide) ?_
    exact wk_33 C0 hG hZ hY hlf hX hbl hbA hcs hM hl hp kk
  replace hp := oF hd33 hp
  by_cases hd34 : k = (34 : Int32)
  · replace hp := oT hd34 hp
    refine mr_tsIn (tgt := 2247) C0 (34 : Int32) hd34 dL_law_45 (by decide) (by decide) rfl (by decide) ?_
    exact wk_34 C0 hG hZ hY hlf hX hbl hbA hcs hM hl hp kk
  replace hp := oF hd34 hp
  by_cases hd35 : k = (35 : Int32)
  · replace hp := oT hd35 hp
    refine mr_tsIn (tgt := 2315) C0 (35 : Int32) hd35 dL_law_45 (by decide) (by decide) rfl (by decide) ?_
    exact wk_35 C0 hG hZ hY hlf hX hbl hbA hcs hM hl hp kk
  replace hp := oF hd35 hp
  by_cases hd36 : k = (36 : Int32)
  · replace hp := oT hd36 hp
    refine mr_tsIn (tgt := 2371) C0 (36 : Int32) hd36 dL_law_45 (by decide) (by decide) rfl (by decide) ?_
    exact wk_36 C0 hG hZ hY hlf hX hbl hbA hcs hM hl hp kk
  replace hp := oF hd36 hp
  by_cases hd37 : k = (37 : Int32)
  · replace hp := oT hd37 hp
    refine mr_tsIn (tgt := 2384) C0 (37 : Int32) hd37 dL_law_45 (by decide) (by decide) rfl (by decide) ?_
    exact wk_37 C0 hG hZ hY hlf hX hbl hbA hcs hM hl hp kk
  replace hp := oF hd37 hp
  by_cases hd38 : k = (38 : Int32)
  · replace hp := oT hd38 hp
    refine mr_tsIn (tgt := 2452) C0 (38 : Int32) hd38 dL_law_45 (by decide) (by decide) rfl (by decide) ?_
    exact wk_38 C0 hG hZ hY hlf hX hbl hbA hcs hM hl hp kk
  replace hp := oF hd38 hp
  by_cases hd39 : k = (39 : Int32)
  · replace hp := oT hd39 hp
    refine mr_tsIn (tgt := 2508) C0 (39 : Int32) hd39 dL_law_45 (by decide) (by decide) rfl (by decide) ?_
    exact wk_39 C0 hG hZ hY hlf hX hbl hbA hcs hM hl hp kk
  replace hp := oF hd39 hp
  by_cases hd40 : k = (40 : Int32)
  · replace hp := oT hd40 hp
    refine mr_tsIn (tgt := 2564) C0 (40 : Int32) hd40 dL_law_45 (by decide) (by decide) rfl (by decide) ?_
    exact wk_40 C0 hG hZ hY hlf hX hbl hbA hcs hM hl hp kk
  replace hp := oF hd40 hp
  by_cases hd41 : k = (41 : Int32)
  · replace hp := oT hd41 hp
    refine mr_tsIn (tgt := 2577) C0 (41 : Int32) hd41 dL_law_45 (by decide) (by decide) rfl (by decide) ?_
    exact wk_41 C0 hG hZ hY hlf hX hbl hbA hcs hM hl hp kk
  replace hp := oF hd41 hp
  by_cases hd42 : k = (42 : Int32)
  · replace hp := oT hd42 hp
    refine mr_tsIn (tgt := 2633) C0 (42 : Int32) hd42 dL_law_45 (by decide) (by decide) rfl (by decide) ?_
    exact wk_42 C0 hG hZ hY hlf hX hbl hbA hcs hM hl hp kk
  replace hp := oF hd42 hp
  by_cases hd43 : k = (43 : Int32)
  · replace hp := oT hd43 hp
    refine mr_tsIn (tgt := 2646) C0 (43 : Int32) hd43 dL_law_45 (by decide) (by decide) rfl (by decide) ?_
    exact wk_43 C0 hG hZ hY hlf hX hbl hbA hcs hM hl hp kk
  replace hp := oF hd43 hp
  by_cases hd44 : k = (44 : Int32)
  · replace hp := oT hd44 hp
    refine mr_tsIn (tgt := 2714) C0 (44 : Int32) hd44 dL_law_45 (by decide) (by decide) rfl (by decide) ?_
    exact wk_44 C0 hG hZ hY hlf hX hbl hbA hcs hM hl hp kk
  replace hp := oF hd44 hp
  by_cases hd45 : k = (45 : Int32)
  · replace hp := oT hd45 hp
    refine mr_tsIn (tgt := 2770) C0 (45 : Int32) hd45 dL_law_45 (by decide) (by decide) rfl (by decide) ?_
    exact wk_45 C0 hG hZ hY hlf hX hbl hbA hcs hM hl hp kk
  replace hp := oF hd45 hp
  by_cases hd46 : k = (46 : Int32)
  · replace hp := oT hd46 hp
    refine mr_tsIn (tgt := 2811) C0 (46 : Int32) hd46 dL_law_45 (by decide) (by decide) rfl (by decide) ?_
    exact wk_46 C0 hG hZ hY hlf hX hbl hbA hcs hM hl hp kk
  replace hp := oF hd46 hp
  by_cases hd47 : k = (47 : Int32)
  · replace hp := oT hd47 hp
    refine mr_tsIn (tgt := 2824) C0 (47 : Int32) hd47 dL_law_45 (by decide) (by decide) rfl (by decide) ?_
    exact wk_47 C0 hG hZ hY hlf hX hbl hbA hcs hM hl hp kk
  replace hp := oF hd47 hp
  by_cases hd48 : k = (48 : Int32)
  · replace hp := oT hd48 hp
    refine mr_tsIn (tgt := 2879) C0 (48 : Int32) hd48 dL_law_45 (by decide) (by decide) rfl (by decide) ?_
    exact wk_48 C0 hG hZ hY hlf hX hbl hbA hcs hM hl hp kk
  replace hp := oF hd48 hp
  by_cases hd49 : k = (49 : Int32)
  · replace hp := oT hd49 hp
    refine mr_tsIn (tgt := 2892) C0 (49 : Int32) hd49 dL_law_45 (by decide) (by decide) rfl (by decide) ?_
    exact wk_49 C0 hG hZ hY hlf hX hbl hbA hcs hM hl hp kk
  replace hp := oF hd49 hp
  by_cases hd50 : k = (50 : Int32)
  · replace hp := oT hd50 hp
    refine mr_tsIn (tgt := 2972) C0 (50 : Int32) hd50 dL_law_45 (by decide) (by decide) rfl (by decide) ?_
    exact wk_50 C0 hG hZ hY hlf hX hbl hbA hcs hM hl hp kk
  replace hp := oF hd50 hp
  by_cases hd51 : k = (51 : Int32)
  · replace hp := oT hd51 hp
    refine mr_tsIn (tgt := 3040) C0 (51 : Int32) hd51 dL_law_45 (by decide) (by decide) rfl (by decide) ?_
    exact wk_51 C0 hG hZ hY hlf hX hbl hbA hcs hM hl hp kk
  replace hp := oF hd51 hp
  by_cases hd52 : k = (52 : Int32)
  · replace hp := oT hd52 hp
    refine mr_tsIn (tgt := 3095) C0 (52 : Int32) hd52 dL_law_45 (by decide) (by decide) rfl (by decide) ?_
    exact wk_52 C0 hG hZ hY hlf hX hbl hbA hcs hM hl hp kk
  replace hp := oF hd52 hp
  by_cases hd53 : k = (53 : Int32)
  · replace hp := oT hd53 hp
    refine mr_tsIn (tgt := 3151) C0 (53 : Int32) hd53 dL_law_45 (by decide) (by decide) rfl (by decide) ?_
    exact wk_53 C0 hG hZ hY hlf hX hbl hbA hcs hM hl hp kk
  replace hp := oF hd53 hp
  by_cases hd54 : k = (54 : Int32)
  · replace hp := oT hd54 hp
    refine mr_tsIn (tgt := 3207) C0 (54 : Int32) hd54 dL_law_45 (by decide) (by decide) rfl (by decide) ?_
    exact wk_54 C0 hG hZ hY hlf hX hbl hbA hcs hM hl hp kk
  replace hp := oF hd54 hp
  by_cases hd55 : k = (55 : Int32)
  · replace hp := oT hd55 hp
    refine mr_tsIn (tgt := 3232) C0 (55 : Int32) hd55 dL_law_45 (by decide) (by decide) rfl (by decide) ?_
    exact wk_55 C0 hG hZ hY hlf hX hbl hbA hcs hM hl hp kk
  replace hp := oF hd55 hp
  by_cases hd56 : k = (56 : Int32)
  · replace hp := oT hd56 hp
    refine mr_tsIn (tgt := 3245) C0 (56 : Int32) hd56 dL_law_45 (by decide) (by decide) rfl (by decide) ?_
    exact wk_56 C0 hG hZ hY hlf hX hbl hbA hcs hM hl hp kk
  replace hp := oF hd56 hp
  by_cases hd57 : k = (57 : Int32)
  · replace hp := oT hd57 hp
    refine mr_tsIn (tgt := 3258) C0 (57 : Int32) hd57 dL_law_45 (by decide) (by decide) rfl (by decide) ?_
    exact wk_57 C0 hG hZ hY hlf hX hbl hbA hcs hM hl hp kk
  replace hp := oF hd57 hp
  cases hp
def p_law (Z : gZ) (L : Nat) (xs : Nat → Int32) (x0 mo od od2 : Nat) : Nat → Int32 → Mem → Option Unit
  | 0, _, _ => none
  | n + 1, i0, M => (if (Int32.ofNat L - (6 : Int32)) < i0 then some () else Option.bind (p_step Z L xs x0 mo od od2 i0 M) fun M' => p_law Z L xs x0 mo od od2 n (i0 + (6 : Int32)) M')
set_option maxHeartbeats 4000000 in
theorem w_law {G : gG} {p : Program} {l : Launch} {e : Env} {s : State} {m : MethodId} {args : Array Value} {below : List Frame} {meth : Method} {c : Code} {A : Nat → Prop} {Z : gZ} {Q : State → Prop} {b L : Nat} {xs : Nat → Int32} {x0 mo od od2 : Nat} (C0 : cx G p s m args c cL_law RL 10 A) (hG : GOK G) (hZ : GS G Z) (hY : GY G) (hlf : l.stackTraces = false) (hX : va_X b L xs s s.heap) (hbl : b < s.heap.size) (hbA : ¬ A b) (hend : ∀ (M : Mem) (H : Heap) (locs : List Loc) (ls : Array Slot) (cells slots : Nat), cells ≤ room_1.cells → slots ≤ room_1.slots → mm G A s M H locs → W p l e room_1 s m args below meth c H locs cells slots Q (F0 m 3308 ls [])) : ∀ (n cells slots : Nat) (i0 : Int32) (M : Mem) (H : Heap) (locs : List Loc) (ls : Array Slot), cells + 8 * n ≤ room_1.cells → slots + 48 * n ≤ room_1.slots → mm G A s M H locs → lv_has ls 10 [(0, .ref b), (1, .ref x0), (2, .ref mo), (3, .ref od), (4, .ref od2), (5, .int i0)] → p_law Z L xs x0 mo od od2 n i0 M = some () → W p l e room_1 s m args below meth c H locs cells slots Q (F0 m 28 ls []) := by
  have hx := C0.1
  have hb := C0.2.1
  intro n
  induction n with
  | zero =>
    intro cells slots i0 M H locs ls hc hs hM hl hp
    cases hp
  | succ n ih =>
    intro cells slots i0 M H locs ls hc hs hM hl hp
    unfold p_law at hp
    refine lv_iload hx hb dL_law_28 (lv_at hl 5 rfl) ?_
    refine lv_aload_n hx hb dL_law_30 rfl (lv_at hl 0 rfl) ?_
    refine va_slen hx hb hX hbl hbA hM.2.2 dL_law_31 ?_
    refine lv_bipush (v := 6) hx hb dL_law_32 (by decide) ?_
    refine lv_isub hx hb dL_law_34 ?_
    refine lv_icmp_gt (tgt := 3308) hx hb dL_law_35 (by decide) (fun c1 => ?_) (fun c1 => ?_)
    · exact hend M H locs ls cells slots (by omega) (by omega) hM
    · replace hp := oF c1 hp
      obtain ⟨M', hM', hp⟩ := ob hp
      refine w_step C0 hG hZ hY hlf hX hbl hbA ⟨by omega, by omega⟩ hM hl hM' (fun H locs ls hM hl => ?_)
      refine lv_iinc (v := (i0 + (6 : Int32))) (lv' := [(5, .int (i0 + (6 : Int32))), (0, .ref b), (1, .ref x0), (2, .ref mo), (3, .ref od), (4, .ref od2)]) hx hb dL_law_3302 hl (k := 5) rfl rfl (by decide) rfl (fun ls hl => ?_)
      refine lv_goto (tgt := 28) hx hb dL_law_3305 (by decide) ?_
      exact ih (cells + 8) (slots + 48) _ _ _ _ _ (by omega) (by omega) hM (lv_sub hl [1, 2, 3, 4, 5, 0] rfl) hp
