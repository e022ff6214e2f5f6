/-- a number of the script -/
def xI (L : Nat) (xs : Nat → Int32) (j : Int32) : Option Int32 := if ¬ (j < 0 ∨ L ≤ j.toNatClampNeg) then some (xs j.toNatClampNeg) else none
theorem xI_at {L : Nat} {xs : Nat → Int32} {j v : Int32} (h : xI L xs j = some v) : vp_in j L ∧ xs j.toNatClampNeg = v := by
  unfold xI at h
  split at h
  · rename_i h1
    exact ⟨h1, Option.some.inj h⟩
  · cases h
def pk_0 (L : Nat) (xs : Nat → Int32) (x0 mo od od2 : Nat) (i0 : Int32) (M : Mem) : Option Mem :=
  (Option.bind (xI L xs (i0 + (1 : Int32))) fun v1 =>
  (Option.bind (xI L xs (i0 + (2 : Int32))) fun v2 =>
  (Option.bind (xI L xs (i0 + (3 : Int32))) fun v3 =>
  (Option.bind (xI L xs (i0 + (4 : Int32))) fun v4 =>
  (Option.bind (xI L xs (i0 + (5 : Int32))) fun v5 =>
  (Option.bind (isC 5 M x0) fun _ =>
  (ob2 (p_X6_appendInput x0 v1 v2 v3 v4 v5 M) fun v7 M8 =>
  (Option.bind (xI L xs (i0 + (1 : Int32))) fun v9 =>
  (Option.bind (xI L xs (i0 + (2 : Int32))) fun v10 =>
  (Option.bind (xI L xs (i0 + (3 : Int32))) fun v11 =>
  (Option.bind (xI L xs (i0 + (4 : Int32))) fun v12 =>
  (Option.bind (xI L xs (i0 + (5 : Int32))) fun v13 =>
  (Option.bind (isC 6 M8 mo) fun _ =>
  (ob2 (p_X7_appendInput mo v9 v10 v11 v12 v13 M8) fun v15 M16 =>
  (if v7 = v15 then
   some M16
  else
   none
  )
  )
  )
  )
  )
  )
  )
  )
  )
  )
  )
  )
  )
  )
  )
set_option maxHeartbeats 4000000 in
set_option maxRecDepth 100000 in
theorem wk_0 {G : gG} {p : Program} {l : Launch} {e : Env} {s : State} {m : MethodId} {args : Array Value} {below : List Frame} {meth : Method} {c : Code} {A : Nat → Prop} {Z : gZ} {Q : State → Prop} {cells slots b L : Nat} {xs : Nat → Int32} {x0 mo od od2 : Nat} {i0 : Int32} (C0 : cx G p s m args c cL_law RL 10 A) (hG : GOK G) (hZ : GS G Z) (hY : GY G) (hlf : l.stackTraces = false) (hX : va_X b L xs s s.heap) (hbl : b < s.heap.size) (hbA : ¬ A b) (hcs : cells + 8 ≤ room_1.cells ∧ slots + 48 ≤ room_1.slots) {M M' : Mem} {H : Heap} {locs : List Loc} {ls : Array Slot} (hM : mm G A s M H locs) (hl : lv_has ls 10 [(0, .ref b), (1, .ref x0), (2, .ref mo), (3, .ref od), (4, .ref od2), (5, .int i0)]) (hp : pk_0 L xs x0 mo od od2 i0 M = some M') (kk : ∀ (H : Heap) (locs : List Loc) (ls : Array Slot), mm G A s M' H locs → lv_has ls 10 [(0, .ref b), (1, .ref x0), (2, .ref mo), (3, .ref od), (4, .ref od2), (5, .int i0)] → W p l e room_1 s m args below meth c H locs (cells + 8) (slots + 48) Q (F0 m 3302 ls [])) : W p l e room_1 s m args below meth c H locs cells slots Q (F0 m 292 ls []) := by
  have hx := C0.1
  have hb := C0.2.1
  have hown := C0.2.2.2.1
  have hts := C0.2.2.2.2.1
  obtain ⟨hc1, hs1⟩ := hcs
  unfold pk_0 at hp
  refine lv_aload_n hx hb dL_law_292 rfl (lv_at hl 1 rfl) ?_
  refine lv_aload_n hx hb dL_law_293 rfl (lv_at hl 0 rfl) ?_
  refine lv_iload hx hb dL_law_294 (lv_at hl 5 rfl) ?_
  refine lv_iconst (v := 1) hx hb dL_law_296 (by decide) ?_
  refine lv_iadd hx hb dL_law_297 ?_
  obtain ⟨v1, hv1, hp⟩ := ob hp
  obtain ⟨hin, ev1⟩ := xI_at hv1
  refine va_sld hx hb hX hbl hbA hM.2.2 hin dL_law_298 ?_
  rw [ev1]
  refine lv_aload_n hx hb dL_law_299 rfl (lv_at hl 0 rfl) ?_
  refine lv_iload hx hb dL_law_300 (lv_at hl 5 rfl) ?_
  refine lv_iconst (v := 2) hx hb dL_law_302 (by decide) ?_
  refine lv_iadd hx hb dL_law_303 ?_
  obtain ⟨v2, hv2, hp⟩ := ob hp
  obtain ⟨hin, ev2⟩ := xI_at hv2
  refine va_sld hx hb hX hbl hbA hM.2.2 hin dL_law_304 ?_
  rw [ev2]
  refine lv_aload_n hx hb dL_law_305 rfl (lv_at hl 0 rfl) ?_
  refine lv_iload hx hb dL_law_306 (lv_at hl 5 rfl) ?_
  refine lv_iconst (v := 3) hx hb dL_law_308 (by decide) ?_
  refine lv_iadd hx hb dL_law_309 ?_
  obtain ⟨v3, hv3, hp⟩ := ob hp
  obtain ⟨hin, ev3⟩ := xI_at hv3
  refine va_sld hx hb hX hbl hbA hM.2.2 hin dL_law_310 ?_
  rw [ev3]
  refine lv_aload_n hx hb dL_law_311 rfl (lv_at hl 0 rfl) ?_
  refine lv_iload hx hb dL_law_312 (lv_at hl 5 rfl) ?_
  refine lv_iconst (v := 4) hx hb dL_law_314 (by decide) ?_
  refine lv_iadd hx hb dL_law_315 ?_
  obtain ⟨v4, hv4, hp⟩ := ob hp
  obtain ⟨hin, ev4⟩ := xI_at hv4
  refine va_sld hx hb hX hbl hbA hM.2.2 hin dL_law_316 ?_
  rw [ev4]
  refine lv_aload_n hx hb dL_law_317 rfl (lv_at hl 0 rfl) ?_
  refine lv_iload hx hb dL_law_318 (lv_at hl 5 rfl) ?_
  refine lv_iconst (v := 5) hx hb dL_law_320 (by decide) ?_
  refine lv_iadd hx hb dL_law_321 ?_
  obtain ⟨v5, hv5, hp⟩ := ob hp
  obtain ⟨hin, ev5⟩ := xI_at hv5
  refine va_sld hx hb hX hbl hbA hM.2.2 hin dL_law_322 ?_
  rw [ev5]
  obtain ⟨_, h6, hp⟩ := ob hp
  obtain ⟨v7, M8, hv7, hp⟩ := ob3 hp
  refine mg_V1 (As := [.int v1, .int v2, .int v3, .int v4, .int v5]) (rest := []) C0 cbX6 hM h6 rfl (w_X6_appendInput hG hv7) tw_313 tw_314 tw_315 tw_1 tw_316 yk_X6_appendInput ⟨⟨rfl, rfl⟩, ⟨by decide, by decide⟩, by omega, by omega⟩ rfl hl.1 (Nat.le_of_ble_eq_true rfl) dL_law_323 rfl (fun H locs hM => ?_)
  refine lv_aload_n hx hb dL_law_326 rfl (lv_at hl 2 rfl) ?_
  refine lv_aload_n hx hb dL_law_327 rfl (lv_at hl 0 rfl) ?_
  refine lv_iload hx hb dL_law_328 (lv_at hl 5 rfl) ?_
  refine lv_iconst (v := 1) hx hb dL_law_330 (by decide) ?_
  refine lv_iadd hx hb dL_law_331 ?_
  obtain ⟨v9, hv9, hp⟩ := ob hp
  obtain ⟨hin, ev9⟩ := xI_at hv9
  refine va_sld hx hb hX hbl hbA hM.2.2 hin dL_law_332 ?_
  rw [ev9]
  refine lv_aload_n hx hb dL_law_333 rfl (lv_at hl 0 rfl) ?_
  refine lv_iload hx hb dL_law_334 (lv_at hl 5 rfl) ?_
  refine lv_iconst (v := 2) hx hb dL_law_336 (by decide) ?_
  refine lv_iadd hx hb dL_law_337 ?_
  obtain ⟨v10, hv10, hp⟩ := ob hp
  obtain ⟨hin, ev10⟩ := xI_at hv10
  refine va_sld hx hb hX hbl hbA hM.2.2 hin dL_law_338 ?_
  rw [ev10]
  refine lv_aload_n hx hb dL_law_339 rfl (lv_at hl 0 rfl) ?_
  refine lv_iload hx hb dL_law_340 (lv_at hl 5 rfl) ?_
  refine lv_iconst (v := 3) hx hb dL_law_342 (by decide) ?_
  refine lv_iadd hx hb dL_law_343 ?_
  obtain ⟨v11, hv11, hp⟩ := ob hp
  obtain ⟨hin, ev11⟩ := xI_at hv11
  refine va_sld hx hb hX hbl hbA hM.2.2 hin dL_law_344 ?_
  rw [ev11]
  refine lv_aload_n hx hb dL_law_345 rfl (lv_at hl 0 rfl) ?_
  refine lv_iload hx hb dL_law_346 (lv_at hl 5 rfl) ?_
  refine lv_iconst (v := 4) hx hb dL_law_348 (by decide) ?_
  refine lv_iadd hx hb dL_law_349 ?_
  obtain ⟨v12, hv12, hp⟩ := ob hp
  obtain ⟨hin, ev12⟩ := xI_at hv12
  refine va_sld hx hb hX hbl hbA hM.2.2 hin dL_law_350 ?_
  rw [ev12]
  refine lv_aload_n hx hb dL_law_351 rfl (lv_at hl 0 rfl) ?_
  refine lv_iload hx hb dL_law_352 (lv_at hl 5 rfl) ?_
  refine lv_iconst (v := 5) hx hb dL_law_354 (by decide) ?_
  refine lv_iadd hx hb dL_law_355 ?_
  obtain ⟨v13, hv13, hp⟩ := ob hp
  obtain ⟨hin, ev13⟩ := xI_at hv13
  refine va_sld hx hb hX hbl hbA hM.2.2 hin dL_law_356 ?_
  rw [ev13]
  obtain ⟨_, h14, hp⟩ := ob hp
  obtain ⟨v15, M16, hv15, hp⟩ := ob3 hp
  refine mg_V1 (As := [.int v9, .int v10, .int v11, .int v12, .int v13]) (rest := [.int v7]) C0 cbX7 hM h14 rfl (w_X7_appendInput hG hv15) tw_1313 tw_1314 tw_1315 tw_7 tw_1316 yk_X7_appendInput ⟨⟨rfl, rfl⟩, ⟨by decide, by decide⟩, by omega, by omega⟩ rfl hl.1 (Nat.le_of_ble_eq_true rfl) dL_law_357 rfl (fun H locs hM => ?_)
  refine lv_icmp_eq (tgt := 3302) hx hb dL_law_360 (by decide) (fun c17 => ?_) (fun c17 => ?_)
  · replace hp := oT c17 hp
    cases hp
    refine W.widen (k := cells + 8) (n := slots + 48) (by omega) (by omega) ?_
    exact kk H locs ls hM (lv_sub hl [0, 1, 2, 3, 4, 5] rfl)
  · replace hp := oF c17 hp
    cases hp
def pk_1 (L : Nat) (xs : Nat → Int32) (x0 mo od od2 : Nat) (i0 : Int32) (M : Mem) : Option Mem :=
  (Option.bind (xI L xs (i0 + (1 : Int32))) fun v1 =>
  (Option.bind (isC 5 M x0) fun _ =>
  (ob2 (p_X6_truncateInput x0 v1 M) fun v3 M4 =>
  (Option.bind (xI L xs (i0 + (1 : Int32))) fun v5 =>
  (Option.bind (isC 6 M4 mo) fun _ =>
  (ob2 (p_X7_truncateInput mo v5 M4) fun v7 M8 =>
  (if v3 = v7 then
   some M8
  else
   none
  )
  )
  )
  )
  )
  )
  )
set_option maxHeartbeats 4000000 in
set_option maxRecDepth 100000 in
theorem wk_1 {G : gG} {p : Program} {l : Launch} {e : Env} {s : State} {m : MethodId} {args : Array Value} {below : List Frame} {meth : Method} {c : Code} {A : Nat → Prop} {Z : gZ} {Q : State → Prop} {cells slots b L : Nat} {xs : Nat → Int32} {x0 mo od od2 : Nat} {i0 : Int32} (C0 : cx G p s m args c cL_law RL 10 A) (hG : GOK G) (hZ : GS G Z) (hY : GY G) (hlf : l.stackTraces = false) (hX : va_X b L xs s s.heap) (hbl : b < s.heap.size) (hbA : ¬ A b) (hcs : cells + 8 ≤ room_1.cells ∧ slots + 48 ≤ room_1.slots) {M M' : Mem} {H : Heap} {locs : List Loc} {ls : Array Slot} (hM : mm G A s M H locs) (hl : lv_has ls 10 [(0, .ref b), (1, .ref x0), (2, .ref mo), (3, .ref od), (4, .ref od2), (5, .int i0)]) (hp : pk_1 L xs x0 mo od od2 i0 M = some M') (kk : ∀ (H : Heap) (locs : List Loc) (ls : Array Slot), mm G A s M' H locs → lv_has ls 10 [(0, .ref b), (1, .ref x0), (2, .ref mo), (3, .ref od), (4, .ref od2), (5, .int i0)] → W p l e room_1 s m args below meth c H locs (cells + 8) (slots + 48) Q (F0 m 3302 ls [])) : W p l e room_1 s m args below meth c H locs cells slots Q (F0 m 365 ls []) := by
  have hx := C0.1
  have hb := C0.2.1
  have hown := C0.2.2.2.1
  have hts := C0.2.2.2.2.1
  obtain ⟨hc1, hs1⟩ := hcs
  unfold pk_1 at hp
  refine lv_aload_n hx hb dL_law_365 rfl (lv_at hl 1 rfl) ?_
  refine lv_aload_n hx hb dL_law_366 rfl (lv_at hl 0 rfl) ?_
  refine lv_iload hx hb dL_law_367 (lv_at hl 5 rfl) ?_
  refine lv_iconst (v := 1) hx hb dL_law_369 (by decide) ?_
  refine lv_iadd hx hb dL_law_370 ?_
  obtain ⟨v1, hv1, hp⟩ := ob hp
  obtain ⟨hin, ev1⟩ := xI_at hv1
  refine va_sld hx hb hX hbl hbA hM.2.2 hin dL_law_371 ?_
  rw [ev1]
  obtain ⟨_, h2, hp⟩ := ob hp
  obtain ⟨v3, M4, hv3, hp⟩ := ob3 hp
  refine mg_V1 (As := [.int v1]) (rest := []) C0 cbX6 hM h2 rfl (w_X6_truncateInput hG hv3) tw_321 tw_322 tw_323 tw_1 tw_324 yk_X6_truncateInput ⟨⟨rfl, rfl⟩, ⟨by decide, by decide⟩, by omega, by omega⟩ rfl hl.1 (Nat.le_of_ble_eq_true rfl) dL_law_372 rfl (fun H locs hM => ?_)
  refine lv_aload_n hx hb dL_law_375 rfl (lv_at hl 2 rfl) ?_
  refine lv_aload_n hx hb dL_law_376 rfl (lv_at hl 0 rfl) ?_
  refine lv_iload hx hb dL_law_377 (lv_at hl 5 rfl) ?_
  refine lv_iconst (v := 1) hx hb dL_law_379 (by decide) ?_
  refine lv_iadd hx hb dL_law_380 ?_
  obtain ⟨v5, hv5, hp⟩ := ob hp
  obtain ⟨hin, ev5⟩ := xI_at hv5
  refine va_sld hx hb hX hbl hbA hM.2.2 hin dL_law_381 ?_
  rw [ev5]
  obtain ⟨_, h6, hp⟩ := ob hp
  obtain ⟨v7, M8, hv7, hp⟩ := ob3 hp
  refine mg_V1 (As := [.int v5]) (rest := [.int v3]) C0 cbX7 hM h6 rfl (w_X7_truncateInput hG hv7) tw_1321 tw_1322 tw_1323 tw_7 tw_1324 yk_X7_truncateInput ⟨⟨rfl, rfl⟩, ⟨by decide, by decide⟩, by omega, by omega⟩ rfl hl.1 (Nat.le_of_ble_eq_true rfl) dL_law_382 rfl (fun H locs hM => ?_)
  refine lv_icmp_eq (tgt := 3302) hx hb dL_law_385 (by decide) (fun c9 => ?_) (fun c9 => ?_)
  · replace hp := oT c9 hp
    cases hp
    refine W.widen (k := cells + 8) (n := slots + 48) (by omega) (by omega) ?_
    exact kk H locs ls hM (lv_sub hl [0, 1, 2, 3, 4, 5] rfl)
  · replace hp := oF c9 hp
    cases hp
def pk_2 (Z : gZ) (L : Nat) (xs : Nat → Int32) (x0 mo od od2 : Nat) (i0 : Int32) (M : Mem) : Option Mem :=
  (Option.bind (isC 5 M x0) fun _ =>
  (ob2 (p_X6_loadOffice Z x0 M) fun v2 M3 =>
  (Option.bind (isC 6 M3 mo) fun _ =>
  (ob2 (p_X7_loadOffice mo M3) fun v5 M6 =>
  (if v2 = v5 then
   some M6
  else
   none
  )
  )
  )
  )
  )
set_option maxHeartbeats 4000000 in
set_option maxRecDepth 100000 in
theorem wk_2 {G : gG} {p : Program} {l : Launch} {e : Env} {s : State} {m : MethodId} {args : Array Value} {below : List Frame} {meth : Method} {c : Code} {A : Nat → Prop} {Z : gZ} {Q : State → Prop} {cells slots b L : Nat} {xs : Nat → Int32} {x0 mo od od2 : Nat} {i0 : Int32} (C0 : cx G p s m args c cL_law RL 10 A) (hG : GOK G) (hZ : GS G Z) (hY : GY G) (hlf : l.stackTraces = false) (hX : va_X b L xs s s.heap) (hbl : b < s.heap.size) (hbA : ¬ A b) (hcs : cells + 8 ≤ room_1.cells ∧ slots + 48 ≤ room_1.slots) {M M' : Mem} {H : Heap} {locs : List Loc} {ls : Array Slot} (hM : mm G A s M H locs) (hl : lv_has ls 10 [(0, .ref b), (1, .ref x0), (2, .ref mo), (3, .ref od), (4, .ref od2), (5, .int i0)]) (hp : pk_2 Z L xs x0 mo od od2 i0 M = some M') (kk : ∀ (H : Heap) (locs : List Loc) (ls : Array Slot), mm G A s M' H locs → lv_has ls 10 [(0, .ref b), (1, .ref x0), (2, .ref mo), (3, .ref od), (4, .ref od2), (5, .int i0)] → W p l e room_1 s m args below meth c H locs (cells + 8) (slots + 48) Q (F0 m 3302 ls [])) : W p l e room_1 s m args below meth c H locs cells slots Q (F0 m 390 ls []) := by
  have hx := C0.1
  have hb := C0.2.1
  have hown := C0.2.2.2.1
  have hts := C0.2.2.2.2.1
  obtain ⟨hc1, hs1⟩ := hcs
  unfold pk_2 at hp
  refine lv_aload_n hx hb dL_law_390 rfl (lv_at hl 1 rfl) ?_
  obtain ⟨_, h1, hp⟩ := ob hp
  obtain ⟨v2, M3, hv2, hp⟩ := ob3 hp
  refine mg_V1 (As := []) (rest := []) C0 cbX6 hM h1 rfl (w_X6_loadOffice hG hZ hv2) tw_325 tw_326 tw_327 tw_1 tw_328 yk_X6_loadOffice ⟨⟨rfl, rfl⟩, ⟨by decide, by decide⟩, by omega, by omega⟩ rfl hl.1 (Nat.le_of_ble_eq_true rfl) dL_law_391 rfl (fun H locs hM => ?_)
  refine lv_aload_n hx hb dL_law_394 rfl (lv_at hl 2 rfl) ?_
  obtain ⟨_, h4, hp⟩ := ob hp
  obtain ⟨v5, M6, hv5, hp⟩ := ob3 hp
  refine mg_V1 (As := []) (rest := [.int v2]) C0 cbX7 hM h4 rfl (w_X7_loadOffice hG hZ hv5) tw_1328 tw_1329 tw_1330 tw_7 tw_1331 yk_X7_loadOffice ⟨⟨rfl, rfl⟩, ⟨by decide, by decide⟩, by omega, by omega⟩ rfl hl.1 (Nat.le_of_ble_eq_true rfl) dL_law_395 rfl (fun H locs hM => ?_)
  refine lv_icmp_eq (tgt := 3302) hx hb dL_law_398 (by decide) (fun c7 => ?_) (fun c7 => ?_)
  · replace hp := oT c7 hp
    cases hp
    refine W.widen (k := cells + 8) (n := slots + 48) (by omega) (by omega) ?_
    exact kk H locs ls hM (lv_sub hl [0, 1, 2, 3, 4, 5] rfl)
  · replace hp := oF c7 hp
    cases hp
def pk_3 (L : Nat) (xs : Nat → Int32) (x0 mo od od2 : Nat) (i0 : Int32) (M : Mem) : Option Mem :=
  (Option.bind (isC 5 M x0) fun _ =>
  (Option.bind (p_X6_errorCode x0 M) fun v2 =>
  (Option.bind (isC 6 M mo) fun _ =>
  (ob2 (p_X7_errorCode mo M) fun v4 M5 =>
  (if v2 = v4 then
   some M5
  else
   none
  )
  )
  )
  )
  )
set_option maxHeartbeats 4000000 in
set_option maxRecDepth 100000 in
theorem wk_3 {G : gG} {p : Program} {l : Launch} {e : Env} {s : State} {m : MethodId} {args : Array Value} {below : List Frame} {meth : Method} {c : Code} {A : Nat → Prop} {Z : gZ} {Q : State → Prop} {cells slots b L : Nat} {xs : Nat → Int32} {x0 mo od od2 : Nat} {i0 : Int32} (C0 : cx G p s m args c cL_law RL 10 A) (hG : GOK G) (hZ : GS G Z) (hY : GY G) (hlf : l.stackTraces = false) (hX : va_X b L xs s s.heap) (hbl : b < s.heap.size) (hbA : ¬ A b) (hcs : cells + 8 ≤ room_1.cells ∧ slots + 48 ≤ room_1.slots) {M M' : Mem} {H : Heap} {locs : List Loc} {ls : Array Slot} (hM : mm G A s M H locs) (hl : lv_has ls 10 [(0, .ref b), (1, .ref x0), (2, .ref mo), (3, .ref od), (4, .ref od2), (5, .int i0)]) (hp : pk_3 L xs x0 mo od od2 i0 M = some M') (kk : ∀ (H : Heap) (locs : List Loc) (ls : Array Slot), mm G A s M' H locs → lv_has ls 10 [(0, .ref b), (1, .ref x0), (2, .ref mo), (3, .ref od), (4, .ref od2), (5, .int i0)] → W p l e room_1 s m args below meth c H locs (cells + 8) (slots + 48) Q (F0 m 3302 ls [])) : W p l e room_1 s m args below meth c H locs cells slots Q (F0 m 403 ls []) := by
  have hx := C0.1
  have hb := C0.2.1
  have hown := C0.2.2.2.1
  have hts := C0.2.2.2.2.1
  obtain ⟨hc1, hs1⟩ := hcs
  unfold pk_3 at hp
  refine lv_aload_n hx hb dL_law_403 rfl (lv_at hl 1 rfl) ?_
  obtain ⟨_, h1, hp⟩ := ob hp
  obtain ⟨v2, hv2, hp⟩ := ob hp
  refine mg_V1 (As := []) (rest := []) C0 cbX6 hM h1 rfl (w_X6_errorCode hG hv2) tw_526 tw_527 tw_528 tw_1 tw_529 yk_X6_errorCode ⟨⟨rfl, rfl⟩, ⟨by decide, by decide⟩, by omega, by omega⟩ rfl hl.1 (Nat.le_of_ble_eq_true rfl) dL_law_404 rfl (fun H locs hM => ?_)
  refine lv_aload_n hx hb dL_law_407 rfl (lv_at hl 2 rfl) ?_
  obtain ⟨_, h3, hp⟩ := ob hp
  obtain ⟨v4, M5, hv4, hp⟩ := ob3 hp
  refine mg_V1 (As := []) (rest := [.int v2]) C0 cbX7 hM h3 rfl (w_X7_errorCode hG hv4) tw_1447 tw_1448 tw_1449 tw_7 tw_1450 yk_X7_errorCode ⟨⟨rfl, rfl⟩, ⟨by decide, by decide⟩, by omega, by omega⟩ rfl hl.1 (Nat.le_of_ble_eq_true rfl) dL_law_408 rfl (fun H locs hM => ?_)
  refine lv_icmp_eq (tgt := 3302) hx hb dL_law_411 (by decide) (fun c6 => ?_) (fun c6 => ?_)
  · replace hp := oT c6 hp
    cases hp
    refine W.widen (k := cells + 8) (n := slots + 48) (by omega) (by omega) ?_
    exact kk H locs ls hM (lv_sub hl [0, 1, 2, 3, 4, 5] rfl)
  · replace hp := oF c6 hp
    cases hp
def pk_4 (L : Nat) (xs : Nat → Int32) (x0 mo od od2 : Nat) (i0 : Int32) (M : Mem) : Option Mem :=
  (Option.bind (isC 5 M x0) fun _ =>
  (Option.bind (p_X6_errorOffset x0 M) fun v2 =>
  (Option.bind (isC 6 M mo) fun _ =>
  (ob2 (p_X7_errorOffset mo M) fun v4 M5 =>
  (if v2 = v4 then
   some M5
  else
   none
  )
  )
  )
  )
  )
set_option maxHeartbeats 4000000 in
set_option maxRecDepth 100000 in
theorem wk_4 {G : gG} {p : Program} {l : Launch} {e : Env} {s : State} {m : MethodId} {args : Array Value} {below : List Frame} {meth : Method} {c : Code} {A : Nat → Prop} {Z : gZ} {Q : State → Prop} {cells slots b L : Nat} {xs : Nat → Int32} {x0 mo od od2 : Nat} {i0 : Int32} (C0 : cx G p s m args c cL_law RL 10 A) (hG : GOK G) (hZ : GS G Z) (hY : GY G) (hlf : l.stackTraces = false) (hX : va_X b L xs s s.heap) (hbl : b < s.heap.size) (hbA : ¬ A b) (hcs : cells + 8 ≤ room_1.cells ∧ slots + 48 ≤ room_1.slots) {M M' : Mem} {H : Heap} {locs : List Loc} {ls : Array Slot} (hM : mm G A s M H locs) (hl : lv_has ls 10 [(0, .ref b), (1, .ref x0), (2, .ref mo), (3, .ref od), (4, .ref od2), (5, .int i0)]) (hp : pk_4 L xs x0 mo od od2 i0 M = some M') (kk : ∀ (H : Heap) (locs : List Loc) (ls : Array Slot), mm G A s M' H locs → lv_has ls 10 [(0, .ref b), (1, .ref x0), (2, .ref mo), (3, .ref od), (4, .ref od2), (5, .int i0)] → W p l e room_1 s m args below meth c H locs (cells + 8) (slots + 48) Q (F0 m 3302 ls [])) : W p l e room_1 s m args below meth c H locs cells slots Q (F0 m 416 ls []) := by
  have hx := C0.1
  have hb := C0.2.1
  have hown := C0.2.2.2.1
  have hts := C0.2.2.2.2.1
  obtain ⟨hc1, hs1⟩ := hcs
  unfold pk_4 at hp
  refine lv_aload_n hx hb dL_law_416 rfl (lv_at hl 1 rfl) ?_
  obtain ⟨_, h1, hp⟩ := ob hp
  obtain ⟨v2, hv2, hp⟩ := ob hp
  refine mg_V1 (As := []) (rest := []) C0 cbX6 hM h1 rfl (w_X6_errorOffset hG hv2) tw_530 tw_531 tw_532 tw_1 tw_533 yk_X6_errorOffset ⟨⟨rfl, rfl⟩, ⟨by decide, by decide⟩, by omega, by omega⟩ rfl hl.1 (Nat.le_of_ble_eq_true rfl) dL_law_417 rfl (fun H locs hM => ?_)
  refine lv_aload_n hx hb dL_law_420 rfl (lv_at hl 2 rfl) ?_
  obtain ⟨_, h3, hp⟩ := ob hp
  obtain ⟨v4, M5, hv4, hp⟩ := ob3 hp
  refine mg_V1 (As := []) (rest := [.int v2]) C0 cbX7 hM h3 rfl (w_X7_errorOffset hG hv4) tw_1451 tw_1452 tw_1453 tw_7 tw_1454 yk_X7_errorOffset ⟨⟨rfl, rfl⟩, ⟨by decide, by decide⟩, by omega, by omega⟩ rfl hl.1 (Nat.le_of_ble_eq_true rfl) dL_law_421 rfl (fun H locs hM => ?_)
  refine lv_icmp_eq (tgt := 3302) hx hb dL_law_424 (by decide) (fun c6 => ?_) (fun c6 => ?_)
  · replace hp := oT c6 hp
    cases hp
    refine W.widen (k := cells + 8) (n := slots + 48) (by omega) (by omega) ?_
    exact kk H locs ls hM (lv_sub hl [0, 1, 2, 3, 4, 5] rfl)
  · replace hp := oF c6 hp
    cases hp
def pk_5 (L : Nat) (xs : Nat → Int32) (x0 mo od od2 : Nat) (i0 : Int32) (M : Mem) : Option Mem :=
  (Option.bind (xI L xs (i0 + (1 : Int32))) fun v1 =>
  (ob2 (p_L_count x0 v1 od M) fun v2 M3 =>
  (Option.bind (xI L xs (i0 + (1 : Int32))) fun v4 =>
  (Option.bind (isC 6 M3 mo) fun _ =>
  (ob2 (p_X7_count mo v4 M3) fun v6 M7 =>
  (Option.bind (isC 6 M7 mo) fun _ =>
  (Option.bind (p_X7_thrown mo M7) fun v9 =>
  (if v9 = v2 then
   (if v2 = 0 then
    (Option.bind (aL M7 od (0 : Int32)) fun v12 =>
    (if (lg_cmp v12 (Int32.toInt64 v6)) = 0 then
     some M7
    else
     none
    )
    )
   else
    some M7
   )
  else
   none
  )
  )
  )
  )
  )
  )
  )
  )
set_option maxHeartbeats 4000000 in
set_option maxRecDepth 100000 in
theorem wk_5 {G : gG} {p : Program} {l : Launch} {e : Env} {s : State} {m : MethodId} {args : Array Value} {below : List Frame} {meth : Method} {c : Code} {A : Nat → Prop} {Z : gZ} {Q : State → Prop} {cells slots b L : Nat} {xs : Nat → Int32} {x0 mo od od2 : Nat} {i0 : Int32} (C0 : cx G p s m args c cL_law RL 10 A) (hG : GOK G) (hZ : GS G Z) (hY : GY G) (hlf : l.stackTraces = false) (hX : va_X b L xs s s.heap) (hbl : b < s.heap.size) (hbA : ¬ A b) (hcs : cells + 8 ≤ room_1.cells ∧ slots + 48 ≤ room_1.slots) {M M' : Mem} {H : Heap} {locs : List Loc} {ls : Array Slot} (hM : mm G A s M H locs) (hl : lv_has ls 10 [(0, .ref b), (1, .ref x0), (2, .ref mo), (3, .ref od), (4, .ref od2), (5, .int i0)]) (hp : pk_5 L xs x0 mo od od2 i0 M = some M') (kk : ∀ (H : Heap) (locs : List Loc) (ls : Array Slot), mm G A s M' H locs → lv_has ls 10 [(0, .ref b), (1, .ref x0), (2, .ref mo), (3, .ref od), (4, .ref od2), (5, .int i0)] → W p l e room_1 s m args below meth c H locs (cells + 8) (slots + 48) Q (F0 m 3302 ls [])) : W p l e room_1 s m args below meth c H locs cells slots Q (F0 m 429 ls []) := by
  have hx := C0.1
  have hb := C0.2.1
  have hown := C0.2.2.2.1
  have hts := C0.2.2.2.2.1
  obtain ⟨hc1, hs1⟩ := hcs
  unfold pk_5 at hp
  refine lv_aload_n hx hb dL_law_429 rfl (lv_at hl 1 rfl) ?_
  refine lv_aload_n hx hb dL_law_430 rfl (lv_at hl 0 rfl) ?_
  refine lv_iload hx hb dL_law_431 (lv_at hl 5 rfl) ?_
  refine lv_iconst (v := 1) hx hb dL_law_433 (by decide) ?_
  refine lv_iadd hx hb dL_law_434 ?_
  obtain ⟨v1, hv1, hp⟩ := ob hp
  obtain ⟨hin, ev1⟩ := xI_at hv1
  refine va_sld hx hb hX hbl hbA hM.2.2 hin dL_law_435 ?_
  rw [ev1]
  refine lv_aload_n hx hb dL_law_436 rfl (lv_at hl 3 rfl) ?_
  obtain ⟨v2, M3, hv2, hp⟩ := ob3 hp
  refine ml_S1 (As := [.ref x0, .int v1, .ref od]) (rest := []) C0 hM (w_L_count hG hY hlf hv2) tw_720 tw_721 tw_0 twh_722 yk_L_count ⟨⟨rfl, rfl⟩, ⟨by decide, by decide⟩, by omega, by omega⟩ rfl hl.1 (Nat.le_of_ble_eq_true rfl) dL_law_437 rfl (fun H locs hM => ?_)
  refine lv_istore (lv' := [(6, .int v2), (0, .ref b), (1, .ref x0), (2, .ref mo), (3, .ref od), (4, .ref od2), (5, .int i0)]) hx hb dL_law_440 hl (by decide) rfl (fun ls hl => ?_)
  refine lv_aload_n hx hb dL_law_442 rfl (lv_at hl 3 rfl) ?_
  refine lv_aload_n hx hb dL_law_443 rfl (lv_at hl 1 rfl) ?_
  refine lv_iload hx hb dL_law_444 (lv_at hl 6 rfl) ?_
  refine lv_iconst (v := 1) hx hb dL_law_446 (by decide) ?_
  refine lv_iadd hx hb dL_law_447 ?_
  obtain ⟨v4, hv4, hp⟩ := ob hp
  obtain ⟨hin, ev4⟩ := xI_at hv4
  refine va_sld hx hb hX hbl hbA hM.2.2 hin dL_law_448 ?_
  rw [ev4]
  obtain ⟨_, h5, hp⟩ := ob hp
  obtain ⟨v6, M7, hv6, hp⟩ := ob3 hp
  refine mg_V1 (As := [.int v4]) (rest := []) C0 cbX7 hM h5 rfl (w_X7_count hG hv6) tw_1455 tw_1456 tw_1457 tw_7 tw_1458 yk_X7_count ⟨⟨rfl, rfl⟩, ⟨by decide, by decide⟩, by omega, by omega⟩ rfl hl.1 (Nat.le_of_ble_eq_true rfl) dL_law_449 rfl (fun H locs hM => ?_)
  refine lv_istore (lv' := [(7, .int v6), (6, .int v2), (0, .ref b), (1, .ref x0), (2, .ref mo), (3, .ref od), (4, .ref od2), (5, .int i0)]) hx hb dL_law_452 hl (by decide) rfl (fun ls hl => ?_)
  refine lv_aload_n hx hb dL_law_454 rfl (lv_at hl 4 rfl) ?_
  obtain ⟨_, h8, hp⟩ := ob hp
  obtain ⟨v9, hv9, hp⟩ := ob hp
  refine mg_V1 (As := []) (rest := []) C0 cbX7 hM h8 rfl (w_X7_thrown hG hv9) tw_1309 tw_1310 tw_1311 tw_7 tw_1312 yk_X7_thrown ⟨⟨rfl, rfl⟩, ⟨by decide, by decide⟩, by omega, by omega⟩ rfl hl.1 (Nat.le_of_ble_eq_true rfl) dL_law_455 rfl (fun H locs hM => ?_)
  refine lv_iload hx hb dL_law_458 (lv_at hl 1 rfl) ?_
  refine lv_icmp_eq (tgt := 465) hx hb dL_law_460 (by decide) (fun c10 => ?_) (fun c10 => ?_)
  · replace hp := oT c10 hp
    refine lv_iload hx hb dL_law_465 (lv_at hl 1 rfl) ?_
    refine lv_if_ne (tgt := 482) hx hb dL_law_467 (by decide) (fun c11 => ?_) (fun c11 => ?_)
    · replace hp := oF c11 hp
      refine lv_goto (tgt := 3302) hx hb dL_law_482 (by decide) ?_
      cases hp
      refine W.widen (k := cells + 8) (n := slots + 48) (by omega) (by omega) ?_
      exact kk H locs ls hM (lv_sub hl [2, 3, 4, 5, 6, 7] rfl)
    · replace hp := oT c11 hp
      refine lv_aload_n hx hb dL_law_470 rfl (lv_at hl 5 rfl) ?_
      refine lv_iconst (v := 0) hx hb dL_law_471 (by decide) ?_
      obtain ⟨v12, hv12, hp⟩ := ob hp
      refine mr_lald C0 hM hv12 dL_law_472 ?_
      refine lv_iload hx hb dL_law_473 (lv_at hl 0 rfl) ?_
      refine lv_i2l (v := (Int32.toInt64 v6)) hx hb dL_law_475 rfl ?_
      refine W.lcmp hx hb dL_law_476 ?_
      refine lv_if_eq (tgt := 482) hx hb dL_law_477 (by decide) (fun c13 => ?_) (fun c13 => ?_)
      · replace hp := oT c13 hp
        refine lv_goto (tgt := 3302) hx hb dL_law_482 (by decide) ?_
        cases hp
        refine W.widen (k := cells + 8) (n := slots + 48) (by omega) (by omega) ?_
        exact kk H locs ls hM (lv_sub hl [2, 3, 4, 5, 6, 7] rfl)
      · replace hp := oF c13 hp
        cases hp
  · replace hp := oF c10 hp
    cases hp
def pk_6 (L : Nat) (xs : Nat → Int32) (x0 mo od od2 : Nat) (i0 : Int32) (M : Mem) : Option Mem :=
  (Option.bind (xI L xs (i0 + (1 : Int32))) fun v1 =>
  (Option.bind (xI L xs (i0 + (2 : Int32))) fun v2 =>
  (ob2 (p_L_school x0 v1 v2 od M) fun v3 M4 =>
  (Option.bind (xI L xs (i0 + (1 : Int32))) fun v5 =>
  (Option.bind (xI L xs (i0 + (2 : Int32))) fun v6 =>
  (Option.bind (isC 6 M4 mo) fun _ =>
  (ob2 (p_X7_school mo v5 v6 M4) fun v8 M9 =>
  (Option.bind (isC 6 M9 mo) fun _ =>
  (Option.bind (p_X7_thrown mo M9) fun v11 =>
  (if v11 = v3 then
   (if v3 = 0 then
    (Option.bind (aL M9 od (0 : Int32)) fun v14 =>
    (if (lg_cmp v14 (Int32.toInt64 v8)) = 0 then
     some M9
    else
     none
    )
    )
   else
    some M9
   )
  else
   none
  )
  )
  )
  )
  )
  )
  )
  )
  )
  )
set_option maxHeartbeats 4000000 in
set_option maxRecDepth 100000 in
theorem wk_6 {G : gG} {p : Program} {l : Launch} {e : Env} {s : State} {m : MethodId} {args : Array Value} {below : List Frame} {meth : Method} {c : Code} {A : Nat → Prop} {Z : gZ} {Q : State → Prop} {cells slots b L : Nat} {xs : Nat → Int32} {x0 mo od od2 : Nat} {i0 : Int32} (C0 : cx G p s m args c cL_law RL 10 A) (hG : GOK G) (hZ : GS G Z) (hY : GY G) (hlf : l.stackTraces = false) (hX : va_X b L xs s s.heap) (hbl : b < s.heap.size) (hbA : ¬ A b) (hcs : cells + 8 ≤ room_1.cells ∧ slots + 48 ≤ room_1.slots) {M M' : Mem} {H : Heap} {locs : List Loc} {ls : Array Slot} (hM : mm G A s M H locs) (hl : lv_has ls 10 [(0, .ref b), (1, .ref x0), (2, .ref mo), (3, .ref od), (4, .ref od2), (5, .int i0)]) (hp : pk_6 L xs x0 mo od od2 i0 M = some M') (kk : ∀ (H : Heap) (locs : List Loc) (ls : Array Slot), mm G A s M' H locs → lv_has ls 10 [(0, .ref b), (1, .ref x0), (2, .ref mo), (3, .ref od), (4, .ref od2), (5, .int i0)] → W p l e room_1 s m args below meth c H locs (cells + 8) (slots + 48) Q (F0 m 3302 ls [])) : W p l e room_1 s m args below meth c H locs cells slots Q (F0 m 485 ls []) := by
  have hx := C0.1
  have hb := C0.2.1
  have hown := C0.2.2.2.1
  have hts := C0.2.2.2.2.1
  obtain ⟨hc1, hs1⟩ := hcs
  unfold pk_6 at hp
  refine lv_aload_n hx hb dL_law_485 rfl (lv_at hl 1 rfl) ?_
  refine lv_aload_n hx hb dL_law_486 rfl (lv_at hl 0 rfl) ?_
  refine lv_iload hx hb dL_law_487 (lv_at hl 5 rfl) ?_
  refine lv_iconst (v := 1) hx hb dL_law_489 (by decide) ?_
  refine lv_iadd hx hb dL_law_490 ?_
  obtain ⟨v1, hv1, hp⟩ := ob hp
  obtain ⟨hin, ev1⟩ := xI_at hv1
  refine va_sld hx hb hX hbl hbA hM.2.2 hin dL_law_491 ?_
  rw [ev1]
  refine lv_aload_n hx hb dL_law_492 rfl (lv_at hl 0 rfl) ?_
  refine lv_iload hx hb dL_law_493 (lv_at hl 5 rfl) ?_
  refine lv_iconst (v := 2) hx hb dL_law_495 (by decide) ?_
  refine lv_iadd hx hb dL_law_496 ?_
  obtain ⟨v2, hv2, hp⟩ := ob hp
  obtain ⟨hin, ev2⟩ := xI_at hv2
  refine va_sld hx hb hX hbl hbA hM.2.2 hin dL_law_497 ?_
  rw [ev2]
  refine lv_aload_n hx hb dL_law_498 rfl (lv_at hl 3 rfl) ?_
  obtain ⟨v3, M4, hv3, hp⟩ := ob3 hp
  refine ml_S1 (As := [.ref x0, .int v1, .int v2, .ref od]) (rest := []) C0 hM (w_L_school hG hY hlf hv3) tw_800 tw_801 tw_0 twh_802 yk_L_school ⟨⟨rfl, rfl⟩, ⟨by decide, by decide⟩, by omega, by omega⟩ rfl hl.1 (Nat.le_of_ble_eq_true rfl) dL_law_499 rfl (fun H locs hM => ?_)
  refine lv_istore (lv' := [(6, .int v3), (0, .ref b), (1, .ref x0), (2, .ref mo), (3, .ref od), (4, .ref od2), (5, .int i0)]) hx hb dL_law_502 hl (by decide) rfl (fun ls hl => ?_)
  refine lv_aload_n hx hb dL_law_504 rfl (lv_at hl 3 rfl) ?_
  refine lv_aload_n hx hb dL_law_505 rfl (lv_at hl 1 rfl) ?_
  refine lv_iload hx hb dL_law_506 (lv_at hl 6 rfl) ?_
  refine lv_iconst (v := 1) hx hb dL_law_508 (by decide) ?_
  refine lv_iadd hx hb dL_law_509 ?_
  obtain ⟨v5, hv5, hp⟩ := ob hp
  obtain ⟨hin, ev5⟩ := xI_at hv5
  refine va_sld hx hb hX hbl hbA hM.2.2 hin dL_law_510 ?_
  rw [ev5]
  refine lv_aload_n hx hb dL_law_511 rfl (lv_at hl 1 rfl) ?_
  refine lv_iload hx hb dL_law_512 (lv_at hl 6 rfl) ?_
  refine lv_iconst (v := 2) hx hb dL_law_514 (by decide) ?_
  refine lv_iadd hx hb dL_law_515 ?_
  obtain ⟨v6, hv6, hp⟩ := ob hp
  obtain ⟨hin, ev6⟩ := xI_at hv6
  refine va_sld hx hb hX hbl hbA hM.2.2 hin dL_law_516 ?_
  rw [ev6]
  obtain ⟨_, h7, hp⟩ := ob hp
  obtain ⟨v8, M9, hv8, hp⟩ := ob3 hp
  refine mg_V1 (As := [.int v5, .int v6]) (rest := []) C0 cbX7 hM h7 rfl (w_X7_school hG hv8) tw_1467 tw_1468 tw_1469 tw_7 tw_1470 yk_X7_school ⟨⟨rfl, rfl⟩, ⟨by decide, by decide⟩, by omega, by omega⟩ rfl hl.1 (Nat.le_of_ble_eq_true rfl) dL_law_517 rfl (fun H locs hM => ?_)
  refine lv_istore (lv' := [(7, .int v8), (6, .int v3), (0, .ref b), (1, .ref x0), (2, .ref mo), (3, .ref od), (4, .ref od2), (5, .int i0)]) hx hb dL_law_520 hl (by decide) rfl (fun ls hl => ?_)
  refine lv_aload_n hx hb dL_law_522 rfl (lv_at hl 4 rfl) ?_
  obtain ⟨_, h10, hp⟩ := ob hp
  obtain ⟨v11, hv11, hp⟩ := ob hp
  refine mg_V1 (As := []) (rest := []) C0 cbX7 hM h10 rfl (w_X7_thrown hG hv11) tw_1309 tw_1310 tw_1311 tw_7 tw_1312 yk_X7_thrown ⟨⟨rfl, rfl⟩, ⟨by decide, by decide⟩, by omega, by omega⟩ rfl hl.1 (Nat.le_of_ble_eq_true rfl) dL_law_523 rfl (fun H locs hM => ?_)
  refine lv_iload hx hb dL_law_526 (lv_at hl 1 rfl) ?_
  refine lv_icmp_eq (tgt := 533) hx hb dL_law_528 (by decide) (fun c12 => ?_) (fun c12 => ?_)
  · replace hp := oT c12 hp
    refine lv_iload hx hb dL_law_533 (lv_at hl 1 rfl) ?_
    refine lv_if_ne (tgt := 550) hx hb dL_law_535 (by decide) (fun c13 => ?_) (fun c13 => ?_)
    · replace hp := oF c13 hp
      refine lv_goto (tgt := 3302) hx hb dL_law_550 (by decide) ?_
      cases hp
      refine W.widen (k := cells + 8) (n := slots + 48) (by omega) (by omega) ?_
      exact kk H locs ls hM (lv_sub hl [2, 3, 4, 5, 6, 7] rfl)
    · replace hp := oT c13 hp
      refine lv_aload_n hx hb dL_law_538 rfl (lv_at hl 5 rfl) ?_
      refine lv_iconst (v := 0) hx hb dL_law_539 (by decide) ?_
      obtain ⟨v14, hv14, hp⟩ := ob hp
      refine mr_lald C0 hM hv14 dL_law_540 ?_
      refine lv_iload hx hb dL_law_541 (lv_at hl 0 rfl) ?_
      refine lv_i2l (v := (Int32.toInt64 v8)) hx hb dL_law_543 rfl ?_
      refine W.lcmp hx hb dL_law_544 ?_
      refine lv_if_eq (tgt := 550) hx hb dL_law_545 (by decide) (fun c15 => ?_) (fun c15 => ?_)
      · replace hp := oT c15 hp
        refine lv_goto (tgt := 3302) hx hb dL_law_550 (by decide) ?_
        cases hp
        refine W.widen (k := cells + 8) (n := slots + 48) (by omega) (by omega) ?_
        exact kk H locs ls hM (lv_sub hl [2, 3, 4, 5, 6, 7] rfl)
      · replace hp := oF c15 hp
        cases hp
  · replace hp := oF c12 hp
    cases hp
def pk_7 (L : Nat) (xs : Nat → Int32) (x0 mo od od2 : Nat) (i0 : Int32) (M : Mem) : Option Mem :=
  (Option.bind (xI L xs (i0 + (1 : Int32))) fun v1 =>
  (Option.bind (xI L xs (i0 + (2 : Int32))) fun v2 =>
  (ob2 (p_L_rule x0 v1 v2 od M) fun v3 M4 =>
  (Option.bind (xI L xs (i0 + (1 : Int32))) fun v5 =>
  (Option.bind (xI L xs (i0 + (2 : Int32))) fun v6 =>
  (Option.bind (isC 6 M4 mo) fun _ =>
  (ob2 (p_X7_rule mo v5 v6 M4) fun v8 M9 =>
  (Option.bind (isC 6 M9 mo) fun _ =>
  (Option.bind (p_X7_thrown mo M9) fun v11 =>
  (if v11 = v3 then
   (if v3 = 0 then
    (Option.bind (aL M9 od (0 : Int32)) fun v14 =>
    (if (lg_cmp v14 (Int32.toInt64 v8)) = 0 then
     some M9
    else
     none
    )
    )
   else
    some M9
   )
  else
   none
  )
  )
  )
  )
  )
  )
  )
  )
  )
  )
set_option maxHeartbeats 4000000 in
set_option maxRecDepth 100000 in
theorem wk_7 {G : gG} {p : Program} {l : Launch} {e : Env} {s : State} {m : MethodId} {args : Array Value} {below : List Frame} {meth : Method} {c : Code} {A : Nat → Prop} {Z : gZ} {Q : State → Prop} {cells slots b L : Nat} {xs : Nat → Int32} {x0 mo od od2 : Nat} {i0 : Int32} (C0 : cx G p s m args c cL_law RL 10 A) (hG : GOK G) (hZ : GS G Z) (hY : GY G) (hlf : l.stackTraces = false) (hX : va_X b L xs s s.heap) (hbl : b < s.heap.size) (hbA : ¬ A b) (hcs : cells + 8 ≤ room_1.cells ∧ slots + 48 ≤ room_1.slots) {M M' : Mem} {H : Heap} {locs : List Loc} {ls : Array Slot} (hM : mm G A s M H locs) (hl : lv_has ls 10 [(0, .ref b), (1, .ref x0), (2, .ref mo), (3, .ref od), (4, .ref od2), (5, .int i0)]) (hp : pk_7 L xs x0 mo od od2 i0 M = some M') (kk : ∀ (H : Heap) (locs : List Loc) (ls : Array Slot), mm G A s M' H locs → lv_has ls 10 [(0, .ref b), (1, .ref x0), (2, .ref mo), (3, .ref od), (4, .ref od2), (5, .int i0)] → W p l e room_1 s m args below meth c H locs (cells + 8) (slots + 48) Q (F0 m 3302 ls [])) : W p l e room_1 s m args below meth c H locs cells slots Q (F0 m 553 ls []) := by
  have hx := C0.1
  have hb := C0.2.1
  have hown := C0.2.2.2.1
  have hts := C0.2.2.2.2.1
  obtain ⟨hc1, hs1⟩ := hcs
  unfold pk_7 at hp
  refine lv_aload_n hx hb dL_law_553 rfl (lv_at hl 1 rfl) ?_
  refine lv_aload_n hx hb dL_law_554 rfl (lv_at hl 0 rfl) ?_
  refine lv_iload hx hb dL_law_555 (lv_at hl 5 rfl) ?_
  refine lv_iconst (v := 1) hx hb dL_law_557 (by decide) ?_
  refine lv_iadd hx hb dL_law_558 ?_
  obtain ⟨v1, hv1, hp⟩ := ob hp
  obtain ⟨hin, ev1⟩ := xI_at hv1
  refine va_sld hx hb hX hbl hbA hM.2.2 hin dL_law_559 ?_
  rw [ev1]
  refine lv_aload_n hx hb dL_law_560 rfl (lv_at hl 0 rfl) ?_
  refine lv_iload hx hb dL_law_561 (lv_at hl 5 rfl) ?_
  refine lv_iconst (v := 2) hx hb dL_law_563 (by decide) ?_
  refine lv_iadd hx hb dL_law_564 ?_
  obtain ⟨v2, hv2, hp⟩ := ob hp
  obtain ⟨hin, ev2⟩ := xI_at hv2
  refine va_sld hx hb hX hbl hbA hM.2.2 hin dL_law_565 ?_
  rw [ev2]
  refine lv_aload_n hx hb dL_law_566 rfl (lv_at hl 3 rfl) ?_
  obtain ⟨v3, M4, hv3, hp⟩ := ob3 hp
  refine ml_S1 (As := [.ref x0, .int v1, .int v2, .ref od]) (rest := []) C0 hM (w_L_rule hG hY hlf hv3) tw_834 tw_835 tw_0 twh_836 yk_L_rule ⟨⟨rfl, rfl⟩, ⟨by decide, by decide⟩, by omega, by omega⟩ rfl hl.1 (Nat.le_of_ble_eq_true rfl) dL_law_567 rfl (fun H locs hM => ?_)
  refine lv_istore (lv' := [(6, .int v3), (0, .ref b), (1, .ref x0), (2, .ref mo), (3, .ref od), (4, .ref od2), (5, .int i0)]) hx hb dL_law_570 hl (by decide) rfl (fun ls hl => ?_)
  refine lv_aload_n hx hb dL_law_572 rfl (lv_at hl 3 rfl) ?_
  refine lv_aload_n hx hb dL_law_573 rfl (lv_at hl 1 rfl) ?_
  refine lv_iload hx hb dL_law_574 (lv_at hl 6 rfl) ?_
  refine lv_iconst (v := 1) hx hb dL_law_576 (by decide) ?_
  refine lv_iadd hx hb dL_law_577 ?_
  obtain ⟨v5, hv5, hp⟩ := ob hp
  obtain ⟨hin, ev5⟩ := xI_at hv5
  refine va_sld hx hb hX hbl hbA hM.2.2 hin dL_law_578 ?_
  rw [ev5]
  refine lv_aload_n hx hb dL_law_579 rfl (lv_at hl 1 rfl) ?_
  refine lv_iload hx hb dL_law_580 (lv_at hl 6 rfl) ?_
  refine lv_iconst (v := 2) hx hb dL_law_582 (by decide) ?_
  refine lv_iadd hx hb dL_law_583 ?_
  obtain ⟨v6, hv6, hp⟩ := ob hp
  obtain ⟨hin, ev6⟩ := xI_at hv6
  refine va_sld hx hb hX hbl hbA hM.2.2 hin dL_law_584 ?_
  rw [ev6]
  obtain ⟨_, h7, hp⟩ := ob hp
  obtain ⟨v8, M9, hv8, hp⟩ := ob3 hp
  refine mg_V1 (As := [.int v5, .int v6]) (rest := []) C0 cbX7 hM h7 rfl (w_X7_rule hG hv8) tw_1503 tw_1504 tw_1505 tw_7 tw_1506 yk_X7_rule ⟨⟨rfl, rfl⟩, ⟨by decide, by decide⟩, by omega, by omega⟩ rfl hl.1 (Nat.le_of_ble_eq_true rfl) dL_law_585 rfl (fun H locs hM => ?_)
  refine lv_istore (lv' := [(7, .int v8), (6, .int v3), (0, .ref b), (1, .ref x0), (2, .ref mo), (3, .ref od), (4, .ref od2), (5, .int i0)]) hx hb dL_law_588 hl (by decide) rfl (fun ls hl => ?_)
  refine lv_aload_n hx hb dL_law_590 rfl (lv_at hl 4 rfl) ?_
  obtain ⟨_, h10, hp⟩ := ob hp
  obtain ⟨v11, hv11, hp⟩ := ob hp
  refine mg_V1 (As := []) (rest := []) C0 cbX7 hM h10 rfl (w_X7_thrown hG hv11) tw_1309 tw_1310 tw_1311 tw_7 tw_1312 yk_X7_thrown ⟨⟨rfl, rfl⟩, ⟨by decide, by decide⟩, by omega, by omega⟩ rfl hl.1 (Nat.le_of_ble_eq_true rfl) dL_law_591 rfl (fun H locs hM => ?_)
  refine lv_iload hx hb dL_law_594 (lv_at hl 1 rfl) ?_
  refine lv_icmp_eq (tgt := 601) hx hb dL_law_596 (by decide) (fun c12 => ?_) (fun c12 => ?_)
  · replace hp := oT c12 hp
    refine lv_iload hx hb dL_law_601 (lv_at hl 1 rfl) ?_
    refine lv_if_ne (tgt := 618) hx hb dL_law_603 (by decide) (fun c13 => ?_) (fun c13 => ?_)
    · replace hp := oF c13 hp
      refine lv_goto (tgt := 3302) hx hb dL_law_618 (by decide) ?_
      cases hp
      refine W.widen (k := cells + 8) (n := slots + 48) (by omega) (by omega) ?_
      exact kk H locs ls hM (lv_sub hl [2, 3, 4, 5, 6, 7] rfl)
    · replace hp := oT c13 hp
      refine lv_aload_n hx hb dL_law_606 rfl (lv_at hl 5 rfl) ?_
      refine lv_iconst (v := 0) hx hb dL_law_607 (by decide) ?_
      obtain ⟨v14, hv14, hp⟩ := ob hp
      refine mr_lald C0 hM hv14 dL_law_608 ?_
      refine lv_iload hx hb dL_law_609 (lv_at hl 0 rfl) ?_
      refine lv_i2l (v := (Int32.toInt64 v8)) hx hb dL_law_611 rfl ?_
      refine W.lcmp hx hb dL_law_612 ?_
      refine lv_if_eq (tgt := 618) hx hb dL_law_613 (by decide) (fun c15 => ?_) (fun c15 => ?_)
      · replace hp := oT c15 hp
        refine lv_goto (tgt := 3302) hx hb dL_law_618 (by decide) ?_
        cases hp
        refine W.widen (k := cells + 8) (n := slots + 48) (by omega) (by omega) ?_
        exact kk H locs ls hM (lv_sub hl [2, 3, 4, 5, 6, 7] rfl)
      · replace hp := oF c15 hp
        cases hp
  · replace hp := oF c12 hp
    cases hp
def pk_8 (L : Nat) (xs : Nat → Int32) (x0 mo od od2 : Nat) (i0 : Int32) (M : Mem) : Option Mem :=
  (Option.bind (xI L xs (i0 + (1 : Int32))) fun v1 =>
  (Option.bind (xI L xs (i0 + (2 : Int32))) fun v2 =>
  (ob2 (p_L_child x0 v1 v2 od M) fun v3 M4 =>
  (Option.bind (xI L xs (i0 + (1 : Int32))) fun v5 =>
  (Option.bind (xI L xs (i0 + (2 : Int32))) fun v6 =>
  (Option.bind (isC 6 M4 mo) fun _ =>
  (ob2 (p_X7_child mo v5 v6 M4) fun v8 M9 =>
  (Option.bind (isC 6 M9 mo) fun _ =>
  (Option.bind (p_X7_thrown mo M9) fun v11 =>
  (if v11 = v3 then
   (if v3 = 0 then
    (Option.bind (aL M9 od (0 : Int32)) fun v14 =>
    (if (lg_cmp v14 (Int32.toInt64 v8)) = 0 then
     some M9
    else
     none
    )
    )
   else
    some M9
   )
  else
   none
  )
  )
  )
  )
  )
  )
  )
  )
  )
  )
set_option maxHeartbeats 4000000 in
set_option maxRecDepth 100000 in
theorem wk_8 {G : gG} {p : Program} {l : Launch} {e : Env} {s : State} {m : MethodId} {args : Array Value} {below : List Frame} {meth : Method} {c : Code} {A : Nat → Prop} {Z : gZ} {Q : State → Prop} {cells slots b L : Nat} {xs : Nat → Int32} {x0 mo od od2 : Nat} {i0 : Int32} (C0 : cx G p s m args c cL_law RL 10 A) (hG : GOK G) (hZ : GS G Z) (hY : GY G) (hlf : l.stackTraces = false) (hX : va_X b L xs s s.heap) (hbl : b < s.heap.size) (hbA : ¬ A b) (hcs : cells + 8 ≤ room_1.cells ∧ slots + 48 ≤ room_1.slots) {M M' : Mem} {H : Heap} {locs : List Loc} {ls : Array Slot} (hM : mm G A s M H locs) (hl : lv_has ls 10 [(0, .ref b), (1, .ref x0), (2, .ref mo), (3, .ref od), (4, .ref od2), (5, .int i0)]) (hp : pk_8 L xs x0 mo od od2 i0 M = some M') (kk : ∀ (H : Heap) (locs : List Loc) (ls : Array Slot), mm G A s M' H locs → lv_has ls 10 [(0, .ref b), (1, .ref x0), (2, .ref mo), (3, .ref od), (4, .ref od2), (5, .int i0)] → W p l e room_1 s m args below meth c H locs (cells + 8) (slots + 48) Q (F0 m 3302 ls [])) : W p l e room_1 s m args below meth c H locs cells slots Q (F0 m 621 ls []) := by
  have hx := C0.1
  have hb := C0.2.1
  have hown := C0.2.2.2.1
  have hts := C0.2.2.2.2.1
  obtain ⟨hc1, hs1⟩ := hcs
  unfold pk_8 at hp
  refine lv_aload_n hx hb dL_law_621 rfl (lv_at hl 1 rfl) ?_
  refine lv_aload_n hx hb dL_law_622 rfl (lv_at hl 0 rfl) ?_
  refine lv_iload hx hb dL_law_623 (lv_at hl 5 rfl) ?_
  refine lv_iconst (v := 1) hx hb dL_law_625 (by decide) ?_
  refine lv_iadd hx hb dL_law_626 ?_
  obtain ⟨v1, hv1, hp⟩ := ob hp
  obtain ⟨hin, ev1⟩ := xI_at hv1
  refine va_sld hx hb hX hbl hbA hM.2.2 hin dL_law_627 ?_
  rw [ev1]
  refine lv_aload_n hx hb dL_law_628 rfl (lv_at hl 0 rfl) ?_
  refine lv_iload hx hb dL_law_629 (lv_at hl 5 rfl) ?_
  refine lv_iconst (v := 2) hx hb dL_law_631 (by decide) ?_
  refine lv_iadd hx hb dL_law_632 ?_
  obtain ⟨v2, hv2, hp⟩ := ob hp
  obtain ⟨hin, ev2⟩ := xI_at hv2
  refine va_sld hx hb hX hbl hbA hM.2.2 hin dL_law_633 ?_
  rw [ev2]
  refine lv_aload_n hx hb dL_law_634 rfl (lv_at hl 3 rfl) ?_
  obtain ⟨v3, M4, hv3, hp⟩ := ob3 hp
  refine ml_S1 (As := [.ref x0, .int v1, .int v2, .ref od]) (rest := []) C0 hM (w_L_child hG hY hlf hv3) tw_858 tw_859 tw_0 twh_860 yk_L_child ⟨⟨rfl, rfl⟩, ⟨by decide, by decide⟩, by omega, by omega⟩ rfl hl.1 (Nat.le_of_ble_eq_true rfl) dL_law_635 rfl (fun H locs hM => ?_)
  refine lv_istore (lv' := [(6, .int v3), (0, .ref b), (1, .ref x0), (2, .ref mo), (3, .ref od), (4, .ref od2), (5, .int i0)]) hx hb dL_law_638 hl (by decide) rfl (fun ls hl => ?_)
  refine lv_aload_n hx hb dL_law_640 rfl (lv_at hl 3 rfl) ?_
  refine lv_aload_n hx hb dL_law_641 rfl (lv_at hl 1 rfl) ?_
  refine lv_iload hx hb dL_law_642 (lv_at hl 6 rfl) ?_
  refine lv_iconst (v := 1) hx hb dL_law_644 (by decide) ?_
  refine lv_iadd hx hb dL_law_645 ?_
  obtain ⟨v5, hv5, hp⟩ := ob hp
  obtain ⟨hin, ev5⟩ := xI_at hv5
  refine va_sld hx hb hX hbl hbA hM.2.2 hin dL_law_646 ?_
  rw [ev5]
  refine lv_aload_n hx hb dL_law_647 rfl (lv_at hl 1 rfl) ?_
  refine lv_iload hx hb dL_law_648 (lv_at hl 6 rfl) ?_
  refine lv_iconst (v := 2) hx hb dL_law_650 (by decide) ?_
  refine lv_iadd hx hb dL_law_651 ?_
  obtain ⟨v6, hv6, hp⟩ := ob hp
  obtain ⟨hin, ev6⟩ := xI_at hv6
  refine va_sld hx hb hX hbl hbA hM.2.2 hin dL_law_652 ?_
  rw [ev6]
  obtain ⟨_, h7, hp⟩ := ob hp
  obtain ⟨v8, M9, hv8, hp⟩ := ob3 hp
  refine mg_V1 (As := [.int v5, .int v6]) (rest := []) C0 cbX7 hM h7 rfl (w_X7_child hG hv8) tw_1507 tw_1508 tw_1509 tw_7 tw_1510 yk_X7_child ⟨⟨rfl, rfl⟩, ⟨by decide, by decide⟩, by omega, by omega⟩ rfl hl.1 (Nat.le_of_ble_eq_true rfl) dL_law_653 rfl (fun H locs hM => ?_)
  refine lv_istore (lv' := [(7, .int v8), (6, .int v3), (0, .ref b), (1, .ref x0), (2, .ref mo), (3, .ref od), (4, .ref od2), (5, .int i0)]) hx hb dL_law_656 hl (by decide) rfl (fun ls hl => ?_)
  refine lv_aload_n hx hb dL_law_658 rfl (lv_at hl 4 rfl) ?_
  obtain ⟨_, h10, hp⟩ := ob hp
  obtain ⟨v11, hv11, hp⟩ := ob hp
  refine mg_V1 (As := []) (rest := []) C0 cbX7 hM h10 rfl (w_X7_thrown hG hv11) tw_1309 tw_1310 tw_1311 tw_7 tw_1312 yk_X7_thrown ⟨⟨rfl, rfl⟩, ⟨by decide, by decide⟩, by omega, by omega⟩ rfl hl.1 (Nat.le_of_ble_eq_true rfl) dL_law_659 rfl (fun H locs hM => ?_)
  refine lv_iload hx hb dL_law_662 (lv_at hl 1 rfl) ?_
  refine lv_icmp_eq (tgt := 669) hx hb dL_law_664 (by decide) (fun c12 => ?_) (fun c12 => ?_)
  · replace hp := oT c12 hp
    refine lv_iload hx hb dL_law_669 (lv_at hl 1 rfl) ?_
    refine lv_if_ne (tgt := 686) hx hb dL_law_671 (by decide) (fun c13 => ?_) (fun c13 => ?_)
    · replace hp := oF c13 hp
      refine lv_goto (tgt := 3302) hx hb dL_law_686 (by decide) ?_
      cases hp
      refine W.widen (k := cells + 8) (n := slots + 48) (by omega) (by omega) ?_
      exact kk H locs ls hM (lv_sub hl [2, 3, 4, 5, 6, 7] rfl)
    · replace hp := oT c13 hp
      refine lv_aload_n hx hb dL_law_674 rfl (lv_at hl 5 rfl) ?_
      refine lv_iconst (v := 0) hx hb dL_law_675 (by decide) ?_
      obtain ⟨v14, hv14, hp⟩ := ob hp
      refine mr_lald C0 hM hv14 dL_law_676 ?_
      refine lv_iload hx hb dL_law_677 (lv_at hl 0 rfl) ?_
      refine lv_i2l (v := (Int32.toInt64 v8)) hx hb dL_law_679 rfl ?_
      refine W.lcmp hx hb dL_law_680 ?_
      refine lv_if_eq (tgt := 686) hx hb dL_law_681 (by decide) (fun c15 => ?_) (fun c15 => ?_)
      · replace hp := oT c15 hp
        refine lv_goto (tgt := 3302) hx hb dL_law_686 (by decide) ?_
        cases hp
        refine W.widen (k := cells + 8) (n := slots + 48) (by omega) (by omega) ?_
        exact kk H locs ls hM (lv_sub hl [2, 3, 4, 5, 6, 7] rfl)
      · replace hp := oF c15 hp
        cases hp
  · replace hp := oF c12 hp
    cases hp
def pk_9 (L : Nat) (xs : Nat → Int32) (x0 mo od od2 : Nat) (i0 : Int32) (M : Mem) : Option Mem :=
  (Option.bind (xI L xs (i0 + (1 : Int32))) fun v1 =>
  (Option.bind (xI L xs (i0 + (2 : Int32))) fun v2 =>
  (ob2 (p_L_preference x0 v1 v2 od M) fun v3 M4 =>
  (Option.bind (xI L xs (i0 + (1 : Int32))) fun v5 =>
  (Option.bind (xI L xs (i0 + (2 : Int32))) fun v6 =>
  (Option.bind (isC 6 M4 mo) fun _ =>
  (ob2 (p_X7_preference mo v5 v6 M4) fun v8 M9 =>
  (Option.bind (isC 6 M9 mo) fun _ =>
  (Option.bind (p_X7_thrown mo M9) fun v11 =>
  (if v11 = v3 then
   (if v3 = 0 then
    (Option.bind (aL M9 od (0 : Int32)) fun v14 =>
    (if (lg_cmp v14 (Int32.toInt64 v8)) = 0 then
     some M9
    else
     none
    )
    )
   else
    some M9
   )
  else
   none
  )
  )
  )
  )
  )
  )
  )
  )
  )
  )
set_option maxHeartbeats 4000000 in
set_option maxRecDepth 100000 in
theorem wk_9 {G : gG} {p : Program} {l : Launch} {e : Env} {s : State} {m : MethodId} {args : Array Value} {below : List Frame} {meth : Method} {c : Code} {A : Nat → Prop} {Z : gZ} {Q : State → Prop} {cells slots b L : Nat} {xs : Nat → Int32} {x0 mo od od2 : Nat} {i0 : Int32} (C0 : cx G p s m args c cL_law RL 10 A) (hG : GOK G) (hZ : GS G Z) (hY : GY G) (hlf : l.stackTraces = false) (hX : va_X b L xs s s.heap) (hbl : b < s.heap.size) (hbA : ¬ A b) (hcs : cells + 8 ≤ room_1.cells ∧ slots + 48 ≤ room_1.slots) {M M' : Mem} {H : Heap} {locs : List Loc} {ls : Array Slot} (hM : mm G A s M H locs) (hl : lv_has ls 10 [(0, .ref b), (1, .ref x0), (2, .ref mo), (3, .ref od), (4, .ref od2), (5, .int i0)]) (hp : pk_9 L xs x0 mo od od2 i0 M = some M') (kk : ∀ (H : Heap) (locs : List Loc) (ls : Array Slot), mm G A s M' H locs → lv_has ls 10 [(0, .ref b), (1, .ref x0), (2, .ref mo), (3, .ref od), (4, .ref od2), (5, .int i0)] → W p l e room_1 s m args below meth c H locs (cells + 8) (slots + 48) Q (F0 m 3302 ls [])) : W p l e room_1 s m args below meth c H locs cells slots Q (F0 m 689 ls []) := by
  have hx := C0.1
  have hb := C0.2.1
  have hown := C0.2.2.2.1
  have hts := C0.2.2.2.2.1
  obtain ⟨hc1, hs1⟩ := hcs
  unfold pk_9 at hp
  refine lv_aload_n hx hb dL_law_689 rfl (lv_at hl 1 rfl) ?_
  refine lv_aload_n hx hb dL_law_690 rfl (lv_at hl 0 rfl) ?_
  refine lv_iload hx hb dL_law_691 (lv_at hl 5 rfl) ?_
  refine lv_iconst (v := 1) hx hb dL_law_693 (by decide) ?_
  refine lv_iadd hx hb dL_law_694 ?_
  obtain ⟨v1, hv1, hp⟩ := ob hp
  obtain ⟨hin, ev1⟩ := xI_at hv1
  refine va_sld hx hb hX hbl hbA hM.2.2 hin dL_law_695 ?_
  rw [ev1]
  refine lv_aload_n hx hb dL_law_696 rfl (lv_at hl 0 rfl) ?_
  refine lv_iload hx hb dL_law_697 (lv_at hl 5 rfl) ?_
  refine lv_iconst (v := 2) hx hb dL_law_699 (by decide) ?_
  refine lv_iadd hx hb dL_law_700 ?_
  obtain ⟨v2, hv2, hp⟩ := ob hp
  obtain ⟨hin, ev2⟩ := xI_at hv2
  refine va_sld hx hb hX hbl hbA hM.2.2 hin dL_law_701 ?_
  rw [ev2]
  refine lv_aload_n hx hb dL_law_702 rfl (lv_at hl 3 rfl) ?_
  obtain ⟨v3, M4, hv3, hp⟩ := ob3 hp
  refine ml_S1 (As := [.ref x0, .int v1, .int v2, .ref od]) (rest := []) C0 hM (w_L_preference hG hY hlf hv3) tw_872 tw_873 tw_0 twh_874 yk_L_preference ⟨⟨rfl, rfl⟩, ⟨by decide, by decide⟩, by omega, by omega⟩ rfl hl.1 (Nat.le_of_ble_eq_true rfl) dL_law_703 rfl (fun H locs hM => ?_)
  refine lv_istore (lv' := [(6, .int v3), (0, .ref b), (1, .ref x0), (2, .ref mo), (3, .ref od), (4, .ref od2), (5, .int i0)]) hx hb dL_law_706 hl (by decide) rfl (fun ls hl => ?_)
  refine lv_aload_n hx hb dL_law_708 rfl (lv_at hl 3 rfl) ?_
  refine lv_aload_n hx hb dL_law_709 rfl (lv_at hl 1 rfl) ?_
  refine lv_iload hx hb dL_law_710 (lv_at hl 6 rfl) ?_
  refine lv_iconst (v := 1) hx hb dL_law_712 (by decide) ?_
  refine lv_iadd hx hb dL_law_713 ?_
  obtain ⟨v5, hv5, hp⟩ := ob hp
  obtain ⟨hin, ev5⟩ := xI_at hv5
  refine va_sld hx hb hX hbl hbA hM.2.2 hin dL_law_714 ?_
  rw [ev5]
  refine lv_aload_n hx hb dL_law_715 rfl (lv_at hl 1 rfl) ?_
  refine lv_iload hx hb dL_law_716 (lv_at hl 6 rfl) ?_
  refine lv_iconst (v := 2) hx hb dL_law_718 (by decide) ?_
  refine lv_iadd hx hb dL_law_719 ?_
  obtain ⟨v6, hv6, hp⟩ := ob hp
  obtain ⟨hin, ev6⟩ := xI_at hv6
  refine va_sld hx hb hX hbl hbA hM.2.2 hin dL_law_720 ?_
  rw [ev6]
  obtain ⟨_, h7, hp⟩ := ob hp
  obtain ⟨v8, M9, hv8, hp⟩ := ob3 hp
  refine mg_V1 (As := [.int v5, .int v6]) (rest := []) C0 cbX7 hM h7 rfl (w_X7_preference hG hv8) tw_1515 tw_1516 tw_1517 tw_7 tw_1518 yk_X7_preference ⟨⟨rfl, rfl⟩, ⟨by decide, by decide⟩, by omega, by omega⟩ rfl hl.1 (Nat.le_of_ble_eq_true rfl) dL_law_721 rfl (fun H locs hM => ?_)
  refine lv_istore (lv' := [(7, .int v8), (6, .int v3), (0, .ref b), (1, .ref x0), (2, .ref mo), (3, .ref od), (4, .ref od2), (5, .int i0)]) hx hb dL_law_724 hl (by decide) rfl (fun ls hl => ?_)
  refine lv_aload_n hx hb dL_law_726 rfl (lv_at hl 4 rfl) ?_
  obtain ⟨_, h10, hp⟩ := ob hp
  obtain ⟨v11, hv11, hp⟩ := ob hp
  refine mg_V1 (As := []) (rest := []) C0 cbX7 hM h10 rfl (w_X7_thrown hG hv11) tw_1309 tw_1310 tw_1311 tw_7 tw_1312 yk_X7_thrown ⟨⟨rfl, rfl⟩, ⟨by decide, by decide⟩, by omega, by omega⟩ rfl hl.1 (Nat.le_of_ble_eq_true rfl) dL_law_727 rfl (fun H locs hM => ?_)
  refine lv_iload hx hb dL_law_730 (lv_at hl 1 rfl) ?_
  refine lv_icmp_eq (tgt := 737) hx hb dL_law_732 (by decide) (fun c12 => ?_) (fun c12 => ?_)
  · replace hp := oT c12 hp
    refine lv_iload hx hb dL_law_737 (lv_at hl 1 rfl) ?_
    refine lv_if_ne (tgt := 754) hx hb dL_law_739 (by decide) (fun c13 => ?_) (fun c13 => ?_)
    · replace hp := oF c13 hp
      refine lv_goto (tgt := 3302) hx hb dL_law_754 (by decide) ?_
      cases hp
      refine W.widen (k := cells + 8) (n := slots + 48) (by omega) (by omega) ?_
      exact kk H locs ls hM (lv_sub hl [2, 3, 4, 5, 6, 7] rfl)
    · replace hp := oT c13 hp
      refine lv_aload_n hx hb dL_law_742 rfl (lv_at hl 5 rfl) ?_
      refine lv_iconst (v := 0) hx hb dL_law_743 (by decide) ?_
      obtain ⟨v14, hv14, hp⟩ := ob hp
      refine mr_lald C0 hM hv14 dL_law_744 ?_
      refine lv_iload hx hb dL_law_745 (lv_at hl 0 rfl) ?_
      refine lv_i2l (v := (Int32.toInt64 v8)) hx hb dL_law_747 rfl ?_
      refine W.lcmp hx hb dL_law_748 ?_
      refine lv_if_eq (tgt := 754) hx hb dL_law_749 (by decide) (fun c15 => ?_) (fun c15 => ?_)
      · replace hp := oT c15 hp
        refine lv_goto (tgt := 3302) hx hb dL_law_754 (by decide) ?_
        cases hp
        refine W.widen (k := cells + 8) (n := slots + 48) (by omega) (by omega) ?_
        exact kk H locs ls hM (lv_sub hl [2, 3, 4, 5, 6, 7] rfl)
      · replace hp := oF c15 hp
        cases hp
  · replace hp := oF c12 hp
    cases hp
def pk_10 (L : Nat) (xs : Nat → Int32) (x0 mo od od2 : Nat) (i0 : Int32) (M : Mem) : Option Mem :=
  (Option.bind (xI L xs (i0 + (1 : Int32))) fun v1 =>
  (ob2 (p_L_placeOf x0 v1 od M) fun v2 M3 =>
  (Option.bind (xI L xs (i0 + (1 : Int32))) fun v4 =>
  (Option.bind (isC 6 M3 mo) fun _ =>
  (ob2 (p_X7_placeOf mo v4 M3) fun v6 M7 =>
  (Option.bind (isC 6 M7 mo) fun _ =>
  (Option.bind (p_X7_thrown mo M7) fun v9 =>
  (if v9 = v2 then
   (if v2 = 0 then
    (Option.bind (aL M7 od (0 : Int32)) fun v12 =>
    (if (lg_cmp v12 (Int32.toInt64 v6)) = 0 then
     some M7
    else
     none
    )
    )
   else
    some M7
   )
  else
   none
  )
  )
  )
  )
  )
  )
  )
  )
set_option maxHeartbeats 4000000 in
set_option maxRecDepth 100000 in
theorem wk_10 {G : gG} {p : Program} {l : Launch} {e : Env} {s : State} {m : MethodId} {args : Array Value} {below : List Frame} {meth : Method} {c : Code} {A : Nat → Prop} {Z : gZ} {Q : State → Prop} {cells slots b L : Nat} {xs : Nat → Int32} {x0 mo od od2 : Nat} {i0 : Int32} (C0 : cx G p s m args c cL_law RL 10 A) (hG : GOK G) (hZ : GS G Z) (hY : GY G) (hlf : l.stackTraces = false) (hX : va_X b L xs s s.heap) (hbl : b < s.heap.size) (hbA : ¬ A b) (hcs : cells + 8 ≤ room_1.cells ∧ slots + 48 ≤ room_1.slots) {M M' : Mem} {H : Heap} {locs : List Loc} {ls : Array Slot} (hM : mm G A s M H locs) (hl : lv_has ls 10 [(0, .ref b), (1, .ref x0), (2, .ref mo), (3, .ref od), (4, .ref od2), (5, .int i0)]) (hp : pk_10 L xs x0 mo od od2 i0 M = some M') (kk : ∀ (H : Heap) (locs : List Loc) (ls : Array Slot), mm G A s M' H locs → lv_has ls 10 [(0, .ref b), (1, .ref x0), (2, .ref mo), (3, .ref od), (4, .ref od2), (5, .int i0)] → W p l e room_1 s m args below meth c H locs (cells + 8) (slots + 48) Q (F0 m 3302 ls [])) : W p l e room_1 s m args below meth c H locs cells slots Q (F0 m 757 ls []) := by
  have hx := C0.1
  have hb := C0.2.1
  have hown := C0.2.2.2.1
  have hts := C0.2.2.2.2.1
  obtain ⟨hc1, hs1⟩ := hcs
  unfold pk_10 at hp
  refine lv_aload_n hx hb dL_law_757 rfl (lv_at hl 1 rfl) ?_
  refine lv_aload_n hx hb dL_law_758 rfl (lv_at hl 0 rfl) ?_
  refine lv_iload hx hb dL_law_759 (lv_at hl 5 rfl) ?_
  refine lv_iconst (v := 1) hx hb dL_law_761 (by decide) ?_
  refine lv_iadd hx hb dL_law_762 ?_
  obtain ⟨v1, hv1, hp⟩ := ob hp
  obtain ⟨hin, ev1⟩ := xI_at hv1
  refine va_sld hx hb hX hbl hbA hM.2.2 hin dL_law_763 ?_
  rw [ev1]
  refine lv_aload_n hx hb dL_law_764 rfl (lv_at hl 3 rfl) ?_
  obtain ⟨v2, M3, hv2, hp⟩ := ob3 hp
  refine ml_S1 (As := [.ref x0, .int v1, .ref od]) (rest := []) C0 hM (w_L_placeOf hG hY hlf hv2) tw_880 tw_881 tw_0 twh_882 yk_L_placeOf ⟨⟨rfl, rfl⟩, ⟨by decide, by decide⟩, by omega, by omega⟩ rfl hl.1 (Nat.le_of_ble_eq_true rfl) dL_law_765 rfl (fun H locs hM => ?_)
  refine lv_istore (lv' := [(6, .int v2), (0, .ref b), (1, .ref x0), (2, .ref mo), (3, .ref od), (4, .ref od2), (5, .int i0)]) hx hb dL_law_768 hl (by decide) rfl (fun ls hl => ?_)
  refine lv_aload_n hx hb dL_law_770 rfl (lv_at hl 3 rfl) ?_
  refine lv_aload_n hx hb dL_law_771 rfl (lv_at hl 1 rfl) ?_
  refine lv_iload hx hb dL_law_772 (lv_at hl 6 rfl) ?_
  refine lv_iconst (v := 1) hx hb dL_law_774 (by decide) ?_
  refine lv_iadd hx hb dL_law_775 ?_
  obtain ⟨v4, hv4, hp⟩ := ob hp
  obtain ⟨hin, ev4⟩ := xI_at hv4
  refine va_sld hx hb hX hbl hbA hM.2.2 hin dL_law_776 ?_
  rw [ev4]
  obtain ⟨_, h5, hp⟩ := ob hp
  obtain ⟨v6, M7, hv6, hp⟩ := ob3 hp
  refine mg_V1 (As := [.int v4]) (rest := []) C0 cbX7 hM h5 rfl (w_X7_placeOf hG hv6) tw_1519 tw_1520 tw_1521 tw_7 tw_1522 yk_X7_placeOf ⟨⟨rfl, rfl⟩, ⟨by decide, by decide⟩, by omega, by omega⟩ rfl hl.1 (Nat.le_of_ble_eq_true rfl) dL_law_777 rfl (fun H locs hM => ?_)
  refine lv_istore (lv' := [(7, .int v6), (6, .int v2), (0, .ref b), (1, .ref x0), (2, .ref mo), (3, .ref od), (4, .ref od2), (5, .int i0)]) hx hb dL_law_780 hl (by decide) rfl (fun ls hl => ?_)
  refine lv_aload_n hx hb dL_law_782 rfl (lv_at hl 4 rfl) ?_
  obtain ⟨_, h8, hp⟩ := ob hp
  obtain ⟨v9, hv9, hp⟩ := ob hp
  refine mg_V1 (As := []) (rest := []) C0 cbX7 hM h8 rfl (w_X7_thrown hG hv9) tw_1309 tw_1310 tw_1311 tw_7 tw_1312 yk_X7_thrown ⟨⟨rfl, rfl⟩, ⟨by decide, by decide⟩, by omega, by omega⟩ rfl hl.1 (Nat.le_of_ble_eq_true rfl) dL_law_783 rfl (fun H locs hM => ?_)
  refine lv_iload hx hb dL_law_786 (lv_at hl 1 rfl) ?_
  refine lv_icmp_eq (tgt := 793) hx hb dL_law_788 (by decide) (fun c10 => ?_) (fun c10 => ?_)
  · replace hp := oT c10 hp
    refine lv_iload hx hb dL_law_793 (lv_at hl 1 rfl) ?_
    refine lv_if_ne (tgt := 810) hx hb dL_law_795 (by decide) (fun c11 => ?_) (fun c11 => ?_)
    · replace hp := oF c11 hp
      refine lv_goto (tgt := 3302) hx hb dL_law_810 (by decide) ?_
      cases hp
      refine W.widen (k := cells + 8) (n := slots + 48) (by omega) (by omega) ?_
      exact kk H locs ls hM (lv_sub hl [2, 3, 4, 5, 6, 7] rfl)
    · replace hp := oT c11 hp
      refine lv_aload_n hx hb dL_law_798 rfl (lv_at hl 5 rfl) ?_
      refine lv_iconst (v := 0) hx hb dL_law_799 (by decide) ?_
      obtain ⟨v12, hv12, hp⟩ := ob hp
      refine mr_lald C0 hM hv12 dL_law_800 ?_
      refine lv_iload hx hb dL_law_801 (lv_at hl 0 rfl) ?_
      refine lv_i2l (v := (Int32.toInt64 v6)) hx hb dL_law_803 rfl ?_
      refine W.lcmp hx hb dL_law_804 ?_
      refine lv_if_eq (tgt := 810) hx hb dL_law_805 (by decide) (fun c13 => ?_) (fun c13 => ?_)
      · replace hp := oT c13 hp
        refine lv_goto (tgt := 3302) hx hb dL_law_810 (by decide) ?_
        cases hp
        refine W.widen (k := cells + 8) (n := slots + 48) (by omega) (by omega) ?_
        exact kk H locs ls hM (lv_sub hl [2, 3, 4, 5, 6, 7] rfl)
      · replace hp := oF c13 hp
        cases hp
  · replace hp := oF c10 hp
    cases hp
def pk_11 (L : Nat) (xs : Nat → Int32) (x0 mo od od2 : Nat) (i0 : Int32) (M : Mem) : Option Mem :=
  (Option.bind (xI L xs (i0 + (1 : Int32))) fun v1 =>
  (ob2 (p_L_gotPreference x0 v1 od M) fun v2 M3 =>
  (Option.bind (xI L xs (i0 + (1 : Int32))) fun v4 =>
  (Option.bind (isC 6 M3 mo) fun _ =>
  (ob2 (p_X7_gotPreference mo v4 M3) fun v6 M7 =>
  (Option.bind (isC 6 M7 mo) fun _ =>
  (Option.bind (p_X7_thrown mo M7) fun v9 =>
  (if v9 = v2 then
   (if v2 = 0 then
    (Option.bind (aL M7 od (0 : Int32)) fun v12 =>
    (if (lg_cmp v12 (Int32.toInt64 v6)) = 0 then
     some M7
    else
     none
    )
    )
   else
    some M7
   )
  else
   none
  )
  )
  )
  )
  )
  )
  )
  )
set_option maxHeartbeats 4000000 in
set_option maxRecDepth 100000 in
theorem wk_11 {G : gG} {p : Program} {l : Launch} {e : Env} {s : State} {m : MethodId} {args : Array Value} {below : List Frame} {meth : Method} {c : Code} {A : Nat → Prop} {Z : gZ} {Q : State → Prop} {cells slots b L : Nat} {xs : Nat → Int32} {x0 mo od od2 : Nat} {i0 : Int32} (C0 : cx G p s m args c cL_law RL 10 A) (hG : GOK G) (hZ : GS G Z) (hY : GY G) (hlf : l.stackTraces = false) (hX : va_X b L xs s s.heap) (hbl : b < s.heap.size) (hbA : ¬ A b) (hcs : cells + 8 ≤ room_1.cells ∧ slots + 48 ≤ room_1.slots) {M M' : Mem} {H : Heap} {locs : List Loc} {ls : Array Slot} (hM : mm G A s M H locs) (hl : lv_has ls 10 [(0, .ref b), (1, .ref x0), (2, .ref mo), (3, .ref od), (4, .ref od2), (5, .int i0)]) (hp : pk_11 L xs x0 mo od od2 i0 M = some M') (kk : ∀ (H : Heap) (locs : List Loc) (ls : Array Slot), mm G A s M' H locs → lv_has ls 10 [(0, .ref b), (1, .ref x0), (2, .ref mo), (3, .ref od), (4, .ref od2), (5, .int i0)] → W p l e room_1 s m args below meth c H locs (cells + 8) (slots + 48) Q (F0 m 3302 ls [])) : W p l e room_1 s m args below meth c H locs cells slots Q (F0 m 813 ls []) := by
  have hx := C0.1
  have hb := C0.2.1
  have hown := C0.2.2.2.1
  have hts := C0.2.2.2.2.1
  obtain ⟨hc1, hs1⟩ := hcs
  unfold pk_11 at hp
  refine lv_aload_n hx hb dL_law_813 rfl (lv_at hl 1 rfl) ?_
  refine lv_aload_n hx hb dL_law_814 rfl (lv_at hl 0 rfl) ?_
  refine lv_iload hx hb dL_law_815 (lv_at hl 5 rfl) ?_
  refine lv_iconst (v := 1) hx hb dL_law_817 (by decide) ?_
  refine lv_iadd hx hb dL_law_818 ?_
  obtain ⟨v1, hv1, hp⟩ := ob hp
  obtain ⟨hin, ev1⟩ := xI_at hv1
  refine va_sld hx hb hX hbl hbA hM.2.2 hin dL_law_819 ?_
  rw [ev1]
  refine lv_aload_n hx hb dL_law_820 rfl (lv_at hl 3 rfl) ?_
  obtain ⟨v2, M3, hv2, hp⟩ := ob3 hp
  refine ml_S1 (As := [.ref x0, .int v1, .ref od]) (rest := []) C0 hM (w_L_gotPreference hG hY hlf hv2) tw_887 tw_888 tw_0 twh_889 yk_L_gotPreference ⟨⟨rfl, rfl⟩, ⟨by decide, by decide⟩, by omega, by omega⟩ rfl hl.1 (Nat.le_of_ble_eq_true rfl) dL_law_821 rfl (fun H locs hM => ?_)
  refine lv_istore (lv' := [(6, .int v2), (0, .ref b), (1, .ref x0), (2, .ref mo), (3, .ref od), (4, .ref od2), (5, .int i0)]) hx hb dL_law_824 hl (by decide) rfl (fun ls hl => ?_)
  refine lv_aload_n hx hb dL_law_826 rfl (lv_at hl 3 rfl) ?_
  refine lv_aload_n hx hb dL_law_827 rfl (lv_at hl 1 rfl) ?_
  refine lv_iload hx hb dL_law_828 (lv_at hl 6 rfl) ?_
  refine lv_iconst (v := 1) hx hb dL_law_830 (by decide) ?_
  refine lv_iadd hx hb dL_law_831 ?_
  obtain ⟨v4, hv4, hp⟩ := ob hp
  obtain ⟨hin, ev4⟩ := xI_at hv4
  refine va_sld hx hb hX hbl hbA hM.2.2 hin dL_law_832 ?_
  rw [ev4]
  obtain ⟨_, h5, hp⟩ := ob hp
  obtain ⟨v6, M7, hv6, hp⟩ := ob3 hp
  refine mg_V1 (As := [.int v4]) (rest := []) C0 cbX7 hM h5 rfl (w_X7_gotPreference hG hv6) tw_1523 tw_1524 tw_1525 tw_7 tw_1526 yk_X7_gotPreference ⟨⟨rfl, rfl⟩, ⟨by decide, by decide⟩, by omega, by omega⟩ rfl hl.1 (Nat.le_of_ble_eq_true rfl) dL_law_833 rfl (fun H locs hM => ?_)
  refine lv_istore (lv' := [(7, .int v6), (6, .int v2), (0, .ref b), (1, .ref x0), (2, .ref mo), (3, .ref od), (4, .ref od2), (5, .int i0)]) hx hb dL_law_836 hl (by decide) rfl (fun ls hl => ?_)
  refine lv_aload_n hx hb dL_law_838 rfl (lv_at hl 4 rfl) ?_
  obtain ⟨_, h8, hp⟩ := ob hp
  obtain ⟨v9, hv9, hp⟩ := ob hp
  refine mg_V1 (As := []) (rest := []) C0 cbX7 hM h8 rfl (w_X7_thrown hG hv9) tw_1309 tw_1310 tw_1311 tw_7 tw_1312 yk_X7_thrown ⟨⟨rfl, rfl⟩, ⟨by decide, by decide⟩, by omega, by omega⟩ rfl hl.1 (Nat.le_of_ble_eq_true rfl) dL_law_839 rfl (fun H locs hM => ?_)
  refine lv_iload hx hb dL_law_842 (lv_at hl 1 rfl) ?_
  refine lv_icmp_eq (tgt := 849) hx hb dL_law_844 (by decide) (fun c10 => ?_) (fun c10 => ?_)
  · replace hp := oT c10 hp
    refine lv_iload hx hb dL_law_849 (lv_at hl 1 rfl) ?_
    refine lv_if_ne (tgt := 866) hx hb dL_law_851 (by decide) (fun c11 => ?_) (fun c11 => ?_)
    · replace hp := oF c11 hp
      refine lv_goto (tgt := 3302) hx hb dL_law_866 (by decide) ?_
      cases hp
      refine W.widen (k := cells + 8) (n := slots + 48) (by omega) (by omega) ?_
      exact kk H locs ls hM (lv_sub hl [2, 3, 4, 5, 6, 7] rfl)
    · replace hp := oT c11 hp
      refine lv_aload_n hx hb dL_law_854 rfl (lv_at hl 5 rfl) ?_
      refine lv_iconst (v := 0) hx hb dL_law_855 (by decide) ?_
      obtain ⟨v12, hv12, hp⟩ := ob hp
      refine mr_lald C0 hM hv12 dL_law_856 ?_
      refine lv_iload hx hb dL_law_857 (lv_at hl 0 rfl) ?_
      refine lv_i2l (v := (Int32.toInt64 v6)) hx hb dL_law_859 rfl ?_
      refine W.lcmp hx hb dL_law_860 ?_
      refine lv_if_eq (tgt := 866) hx hb dL_law_861 (by decide) (fun c13 => ?_) (fun c13 => ?_)
      · replace hp := oT c13 hp
        refine lv_goto (tgt := 3302) hx hb dL_law_866 (by decide) ?_
        cases hp
        refine W.widen (k := cells + 8) (n := slots + 48) (by omega) (by omega) ?_
        exact kk H locs ls hM (lv_sub hl [2, 3, 4, 5, 6, 7] rfl)
      · replace hp := oF c13 hp
        cases hp
  · replace hp := oF c10 hp
    cases hp
def pk_12 (L : Nat) (xs : Nat → Int32) (x0 mo od od2 : Nat) (i0 : Int32) (M : Mem) : Option Mem :=
  (Option.bind (xI L xs (i0 + (1 : Int32))) fun v1 =>
  (Option.bind (xI L xs (i0 + (2 : Int32))) fun v2 =>
  (Option.bind (xI L xs (i0 + (3 : Int32))) fun v3 =>
  (ob2 (p_L_meets x0 v1 v2 v3 od M) fun v4 M5 =>
  (Option.bind (xI L xs (i0 + (1 : Int32))) fun v6 =>
  (Option.bind (xI L xs (i0 + (2 : Int32))) fun v7 =>
  (Option.bind (xI L xs (i0 + (3 : Int32))) fun v8 =>
  (Option.bind (isC 6 M5 mo) fun _ =>
  (ob2 (p_X7_meets mo v6 v7 v8 M5) fun v10 M11 =>
  (Option.bind (isC 6 M11 mo) fun _ =>
  (Option.bind (p_X7_thrown mo M11) fun v13 =>
  (if v13 = v4 then
   (if v4 = 0 then
    (Option.bind (aL M11 od (0 : Int32)) fun v16 =>
    (jn (fun (s17 : Int64) =>
     (if (lg_cmp v16 s17) = 0 then
      some M11
     else
      none
     )
    ) fun k18 =>
    (if v10 = 0 then
     (k18 (0 : Int64))
    else
     (k18 (1 : Int64))
    )
    )
    )
   else
    some M11
   )
  else
   none
  )
  )
  )
  )
  )
  )
  )
  )
  )
  )
  )
  )
set_option maxHeartbeats 4000000 in
set_option maxRecDepth 100000 in
theorem wk_12 {G : gG} {p : Program} {l : Launch} {e : Env} {s : State} {m : MethodId} {args : Array Value} {below : List Frame} {meth : Method} {c : Code} {A : Nat → Prop} {Z : gZ} {Q : State → Prop} {cells slots b L : Nat} {xs : Nat → Int32} {x0 mo od od2 : Nat} {i0 : Int32} (C0 : cx G p s m args c cL_law RL 10 A) (hG : GOK G) (hZ : GS G Z) (hY : GY G) (hlf : l.stackTraces = false) (hX : va_X b L xs s s.heap) (hbl : b < s.heap.size) (hbA : ¬ A b) (hcs : cells + 8 ≤ room_1.cells ∧ slots + 48 ≤ room_1.slots) {M M' : Mem} {H : Heap} {locs : List Loc} {ls : Array Slot} (hM : mm G A s M H locs) (hl : lv_has ls 10 [(0, .ref b), (1, .ref x0), (2, .ref mo), (3, .ref od), (4, .ref od2), (5, .int i0)]) (hp : pk_12 L xs x0 mo od od2 i0 M = some M') (kk : ∀ (H : Heap) (locs : List Loc) (ls : Array Slot), mm G A s M' H locs → lv_has ls 10 [(0, .ref b), (1, .ref x0), (2, .ref mo), (3, .ref od), (4, .ref od2), (5, .int i0)] → W p l e room_1 s m args below meth c H locs (cells + 8) (slots + 48) Q (F0 m 3302 ls [])) : W p l e room_1 s m args below meth c H locs cells slots Q (F0 m 869 ls []) := by
  have hx := C0.1
  have hb := C0.2.1
  have hown := C0.2.2.2.1
  have hts := C0.2.2.2.2.1
  obtain ⟨hc1, hs1⟩ := hcs
  unfold pk_12 at hp
  refine lv_aload_n hx hb dL_law_869 rfl (lv_at hl 1 rfl) ?_
  refine lv_aload_n hx hb dL_law_870 rfl (lv_at hl 0 rfl) ?_
  refine lv_iload hx hb dL_law_871 (lv_at hl 5 rfl) ?_
  refine lv_iconst (v := 1) hx hb dL_law_873 (by decide) ?_
  refine lv_iadd hx hb dL_law_874 ?_
  obtain ⟨v1, hv1, hp⟩ := ob hp
  obtain ⟨hin, ev1⟩ := xI_at hv1
  refine va_sld hx hb hX hbl hbA hM.2.2 hin dL_law_875 ?_
  rw [ev1]
  refine lv_aload_n hx hb dL_law_876 rfl (lv_at hl 0 rfl) ?_
  refine lv_iload hx hb dL_law_877 (lv_at hl 5 rfl) ?_
  refine lv_iconst (v := 2) hx hb dL_law_879 (by decide) ?_
  refine lv_iadd hx hb dL_law_880 ?_
  obtain ⟨v2, hv2, hp⟩ := ob hp
  obtain ⟨hin, ev2⟩ := xI_at hv2
  refine va_sld hx hb hX hbl hbA hM.2.2 hin dL_law_881 ?_
  rw [ev2]
  refine lv_aload_n hx hb dL_law_882 rfl (lv_at hl 0 rfl) ?_
  refine lv_iload hx hb dL_law_883 (lv_at hl 5 rfl) ?_
  refine lv_iconst (v := 3) hx hb dL_law_885 (by decide) ?_
  refine lv_iadd hx hb dL_law_886 ?_
  obtain ⟨v3, hv3, hp⟩ := ob hp
  obtain ⟨hin, ev3⟩ := xI_at hv3
  refine va_sld hx hb hX hbl hbA hM.2.2 hin dL_law_887 ?_
  rw [ev3]
  refine lv_aload_n hx hb dL_law_888 rfl (lv_at hl 3 rfl) ?_
  obtain ⟨v4, M5, hv4, hp⟩ := ob3 hp
  refine ml_S1 (As := [.ref x0, .int v1, .int v2, .int v3, .ref od]) (rest := []) C0 hM (w_L_meets hG hY hlf hv4) tw_894 tw_895 tw_0 twh_896 yk_L_meets ⟨⟨rfl, rfl⟩, ⟨by decide, by decide⟩, by omega, by omega⟩ rfl hl.1 (Nat.le_of_ble_eq_true rfl) dL_law_889 rfl (fun H locs hM => ?_)
  refine lv_istore (lv' := [(6, .int v4), (0, .ref b), (1, .ref x0), (2, .ref mo), (3, .ref od), (4, .ref od2), (5, .int i0)]) hx hb dL_law_892 hl (by decide) rfl (fun ls hl => ?_)
  refine lv_aload_n hx hb dL_law_894 rfl (lv_at hl 3 rfl) ?_
  refine lv_aload_n hx hb dL_law_895 rfl (lv_at hl 1 rfl) ?_
  refine lv_iload hx hb dL_law_896 (lv_at hl 6 rfl) ?_
  refine lv_iconst (v := 1) hx hb dL_law_898 (by decide) ?_
  refine lv_iadd hx hb dL_law_899 ?_
  obtain ⟨v6, hv6, hp⟩ := ob hp
  obtain ⟨hin, ev6⟩ := xI_at hv6
  refine va_sld hx hb hX hbl hbA hM.2.2 hin dL_law_900 ?_
  rw [ev6]
  refine lv_aload_n hx hb dL_law_901 rfl (lv_at hl 1 rfl) ?_
  refine lv_iload hx hb dL_law_902 (lv_at hl 6 rfl) ?_
  refine lv_iconst (v := 2) hx hb dL_law_904 (by decide) ?_
  refine lv_iadd hx hb dL_law_905 ?_
  obtain ⟨v7, hv7, hp⟩ := ob hp
  obtain ⟨hin, ev7⟩ := xI_at hv7
  refine va_sld hx hb hX hbl hbA hM.2.2 hin dL_law_906 ?_
  rw [ev7]
  refine lv_aload_n hx hb dL_law_907 rfl (lv_at hl 1 rfl) ?_
  refine lv_iload hx hb dL_law_908 (lv_at hl 6 rfl) ?_
  refine lv_iconst (v := 3) hx hb dL_law_910 (by decide) ?_
  refine lv_iadd hx hb dL_law_911 ?_
  obtain ⟨v8, hv8, hp⟩ := ob hp
  obtain ⟨hin, ev8⟩ := xI_at hv8
  refine va_sld hx hb hX hbl hbA hM.2.2 hin dL_law_912 ?_
  rw [ev8]
  obtain ⟨_, h9, hp⟩ := ob hp
  obtain ⟨v10, M11, hv10, hp⟩ := ob3 hp
  refine mg_V1 (As := [.int v6, .int v7, .int v8]) (rest := []) C0 cbX7 hM h9 rfl (w_X7_meets hG hv10) tw_1527 tw_1528 tw_1529 tw_7 tw_1530 yk_X7_meets ⟨⟨rfl, rfl⟩, ⟨by decide, by decide⟩, by omega, by omega⟩ rfl hl.1 (Nat.le_of_ble_eq_true rfl) dL_law_913 rfl (fun H locs hM => ?_)
  refine lv_istore (lv' := [(7, .int v10), (6, .int v4), (0, .ref b), (1, .ref x0), (2, .ref mo), (3, .ref od), (4, .ref od2), (5, .int i0)]) hx hb dL_law_916 hl (by decide) rfl (fun ls hl => ?_)
  refine lv_aload_n hx hb dL_law_918 rfl (lv_at hl 4 rfl) ?_
  obtain ⟨_, h12, hp⟩ := ob hp
  obtain ⟨v13, hv13, hp⟩ := ob hp
  refine mg_V1 (As := []) (rest := []) C0 cbX7 hM h12 rfl (w_X7_thrown hG hv13) tw_1309 tw_1310 tw_1311 tw_7 tw_1312 yk_X7_thrown ⟨⟨rfl, rfl⟩, ⟨by decide, by decide⟩, by omega, by omega⟩ rfl hl.1 (Nat.le_of_ble_eq_true rfl) dL_law_919 rfl (fun H locs hM => ?_)
  refine lv_iload hx hb dL_law_922 (lv_at hl 1 rfl) ?_
  refine lv_icmp_eq (tgt := 929) hx hb dL_law_924 (by decide) (fun c14 => ?_) (fun c14 => ?_)
  · replace hp := oT c14 hp
    refine lv_iload hx hb dL_law_929 (lv_at hl 1 rfl) ?_
    refine lv_if_ne (tgt := 953) hx hb dL_law_931 (by decide) (fun c15 => ?_) (fun c15 => ?_)
    · replace hp := oF c15 hp
      refine lv_goto (tgt := 3302) hx hb dL_law_953 (by decide) ?_
      cases hp
      refine W.widen (k := cells + 8) (n := slots + 48) (by omega) (by omega) ?_
      exact kk H locs ls hM (lv_sub hl [2, 3, 4, 5, 6, 7] rfl)
    · replace hp := oT c15 hp
      refine lv_aload_n hx hb dL_law_934 rfl (lv_at hl 5 rfl) ?_
      refine lv_iconst (v := 0) hx hb dL_law_935 (by decide) ?_
      obtain ⟨v16, hv16, hp⟩ := ob hp
      refine mr_lald C0 hM hv16 dL_law_936 ?_
      refine lv_iload hx hb dL_law_937 (lv_at hl 0 rfl) ?_
      obtain ⟨k18, ek18, hp⟩ := ojn hp
      have hk18 : ∀ (s17 : Int64) (H : Heap) (locs : List Loc) (ls : Array Slot), mm G A s M11 H locs → lv_has ls 10 [(0, .ref b), (1, .ref x0), (2, .ref mo), (3, .ref od), (4, .ref od2), (5, .int i0)] → k18 s17 = some M' → W p l e room_1 s m args below meth c H locs (cells + 3) (slots + 18) Q (F0 m 947 ls [.long s17, .long v16]) := by
        intro s17 H locs ls hM hl hp
        rw [ek18] at hp
        refine W.lcmp hx hb dL_law_947 ?_
        refine lv_if_eq (tgt := 953) hx hb dL_law_948 (by decide) (fun c19 => ?_) (fun c19 => ?_)
        · replace hp := oT c19 hp
          refine lv_goto (tgt := 3302) hx hb dL_law_953 (by decide) ?_
          cases hp
          refine W.widen (k := cells + 8) (n := slots + 48) (by omega) (by omega) ?_
          exact kk H locs ls hM (lv_sub hl [0, 1, 2, 3, 4, 5] rfl)
        · replace hp := oF c19 hp
          cases hp
      refine lv_if_eq (tgt := 946) hx hb dL_law_939 (by decide) (fun c20 => ?_) (fun c20 => ?_)
      · replace hp := oT c20 hp
        refine lv_lconst (v := 0) hx hb dL_law_946 (by decide) ?_
        exact hk18 _ _ _ _ hM (lv_sub hl [2, 3, 4, 5, 6, 7] rfl) hp
      · replace hp := oF c20 hp
        refine lv_lconst (v := 1) hx hb dL_law_942 (by decide) ?_
        refine lv_goto (tgt := 947) hx hb dL_law_943 (by decide) ?_
        exact hk18 _ _ _ _ hM (lv_sub hl [2, 3, 4, 5, 6, 7] rfl) hp
  · replace hp := oF c14 hp
    cases hp
def pk_13 (L : Nat) (xs : Nat → Int32) (x0 mo od od2 : Nat) (i0 : Int32) (M : Mem) : Option Mem :=
  (Option.bind (xI L xs (i0 + (1 : Int32))) fun v1 =>
  (Option.bind (xI L xs (i0 + (2 : Int32))) fun v2 =>
  (ob2 (p_L_classOf x0 v1 v2 od M) fun v3 M4 =>
  (Option.bind (xI L xs (i0 + (1 : Int32))) fun v5 =>
  (Option.bind (xI L xs (i0 + (2 : Int32))) fun v6 =>
  (Option.bind (isC 6 M4 mo) fun _ =>
  (ob2 (p_X7_classOf mo v5 v6 M4) fun v8 M9 =>
  (Option.bind (isC 6 M9 mo) fun _ =>
  (Option.bind (p_X7_thrown mo M9) fun v11 =>
  (if v11 = v3 then
   (if v3 = 0 then
    (Option.bind (aL M9 od (0 : Int32)) fun v14 =>
    (if (lg_cmp v14 (Int32.toInt64 v8)) = 0 then
     some M9
    else
     none
    )
    )
   else
    some M9
   )
  else
   none
  )
  )
  )
  )
  )
  )
  )
  )
  )
  )
set_option maxHeartbeats 4000000 in
set_option maxRecDepth 100000 in
theorem wk_13 {G : gG} {p : Program} {l : Launch} {e : Env} {s : State} {m : MethodId} {args : Array Value} {below : List Frame} {meth : Method} {c : Code} {A : Nat → Prop} {Z : gZ} {Q : State → Prop} {cells slots b L : Nat} {xs : Nat → Int32} {x0 mo od od2 : Nat} {i0 : Int32} (C0 : cx G p s m args c cL_law RL 10 A) (hG : GOK G) (hZ : GS G Z) (hY : GY G) (hlf : l.stackTraces = false) (hX : va_X b L xs s s.heap) (hbl : b < s.heap.size) (hbA : ¬ A b) (hcs : cells + 8 ≤ room_1.cells ∧ slots + 48 ≤ room_1.slots) {M M' : Mem} {H : Heap} {locs : List Loc} {ls : Array Slot} (hM : mm G A s M H locs) (hl : lv_has ls 10 [(0, .ref b), (1, .ref x0), (2, .ref mo), (3, .ref od), (4, .ref od2), (5, .int i0)]) (hp : pk_13 L xs x0 mo od od2 i0 M = some M') (kk : ∀ (H : Heap) (locs : List Loc) (ls : Array Slot), mm G A s M' H locs → lv_has ls 10 [(0, .ref b), (1, .ref x0), (2, .ref mo), (3, .ref od), (4, .ref od2), (5, .int i0)] → W p l e room_1 s m args below meth c H locs (cells + 8) (slots + 48) Q (F0 m 3302 ls [])) : W p l e room_1 s m args below meth c H locs cells slots Q (F0 m 956 ls []) := by
  have hx := C0.1
  have hb := C0.2.1
  have hown := C0.2.2.2.1
  have hts := C0.2.2.2.2.1
  obtain ⟨hc1, hs1⟩ := hcs
  unfold pk_13 at hp
  refine lv_aload_n hx hb dL_law_956 rfl (lv_at hl 1 rfl) ?_
  refine lv_aload_n hx hb dL_law_957 rfl (lv_at hl 0 rfl) ?_
  refine lv_iload hx hb dL_law_958 (lv_at hl 5 rfl) ?_
  refine lv_iconst (v := 1) hx hb dL_law_960 (by decide) ?_
  refine lv_iadd hx hb dL_law_961 ?_
  obtain ⟨v1, hv1, hp⟩ := ob hp
  obtain ⟨hin, ev1⟩ := xI_at hv1
  refine va_sld hx hb hX hbl hbA hM.2.2 hin dL_law_962 ?_
  rw [ev1]
  refine lv_aload_n hx hb dL_law_963 rfl (lv_at hl 0 rfl) ?_
  refine lv_iload hx hb dL_law_964 (lv_at hl 5 rfl) ?_
  refine lv_iconst (v := 2) hx hb dL_law_966 (by decide) ?_
  refine lv_iadd hx hb dL_law_967 ?_
  obtain ⟨v2, hv2, hp⟩ := ob hp
  obtain ⟨hin, ev2⟩ := xI_at hv2
  refine va_sld hx hb hX hbl hbA hM.2.2 hin dL_law_968 ?_
  rw [ev2]
  refine lv_aload_n hx hb dL_law_969 rfl (lv_at hl 3 rfl) ?_
  obtain ⟨v3, M4, hv3, hp⟩ := ob3 hp
  refine ml_S1 (As := [.ref x0, .int v1, .int v2, .ref od]) (rest := []) C0 hM (w_L_classOf hG hY hlf hv3) tw_902 tw_903 tw_0 twh_904 yk_L_classOf ⟨⟨rfl, rfl⟩, ⟨by decide, by decide⟩, by omega, by omega⟩ rfl hl.1 (Nat.le_of_ble_eq_true rfl) dL_law_970 rfl (fun H locs hM => ?_)
  refine lv_istore (lv' := [(6, .int v3), (0, .ref b), (1, .ref x0), (2, .ref mo), (3, .ref od), (4, .ref od2), (5, .int i0)]) hx hb dL_law_973 hl (by decide) rfl (fun ls hl => ?_)
  refine lv_aload_n hx hb dL_law_975 rfl (lv_at hl 3 rfl) ?_
  refine lv_aload_n hx hb dL_law_976 rfl (lv_at hl 1 rfl) ?_
  refine lv_iload hx hb dL_law_977 (lv_at hl 6 rfl) ?_
  refine lv_iconst (v := 1) hx hb dL_law_979 (by decide) ?_
  refine lv_iadd hx hb dL_law_980 ?_
  obtain ⟨v5, hv5, hp⟩ := ob hp
  obtain ⟨hin, ev5⟩ := xI_at hv5
  refine va_sld hx hb hX hbl hbA hM.2.2 hin dL_law_981 ?_
  rw [ev5]
  refine lv_aload_n hx hb dL_law_982 rfl (lv_at hl 1 rfl) ?_
  refine lv_iload hx hb dL_law_983 (lv_at hl 6 rfl) ?_
  refine lv_iconst (v := 2) hx hb dL_law_985 (by decide) ?_
  refine lv_iadd hx hb dL_law_986 ?_
  obtain ⟨v6, hv6, hp⟩ := ob hp
  obtain ⟨hin, ev6⟩ := xI_at hv6
  refine va_sld hx hb hX hbl hbA hM.2.2 hin dL_law_987 ?_
  rw [ev6]
  obtain ⟨_, h7, hp⟩ := ob hp
  obtain ⟨v8, M9, hv8, hp⟩ := ob3 hp
  refine mg_V1 (As := [.int v5, .int v6]) (rest := []) C0 cbX7 hM h7 rfl (w_X7_classOf hG hv8) tw_1547 tw_1548 tw_1549 tw_7 tw_1550 yk_X7_classOf ⟨⟨rfl, rfl⟩, ⟨by decide, by decide⟩, by omega, by omega⟩ rfl hl.1 (Nat.le_of_ble_eq_true rfl) dL_law_988 rfl (fun H locs hM => ?_)
  refine lv_istore (lv' := [(7, .int v8), (6, .int v3), (0, .ref b), (1, .ref x0), (2, .ref mo), (3, .ref od), (4, .ref od2), (5, .int i0)]) hx hb dL_law_991 hl (by decide) rfl (fun ls hl => ?_)
  refine lv_aload_n hx hb dL_law_993 rfl (lv_at hl 4 rfl) ?_
  obtain ⟨_, h10, hp⟩ := ob hp
  obtain ⟨v11, hv11, hp⟩ := ob hp
  refine mg_V1 (As := []) (rest := []) C0 cbX7 hM h10 rfl (w_X7_thrown hG hv11) tw_1309 tw_1310 tw_1311 tw_7 tw_1312 yk_X7_thrown ⟨⟨rfl, rfl⟩, ⟨by decide, by decide⟩, by omega, by omega⟩ rfl hl.1 (Nat.le_of_ble_eq_true rfl) dL_law_994 rfl (fun H locs hM => ?_)
  refine lv_iload hx hb dL_law_997 (lv_at hl 1 rfl) ?_
  refine lv_icmp_eq (tgt := 1004) hx hb dL_law_999 (by decide) (fun c12 => ?_) (fun c12 => ?_)
  · replace hp := oT c12 hp
    refine lv_iload hx hb dL_law_1004 (lv_at hl 1 rfl) ?_
    refine lv_if_ne (tgt := 1021) hx hb dL_law_1006 (by decide) (fun c13 => ?_) (fun c13 => ?_)
    · replace hp := oF c13 hp
      refine lv_goto (tgt := 3302) hx hb dL_law_1021 (by decide) ?_
      cases hp
      refine W.widen (k := cells + 8) (n := slots + 48) (by omega) (by omega) ?_
      exact kk H locs ls hM (lv_sub hl [2, 3, 4, 5, 6, 7] rfl)
    · replace hp := oT c13 hp
      refine lv_aload_n hx hb dL_law_1009 rfl (lv_at hl 5 rfl) ?_
      refine lv_iconst (v := 0) hx hb dL_law_1010 (by decide) ?_
      obtain ⟨v14, hv14, hp⟩ := ob hp
      refine mr_lald C0 hM hv14 dL_law_1011 ?_
      refine lv_iload hx hb dL_law_1012 (lv_at hl 0 rfl) ?_
      refine lv_i2l (v := (Int32.toInt64 v8)) hx hb dL_law_1014 rfl ?_
      refine W.lcmp hx hb dL_law_1015 ?_
      refine lv_if_eq (tgt := 1021) hx hb dL_law_1016 (by decide) (fun c15 => ?_) (fun c15 => ?_)
      · replace hp := oT c15 hp
        refine lv_goto (tgt := 3302) hx hb dL_law_1021 (by decide) ?_
        cases hp
        refine W.widen (k := cells + 8) (n := slots + 48) (by omega) (by omega) ?_
        exact kk H locs ls hM (lv_sub hl [2, 3, 4, 5, 6, 7] rfl)
      · replace hp := oF c15 hp
        cases hp
  · replace hp := oF c12 hp
    cases hp
def pk_14 (L : Nat) (xs : Nat → Int32) (x0 mo od od2 : Nat) (i0 : Int32) (M : Mem) : Option Mem :=
  (Option.bind (xI L xs (i0 + (1 : Int32))) fun v1 =>
  (Option.bind (xI L xs (i0 + (2 : Int32))) fun v2 =>
  (ob2 (p_L_distance x0 v1 v2 od M) fun v3 M4 =>
  (Option.bind (xI L xs (i0 + (1 : Int32))) fun v5 =>
  (Option.bind (xI L xs (i0 + (2 : Int32))) fun v6 =>
  (Option.bind (isC 6 M4 mo) fun _ =>
  (ob2 (p_X7_distance mo v5 v6 M4) fun v8 M9 =>
  (Option.bind (isC 6 M9 mo) fun _ =>
  (Option.bind (p_X7_thrown mo M9) fun v11 =>
  (if v11 = v3 then
   (if v3 = 0 then
    (Option.bind (aL M9 od (0 : Int32)) fun v14 =>
    (if (lg_cmp v14 (Int32.toInt64 v8)) = 0 then
     some M9
    else
     none
    )
    )
   else
    some M9
   )
  else
   none
  )
  )
  )
  )
  )
  )
  )
  )
  )
  )
set_option maxHeartbeats 4000000 in
set_option maxRecDepth 100000 in
theorem wk_14 {G : gG} {p : Program} {l : Launch} {e : Env} {s : State} {m : MethodId} {args : Array Value} {below : List Frame} {meth : Method} {c : Code} {A : Nat → Prop} {Z : gZ} {Q : State → Prop} {cells slots b L : Nat} {xs : Nat → Int32} {x0 mo od od2 : Nat} {i0 : Int32} (C0 : cx G p s m args c cL_law RL 10 A) (hG : GOK G) (hZ : GS G Z) (hY : GY G) (hlf : l.stackTraces = false) (hX : va_X b L xs s s.heap) (hbl : b < s.heap.size) (hbA : ¬ A b) (hcs : cells + 8 ≤ room_1.cells ∧ slots + 48 ≤ room_1.slots) {M M' : Mem} {H : Heap} {locs : List Loc} {ls : Array Slot} (hM : mm G A s M H locs) (hl : lv_has ls 10 [(0, .ref b), (1, .ref x0), (2, .ref mo), (3, .ref od), (4, .ref od2), (5, .int i0)]) (hp : pk_14 L xs x0 mo od od2 i0 M = some M') (kk : ∀ (H : Heap) (locs : List Loc) (ls : Array Slot), mm G A s M' H locs → lv_has ls 10 [(0, .ref b), (1, .ref x0), (2, .ref mo), (3, .ref od), (4, .ref od2), (5, .int i0)] → W p l e room_1 s m args below meth c H locs (cells + 8) (slots + 48) Q (F0 m 3302 ls [])) : W p l e room_1 s m args below meth c H locs cells slots Q (F0 m 1024 ls []) := by
  have hx := C0.1
  have hb := C0.2.1
  have hown := C0.2.2.2.1
  have hts := C0.2.2.2.2.1
  obtain ⟨hc1, hs1⟩ := hcs
  unfold pk_14 at hp
  refine lv_aload_n hx hb dL_law_1024 rfl (lv_at hl 1 rfl) ?_
  refine lv_aload_n hx hb dL_law_1025 rfl (lv_at hl 0 rfl) ?_
  refine lv_iload hx hb dL_law_1026 (lv_at hl 5 rfl) ?_
  refine lv_iconst (v := 1) hx hb dL_law_1028 (by decide) ?_
  refine lv_iadd hx hb dL_law_1029 ?_
  obtain ⟨v1, hv1, hp⟩ := ob hp
  obtain ⟨hin, ev1⟩ := xI_at hv1
  refine va_sld hx hb hX hbl hbA hM.2.2 hin dL_law_1030 ?_
  rw [ev1]
  refine lv_aload_n hx hb dL_law_1031 rfl (lv_at hl 0 rfl) ?_
  refine lv_iload hx hb dL_law_1032 (lv_at hl 5 rfl) ?_
  refine lv_iconst (v := 2) hx hb dL_law_1034 (by decide) ?_
  refine lv_iadd hx hb dL_law_1035 ?_
  obtain ⟨v2, hv2, hp⟩ := ob hp
  obtain ⟨hin, ev2⟩ := xI_at hv2
  refine va_sld hx hb hX hbl hbA hM.2.2 hin dL_law_1036 ?_
  rw [ev2]
  refine lv_aload_n hx hb dL_law_1037 rfl (lv_at hl 3 rfl) ?_
  obtain ⟨v3, M4, hv3, hp⟩ := ob3 hp
  refine ml_S1 (As := [.ref x0, .int v1, .int v2, .ref od]) (rest := []) C0 hM (w_L_distance hG hY hlf hv3) tw_910 tw_911 tw_0 twh_912 yk_L_distance ⟨⟨rfl, rfl⟩, ⟨by decide, by decide⟩, by omega, by omega⟩ rfl hl.1 (Nat.le_of_ble_eq_true rfl) dL_law_1038 rfl (fun H locs hM => ?_)
  refine lv_istore (lv' := [(6, .int v3), (0, .ref b), (1, .ref x0), (2, .ref mo), (3, .ref od), (4, .ref od2), (5, .int i0)]) hx hb dL_law_1041 hl (by decide) rfl (fun ls hl => ?_)
  refine lv_aload_n hx hb dL_law_1043 rfl (lv_at hl 3 rfl) ?_
  refine lv_aload_n hx hb dL_law_1044 rfl (lv_at hl 1 rfl) ?_
  refine lv_iload hx hb dL_law_1045 (lv_at hl 6 rfl) ?_
  refine lv_iconst (v := 1) hx hb dL_law_1047 (by decide) ?_
  refine lv_iadd hx hb dL_law_1048 ?_
  obtain ⟨v5, hv5, hp⟩ := ob hp
  obtain ⟨hin, ev5⟩ := xI_at hv5
  refine va_sld hx hb hX hbl hbA hM.2.2 hin dL_law_1049 ?_
  rw [ev5]
  refine lv_aload_n hx hb dL_law_1050 rfl (lv_at hl 1 rfl) ?_
  refine lv_iload hx hb dL_law_1051 (lv_at hl 6 rfl) ?_
  refine lv_iconst (v := 2) hx hb dL_law_1053 (by decide) ?_
  refine lv_iadd hx hb dL_law_1054 ?_
  obtain ⟨v6, hv6, hp⟩ := ob hp
  obtain ⟨hin, ev6⟩ := xI_at hv6
  refine va_sld hx hb hX hbl hbA hM.2.2 hin dL_law_1055 ?_
  rw [ev6]
  obtain ⟨_, h7, hp⟩ := ob hp
  obtain ⟨v8, M9, hv8, hp⟩ := ob3 hp
  refine mg_V1 (As := [.int v5, .int v6]) (rest := []) C0 cbX7 hM h7 rfl (w_X7_distance hG hv8) tw_1555 tw_1556 tw_1557 tw_7 tw_1558 yk_X7_distance ⟨⟨rfl, rfl⟩, ⟨by decide, by decide⟩, by omega, by omega⟩ rfl hl.1 (Nat.le_of_ble_eq_true rfl) dL_law_1056 rfl (fun H locs hM => ?_)
  refine lv_istore (lv' := [(7, .int v8), (6, .int v3), (0, .ref b), (1, .ref x0), (2, .ref mo), (3, .ref od), (4, .ref od2), (5, .int i0)]) hx hb dL_law_1059 hl (by decide) rfl (fun ls hl => ?_)
  refine lv_aload_n hx hb dL_law_1061 rfl (lv_at hl 4 rfl) ?_
  obtain ⟨_, h10, hp⟩ := ob hp
  obtain ⟨v11, hv11, hp⟩ := ob hp
  refine mg_V1 (As := []) (rest := []) C0 cbX7 hM h10 rfl (w_X7_thrown hG hv11) tw_1309 tw_1310 tw_1311 tw_7 tw_1312 yk_X7_thrown ⟨⟨rfl, rfl⟩, ⟨by decide, by decide⟩, by omega, by omega⟩ rfl hl.1 (Nat.le_of_ble_eq_true rfl) dL_law_1062 rfl (fun H locs hM => ?_)
  refine lv_iload hx hb dL_law_1065 (lv_at hl 1 rfl) ?_
  refine lv_icmp_eq (tgt := 1072) hx hb dL_law_1067 (by decide) (fun c12 => ?_) (fun c12 => ?_)
  · replace hp := oT c12 hp
    refine lv_iload hx hb dL_law_1072 (lv_at hl 1 rfl) ?_
    refine lv_if_ne (tgt := 1089) hx hb dL_law_1074 (by decide) (fun c13 => ?_) (fun c13 => ?_)
    · replace hp := oF c13 hp
      refine lv_goto (tgt := 3302) hx hb dL_law_1089 (by decide) ?_
      cases hp
      refine W.widen (k := cells + 8) (n := slots + 48) (by omega) (by omega) ?_
      exact kk H locs ls hM (lv_sub hl [2, 3, 4, 5, 6, 7] rfl)
    · replace hp := oT c13 hp
      refine lv_aload_n hx hb dL_law_1077 rfl (lv_at hl 5 rfl) ?_
      refine lv_iconst (v := 0) hx hb dL_law_1078 (by decide) ?_
      obtain ⟨v14, hv14, hp⟩ := ob hp
      refine mr_lald C0 hM hv14 dL_law_1079 ?_
      refine lv_iload hx hb dL_law_1080 (lv_at hl 0 rfl) ?_
      refine lv_i2l (v := (Int32.toInt64 v8)) hx hb dL_law_1082 rfl ?_
      refine W.lcmp hx hb dL_law_1083 ?_
      refine lv_if_eq (tgt := 1089) hx hb dL_law_1084 (by decide) (fun c15 => ?_) (fun c15 => ?_)
      · replace hp := oT c15 hp
        refine lv_goto (tgt := 3302) hx hb dL_law_1089 (by decide) ?_
        cases hp
        refine W.widen (k := cells + 8) (n := slots + 48) (by omega) (by omega) ?_
        exact kk H locs ls hM (lv_sub hl [2, 3, 4, 5, 6, 7] rfl)
      · replace hp := oF c15 hp
        cases hp
  · replace hp := oF c12 hp
    cases hp
def pk_15 (L : Nat) (xs : Nat → Int32) (x0 mo od od2 : Nat) (i0 : Int32) (M : Mem) : Option Mem :=
  (Option.bind (xI L xs (i0 + (1 : Int32))) fun v1 =>
  (Option.bind (xI L xs (i0 + (2 : Int32))) fun v2 =>
  (Option.bind (xI L xs (i0 + (3 : Int32))) fun v3 =>
  (ob2 (p_L_comesFirst x0 v1 v2 v3 od M) fun v4 M5 =>
  (Option.bind (xI L xs (i0 + (1 : Int32))) fun v6 =>
  (Option.bind (xI L xs (i0 + (2 : Int32))) fun v7 =>
  (Option.bind (xI L xs (i0 + (3 : Int32))) fun v8 =>
  (Option.bind (isC 6 M5 mo) fun _ =>
  (ob2 (p_X7_comesFirst mo v6 v7 v8 M5) fun v10 M11 =>
  (Option.bind (isC 6 M11 mo) fun _ =>
  (Option.bind (p_X7_thrown mo M11) fun v13 =>
  (if v13 = v4 then
   (if v4 = 0 then
    (Option.bind (aL M11 od (0 : Int32)) fun v16 =>
    (jn (fun (s17 : Int64) =>
     (if (lg_cmp v16 s17) = 0 then
      some M11
     else
      none
     )
    ) fun k18 =>
    (if v10 = 0 then
     (k18 (0 : Int64))
    else
     (k18 (1 : Int64))
    )
    )
    )
   else
    some M11
   )
  else
   none
  )
  )
  )
  )
  )
  )
  )
  )
  )
  )
  )
  )
set_option maxHeartbeats 4000000 in
set_option maxRecDepth 100000 in
theorem wk_15 {G : gG} {p : Program} {l : Launch} {e : Env} {s : State} {m : MethodId} {args : Array Value} {below : List Frame} {meth : Method} {c : Code} {A : Nat → Prop} {Z : gZ} {Q : State → Prop} {cells slots b L : Nat} {xs : Nat → Int32} {x0 mo od od2 : Nat} {i0 : Int32} (C0 : cx G p s m args c cL_law RL 10 A) (hG : GOK G) (hZ : GS G Z) (hY : GY G) (hlf : l.stackTraces = false) (hX : va_X b L xs s s.heap) (hbl : b < s.heap.size) (hbA : ¬ A b) (hcs : cells + 8 ≤ room_1.cells ∧ slots + 48 ≤ room_1.slots) {M M' : Mem} {H : Heap} {locs : List Loc} {ls : Array Slot} (hM : mm G A s M H locs) (hl : lv_has ls 10 [(0, .ref b), (1, .ref x0), (2, .ref mo), (3, .ref od), (4, .ref od2), (5, .int i0)]) (hp : pk_15 L xs x0 mo od od2 i0 M = some M') (kk : ∀ (H : Heap) (locs : List Loc) (ls : Array Slot), mm G A s M' H locs → lv_has ls 10 [(0, .ref b), (1, .ref x0), (2, .ref mo), (3, .ref od), (4, .ref od2), (5, .int i0)] → W p l e room_1 s m args below meth c H locs (cells + 8) (slots + 48) Q (F0 m 3302 ls [])) : W p l e room_1 s m args below meth c H locs cells slots Q (F0 m 1092 ls []) := by
  have hx := C0.1
  have hb := C0.2.1
  have hown := C0.2.2.2.1
  have hts := C0.2.2.2.2.1
  obtain ⟨hc1, hs1⟩ := hcs
  unfold pk_15 at hp
  refine lv_aload_n hx hb dL_law_1092 rfl (lv_at hl 1 rfl) ?_
  refine lv_aload_n hx hb dL_law_1093 rfl (lv_at hl 0 rfl) ?_
  refine lv_iload hx hb dL_law_1094 (lv_at hl 5 rfl) ?_
  refine lv_iconst (v := 1) hx hb dL_law_1096 (by decide) ?_
  refine lv_iadd hx hb dL_law_1097 ?_
  obtain ⟨v1, hv1, hp⟩ := ob hp
  obtain ⟨hin, ev1⟩ := xI_at hv1
  refine va_sld hx hb hX hbl hbA hM.2.2 hin dL_law_1098 ?_
  rw [ev1]
  refine lv_aload_n hx hb dL_law_1099 rfl (lv_at hl 0 rfl) ?_
  refine lv_iload hx hb dL_law_1100 (lv_at hl 5 rfl) ?_
  refine lv_iconst (v := 2) hx hb dL_law_1102 (by decide) ?_
  refine lv_iadd hx hb dL_law_1103 ?_
  obtain ⟨v2, hv2, hp⟩ := ob hp
  obtain ⟨hin, ev2⟩ := xI_at hv2
  refine va_sld hx hb hX hbl hbA hM.2.2 hin dL_law_1104 ?_
  rw [ev2]
  refine lv_aload_n hx hb dL_law_1105 rfl (lv_at hl 0 rfl) ?_
  refine lv_iload hx hb dL_law_1106 (lv_at hl 5 rfl) ?_
  refine lv_iconst (v := 3) hx hb dL_law_1108 (by decide) ?_
  refine lv_iadd hx hb dL_law_1109 ?_
  obtain ⟨v3, hv3, hp⟩ := ob hp
  obtain ⟨hin, ev3⟩ := xI_at hv3
  refine va_sld hx hb hX hbl hbA hM.2.2 hin dL_law_1110 ?_
  rw [ev3]
  refine lv_aload_n hx hb dL_law_1111 rfl (lv_at hl 3 rfl) ?_
  obtain ⟨v4, M5, hv4, hp⟩ := ob3 hp
  refine ml_S1 (As := [.ref x0, .int v1, .int v2, .int v3, .ref od]) (rest := []) C0 hM (w_L_comesFirst hG hY hlf hv4) tw_917 tw_918 tw_0 twh_919 yk_L_comesFirst ⟨⟨rfl, rfl⟩, ⟨by decide, by decide⟩, by omega, by omega⟩ rfl hl.1 (Nat.le_of_ble_eq_true rfl) dL_law_1112 rfl (fun H locs hM => ?_)
  refine lv_istore (lv' := [(6, .int v4), (0, .ref b), (1, .ref x0), (2, .ref mo), (3, .ref od), (4, .ref od2), (5, .int i0)]) hx hb dL_law_1115 hl (by decide) rfl (fun ls hl => ?_)
  refine lv_aload_n hx hb dL_law_1117 rfl (lv_at hl 3 rfl) ?_
  refine lv_aload_n hx hb dL_law_1118 rfl (lv_at hl 1 rfl) ?_
  refine lv_iload hx hb dL_law_1119 (lv_at hl 6 rfl) ?_
  refine lv_iconst (v := 1) hx hb dL_law_1121 (by decide) ?_
  refine lv_iadd hx hb dL_law_1122 ?_
  obtain ⟨v6, hv6, hp⟩ := ob hp
  obtain ⟨hin, ev6⟩ := xI_at hv6
  refine va_sld hx hb hX hbl hbA hM.2.2 hin dL_law_1123 ?_
  rw [ev6]
  refine lv_aload_n hx hb dL_law_1124 rfl (lv_at hl 1 rfl) ?_
  refine lv_iload hx hb dL_law_1125 (lv_at hl 6 rfl) ?_
  refine lv_iconst (v := 2) hx hb dL_law_1127 (by decide) ?_
  refine lv_iadd hx hb dL_law_1128 ?_
  obtain ⟨v7, hv7, hp⟩ := ob hp
  obtain ⟨hin, ev7⟩ := xI_at hv7
  refine va_sld hx hb hX hbl hbA hM.2.2 hin dL_law_1129 ?_
  rw [ev7]
  refine lv_aload_n hx hb dL_law_1130 rfl (lv_at hl 1 rfl) ?_
  refine lv_iload hx hb dL_law_1131 (lv_at hl 6 rfl) ?_
  refine lv_iconst (v := 3) hx hb dL_law_1133 (by decide) ?_
  refine lv_iadd hx hb dL_law_1134 ?_
  obtain ⟨v8, hv8, hp⟩ := ob hp
  obtain ⟨hin, ev8⟩ := xI_at hv8
  refine va_sld hx hb hX hbl hbA hM.2.2 hin dL_law_1135 ?_
  rw [ev8]
  obtain ⟨_, h9, hp⟩ := ob hp
  obtain ⟨v10, M11, hv10, hp⟩ := ob3 hp
  refine mg_V1 (As := [.int v6, .int v7, .int v8]) (rest := []) C0 cbX7 hM h9 rfl (w_X7_comesFirst hG hv10) tw_1563 tw_1564 tw_1565 tw_7 tw_1566 yk_X7_comesFirst ⟨⟨rfl, rfl⟩, ⟨by decide, by decide⟩, by omega, by omega⟩ rfl hl.1 (Nat.le_of_ble_eq_true rfl) dL_law_1136 rfl (fun H locs hM => ?_)
  refine lv_istore (lv' := [(7, .int v10), (6, .int v4), (0, .ref b), (1, .ref x0), (2, .ref mo), (3, .ref od), (4, .ref od2), (5, .int i0)]) hx hb dL_law_1139 hl (by decide) rfl (fun ls hl => ?_)
  refine lv_aload_n hx hb dL_law_1141 rfl (lv_at hl 4 rfl) ?_
  obtain ⟨_, h12, hp⟩ := ob hp
  obtain ⟨v13, hv13, hp⟩ := ob hp
  refine mg_V1 (As := []) (rest := []) C0 cbX7 hM h12 rfl (w_X7_thrown hG hv13) tw_1309 tw_1310 tw_1311 tw_7 tw_1312 yk_X7_thrown ⟨⟨rfl, rfl⟩, ⟨by decide, by decide⟩, by omega, by omega⟩ rfl hl.1 (Nat.le_of_ble_eq_true rfl) dL_law_1142 rfl (fun H locs hM => ?_)
  refine lv_iload hx hb dL_law_1145 (lv_at hl 1 rfl) ?_
  refine lv_icmp_eq (tgt := 1152) hx hb dL_law_1147 (by decide) (fun c14 => ?_) (fun c14 => ?_)
  · replace hp := oT c14 hp
    refine lv_iload hx hb dL_law_1152 (lv_at hl 1 rfl) ?_
    refine lv_if_ne (tgt := 1176) hx hb dL_law_1154 (by decide) (fun c15 => ?_) (fun c15 => ?_)
    · replace hp := oF c15 hp
      refine lv_goto (tgt := 3302) hx hb dL_law_1176 (by decide) ?_
      cases hp
      refine W.widen (k := cells + 8) (n := slots + 48) (by omega) (by omega) ?_
      exact kk H locs ls hM (lv_sub hl [2, 3, 4, 5, 6, 7] rfl)
    · replace hp := oT c15 hp
      refine lv_aload_n hx hb dL_law_1157 rfl (lv_at hl 5 rfl) ?_
      refine lv_iconst (v := 0) hx hb dL_law_1158 (by decide) ?_
      obtain ⟨v16, hv16, hp⟩ := ob hp
      refine mr_lald C0 hM hv16 dL_law_1159 ?_
      refine lv_iload hx hb dL_law_1160 (lv_at hl 0 rfl) ?_
      obtain ⟨k18, ek18, hp⟩ := ojn hp
      have hk18 : ∀ (s17 : Int64) (H : Heap) (locs : List Loc) (ls : Array Slot), mm G A s M11 H locs → lv_has ls 10 [(0, .ref b), (1, .ref x0), (2, .ref mo), (3, .ref od), (4, .ref od2), (5, .int i0)] → k18 s17 = some M' → W p l e room_1 s m args below meth c H locs (cells + 3) (slots + 18) Q (F0 m 1170 ls [.long s17, .long v16]) := by
        intro s17 H locs ls hM hl hp
        rw [ek18] at hp
        refine W.lcmp hx hb dL_law_1170 ?_
        refine lv_if_eq (tgt := 1176) hx hb dL_law_1171 (by decide) (fun c19 => ?_) (fun c19 => ?_)
        · replace hp := oT c19 hp
          refine lv_goto (tgt := 3302) hx hb dL_law_1176 (by decide) ?_
          cases hp
          refine W.widen (k := cells + 8) (n := slots + 48) (by omega) (by omega) ?_
          exact kk H locs ls hM (lv_sub hl [0, 1, 2, 3, 4, 5] rfl)
        · replace hp := oF c19 hp
          cases hp
      refine lv_if_eq (tgt := 1169) hx hb dL_law_1162 (by decide) (fun c20 => ?_) (fun c20 => ?_)
      · replace hp := oT c20 hp
        refine lv_lconst (v := 0) hx hb dL_law_1169 (by decide) ?_
        exact hk18 _ _ _ _ hM (lv_sub hl [2, 3, 4, 5, 6, 7] rfl) hp
      · replace hp := oF c20 hp
        refine lv_lconst (v := 1) hx hb dL_law_1165 (by decide) ?_
        refine lv_goto (tgt := 1170) hx hb dL_law_1166 (by decide) ?_
        exact hk18 _ _ _ _ hM (lv_sub hl [2, 3, 4, 5, 6, 7] rfl) hp
  · replace hp := oF c14 hp
    cases hp
def pk_16 (L : Nat) (xs : Nat → Int32) (x0 mo od od2 : Nat) (i0 : Int32) (M : Mem) : Option Mem :=
  (Option.bind (xI L xs (i0 + (1 : Int32))) fun v1 =>
  (Option.bind (xI L xs (i0 + (2 : Int32))) fun v2 =>
  (ob2 (p_L_holder x0 v1 v2 od M) fun v3 M4 =>
  (Option.bind (xI L xs (i0 + (1 : Int32))) fun v5 =>
  (Option.bind (xI L xs (i0 + (2 : Int32))) fun v6 =>
  (Option.bind (isC 6 M4 mo) fun _ =>
  (ob2 (p_X7_holder mo v5 v6 M4) fun v8 M9 =>
  (Option.bind (isC 6 M9 mo) fun _ =>
  (Option.bind (p_X7_thrown mo M9) fun v11 =>
  (if v11 = v3 then
   (if v3 = 0 then
    (Option.bind (aL M9 od (0 : Int32)) fun v14 =>
    (if (lg_cmp v14 (Int32.toInt64 v8)) = 0 then
     some M9
    else
     none
    )
    )
   else
    some M9
   )
  else
   none
  )
  )
  )
  )
  )
  )
  )
  )
  )
  )
set_option maxHeartbeats 4000000 in
set_option maxRecDepth 100000 in
theorem wk_16 {G : gG} {p : Program} {l : Launch} {e : Env} {s : State} {m : MethodId} {args : Array Value} {below : List Frame} {meth : Method} {c : Code} {A : Nat → Prop} {Z : gZ} {Q : State → Prop} {cells slots b L : Nat} {xs : Nat → Int32} {x0 mo od od2 : Nat} {i0 : Int32} (C0 : cx G p s m args c cL_law RL 10 A) (hG : GOK G) (hZ : GS G Z) (hY : GY G) (hlf : l.stackTraces = false) (hX : va_X b L xs s s.heap) (hbl : b < s.heap.size) (hbA : ¬ A b) (hcs : cells + 8 ≤ room_1.cells ∧ slots + 48 ≤ room_1.slots) {M M' : Mem} {H : Heap} {locs : List Loc} {ls : Array Slot} (hM : mm G A s M H locs) (hl : lv_has ls 10 [(0, .ref b), (1, .ref x0), (2, .ref mo), (3, .ref od), (4, .ref od2), (5, .int i0)]) (hp : pk_16 L xs x0 mo od od2 i0 M = some M') (kk : ∀ (H : Heap) (locs : List Loc) (ls : Array Slot), mm G A s M' H locs → lv_has ls 10 [(0, .ref b), (1, .ref x0), (2, .ref mo), (3, .ref od), (4, .ref od2), (5, .int i0)] → W p l e room_1 s m args below meth c H locs (cells + 8) (slots + 48) Q (F0 m 3302 ls [])) : W p l e room_1 s m args below meth c H locs cells slots Q (F0 m 1179 ls []) := by
  have hx := C0.1
  have hb := C0.2.1
  have hown := C0.2.2.2.1
  have hts := C0.2.2.2.2.1
  obtain ⟨hc1, hs1⟩ := hcs
  unfold pk_16 at hp
  refine lv_aload_n hx hb dL_law_1179 rfl (lv_at hl 1 rfl) ?_
  refine lv_aload_n hx hb dL_law_1180 rfl (lv_at hl 0 rfl) ?_
  refine lv_iload hx hb dL_law_1181 (lv_at hl 5 rfl) ?_
  refine lv_iconst (v := 1) hx hb dL_law_1183 (by decide) ?_
  refine lv_iadd hx hb dL_law_1184 ?_
  obtain ⟨v1, hv1, hp⟩ := ob hp
  obtain ⟨hin, ev1⟩ := xI_at hv1
  refine va_sld hx hb hX hbl hbA hM.2.2 hin dL_law_1185 ?_
  rw [ev1]
  refine lv_aload_n hx hb dL_law_1186 rfl (lv_at hl 0 rfl) ?_
  refine lv_iload hx hb dL_law_1187 (lv_at hl 5 rfl) ?_
  refine lv_iconst (v := 2) hx hb dL_law_1189 (by decide) ?_
  refine lv_iadd hx hb dL_law_1190 ?_
  obtain ⟨v2, hv2, hp⟩ := ob hp
  obtain ⟨hin, ev2⟩ := xI_at hv2
  refine va_sld hx hb hX hbl hbA hM.2.2 hin dL_law_1191 ?_
  rw [ev2]
  refine lv_aload_n hx hb dL_law_1192 rfl (lv_at hl 3 rfl) ?_
  obtain ⟨v3, M4, hv3, hp⟩ := ob3 hp
  refine ml_S1 (As := [.ref x0, .int v1, .int v2, .ref od]) (rest := []) C0 hM (w_L_holder hG hY hlf hv3) tw_925 tw_926 tw_0 twh_927 yk_L_holder ⟨⟨rfl, rfl⟩, ⟨by decide, by decide⟩, by omega, by omega⟩ rfl hl.1 (Nat.le_of_ble_eq_true rfl) dL_law_1193 rfl (fun H locs hM => ?_)
  refine lv_istore (lv' := [(6, .int v3), (0, .ref b), (1, .ref x0), (2, .ref mo), (3, .ref od), (4, .ref od2), (5, .int i0)]) hx hb dL_law_1196 hl (by decide) rfl (fun ls hl => ?_)
  refine lv_aload_n hx hb dL_law_1198 rfl (lv_at hl 3 rfl) ?_
  refine lv_aload_n hx hb dL_law_1199 rfl (lv_at hl 1 rfl) ?_
  refine lv_iload hx hb dL_law_1200 (lv_at hl 6 rfl) ?_
  refine lv_iconst (v := 1) hx hb dL_law_1202 (by decide) ?_
  refine lv_iadd hx hb dL_law_1203 ?_
  obtain ⟨v5, hv5, hp⟩ := ob hp
  obtain ⟨hin, ev5⟩ := xI_at hv5
  refine va_sld hx hb hX hbl hbA hM.2.2 hin dL_law_1204 ?_
  rw [ev5]
  refine lv_aload_n hx hb dL_law_1205 rfl (lv_at hl 1 rfl) ?_
  refine lv_iload hx hb dL_law_1206 (lv_at hl 6 rfl) ?_
  refine lv_iconst (v := 2) hx hb dL_law_1208 (by decide) ?_
  refine lv_iadd hx hb dL_law_1209 ?_
  obtain ⟨v6, hv6, hp⟩ := ob hp
  obtain ⟨hin, ev6⟩ := xI_at hv6
  refine va_sld hx hb hX hbl hbA hM.2.2 hin dL_law_1210 ?_
  rw [ev6]
  obtain ⟨_, h7, hp⟩ := ob hp
  obtain ⟨v8, M9, hv8, hp⟩ := ob3 hp
  refine mg_V1 (As := [.int v5, .int v6]) (rest := []) C0 cbX7 hM h7 rfl (w_X7_holder hG hv8) tw_1571 tw_1572 tw_1573 tw_7 tw_1574 yk_X7_holder ⟨⟨rfl, rfl⟩, ⟨by decide, by decide⟩, by omega, by omega⟩ rfl hl.1 (Nat.le_of_ble_eq_true rfl) dL_law_1211 rfl (fun H locs hM => ?_)
  refine lv_istore (lv' := [(7, .int v8), (6, .int v3), (0, .ref b), (1, .ref x0), (2, .ref mo), (3, .ref od), (4, .ref od2), (5, .int i0)]) hx hb dL_law_1214 hl (by decide) rfl (fun ls hl => ?_)
  refine lv_aload_n hx hb dL_law_1216 rfl (lv_at hl 4 rfl) ?_
  obtain ⟨_, h10, hp⟩ := ob hp
  obtain ⟨v11, hv11, hp⟩ := ob hp
  refine mg_V1 (As := []) (rest := []) C0 cbX7 hM h10 rfl (w_X7_thrown hG hv11) tw_1309 tw_1310 tw_1311 tw_7 tw_1312 yk_X7_thrown ⟨⟨rfl, rfl⟩, ⟨by decide, by decide⟩, by omega, by omega⟩ rfl hl.1 (Nat.le_of_ble_eq_true rfl) dL_law_1217 rfl (fun H locs hM => ?_)
  refine lv_iload hx hb dL_law_1220 (lv_at hl 1 rfl) ?_
  refine lv_icmp_eq (tgt := 1227) hx hb dL_law_1222 (by decide) (fun c12 => ?_) (fun c12 => ?_)
  · replace hp := oT c12 hp
    refine lv_iload hx hb dL_law_1227 (lv_at hl 1 rfl) ?_
    refine lv_if_ne (tgt := 1244) hx hb dL_law_1229 (by decide) (fun c13 => ?_) (fun c13 => ?_)
    · replace hp := oF c13 hp
      refine lv_goto (tgt := 3302) hx hb dL_law_1244 (by decide) ?_
      cases hp
      refine W.widen (k := cells + 8) (n := slots + 48) (by omega) (by omega) ?_
      exact kk H locs ls hM (lv_sub hl [2, 3, 4, 5, 6, 7] rfl)
    · replace hp := oT c13 hp
      refine lv_aload_n hx hb dL_law_1232 rfl (lv_at hl 5 rfl) ?_
      refine lv_iconst (v := 0) hx hb dL_law_1233 (by decide) ?_
      obtain ⟨v14, hv14, hp⟩ := ob hp
      refine mr_lald C0 hM hv14 dL_law_1234 ?_
      refine lv_iload hx hb dL_law_1235 (lv_at hl 0 rfl) ?_
      refine lv_i2l (v := (Int32.toInt64 v8)) hx hb dL_law_1237 rfl ?_
      refine W.lcmp hx hb dL_law_1238 ?_
      refine lv_if_eq (tgt := 1244) hx hb dL_law_1239 (by decide) (fun c15 => ?_) (fun c15 => ?_)
      · replace hp := oT c15 hp
        refine lv_goto (tgt := 3302) hx hb dL_law_1244 (by decide) ?_
        cases hp
        refine W.widen (k := cells + 8) (n := slots + 48) (by omega) (by omega) ?_
        exact kk H locs ls hM (lv_sub hl [2, 3, 4, 5, 6, 7] rfl)
      · replace hp := oF c15 hp
        cases hp
  · replace hp := oF c12 hp
    cases hp
def pk_17 (L : Nat) (xs : Nat → Int32) (x0 mo od od2 : Nat) (i0 : Int32) (M : Mem) : Option Mem :=
  (Option.bind (xI L xs (i0 + (1 : Int32))) fun v1 =>
  (Option.bind (xI L xs (i0 + (2 : Int32))) fun v2 =>
  (ob2 (p_L_waiting x0 v1 v2 od M) fun v3 M4 =>
  (Option.bind (xI L xs (i0 + (1 : Int32))) fun v5 =>
  (Option.bind (xI L xs (i0 + (2 : Int32))) fun v6 =>
  (Option.bind (isC 6 M4 mo) fun _ =>
  (ob2 (p_X7_waiting mo v5 v6 M4) fun v8 M9 =>
  (Option.bind (isC 6 M9 mo) fun _ =>
  (Option.bind (p_X7_thrown mo M9) fun v11 =>
  (if v11 = v3 then
   (if v3 = 0 then
    (Option.bind (aL M9 od (0 : Int32)) fun v14 =>
    (if (lg_cmp v14 (Int32.toInt64 v8)) = 0 then
     some M9
    else
     none
    )
    )
   else
    some M9
   )
  else
   none
  )
  )
  )
  )
  )
  )
  )
  )
  )
  )
set_option maxHeartbeats 4000000 in
set_option maxRecDepth 100000 in
theorem wk_17 {G : gG} {p : Program} {l : Launch} {e : Env} {s : State} {m : MethodId} {args : Array Value} {below : List Frame} {meth : Method} {c : Code} {A : Nat → Prop} {Z : gZ} {Q : State → Prop} {cells slots b L : Nat} {xs : Nat → Int32} {x0 mo od od2 : Nat} {i0 : Int32} (C0 : cx G p s m args c cL_law RL 10 A) (hG : GOK G) (hZ : GS G Z) (hY : GY G) (hlf : l.stackTraces = false) (hX : va_X b L xs s s.heap) (hbl : b < s.heap.size) (hbA : ¬ A b) (hcs : cells + 8 ≤ room_1.cells ∧ slots + 48 ≤ room_1.slots) {M M' : Mem} {H : Heap} {locs : List Loc} {ls : Array Slot} (hM : mm G A s M H locs) (hl : lv_has ls 10 [(0, .ref b), (1, .ref x0), (2, .ref mo), (3, .ref od), (4, .ref od2), (5, .int i0)]) (hp : pk_17 L xs x0 mo od od2 i0 M = some M') (kk : ∀ (H : Heap) (locs : List Loc) (ls : Array Slot), mm G A s M' H locs → lv_has ls 10 [(0, .ref b), (1, .ref x0), (2, .ref mo), (3, .ref od), (4, .ref od2), (5, .int i0)] → W p l e room_1 s m args below meth c H locs (cells + 8) (slots + 48) Q (F0 m 3302 ls [])) : W p l e room_1 s m args below meth c H locs cells slots Q (F0 m 1247 ls []) := by
  have hx := C0.1
  have hb := C0.2.1
  have hown := C0.2.2.2.1
  have hts := C0.2.2.2.2.1
  obtain ⟨hc1, hs1⟩ := hcs
  unfold pk_17 at hp
  refine lv_aload_n hx hb dL_law_1247 rfl (lv_at hl 1 rfl) ?_
  refine lv_aload_n hx hb dL_law_1248 rfl (lv_at hl 0 rfl) ?_
  refine lv_iload hx hb dL_law_1249 (lv_at hl 5 rfl) ?_
  refine lv_iconst (v := 1) hx hb dL_law_1251 (by decide) ?_
  refine lv_iadd hx hb dL_law_1252 ?_
  obtain ⟨v1, hv1, hp⟩ := ob hp
  obtain ⟨hin, ev1⟩ := xI_at hv1
  refine va_sld hx hb hX hbl hbA hM.2.2 hin dL_law_1253 ?_
  rw [ev1]
  refine lv_aload_n hx hb dL_law_1254 rfl (lv_at hl 0 rfl) ?_
  refine lv_iload hx hb dL_law_1255 (lv_at hl 5 rfl) ?_
  refine lv_iconst (v := 2) hx hb dL_law_1257 (by decide) ?_
  refine lv_iadd hx hb dL_law_1258 ?_
  obtain ⟨v2, hv2, hp⟩ := ob hp
  obtain ⟨hin, ev2⟩ := xI_at hv2
  refine va_sld hx hb hX hbl hbA hM.2.2 hin dL_law_1259 ?_
  rw [ev2]
  refine lv_aload_n hx hb dL_law_1260 rfl (lv_at hl 3 rfl) ?_
  obtain ⟨v3, M4, hv3, hp⟩ := ob3 hp
  refine ml_S1 (As := [.ref x0, .int v1, .int v2, .ref od]) (rest := []) C0 hM (w_L_waiting hG hY hlf hv3) tw_941 tw_942 tw_0 twh_943 yk_L_waiting ⟨⟨rfl, rfl⟩, ⟨by decide, by decide⟩, by omega, by omega⟩ rfl hl.1 (Nat.le_of_ble_eq_true rfl) dL_law_1261 rfl (fun H locs hM => ?_)
  refine lv_istore (lv' := [(6, .int v3), (0, .ref b), (1, .ref x0), (2, .ref mo), (3, .ref od), (4, .ref od2), (5, .int i0)]) hx hb dL_law_1264 hl (by decide) rfl (fun ls hl => ?_)
  refine lv_aload_n hx hb dL_law_1266 rfl (lv_at hl 3 rfl) ?_
  refine lv_aload_n hx hb dL_law_1267 rfl (lv_at hl 1 rfl) ?_
  refine lv_iload hx hb dL_law_1268 (lv_at hl 6 rfl) ?_
  refine lv_iconst (v := 1) hx hb dL_law_1270 (by decide) ?_
  refine lv_iadd hx hb dL_law_1271 ?_
  obtain ⟨v5, hv5, hp⟩ := ob hp
  obtain ⟨hin, ev5⟩ := xI_at hv5
  refine va_sld hx hb hX hbl hbA hM.2.2 hin dL_law_1272 ?_
  rw [ev5]
  refine lv_aload_n hx hb dL_law_1273 rfl (lv_at hl 1 rfl) ?_
  refine lv_iload hx hb dL_law_1274 (lv_at hl 6 rfl) ?_
  refine lv_iconst (v := 2) hx hb dL_law_1276 (by decide) ?_
  refine lv_iadd hx hb dL_law_1277 ?_
  obtain ⟨v6, hv6, hp⟩ := ob hp
  obtain ⟨hin, ev6⟩ := xI_at hv6
  refine va_sld hx hb hX hbl hbA hM.2.2 hin dL_law_1278 ?_
  rw [ev6]
  obtain ⟨_, h7, hp⟩ := ob hp
  obtain ⟨v8, M9, hv8, hp⟩ := ob3 hp
  refine mg_V1 (As := [.int v5, .int v6]) (rest := []) C0 cbX7 hM h7 rfl (w_X7_waiting hG hv8) tw_1587 tw_1588 tw_1589 tw_7 tw_1590 yk_X7_waiting ⟨⟨rfl, rfl⟩, ⟨by decide, by decide⟩, by omega, by omega⟩ rfl hl.1 (Nat.le_of_ble_eq_true rfl) dL_law_1279 rfl (fun H locs hM => ?_)
  refine lv_istore (lv' := [(7, .int v8), (6, .int v3), (0, .ref b), (1, .ref x0), (2, .ref mo), (3, .ref od), (4, .ref od2), (5, .int i0)]) hx hb dL_law_1282 hl (by decide) rfl (fun ls hl => ?_)
  refine lv_aload_n hx hb dL_law_1284 rfl (lv_at hl 4 rfl) ?_
  obtain ⟨_, h10, hp⟩ := ob hp
  obtain ⟨v11, hv11, hp⟩ := ob hp
  refine mg_V1 (As := []) (rest := []) C0 cbX7 hM h10 rfl (w_X7_thrown hG hv11) tw_1309 tw_1310 tw_1311 tw_7 tw_1312 yk_X7_thrown ⟨⟨rfl, rfl⟩, ⟨by decide, by decide⟩, by omega, by omega⟩ rfl hl.1 (Nat.le_of_ble_eq_true rfl) dL_law_1285 rfl (fun H locs hM => ?_)
  refine lv_iload hx hb dL_law_1288 (lv_at hl 1 rfl) ?_
  refine lv_icmp_eq (tgt := 1295) hx hb dL_law_1290 (by decide) (fun c12 => ?_) (fun c12 => ?_)
  · replace hp := oT c12 hp
    refine lv_iload hx hb dL_law_1295 (lv_at hl 1 rfl) ?_
    refine lv_if_ne (tgt := 1312) hx hb dL_law_1297 (by decide) (fun c13 => ?_) (fun c13 => ?_)
    · replace hp := oF c13 hp
      refine lv_goto (tgt := 3302) hx hb dL_law_1312 (by decide) ?_
      cases hp
      refine W.widen (k := cells + 8) (n := slots + 48) (by omega) (by omega) ?_
      exact kk H locs ls hM (lv_sub hl [2, 3, 4, 5, 6, 7] rfl)
    · replace hp := oT c13 hp
      refine lv_aload_n hx hb dL_law_1300 rfl (lv_at hl 5 rfl) ?_
      refine lv_iconst (v := 0) hx hb dL_law_1301 (by decide) ?_
      obtain ⟨v14, hv14, hp⟩ := ob hp
      refine mr_lald C0 hM hv14 dL_law_1302 ?_
      refine lv_iload hx hb dL_law_1303 (lv_at hl 0 rfl) ?_
      refine lv_i2l (v := (Int32.toInt64 v8)) hx hb dL_law_1305 rfl ?_
      refine W.lcmp hx hb dL_law_1306 ?_
      refine lv_if_eq (tgt := 1312) hx hb dL_law_1307 (by decide) (fun c15 => ?_) (fun c15 => ?_)
      · replace hp := oT c15 hp
        refine lv_goto (tgt := 3302) hx hb dL_law_1312 (by decide) ?_
        cases hp
        refine W.widen (k := cells + 8) (n := slots + 48) (by omega) (by omega) ?_
        exact kk H locs ls hM (lv_sub hl [2, 3, 4, 5, 6, 7] rfl)
      · replace hp := oF c15 hp
        cases hp
  · replace hp := oF c12 hp
    cases hp
def pk_18 (L : Nat) (xs : Nat → Int32) (x0 mo od od2 : Nat) (i0 : Int32) (M : Mem) : Option Mem :=
  (Option.bind (xI L xs (i0 + (1 : Int32))) fun v1 =>
  (Option.bind (xI L xs (i0 + (2 : Int32))) fun v2 =>
  (ob2 (p_L_waitingPlace x0 v1 v2 od M) fun v3 M4 =>
  (Option.bind (xI L xs (i0 + (1 : Int32))) fun v5 =>
  (Option.bind (xI L xs (i0 + (2 : Int32))) fun v6 =>
  (Option.bind (isC 6 M4 mo) fun _ =>
  (ob2 (p_X7_waitingPlace mo v5 v6 M4) fun v8 M9 =>
  (Option.bind (isC 6 M9 mo) fun _ =>
  (Option.bind (p_X7_thrown mo M9) fun v11 =>
  (if v11 = v3 then
   (if v3 = 0 then
    (Option.bind (aL M9 od (0 : Int32)) fun v14 =>
    (if (lg_cmp v14 (Int32.toInt64 v8)) = 0 then
     some M9
    else
     none
    )
    )
   else
    some M9
   )
  else
   none
  )
  )
  )
  )
  )
  )
  )
  )
  )
  )
set_option maxHeartbeats 4000000 in
set_option maxRecDepth 100000 in
theorem wk_18 {G : gG} {p : Program} {l : Launch} {e : Env} {s : State} {m : MethodId} {args : Array Value} {below : List Frame} {meth : Method} {c : Code} {A : Nat → Prop} {Z : gZ} {Q : State → Prop} {cells slots b L : Nat} {xs : Nat → Int32} {x0 mo od od2 : Nat} {i0 : Int32} (C0 : cx G p s m args c cL_law RL 10 A) (hG : GOK G) (hZ : GS G Z) (hY : GY G) (hlf : l.stackTraces = false) (hX : va_X b L xs s s.heap) (hbl : b < s.heap.size) (hbA : ¬ A b) (hcs : cells + 8 ≤ room_1.cells ∧ slots + 48 ≤ room_1.slots) {M M' : Mem} {H : Heap} {locs : List Loc} {ls : Array Slot} (hM : mm G A s M H locs) (hl : lv_has ls 10 [(0, .ref b), (1, .ref x0), (2, .ref mo), (3, .ref od), (4, .ref od2), (5, .int i0)]) (hp : pk_18 L xs x0 mo od od2 i0 M = some M') (kk : ∀ (H : Heap) (locs : List Loc) (ls : Array Slot), mm G A s M' H locs → lv_has ls 10 [(0, .ref b), (1, .ref x0), (2, .ref mo), (3, .ref od), (4, .ref od2), (5, .int i0)] → W p l e room_1 s m args below meth c H locs (cells + 8) (slots + 48) Q (F0 m 3302 ls [])) : W p l e room_1 s m args below meth c H locs cells slots Q (F0 m 1315 ls []) := by
  have hx := C0.1
  have hb := C0.2.1
  have hown := C0.2.2.2.1
  have hts := C0.2.2.2.2.1
  obtain ⟨hc1, hs1⟩ := hcs
  unfold pk_18 at hp
  refine lv_aload_n hx hb dL_law_1315 rfl (lv_at hl 1 rfl) ?_
  refine lv_aload_n hx hb dL_law_1316 rfl (lv_at hl 0 rfl) ?_
  refine lv_iload hx hb dL_law_1317 (lv_at hl 5 rfl) ?_
  refine lv_iconst (v := 1) hx hb dL_law_1319 (by decide) ?_
  refine lv_iadd hx hb dL_law_1320 ?_
  obtain ⟨v1, hv1, hp⟩ := ob hp
  obtain ⟨hin, ev1⟩ := xI_at hv1
  refine va_sld hx hb hX hbl hbA hM.2.2 hin dL_law_1321 ?_
  rw [ev1]
  refine lv_aload_n hx hb dL_law_1322 rfl (lv_at hl 0 rfl) ?_
  refine lv_iload hx hb dL_law_1323 (lv_at hl 5 rfl) ?_
  refine lv_iconst (v := 2) hx hb dL_law_1325 (by decide) ?_
  refine lv_iadd hx hb dL_law_1326 ?_
  obtain ⟨v2, hv2, hp⟩ := ob hp
  obtain ⟨hin, ev2⟩ := xI_at hv2
  refine va_sld hx hb hX hbl hbA hM.2.2 hin dL_law_1327 ?_
  rw [ev2]
  refine lv_aload_n hx hb dL_law_1328 rfl (lv_at hl 3 rfl) ?_
  obtain ⟨v3, M4, hv3, hp⟩ := ob3 hp
  refine ml_S1 (As := [.ref x0, .int v1, .int v2, .ref od]) (rest := []) C0 hM (w_L_waitingPlace hG hY hlf hv3) tw_949 tw_950 tw_0 twh_951 yk_L_waitingPlace ⟨⟨rfl, rfl⟩, ⟨by decide, by decide⟩, by omega, by omega⟩ rfl hl.1 (Nat.le_of_ble_eq_true rfl) dL_law_1329 rfl (fun H locs hM => ?_)
  refine lv_istore (lv' := [(6, .int v3), (0, .ref b), (1, .ref x0), (2, .ref mo), (3, .ref od), (4, .ref od2), (5, .int i0)]) hx hb dL_law_1332 hl (by decide) rfl (fun ls hl => ?_)
  refine lv_aload_n hx hb dL_law_1334 rfl (lv_at hl 3 rfl) ?_
  refine lv_aload_n hx hb dL_law_1335 rfl (lv_at hl 1 rfl) ?_
  refine lv_iload hx hb dL_law_1336 (lv_at hl 6 rfl) ?_
  refine lv_iconst (v := 1) hx hb dL_law_1338 (by decide) ?_
  refine lv_iadd hx hb dL_law_1339 ?_
  obtain ⟨v5, hv5, hp⟩ := ob hp
  obtain ⟨hin, ev5⟩ := xI_at hv5
  refine va_sld hx hb hX hbl hbA hM.2.2 hin dL_law_1340 ?_
  rw [ev5]
  refine lv_aload_n hx hb dL_law_1341 rfl (lv_at hl 1 rfl) ?_
  refine lv_iload hx hb dL_law_1342 (lv_at hl 6 rfl) ?_
  refine lv_iconst (v := 2) hx hb dL_law_1344 (by decide) ?_
  refine lv_iadd hx hb dL_law_1345 ?_
  obtain ⟨v6, hv6, hp⟩ := ob hp
  obtain ⟨hin, ev6⟩ := xI_at hv6
  refine va_sld hx hb hX hbl hbA hM.2.2 hin dL_law_1346 ?_
  rw [ev6]
  obtain ⟨_, h7, hp⟩ := ob hp
  obtain ⟨v8, M9, hv8, hp⟩ := ob3 hp
  refine mg_V1 (As := [.int v5, .int v6]) (rest := []) C0 cbX7 hM h7 rfl (w_X7_waitingPlace hG hv8) tw_1591 tw_1592 tw_1593 tw_7 tw_1594 yk_X7_waitingPlace ⟨⟨rfl, rfl⟩, ⟨by decide, by decide⟩, by omega, by omega⟩ rfl hl.1 (Nat.le_of_ble_eq_true rfl) dL_law_1347 rfl (fun H locs hM => ?_)
  refine lv_istore (lv' := [(7, .int v8), (6, .int v3), (0, .ref b), (1, .ref x0), (2, .ref mo), (3, .ref od), (4, .ref od2), (5, .int i0)]) hx hb dL_law_1350 hl (by decide) rfl (fun ls hl => ?_)
  refine lv_aload_n hx hb dL_law_1352 rfl (lv_at hl 4 rfl) ?_
  obtain ⟨_, h10, hp⟩ := ob hp
  obtain ⟨v11, hv11, hp⟩ := ob hp
  refine mg_V1 (As := []) (rest := []) C0 cbX7 hM h10 rfl (w_X7_thrown hG hv11) tw_1309 tw_1310 tw_1311 tw_7 tw_1312 yk_X7_thrown ⟨⟨rfl, rfl⟩, ⟨by decide, by decide⟩, by omega, by omega⟩ rfl hl.1 (Nat.le_of_ble_eq_true rfl) dL_law_1353 rfl (fun H locs hM => ?_)
  refine lv_iload hx hb dL_law_1356 (lv_at hl 1 rfl) ?_
  refine lv_icmp_eq (tgt := 1363) hx hb dL_law_1358 (by decide) (fun c12 => ?_) (fun c12 => ?_)
  · replace hp := oT c12 hp
    refine lv_iload hx hb dL_law_1363 (lv_at hl 1 rfl) ?_
    refine lv_if_ne (tgt := 1380) hx hb dL_law_1365 (by decide) (fun c13 => ?_) (fun c13 => ?_)
    · replace hp := oF c13 hp
      refine lv_goto (tgt := 3302) hx hb dL_law_1380 (by decide) ?_
      cases hp
      refine W.widen (k := cells + 8) (n := slots + 48) (by omega) (by omega) ?_
      exact kk H locs ls hM (lv_sub hl [2, 3, 4, 5, 6, 7] rfl)
    · replace hp := oT c13 hp
      refine lv_aload_n hx hb dL_law_1368 rfl (lv_at hl 5 rfl) ?_
      refine lv_iconst (v := 0) hx hb dL_law_1369 (by decide) ?_
      obtain ⟨v14, hv14, hp⟩ := ob hp
      refine mr_lald C0 hM hv14 dL_law_1370 ?_
      refine lv_iload hx hb dL_law_1371 (lv_at hl 0 rfl) ?_
      refine lv_i2l (v := (Int32.toInt64 v8)) hx hb dL_law_1373 rfl ?_
      refine W.lcmp hx hb dL_law_1374 ?_
      refine lv_if_eq (tgt := 1380) hx hb dL_law_1375 (by decide) (fun c15 => ?_) (fun c15 => ?_)
      · replace hp := oT c15 hp
        refine lv_goto (tgt := 3302) hx hb dL_law_1380 (by decide) ?_
        cases hp
        refine W.widen (k := cells + 8) (n := slots + 48) (by omega) (by omega) ?_
        exact kk H locs ls hM (lv_sub hl [2, 3, 4, 5, 6, 7] rfl)
      · replace hp := oF c15 hp
        cases hp
  · replace hp := oF c12 hp
    cases hp
def pk_19 (L : Nat) (xs : Nat → Int32) (x0 mo od od2 : Nat) (i0 : Int32) (M : Mem) : Option Mem :=
  (Option.bind (xI L xs (i0 + (1 : Int32))) fun v1 =>
  (Option.bind (xI L xs (i0 + (2 : Int32))) fun v2 =>
  (ob2 (p_L_hasClaim x0 v1 v2 od M) fun v3 M4 =>
  (Option.bind (xI L xs (i0 + (1 : Int32))) fun v5 =>
  (Option.bind (xI L xs (i0 + (2 : Int32))) fun v6 =>
  (Option.bind (isC 6 M4 mo) fun _ =>
  (ob2 (p_X7_hasClaim mo v5 v6 M4) fun v8 M9 =>
  (Option.bind (isC 6 M9 mo) fun _ =>
  (Option.bind (p_X7_thrown mo M9) fun v11 =>
  (if v11 = v3 then
   (if v3 = 0 then
    (Option.bind (aL M9 od (0 : Int32)) fun v14 =>
    (jn (fun (s15 : Int64) =>
     (if (lg_cmp v14 s15) = 0 then
      some M9
     else
      none
     )
    ) fun k16 =>
    (if v8 = 0 then
     (k16 (0 : Int64))
    else
     (k16 (1 : Int64))
    )
    )
    )
   else
    some M9
   )
  else
   none
  )
  )
  )
  )
  )
  )
  )
  )
  )
  )
set_option maxHeartbeats 4000000 in
set_option maxRecDepth 100000 in
theorem wk_19 {G : gG} {p : Program} {l : Launch} {e : Env} {s : State} {m : MethodId} {args : Array Value} {below : List Frame} {meth : Method} {c : Code} {A : Nat → Prop} {Z : gZ} {Q : State → Prop} {cells slots b L : Nat} {xs : Nat → Int32} {x0 mo od od2 : Nat} {i0 : Int32} (C0 : cx G p s m args c cL_law RL 10 A) (hG : GOK G) (hZ : GS G Z) (hY : GY G) (hlf : l.stackTraces = false) (hX : va_X b L xs s s.heap) (hbl : b < s.heap.size) (hbA : ¬ A b) (hcs : cells + 8 ≤ room_1.cells ∧ slots + 48 ≤ room_1.slots) {M M' : Mem} {H : Heap} {locs : List Loc} {ls : Array Slot} (hM : mm G A s M H locs) (hl : lv_has ls 10 [(0, .ref b), (1, .ref x0), (2, .ref mo), (3, .ref od), (4, .ref od2), (5, .int i0)]) (hp : pk_19 L xs x0 mo od od2 i0 M = some M') (kk : ∀ (H : Heap) (locs : List Loc) (ls : Array Slot), mm G A s M' H locs → lv_has ls 10 [(0, .ref b), (1, .ref x0), (2, .ref mo), (3, .ref od), (4, .ref od2), (5, .int i0)] → W p l e room_1 s m args below meth c H locs (cells + 8) (slots + 48) Q (F0 m 3302 ls [])) : W p l e room_1 s m args below meth c H locs cells slots Q (F0 m 1383 ls []) := by
  have hx := C0.1
  have hb := C0.2.1
  have hown := C0.2.2.2.1
  have hts := C0.2.2.2.2.1
  obtain ⟨hc1, hs1⟩ := hcs
  unfold pk_19 at hp
  refine lv_aload_n hx hb dL_law_1383 rfl (lv_at hl 1 rfl) ?_
  refine lv_aload_n hx hb dL_law_1384 rfl (lv_at hl 0 rfl) ?_
  refine lv_iload hx hb dL_law_1385 (lv_at hl 5 rfl) ?_
  refine lv_iconst (v := 1) hx hb dL_law_1387 (by decide) ?_
  refine lv_iadd hx hb dL_law_1388 ?_
  obtain ⟨v1, hv1, hp⟩ := ob hp
  obtain ⟨hin, ev1⟩ := xI_at hv1
  refine va_sld hx hb hX hbl hbA hM.2.2 hin dL_law_1389 ?_
  rw [ev1]
  refine lv_aload_n hx hb dL_law_1390 rfl (lv_at hl 0 rfl) ?_
  refine lv_iload hx hb dL_law_1391 (lv_at hl 5 rfl) ?_
  refine lv_iconst (v := 2) hx hb dL_law_1393 (by decide) ?_
  refine lv_iadd hx hb dL_law_1394 ?_
  obtain ⟨v2, hv2, hp⟩ := ob hp
  obtain ⟨hin, ev2⟩ := xI_at hv2
  refine va_sld hx hb hX hbl hbA hM.2.2 hin dL_law_1395 ?_
  rw [ev2]
  refine lv_aload_n hx hb dL_law_1396 rfl (lv_at hl 3 rfl) ?_
  obtain ⟨v3, M4, hv3, hp⟩ := ob3 hp
  refine ml_S1 (As := [.ref x0, .int v1, .int v2, .ref od]) (rest := []) C0 hM (w_L_hasClaim hG hY hlf hv3) tw_958 tw_959 tw_0 twh_960 yk_L_hasClaim ⟨⟨rfl, rfl⟩, ⟨by decide, by decide⟩, by omega, by omega⟩ rfl hl.1 (Nat.le_of_ble_eq_true rfl) dL_law_1397 rfl (fun H locs hM => ?_)
  refine lv_istore (lv' := [(6, .int v3), (0, .ref b), (1, .ref x0), (2, .ref mo), (3, .ref od), (4, .ref od2), (5, .int i0)]) hx hb dL_law_1400 hl (by decide) rfl (fun ls hl => ?_)
  refine lv_aload_n hx hb dL_law_1402 rfl (lv_at hl 3 rfl) ?_
  refine lv_aload_n hx hb dL_law_1403 rfl (lv_at hl 1 rfl) ?_
  refine lv_iload hx hb dL_law_1404 (lv_at hl 6 rfl) ?_
  refine lv_iconst (v := 1) hx hb dL_law_1406 (by decide) ?_
  refine lv_iadd hx hb dL_law_1407 ?_
  obtain ⟨v5, hv5, hp⟩ := ob hp
  obtain ⟨hin, ev5⟩ := xI_at hv5
  refine va_sld hx hb hX hbl hbA hM.2.2 hin dL_law_1408 ?_
  rw [ev5]
  refine lv_aload_n hx hb dL_law_1409 rfl (lv_at hl 1 rfl) ?_
  refine lv_iload hx hb dL_law_1410 (lv_at hl 6 rfl) ?_
  refine lv_iconst (v := 2) hx hb dL_law_1412 (by decide) ?_
  refine lv_iadd hx hb dL_law_1413 ?_
  obtain ⟨v6, hv6, hp⟩ := ob hp
  obtain ⟨hin, ev6⟩ := xI_at hv6
  refine va_sld hx hb hX hbl hbA hM.2.2 hin dL_law_1414 ?_
  rw [ev6]
  obtain ⟨_, h7, hp⟩ := ob hp
  obtain ⟨v8, M9, hv8, hp⟩ := ob3 hp
  refine mg_V1 (As := [.int v5, .int v6]) (rest := []) C0 cbX7 hM h7 rfl (w_X7_hasClaim hG hv8) tw_1595 tw_1596 tw_1597 tw_7 tw_1598 yk_X7_hasClaim ⟨⟨rfl, rfl⟩, ⟨by decide, by decide⟩, by omega, by omega⟩ rfl hl.1 (Nat.le_of_ble_eq_true rfl) dL_law_1415 rfl (fun H locs hM => ?_)
  refine lv_istore (lv' := [(7, .int v8), (6, .int v3), (0, .ref b), (1, .ref x0), (2, .ref mo), (3, .ref od), (4, .ref od2), (5, .int i0)]) hx hb dL_law_1418 hl (by decide) rfl (fun ls hl => ?_)
  refine lv_aload_n hx hb dL_law_1420 rfl (lv_at hl 4 rfl) ?_
  obtain ⟨_, h10, hp⟩ := ob hp
  obtain ⟨v11, hv11, hp⟩ := ob hp
  refine mg_V1 (As := []) (rest := []) C0 cbX7 hM h10 rfl (w_X7_thrown hG hv11) tw_1309 tw_1310 tw_1311 tw_7 tw_1312 yk_X7_thrown ⟨⟨rfl, rfl⟩, ⟨by decide, by decide⟩, by omega, by omega⟩ rfl hl.1 (Nat.le_of_ble_eq_true rfl) dL_law_1421 rfl (fun H locs hM => ?_)
  refine lv_iload hx hb dL_law_1424 (lv_at hl 1 rfl) ?_
  refine lv_icmp_eq (tgt := 1431) hx hb dL_law_1426 (by decide) (fun c12 => ?_) (fun c12 => ?_)
  · replace hp := oT c12 hp
    refine lv_iload hx hb dL_law_1431 (lv_at hl 1 rfl) ?_
    refine lv_if_ne (tgt := 1455) hx hb dL_law_1433 (by decide) (fun c13 => ?_) (fun c13 => ?_)
    · replace hp := oF c13 hp
      refine lv_goto (tgt := 3302) hx hb dL_law_1455 (by decide) ?_
      cases hp
      refine W.widen (k := cells + 8) (n := slots + 48) (by omega) (by omega) ?_
      exact kk H locs ls hM (lv_sub hl [2, 3, 4, 5, 6, 7] rfl)
    · replace hp := oT c13 hp
      refine lv_aload_n hx hb dL_law_1436 rfl (lv_at hl 5 rfl) ?_
      refine lv_iconst (v := 0) hx hb dL_law_1437 (by decide) ?_
      obtain ⟨v14, hv14, hp⟩ := ob hp
      refine mr_lald C0 hM hv14 dL_law_1438 ?_
      refine lv_iload hx hb dL_law_1439 (lv_at hl 0 rfl) ?_
      obtain ⟨k16, ek16, hp⟩ := ojn hp
      have hk16 : ∀ (s15 : Int64) (H : Heap) (locs : List Loc) (ls : Array Slot), mm G A s M9 H locs → lv_has ls 10 [(0, .ref b), (1, .ref x0), (2, .ref mo), (3, .ref od), (4, .ref od2), (5, .int i0)] → k16 s15 = some M' → W p l e room_1 s m args below meth c H locs (cells + 2) (slots + 12) Q (F0 m 1449 ls [.long s15, .long v14]) := by
        intro s15 H locs ls hM hl hp
        rw [ek16] at hp
        refine W.lcmp hx hb dL_law_1449 ?_
        refine lv_if_eq (tgt := 1455) hx hb dL_law_1450 (by decide) (fun c17 => ?_) (fun c17 => ?_)
        · replace hp := oT c17 hp
          refine lv_goto (tgt := 3302) hx hb dL_law_1455 (by decide) ?_
          cases hp
          refine W.widen (k := cells + 8) (n := slots + 48) (by omega) (by omega) ?_
          exact kk H locs ls hM (lv_sub hl [0, 1, 2, 3, 4, 5] rfl)
        · replace hp := oF c17 hp
          cases hp
      refine lv_if_eq (tgt := 1448) hx hb dL_law_1441 (by decide) (fun c18 => ?_) (fun c18 => ?_)
      · replace hp := oT c18 hp
        refine lv_lconst (v := 0) hx hb dL_law_1448 (by decide) ?_
        exact hk16 _ _ _ _ hM (lv_sub hl [2, 3, 4, 5, 6, 7] rfl) hp
      · replace hp := oF c18 hp
        refine lv_lconst (v := 1) hx hb dL_law_1444 (by decide) ?_
        refine lv_goto (tgt := 1449) hx hb dL_law_1445 (by decide) ?_
        exact hk16 _ _ _ _ hM (lv_sub hl [2, 3, 4, 5, 6, 7] rfl) hp
  · replace hp := oF c12 hp
    cases hp
def pk_20 (L : Nat) (xs : Nat → Int32) (x0 mo od od2 : Nat) (i0 : Int32) (M : Mem) : Option Mem :=
  (Option.bind (isC 5 M x0) fun _ =>
  (Option.bind (p_X6_claims x0 M) fun v2 =>
  (Option.bind (isC 6 M mo) fun _ =>
  (ob2 (p_X7_claims_ mo M) fun v4 M5 =>
  (if v2 = v4 then
   some M5
  else
   none
  )
  )
  )
  )
  )
set_option maxHeartbeats 4000000 in
set_option maxRecDepth 100000 in
theorem wk_20 {G : gG} {p : Program} {l : Launch} {e : Env} {s : State} {m : MethodId} {args : Array Value} {below : List Frame} {meth : Method} {c : Code} {A : Nat → Prop} {Z : gZ} {Q : State → Prop} {cells slots b L : Nat} {xs : Nat → Int32} {x0 mo od od2 : Nat} {i0 : Int32} (C0 : cx G p s m args c cL_law RL 10 A) (hG : GOK G) (hZ : GS G Z) (hY : GY G) (hlf : l.stackTraces = false) (hX : va_X b L xs s s.heap) (hbl : b < s.heap.size) (hbA : ¬ A b) (hcs : cells + 8 ≤ room_1.cells ∧ slots + 48 ≤ room_1.slots) {M M' : Mem} {H : Heap} {locs : List Loc} {ls : Array Slot} (hM : mm G A s M H locs) (hl : lv_has ls 10 [(0, .ref b), (1, .ref x0), (2, .ref mo), (3, .ref od), (4, .ref od2), (5, .int i0)]) (hp : pk_20 L xs x0 mo od od2 i0 M = some M') (kk : ∀ (H : Heap) (locs : List Loc) (ls : Array Slot), mm G A s M' H locs → lv_has ls 10 [(0, .ref b), (1, .ref x0), (2, .ref mo), (3, .ref od), (4, .ref od2), (5, .int i0)] → W p l e room_1 s m args below meth c H locs (cells + 8) (slots + 48) Q (F0 m 3302 ls [])) : W p l e room_1 s m args below meth c H locs cells slots Q (F0 m 1458 ls []) := by
  have hx := C0.1
  have hb := C0.2.1
  have hown := C0.2.2.2.1
  have hts := C0.2.2.2.2.1
  obtain ⟨hc1, hs1⟩ := hcs
  unfold pk_20 at hp
  refine lv_aload_n hx hb dL_law_1458 rfl (lv_at hl 1 rfl) ?_
  obtain ⟨_, h1, hp⟩ := ob hp
  obtain ⟨v2, hv2, hp⟩ := ob hp
  refine mg_V1 (As := []) (rest := []) C0 cbX6 hM h1 rfl (w_X6_claims hG hv2) tw_534 tw_535 tw_536 tw_1 tw_537 yk_X6_claims ⟨⟨rfl, rfl⟩, ⟨by decide, by decide⟩, by omega, by omega⟩ rfl hl.1 (Nat.le_of_ble_eq_true rfl) dL_law_1459 rfl (fun H locs hM => ?_)
  refine lv_aload_n hx hb dL_law_1462 rfl (lv_at hl 2 rfl) ?_
  obtain ⟨_, h3, hp⟩ := ob hp
  obtain ⟨v4, M5, hv4, hp⟩ := ob3 hp
  refine mg_V1 (As := []) (rest := [.int v2]) C0 cbX7 hM h3 rfl (w_X7_claims_ hG hv4) tw_1603 tw_1604 tw_1605 tw_7 tw_1606 yk_X7_claims_ ⟨⟨rfl, rfl⟩, ⟨by decide, by decide⟩, by omega, by omega⟩ rfl hl.1 (Nat.le_of_ble_eq_true rfl) dL_law_1463 rfl (fun H locs hM => ?_)
  refine lv_icmp_eq (tgt := 3302) hx hb dL_law_1466 (by decide) (fun c6 => ?_) (fun c6 => ?_)
  · replace hp := oT c6 hp
    cases hp
    refine W.widen (k := cells + 8) (n := slots + 48) (by omega) (by omega) ?_
    exact kk H locs ls hM (lv_sub hl [0, 1, 2, 3, 4, 5] rfl)
  · replace hp := oF c6 hp
    cases hp
def pk_21 (L : Nat) (xs : Nat → Int32) (x0 mo od od2 : Nat) (i0 : Int32) (M : Mem) : Option Mem :=
  (Option.bind (isC 5 M x0) fun _ =>
  (ob2 (p_X6_allocate x0 M) fun v2 M3 =>
  (Option.bind (isC 6 M3 mo) fun _ =>
  (ob2 (p_X7_allocate mo M3) fun v5 M6 =>
  (if v2 = v5 then
   some M6
  else
   none
  )
  )
  )
  )
  )
set_option maxHeartbeats 4000000 in
set_option maxRecDepth 100000 in
theorem wk_21 {G : gG} {p : Program} {l : Launch} {e : Env} {s : State} {m : MethodId} {args : Array Value} {below : List Frame} {meth : Method} {c : Code} {A : Nat → Prop} {Z : gZ} {Q : State → Prop} {cells slots b L : Nat} {xs : Nat → Int32} {x0 mo od od2 : Nat} {i0 : Int32} (C0 : cx G p s m args c cL_law RL 10 A) (hG : GOK G) (hZ : GS G Z) (hY : GY G) (hlf : l.stackTraces = false) (hX : va_X b L xs s s.heap) (hbl : b < s.heap.size) (hbA : ¬ A b) (hcs : cells + 8 ≤ room_1.cells ∧ slots + 48 ≤ room_1.slots) {M M' : Mem} {H : Heap} {locs : List Loc} {ls : Array Slot} (hM : mm G A s M H locs) (hl : lv_has ls 10 [(0, .ref b), (1, .ref x0), (2, .ref mo), (3, .ref od), (4, .ref od2), (5, .int i0)]) (hp : pk_21 L xs x0 mo od od2 i0 M = some M') (kk : ∀ (H : Heap) (locs : List Loc) (ls : Array Slot), mm G A s M' H locs → lv_has ls 10 [(0, .ref b), (1, .ref x0), (2, .ref mo), (3, .ref od), (4, .ref od2), (5, .int i0)] → W p l e room_1 s m args below meth c H locs (cells + 8) (slots + 48) Q (F0 m 3302 ls [])) : W p l e room_1 s m args below meth c H locs cells slots Q (F0 m 1471 ls []) := by
  have hx := C0.1
  have hb := C0.2.1
  have hown := C0.2.2.2.1
  have hts := C0.2.2.2.2.1
  obtain ⟨hc1, hs1⟩ := hcs
  unfold pk_21 at hp
  refine lv_aload_n hx hb dL_law_1471 rfl (lv_at hl 1 rfl) ?_
  obtain ⟨_, h1, hp⟩ := ob hp
  obtain ⟨v2, M3, hv2, hp⟩ := ob3 hp
  refine mg_V1 (As := []) (rest := []) C0 cbX6 hM h1 rfl (w_X6_allocate hG hv2) tw_582 tw_583 tw_584 tw_1 tw_585 yk_X6_allocate ⟨⟨rfl, rfl⟩, ⟨by decide, by decide⟩, by omega, by omega⟩ rfl hl.1 (Nat.le_of_ble_eq_true rfl) dL_law_1472 rfl (fun H locs hM => ?_)
  refine lv_aload_n hx hb dL_law_1475 rfl (lv_at hl 2 rfl) ?_
  obtain ⟨_, h4, hp⟩ := ob hp
  obtain ⟨v5, M6, hv5, hp⟩ := ob3 hp
  refine mg_V1 (As := []) (rest := [.int v2]) C0 cbX7 hM h4 rfl (w_X7_allocate hG hv5) tw_1607 tw_1608 tw_1609 tw_7 tw_1610 yk_X7_allocate ⟨⟨rfl, rfl⟩, ⟨by decide, by decide⟩, by omega, by omega⟩ rfl hl.1 (Nat.le_of_ble_eq_true rfl) dL_law_1476 rfl (fun H locs hM => ?_)
  refine lv_icmp_eq (tgt := 3302) hx hb dL_law_1479 (by decide) (fun c7 => ?_) (fun c7 => ?_)
  · replace hp := oT c7 hp
    cases hp
    refine W.widen (k := cells + 8) (n := slots + 48) (by omega) (by omega) ?_
    exact kk H locs ls hM (lv_sub hl [0, 1, 2, 3, 4, 5] rfl)
  · replace hp := oF c7 hp
    cases hp
def pk_22 (L : Nat) (xs : Nat → Int32) (x0 mo od od2 : Nat) (i0 : Int32) (M : Mem) : Option Mem :=
  (Option.bind (xI L xs (i0 + (1 : Int32))) fun v1 =>
  (ob2 (p_L_roundOf x0 v1 od M) fun v2 M3 =>
  (Option.bind (xI L xs (i0 + (1 : Int32))) fun v4 =>
  (Option.bind (isC 6 M3 mo) fun _ =>
  (ob2 (p_X7_roundOf mo v4 M3) fun v6 M7 =>
  (Option.bind (isC 6 M7 mo) fun _ =>
  (Option.bind (p_X7_thrown mo M7) fun v9 =>
  (if v9 = v2 then
   (if v2 = 0 then
    (Option.bind (aL M7 od (0 : Int32)) fun v12 =>
    (if (lg_cmp v12 (Int32.toInt64 v6)) = 0 then
     some M7
    else
     none
    )
    )
   else
    some M7
   )
  else
   none
  )
  )
  )
  )
  )
  )
  )
  )
set_option maxHeartbeats 4000000 in
set_option maxRecDepth 100000 in
theorem wk_22 {G : gG} {p : Program} {l : Launch} {e : Env} {s : State} {m : MethodId} {args : Array Value} {below : List Frame} {meth : Method} {c : Code} {A : Nat → Prop} {Z : gZ} {Q : State → Prop} {cells slots b L : Nat} {xs : Nat → Int32} {x0 mo od od2 : Nat} {i0 : Int32} (C0 : cx G p s m args c cL_law RL 10 A) (hG : GOK G) (hZ : GS G Z) (hY : GY G) (hlf : l.stackTraces = false) (hX : va_X b L xs s s.heap) (hbl : b < s.heap.size) (hbA : ¬ A b) (hcs : cells + 8 ≤ room_1.cells ∧ slots + 48 ≤ room_1.slots) {M M' : Mem} {H : Heap} {locs : List Loc} {ls : Array Slot} (hM : mm G A s M H locs) (hl : lv_has ls 10 [(0, .ref b), (1, .ref x0), (2, .ref mo), (3, .ref od), (4, .ref od2), (5, .int i0)]) (hp : pk_22 L xs x0 mo od od2 i0 M = some M') (kk : ∀ (H : Heap) (locs : List Loc) (ls : Array Slot), mm G A s M' H locs → lv_has ls 10 [(0, .ref b), (1, .ref x0), (2, .ref mo), (3, .ref od), (4, .ref od2), (5, .int i0)] → W p l e room_1 s m args below meth c H locs (cells + 8) (slots + 48) Q (F0 m 3302 ls [])) : W p l e room_1 s m args below meth c H locs cells slots Q (F0 m 1484 ls []) := by
  have hx := C0.1
  have hb := C0.2.1
  have hown := C0.2.2.2.1
  have hts := C0.2.2.2.2.1
  obtain ⟨hc1, hs1⟩ := hcs
  unfold pk_22 at hp
  refine lv_aload_n hx hb dL_law_1484 rfl (lv_at hl 1 rfl) ?_
  refine lv_aload_n hx hb dL_law_1485 rfl (lv_at hl 0 rfl) ?_
  refine lv_iload hx hb dL_law_1486 (lv_at hl 5 rfl) ?_
  refine lv_iconst (v := 1) hx hb dL_law_1488 (by decide) ?_
  refine lv_iadd hx hb dL_law_1489 ?_
  obtain ⟨v1, hv1, hp⟩ := ob hp
  obtain ⟨hin, ev1⟩ := xI_at hv1
  refine va_sld hx hb hX hbl hbA hM.2.2 hin dL_law_1490 ?_
  rw [ev1]
  refine lv_aload_n hx hb dL_law_1491 rfl (lv_at hl 3 rfl) ?_
  obtain ⟨v2, M3, hv2, hp⟩ := ob3 hp
  refine ml_S1 (As := [.ref x0, .int v1, .ref od]) (rest := []) C0 hM (w_L_roundOf hG hY hlf hv2) tw_965 tw_966 tw_0 twh_967 yk_L_roundOf ⟨⟨rfl, rfl⟩, ⟨by decide, by decide⟩, by omega, by omega⟩ rfl hl.1 (Nat.le_of_ble_eq_true rfl) dL_law_1492 rfl (fun H locs hM => ?_)
  refine lv_istore (lv' := [(6, .int v2), (0, .ref b), (1, .ref x0), (2, .ref mo), (3, .ref od), (4, .ref od2), (5, .int i0)]) hx hb dL_law_1495 hl (by decide) rfl (fun ls hl => ?_)
  refine lv_aload_n hx hb dL_law_1497 rfl (lv_at hl 3 rfl) ?_
  refine lv_aload_n hx hb dL_law_1498 rfl (lv_at hl 1 rfl) ?_
  refine lv_iload hx hb dL_law_1499 (lv_at hl 6 rfl) ?_
  refine lv_iconst (v := 1) hx hb dL_law_1501 (by decide) ?_
  refine lv_iadd hx hb dL_law_1502 ?_
  obtain ⟨v4, hv4, hp⟩ := ob hp
  obtain ⟨hin, ev4⟩ := xI_at hv4
  refine va_sld hx hb hX hbl hbA hM.2.2 hin dL_law_1503 ?_
  rw [ev4]
  obtain ⟨_, h5, hp⟩ := ob hp
  obtain ⟨v6, M7, hv6, hp⟩ := ob3 hp
  refine mg_V1 (As := [.int v4]) (rest := []) C0 cbX7 hM h5 rfl (w_X7_roundOf hG hv6) tw_1635 tw_1636 tw_1637 tw_7 tw_1638 yk_X7_roundOf ⟨⟨rfl, rfl⟩, ⟨by decide, by decide⟩, by omega, by omega⟩ rfl hl.1 (Nat.le_of_ble_eq_true rfl) dL_law_1504 rfl (fun H locs hM => ?_)
  refine lv_istore (lv' := [(7, .int v6), (6, .int v2), (0, .ref b), (1, .ref x0), (2, .ref mo), (3, .ref od), (4, .ref od2), (5, .int i0)]) hx hb dL_law_1507 hl (by decide) rfl (fun ls hl => ?_)
  refine lv_aload_n hx hb dL_law_1509 rfl (lv_at hl 4 rfl) ?_
  obtain ⟨_, h8, hp⟩ := ob hp
  obtain ⟨v9, hv9, hp⟩ := ob hp
  refine mg_V1 (As := []) (rest := []) C0 cbX7 hM h8 rfl (w_X7_thrown hG hv9) tw_1309 tw_1310 tw_1311 tw_7 tw_1312 yk_X7_thrown ⟨⟨rfl, rfl⟩, ⟨by decide, by decide⟩, by omega, by omega⟩ rfl hl.1 (Nat.le_of_ble_eq_true rfl) dL_law_1510 rfl (fun H locs hM => ?_)
  refine lv_iload hx hb dL_law_1513 (lv_at hl 1 rfl) ?_
  refine lv_icmp_eq (tgt := 1520) hx hb dL_law_1515 (by decide) (fun c10 => ?_) (fun c10 => ?_)
  · replace hp := oT c10 hp
    refine lv_iload hx hb dL_law_1520 (lv_at hl 1 rfl) ?_
    refine lv_if_ne (tgt := 1537) hx hb dL_law_1522 (by decide) (fun c11 => ?_) (fun c11 => ?_)
    · replace hp := oF c11 hp
      refine lv_goto (tgt := 3302) hx hb dL_law_1537 (by decide) ?_
      cases hp
      refine W.widen (k := cells + 8) (n := slots + 48) (by omega) (by omega) ?_
      exact kk H locs ls hM (lv_sub hl [2, 3, 4, 5, 6, 7] rfl)
    · replace hp := oT c11 hp
      refine lv_aload_n hx hb dL_law_1525 rfl (lv_at hl 5 rfl) ?_
      refine lv_iconst (v := 0) hx hb dL_law_1526 (by decide) ?_
      obtain ⟨v12, hv12, hp⟩ := ob hp
      refine mr_lald C0 hM hv12 dL_law_1527 ?_
      refine lv_iload hx hb dL_law_1528 (lv_at hl 0 rfl) ?_
      refine lv_i2l (v := (Int32.toInt64 v6)) hx hb dL_law_1530 rfl ?_
      refine W.lcmp hx hb dL_law_1531 ?_
      refine lv_if_eq (tgt := 1537) hx hb dL_law_1532 (by decide) (fun c13 => ?_) (fun c13 => ?_)
      · replace hp := oT c13 hp
        refine lv_goto (tgt := 3302) hx hb dL_law_1537 (by decide) ?_
        cases hp
        refine W.widen (k := cells + 8) (n := slots + 48) (by omega) (by omega) ?_
        exact kk H locs ls hM (lv_sub hl [2, 3, 4, 5, 6, 7] rfl)
      · replace hp := oF c13 hp
        cases hp
  · replace hp := oF c10 hp
    cases hp
def pk_23 (L : Nat) (xs : Nat → Int32) (x0 mo od od2 : Nat) (i0 : Int32) (M : Mem) : Option Mem :=
  (Option.bind (xI L xs (i0 + (1 : Int32))) fun v1 =>
  (Option.bind (xI L xs (i0 + (2 : Int32))) fun v2 =>
  (Option.bind (xI L xs (i0 + (3 : Int32))) fun v3 =>
  (Option.bind (xI L xs (i0 + (4 : Int32))) fun v4 =>
  (jn (fun (s5 : Int32) =>
   (Option.bind (xI L xs (i0 + (5 : Int32))) fun v7 =>
   (ob2 (p_L_addChild x0 v1 v2 v3 s5 v7 od M) fun v8 M9 =>
   (Option.bind (xI L xs (i0 + (1 : Int32))) fun v10 =>
   (Option.bind (xI L xs (i0 + (2 : Int32))) fun v11 =>
   (Option.bind (xI L xs (i0 + (3 : Int32))) fun v12 =>
   (Option.bind (xI L xs (i0 + (4 : Int32))) fun v13 =>
   (jn (fun (s14 : Int32) =>
    (Option.bind (xI L xs (i0 + (5 : Int32))) fun v16 =>
    (Option.bind (isC 6 M9 mo) fun _ =>
    (ob2 (p_X7_addChild mo v10 v11 v12 s14 v16 M9) fun v18 M19 =>
    (Option.bind (isC 6 M19 mo) fun _ =>
    (Option.bind (p_X7_thrown mo M19) fun v21 =>
    (if v21 = v8 then
     (if v8 = 0 then
      (Option.bind (aL M19 od (0 : Int32)) fun v24 =>
      (if (lg_cmp v24 (Int32.toInt64 v18)) = 0 then
       some M19
      else
       none
      )
      )
     else
      some M19
     )
    else
     none
    )
    )
    )
    )
    )
    )
   ) fun k15 =>
   (if v13 = 0 then
    (k15 (0 : Int32))
   else
    (k15 (1 : Int32))
   )
   )
   )
   )
   )
   )
   )
   )
  ) fun k6 =>
  (if v4 = 0 then
   (k6 (0 : Int32))
  else
   (k6 (1 : Int32))
  )
  )
  )
  )
  )
  )
set_option maxHeartbeats 4000000 in
set_option maxRecDepth 100000 in
theorem wk_23 {G : gG} {p : Program} {l : Launch} {e : Env} {s : State} {m : MethodId} {args : Array Value} {below : List Frame} {meth : Method} {c : Code} {A : Nat → Prop} {Z : gZ} {Q : State → Prop} {cells slots b L : Nat} {xs : Nat → Int32} {x0 mo od od2 : Nat} {i0 : Int32} (C0 : cx G p s m args c cL_law RL 10 A) (hG : GOK G) (hZ : GS G Z) (hY : GY G) (hlf : l.stackTraces = false) (hX : va_X b L xs s s.heap) (hbl : b < s.heap.size) (hbA : ¬ A b) (hcs : cells + 8 ≤ room_1.cells ∧ slots + 48 ≤ room_1.slots) {M M' : Mem} {H : Heap} {locs : List Loc} {ls : Array Slot} (hM : mm G A s M H locs) (hl : lv_has ls 10 [(0, .ref b), (1, .ref x0), (2, .ref mo), (3, .ref od), (4, .ref od2), (5, .int i0)]) (hp : pk_23 L xs x0 mo od od2 i0 M = some M') (kk : ∀ (H : Heap) (locs : List Loc) (ls : Array Slot), mm G A s M' H locs → lv_has ls 10 [(0, .ref b), (1, .ref x0), (2, .ref mo), (3, .ref od), (4, .ref od2), (5, .int i0)] → W p l e room_1 s m args below meth c H locs (cells + 8) (slots + 48) Q (F0 m 3302 ls [])) : W p l e room_1 s m args below meth c H locs cells slots Q (F0 m 1540 ls []) := by
  have hx := C0.1
  have hb := C0.2.1
  have hown := C0.2.2.2.1
  have hts := C0.2.2.2.2.1
  obtain ⟨hc1, hs1⟩ := hcs
  unfold pk_23 at hp
  refine lv_aload_n hx hb dL_law_1540 rfl (lv_at hl 1 rfl) ?_
  refine lv_aload_n hx hb dL_law_1541 rfl (lv_at hl 0 rfl) ?_
  refine lv_iload hx hb dL_law_1542 (lv_at hl 5 rfl) ?_
  refine lv_iconst (v := 1) hx hb dL_law_1544 (by decide) ?_
  refine lv_iadd hx hb dL_law_1545 ?_
  obtain ⟨v1, hv1, hp⟩ := ob hp
  obtain ⟨hin, ev1⟩ := xI_at hv1
  refine va_sld hx hb hX hbl hbA hM.2.2 hin dL_law_1546 ?_
  rw [ev1]
  refine lv_aload_n hx hb dL_law_1547 rfl (lv_at hl 0 rfl) ?_
  refine lv_iload hx hb dL_law_1548 (lv_at hl 5 rfl) ?_
  refine lv_iconst (v := 2) hx hb dL_law_1550 (by decide) ?_
  refine lv_iadd hx hb dL_law_1551 ?_
  obtain ⟨v2, hv2, hp⟩ := ob hp
  obtain ⟨hin, ev2⟩ := xI_at hv2
  refine va_sld hx hb hX hbl hbA hM.2.2 hin dL_law_1552 ?_
  rw [ev2]
  refine lv_aload_n hx hb dL_law_1553 rfl (lv_at hl 0 rfl) ?_
  refine lv_iload hx hb dL_law_1554 (lv_at hl 5 rfl) ?_
  refine lv_iconst (v := 3) hx hb dL_law_1556 (by decide) ?_
  refine lv_iadd hx hb dL_law_1557 ?_
  obtain ⟨v3, hv3, hp⟩ := ob hp
  obtain ⟨hin, ev3⟩ := xI_at hv3
  refine va_sld hx hb hX hbl hbA hM.2.2 hin dL_law_1558 ?_
  rw [ev3]
  refine lv_aload_n hx hb dL_law_1559 rfl (lv_at hl 0 rfl) ?_
  refine lv_iload hx hb dL_law_1560 (lv_at hl 5 rfl) ?_
  refine lv_iconst (v := 4) hx hb dL_law_1562 (by decide) ?_
  refine lv_iadd hx hb dL_law_1563 ?_
  obtain ⟨v4, hv4, hp⟩ := ob hp
  obtain ⟨hin, ev4⟩ := xI_at hv4
  refine va_sld hx hb hX hbl hbA hM.2.2 hin dL_law_1564 ?_
  rw [ev4]
  obtain ⟨k6, ek6, hp⟩ := ojn hp
  have hk6 : ∀ (s5 : Int32) (H : Heap) (locs : List Loc) (ls : Array Slot), mm G A s M H locs → lv_has ls 10 [(0, .ref b), (1, .ref x0), (2, .ref mo), (3, .ref od), (4, .ref od2), (5, .int i0)] → k6 s5 = some M' → W p l e room_1 s m args below meth c H locs cells slots Q (F0 m 1573 ls [.int s5, .int v3, .int v2, .int v1, .ref x0]) := by
    intro s5 H locs ls hM hl hp
    rw [ek6] at hp
    refine lv_aload_n hx hb dL_law_1573 rfl (lv_at hl 0 rfl) ?_
    refine lv_iload hx hb dL_law_1574 (lv_at hl 5 rfl) ?_
    refine lv_iconst (v := 5) hx hb dL_law_1576 (by decide) ?_
    refine lv_iadd hx hb dL_law_1577 ?_
    obtain ⟨v7, hv7, hp⟩ := ob hp
    obtain ⟨hin, ev7⟩ := xI_at hv7
    refine va_sld hx hb hX hbl hbA hM.2.2 hin dL_law_1578 ?_
    rw [ev7]
    refine lv_aload_n hx hb dL_law_1579 rfl (lv_at hl 3 rfl) ?_
    obtain ⟨v8, M9, hv8, hp⟩ := ob3 hp
    refine ml_S1 (As := [.ref x0, .int v1, .int v2, .int v3, .int s5, .int v7, .ref od]) (rest := []) C0 hM (w_L_addChild hG hY hlf hv8) tw_972 tw_973 tw_0 twh_974 yk_L_addChild ⟨⟨rfl, rfl⟩, ⟨by decide, by decide⟩, by omega, by omega⟩ rfl hl.1 (Nat.le_of_ble_eq_true rfl) dL_law_1580 rfl (fun H locs hM => ?_)
    refine lv_istore (lv' := [(6, .int v8), (0, .ref b), (1, .ref x0), (2, .ref mo), (3, .ref od), (4, .ref od2), (5, .int i0)]) hx hb dL_law_1583 hl (by decide) rfl (fun ls hl => ?_)
    refine lv_aload_n hx hb dL_law_1585 rfl (lv_at hl 3 rfl) ?_
    refine lv_aload_n hx hb dL_law_1586 rfl (lv_at hl 1 rfl) ?_
    refine lv_iload hx hb dL_law_1587 (lv_at hl 6 rfl) ?_
    refine lv_iconst (v := 1) hx hb dL_law_1589 (by decide) ?_
    refine lv_iadd hx hb dL_law_1590 ?_
    obtain ⟨v10, hv10, hp⟩ := ob hp
    obtain ⟨hin, ev10⟩ := xI_at hv10
    refine va_sld hx hb hX hbl hbA hM.2.2 hin dL_law_1591 ?_
    rw [ev10]
    refine lv_aload_n hx hb dL_law_1592 rfl (lv_at hl 1 rfl) ?_
    refine lv_iload hx hb dL_law_1593 (lv_at hl 6 rfl) ?_
    refine lv_iconst (v := 2) hx hb dL_law_1595 (by decide) ?_
    refine lv_iadd hx hb dL_law_1596 ?_
    obtain ⟨v11, hv11, hp⟩ := ob hp
    obtain ⟨hin, ev11⟩ := xI_at hv11
    refine va_sld hx hb hX hbl hbA hM.2.2 hin dL_law_1597 ?_
    rw [ev11]
    refine lv_aload_n hx hb dL_law_1598 rfl (lv_at hl 1 rfl) ?_
    refine lv_iload hx hb dL_law_1599 (lv_at hl 6 rfl) ?_
    refine lv_iconst (v := 3) hx hb dL_law_1601 (by decide) ?_
    refine lv_iadd hx hb dL_law_1602 ?_
    obtain ⟨v12, hv12, hp⟩ := ob hp
    obtain ⟨hin, ev12⟩ := xI_at hv12
    refine va_sld hx hb hX hbl hbA hM.2.2 hin dL_law_1603 ?_
    rw [ev12]
    refine lv_aload_n hx hb dL_law_1604 rfl (lv_at hl 1 rfl) ?_
    refine lv_iload hx hb dL_law_1605 (lv_at hl 6 rfl) ?_
    refine lv_iconst (v := 4) hx hb dL_law_1607 (by decide) ?_
    refine lv_iadd hx hb dL_law_1608 ?_
    obtain ⟨v13, hv13, hp⟩ := ob hp
    obtain ⟨hin, ev13⟩ := xI_at hv13
    refine va_sld hx hb hX hbl hbA hM.2.2 hin dL_law_1609 ?_
    rw [ev13]
    obtain ⟨k15, ek15, hp⟩ := ojn hp
    have hk15 : ∀ (s14 : Int32) (H : Heap) (locs : List Loc) (ls : Array Slot), mm G A s M9 H locs → lv_has ls 10 [(0, .ref b), (1, .ref x0), (2, .ref mo), (3, .ref od), (4, .ref od2), (5, .int i0), (6, .int v8)] → k15 s14 = some M' → W p l e room_1 s m args below meth c H locs (cells + 2) (slots + 12) Q (F0 m 1618 ls [.int s14, .int v12, .int v11, .int v10, .ref mo]) := by
      intro s14 H locs ls hM hl hp
      rw [ek15] at hp
      refine lv_aload_n hx hb dL_law_1618 rfl (lv_at hl 0 rfl) ?_
      refine lv_iload hx hb dL_law_1619 (lv_at hl 5 rfl) ?_
      refine lv_iconst (v := 5) hx hb dL_law_1621 (by decide) ?_
      refine lv_iadd hx hb dL_law_1622 ?_
      obtain ⟨v16, hv16, hp⟩ := ob hp
      obtain ⟨hin, ev16⟩ := xI_at hv16
      refine va_sld hx hb hX hbl hbA hM.2.2 hin dL_law_1623 ?_
      rw [ev16]
      obtain ⟨_, h17, hp⟩ := ob hp
      obtain ⟨v18, M19, hv18, hp⟩ := ob3 hp
      refine mg_V1 (As := [.int v10, .int v11, .int v12, .int s14, .int v16]) (rest := []) C0 cbX7 hM h17 rfl (w_X7_addChild hG hv18) tw_1639 tw_1640 tw_1641 tw_7 tw_1642 yk_X7_addChild ⟨⟨rfl, rfl⟩, ⟨by decide, by decide⟩, by omega, by omega⟩ rfl hl.1 (Nat.le_of_ble_eq_true rfl) dL_law_1624 rfl (fun H locs hM => ?_)
      refine lv_istore (lv' := [(7, .int v18), (0, .ref b), (1, .ref x0), (2, .ref mo), (3, .ref od), (4, .ref od2), (5, .int i0), (6, .int v8)]) hx hb dL_law_1627 hl (by decide) rfl (fun ls hl => ?_)
      refine lv_aload_n hx hb dL_law_1629 rfl (lv_at hl 3 rfl) ?_
      obtain ⟨_, h20, hp⟩ := ob hp
      obtain ⟨v21, hv21, hp⟩ := ob hp
      refine mg_V1 (As := []) (rest := []) C0 cbX7 hM h20 rfl (w_X7_thrown hG hv21) tw_1309 tw_1310 tw_1311 tw_7 tw_1312 yk_X7_thrown ⟨⟨rfl, rfl⟩, ⟨by decide, by decide⟩, by omega, by omega⟩ rfl hl.1 (Nat.le_of_ble_eq_true rfl) dL_law_1630 rfl (fun H locs hM => ?_)
      refine lv_iload hx hb dL_law_1633 (lv_at hl 7 rfl) ?_
      refine lv_icmp_eq (tgt := 1640) hx hb dL_law_1635 (by decide) (fun c22 => ?_) (fun c22 => ?_)
      · replace hp := oT c22 hp
        refine lv_iload hx hb dL_law_1640 (lv_at hl 7 rfl) ?_
        refine lv_if_ne (tgt := 1657) hx hb dL_law_1642 (by decide) (fun c23 => ?_) (fun c23 => ?_)
        · replace hp := oF c23 hp
          refine lv_goto (tgt := 3302) hx hb dL_law_1657 (by decide) ?_
          cases hp
          refine W.widen (k := cells + 8) (n := slots + 48) (by omega) (by omega) ?_
          exact kk H locs ls hM (lv_sub hl [1, 2, 3, 4, 5, 6] rfl)
        · replace hp := oT c23 hp
          refine lv_aload_n hx hb dL_law_1645 rfl (lv_at hl 4 rfl) ?_
          refine lv_iconst (v := 0) hx hb dL_law_1646 (by decide) ?_
          obtain ⟨v24, hv24, hp⟩ := ob hp
          refine mr_lald C0 hM hv24 dL_law_1647 ?_
          refine lv_iload hx hb dL_law_1648 (lv_at hl 0 rfl) ?_
          refine lv_i2l (v := (Int32.toInt64 v18)) hx hb dL_law_1650 rfl ?_
          refine W.lcmp hx hb dL_law_1651 ?_
          refine lv_if_eq (tgt := 1657) hx hb dL_law_1652 (by decide) (fun c25 => ?_) (fun c25 => ?_)
          · replace hp := oT c25 hp
            refine lv_goto (tgt := 3302) hx hb dL_law_1657 (by decide) ?_
            cases hp
            refine W.widen (k := cells + 8) (n := slots + 48) (by omega) (by omega) ?_
            exact kk H locs ls hM (lv_sub hl [1, 2, 3, 4, 5, 6] rfl)
          · replace hp := oF c25 hp
            cases hp
      · replace hp := oF c22 hp
        cases hp
    refine lv_if_eq (tgt := 1617) hx hb dL_law_1610 (by decide) (fun c26 => ?_) (fun c26 => ?_)
    · replace hp := oT c26 hp
      refine lv_iconst (v := 0) hx hb dL_law_1617 (by decide) ?_
      exact hk15 _ _ _ _ hM (lv_sub hl [1, 2, 3, 4, 5, 6, 0] rfl) hp
    · replace hp := oF c26 hp
      refine lv_iconst (v := 1) hx hb dL_law_1613 (by decide) ?_
      refine lv_goto (tgt := 1618) hx hb dL_law_1614 (by decide) ?_
      exact hk15 _ _ _ _ hM (lv_sub hl [1, 2, 3, 4, 5, 6, 0] rfl) hp
  refine lv_if_eq (tgt := 1572) hx hb dL_law_1565 (by decide) (fun c27 => ?_) (fun c27 => ?_)
  · replace hp := oT c27 hp
    refine lv_iconst (v := 0) hx hb dL_law_1572 (by decide) ?_
    exact hk6 _ _ _ _ hM (lv_sub hl [0, 1, 2, 3, 4, 5] rfl) hp
  · replace hp := oF c27 hp
    refine lv_iconst (v := 1) hx hb dL_law_1568 (by decide) ?_
    refine lv_goto (tgt := 1573) hx hb dL_law_1569 (by decide) ?_
    exact hk6 _ _ _ _ hM (lv_sub hl [0, 1, 2, 3, 4, 5] rfl) hp
def pk_24 (L : Nat) (xs : Nat → Int32) (x0 mo od od2 : Nat) (i0 : Int32) (M : Mem) : Option Mem :=
  (Option.bind (xI L xs (i0 + (1 : Int32))) fun v1 =>
  (ob2 (p_L_withdraw x0 v1 od M) fun v2 M3 =>
  (Option.bind (xI L xs (i0 + (1 : Int32))) fun v4 =>
  (Option.bind (isC 6 M3 mo) fun _ =>
  (ob2 (p_X7_withdraw mo v4 M3) fun v6 M7 =>
  (Option.bind (isC 6 M7 mo) fun _ =>
  (Option.bind (p_X7_thrown mo M7) fun v9 =>
  (if v9 = v2 then
   (if v2 = 0 then
    (Option.bind (aL M7 od (0 : Int32)) fun v12 =>
    (if (lg_cmp v12 (Int32.toInt64 v6)) = 0 then
     some M7
    else
     none
    )
    )
   else
    some M7
   )
  else
   none
  )
  )
  )
  )
  )
  )
  )
  )
set_option maxHeartbeats 4000000 in
set_option maxRecDepth 100000 in
theorem wk_24 {G : gG} {p : Program} {l : Launch} {e : Env} {s : State} {m : MethodId} {args : Array Value} {below : List Frame} {meth : Method} {c : Code} {A : Nat → Prop} {Z : gZ} {Q : State → Prop} {cells slots b L : Nat} {xs : Nat → Int32} {x0 mo od od2 : Nat} {i0 : Int32} (C0 : cx G p s m args c cL_law RL 10 A) (hG : GOK G) (hZ : GS G Z) (hY : GY G) (hlf : l.stackTraces = false) (hX : va_X b L xs s s.heap) (hbl : b < s.heap.size) (hbA : ¬ A b) (hcs : cells + 8 ≤ room_1.cells ∧ slots + 48 ≤ room_1.slots) {M M' : Mem} {H : Heap} {locs : List Loc} {ls : Array Slot} (hM : mm G A s M H locs) (hl : lv_has ls 10 [(0, .ref b), (1, .ref x0), (2, .ref mo), (3, .ref od), (4, .ref od2), (5, .int i0)]) (hp : pk_24 L xs x0 mo od od2 i0 M = some M') (kk : ∀ (H : Heap) (locs : List Loc) (ls : Array Slot), mm G A s M' H locs → lv_has ls 10 [(0, .ref b), (1, .ref x0), (2, .ref mo), (3, .ref od), (4, .ref od2), (5, .int i0)] → W p l e room_1 s m args below meth c H locs (cells + 8) (slots + 48) Q (F0 m 3302 ls [])) : W p l e room_1 s m args below meth c H locs cells slots Q (F0 m 1660 ls []) := by
  have hx := C0.1
  have hb := C0.2.1
  have hown := C0.2.2.2.1
  have hts := C0.2.2.2.2.1
  obtain ⟨hc1, hs1⟩ := hcs
  unfold pk_24 at hp
  refine lv_aload_n hx hb dL_law_1660 rfl (lv_at hl 1 rfl) ?_
  refine lv_aload_n hx hb dL_law_1661 rfl (lv_at hl 0 rfl) ?_
  refine lv_iload hx hb dL_law_1662 (lv_at hl 5 rfl) ?_
  refine lv_iconst (v := 1) hx hb dL_law_1664 (by decide) ?_
  refine lv_iadd hx hb dL_law_1665 ?_
  obtain ⟨v1, hv1, hp⟩ := ob hp
  obtain ⟨hin, ev1⟩ := xI_at hv1
  refine va_sld hx hb hX hbl hbA hM.2.2 hin dL_law_1666 ?_
  rw [ev1]
  refine lv_aload_n hx hb dL_law_1667 rfl (lv_at hl 3 rfl) ?_
  obtain ⟨v2, M3, hv2, hp⟩ := ob3 hp
  refine ml_S1 (As := [.ref x0, .int v1, .ref od]) (rest := []) C0 hM (w_L_withdraw hG hY hlf hv2) tw_1008 tw_1009 tw_0 twh_1010 yk_L_withdraw ⟨⟨rfl, rfl⟩, ⟨by decide, by decide⟩, by omega, by omega⟩ rfl hl.1 (Nat.le_of_ble_eq_true rfl) dL_law_1668 rfl (fun H locs hM => ?_)
  refine lv_istore (lv' := [(6, .int v2), (0, .ref b), (1, .ref x0), (2, .ref mo), (3, .ref od), (4, .ref od2), (5, .int i0)]) hx hb dL_law_1671 hl (by decide) rfl (fun ls hl => ?_)
  refine lv_aload_n hx hb dL_law_1673 rfl (lv_at hl 3 rfl) ?_
  refine lv_aload_n hx hb dL_law_1674 rfl (lv_at hl 1 rfl) ?_
  refine lv_iload hx hb dL_law_1675 (lv_at hl 6 rfl) ?_
  refine lv_iconst (v := 1) hx hb dL_law_1677 (by decide) ?_
  refine lv_iadd hx hb dL_law_1678 ?_
  obtain ⟨v4, hv4, hp⟩ := ob hp
  obtain ⟨hin, ev4⟩ := xI_at hv4
  refine va_sld hx hb hX hbl hbA hM.2.2 hin dL_law_1679 ?_
  rw [ev4]
  obtain ⟨_, h5, hp⟩ := ob hp
  obtain ⟨v6, M7, hv6, hp⟩ := ob3 hp
  refine mg_V1 (As := [.int v4]) (rest := []) C0 cbX7 hM h5 rfl (w_X7_withdraw hG hv6) tw_1655 tw_1656 tw_1657 tw_7 tw_1658 yk_X7_withdraw ⟨⟨rfl, rfl⟩, ⟨by decide, by decide⟩, by omega, by omega⟩ rfl hl.1 (Nat.le_of_ble_eq_true rfl) dL_law_1680 rfl (fun H locs hM => ?_)
  refine lv_istore (lv' := [(7, .int v6), (6, .int v2), (0, .ref b), (1, .ref x0), (2, .ref mo), (3, .ref od), (4, .ref od2), (5, .int i0)]) hx hb dL_law_1683 hl (by decide) rfl (fun ls hl => ?_)
  refine lv_aload_n hx hb dL_law_1685 rfl (lv_at hl 4 rfl) ?_
  obtain ⟨_, h8, hp⟩ := ob hp
  obtain ⟨v9, hv9, hp⟩ := ob hp
  refine mg_V1 (As := []) (rest := []) C0 cbX7 hM h8 rfl (w_X7_thrown hG hv9) tw_1309 tw_1310 tw_1311 tw_7 tw_1312 yk_X7_thrown ⟨⟨rfl, rfl⟩, ⟨by decide, by decide⟩, by omega, by omega⟩ rfl hl.1 (Nat.le_of_ble_eq_true rfl) dL_law_1686 rfl (fun H locs hM => ?_)
  refine lv_iload hx hb dL_law_1689 (lv_at hl 1 rfl) ?_
  refine lv_icmp_eq (tgt := 1696) hx hb dL_law_1691 (by decide) (fun c10 => ?_) (fun c10 => ?_)
  · replace hp := oT c10 hp
    refine lv_iload hx hb dL_law_1696 (lv_at hl 1 rfl) ?_
    refine lv_if_ne (tgt := 1713) hx hb dL_law_1698 (by decide) (fun c11 => ?_) (fun c11 => ?_)
    · replace hp := oF c11 hp
      refine lv_goto (tgt := 3302) hx hb dL_law_1713 (by decide) ?_
      cases hp
      refine W.widen (k := cells + 8) (n := slots + 48) (by omega) (by omega) ?_
      exact kk H locs ls hM (lv_sub hl [2, 3, 4, 5, 6, 7] rfl)
    · replace hp := oT c11 hp
      refine lv_aload_n hx hb dL_law_1701 rfl (lv_at hl 5 rfl) ?_
      refine lv_iconst (v := 0) hx hb dL_law_1702 (by decide) ?_
      obtain ⟨v12, hv12, hp⟩ := ob hp
      refine mr_lald C0 hM hv12 dL_law_1703 ?_
      refine lv_iload hx hb dL_law_1704 (lv_at hl 0 rfl) ?_
      refine lv_i2l (v := (Int32.toInt64 v6)) hx hb dL_law_1706 rfl ?_
      refine W.lcmp hx hb dL_law_1707 ?_
      refine lv_if_eq (tgt := 1713) hx hb dL_law_1708 (by decide) (fun c13 => ?_) (fun c13 => ?_)
      · replace hp := oT c13 hp
        refine lv_goto (tgt := 3302) hx hb dL_law_1713 (by decide) ?_
        cases hp
        refine W.widen (k := cells + 8) (n := slots + 48) (by omega) (by omega) ?_
        exact kk H locs ls hM (lv_sub hl [2, 3, 4, 5, 6, 7] rfl)
      · replace hp := oF c13 hp
        cases hp
  · replace hp := oF c10 hp
    cases hp
def pk_25 (L : Nat) (xs : Nat → Int32) (x0 mo od od2 : Nat) (i0 : Int32) (M : Mem) : Option Mem :=
  (Option.bind (xI L xs (i0 + (1 : Int32))) fun v1 =>
  (ob2 (p_L_giveBack x0 v1 od M) fun v2 M3 =>
  (Option.bind (xI L xs (i0 + (1 : Int32))) fun v4 =>
  (Option.bind (isC 6 M3 mo) fun _ =>
  (ob2 (p_X7_giveBack mo v4 M3) fun v6 M7 =>
  (Option.bind (isC 6 M7 mo) fun _ =>
  (Option.bind (p_X7_thrown mo M7) fun v9 =>
  (if v9 = v2 then
   (if v2 = 0 then
    (Option.bind (aL M7 od (0 : Int32)) fun v12 =>
    (if (lg_cmp v12 (Int32.toInt64 v6)) = 0 then
     some M7
    else
     none
    )
    )
   else
    some M7
   )
  else
   none
  )
  )
  )
  )
  )
  )
  )
  )
set_option maxHeartbeats 4000000 in
set_option maxRecDepth 100000 in
theorem wk_25 {G : gG} {p : Program} {l : Launch} {e : Env} {s : State} {m : MethodId} {args : Array Value} {below : List Frame} {meth : Method} {c : Code} {A : Nat → Prop} {Z : gZ} {Q : State → Prop} {cells slots b L : Nat} {xs : Nat → Int32} {x0 mo od od2 : Nat} {i0 : Int32} (C0 : cx G p s m args c cL_law RL 10 A) (hG : GOK G) (hZ : GS G Z) (hY : GY G) (hlf : l.stackTraces = false) (hX : va_X b L xs s s.heap) (hbl : b < s.heap.size) (hbA : ¬ A b) (hcs : cells + 8 ≤ room_1.cells ∧ slots + 48 ≤ room_1.slots) {M M' : Mem} {H : Heap} {locs : List Loc} {ls : Array Slot} (hM : mm G A s M H locs) (hl : lv_has ls 10 [(0, .ref b), (1, .ref x0), (2, .ref mo), (3, .ref od), (4, .ref od2), (5, .int i0)]) (hp : pk_25 L xs x0 mo od od2 i0 M = some M') (kk : ∀ (H : Heap) (locs : List Loc) (ls : Array Slot), mm G A s M' H locs → lv_has ls 10 [(0, .ref b), (1, .ref x0), (2, .ref mo), (3, .ref od), (4, .ref od2), (5, .int i0)] → W p l e room_1 s m args below meth c H locs (cells + 8) (slots + 48) Q (F0 m 3302 ls [])) : W p l e room_1 s m args below meth c H locs cells slots Q (F0 m 1716 ls []) := by
  have hx := C0.1
  have hb := C0.2.1
  have hown := C0.2.2.2.1
  have hts := C0.2.2.2.2.1
  obtain ⟨hc1, hs1⟩ := hcs
  unfold pk_25 at hp
  refine lv_aload_n hx hb dL_law_1716 rfl (lv_at hl 1 rfl) ?_
  refine lv_aload_n hx hb dL_law_1717 rfl (lv_at hl 0 rfl) ?_
  refine lv_iload hx hb dL_law_1718 (lv_at hl 5 rfl) ?_
  refine lv_iconst (v := 1) hx hb dL_law_1720 (by decide) ?_
  refine lv_iadd hx hb dL_law_1721 ?_
  obtain ⟨v1, hv1, hp⟩ := ob hp
  obtain ⟨hin, ev1⟩ := xI_at hv1
  refine va_sld hx hb hX hbl hbA hM.2.2 hin dL_law_1722 ?_
  rw [ev1]
  refine lv_aload_n hx hb dL_law_1723 rfl (lv_at hl 3 rfl) ?_
  obtain ⟨v2, M3, hv2, hp⟩ := ob3 hp
  refine ml_S1 (As := [.ref x0, .int v1, .ref od]) (rest := []) C0 hM (w_L_giveBack hG hY hlf hv2) tw_1020 tw_1021 tw_0 twh_1022 yk_L_giveBack ⟨⟨rfl, rfl⟩, ⟨by decide, by decide⟩, by omega, by omega⟩ rfl hl.1 (Nat.le_of_ble_eq_true rfl) dL_law_1724 rfl (fun H locs hM => ?_)
  refine lv_istore (lv' := [(6, .int v2), (0, .ref b), (1, .ref x0), (2, .ref mo), (3, .ref od), (4, .ref od2), (5, .int i0)]) hx hb dL_law_1727 hl (by decide) rfl (fun ls hl => ?_)
  refine lv_aload_n hx hb dL_law_1729 rfl (lv_at hl 3 rfl) ?_
  refine lv_aload_n hx hb dL_law_1730 rfl (lv_at hl 1 rfl) ?_
  refine lv_iload hx hb dL_law_1731 (lv_at hl 6 rfl) ?_
  refine lv_iconst (v := 1) hx hb dL_law_1733 (by decide) ?_
  refine lv_iadd hx hb dL_law_1734 ?_
  obtain ⟨v4, hv4, hp⟩ := ob hp
  obtain ⟨hin, ev4⟩ := xI_at hv4
  refine va_sld hx hb hX hbl hbA hM.2.2 hin dL_law_1735 ?_
  rw [ev4]
  obtain ⟨_, h5, hp⟩ := ob hp
  obtain ⟨v6, M7, hv6, hp⟩ := ob3 hp
  refine mg_V1 (As := [.int v4]) (rest := []) C0 cbX7 hM h5 rfl (w_X7_giveBack hG hv6) tw_1663 tw_1664 tw_1665 tw_7 tw_1666 yk_X7_giveBack ⟨⟨rfl, rfl⟩, ⟨by decide, by decide⟩, by omega, by omega⟩ rfl hl.1 (Nat.le_of_ble_eq_true rfl) dL_law_1736 rfl (fun H locs hM => ?_)
  refine lv_istore (lv' := [(7, .int v6), (6, .int v2), (0, .ref b), (1, .ref x0), (2, .ref mo), (3, .ref od), (4, .ref od2), (5, .int i0)]) hx hb dL_law_1739 hl (by decide) rfl (fun ls hl => ?_)
  refine lv_aload_n hx hb dL_law_1741 rfl (lv_at hl 4 rfl) ?_
  obtain ⟨_, h8, hp⟩ := ob hp
  obtain ⟨v9, hv9, hp⟩ := ob hp
  refine mg_V1 (As := []) (rest := []) C0 cbX7 hM h8 rfl (w_X7_thrown hG hv9) tw_1309 tw_1310 tw_1311 tw_7 tw_1312 yk_X7_thrown ⟨⟨rfl, rfl⟩, ⟨by decide, by decide⟩, by omega, by omega⟩ rfl hl.1 (Nat.le_of_ble_eq_true rfl) dL_law_1742 rfl (fun H locs hM => ?_)
  refine lv_iload hx hb dL_law_1745 (lv_at hl 1 rfl) ?_
  refine lv_icmp_eq (tgt := 1752) hx hb dL_law_1747 (by decide) (fun c10 => ?_) (fun c10 => ?_)
  · replace hp := oT c10 hp
    refine lv_iload hx hb dL_law_1752 (lv_at hl 1 rfl) ?_
    refine lv_if_ne (tgt := 1769) hx hb dL_law_1754 (by decide) (fun c11 => ?_) (fun c11 => ?_)
    · replace hp := oF c11 hp
      refine lv_goto (tgt := 3302) hx hb dL_law_1769 (by decide) ?_
      cases hp
      refine W.widen (k := cells + 8) (n := slots + 48) (by omega) (by omega) ?_
      exact kk H locs ls hM (lv_sub hl [2, 3, 4, 5, 6, 7] rfl)
    · replace hp := oT c11 hp
      refine lv_aload_n hx hb dL_law_1757 rfl (lv_at hl 5 rfl) ?_
      refine lv_iconst (v := 0) hx hb dL_law_1758 (by decide) ?_
      obtain ⟨v12, hv12, hp⟩ := ob hp
      refine mr_lald C0 hM hv12 dL_law_1759 ?_
      refine lv_iload hx hb dL_law_1760 (lv_at hl 0 rfl) ?_
      refine lv_i2l (v := (Int32.toInt64 v6)) hx hb dL_law_1762 rfl ?_
      refine W.lcmp hx hb dL_law_1763 ?_
      refine lv_if_eq (tgt := 1769) hx hb dL_law_1764 (by decide) (fun c13 => ?_) (fun c13 => ?_)
      · replace hp := oT c13 hp
        refine lv_goto (tgt := 3302) hx hb dL_law_1769 (by decide) ?_
        cases hp
        refine W.widen (k := cells + 8) (n := slots + 48) (by omega) (by omega) ?_
        exact kk H locs ls hM (lv_sub hl [2, 3, 4, 5, 6, 7] rfl)
      · replace hp := oF c13 hp
        cases hp
  · replace hp := oF c10 hp
    cases hp
def pk_26 (L : Nat) (xs : Nat → Int32) (x0 mo od od2 : Nat) (i0 : Int32) (M : Mem) : Option Mem :=
  (Option.bind (xI L xs (i0 + (1 : Int32))) fun v1 =>
  (Option.bind (xI L xs (i0 + (2 : Int32))) fun v2 =>
  (Option.bind (xI L xs (i0 + (3 : Int32))) fun v3 =>
  (ob2 (p_L_moveHome x0 v1 v2 v3 od M) fun v4 M5 =>
  (Option.bind (xI L xs (i0 + (1 : Int32))) fun v6 =>
  (Option.bind (xI L xs (i0 + (2 : Int32))) fun v7 =>
  (Option.bind (xI L xs (i0 + (3 : Int32))) fun v8 =>
  (Option.bind (isC 6 M5 mo) fun _ =>
  (ob2 (p_X7_moveHome mo v6 v7 v8 M5) fun v10 M11 =>
  (Option.bind (isC 6 M11 mo) fun _ =>
  (Option.bind (p_X7_thrown mo M11) fun v13 =>
  (if v13 = v4 then
   (if v4 = 0 then
    (Option.bind (aL M11 od (0 : Int32)) fun v16 =>
    (if (lg_cmp v16 (Int32.toInt64 v10)) = 0 then
     some M11
    else
     none
    )
    )
   else
    some M11
   )
  else
   none
  )
  )
  )
  )
  )
  )
  )
  )
  )
  )
  )
  )
set_option maxHeartbeats 4000000 in
set_option maxRecDepth 100000 in
theorem wk_26 {G : gG} {p : Program} {l : Launch} {e : Env} {s : State} {m : MethodId} {args : Array Value} {below : List Frame} {meth : Method} {c : Code} {A : Nat → Prop} {Z : gZ} {Q : State → Prop} {cells slots b L : Nat} {xs : Nat → Int32} {x0 mo od od2 : Nat} {i0 : Int32} (C0 : cx G p s m args c cL_law RL 10 A) (hG : GOK G) (hZ : GS G Z) (hY : GY G) (hlf : l.stackTraces = false) (hX : va_X b L xs s s.heap) (hbl : b < s.heap.size) (hbA : ¬ A b) (hcs : cells + 8 ≤ room_1.cells ∧ slots + 48 ≤ room_1.slots) {M M' : Mem} {H : Heap} {locs : List Loc} {ls : Array Slot} (hM : mm G A s M H locs) (hl : lv_has ls 10 [(0, .ref b), (1, .ref x0), (2, .ref mo), (3, .ref od), (4, .ref od2), (5, .int i0)]) (hp : pk_26 L xs x0 mo od od2 i0 M = some M') (kk : ∀ (H : Heap) (locs : List Loc) (ls : Array Slot), mm G A s M' H locs → lv_has ls 10 [(0, .ref b), (1, .ref x0), (2, .ref mo), (3, .ref od), (4, .ref od2), (5, .int i0)] → W p l e room_1 s m args below meth c H locs (cells + 8) (slots + 48) Q (F0 m 3302 ls [])) : W p l e room_1 s m args below meth c H locs cells slots Q (F0 m 1772 ls []) := by
  have hx := C0.1
  have hb := C0.2.1
  have hown := C0.2.2.2.1
  have hts := C0.2.2.2.2.1
  obtain ⟨hc1, hs1⟩ := hcs
  unfold pk_26 at hp
  refine lv_aload_n hx hb dL_law_1772 rfl (lv_at hl 1 rfl) ?_
  refine lv_aload_n hx hb dL_law_1773 rfl (lv_at hl 0 rfl) ?_
  refine lv_iload hx hb dL_law_1774 (lv_at hl 5 rfl) ?_
  refine lv_iconst (v := 1) hx hb dL_law_1776 (by decide) ?_
  refine lv_iadd hx hb dL_law_1777 ?_
  obtain ⟨v1, hv1, hp⟩ := ob hp
  obtain ⟨hin, ev1⟩ := xI_at hv1
  refine va_sld hx hb hX hbl hbA hM.2.2 hin dL_law_1778 ?_
  rw [ev1]
  refine lv_aload_n hx hb dL_law_1779 rfl (lv_at hl 0 rfl) ?_
  refine lv_iload hx hb dL_law_1780 (lv_at hl 5 rfl) ?_
  refine lv_iconst (v := 2) hx hb dL_law_1782 (by decide) ?_
  refine lv_iadd hx hb dL_law_1783 ?_
  obtain ⟨v2, hv2, hp⟩ := ob hp
  obtain ⟨hin, ev2⟩ := xI_at hv2
  refine va_sld hx hb hX hbl hbA hM.2.2 hin dL_law_1784 ?_
  rw [ev2]
  refine lv_aload_n hx hb dL_law_1785 rfl (lv_at hl 0 rfl) ?_
  refine lv_iload hx hb dL_law_1786 (lv_at hl 5 rfl) ?_
  refine lv_iconst (v := 3) hx hb dL_law_1788 (by decide) ?_
  refine lv_iadd hx hb dL_law_1789 ?_
  obtain ⟨v3, hv3, hp⟩ := ob hp
  obtain ⟨hin, ev3⟩ := xI_at hv3
  refine va_sld hx hb hX hbl hbA hM.2.2 hin dL_law_1790 ?_
  rw [ev3]
  refine lv_aload_n hx hb dL_law_1791 rfl (lv_at hl 3 rfl) ?_
  obtain ⟨v4, M5, hv4, hp⟩ := ob3 hp
  refine ml_S1 (As := [.ref x0, .int v1, .int v2, .int v3, .ref od]) (rest := []) C0 hM (w_L_moveHome hG hY hlf hv4) tw_1034 tw_1035 tw_0 twh_1036 yk_L_moveHome ⟨⟨rfl, rfl⟩, ⟨by decide, by decide⟩, by omega, by omega⟩ rfl hl.1 (Nat.le_of_ble_eq_true rfl) dL_law_1792 rfl (fun H locs hM => ?_)
  refine lv_istore (lv' := [(6, .int v4), (0, .ref b), (1, .ref x0), (2, .ref mo), (3, .ref od), (4, .ref od2), (5, .int i0)]) hx hb dL_law_1795 hl (by decide) rfl (fun ls hl => ?_)
  refine lv_aload_n hx hb dL_law_1797 rfl (lv_at hl 3 rfl) ?_
  refine lv_aload_n hx hb dL_law_1798 rfl (lv_at hl 1 rfl) ?_
  refine lv_iload hx hb dL_law_1799 (lv_at hl 6 rfl) ?_
  refine lv_iconst (v := 1) hx hb dL_law_1801 (by decide) ?_
  refine lv_iadd hx hb dL_law_1802 ?_
  obtain ⟨v6, hv6, hp⟩ := ob hp
  obtain ⟨hin, ev6⟩ := xI_at hv6
  refine va_sld hx hb hX hbl hbA hM.2.2 hin dL_law_1803 ?_
  rw [ev6]
  refine lv_aload_n hx hb dL_law_1804 rfl (lv_at hl 1 rfl) ?_
  refine lv_iload hx hb dL_law_1805 (lv_at hl 6 rfl) ?_
  refine lv_iconst (v := 2) hx hb dL_law_1807 (by decide) ?_
  refine lv_iadd hx hb dL_law_1808 ?_
  obtain ⟨v7, hv7, hp⟩ := ob hp
  obtain ⟨hin, ev7⟩ := xI_at hv7
  refine va_sld hx hb hX hbl hbA hM.2.2 hin dL_law_1809 ?_
  rw [ev7]
  refine lv_aload_n hx hb dL_law_1810 rfl (lv_at hl 1 rfl) ?_
  refine lv_iload hx hb dL_law_1811 (lv_at hl 6 rfl) ?_
  refine lv_iconst (v := 3) hx hb dL_law_1813 (by decide) ?_
  refine lv_iadd hx hb dL_law_1814 ?_
  obtain ⟨v8, hv8, hp⟩ := ob hp
  obtain ⟨hin, ev8⟩ := xI_at hv8
  refine va_sld hx hb hX hbl hbA hM.2.2 hin dL_law_1815 ?_
  rw [ev8]
  obtain ⟨_, h9, hp⟩ := ob hp
  obtain ⟨v10, M11, hv10, hp⟩ := ob3 hp
  refine mg_V1 (As := [.int v6, .int v7, .int v8]) (rest := []) C0 cbX7 hM h9 rfl (w_X7_moveHome hG hv10) tw_1667 tw_1668 tw_1669 tw_7 tw_1670 yk_X7_moveHome ⟨⟨rfl, rfl⟩, ⟨by decide, by decide⟩, by omega, by omega⟩ rfl hl.1 (Nat.le_of_ble_eq_true rfl) dL_law_1816 rfl (fun H locs hM => ?_)
  refine lv_istore (lv' := [(7, .int v10), (6, .int v4), (0, .ref b), (1, .ref x0), (2, .ref mo), (3, .ref od), (4, .ref od2), (5, .int i0)]) hx hb dL_law_1819 hl (by decide) rfl (fun ls hl => ?_)
  refine lv_aload_n hx hb dL_law_1821 rfl (lv_at hl 4 rfl) ?_
  obtain ⟨_, h12, hp⟩ := ob hp
  obtain ⟨v13, hv13, hp⟩ := ob hp
  refine mg_V1 (As := []) (rest := []) C0 cbX7 hM h12 rfl (w_X7_thrown hG hv13) tw_1309 tw_1310 tw_1311 tw_7 tw_1312 yk_X7_thrown ⟨⟨rfl, rfl⟩, ⟨by decide, by decide⟩, by omega, by omega⟩ rfl hl.1 (Nat.le_of_ble_eq_true rfl) dL_law_1822 rfl (fun H locs hM => ?_)
  refine lv_iload hx hb dL_law_1825 (lv_at hl 1 rfl) ?_
  refine lv_icmp_eq (tgt := 1832) hx hb dL_law_1827 (by decide) (fun c14 => ?_) (fun c14 => ?_)
  · replace hp := oT c14 hp
    refine lv_iload hx hb dL_law_1832 (lv_at hl 1 rfl) ?_
    refine lv_if_ne (tgt := 1849) hx hb dL_law_1834 (by decide) (fun c15 => ?_) (fun c15 => ?_)
    · replace hp := oF c15 hp
      refine lv_goto (tgt := 3302) hx hb dL_law_1849 (by decide) ?_
      cases hp
      refine W.widen (k := cells + 8) (n := slots + 48) (by omega) (by omega) ?_
      exact kk H locs ls hM (lv_sub hl [2, 3, 4, 5, 6, 7] rfl)
    · replace hp := oT c15 hp
      refine lv_aload_n hx hb dL_law_1837 rfl (lv_at hl 5 rfl) ?_
      refine lv_iconst (v := 0) hx hb dL_law_1838 (by decide) ?_
      obtain ⟨v16, hv16, hp⟩ := ob hp
      refine mr_lald C0 hM hv16 dL_law_1839 ?_
      refine lv_iload hx hb dL_law_1840 (lv_at hl 0 rfl) ?_
      refine lv_i2l (v := (Int32.toInt64 v10)) hx hb dL_law_1842 rfl ?_
      refine W.lcmp hx hb dL_law_1843 ?_
      refine lv_if_eq (tgt := 1849) hx hb dL_law_1844 (by decide) (fun c17 => ?_) (fun c17 => ?_)
      · replace hp := oT c17 hp
        refine lv_goto (tgt := 3302) hx hb dL_law_1849 (by decide) ?_
        cases hp
        refine W.widen (k := cells + 8) (n := slots + 48) (by omega) (by omega) ?_
        exact kk H locs ls hM (lv_sub hl [2, 3, 4, 5, 6, 7] rfl)
      · replace hp := oF c17 hp
        cases hp
  · replace hp := oF c14 hp
    cases hp
def pk_27 (L : Nat) (xs : Nat → Int32) (x0 mo od od2 : Nat) (i0 : Int32) (M : Mem) : Option Mem :=
  (Option.bind (xI L xs (i0 + (1 : Int32))) fun v1 =>
  (Option.bind (xI L xs (i0 + (2 : Int32))) fun v2 =>
  (ob2 (p_L_setCapacity x0 v1 v2 od M) fun v3 M4 =>
  (Option.bind (xI L xs (i0 + (1 : Int32))) fun v5 =>
  (Option.bind (xI L xs (i0 + (2 : Int32))) fun v6 =>
  (Option.bind (isC 6 M4 mo) fun _ =>
  (ob2 (p_X7_setCapacity mo v5 v6 M4) fun v8 M9 =>
  (Option.bind (isC 6 M9 mo) fun _ =>
  (Option.bind (p_X7_thrown mo M9) fun v11 =>
  (if v11 = v3 then
   (if v3 = 0 then
    (Option.bind (aL M9 od (0 : Int32)) fun v14 =>
    (if (lg_cmp v14 (Int32.toInt64 v8)) = 0 then
     some M9
    else
     none
    )
    )
   else
    some M9
   )
  else
   none
  )
  )
  )
  )
  )
  )
  )
  )
  )
  )
set_option maxHeartbeats 4000000 in
set_option maxRecDepth 100000 in
theorem wk_27 {G : gG} {p : Program} {l : Launch} {e : Env} {s : State} {m : MethodId} {args : Array Value} {below : List Frame} {meth : Method} {c : Code} {A : Nat → Prop} {Z : gZ} {Q : State → Prop} {cells slots b L : Nat} {xs : Nat → Int32} {x0 mo od od2 : Nat} {i0 : Int32} (C0 : cx G p s m args c cL_law RL 10 A) (hG : GOK G) (hZ : GS G Z) (hY : GY G) (hlf : l.stackTraces = false) (hX : va_X b L xs s s.heap) (hbl : b < s.heap.size) (hbA : ¬ A b) (hcs : cells + 8 ≤ room_1.cells ∧ slots + 48 ≤ room_1.slots) {M M' : Mem} {H : Heap} {locs : List Loc} {ls : Array Slot} (hM : mm G A s M H locs) (hl : lv_has ls 10 [(0, .ref b), (1, .ref x0), (2, .ref mo), (3, .ref od), (4, .ref od2), (5, .int i0)]) (hp : pk_27 L xs x0 mo od od2 i0 M = some M') (kk : ∀ (H : Heap) (locs : List Loc) (ls : Array Slot), mm G A s M' H locs → lv_has ls 10 [(0, .ref b), (1, .ref x0), (2, .ref mo), (3, .ref od), (4, .ref od2), (5, .int i0)] → W p l e room_1 s m args below meth c H locs (cells + 8) (slots + 48) Q (F0 m 3302 ls [])) : W p l e room_1 s m args below meth c H locs cells slots Q (F0 m 1852 ls []) := by
  have hx := C0.1
  have hb := C0.2.1
  have hown := C0.2.2.2.1
  have hts := C0.2.2.2.2.1
  obtain ⟨hc1, hs1⟩ := hcs
  unfold pk_27 at hp
  refine lv_aload_n hx hb dL_law_1852 rfl (lv_at hl 1 rfl) ?_
  refine lv_aload_n hx hb dL_law_1853 rfl (lv_at hl 0 rfl) ?_
  refine lv_iload hx hb dL_law_1854 (lv_at hl 5 rfl) ?_
  refine lv_iconst (v := 1) hx hb dL_law_1856 (by decide) ?_
  refine lv_iadd hx hb dL_law_1857 ?_
  obtain ⟨v1, hv1, hp⟩ := ob hp
  obtain ⟨hin, ev1⟩ := xI_at hv1
  refine va_sld hx hb hX hbl hbA hM.2.2 hin dL_law_1858 ?_
  rw [ev1]
  refine lv_aload_n hx hb dL_law_1859 rfl (lv_at hl 0 rfl) ?_
  refine lv_iload hx hb dL_law_1860 (lv_at hl 5 rfl) ?_
  refine lv_iconst (v := 2) hx hb dL_law_1862 (by decide) ?_
  refine lv_iadd hx hb dL_law_1863 ?_
  obtain ⟨v2, hv2, hp⟩ := ob hp
  obtain ⟨hin, ev2⟩ := xI_at hv2
  refine va_sld hx hb hX hbl hbA hM.2.2 hin dL_law_1864 ?_
  rw [ev2]
  refine lv_aload_n hx hb dL_law_1865 rfl (lv_at hl 3 rfl) ?_
  obtain ⟨v3, M4, hv3, hp⟩ := ob3 hp
  refine ml_S1 (As := [.ref x0, .int v1, .int v2, .ref od]) (rest := []) C0 hM (w_L_setCapacity hG hY hlf hv3) tw_1041 tw_1042 tw_0 twh_1043 yk_L_setCapacity ⟨⟨rfl, rfl⟩, ⟨by decide, by decide⟩, by omega, by omega⟩ rfl hl.1 (Nat.le_of_ble_eq_true rfl) dL_law_1866 rfl (fun H locs hM => ?_)
  refine lv_istore (lv' := [(6, .int v3), (0, .ref b), (1, .ref x0), (2, .ref mo), (3, .ref od), (4, .ref od2), (5, .int i0)]) hx hb dL_law_1869 hl (by decide) rfl (fun ls hl => ?_)
  refine lv_aload_n hx hb dL_law_1871 rfl (lv_at hl 3 rfl) ?_
  refine lv_aload_n hx hb dL_law_1872 rfl (lv_at hl 1 rfl) ?_
  refine lv_iload hx hb dL_law_1873 (lv_at hl 6 rfl) ?_
  refine lv_iconst (v := 1) hx hb dL_law_1875 (by decide) ?_
  refine lv_iadd hx hb dL_law_1876 ?_
  obtain ⟨v5, hv5, hp⟩ := ob hp
  obtain ⟨hin, ev5⟩ := xI_at hv5
  refine va_sld hx hb hX hbl hbA hM.2.2 hin dL_law_1877 ?_
  rw [ev5]
  refine lv_aload_n hx hb dL_law_1878 rfl (lv_at hl 1 rfl) ?_
  refine lv_iload hx hb dL_law_1879 (lv_at hl 6 rfl) ?_
  refine lv_iconst (v := 2) hx hb dL_law_1881 (by decide) ?_
  refine lv_iadd hx hb dL_law_1882 ?_
  obtain ⟨v6, hv6, hp⟩ := ob hp
  obtain ⟨hin, ev6⟩ := xI_at hv6
  refine va_sld hx hb hX hbl hbA hM.2.2 hin dL_law_1883 ?_
  rw [ev6]
  obtain ⟨_, h7, hp⟩ := ob hp
  obtain ⟨v8, M9, hv8, hp⟩ := ob3 hp
  refine mg_V1 (As := [.int v5, .int v6]) (rest := []) C0 cbX7 hM h7 rfl (w_X7_setCapacity hG hv8) tw_1671 tw_1672 tw_1673 tw_7 tw_1674 yk_X7_setCapacity ⟨⟨rfl, rfl⟩, ⟨by decide, by decide⟩, by omega, by omega⟩ rfl hl.1 (Nat.le_of_ble_eq_true rfl) dL_law_1884 rfl (fun H locs hM => ?_)
  refine lv_istore (lv' := [(7, .int v8), (6, .int v3), (0, .ref b), (1, .ref x0), (2, .ref mo), (3, .ref od), (4, .ref od2), (5, .int i0)]) hx hb dL_law_1887 hl (by decide) rfl (fun ls hl => ?_)
  refine lv_aload_n hx hb dL_law_1889 rfl (lv_at hl 4 rfl) ?_
  obtain ⟨_, h10, hp⟩ := ob hp
  obtain ⟨v11, hv11, hp⟩ := ob hp
  refine mg_V1 (As := []) (rest := []) C0 cbX7 hM h10 rfl (w_X7_thrown hG hv11) tw_1309 tw_1310 tw_1311 tw_7 tw_1312 yk_X7_thrown ⟨⟨rfl, rfl⟩, ⟨by decide, by decide⟩, by omega, by omega⟩ rfl hl.1 (Nat.le_of_ble_eq_true rfl) dL_law_1890 rfl (fun H locs hM => ?_)
  refine lv_iload hx hb dL_law_1893 (lv_at hl 1 rfl) ?_
  refine lv_icmp_eq (tgt := 1900) hx hb dL_law_1895 (by decide) (fun c12 => ?_) (fun c12 => ?_)
  · replace hp := oT c12 hp
    refine lv_iload hx hb dL_law_1900 (lv_at hl 1 rfl) ?_
    refine lv_if_ne (tgt := 1917) hx hb dL_law_1902 (by decide) (fun c13 => ?_) (fun c13 => ?_)
    · replace hp := oF c13 hp
      refine lv_goto (tgt := 3302) hx hb dL_law_1917 (by decide) ?_
      cases hp
      refine W.widen (k := cells + 8) (n := slots + 48) (by omega) (by omega) ?_
      exact kk H locs ls hM (lv_sub hl [2, 3, 4, 5, 6, 7] rfl)
    · replace hp := oT c13 hp
      refine lv_aload_n hx hb dL_law_1905 rfl (lv_at hl 5 rfl) ?_
      refine lv_iconst (v := 0) hx hb dL_law_1906 (by decide) ?_
      obtain ⟨v14, hv14, hp⟩ := ob hp
      refine mr_lald C0 hM hv14 dL_law_1907 ?_
      refine lv_iload hx hb dL_law_1908 (lv_at hl 0 rfl) ?_
      refine lv_i2l (v := (Int32.toInt64 v8)) hx hb dL_law_1910 rfl ?_
      refine W.lcmp hx hb dL_law_1911 ?_
      refine lv_if_eq (tgt := 1917) hx hb dL_law_1912 (by decide) (fun c15 => ?_) (fun c15 => ?_)
      · replace hp := oT c15 hp
        refine lv_goto (tgt := 3302) hx hb dL_law_1917 (by decide) ?_
        cases hp
        refine W.widen (k := cells + 8) (n := slots + 48) (by omega) (by omega) ?_
        exact kk H locs ls hM (lv_sub hl [2, 3, 4, 5, 6, 7] rfl)
      · replace hp := oF c15 hp
        cases hp
  · replace hp := oF c12 hp
    cases hp
def pk_28 (L : Nat) (xs : Nat → Int32) (x0 mo od od2 : Nat) (i0 : Int32) (M : Mem) : Option Mem :=
  (Option.bind (xI L xs (i0 + (1 : Int32))) fun v1 =>
  (Option.bind (xI L xs (i0 + (2 : Int32))) fun v2 =>
  (ob2 (p_L_appeal x0 v1 v2 od M) fun v3 M4 =>
  (Option.bind (xI L xs (i0 + (1 : Int32))) fun v5 =>
  (Option.bind (xI L xs (i0 + (2 : Int32))) fun v6 =>
  (Option.bind (isC 6 M4 mo) fun _ =>
  (ob2 (p_X7_appeal mo v5 v6 M4) fun v8 M9 =>
  (Option.bind (isC 6 M9 mo) fun _ =>
  (Option.bind (p_X7_thrown mo M9) fun v11 =>
  (if v11 = v3 then
   (if v3 = 0 then
    (Option.bind (aL M9 od (0 : Int32)) fun v14 =>
    (if (lg_cmp v14 (Int32.toInt64 v8)) = 0 then
     some M9
    else
     none
    )
    )
   else
    some M9
   )
  else
   none
  )
  )
  )
  )
  )
  )
  )
  )
  )
  )
set_option maxHeartbeats 4000000 in
set_option maxRecDepth 100000 in
theorem wk_28 {G : gG} {p : Program} {l : Launch} {e : Env} {s : State} {m : MethodId} {args : Array Value} {below : List Frame} {meth : Method} {c : Code} {A : Nat → Prop} {Z : gZ} {Q : State → Prop} {cells slots b L : Nat} {xs : Nat → Int32} {x0 mo od od2 : Nat} {i0 : Int32} (C0 : cx G p s m args c cL_law RL 10 A) (hG : GOK G) (hZ : GS G Z) (hY : GY G) (hlf : l.stackTraces = false) (hX : va_X b L xs s s.heap) (hbl : b < s.heap.size) (hbA : ¬ A b) (hcs : cells + 8 ≤ room_1.cells ∧ slots + 48 ≤ room_1.slots) {M M' : Mem} {H : Heap} {locs : List Loc} {ls : Array Slot} (hM : mm G A s M H locs) (hl : lv_has ls 10 [(0, .ref b), (1, .ref x0), (2, .ref mo), (3, .ref od), (4, .ref od2), (5, .int i0)]) (hp : pk_28 L xs x0 mo od od2 i0 M = some M') (kk : ∀ (H : Heap) (locs : List Loc) (ls : Array Slot), mm G A s M' H locs → lv_has ls 10 [(0, .ref b), (1, .ref x0), (2, .ref mo), (3, .ref od), (4, .ref od2), (5, .int i0)] → W p l e room_1 s m args below meth c H locs (cells + 8) (slots + 48) Q (F0 m 3302 ls [])) : W p l e room_1 s m args below meth c H locs cells slots Q (F0 m 1920 ls []) := by
  have hx := C0.1
  have hb := C0.2.1
  have hown := C0.2.2.2.1
  have hts := C0.2.2.2.2.1
  obtain ⟨hc1, hs1⟩ := hcs
  unfold pk_28 at hp
  refine lv_aload_n hx hb dL_law_1920 rfl (lv_at hl 1 rfl) ?_
  refine lv_aload_n hx hb dL_law_1921 rfl (lv_at hl 0 rfl) ?_
  refine lv_iload hx hb dL_law_1922 (lv_at hl 5 rfl) ?_
  refine lv_iconst (v := 1) hx hb dL_law_1924 (by decide) ?_
  refine lv_iadd hx hb dL_law_1925 ?_
  obtain ⟨v1, hv1, hp⟩ := ob hp
  obtain ⟨hin, ev1⟩ := xI_at hv1
  refine va_sld hx hb hX hbl hbA hM.2.2 hin dL_law_1926 ?_
  rw [ev1]
  refine lv_aload_n hx hb dL_law_1927 rfl (lv_at hl 0 rfl) ?_
  refine lv_iload hx hb dL_law_1928 (lv_at hl 5 rfl) ?_
  refine lv_iconst (v := 2) hx hb dL_law_1930 (by decide) ?_
  refine lv_iadd hx hb dL_law_1931 ?_
  obtain ⟨v2, hv2, hp⟩ := ob hp
  obtain ⟨hin, ev2⟩ := xI_at hv2
  refine va_sld hx hb hX hbl hbA hM.2.2 hin dL_law_1932 ?_
  rw [ev2]
  refine lv_aload_n hx hb dL_law_1933 rfl (lv_at hl 3 rfl) ?_
  obtain ⟨v3, M4, hv3, hp⟩ := ob3 hp
  refine ml_S1 (As := [.ref x0, .int v1, .int v2, .ref od]) (rest := []) C0 hM (w_L_appeal hG hY hlf hv3) tw_1052 tw_1053 tw_0 twh_1054 yk_L_appeal ⟨⟨rfl, rfl⟩, ⟨by decide, by decide⟩, by omega, by omega⟩ rfl hl.1 (Nat.le_of_ble_eq_true rfl) dL_law_1934 rfl (fun H locs hM => ?_)
  refine lv_istore (lv' := [(6, .int v3), (0, .ref b), (1, .ref x0), (2, .ref mo), (3, .ref od), (4, .ref od2), (5, .int i0)]) hx hb dL_law_1937 hl (by decide) rfl (fun ls hl => ?_)
  refine lv_aload_n hx hb dL_law_1939 rfl (lv_at hl 3 rfl) ?_
  refine lv_aload_n hx hb dL_law_1940 rfl (lv_at hl 1 rfl) ?_
  refine lv_iload hx hb dL_law_1941 (lv_at hl 6 rfl) ?_
  refine lv_iconst (v := 1) hx hb dL_law_1943 (by decide) ?_
  refine lv_iadd hx hb dL_law_1944 ?_
  obtain ⟨v5, hv5, hp⟩ := ob hp
  obtain ⟨hin, ev5⟩ := xI_at hv5
  refine va_sld hx hb hX hbl hbA hM.2.2 hin dL_law_1945 ?_
  rw [ev5]
  refine lv_aload_n hx hb dL_law_1946 rfl (lv_at hl 1 rfl) ?_
  refine lv_iload hx hb dL_law_1947 (lv_at hl 6 rfl) ?_
  refine lv_iconst (v := 2) hx hb dL_law_1949 (by decide) ?_
  refine lv_iadd hx hb dL_law_1950 ?_
  obtain ⟨v6, hv6, hp⟩ := ob hp
  obtain ⟨hin, ev6⟩ := xI_at hv6
  refine va_sld hx hb hX hbl hbA hM.2.2 hin dL_law_1951 ?_
  rw [ev6]
  obtain ⟨_, h7, hp⟩ := ob hp
  obtain ⟨v8, M9, hv8, hp⟩ := ob3 hp
  refine mg_V1 (As := [.int v5, .int v6]) (rest := []) C0 cbX7 hM h7 rfl (w_X7_appeal hG hv8) tw_1675 tw_1676 tw_1677 tw_7 tw_1678 yk_X7_appeal ⟨⟨rfl, rfl⟩, ⟨by decide, by decide⟩, by omega, by omega⟩ rfl hl.1 (Nat.le_of_ble_eq_true rfl) dL_law_1952 rfl (fun H locs hM => ?_)
  refine lv_istore (lv' := [(7, .int v8), (6, .int v3), (0, .ref b), (1, .ref x0), (2, .ref mo), (3, .ref od), (4, .ref od2), (5, .int i0)]) hx hb dL_law_1955 hl (by decide) rfl (fun ls hl => ?_)
  refine lv_aload_n hx hb dL_law_1957 rfl (lv_at hl 4 rfl) ?_
  obtain ⟨_, h10, hp⟩ := ob hp
  obtain ⟨v11, hv11, hp⟩ := ob hp
  refine mg_V1 (As := []) (rest := []) C0 cbX7 hM h10 rfl (w_X7_thrown hG hv11) tw_1309 tw_1310 tw_1311 tw_7 tw_1312 yk_X7_thrown ⟨⟨rfl, rfl⟩, ⟨by decide, by decide⟩, by omega, by omega⟩ rfl hl.1 (Nat.le_of_ble_eq_true rfl) dL_law_1958 rfl (fun H locs hM => ?_)
  refine lv_iload hx hb dL_law_1961 (lv_at hl 1 rfl) ?_
  refine lv_icmp_eq (tgt := 1968) hx hb dL_law_1963 (by decide) (fun c12 => ?_) (fun c12 => ?_)
  · replace hp := oT c12 hp
    refine lv_iload hx hb dL_law_1968 (lv_at hl 1 rfl) ?_
    refine lv_if_ne (tgt := 1985) hx hb dL_law_1970 (by decide) (fun c13 => ?_) (fun c13 => ?_)
    · replace hp := oF c13 hp
      refine lv_goto (tgt := 3302) hx hb dL_law_1985 (by decide) ?_
      cases hp
      refine W.widen (k := cells + 8) (n := slots + 48) (by omega) (by omega) ?_
      exact kk H locs ls hM (lv_sub hl [2, 3, 4, 5, 6, 7] rfl)
    · replace hp := oT c13 hp
      refine lv_aload_n hx hb dL_law_1973 rfl (lv_at hl 5 rfl) ?_
      refine lv_iconst (v := 0) hx hb dL_law_1974 (by decide) ?_
      obtain ⟨v14, hv14, hp⟩ := ob hp
      refine mr_lald C0 hM hv14 dL_law_1975 ?_
      refine lv_iload hx hb dL_law_1976 (lv_at hl 0 rfl) ?_
      refine lv_i2l (v := (Int32.toInt64 v8)) hx hb dL_law_1978 rfl ?_
      refine W.lcmp hx hb dL_law_1979 ?_
      refine lv_if_eq (tgt := 1985) hx hb dL_law_1980 (by decide) (fun c15 => ?_) (fun c15 => ?_)
      · replace hp := oT c15 hp
        refine lv_goto (tgt := 3302) hx hb dL_law_1985 (by decide) ?_
        cases hp
        refine W.widen (k := cells + 8) (n := slots + 48) (by omega) (by omega) ?_
        exact kk H locs ls hM (lv_sub hl [2, 3, 4, 5, 6, 7] rfl)
      · replace hp := oF c15 hp
        cases hp
  · replace hp := oF c12 hp
    cases hp
def pk_29 (L : Nat) (xs : Nat → Int32) (x0 mo od od2 : Nat) (i0 : Int32) (M : Mem) : Option Mem :=
  (Option.bind (xI L xs (i0 + (1 : Int32))) fun v1 =>
  (jn (fun (s2 : Int32) =>
   (Option.bind (isC 5 M x0) fun _ =>
   (ob2 (p_X6_setLate x0 s2 M) fun v5 M6 =>
   (Option.bind (xI L xs (i0 + (1 : Int32))) fun v7 =>
   (jn (fun (s8 : Int32) =>
    (Option.bind (isC 6 M6 mo) fun _ =>
    (ob2 (p_X7_setLate mo s8 M6) fun v11 M12 =>
    (if v5 = v11 then
     some M12
    else
     none
    )
    )
    )
   ) fun k9 =>
   (if v7 = 0 then
    (k9 (0 : Int32))
   else
    (k9 (1 : Int32))
   )
   )
   )
   )
   )
  ) fun k3 =>
  (if v1 = 0 then
   (k3 (0 : Int32))
  else
   (k3 (1 : Int32))
  )
  )
  )
set_option maxHeartbeats 4000000 in
set_option maxRecDepth 100000 in
theorem wk_29 {G : gG} {p : Program} {l : Launch} {e : Env} {s : State} {m : MethodId} {args : Array Value} {below : List Frame} {meth : Method} {c : Code} {A : Nat → Prop} {Z : gZ} {Q : State → Prop} {cells slots b L : Nat} {xs : Nat → Int32} {x0 mo od od2 : Nat} {i0 : Int32} (C0 : cx G p s m args c cL_law RL 10 A) (hG : GOK G) (hZ : GS G Z) (hY : GY G) (hlf : l.stackTraces = false) (hX : va_X b L xs s s.heap) (hbl : b < s.heap.size) (hbA : ¬ A b) (hcs : cells + 8 ≤ room_1.cells ∧ slots + 48 ≤ room_1.slots) {M M' : Mem} {H : Heap} {locs : List Loc} {ls : Array Slot} (hM : mm G A s M H locs) (hl : lv_has ls 10 [(0, .ref b), (1, .ref x0), (2, .ref mo), (3, .ref od), (4, .ref od2), (5, .int i0)]) (hp : pk_29 L xs x0 mo od od2 i0 M = some M') (kk : ∀ (H : Heap) (locs : List Loc) (ls : Array Slot), mm G A s M' H locs → lv_has ls 10 [(0, .ref b), (1, .ref x0), (2, .ref mo), (3, .ref od), (4, .ref od2), (5, .int i0)] → W p l e room_1 s m args below meth c H locs (cells + 8) (slots + 48) Q (F0 m 3302 ls [])) : W p l e room_1 s m args below meth c H locs cells slots Q (F0 m 1988 ls []) := by
  have hx := C0.1
  have hb := C0.2.1
  have hown := C0.2.2.2.1
  have hts := C0.2.2.2.2.1
  obtain ⟨hc1, hs1⟩ := hcs
  unfold pk_29 at hp
  refine lv_aload_n hx hb dL_law_1988 rfl (lv_at hl 1 rfl) ?_
  refine lv_aload_n hx hb dL_law_1989 rfl (lv_at hl 0 rfl) ?_
  refine lv_iload hx hb dL_law_1990 (lv_at hl 5 rfl) ?_
  refine lv_iconst (v := 1) hx hb dL_law_1992 (by decide) ?_
  refine lv_iadd hx hb dL_law_1993 ?_
  obtain ⟨v1, hv1, hp⟩ := ob hp
  obtain ⟨hin, ev1⟩ := xI_at hv1
  refine va_sld hx hb hX hbl hbA hM.2.2 hin dL_law_1994 ?_
  rw [ev1]
  obtain ⟨k3, ek3, hp⟩ := ojn hp
  have hk3 : ∀ (s2 : Int32) (H : Heap) (locs : List Loc) (ls : Array Slot), mm G A s M H locs → lv_has ls 10 [(0, .ref b), (1, .ref x0), (2, .ref mo), (3, .ref od), (4, .ref od2), (5, .int i0)] → k3 s2 = some M' → W p l e room_1 s m args below meth c H locs cells slots Q (F0 m 2003 ls [.int s2, .ref x0]) := by
    intro s2 H locs ls hM hl hp
    rw [ek3] at hp
    obtain ⟨_, h4, hp⟩ := ob hp
    obtain ⟨v5, M6, hv5, hp⟩ := ob3 hp
    refine mg_V1 (As := [.int s2]) (rest := []) C0 cbX6 hM h4 rfl (w_X6_setLate hG hv5) tw_628 tw_629 tw_630 tw_1 tw_631 yk_X6_setLate ⟨⟨rfl, rfl⟩, ⟨by decide, by decide⟩, by omega, by omega⟩ rfl hl.1 (Nat.le_of_ble_eq_true rfl) dL_law_2003 rfl (fun H locs hM => ?_)
    refine lv_aload_n hx hb dL_law_2006 rfl (lv_at hl 2 rfl) ?_
    refine lv_aload_n hx hb dL_law_2007 rfl (lv_at hl 0 rfl) ?_
    refine lv_iload hx hb dL_law_2008 (lv_at hl 5 rfl) ?_
    refine lv_iconst (v := 1) hx hb dL_law_2010 (by decide) ?_
    refine lv_iadd hx hb dL_law_2011 ?_
    obtain ⟨v7, hv7, hp⟩ := ob hp
    obtain ⟨hin, ev7⟩ := xI_at hv7
    refine va_sld hx hb hX hbl hbA hM.2.2 hin dL_law_2012 ?_
    rw [ev7]
    obtain ⟨k9, ek9, hp⟩ := ojn hp
    have hk9 : ∀ (s8 : Int32) (H : Heap) (locs : List Loc) (ls : Array Slot), mm G A s M6 H locs → lv_has ls 10 [(0, .ref b), (1, .ref x0), (2, .ref mo), (3, .ref od), (4, .ref od2), (5, .int i0)] → k9 s8 = some M' → W p l e room_1 s m args below meth c H locs cells slots Q (F0 m 2021 ls [.int s8, .ref mo, .int v5]) := by
      intro s8 H locs ls hM hl hp
      rw [ek9] at hp
      obtain ⟨_, h10, hp⟩ := ob hp
      obtain ⟨v11, M12, hv11, hp⟩ := ob3 hp
      refine mg_V1 (As := [.int s8]) (rest := [.int v5]) C0 cbX7 hM h10 rfl (w_X7_setLate hG hv11) tw_1679 tw_1680 tw_1681 tw_7 tw_1682 yk_X7_setLate ⟨⟨rfl, rfl⟩, ⟨by decide, by decide⟩, by omega, by omega⟩ rfl hl.1 (Nat.le_of_ble_eq_true rfl) dL_law_2021 rfl (fun H locs hM => ?_)
      refine lv_icmp_eq (tgt := 3302) hx hb dL_law_2024 (by decide) (fun c13 => ?_) (fun c13 => ?_)
      · replace hp := oT c13 hp
        cases hp
        refine W.widen (k := cells + 8) (n := slots + 48) (by omega) (by omega) ?_
        exact kk H locs ls hM (lv_sub hl [0, 1, 2, 3, 4, 5] rfl)
      · replace hp := oF c13 hp
        cases hp
    refine lv_if_eq (tgt := 2020) hx hb dL_law_2013 (by decide) (fun c14 => ?_) (fun c14 => ?_)
    · replace hp := oT c14 hp
      refine lv_iconst (v := 0) hx hb dL_law_2020 (by decide) ?_
      exact hk9 _ _ _ _ hM (lv_sub hl [0, 1, 2, 3, 4, 5] rfl) hp
    · replace hp := oF c14 hp
      refine lv_iconst (v := 1) hx hb dL_law_2016 (by decide) ?_
      refine lv_goto (tgt := 2021) hx hb dL_law_2017 (by decide) ?_
      exact hk9 _ _ _ _ hM (lv_sub hl [0, 1, 2, 3, 4, 5] rfl) hp
  refine lv_if_eq (tgt := 2002) hx hb dL_law_1995 (by decide) (fun c15 => ?_) (fun c15 => ?_)
  · replace hp := oT c15 hp
    refine lv_iconst (v := 0) hx hb dL_law_2002 (by decide) ?_
    exact hk3 _ _ _ _ hM (lv_sub hl [0, 1, 2, 3, 4, 5] rfl) hp
  · replace hp := oF c15 hp
    refine lv_iconst (v := 1) hx hb dL_law_1998 (by decide) ?_
    refine lv_goto (tgt := 2003) hx hb dL_law_1999 (by decide) ?_
    exact hk3 _ _ _ _ hM (lv_sub hl [0, 1, 2, 3, 4, 5] rfl) hp
def pk_30 (L : Nat) (xs : Nat → Int32) (x0 mo od od2 : Nat) (i0 : Int32) (M : Mem) : Option Mem :=
  (Option.bind (xI L xs (i0 + (1 : Int32))) fun v1 =>
  (ob2 (p_L_lastHolder x0 v1 od M) fun v2 M3 =>
  (Option.bind (xI L xs (i0 + (1 : Int32))) fun v4 =>
  (Option.bind (isC 6 M3 mo) fun _ =>
  (ob2 (p_X7_lastHolder mo v4 M3) fun v6 M7 =>
  (Option.bind (isC 6 M7 mo) fun _ =>
  (Option.bind (p_X7_thrown mo M7) fun v9 =>
  (if v9 = v2 then
   (if v2 = 0 then
    (Option.bind (aL M7 od (0 : Int32)) fun v12 =>
    (if (lg_cmp v12 (Int32.toInt64 v6)) = 0 then
     some M7
    else
     none
    )
    )
   else
    some M7
   )
  else
   none
  )
  )
  )
  )
  )
  )
  )
  )
set_option maxHeartbeats 4000000 in
set_option maxRecDepth 100000 in
theorem wk_30 {G : gG} {p : Program} {l : Launch} {e : Env} {s : State} {m : MethodId} {args : Array Value} {below : List Frame} {meth : Method} {c : Code} {A : Nat → Prop} {Z : gZ} {Q : State → Prop} {cells slots b L : Nat} {xs : Nat → Int32} {x0 mo od od2 : Nat} {i0 : Int32} (C0 : cx G p s m args c cL_law RL 10 A) (hG : GOK G) (hZ : GS G Z) (hY : GY G) (hlf : l.stackTraces = false) (hX : va_X b L xs s s.heap) (hbl : b < s.heap.size) (hbA : ¬ A b) (hcs : cells + 8 ≤ room_1.cells ∧ slots + 48 ≤ room_1.slots) {M M' : Mem} {H : Heap} {locs : List Loc} {ls : Array Slot} (hM : mm G A s M H locs) (hl : lv_has ls 10 [(0, .ref b), (1, .ref x0), (2, .ref mo), (3, .ref od), (4, .ref od2), (5, .int i0)]) (hp : pk_30 L xs x0 mo od od2 i0 M = some M') (kk : ∀ (H : Heap) (locs : List Loc) (ls : Array Slot), mm G A s M' H locs → lv_has ls 10 [(0, .ref b), (1, .ref x0), (2, .ref mo), (3, .ref od), (4, .ref od2), (5, .int i0)] → W p l e room_1 s m args below meth c H locs (cells + 8) (slots + 48) Q (F0 m 3302 ls [])) : W p l e room_1 s m args below meth c H locs cells slots Q (F0 m 2029 ls []) := by
  have hx := C0.1
  have hb := C0.2.1
  have hown := C0.2.2.2.1
  have hts := C0.2.2.2.2.1
  obtain ⟨hc1, hs1⟩ := hcs
  unfold pk_30 at hp
  refine lv_aload_n hx hb dL_law_2029 rfl (lv_at hl 1 rfl) ?_
  refine lv_aload_n hx hb dL_law_2030 rfl (lv_at hl 0 rfl) ?_
  refine lv_iload hx hb dL_law_2031 (lv_at hl 5 rfl) ?_
  refine lv_iconst (v := 1) hx hb dL_law_2033 (by decide) ?_
  refine lv_iadd hx hb dL_law_2034 ?_
  obtain ⟨v1, hv1, hp⟩ := ob hp
  obtain ⟨hin, ev1⟩ := xI_at hv1
  refine va_sld hx hb hX hbl hbA hM.2.2 hin dL_law_2035 ?_
  rw [ev1]
  refine lv_aload_n hx hb dL_law_2036 rfl (lv_at hl 3 rfl) ?_
  obtain ⟨v2, M3, hv2, hp⟩ := ob3 hp
  refine ml_S1 (As := [.ref x0, .int v1, .ref od]) (rest := []) C0 hM (w_L_lastHolder hG hY hlf hv2) tw_1065 tw_1066 tw_0 twh_1067 yk_L_lastHolder ⟨⟨rfl, rfl⟩, ⟨by decide, by decide⟩, by omega, by omega⟩ rfl hl.1 (Nat.le_of_ble_eq_true rfl) dL_law_2037 rfl (fun H locs hM => ?_)
  refine lv_istore (lv' := [(6, .int v2), (0, .ref b), (1, .ref x0), (2, .ref mo), (3, .ref od), (4, .ref od2), (5, .int i0)]) hx hb dL_law_2040 hl (by decide) rfl (fun ls hl => ?_)
  refine lv_aload_n hx hb dL_law_2042 rfl (lv_at hl 3 rfl) ?_
  refine lv_aload_n hx hb dL_law_2043 rfl (lv_at hl 1 rfl) ?_
  refine lv_iload hx hb dL_law_2044 (lv_at hl 6 rfl) ?_
  refine lv_iconst (v := 1) hx hb dL_law_2046 (by decide) ?_
  refine lv_iadd hx hb dL_law_2047 ?_
  obtain ⟨v4, hv4, hp⟩ := ob hp
  obtain ⟨hin, ev4⟩ := xI_at hv4
  refine va_sld hx hb hX hbl hbA hM.2.2 hin dL_law_2048 ?_
  rw [ev4]
  obtain ⟨_, h5, hp⟩ := ob hp
  obtain ⟨v6, M7, hv6, hp⟩ := ob3 hp
  refine mg_V1 (As := [.int v4]) (rest := []) C0 cbX7 hM h5 rfl (w_X7_lastHolder hG hv6) tw_1683 tw_1684 tw_1685 tw_7 tw_1686 yk_X7_lastHolder ⟨⟨rfl, rfl⟩, ⟨by decide, by decide⟩, by omega, by omega⟩ rfl hl.1 (Nat.le_of_ble_eq_true rfl) dL_law_2049 rfl (fun H locs hM => ?_)
  refine lv_istore (lv' := [(7, .int v6), (6, .int v2), (0, .ref b), (1, .ref x0), (2, .ref mo), (3, .ref od), (4, .ref od2), (5, .int i0)]) hx hb dL_law_2052 hl (by decide) rfl (fun ls hl => ?_)
  refine lv_aload_n hx hb dL_law_2054 rfl (lv_at hl 4 rfl) ?_
  obtain ⟨_, h8, hp⟩ := ob hp
  obtain ⟨v9, hv9, hp⟩ := ob hp
  refine mg_V1 (As := []) (rest := []) C0 cbX7 hM h8 rfl (w_X7_thrown hG hv9) tw_1309 tw_1310 tw_1311 tw_7 tw_1312 yk_X7_thrown ⟨⟨rfl, rfl⟩, ⟨by decide, by decide⟩, by omega, by omega⟩ rfl hl.1 (Nat.le_of_ble_eq_true rfl) dL_law_2055 rfl (fun H locs hM => ?_)
  refine lv_iload hx hb dL_law_2058 (lv_at hl 1 rfl) ?_
  refine lv_icmp_eq (tgt := 2065) hx hb dL_law_2060 (by decide) (fun c10 => ?_) (fun c10 => ?_)
  · replace hp := oT c10 hp
    refine lv_iload hx hb dL_law_2065 (lv_at hl 1 rfl) ?_
    refine lv_if_ne (tgt := 2082) hx hb dL_law_2067 (by decide) (fun c11 => ?_) (fun c11 => ?_)
    · replace hp := oF c11 hp
      refine lv_goto (tgt := 3302) hx hb dL_law_2082 (by decide) ?_
      cases hp
      refine W.widen (k := cells + 8) (n := slots + 48) (by omega) (by omega) ?_
      exact kk H locs ls hM (lv_sub hl [2, 3, 4, 5, 6, 7] rfl)
    · replace hp := oT c11 hp
      refine lv_aload_n hx hb dL_law_2070 rfl (lv_at hl 5 rfl) ?_
      refine lv_iconst (v := 0) hx hb dL_law_2071 (by decide) ?_
      obtain ⟨v12, hv12, hp⟩ := ob hp
      refine mr_lald C0 hM hv12 dL_law_2072 ?_
      refine lv_iload hx hb dL_law_2073 (lv_at hl 0 rfl) ?_
      refine lv_i2l (v := (Int32.toInt64 v6)) hx hb dL_law_2075 rfl ?_
      refine W.lcmp hx hb dL_law_2076 ?_
      refine lv_if_eq (tgt := 2082) hx hb dL_law_2077 (by decide) (fun c13 => ?_) (fun c13 => ?_)
      · replace hp := oT c13 hp
        refine lv_goto (tgt := 3302) hx hb dL_law_2082 (by decide) ?_
        cases hp
        refine W.widen (k := cells + 8) (n := slots + 48) (by omega) (by omega) ?_
        exact kk H locs ls hM (lv_sub hl [2, 3, 4, 5, 6, 7] rfl)
      · replace hp := oF c13 hp
        cases hp
  · replace hp := oF c10 hp
    cases hp
def pk_31 (L : Nat) (xs : Nat → Int32) (x0 mo od od2 : Nat) (i0 : Int32) (M : Mem) : Option Mem :=
  (Option.bind (isC 5 M x0) fun _ =>
  (Option.bind (p_X6_firstShare x0 M) fun v2 =>
  (jn (FP.f2d v2) fun w3 =>
  (if w3 &&& 0x7fffffffffffffff ≤ 0x7ff0000000000000 then
  (Option.bind (isC 6 M mo) fun _ =>
  (ob2 (p_X7_firstShare mo M) fun v5 M6 =>
  (jn (FP.f2d v5) fun w7 =>
  (if w7 &&& 0x7fffffffffffffff ≤ 0x7ff0000000000000 then
  (if (Op.cmpValue (FP.dcmp w3 w7) .l) = 0 then
   some M6
  else
   (if (Op.cmpValue (FP.dcmp w3 w3) .l) = 0 then
    none
   else
    (if (Op.cmpValue (FP.dcmp w7 w7) .l) = 0 then
     none
    else
     some M6
    )
   )
  )
  else none))
  )
  )
  else none))
  )
  )
set_option maxHeartbeats 4000000 in
set_option maxRecDepth 100000 in
theorem wk_31 {G : gG} {p : Program} {l : Launch} {e : Env} {s : State} {m : MethodId} {args : Array Value} {below : List Frame} {meth : Method} {c : Code} {A : Nat → Prop} {Z : gZ} {Q : State → Prop} {cells slots b L : Nat} {xs : Nat → Int32} {x0 mo od od2 : Nat} {i0 : Int32} (C0 : cx G p s m args c cL_law RL 10 A) (hG : GOK G) (hZ : GS G Z) (hY : GY G) (hlf : l.stackTraces = false) (hX : va_X b L xs s s.heap) (hbl : b < s.heap.size) (hbA : ¬ A b) (hcs : cells + 8 ≤ room_1.cells ∧ slots + 48 ≤ room_1.slots) {M M' : Mem} {H : Heap} {locs : List Loc} {ls : Array Slot} (hM : mm G A s M H locs) (hl : lv_has ls 10 [(0, .ref b), (1, .ref x0), (2, .ref mo), (3, .ref od), (4, .ref od2), (5, .int i0)]) (hp : pk_31 L xs x0 mo od od2 i0 M = some M') (kk : ∀ (H : Heap) (locs : List Loc) (ls : Array Slot), mm G A s M' H locs → lv_has ls 10 [(0, .ref b), (1, .ref x0), (2, .ref mo), (3, .ref od), (4, .ref od2), (5, .int i0)] → W p l e room_1 s m args below meth c H locs (cells + 8) (slots + 48) Q (F0 m 3302 ls [])) : W p l e room_1 s m args below meth c H locs cells slots Q (F0 m 2085 ls []) := by
  have hx := C0.1
  have hb := C0.2.1
  have hown := C0.2.2.2.1
  have hts := C0.2.2.2.2.1
  obtain ⟨hc1, hs1⟩ := hcs
  unfold pk_31 at hp
  refine lv_aload_n hx hb dL_law_2085 rfl (lv_at hl 1 rfl) ?_
  obtain ⟨_, h1, hp⟩ := ob hp
  obtain ⟨v2, hv2, hp⟩ := ob hp
  refine mg_V1 (As := []) (rest := []) C0 cbX6 hM h1 rfl (w_X6_firstShare hG hv2) tw_653 tw_654 tw_655 tw_1 tw_656 yk_X6_firstShare ⟨⟨rfl, rfl⟩, ⟨by decide, by decide⟩, by omega, by omega⟩ rfl hl.1 (Nat.le_of_ble_eq_true rfl) dL_law_2086 rfl (fun H locs hM => ?_)
  obtain ⟨w3, ew3, hp⟩ := ojn hp
  obtain ⟨hne, hp⟩ := oG hp
  refine lv_f2d hx hb dL_law_2089 (by rw [← ew3]; exact hne) ?_
  rw [← ew3]
  refine lv_dstore (lv' := [(6, .double w3), (0, .ref b), (1, .ref x0), (2, .ref mo), (3, .ref od), (4, .ref od2), (5, .int i0)]) hx hb dL_law_2090 hl (by decide) rfl (fun ls hl => ?_)
  refine lv_aload_n hx hb dL_law_2092 rfl (lv_at hl 3 rfl) ?_
  obtain ⟨_, h4, hp⟩ := ob hp
  obtain ⟨v5, M6, hv5, hp⟩ := ob3 hp
  refine mg_V1 (As := []) (rest := []) C0 cbX7 hM h4 rfl (w_X7_firstShare hG hv5) tw_1687 tw_1688 tw_1689 tw_7 tw_1690 yk_X7_firstShare ⟨⟨rfl, rfl⟩, ⟨by decide, by decide⟩, by omega, by omega⟩ rfl hl.1 (Nat.le_of_ble_eq_true rfl) dL_law_2093 rfl (fun H locs hM => ?_)
  obtain ⟨w7, ew7, hp⟩ := ojn hp
  obtain ⟨hne, hp⟩ := oG hp
  refine lv_f2d hx hb dL_law_2096 (by rw [← ew7]; exact hne) ?_
  rw [← ew7]
  refine lv_dstore (lv' := [(8, .double w7), (6, .double w3), (0, .ref b), (1, .ref x0), (2, .ref mo), (3, .ref od), (4, .ref od2), (5, .int i0)]) hx hb dL_law_2097 hl (by decide) rfl (fun ls hl => ?_)
  refine lv_dload hx hb dL_law_2099 (lv_at hl 1 rfl) ?_
  refine lv_dload hx hb dL_law_2101 (lv_at hl 0 rfl) ?_
  refine lv_dcmp hx hb dL_law_2103 ?_
  refine lv_if_eq (tgt := 2125) hx hb dL_law_2104 (by decide) (fun c8 => ?_) (fun c8 => ?_)
  · replace hp := oT c8 hp
    refine lv_goto (tgt := 3302) hx hb dL_law_2125 (by decide) ?_
    cases hp
    refine W.widen (k := cells + 8) (n := slots + 48) (by omega) (by omega) ?_
    exact kk H locs ls hM (lv_sub hl [2, 3, 4, 5, 6, 7] rfl)
  · replace hp := oF c8 hp
    refine lv_dload hx hb dL_law_2107 (lv_at hl 1 rfl) ?_
    refine lv_dload hx hb dL_law_2109 (lv_at hl 1 rfl) ?_
    refine lv_dcmp hx hb dL_law_2111 ?_
    refine lv_if_eq (tgt := 2123) hx hb dL_law_2112 (by decide) (fun c9 => ?_) (fun c9 => ?_)
    · replace hp := oT c9 hp
      cases hp
    · replace hp := oF c9 hp
      refine lv_dload hx hb dL_law_2115 (lv_at hl 0 rfl) ?_
      refine lv_dload hx hb dL_law_2117 (lv_at hl 0 rfl) ?_
      refine lv_dcmp hx hb dL_law_2119 ?_
      refine lv_if_ne (tgt := 2125) hx hb dL_law_2120 (by decide) (fun c10 => ?_) (fun c10 => ?_)
      · replace hp := oF c10 hp
        refine lv_goto (tgt := 3302) hx hb dL_law_2125 (by decide) ?_
        cases hp
        refine W.widen (k := cells + 8) (n := slots + 48) (by omega) (by omega) ?_
        exact kk H locs ls hM (lv_sub hl [2, 3, 4, 5, 6, 7] rfl)
      · replace hp := oT c10 hp
        cases hp
def pk_32 (L : Nat) (xs : Nat → Int32) (x0 mo od od2 : Nat) (i0 : Int32) (M : Mem) : Option Mem :=
  (Option.bind (isC 5 M x0) fun _ =>
  (Option.bind (p_X6_meanPreference x0 M) fun v2 =>
  (Option.bind (isC 6 M mo) fun _ =>
  (ob2 (p_X7_meanPreference mo M) fun v4 M5 =>
  (if (Op.cmpValue (FP.dcmp v2 v4) .l) = 0 then
   some M5
  else
   (if (Op.cmpValue (FP.dcmp v2 v2) .l) = 0 then
    none
   else
    (if (Op.cmpValue (FP.dcmp v4 v4) .l) = 0 then
     none
    else
     some M5
    )
   )
  )
  )
  )
  )
  )
set_option maxHeartbeats 4000000 in
set_option maxRecDepth 100000 in
theorem wk_32 {G : gG} {p : Program} {l : Launch} {e : Env} {s : State} {m : MethodId} {args : Array Value} {below : List Frame} {meth : Method} {c : Code} {A : Nat → Prop} {Z : gZ} {Q : State → Prop} {cells slots b L : Nat} {xs : Nat → Int32} {x0 mo od od2 : Nat} {i0 : Int32} (C0 : cx G p s m args c cL_law RL 10 A) (hG : GOK G) (hZ : GS G Z) (hY : GY G) (hlf : l.stackTraces = false) (hX : va_X b L xs s s.heap) (hbl : b < s.heap.size) (hbA : ¬ A b) (hcs : cells + 8 ≤ room_1.cells ∧ slots + 48 ≤ room_1.slots) {M M' : Mem} {H : Heap} {locs : List Loc} {ls : Array Slot} (hM : mm G A s M H locs) (hl : lv_has ls 10 [(0, .ref b), (1, .ref x0), (2, .ref mo), (3, .ref od), (4, .ref od2), (5, .int i0)]) (hp : pk_32 L xs x0 mo od od2 i0 M = some M') (kk : ∀ (H : Heap) (locs : List Loc) (ls : Array Slot), mm G A s M' H locs → lv_has ls 10 [(0, .ref b), (1, .ref x0), (2, .ref mo), (3, .ref od), (4, .ref od2), (5, .int i0)] → W p l e room_1 s m args below meth c H locs (cells + 8) (slots + 48) Q (F0 m 3302 ls [])) : W p l e room_1 s m args below meth c H locs cells slots Q (F0 m 2128 ls []) := by
  have hx := C0.1
  have hb := C0.2.1
  have hown := C0.2.2.2.1
  have hts := C0.2.2.2.2.1
  obtain ⟨hc1, hs1⟩ := hcs
  unfold pk_32 at hp
  refine lv_aload_n hx hb dL_law_2128 rfl (lv_at hl 1 rfl) ?_
  obtain ⟨_, h1, hp⟩ := ob hp
  obtain ⟨v2, hv2, hp⟩ := ob hp
  refine mg_V1 (As := []) (rest := []) C0 cbX6 hM h1 rfl (w_X6_meanPreference hG hv2) tw_661 tw_662 tw_663 tw_1 tw_664 yk_X6_meanPreference ⟨⟨rfl, rfl⟩, ⟨by decide, by decide⟩, by omega, by omega⟩ rfl hl.1 (Nat.le_of_ble_eq_true rfl) dL_law_2129 rfl (fun H locs hM => ?_)
  refine lv_dstore (lv' := [(6, .double v2), (0, .ref b), (1, .ref x0), (2, .ref mo), (3, .ref od), (4, .ref od2), (5, .int i0)]) hx hb dL_law_2132 hl (by decide) rfl (fun ls hl => ?_)
  refine lv_aload_n hx hb dL_law_2134 rfl (lv_at hl 3 rfl) ?_
  obtain ⟨_, h3, hp⟩ := ob hp
  obtain ⟨v4, M5, hv4, hp⟩ := ob3 hp
  refine mg_V1 (As := []) (rest := []) C0 cbX7 hM h3 rfl (w_X7_meanPreference hG hv4) tw_1695 tw_1696 tw_1697 tw_7 tw_1698 yk_X7_meanPreference ⟨⟨rfl, rfl⟩, ⟨by decide, by decide⟩, by omega, by omega⟩ rfl hl.1 (Nat.le_of_ble_eq_true rfl) dL_law_2135 rfl (fun H locs hM => ?_)
  refine lv_dstore (lv' := [(8, .double v4), (6, .double v2), (0, .ref b), (1, .ref x0), (2, .ref mo), (3, .ref od), (4, .ref od2), (5, .int i0)]) hx hb dL_law_2138 hl (by decide) rfl (fun ls hl => ?_)
  refine lv_dload hx hb dL_law_2140 (lv_at hl 1 rfl) ?_
  refine lv_dload hx hb dL_law_2142 (lv_at hl 0 rfl) ?_
  refine lv_dcmp hx hb dL_law_2144 ?_
  refine lv_if_eq (tgt := 2166) hx hb dL_law_2145 (by decide) (fun c6 => ?_) (fun c6 => ?_)
  · replace hp := oT c6 hp
    refine lv_goto (tgt := 3302) hx hb dL_law_2166 (by decide) ?_
    cases hp
    refine W.widen (k := cells + 8) (n := slots + 48) (by omega) (by omega) ?_
    exact kk H locs ls hM (lv_sub hl [2, 3, 4, 5, 6, 7] rfl)
  · replace hp := oF c6 hp
    refine lv_dload hx hb dL_law_2148 (lv_at hl 1 rfl) ?_
    refine lv_dload hx hb dL_law_2150 (lv_at hl 1 rfl) ?_
    refine lv_dcmp hx hb dL_law_2152 ?_
    refine lv_if_eq (tgt := 2164) hx hb dL_law_2153 (by decide) (fun c7 => ?_) (fun c7 => ?_)
    · replace hp := oT c7 hp
      cases hp
    · replace hp := oF c7 hp
      refine lv_dload hx hb dL_law_2156 (lv_at hl 0 rfl) ?_
      refine lv_dload hx hb dL_law_2158 (lv_at hl 0 rfl) ?_
      refine lv_dcmp hx hb dL_law_2160 ?_
      refine lv_if_ne (tgt := 2166) hx hb dL_law_2161 (by decide) (fun c8 => ?_) (fun c8 => ?_)
      · replace hp := oF c8 hp
        refine lv_goto (tgt := 3302) hx hb dL_law_2166 (by decide) ?_
        cases hp
        refine W.widen (k := cells + 8) (n := slots + 48) (by omega) (by omega) ?_
        exact kk H locs ls hM (lv_sub hl [2, 3, 4, 5, 6, 7] rfl)
      · replace hp := oT c8 hp
        cases hp
def pk_33 (L : Nat) (xs : Nat → Int32) (x0 mo od od2 : Nat) (i0 : Int32) (M : Mem) : Option Mem :=
  (Option.bind (xI L xs (i0 + (1 : Int32))) fun v1 =>
  (ob2 (p_L_way x0 v1 od2 M) fun v2 M3 =>
  (Option.bind (xI L xs (i0 + (1 : Int32))) fun v4 =>
  (Option.bind (isC 6 M3 mo) fun _ =>
  (ob2 (p_X7_way mo v4 M3) fun v6 M7 =>
  (Option.bind (isC 6 M7 mo) fun _ =>
  (Option.bind (p_X7_thrown mo M7) fun v9 =>
  (if v9 = v2 then
   (if v2 = 0 then
    (Option.bind (aD M7 od2 (0 : Int32)) fun v12 =>
    (jn (FP.f2d v6) fun w13 =>
    (if w13 &&& 0x7fffffffffffffff ≤ 0x7ff0000000000000 then
    (if (Op.cmpValue (FP.dcmp v12 w13) .l) = 0 then
     some M7
    else
     (Option.bind (aD M7 od2 (0 : Int32)) fun v15 =>
     (Option.bind (aD M7 od2 (0 : Int32)) fun v16 =>
     (if (Op.cmpValue (FP.dcmp v15 v16) .l) = 0 then
      none
     else
      (if (Op.cmpValue (FP.fcmp v6 v6) .l) = 0 then
       none
      else
       some M7
      )
     )
     )
     )
    )
    else none))
    )
   else
    some M7
   )
  else
   none
  )
  )
  )
  )
  )
  )
  )
  )
set_option maxHeartbeats 4000000 in
set_option maxRecDepth 100000 in
theorem wk_33 {G : gG} {p : Program} {l : Launch} {e : Env} {s : State} {m : MethodId} {args : Array Value} {below : List Frame} {meth : Method} {c : Code} {A : Nat → Prop} {Z : gZ} {Q : State → Prop} {cells slots b L : Nat} {xs : Nat → Int32} {x0 mo od od2 : Nat} {i0 : Int32} (C0 : cx G p s m args c cL_law RL 10 A) (hG : GOK G) (hZ : GS G Z) (hY : GY G) (hlf : l.stackTraces = false) (hX : va_X b L xs s s.heap) (hbl : b < s.heap.size) (hbA : ¬ A b) (hcs : cells + 8 ≤ room_1.cells ∧ slots + 48 ≤ room_1.slots) {M M' : Mem} {H : Heap} {locs : List Loc} {ls : Array Slot} (hM : mm G A s M H locs) (hl : lv_has ls 10 [(0, .ref b), (1, .ref x0), (2, .ref mo), (3, .ref od), (4, .ref od2), (5, .int i0)]) (hp : pk_33 L xs x0 mo od od2 i0 M = some M') (kk : ∀ (H : Heap) (locs : List Loc) (ls : Array Slot), mm G A s M' H locs → lv_has ls 10 [(0, .ref b), (1, .ref x0), (2, .ref mo), (3, .ref od), (4, .ref od2), (5, .int i0)] → W p l e room_1 s m args below meth c H locs (cells + 8) (slots + 48) Q (F0 m 3302 ls [])) : W p l e room_1 s m args below meth c H locs cells slots Q (F0 m 2169 ls []) := by
  have hx := C0.1
  have hb := C0.2.1
  have hown := C0.2.2.2.1
  have hts := C0.2.2.2.2.1
  obtain ⟨hc1, hs1⟩ := hcs
  unfold pk_33 at hp
  refine lv_aload_n hx hb dL_law_2169 rfl (lv_at hl 1 rfl) ?_
  refine lv_aload_n hx hb dL_law_2170 rfl (lv_at hl 0 rfl) ?_
  refine lv_iload hx hb dL_law_2171 (lv_at hl 5 rfl) ?_
  refine lv_iconst (v := 1) hx hb dL_law_2173 (by decide) ?_
  refine lv_iadd hx hb dL_law_2174 ?_
  obtain ⟨v1, hv1, hp⟩ := ob hp
  obtain ⟨hin, ev1⟩ := xI_at hv1
  refine va_sld hx hb hX hbl hbA hM.2.2 hin dL_law_2175 ?_
  rw [ev1]
  refine lv_aload hx hb dL_law_2176 (lv_at hl 4 rfl) ?_
  obtain ⟨v2, M3, hv2, hp⟩ := ob3 hp
  refine ml_S1 (As := [.ref x0, .int v1, .ref od2]) (rest := []) C0 hM (w_L_way hG hY hlf hv2) tw_1073 tw_1074 tw_0 twh_1075 yk_L_way ⟨⟨rfl, rfl⟩, ⟨by decide, by decide⟩, by omega, by omega⟩ rfl hl.1 (Nat.le_of_ble_eq_true rfl) dL_law_2178 rfl (fun H locs hM => ?_)
  refine lv_istore (lv' := [(6, .int v2), (0, .ref b), (1, .ref x0), (2, .ref mo), (3, .ref od), (4, .ref od2), (5, .int i0)]) hx hb dL_law_2181 hl (by decide) rfl (fun ls hl => ?_)
  refine lv_aload_n hx hb dL_law_2183 rfl (lv_at hl 3 rfl) ?_
  refine lv_aload_n hx hb dL_law_2184 rfl (lv_at hl 1 rfl) ?_
  refine lv_iload hx hb dL_law_2185 (lv_at hl 6 rfl) ?_
  refine lv_iconst (v := 1) hx hb dL_law_2187 (by decide) ?_
  refine lv_iadd hx hb dL_law_2188 ?_
  obtain ⟨v4, hv4, hp⟩ := ob hp
  obtain ⟨hin, ev4⟩ := xI_at hv4
  refine va_sld hx hb hX hbl hbA hM.2.2 hin dL_law_2189 ?_
  rw [ev4]
  obtain ⟨_, h5, hp⟩ := ob hp
  obtain ⟨v6, M7, hv6, hp⟩ := ob3 hp
  refine mg_V1 (As := [.int v4]) (rest := []) C0 cbX7 hM h5 rfl (w_X7_way hG hv6) tw_1699 tw_1700 tw_1701 tw_7 tw_1702 yk_X7_way ⟨⟨rfl, rfl⟩, ⟨by decide, by decide⟩, by omega, by omega⟩ rfl hl.1 (Nat.le_of_ble_eq_true rfl) dL_law_2190 rfl (fun H locs hM => ?_)
  refine lv_fstore (lv' := [(7, .float v6), (6, .int v2), (0, .ref b), (1, .ref x0), (2, .ref mo), (3, .ref od), (4, .ref od2), (5, .int i0)]) hx hb dL_law_2193 hl (by decide) rfl (fun ls hl => ?_)
  refine lv_aload_n hx hb dL_law_2195 rfl (lv_at hl 4 rfl) ?_
  obtain ⟨_, h8, hp⟩ := ob hp
  obtain ⟨v9, hv9, hp⟩ := ob hp
  refine mg_V1 (As := []) (rest := []) C0 cbX7 hM h8 rfl (w_X7_thrown hG hv9) tw_1309 tw_1310 tw_1311 tw_7 tw_1312 yk_X7_thrown ⟨⟨rfl, rfl⟩, ⟨by decide, by decide⟩, by omega, by omega⟩ rfl hl.1 (Nat.le_of_ble_eq_true rfl) dL_law_2196 rfl (fun H locs hM => ?_)
  refine lv_iload hx hb dL_law_2199 (lv_at hl 1 rfl) ?_
  refine lv_icmp_eq (tgt := 2206) hx hb dL_law_2201 (by decide) (fun c10 => ?_) (fun c10 => ?_)
  · replace hp := oT c10 hp
    refine lv_iload hx hb dL_law_2206 (lv_at hl 1 rfl) ?_
    refine lv_if_ne (tgt := 2244) hx hb dL_law_2208 (by decide) (fun c11 => ?_) (fun c11 => ?_)
    · replace hp := oF c11 hp
      refine lv_goto (tgt := 3302) hx hb dL_law_2244 (by decide) ?_
      cases hp
      refine W.widen (k := cells + 8) (n := slots + 48) (by omega) (by omega) ?_
      exact kk H locs ls hM (lv_sub hl [2, 3, 4, 5, 6, 7] rfl)
    · replace hp := oT c11 hp
      refine lv_aload hx hb dL_law_2211 (lv_at hl 6 rfl) ?_
      refine lv_iconst (v := 0) hx hb dL_law_2213 (by decide) ?_
      obtain ⟨v12, hv12, hp⟩ := ob hp
      refine mr_dald C0 hM hv12 dL_law_2214 ?_
      refine lv_fload hx hb dL_law_2215 (lv_at hl 0 rfl) ?_
      obtain ⟨w13, ew13, hp⟩ := ojn hp
      obtain ⟨hne, hp⟩ := oG hp
      refine lv_f2d hx hb dL_law_2217 (by rw [← ew13]; exact hne) ?_
      rw [← ew13]
      refine lv_dcmp hx hb dL_law_2218 ?_
      refine lv_if_eq (tgt := 2244) hx hb dL_law_2219 (by decide) (fun c14 => ?_) (fun c14 => ?_)
      · replace hp := oT c14 hp
        refine lv_goto (tgt := 3302) hx hb dL_law_2244 (by decide) ?_
        cases hp
        refine W.widen (k := cells + 8) (n := slots + 48) (by omega) (by omega) ?_
        exact kk H locs ls hM (lv_sub hl [2, 3, 4, 5, 6, 7] rfl)
      · replace hp := oF c14 hp
        refine lv_aload hx hb dL_law_2222 (lv_at hl 6 rfl) ?_
        refine lv_iconst (v := 0) hx hb dL_law_2224 (by decide) ?_
        obtain ⟨v15, hv15, hp⟩ := ob hp
        refine mr_dald C0 hM hv15 dL_law_2225 ?_
        refine lv_aload hx hb dL_law_2226 (lv_at hl 6 rfl) ?_
        refine lv_iconst (v := 0) hx hb dL_law_2228 (by decide) ?_
        obtain ⟨v16, hv16, hp⟩ := ob hp
        refine mr_dald C0 hM hv16 dL_law_2229 ?_
        refine lv_dcmp hx hb dL_law_2230 ?_
        refine lv_if_eq (tgt := 2242) hx hb dL_law_2231 (by decide) (fun c17 => ?_) (fun c17 => ?_)
        · replace hp := oT c17 hp
          cases hp
        · replace hp := oF c17 hp
          refine lv_fload hx hb dL_law_2234 (lv_at hl 0 rfl) ?_
          refine lv_fload hx hb dL_law_2236 (lv_at hl 0 rfl) ?_
          refine lv_fcmp hx hb dL_law_2238 ?_
          refine lv_if_ne (tgt := 2244) hx hb dL_law_2239 (by decide) (fun c18 => ?_) (fun c18 => ?_)
          · replace hp := oF c18 hp
            refine lv_goto (tgt := 3302) hx hb dL_law_2244 (by decide) ?_
            cases hp
            refine W.widen (k := cells + 8) (n := slots + 48) (by omega) (by omega) ?_
            exact kk H locs ls hM (lv_sub hl [2, 3, 4, 5, 6, 7] rfl)
          · replace hp := oT c18 hp
            cases hp
  · replace hp := oF c10 hp
    cases hp
def pk_34 (L : Nat) (xs : Nat → Int32) (x0 mo od od2 : Nat) (i0 : Int32) (M : Mem) : Option Mem :=
  (Option.bind (xI L xs (i0 + (1 : Int32))) fun v1 =>
  (Option.bind (xI L xs (i0 + (2 : Int32))) fun v2 =>
  (ob2 (p_L_wanted x0 v1 v2 od M) fun v3 M4 =>
  (Option.bind (xI L xs (i0 + (1 : Int32))) fun v5 =>
  (Option.bind (xI L xs (i0 + (2 : Int32))) fun v6 =>
  (Option.bind (isC 6 M4 mo) fun _ =>
  (ob2 (p_X7_wanted mo v5 v6 M4) fun v8 M9 =>
  (Option.bind (isC 6 M9 mo) fun _ =>
  (Option.bind (p_X7_thrown mo M9) fun v11 =>
  (if v11 = v3 then
   (if v3 = 0 then
    (Option.bind (aL M9 od (0 : Int32)) fun v14 =>
    (if (lg_cmp v14 (Int32.toInt64 v8)) = 0 then
     some M9
    else
     none
    )
    )
   else
    some M9
   )
  else
   none
  )
  )
  )
  )
  )
  )
  )
  )
  )
  )
set_option maxHeartbeats 4000000 in
set_option maxRecDepth 100000 in
theorem wk_34 {G : gG} {p : Program} {l : Launch} {e : Env} {s : State} {m : MethodId} {args : Array Value} {below : List Frame} {meth : Method} {c : Code} {A : Nat → Prop} {Z : gZ} {Q : State → Prop} {cells slots b L : Nat} {xs : Nat → Int32} {x0 mo od od2 : Nat} {i0 : Int32} (C0 : cx G p s m args c cL_law RL 10 A) (hG : GOK G) (hZ : GS G Z) (hY : GY G) (hlf : l.stackTraces = false) (hX : va_X b L xs s s.heap) (hbl : b < s.heap.size) (hbA : ¬ A b) (hcs : cells + 8 ≤ room_1.cells ∧ slots + 48 ≤ room_1.slots) {M M' : Mem} {H : Heap} {locs : List Loc} {ls : Array Slot} (hM : mm G A s M H locs) (hl : lv_has ls 10 [(0, .ref b), (1, .ref x0), (2, .ref mo), (3, .ref od), (4, .ref od2), (5, .int i0)]) (hp : pk_34 L xs x0 mo od od2 i0 M = some M') (kk : ∀ (H : Heap) (locs : List Loc) (ls : Array Slot), mm G A s M' H locs → lv_has ls 10 [(0, .ref b), (1, .ref x0), (2, .ref mo), (3, .ref od), (4, .ref od2), (5, .int i0)] → W p l e room_1 s m args below meth c H locs (cells + 8) (slots + 48) Q (F0 m 3302 ls [])) : W p l e room_1 s m args below meth c H locs cells slots Q (F0 m 2247 ls []) := by
  have hx := C0.1
  have hb := C0.2.1
  have hown := C0.2.2.2.1
  have hts := C0.2.2.2.2.1
  obtain ⟨hc1, hs1⟩ := hcs
  unfold pk_34 at hp
  refine lv_aload_n hx hb dL_law_2247 rfl (lv_at hl 1 rfl) ?_
  refine lv_aload_n hx hb dL_law_2248 rfl (lv_at hl 0 rfl) ?_
  refine lv_iload hx hb dL_law_2249 (lv_at hl 5 rfl) ?_
  refine lv_iconst (v := 1) hx hb dL_law_2251 (by decide) ?_
  refine lv_iadd hx hb dL_law_2252 ?_
  obtain ⟨v1, hv1, hp⟩ := ob hp
  obtain ⟨hin, ev1⟩ := xI_at hv1
  refine va_sld hx hb hX hbl hbA hM.2.2 hin dL_law_2253 ?_
  rw [ev1]
  refine lv_aload_n hx hb dL_law_2254 rfl (lv_at hl 0 rfl) ?_
  refine lv_iload hx hb dL_law_2255 (lv_at hl 5 rfl) ?_
  refine lv_iconst (v := 2) hx hb dL_law_2257 (by decide) ?_
  refine lv_iadd hx hb dL_law_2258 ?_
  obtain ⟨v2, hv2, hp⟩ := ob hp
  obtain ⟨hin, ev2⟩ := xI_at hv2
  refine va_sld hx hb hX hbl hbA hM.2.2 hin dL_law_2259 ?_
  rw [ev2]
  refine lv_aload_n hx hb dL_law_2260 rfl (lv_at hl 3 rfl) ?_
  obtain ⟨v3, M4, hv3, hp⟩ := ob3 hp
  refine ml_S1 (As := [.ref x0, .int v1, .int v2, .ref od]) (rest := []) C0 hM (w_L_wanted hG hY hlf hv3) tw_1081 tw_1082 tw_0 twh_1083 yk_L_wanted ⟨⟨rfl, rfl⟩, ⟨by decide, by decide⟩, by omega, by omega⟩ rfl hl.1 (Nat.le_of_ble_eq_true rfl) dL_law_2261 rfl (fun H locs hM => ?_)
  refine lv_istore (lv' := [(6, .int v3), (0, .ref b), (1, .ref x0), (2, .ref mo), (3, .ref od), (4, .ref od2), (5, .int i0)]) hx hb dL_law_2264 hl (by decide) rfl (fun ls hl => ?_)
  refine lv_aload_n hx hb dL_law_2266 rfl (lv_at hl 3 rfl) ?_
  refine lv_aload_n hx hb dL_law_2267 rfl (lv_at hl 1 rfl) ?_
  refine lv_iload hx hb dL_law_2268 (lv_at hl 6 rfl) ?_
  refine lv_iconst (v := 1) hx hb dL_law_2270 (by decide) ?_
  refine lv_iadd hx hb dL_law_2271 ?_
  obtain ⟨v5, hv5, hp⟩ := ob hp
  obtain ⟨hin, ev5⟩ := xI_at hv5
  refine va_sld hx hb hX hbl hbA hM.2.2 hin dL_law_2272 ?_
  rw [ev5]
  refine lv_aload_n hx hb dL_law_2273 rfl (lv_at hl 1 rfl) ?_
  refine lv_iload hx hb dL_law_2274 (lv_at hl 6 rfl) ?_
  refine lv_iconst (v := 2) hx hb dL_law_2276 (by decide) ?_
  refine lv_iadd hx hb dL_law_2277 ?_
  obtain ⟨v6, hv6, hp⟩ := ob hp
  obtain ⟨hin, ev6⟩ := xI_at hv6
  refine va_sld hx hb hX hbl hbA hM.2.2 hin dL_law_2278 ?_
  rw [ev6]
  obtain ⟨_, h7, hp⟩ := ob hp
  obtain ⟨v8, M9, hv8, hp⟩ := ob3 hp
  refine mg_V1 (As := [.int v5, .int v6]) (rest := []) C0 cbX7 hM h7 rfl (w_X7_wanted hG hv8) tw_1740 tw_1741 tw_1742 tw_7 tw_1743 yk_X7_wanted ⟨⟨rfl, rfl⟩, ⟨by decide, by decide⟩, by omega, by omega⟩ rfl hl.1 (Nat.le_of_ble_eq_true rfl) dL_law_2279 rfl (fun H locs hM => ?_)
  refine lv_istore (lv' := [(7, .int v8), (6, .int v3), (0, .ref b), (1, .ref x0), (2, .ref mo), (3, .ref od), (4, .ref od2), (5, .int i0)]) hx hb dL_law_2282 hl (by decide) rfl (fun ls hl => ?_)
  refine lv_aload_n hx hb dL_law_2284 rfl (lv_at hl 4 rfl) ?_
  obtain ⟨_, h10, hp⟩ := ob hp
  obtain ⟨v11, hv11, hp⟩ := ob hp
  refine mg_V1 (As := []) (rest := []) C0 cbX7 hM h10 rfl (w_X7_thrown hG hv11) tw_1309 tw_1310 tw_1311 tw_7 tw_1312 yk_X7_thrown ⟨⟨rfl, rfl⟩, ⟨by decide, by decide⟩, by omega, by omega⟩ rfl hl.1 (Nat.le_of_ble_eq_true rfl) dL_law_2285 rfl (fun H locs hM => ?_)
  refine lv_iload hx hb dL_law_2288 (lv_at hl 1 rfl) ?_
  refine lv_icmp_eq (tgt := 2295) hx hb dL_law_2290 (by decide) (fun c12 => ?_) (fun c12 => ?_)
  · replace hp := oT c12 hp
    refine lv_iload hx hb dL_law_2295 (lv_at hl 1 rfl) ?_
    refine lv_if_ne (tgt := 2312) hx hb dL_law_2297 (by decide) (fun c13 => ?_) (fun c13 => ?_)
    · replace hp := oF c13 hp
      refine lv_goto (tgt := 3302) hx hb dL_law_2312 (by decide) ?_
      cases hp
      refine W.widen (k := cells + 8) (n := slots + 48) (by omega) (by omega) ?_
      exact kk H locs ls hM (lv_sub hl [2, 3, 4, 5, 6, 7] rfl)
    · replace hp := oT c13 hp
      refine lv_aload_n hx hb dL_law_2300 rfl (lv_at hl 5 rfl) ?_
      refine lv_iconst (v := 0) hx hb dL_law_2301 (by decide) ?_
      obtain ⟨v14, hv14, hp⟩ := ob hp
      refine mr_lald C0 hM hv14 dL_law_2302 ?_
      refine lv_iload hx hb dL_law_2303 (lv_at hl 0 rfl) ?_
      refine lv_i2l (v := (Int32.toInt64 v8)) hx hb dL_law_2305 rfl ?_
      refine W.lcmp hx hb dL_law_2306 ?_
      refine lv_if_eq (tgt := 2312) hx hb dL_law_2307 (by decide) (fun c15 => ?_) (fun c15 => ?_)
      · replace hp := oT c15 hp
        refine lv_goto (tgt := 3302) hx hb dL_law_2312 (by decide) ?_
        cases hp
        refine W.widen (k := cells + 8) (n := slots + 48) (by omega) (by omega) ?_
        exact kk H locs ls hM (lv_sub hl [2, 3, 4, 5, 6, 7] rfl)
      · replace hp := oF c15 hp
        cases hp
  · replace hp := oF c12 hp
    cases hp
def pk_35 (L : Nat) (xs : Nat → Int32) (x0 mo od od2 : Nat) (i0 : Int32) (M : Mem) : Option Mem :=
  (Option.bind (xI L xs (i0 + (1 : Int32))) fun v1 =>
  (ob2 (p_L_inZone x0 v1 od M) fun v2 M3 =>
  (Option.bind (xI L xs (i0 + (1 : Int32))) fun v4 =>
  (Option.bind (isC 6 M3 mo) fun _ =>
  (ob2 (p_X7_inZone mo v4 M3) fun v6 M7 =>
  (Option.bind (isC 6 M7 mo) fun _ =>
  (Option.bind (p_X7_thrown mo M7) fun v9 =>
  (if v9 = v2 then
   (if v2 = 0 then
    (Option.bind (aL M7 od (0 : Int32)) fun v12 =>
    (if (lg_cmp v12 (Int32.toInt64 v6)) = 0 then
     some M7
    else
     none
    )
    )
   else
    some M7
   )
  else
   none
  )
  )
  )
  )
  )
  )
  )
  )
set_option maxHeartbeats 4000000 in
set_option maxRecDepth 100000 in
theorem wk_35 {G : gG} {p : Program} {l : Launch} {e : Env} {s : State} {m : MethodId} {args : Array Value} {below : List Frame} {meth : Method} {c : Code} {A : Nat → Prop} {Z : gZ} {Q : State → Prop} {cells slots b L : Nat} {xs : Nat → Int32} {x0 mo od od2 : Nat} {i0 : Int32} (C0 : cx G p s m args c cL_law RL 10 A) (hG : GOK G) (hZ : GS G Z) (hY : GY G) (hlf : l.stackTraces = false) (hX : va_X b L xs s s.heap) (hbl : b < s.heap.size) (hbA : ¬ A b) (hcs : cells + 8 ≤ room_1.cells ∧ slots + 48 ≤ room_1.slots) {M M' : Mem} {H : Heap} {locs : List Loc} {ls : Array Slot} (hM : mm G A s M H locs) (hl : lv_has ls 10 [(0, .ref b), (1, .ref x0), (2, .ref mo), (3, .ref od), (4, .ref od2), (5, .int i0)]) (hp : pk_35 L xs x0 mo od od2 i0 M = some M') (kk : ∀ (H : Heap) (locs : List Loc) (ls : Array Slot), mm G A s M' H locs → lv_has ls 10 [(0, .ref b), (1, .ref x0), (2, .ref mo), (3, .ref od), (4, .ref od2), (5, .int i0)] → W p l e room_1 s m args below meth c H locs (cells + 8) (slots + 48) Q (F0 m 3302 ls [])) : W p l e room_1 s m args below meth c H locs cells slots Q (F0 m 2315 ls []) := by
  have hx := C0.1
  have hb := C0.2.1
  have hown := C0.2.2.2.1
  have hts := C0.2.2.2.2.1
  obtain ⟨hc1, hs1⟩ := hcs
  unfold pk_35 at hp
  refine lv_aload_n hx hb dL_law_2315 rfl (lv_at hl 1 rfl) ?_
  refine lv_aload_n hx hb dL_law_2316 rfl (lv_at hl 0 rfl) ?_
  refine lv_iload hx hb dL_law_2317 (lv_at hl 5 rfl) ?_
  refine lv_iconst (v := 1) hx hb dL_law_2319 (by decide) ?_
  refine lv_iadd hx hb dL_law_2320 ?_
  obtain ⟨v1, hv1, hp⟩ := ob hp
  obtain ⟨hin, ev1⟩ := xI_at hv1
  refine va_sld hx hb hX hbl hbA hM.2.2 hin dL_law_2321 ?_
  rw [ev1]
  refine lv_aload_n hx hb dL_law_2322 rfl (lv_at hl 3 rfl) ?_
  obtain ⟨v2, M3, hv2, hp⟩ := ob3 hp
  refine ml_S1 (As := [.ref x0, .int v1, .ref od]) (rest := []) C0 hM (w_L_inZone hG hY hlf hv2) tw_1088 tw_1089 tw_0 twh_1090 yk_L_inZone ⟨⟨rfl, rfl⟩, ⟨by decide, by decide⟩, by omega, by omega⟩ rfl hl.1 (Nat.le_of_ble_eq_true rfl) dL_law_2323 rfl (fun H locs hM => ?_)
  refine lv_istore (lv' := [(6, .int v2), (0, .ref b), (1, .ref x0), (2, .ref mo), (3, .ref od), (4, .ref od2), (5, .int i0)]) hx hb dL_law_2326 hl (by decide) rfl (fun ls hl => ?_)
  refine lv_aload_n hx hb dL_law_2328 rfl (lv_at hl 3 rfl) ?_
  refine lv_aload_n hx hb dL_law_2329 rfl (lv_at hl 1 rfl) ?_
  refine lv_iload hx hb dL_law_2330 (lv_at hl 6 rfl) ?_
  refine lv_iconst (v := 1) hx hb dL_law_2332 (by decide) ?_
  refine lv_iadd hx hb dL_law_2333 ?_
  obtain ⟨v4, hv4, hp⟩ := ob hp
  obtain ⟨hin, ev4⟩ := xI_at hv4
  refine va_sld hx hb hX hbl hbA hM.2.2 hin dL_law_2334 ?_
  rw [ev4]
  obtain ⟨_, h5, hp⟩ := ob hp
  obtain ⟨v6, M7, hv6, hp⟩ := ob3 hp
  refine mg_V1 (As := [.int v4]) (rest := []) C0 cbX7 hM h5 rfl (w_X7_inZone hG hv6) tw_1744 tw_1745 tw_1746 tw_7 tw_1747 yk_X7_inZone ⟨⟨rfl, rfl⟩, ⟨by decide, by decide⟩, by omega, by omega⟩ rfl hl.1 (Nat.le_of_ble_eq_true rfl) dL_law_2335 rfl (fun H locs hM => ?_)
  refine lv_istore (lv' := [(7, .int v6), (6, .int v2), (0, .ref b), (1, .ref x0), (2, .ref mo), (3, .ref od), (4, .ref od2), (5, .int i0)]) hx hb dL_law_2338 hl (by decide) rfl (fun ls hl => ?_)
  refine lv_aload_n hx hb dL_law_2340 rfl (lv_at hl 4 rfl) ?_
  obtain ⟨_, h8, hp⟩ := ob hp
  obtain ⟨v9, hv9, hp⟩ := ob hp
  refine mg_V1 (As := []) (rest := []) C0 cbX7 hM h8 rfl (w_X7_thrown hG hv9) tw_1309 tw_1310 tw_1311 tw_7 tw_1312 yk_X7_thrown ⟨⟨rfl, rfl⟩, ⟨by decide, by decide⟩, by omega, by omega⟩ rfl hl.1 (Nat.le_of_ble_eq_true rfl) dL_law_2341 rfl (fun H locs hM => ?_)
  refine lv_iload hx hb dL_law_2344 (lv_at hl 1 rfl) ?_
  refine lv_icmp_eq (tgt := 2351) hx hb dL_law_2346 (by decide) (fun c10 => ?_) (fun c10 => ?_)
  · replace hp := oT c10 hp
    refine lv_iload hx hb dL_law_2351 (lv_at hl 1 rfl) ?_
    refine lv_if_ne (tgt := 2368) hx hb dL_law_2353 (by decide) (fun c11 => ?_) (fun c11 => ?_)
    · replace hp := oF c11 hp
      refine lv_goto (tgt := 3302) hx hb dL_law_2368 (by decide) ?_
      cases hp
      refine W.widen (k := cells + 8) (n := slots + 48) (by omega) (by omega) ?_
      exact kk H locs ls hM (lv_sub hl [2, 3, 4, 5, 6, 7] rfl)
    · replace hp := oT c11 hp
      refine lv_aload_n hx hb dL_law_2356 rfl (lv_at hl 5 rfl) ?_
      refine lv_iconst (v := 0) hx hb dL_law_2357 (by decide) ?_
      obtain ⟨v12, hv12, hp⟩ := ob hp
      refine mr_lald C0 hM hv12 dL_law_2358 ?_
      refine lv_iload hx hb dL_law_2359 (lv_at hl 0 rfl) ?_
      refine lv_i2l (v := (Int32.toInt64 v6)) hx hb dL_law_2361 rfl ?_
      refine W.lcmp hx hb dL_law_2362 ?_
      refine lv_if_eq (tgt := 2368) hx hb dL_law_2363 (by decide) (fun c13 => ?_) (fun c13 => ?_)
      · replace hp := oT c13 hp
        refine lv_goto (tgt := 3302) hx hb dL_law_2368 (by decide) ?_
        cases hp
        refine W.widen (k := cells + 8) (n := slots + 48) (by omega) (by omega) ?_
        exact kk H locs ls hM (lv_sub hl [2, 3, 4, 5, 6, 7] rfl)
      · replace hp := oF c13 hp
        cases hp
  · replace hp := oF c10 hp
    cases hp
def pk_36 (L : Nat) (xs : Nat → Int32) (x0 mo od od2 : Nat) (i0 : Int32) (M : Mem) : Option Mem :=
  (Option.bind (isC 5 M x0) fun _ =>
  (Option.bind (p_X6_together x0 M) fun v2 =>
  (Option.bind (isC 6 M mo) fun _ =>
  (ob2 (p_X7_together mo M) fun v4 M5 =>
  (if v2 = v4 then
   some M5
  else
   none
  )
  )
  )
  )
  )
set_option maxHeartbeats 4000000 in
set_option maxRecDepth 100000 in
theorem wk_36 {G : gG} {p : Program} {l : Launch} {e : Env} {s : State} {m : MethodId} {args : Array Value} {below : List Frame} {meth : Method} {c : Code} {A : Nat → Prop} {Z : gZ} {Q : State → Prop} {cells slots b L : Nat} {xs : Nat → Int32} {x0 mo od od2 : Nat} {i0 : Int32} (C0 : cx G p s m args c cL_law RL 10 A) (hG : GOK G) (hZ : GS G Z) (hY : GY G) (hlf : l.stackTraces = false) (hX : va_X b L xs s s.heap) (hbl : b < s.heap.size) (hbA : ¬ A b) (hcs : cells + 8 ≤ room_1.cells ∧ slots + 48 ≤ room_1.slots) {M M' : Mem} {H : Heap} {locs : List Loc} {ls : Array Slot} (hM : mm G A s M H locs) (hl : lv_has ls 10 [(0, .ref b), (1, .ref x0), (2, .ref mo), (3, .ref od), (4, .ref od2), (5, .int i0)]) (hp : pk_36 L xs x0 mo od od2 i0 M = some M') (kk : ∀ (H : Heap) (locs : List Loc) (ls : Array Slot), mm G A s M' H locs → lv_has ls 10 [(0, .ref b), (1, .ref x0), (2, .ref mo), (3, .ref od), (4, .ref od2), (5, .int i0)] → W p l e room_1 s m args below meth c H locs (cells + 8) (slots + 48) Q (F0 m 3302 ls [])) : W p l e room_1 s m args below meth c H locs cells slots Q (F0 m 2371 ls []) := by
  have hx := C0.1
  have hb := C0.2.1
  have hown := C0.2.2.2.1
  have hts := C0.2.2.2.2.1
  obtain ⟨hc1, hs1⟩ := hcs
  unfold pk_36 at hp
  refine lv_aload_n hx hb dL_law_2371 rfl (lv_at hl 1 rfl) ?_
  obtain ⟨_, h1, hp⟩ := ob hp
  obtain ⟨v2, hv2, hp⟩ := ob hp
  refine mg_V1 (As := []) (rest := []) C0 cbX6 hM h1 rfl (w_X6_together hG hv2) tw_665 tw_666 tw_667 tw_1 tw_668 yk_X6_together ⟨⟨rfl, rfl⟩, ⟨by decide, by decide⟩, by omega, by omega⟩ rfl hl.1 (Nat.le_of_ble_eq_true rfl) dL_law_2372 rfl (fun H locs hM => ?_)
  refine lv_aload_n hx hb dL_law_2375 rfl (lv_at hl 2 rfl) ?_
  obtain ⟨_, h3, hp⟩ := ob hp
  obtain ⟨v4, M5, hv4, hp⟩ := ob3 hp
  refine mg_V1 (As := []) (rest := [.int v2]) C0 cbX7 hM h3 rfl (w_X7_together hG hv4) tw_1748 tw_1749 tw_1750 tw_7 tw_1751 yk_X7_together ⟨⟨rfl, rfl⟩, ⟨by decide, by decide⟩, by omega, by omega⟩ rfl hl.1 (Nat.le_of_ble_eq_true rfl) dL_law_2376 rfl (fun H locs hM => ?_)
  refine lv_icmp_eq (tgt := 3302) hx hb dL_law_2379 (by decide) (fun c6 => ?_) (fun c6 => ?_)
  · replace hp := oT c6 hp
    cases hp
    refine W.widen (k := cells + 8) (n := slots + 48) (by omega) (by omega) ?_
    exact kk H locs ls hM (lv_sub hl [0, 1, 2, 3, 4, 5] rfl)
  · replace hp := oF c6 hp
    cases hp
def pk_37 (L : Nat) (xs : Nat → Int32) (x0 mo od od2 : Nat) (i0 : Int32) (M : Mem) : Option Mem :=
  (Option.bind (xI L xs (i0 + (1 : Int32))) fun v1 =>
  (Option.bind (xI L xs (i0 + (2 : Int32))) fun v2 =>
  (ob2 (p_L_cutoff x0 v1 v2 od M) fun v3 M4 =>
  (Option.bind (xI L xs (i0 + (1 : Int32))) fun v5 =>
  (Option.bind (xI L xs (i0 + (2 : Int32))) fun v6 =>
  (Option.bind (isC 6 M4 mo) fun _ =>
  (ob2 (p_X7_cutoff mo v5 v6 M4) fun v8 M9 =>
  (Option.bind (isC 6 M9 mo) fun _ =>
  (Option.bind (p_X7_thrown mo M9) fun v11 =>
  (if v11 = v3 then
   (if v3 = 0 then
    (Option.bind (aL M9 od (0 : Int32)) fun v14 =>
    (if (lg_cmp v14 (Int32.toInt64 v8)) = 0 then
     some M9
    else
     none
    )
    )
   else
    some M9
   )
  else
   none
  )
  )
  )
  )
  )
  )
  )
  )
  )
  )
set_option maxHeartbeats 4000000 in
set_option maxRecDepth 100000 in
theorem wk_37 {G : gG} {p : Program} {l : Launch} {e : Env} {s : State} {m : MethodId} {args : Array Value} {below : List Frame} {meth : Method} {c : Code} {A : Nat → Prop} {Z : gZ} {Q : State → Prop} {cells slots b L : Nat} {xs : Nat → Int32} {x0 mo od od2 : Nat} {i0 : Int32} (C0 : cx G p s m args c cL_law RL 10 A) (hG : GOK G) (hZ : GS G Z) (hY : GY G) (hlf : l.stackTraces = false) (hX : va_X b L xs s s.heap) (hbl : b < s.heap.size) (hbA : ¬ A b) (hcs : cells + 8 ≤ room_1.cells ∧ slots + 48 ≤ room_1.slots) {M M' : Mem} {H : Heap} {locs : List Loc} {ls : Array Slot} (hM : mm G A s M H locs) (hl : lv_has ls 10 [(0, .ref b), (1, .ref x0), (2, .ref mo), (3, .ref od), (4, .ref od2), (5, .int i0)]) (hp : pk_37 L xs x0 mo od od2 i0 M = some M') (kk : ∀ (H : Heap) (locs : List Loc) (ls : Array Slot), mm G A s M' H locs → lv_has ls 10 [(0, .ref b), (1, .ref x0), (2, .ref mo), (3, .ref od), (4, .ref od2), (5, .int i0)] → W p l e room_1 s m args below meth c H locs (cells + 8) (slots + 48) Q (F0 m 3302 ls [])) : W p l e room_1 s m args below meth c H locs cells slots Q (F0 m 2384 ls []) := by
  have hx := C0.1
  have hb := C0.2.1
  have hown := C0.2.2.2.1
  have hts := C0.2.2.2.2.1
  obtain ⟨hc1, hs1⟩ := hcs
  unfold pk_37 at hp
  refine lv_aload_n hx hb dL_law_2384 rfl (lv_at hl 1 rfl) ?_
  refine lv_aload_n hx hb dL_law_2385 rfl (lv_at hl 0 rfl) ?_
  refine lv_iload hx hb dL_law_2386 (lv_at hl 5 rfl) ?_
  refine lv_iconst (v := 1) hx hb dL_law_2388 (by decide) ?_
  refine lv_iadd hx hb dL_law_2389 ?_
  obtain ⟨v1, hv1, hp⟩ := ob hp
  obtain ⟨hin, ev1⟩ := xI_at hv1
  refine va_sld hx hb hX hbl hbA hM.2.2 hin dL_law_2390 ?_
  rw [ev1]
  refine lv_aload_n hx hb dL_law_2391 rfl (lv_at hl 0 rfl) ?_
  refine lv_iload hx hb dL_law_2392 (lv_at hl 5 rfl) ?_
  refine lv_iconst (v := 2) hx hb dL_law_2394 (by decide) ?_
  refine lv_iadd hx hb dL_law_2395 ?_
  obtain ⟨v2, hv2, hp⟩ := ob hp
  obtain ⟨hin, ev2⟩ := xI_at hv2
  refine va_sld hx hb hX hbl hbA hM.2.2 hin dL_law_2396 ?_
  rw [ev2]
  refine lv_aload_n hx hb dL_law_2397 rfl (lv_at hl 3 rfl) ?_
  obtain ⟨v3, M4, hv3, hp⟩ := ob3 hp
  refine ml_S1 (As := [.ref x0, .int v1, .int v2, .ref od]) (rest := []) C0 hM (w_L_cutoff hG hY hlf hv3) tw_1095 tw_1096 tw_0 twh_1097 yk_L_cutoff ⟨⟨rfl, rfl⟩, ⟨by decide, by decide⟩, by omega, by omega⟩ rfl hl.1 (Nat.le_of_ble_eq_true rfl) dL_law_2398 rfl (fun H locs hM => ?_)
  refine lv_istore (lv' := [(6, .int v3), (0, .ref b), (1, .ref x0), (2, .ref mo), (3, .ref od), (4, .ref od2), (5, .int i0)]) hx hb dL_law_2401 hl (by decide) rfl (fun ls hl => ?_)
  refine lv_aload_n hx hb dL_law_2403 rfl (lv_at hl 3 rfl) ?_
  refine lv_aload_n hx hb dL_law_2404 rfl (lv_at hl 1 rfl) ?_
  refine lv_iload hx hb dL_law_2405 (lv_at hl 6 rfl) ?_
  refine lv_iconst (v := 1) hx hb dL_law_2407 (by decide) ?_
  refine lv_iadd hx hb dL_law_2408 ?_
  obtain ⟨v5, hv5, hp⟩ := ob hp
  obtain ⟨hin, ev5⟩ := xI_at hv5
  refine va_sld hx hb hX hbl hbA hM.2.2 hin dL_law_2409 ?_
  rw [ev5]
  refine lv_aload_n hx hb dL_law_2410 rfl (lv_at hl 1 rfl) ?_
  refine lv_iload hx hb dL_law_2411 (lv_at hl 6 rfl) ?_
  refine lv_iconst (v := 2) hx hb dL_law_2413 (by decide) ?_
  refine lv_iadd hx hb dL_law_2414 ?_
  obtain ⟨v6, hv6, hp⟩ := ob hp
  obtain ⟨hin, ev6⟩ := xI_at hv6
  refine va_sld hx hb hX hbl hbA hM.2.2 hin dL_law_2415 ?_
  rw [ev6]
  obtain ⟨_, h7, hp⟩ := ob hp
  obtain ⟨v8, M9, hv8, hp⟩ := ob3 hp
  refine mg_V1 (As := [.int v5, .int v6]) (rest := []) C0 cbX7 hM h7 rfl (w_X7_cutoff hG hv8) tw_1756 tw_1757 tw_1758 tw_7 tw_1759 yk_X7_cutoff ⟨⟨rfl, rfl⟩, ⟨by decide, by decide⟩, by omega, by omega⟩ rfl hl.1 (Nat.le_of_ble_eq_true rfl) dL_law_2416 rfl (fun H locs hM => ?_)
  refine lv_istore (lv' := [(7, .int v8), (6, .int v3), (0, .ref b), (1, .ref x0), (2, .ref mo), (3, .ref od), (4, .ref od2), (5, .int i0)]) hx hb dL_law_2419 hl (by decide) rfl (fun ls hl => ?_)
  refine lv_aload_n hx hb dL_law_2421 rfl (lv_at hl 4 rfl) ?_
  obtain ⟨_, h10, hp⟩ := ob hp
  obtain ⟨v11, hv11, hp⟩ := ob hp
  refine mg_V1 (As := []) (rest := []) C0 cbX7 hM h10 rfl (w_X7_thrown hG hv11) tw_1309 tw_1310 tw_1311 tw_7 tw_1312 yk_X7_thrown ⟨⟨rfl, rfl⟩, ⟨by decide, by decide⟩, by omega, by omega⟩ rfl hl.1 (Nat.le_of_ble_eq_true rfl) dL_law_2422 rfl (fun H locs hM => ?_)
  refine lv_iload hx hb dL_law_2425 (lv_at hl 1 rfl) ?_
  refine lv_icmp_eq (tgt := 2432) hx hb dL_law_2427 (by decide) (fun c12 => ?_) (fun c12 => ?_)
  · replace hp := oT c12 hp
    refine lv_iload hx hb dL_law_2432 (lv_at hl 1 rfl) ?_
    refine lv_if_ne (tgt := 2449) hx hb dL_law_2434 (by decide) (fun c13 => ?_) (fun c13 => ?_)
    · replace hp := oF c13 hp
      refine lv_goto (tgt := 3302) hx hb dL_law_2449 (by decide) ?_
      cases hp
      refine W.widen (k := cells + 8) (n := slots + 48) (by omega) (by omega) ?_
      exact kk H locs ls hM (lv_sub hl [2, 3, 4, 5, 6, 7] rfl)
    · replace hp := oT c13 hp
      refine lv_aload_n hx hb dL_law_2437 rfl (lv_at hl 5 rfl) ?_
      refine lv_iconst (v := 0) hx hb dL_law_2438 (by decide) ?_
      obtain ⟨v14, hv14, hp⟩ := ob hp
      refine mr_lald C0 hM hv14 dL_law_2439 ?_
      refine lv_iload hx hb dL_law_2440 (lv_at hl 0 rfl) ?_
      refine lv_i2l (v := (Int32.toInt64 v8)) hx hb dL_law_2442 rfl ?_
      refine W.lcmp hx hb dL_law_2443 ?_
      refine lv_if_eq (tgt := 2449) hx hb dL_law_2444 (by decide) (fun c15 => ?_) (fun c15 => ?_)
      · replace hp := oT c15 hp
        refine lv_goto (tgt := 3302) hx hb dL_law_2449 (by decide) ?_
        cases hp
        refine W.widen (k := cells + 8) (n := slots + 48) (by omega) (by omega) ?_
        exact kk H locs ls hM (lv_sub hl [2, 3, 4, 5, 6, 7] rfl)
      · replace hp := oF c15 hp
        cases hp
  · replace hp := oF c12 hp
    cases hp
def pk_38 (L : Nat) (xs : Nat → Int32) (x0 mo od od2 : Nat) (i0 : Int32) (M : Mem) : Option Mem :=
  (Option.bind (xI L xs (i0 + (1 : Int32))) fun v1 =>
  (ob2 (p_L_nearest x0 v1 od M) fun v2 M3 =>
  (Option.bind (xI L xs (i0 + (1 : Int32))) fun v4 =>
  (Option.bind (isC 6 M3 mo) fun _ =>
  (ob2 (p_X7_nearest mo v4 M3) fun v6 M7 =>
  (Option.bind (isC 6 M7 mo) fun _ =>
  (Option.bind (p_X7_thrown mo M7) fun v9 =>
  (if v9 = v2 then
   (if v2 = 0 then
    (Option.bind (aL M7 od (0 : Int32)) fun v12 =>
    (if (lg_cmp v12 (Int32.toInt64 v6)) = 0 then
     some M7
    else
     none
    )
    )
   else
    some M7
   )
  else
   none
  )
  )
  )
  )
  )
  )
  )
  )
set_option maxHeartbeats 4000000 in
set_option maxRecDepth 100000 in
theorem wk_38 {G : gG} {p : Program} {l : Launch} {e : Env} {s : State} {m : MethodId} {args : Array Value} {below : List Frame} {meth : Method} {c : Code} {A : Nat → Prop} {Z : gZ} {Q : State → Prop} {cells slots b L : Nat} {xs : Nat → Int32} {x0 mo od od2 : Nat} {i0 : Int32} (C0 : cx G p s m args c cL_law RL 10 A) (hG : GOK G) (hZ : GS G Z) (hY : GY G) (hlf : l.stackTraces = false) (hX : va_X b L xs s s.heap) (hbl : b < s.heap.size) (hbA : ¬ A b) (hcs : cells + 8 ≤ room_1.cells ∧ slots + 48 ≤ room_1.slots) {M M' : Mem} {H : Heap} {locs : List Loc} {ls : Array Slot} (hM : mm G A s M H locs) (hl : lv_has ls 10 [(0, .ref b), (1, .ref x0), (2, .ref mo), (3, .ref od), (4, .ref od2), (5, .int i0)]) (hp : pk_38 L xs x0 mo od od2 i0 M = some M') (kk : ∀ (H : Heap) (locs : List Loc) (ls : Array Slot), mm G A s M' H locs → lv_has ls 10 [(0, .ref b), (1, .ref x0), (2, .ref mo), (3, .ref od), (4, .ref od2), (5, .int i0)] → W p l e room_1 s m args below meth c H locs (cells + 8) (slots + 48) Q (F0 m 3302 ls [])) : W p l e room_1 s m args below meth c H locs cells slots Q (F0 m 2452 ls []) := by
  have hx := C0.1
  have hb := C0.2.1
  have hown := C0.2.2.2.1
  have hts := C0.2.2.2.2.1
  obtain ⟨hc1, hs1⟩ := hcs
  unfold pk_38 at hp
  refine lv_aload_n hx hb dL_law_2452 rfl (lv_at hl 1 rfl) ?_
  refine lv_aload_n hx hb dL_law_2453 rfl (lv_at hl 0 rfl) ?_
  refine lv_iload hx hb dL_law_2454 (lv_at hl 5 rfl) ?_
  refine lv_iconst (v := 1) hx hb dL_law_2456 (by decide) ?_
  refine lv_iadd hx hb dL_law_2457 ?_
  obtain ⟨v1, hv1, hp⟩ := ob hp
  obtain ⟨hin, ev1⟩ := xI_at hv1
  refine va_sld hx hb hX hbl hbA hM.2.2 hin dL_law_2458 ?_
  rw [ev1]
  refine lv_aload_n hx hb dL_law_2459 rfl (lv_at hl 3 rfl) ?_
  obtain ⟨v2, M3, hv2, hp⟩ := ob3 hp
  refine ml_S1 (As := [.ref x0, .int v1, .ref od]) (rest := []) C0 hM (w_L_nearest hG hY hlf hv2) tw_1102 tw_1103 tw_0 twh_1104 yk_L_nearest ⟨⟨rfl, rfl⟩, ⟨by decide, by decide⟩, by omega, by omega⟩ rfl hl.1 (Nat.le_of_ble_eq_true rfl) dL_law_2460 rfl (fun H locs hM => ?_)
  refine lv_istore (lv' := [(6, .int v2), (0, .ref b), (1, .ref x0), (2, .ref mo), (3, .ref od), (4, .ref od2), (5, .int i0)]) hx hb dL_law_2463 hl (by decide) rfl (fun ls hl => ?_)
  refine lv_aload_n hx hb dL_law_2465 rfl (lv_at hl 3 rfl) ?_
  refine lv_aload_n hx hb dL_law_2466 rfl (lv_at hl 1 rfl) ?_
  refine lv_iload hx hb dL_law_2467 (lv_at hl 6 rfl) ?_
  refine lv_iconst (v := 1) hx hb dL_law_2469 (by decide) ?_
  refine lv_iadd hx hb dL_law_2470 ?_
  obtain ⟨v4, hv4, hp⟩ := ob hp
  obtain ⟨hin, ev4⟩ := xI_at hv4
  refine va_sld hx hb hX hbl hbA hM.2.2 hin dL_law_2471 ?_
  rw [ev4]
  obtain ⟨_, h5, hp⟩ := ob hp
  obtain ⟨v6, M7, hv6, hp⟩ := ob3 hp
  refine mg_V1 (As := [.int v4]) (rest := []) C0 cbX7 hM h5 rfl (w_X7_nearest hG hv6) tw_1760 tw_1761 tw_1762 tw_7 tw_1763 yk_X7_nearest ⟨⟨rfl, rfl⟩, ⟨by decide, by decide⟩, by omega, by omega⟩ rfl hl.1 (Nat.le_of_ble_eq_true rfl) dL_law_2472 rfl (fun H locs hM => ?_)
  refine lv_istore (lv' := [(7, .int v6), (6, .int v2), (0, .ref b), (1, .ref x0), (2, .ref mo), (3, .ref od), (4, .ref od2), (5, .int i0)]) hx hb dL_law_2475 hl (by decide) rfl (fun ls hl => ?_)
  refine lv_aload_n hx hb dL_law_2477 rfl (lv_at hl 4 rfl) ?_
  obtain ⟨_, h8, hp⟩ := ob hp
  obtain ⟨v9, hv9, hp⟩ := ob hp
  refine mg_V1 (As := []) (rest := []) C0 cbX7 hM h8 rfl (w_X7_thrown hG hv9) tw_1309 tw_1310 tw_1311 tw_7 tw_1312 yk_X7_thrown ⟨⟨rfl, rfl⟩, ⟨by decide, by decide⟩, by omega, by omega⟩ rfl hl.1 (Nat.le_of_ble_eq_true rfl) dL_law_2478 rfl (fun H locs hM => ?_)
  refine lv_iload hx hb dL_law_2481 (lv_at hl 1 rfl) ?_
  refine lv_icmp_eq (tgt := 2488) hx hb dL_law_2483 (by decide) (fun c10 => ?_) (fun c10 => ?_)
  · replace hp := oT c10 hp
    refine lv_iload hx hb dL_law_2488 (lv_at hl 1 rfl) ?_
    refine lv_if_ne (tgt := 2505) hx hb dL_law_2490 (by decide) (fun c11 => ?_) (fun c11 => ?_)
    · replace hp := oF c11 hp
      refine lv_goto (tgt := 3302) hx hb dL_law_2505 (by decide) ?_
      cases hp
      refine W.widen (k := cells + 8) (n := slots + 48) (by omega) (by omega) ?_
      exact kk H locs ls hM (lv_sub hl [2, 3, 4, 5, 6, 7] rfl)
    · replace hp := oT c11 hp
      refine lv_aload_n hx hb dL_law_2493 rfl (lv_at hl 5 rfl) ?_
      refine lv_iconst (v := 0) hx hb dL_law_2494 (by decide) ?_
      obtain ⟨v12, hv12, hp⟩ := ob hp
      refine mr_lald C0 hM hv12 dL_law_2495 ?_
      refine lv_iload hx hb dL_law_2496 (lv_at hl 0 rfl) ?_
      refine lv_i2l (v := (Int32.toInt64 v6)) hx hb dL_law_2498 rfl ?_
      refine W.lcmp hx hb dL_law_2499 ?_
      refine lv_if_eq (tgt := 2505) hx hb dL_law_2500 (by decide) (fun c13 => ?_) (fun c13 => ?_)
      · replace hp := oT c13 hp
        refine lv_goto (tgt := 3302) hx hb dL_law_2505 (by decide) ?_
        cases hp
        refine W.widen (k := cells + 8) (n := slots + 48) (by omega) (by omega) ?_
        exact kk H locs ls hM (lv_sub hl [2, 3, 4, 5, 6, 7] rfl)
      · replace hp := oF c13 hp
        cases hp
  · replace hp := oF c10 hp
    cases hp
def pk_39 (L : Nat) (xs : Nat → Int32) (x0 mo od od2 : Nat) (i0 : Int32) (M : Mem) : Option Mem :=
  (Option.bind (xI L xs (i0 + (1 : Int32))) fun v1 =>
  (ob2 (p_L_chainOf x0 v1 od M) fun v2 M3 =>
  (Option.bind (xI L xs (i0 + (1 : Int32))) fun v4 =>
  (Option.bind (isC 6 M3 mo) fun _ =>
  (ob2 (p_X7_chainOf mo v4 M3) fun v6 M7 =>
  (Option.bind (isC 6 M7 mo) fun _ =>
  (Option.bind (p_X7_thrown mo M7) fun v9 =>
  (if v9 = v2 then
   (if v2 = 0 then
    (Option.bind (aL M7 od (0 : Int32)) fun v12 =>
    (if (lg_cmp v12 (Int32.toInt64 v6)) = 0 then
     some M7
    else
     none
    )
    )
   else
    some M7
   )
  else
   none
  )
  )
  )
  )
  )
  )
  )
  )
set_option maxHeartbeats 4000000 in
set_option maxRecDepth 100000 in
theorem wk_39 {G : gG} {p : Program} {l : Launch} {e : Env} {s : State} {m : MethodId} {args : Array Value} {below : List Frame} {meth : Method} {c : Code} {A : Nat → Prop} {Z : gZ} {Q : State → Prop} {cells slots b L : Nat} {xs : Nat → Int32} {x0 mo od od2 : Nat} {i0 : Int32} (C0 : cx G p s m args c cL_law RL 10 A) (hG : GOK G) (hZ : GS G Z) (hY : GY G) (hlf : l.stackTraces = false) (hX : va_X b L xs s s.heap) (hbl : b < s.heap.size) (hbA : ¬ A b) (hcs : cells + 8 ≤ room_1.cells ∧ slots + 48 ≤ room_1.slots) {M M' : Mem} {H : Heap} {locs : List Loc} {ls : Array Slot} (hM : mm G A s M H locs) (hl : lv_has ls 10 [(0, .ref b), (1, .ref x0), (2, .ref mo), (3, .ref od), (4, .ref od2), (5, .int i0)]) (hp : pk_39 L xs x0 mo od od2 i0 M = some M') (kk : ∀ (H : Heap) (locs : List Loc) (ls : Array Slot), mm G A s M' H locs → lv_has ls 10 [(0, .ref b), (1, .ref x0), (2, .ref mo), (3, .ref od), (4, .ref od2), (5, .int i0)] → W p l e room_1 s m args below meth c H locs (cells + 8) (slots + 48) Q (F0 m 3302 ls [])) : W p l e room_1 s m args below meth c H locs cells slots Q (F0 m 2508 ls []) := by
  have hx := C0.1
  have hb := C0.2.1
  have hown := C0.2.2.2.1
  have hts := C0.2.2.2.2.1
  obtain ⟨hc1, hs1⟩ := hcs
  unfold pk_39 at hp
  refine lv_aload_n hx hb dL_law_2508 rfl (lv_at hl 1 rfl) ?_
  refine lv_aload_n hx hb dL_law_2509 rfl (lv_at hl 0 rfl) ?_
  refine lv_iload hx hb dL_law_2510 (lv_at hl 5 rfl) ?_
  refine lv_iconst (v := 1) hx hb dL_law_2512 (by decide) ?_
  refine lv_iadd hx hb dL_law_2513 ?_
  obtain ⟨v1, hv1, hp⟩ := ob hp
  obtain ⟨hin, ev1⟩ := xI_at hv1
  refine va_sld hx hb hX hbl hbA hM.2.2 hin dL_law_2514 ?_
  rw [ev1]
  refine lv_aload_n hx hb dL_law_2515 rfl (lv_at hl 3 rfl) ?_
  obtain ⟨v2, M3, hv2, hp⟩ := ob3 hp
  refine ml_S1 (As := [.ref x0, .int v1, .ref od]) (rest := []) C0 hM (w_L_chainOf hG hY hlf hv2) tw_1109 tw_1110 tw_0 twh_1111 yk_L_chainOf ⟨⟨rfl, rfl⟩, ⟨by decide, by decide⟩, by omega, by omega⟩ rfl hl.1 (Nat.le_of_ble_eq_true rfl) dL_law_2516 rfl (fun H locs hM => ?_)
  refine lv_istore (lv' := [(6, .int v2), (0, .ref b), (1, .ref x0), (2, .ref mo), (3, .ref od), (4, .ref od2), (5, .int i0)]) hx hb dL_law_2519 hl (by decide) rfl (fun ls hl => ?_)
  refine lv_aload_n hx hb dL_law_2521 rfl (lv_at hl 3 rfl) ?_
  refine lv_aload_n hx hb dL_law_2522 rfl (lv_at hl 1 rfl) ?_
  refine lv_iload hx hb dL_law_2523 (lv_at hl 6 rfl) ?_
  refine lv_iconst (v := 1) hx hb dL_law_2525 (by decide) ?_
  refine lv_iadd hx hb dL_law_2526 ?_
  obtain ⟨v4, hv4, hp⟩ := ob hp
  obtain ⟨hin, ev4⟩ := xI_at hv4
  refine va_sld hx hb hX hbl hbA hM.2.2 hin dL_law_2527 ?_
  rw [ev4]
  obtain ⟨_, h5, hp⟩ := ob hp
  obtain ⟨v6, M7, hv6, hp⟩ := ob3 hp
  refine mg_V1 (As := [.int v4]) (rest := []) C0 cbX7 hM h5 rfl (w_X7_chainOf hG hv6) tw_1769 tw_1770 tw_1771 tw_7 tw_1772 yk_X7_chainOf ⟨⟨rfl, rfl⟩, ⟨by decide, by decide⟩, by omega, by omega⟩ rfl hl.1 (Nat.le_of_ble_eq_true rfl) dL_law_2528 rfl (fun H locs hM => ?_)
  refine lv_istore (lv' := [(7, .int v6), (6, .int v2), (0, .ref b), (1, .ref x0), (2, .ref mo), (3, .ref od), (4, .ref od2), (5, .int i0)]) hx hb dL_law_2531 hl (by decide) rfl (fun ls hl => ?_)
  refine lv_aload_n hx hb dL_law_2533 rfl (lv_at hl 4 rfl) ?_
  obtain ⟨_, h8, hp⟩ := ob hp
  obtain ⟨v9, hv9, hp⟩ := ob hp
  refine mg_V1 (As := []) (rest := []) C0 cbX7 hM h8 rfl (w_X7_thrown hG hv9) tw_1309 tw_1310 tw_1311 tw_7 tw_1312 yk_X7_thrown ⟨⟨rfl, rfl⟩, ⟨by decide, by decide⟩, by omega, by omega⟩ rfl hl.1 (Nat.le_of_ble_eq_true rfl) dL_law_2534 rfl (fun H locs hM => ?_)
  refine lv_iload hx hb dL_law_2537 (lv_at hl 1 rfl) ?_
  refine lv_icmp_eq (tgt := 2544) hx hb dL_law_2539 (by decide) (fun c10 => ?_) (fun c10 => ?_)
  · replace hp := oT c10 hp
    refine lv_iload hx hb dL_law_2544 (lv_at hl 1 rfl) ?_
    refine lv_if_ne (tgt := 2561) hx hb dL_law_2546 (by decide) (fun c11 => ?_) (fun c11 => ?_)
    · replace hp := oF c11 hp
      refine lv_goto (tgt := 3302) hx hb dL_law_2561 (by decide) ?_
      cases hp
      refine W.widen (k := cells + 8) (n := slots + 48) (by omega) (by omega) ?_
      exact kk H locs ls hM (lv_sub hl [2, 3, 4, 5, 6, 7] rfl)
    · replace hp := oT c11 hp
      refine lv_aload_n hx hb dL_law_2549 rfl (lv_at hl 5 rfl) ?_
      refine lv_iconst (v := 0) hx hb dL_law_2550 (by decide) ?_
      obtain ⟨v12, hv12, hp⟩ := ob hp
      refine mr_lald C0 hM hv12 dL_law_2551 ?_
      refine lv_iload hx hb dL_law_2552 (lv_at hl 0 rfl) ?_
      refine lv_i2l (v := (Int32.toInt64 v6)) hx hb dL_law_2554 rfl ?_
      refine W.lcmp hx hb dL_law_2555 ?_
      refine lv_if_eq (tgt := 2561) hx hb dL_law_2556 (by decide) (fun c13 => ?_) (fun c13 => ?_)
      · replace hp := oT c13 hp
        refine lv_goto (tgt := 3302) hx hb dL_law_2561 (by decide) ?_
        cases hp
        refine W.widen (k := cells + 8) (n := slots + 48) (by omega) (by omega) ?_
        exact kk H locs ls hM (lv_sub hl [2, 3, 4, 5, 6, 7] rfl)
      · replace hp := oF c13 hp
        cases hp
  · replace hp := oF c10 hp
    cases hp
def pk_40 (L : Nat) (xs : Nat → Int32) (x0 mo od od2 : Nat) (i0 : Int32) (M : Mem) : Option Mem :=
  (Option.bind (isC 5 M x0) fun _ =>
  (Option.bind (p_X6_freePlaces x0 M) fun v2 =>
  (Option.bind (isC 6 M mo) fun _ =>
  (ob2 (p_X7_freePlaces mo M) fun v4 M5 =>
  (if v2 = v4 then
   some M5
  else
   none
  )
  )
  )
  )
  )
set_option maxHeartbeats 4000000 in
set_option maxRecDepth 100000 in
theorem wk_40 {G : gG} {p : Program} {l : Launch} {e : Env} {s : State} {m : MethodId} {args : Array Value} {below : List Frame} {meth : Method} {c : Code} {A : Nat → Prop} {Z : gZ} {Q : State → Prop} {cells slots b L : Nat} {xs : Nat → Int32} {x0 mo od od2 : Nat} {i0 : Int32} (C0 : cx G p s m args c cL_law RL 10 A) (hG : GOK G) (hZ : GS G Z) (hY : GY G) (hlf : l.stackTraces = false) (hX : va_X b L xs s s.heap) (hbl : b < s.heap.size) (hbA : ¬ A b) (hcs : cells + 8 ≤ room_1.cells ∧ slots + 48 ≤ room_1.slots) {M M' : Mem} {H : Heap} {locs : List Loc} {ls : Array Slot} (hM : mm G A s M H locs) (hl : lv_has ls 10 [(0, .ref b), (1, .ref x0), (2, .ref mo), (3, .ref od), (4, .ref od2), (5, .int i0)]) (hp : pk_40 L xs x0 mo od od2 i0 M = some M') (kk : ∀ (H : Heap) (locs : List Loc) (ls : Array Slot), mm G A s M' H locs → lv_has ls 10 [(0, .ref b), (1, .ref x0), (2, .ref mo), (3, .ref od), (4, .ref od2), (5, .int i0)] → W p l e room_1 s m args below meth c H locs (cells + 8) (slots + 48) Q (F0 m 3302 ls [])) : W p l e room_1 s m args below meth c H locs cells slots Q (F0 m 2564 ls []) := by
  have hx := C0.1
  have hb := C0.2.1
  have hown := C0.2.2.2.1
  have hts := C0.2.2.2.2.1
  obtain ⟨hc1, hs1⟩ := hcs
  unfold pk_40 at hp
  refine lv_aload_n hx hb dL_law_2564 rfl (lv_at hl 1 rfl) ?_
  obtain ⟨_, h1, hp⟩ := ob hp
  obtain ⟨v2, hv2, hp⟩ := ob hp
  refine mg_V1 (As := []) (rest := []) C0 cbX6 hM h1 rfl (w_X6_freePlaces hG hv2) tw_673 tw_674 tw_675 tw_1 tw_676 yk_X6_freePlaces ⟨⟨rfl, rfl⟩, ⟨by decide, by decide⟩, by omega, by omega⟩ rfl hl.1 (Nat.le_of_ble_eq_true rfl) dL_law_2565 rfl (fun H locs hM => ?_)
  refine lv_aload_n hx hb dL_law_2568 rfl (lv_at hl 2 rfl) ?_
  obtain ⟨_, h3, hp⟩ := ob hp
  obtain ⟨v4, M5, hv4, hp⟩ := ob3 hp
  refine mg_V1 (As := []) (rest := [.int v2]) C0 cbX7 hM h3 rfl (w_X7_freePlaces hG hv4) tw_1764 tw_1765 tw_1766 tw_7 tw_1767 yk_X7_freePlaces ⟨⟨rfl, rfl⟩, ⟨by decide, by decide⟩, by omega, by omega⟩ rfl hl.1 (Nat.le_of_ble_eq_true rfl) dL_law_2569 rfl (fun H locs hM => ?_)
  refine lv_icmp_eq (tgt := 3302) hx hb dL_law_2572 (by decide) (fun c6 => ?_) (fun c6 => ?_)
  · replace hp := oT c6 hp
    cases hp
    refine W.widen (k := cells + 8) (n := slots + 48) (by omega) (by omega) ?_
    exact kk H locs ls hM (lv_sub hl [0, 1, 2, 3, 4, 5] rfl)
  · replace hp := oF c6 hp
    cases hp
def pk_41 (L : Nat) (xs : Nat → Int32) (x0 mo od od2 : Nat) (i0 : Int32) (M : Mem) : Option Mem :=
  (Option.bind (xI L xs (i0 + (1 : Int32))) fun v1 =>
  (ob2 (p_L_tradePartner x0 v1 od M) fun v2 M3 =>
  (Option.bind (xI L xs (i0 + (1 : Int32))) fun v4 =>
  (Option.bind (isC 6 M3 mo) fun _ =>
  (ob2 (p_X7_tradePartner mo v4 M3) fun v6 M7 =>
  (Option.bind (isC 6 M7 mo) fun _ =>
  (Option.bind (p_X7_thrown mo M7) fun v9 =>
  (if v9 = v2 then
   (if v2 = 0 then
    (Option.bind (aL M7 od (0 : Int32)) fun v12 =>
    (if (lg_cmp v12 (Int32.toInt64 v6)) = 0 then
     some M7
    else
     none
    )
    )
   else
    some M7
   )
  else
   none
  )
  )
  )
  )
  )
  )
  )
  )
set_option maxHeartbeats 4000000 in
set_option maxRecDepth 100000 in
theorem wk_41 {G : gG} {p : Program} {l : Launch} {e : Env} {s : State} {m : MethodId} {args : Array Value} {below : List Frame} {meth : Method} {c : Code} {A : Nat → Prop} {Z : gZ} {Q : State → Prop} {cells slots b L : Nat} {xs : Nat → Int32} {x0 mo od od2 : Nat} {i0 : Int32} (C0 : cx G p s m args c cL_law RL 10 A) (hG : GOK G) (hZ : GS G Z) (hY : GY G) (hlf : l.stackTraces = false) (hX : va_X b L xs s s.heap) (hbl : b < s.heap.size) (hbA : ¬ A b) (hcs : cells + 8 ≤ room_1.cells ∧ slots + 48 ≤ room_1.slots) {M M' : Mem} {H : Heap} {locs : List Loc} {ls : Array Slot} (hM : mm G A s M H locs) (hl : lv_has ls 10 [(0, .ref b), (1, .ref x0), (2, .ref mo), (3, .ref od), (4, .ref od2), (5, .int i0)]) (hp : pk_41 L xs x0 mo od od2 i0 M = some M') (kk : ∀ (H : Heap) (locs : List Loc) (ls : Array Slot), mm G A s M' H locs → lv_has ls 10 [(0, .ref b), (1, .ref x0), (2, .ref mo), (3, .ref od), (4, .ref od2), (5, .int i0)] → W p l e room_1 s m args below meth c H locs (cells + 8) (slots + 48) Q (F0 m 3302 ls [])) : W p l e room_1 s m args below meth c H locs cells slots Q (F0 m 2577 ls []) := by
  have hx := C0.1
  have hb := C0.2.1
  have hown := C0.2.2.2.1
  have hts := C0.2.2.2.2.1
  obtain ⟨hc1, hs1⟩ := hcs
  unfold pk_41 at hp
  refine lv_aload_n hx hb dL_law_2577 rfl (lv_at hl 1 rfl) ?_
  refine lv_aload_n hx hb dL_law_2578 rfl (lv_at hl 0 rfl) ?_
  refine lv_iload hx hb dL_law_2579 (lv_at hl 5 rfl) ?_
  refine lv_iconst (v := 1) hx hb dL_law_2581 (by decide) ?_
  refine lv_iadd hx hb dL_law_2582 ?_
  obtain ⟨v1, hv1, hp⟩ := ob hp
  obtain ⟨hin, ev1⟩ := xI_at hv1
  refine va_sld hx hb hX hbl hbA hM.2.2 hin dL_law_2583 ?_
  rw [ev1]
  refine lv_aload_n hx hb dL_law_2584 rfl (lv_at hl 3 rfl) ?_
  obtain ⟨v2, M3, hv2, hp⟩ := ob3 hp
  refine ml_S1 (As := [.ref x0, .int v1, .ref od]) (rest := []) C0 hM (w_L_tradePartner hG hY hlf hv2) tw_1116 tw_1117 tw_0 twh_1118 yk_L_tradePartner ⟨⟨rfl, rfl⟩, ⟨by decide, by decide⟩, by omega, by omega⟩ rfl hl.1 (Nat.le_of_ble_eq_true rfl) dL_law_2585 rfl (fun H locs hM => ?_)
  refine lv_istore (lv' := [(6, .int v2), (0, .ref b), (1, .ref x0), (2, .ref mo), (3, .ref od), (4, .ref od2), (5, .int i0)]) hx hb dL_law_2588 hl (by decide) rfl (fun ls hl => ?_)
  refine lv_aload_n hx hb dL_law_2590 rfl (lv_at hl 3 rfl) ?_
  refine lv_aload_n hx hb dL_law_2591 rfl (lv_at hl 1 rfl) ?_
  refine lv_iload hx hb dL_law_2592 (lv_at hl 6 rfl) ?_
  refine lv_iconst (v := 1) hx hb dL_law_2594 (by decide) ?_
  refine lv_iadd hx hb dL_law_2595 ?_
  obtain ⟨v4, hv4, hp⟩ := ob hp
  obtain ⟨hin, ev4⟩ := xI_at hv4
  refine va_sld hx hb hX hbl hbA hM.2.2 hin dL_law_2596 ?_
  rw [ev4]
  obtain ⟨_, h5, hp⟩ := ob hp
  obtain ⟨v6, M7, hv6, hp⟩ := ob3 hp
  refine mg_V1 (As := [.int v4]) (rest := []) C0 cbX7 hM h5 rfl (w_X7_tradePartner hG hv6) tw_1712 tw_1713 tw_1714 tw_7 tw_1715 yk_X7_tradePartner ⟨⟨rfl, rfl⟩, ⟨by decide, by decide⟩, by omega, by omega⟩ rfl hl.1 (Nat.le_of_ble_eq_true rfl) dL_law_2597 rfl (fun H locs hM => ?_)
  refine lv_istore (lv' := [(7, .int v6), (6, .int v2), (0, .ref b), (1, .ref x0), (2, .ref mo), (3, .ref od), (4, .ref od2), (5, .int i0)]) hx hb dL_law_2600 hl (by decide) rfl (fun ls hl => ?_)
  refine lv_aload_n hx hb dL_law_2602 rfl (lv_at hl 4 rfl) ?_
  obtain ⟨_, h8, hp⟩ := ob hp
  obtain ⟨v9, hv9, hp⟩ := ob hp
  refine mg_V1 (As := []) (rest := []) C0 cbX7 hM h8 rfl (w_X7_thrown hG hv9) tw_1309 tw_1310 tw_1311 tw_7 tw_1312 yk_X7_thrown ⟨⟨rfl, rfl⟩, ⟨by decide, by decide⟩, by omega, by omega⟩ rfl hl.1 (Nat.le_of_ble_eq_true rfl) dL_law_2603 rfl (fun H locs hM => ?_)
  refine lv_iload hx hb dL_law_2606 (lv_at hl 1 rfl) ?_
  refine lv_icmp_eq (tgt := 2613) hx hb dL_law_2608 (by decide) (fun c10 => ?_) (fun c10 => ?_)
  · replace hp := oT c10 hp
    refine lv_iload hx hb dL_law_2613 (lv_at hl 1 rfl) ?_
    refine lv_if_ne (tgt := 2630) hx hb dL_law_2615 (by decide) (fun c11 => ?_) (fun c11 => ?_)
    · replace hp := oF c11 hp
      refine lv_goto (tgt := 3302) hx hb dL_law_2630 (by decide) ?_
      cases hp
      refine W.widen (k := cells + 8) (n := slots + 48) (by omega) (by omega) ?_
      exact kk H locs ls hM (lv_sub hl [2, 3, 4, 5, 6, 7] rfl)
    · replace hp := oT c11 hp
      refine lv_aload_n hx hb dL_law_2618 rfl (lv_at hl 5 rfl) ?_
      refine lv_iconst (v := 0) hx hb dL_law_2619 (by decide) ?_
      obtain ⟨v12, hv12, hp⟩ := ob hp
      refine mr_lald C0 hM hv12 dL_law_2620 ?_
      refine lv_iload hx hb dL_law_2621 (lv_at hl 0 rfl) ?_
      refine lv_i2l (v := (Int32.toInt64 v6)) hx hb dL_law_2623 rfl ?_
      refine W.lcmp hx hb dL_law_2624 ?_
      refine lv_if_eq (tgt := 2630) hx hb dL_law_2625 (by decide) (fun c13 => ?_) (fun c13 => ?_)
      · replace hp := oT c13 hp
        refine lv_goto (tgt := 3302) hx hb dL_law_2630 (by decide) ?_
        cases hp
        refine W.widen (k := cells + 8) (n := slots + 48) (by omega) (by omega) ?_
        exact kk H locs ls hM (lv_sub hl [2, 3, 4, 5, 6, 7] rfl)
      · replace hp := oF c13 hp
        cases hp
  · replace hp := oF c10 hp
    cases hp
def pk_42 (L : Nat) (xs : Nat → Int32) (x0 mo od od2 : Nat) (i0 : Int32) (M : Mem) : Option Mem :=
  (Option.bind (isC 5 M x0) fun _ =>
  (Option.bind (p_X6_trades x0 M) fun v2 =>
  (Option.bind (isC 6 M mo) fun _ =>
  (ob2 (p_X7_trades mo M) fun v4 M5 =>
  (if v2 = v4 then
   some M5
  else
   none
  )
  )
  )
  )
  )
set_option maxHeartbeats 4000000 in
set_option maxRecDepth 100000 in
theorem wk_42 {G : gG} {p : Program} {l : Launch} {e : Env} {s : State} {m : MethodId} {args : Array Value} {below : List Frame} {meth : Method} {c : Code} {A : Nat → Prop} {Z : gZ} {Q : State → Prop} {cells slots b L : Nat} {xs : Nat → Int32} {x0 mo od od2 : Nat} {i0 : Int32} (C0 : cx G p s m args c cL_law RL 10 A) (hG : GOK G) (hZ : GS G Z) (hY : GY G) (hlf : l.stackTraces = false) (hX : va_X b L xs s s.heap) (hbl : b < s.heap.size) (hbA : ¬ A b) (hcs : cells + 8 ≤ room_1.cells ∧ slots + 48 ≤ room_1.slots) {M M' : Mem} {H : Heap} {locs : List Loc} {ls : Array Slot} (hM : mm G A s M H locs) (hl : lv_has ls 10 [(0, .ref b), (1, .ref x0), (2, .ref mo), (3, .ref od), (4, .ref od2), (5, .int i0)]) (hp : pk_42 L xs x0 mo od od2 i0 M = some M') (kk : ∀ (H : Heap) (locs : List Loc) (ls : Array Slot), mm G A s M' H locs → lv_has ls 10 [(0, .ref b), (1, .ref x0), (2, .ref mo), (3, .ref od), (4, .ref od2), (5, .int i0)] → W p l e room_1 s m args below meth c H locs (cells + 8) (slots + 48) Q (F0 m 3302 ls [])) : W p l e room_1 s m args below meth c H locs cells slots Q (F0 m 2633 ls []) := by
  have hx := C0.1
  have hb := C0.2.1
  have hown := C0.2.2.2.1
  have hts := C0.2.2.2.2.1
  obtain ⟨hc1, hs1⟩ := hcs
  unfold pk_42 at hp
  refine lv_aload_n hx hb dL_law_2633 rfl (lv_at hl 1 rfl) ?_
  obtain ⟨_, h1, hp⟩ := ob hp
  obtain ⟨v2, hv2, hp⟩ := ob hp
  refine mg_V1 (As := []) (rest := []) C0 cbX6 hM h1 rfl (w_X6_trades hG hv2) tw_682 tw_683 tw_684 tw_1 tw_685 yk_X6_trades ⟨⟨rfl, rfl⟩, ⟨by decide, by decide⟩, by omega, by omega⟩ rfl hl.1 (Nat.le_of_ble_eq_true rfl) dL_law_2634 rfl (fun H locs hM => ?_)
  refine lv_aload_n hx hb dL_law_2637 rfl (lv_at hl 2 rfl) ?_
  obtain ⟨_, h3, hp⟩ := ob hp
  obtain ⟨v4, M5, hv4, hp⟩ := ob3 hp
  refine mg_V1 (As := []) (rest := [.int v2]) C0 cbX7 hM h3 rfl (w_X7_trades hG hv4) tw_1724 tw_1725 tw_1726 tw_7 tw_1727 yk_X7_trades ⟨⟨rfl, rfl⟩, ⟨by decide, by decide⟩, by omega, by omega⟩ rfl hl.1 (Nat.le_of_ble_eq_true rfl) dL_law_2638 rfl (fun H locs hM => ?_)
  refine lv_icmp_eq (tgt := 3302) hx hb dL_law_2641 (by decide) (fun c6 => ?_) (fun c6 => ?_)
  · replace hp := oT c6 hp
    cases hp
    refine W.widen (k := cells + 8) (n := slots + 48) (by omega) (by omega) ?_
    exact kk H locs ls hM (lv_sub hl [0, 1, 2, 3, 4, 5] rfl)
  · replace hp := oF c6 hp
    cases hp
def pk_43 (L : Nat) (xs : Nat → Int32) (x0 mo od od2 : Nat) (i0 : Int32) (M : Mem) : Option Mem :=
  (Option.bind (xI L xs (i0 + (1 : Int32))) fun v1 =>
  (Option.bind (xI L xs (i0 + (2 : Int32))) fun v2 =>
  (ob2 (p_L_holdersOfClass x0 v1 v2 od M) fun v3 M4 =>
  (Option.bind (xI L xs (i0 + (1 : Int32))) fun v5 =>
  (Option.bind (xI L xs (i0 + (2 : Int32))) fun v6 =>
  (Option.bind (isC 6 M4 mo) fun _ =>
  (ob2 (p_X7_holdersOfClass mo v5 v6 M4) fun v8 M9 =>
  (Option.bind (isC 6 M9 mo) fun _ =>
  (Option.bind (p_X7_thrown mo M9) fun v11 =>
  (if v11 = v3 then
   (if v3 = 0 then
    (Option.bind (aL M9 od (0 : Int32)) fun v14 =>
    (if (lg_cmp v14 (Int32.toInt64 v8)) = 0 then
     some M9
    else
     none
    )
    )
   else
    some M9
   )
  else
   none
  )
  )
  )
  )
  )
  )
  )
  )
  )
  )
set_option maxHeartbeats 4000000 in
set_option maxRecDepth 100000 in
theorem wk_43 {G : gG} {p : Program} {l : Launch} {e : Env} {s : State} {m : MethodId} {args : Array Value} {below : List Frame} {meth : Method} {c : Code} {A : Nat → Prop} {Z : gZ} {Q : State → Prop} {cells slots b L : Nat} {xs : Nat → Int32} {x0 mo od od2 : Nat} {i0 : Int32} (C0 : cx G p s m args c cL_law RL 10 A) (hG : GOK G) (hZ : GS G Z) (hY : GY G) (hlf : l.stackTraces = false) (hX : va_X b L xs s s.heap) (hbl : b < s.heap.size) (hbA : ¬ A b) (hcs : cells + 8 ≤ room_1.cells ∧ slots + 48 ≤ room_1.slots) {M M' : Mem} {H : Heap} {locs : List Loc} {ls : Array Slot} (hM : mm G A s M H locs) (hl : lv_has ls 10 [(0, .ref b), (1, .ref x0), (2, .ref mo), (3, .ref od), (4, .ref od2), (5, .int i0)]) (hp : pk_43 L xs x0 mo od od2 i0 M = some M') (kk : ∀ (H : Heap) (locs : List Loc) (ls : Array Slot), mm G A s M' H locs → lv_has ls 10 [(0, .ref b), (1, .ref x0), (2, .ref mo), (3, .ref od), (4, .ref od2), (5, .int i0)] → W p l e room_1 s m args below meth c H locs (cells + 8) (slots + 48) Q (F0 m 3302 ls [])) : W p l e room_1 s m args below meth c H locs cells slots Q (F0 m 2646 ls []) := by
  have hx := C0.1
  have hb := C0.2.1
  have hown := C0.2.2.2.1
  have hts := C0.2.2.2.2.1
  obtain ⟨hc1, hs1⟩ := hcs
  unfold pk_43 at hp
  refine lv_aload_n hx hb dL_law_2646 rfl (lv_at hl 1 rfl) ?_
  refine lv_aload_n hx hb dL_law_2647 rfl (lv_at hl 0 rfl) ?_
  refine lv_iload hx hb dL_law_2648 (lv_at hl 5 rfl) ?_
  refine lv_iconst (v := 1) hx hb dL_law_2650 (by decide) ?_
  refine lv_iadd hx hb dL_law_2651 ?_
  obtain ⟨v1, hv1, hp⟩ := ob hp
  obtain ⟨hin, ev1⟩ := xI_at hv1
  refine va_sld hx hb hX hbl hbA hM.2.2 hin dL_law_2652 ?_
  rw [ev1]
  refine lv_aload_n hx hb dL_law_2653 rfl (lv_at hl 0 rfl) ?_
  refine lv_iload hx hb dL_law_2654 (lv_at hl 5 rfl) ?_
  refine lv_iconst (v := 2) hx hb dL_law_2656 (by decide) ?_
  refine lv_iadd hx hb dL_law_2657 ?_
  obtain ⟨v2, hv2, hp⟩ := ob hp
  obtain ⟨hin, ev2⟩ := xI_at hv2
  refine va_sld hx hb hX hbl hbA hM.2.2 hin dL_law_2658 ?_
  rw [ev2]
  refine lv_aload_n hx hb dL_law_2659 rfl (lv_at hl 3 rfl) ?_
  obtain ⟨v3, M4, hv3, hp⟩ := ob3 hp
  refine ml_S1 (As := [.ref x0, .int v1, .int v2, .ref od]) (rest := []) C0 hM (w_L_holdersOfClass hG hY hlf hv3) tw_1123 tw_1124 tw_0 twh_1125 yk_L_holdersOfClass ⟨⟨rfl, rfl⟩, ⟨by decide, by decide⟩, by omega, by omega⟩ rfl hl.1 (Nat.le_of_ble_eq_true rfl) dL_law_2660 rfl (fun H locs hM => ?_)
  refine lv_istore (lv' := [(6, .int v3), (0, .ref b), (1, .ref x0), (2, .ref mo), (3, .ref od), (4, .ref od2), (5, .int i0)]) hx hb dL_law_2663 hl (by decide) rfl (fun ls hl => ?_)
  refine lv_aload_n hx hb dL_law_2665 rfl (lv_at hl 3 rfl) ?_
  refine lv_aload_n hx hb dL_law_2666 rfl (lv_at hl 1 rfl) ?_
  refine lv_iload hx hb dL_law_2667 (lv_at hl 6 rfl) ?_
  refine lv_iconst (v := 1) hx hb dL_law_2669 (by decide) ?_
  refine lv_iadd hx hb dL_law_2670 ?_
  obtain ⟨v5, hv5, hp⟩ := ob hp
  obtain ⟨hin, ev5⟩ := xI_at hv5
  refine va_sld hx hb hX hbl hbA hM.2.2 hin dL_law_2671 ?_
  rw [ev5]
  refine lv_aload_n hx hb dL_law_2672 rfl (lv_at hl 1 rfl) ?_
  refine lv_iload hx hb dL_law_2673 (lv_at hl 6 rfl) ?_
  refine lv_iconst (v := 2) hx hb dL_law_2675 (by decide) ?_
  refine lv_iadd hx hb dL_law_2676 ?_
  obtain ⟨v6, hv6, hp⟩ := ob hp
  obtain ⟨hin, ev6⟩ := xI_at hv6
  refine va_sld hx hb hX hbl hbA hM.2.2 hin dL_law_2677 ?_
  rw [ev6]
  obtain ⟨_, h7, hp⟩ := ob hp
  obtain ⟨v8, M9, hv8, hp⟩ := ob3 hp
  refine mg_V1 (As := [.int v5, .int v6]) (rest := []) C0 cbX7 hM h7 rfl (w_X7_holdersOfClass hG hv8) tw_1728 tw_1729 tw_1730 tw_7 tw_1731 yk_X7_holdersOfClass ⟨⟨rfl, rfl⟩, ⟨by decide, by decide⟩, by omega, by omega⟩ rfl hl.1 (Nat.le_of_ble_eq_true rfl) dL_law_2678 rfl (fun H locs hM => ?_)
  refine lv_istore (lv' := [(7, .int v8), (6, .int v3), (0, .ref b), (1, .ref x0), (2, .ref mo), (3, .ref od), (4, .ref od2), (5, .int i0)]) hx hb dL_law_2681 hl (by decide) rfl (fun ls hl => ?_)
  refine lv_aload_n hx hb dL_law_2683 rfl (lv_at hl 4 rfl) ?_
  obtain ⟨_, h10, hp⟩ := ob hp
  obtain ⟨v11, hv11, hp⟩ := ob hp
  refine mg_V1 (As := []) (rest := []) C0 cbX7 hM h10 rfl (w_X7_thrown hG hv11) tw_1309 tw_1310 tw_1311 tw_7 tw_1312 yk_X7_thrown ⟨⟨rfl, rfl⟩, ⟨by decide, by decide⟩, by omega, by omega⟩ rfl hl.1 (Nat.le_of_ble_eq_true rfl) dL_law_2684 rfl (fun H locs hM => ?_)
  refine lv_iload hx hb dL_law_2687 (lv_at hl 1 rfl) ?_
  refine lv_icmp_eq (tgt := 2694) hx hb dL_law_2689 (by decide) (fun c12 => ?_) (fun c12 => ?_)
  · replace hp := oT c12 hp
    refine lv_iload hx hb dL_law_2694 (lv_at hl 1 rfl) ?_
    refine lv_if_ne (tgt := 2711) hx hb dL_law_2696 (by decide) (fun c13 => ?_) (fun c13 => ?_)
    · replace hp := oF c13 hp
      refine lv_goto (tgt := 3302) hx hb dL_law_2711 (by decide) ?_
      cases hp
      refine W.widen (k := cells + 8) (n := slots + 48) (by omega) (by omega) ?_
      exact kk H locs ls hM (lv_sub hl [2, 3, 4, 5, 6, 7] rfl)
    · replace hp := oT c13 hp
      refine lv_aload_n hx hb dL_law_2699 rfl (lv_at hl 5 rfl) ?_
      refine lv_iconst (v := 0) hx hb dL_law_2700 (by decide) ?_
      obtain ⟨v14, hv14, hp⟩ := ob hp
      refine mr_lald C0 hM hv14 dL_law_2701 ?_
      refine lv_iload hx hb dL_law_2702 (lv_at hl 0 rfl) ?_
      refine lv_i2l (v := (Int32.toInt64 v8)) hx hb dL_law_2704 rfl ?_
      refine W.lcmp hx hb dL_law_2705 ?_
      refine lv_if_eq (tgt := 2711) hx hb dL_law_2706 (by decide) (fun c15 => ?_) (fun c15 => ?_)
      · replace hp := oT c15 hp
        refine lv_goto (tgt := 3302) hx hb dL_law_2711 (by decide) ?_
        cases hp
        refine W.widen (k := cells + 8) (n := slots + 48) (by omega) (by omega) ?_
        exact kk H locs ls hM (lv_sub hl [2, 3, 4, 5, 6, 7] rfl)
      · replace hp := oF c15 hp
        cases hp
  · replace hp := oF c12 hp
    cases hp
def pk_44 (L : Nat) (xs : Nat → Int32) (x0 mo od od2 : Nat) (i0 : Int32) (M : Mem) : Option Mem :=
  (Option.bind (xI L xs (i0 + (1 : Int32))) fun v1 =>
  (ob2 (p_L_triesOf x0 v1 od M) fun v2 M3 =>
  (Option.bind (xI L xs (i0 + (1 : Int32))) fun v4 =>
  (Option.bind (isC 6 M3 mo) fun _ =>
  (ob2 (p_X7_triesOf mo v4 M3) fun v6 M7 =>
  (Option.bind (isC 6 M7 mo) fun _ =>
  (Option.bind (p_X7_thrown mo M7) fun v9 =>
  (if v9 = v2 then
   (if v2 = 0 then
    (Option.bind (aL M7 od (0 : Int32)) fun v12 =>
    (if (lg_cmp v12 (Int32.toInt64 v6)) = 0 then
     some M7
    else
     none
    )
    )
   else
    some M7
   )
  else
   none
  )
  )
  )
  )
  )
  )
  )
  )
set_option maxHeartbeats 4000000 in
set_option maxRecDepth 100000 in
theorem wk_44 {G : gG} {p : Program} {l : Launch} {e : Env} {s : State} {m : MethodId} {args : Array Value} {below : List Frame} {meth : Method} {c : Code} {A : Nat → Prop} {Z : gZ} {Q : State → Prop} {cells slots b L : Nat} {xs : Nat → Int32} {x0 mo od od2 : Nat} {i0 : Int32} (C0 : cx G p s m args c cL_law RL 10 A) (hG : GOK G) (hZ : GS G Z) (hY : GY G) (hlf : l.stackTraces = false) (hX : va_X b L xs s s.heap) (hbl : b < s.heap.size) (hbA : ¬ A b) (hcs : cells + 8 ≤ room_1.cells ∧ slots + 48 ≤ room_1.slots) {M M' : Mem} {H : Heap} {locs : List Loc} {ls : Array Slot} (hM : mm G A s M H locs) (hl : lv_has ls 10 [(0, .ref b), (1, .ref x0), (2, .ref mo), (3, .ref od), (4, .ref od2), (5, .int i0)]) (hp : pk_44 L xs x0 mo od od2 i0 M = some M') (kk : ∀ (H : Heap) (locs : List Loc) (ls : Array Slot), mm G A s M' H locs → lv_has ls 10 [(0, .ref b), (1, .ref x0), (2, .ref mo), (3, .ref od), (4, .ref od2), (5, .int i0)] → W p l e room_1 s m args below meth c H locs (cells + 8) (slots + 48) Q (F0 m 3302 ls [])) : W p l e room_1 s m args below meth c H locs cells slots Q (F0 m 2714 ls []) := by
  have hx := C0.1
  have hb := C0.2.1
  have hown := C0.2.2.2.1
  have hts := C0.2.2.2.2.1
  obtain ⟨hc1, hs1⟩ := hcs
  unfold pk_44 at hp
  refine lv_aload_n hx hb dL_law_2714 rfl (lv_at hl 1 rfl) ?_
  refine lv_aload_n hx hb dL_law_2715 rfl (lv_at hl 0 rfl) ?_
  refine lv_iload hx hb dL_law_2716 (lv_at hl 5 rfl) ?_
  refine lv_iconst (v := 1) hx hb dL_law_2718 (by decide) ?_
  refine lv_iadd hx hb dL_law_2719 ?_
  obtain ⟨v1, hv1, hp⟩ := ob hp
  obtain ⟨hin, ev1⟩ := xI_at hv1
  refine va_sld hx hb hX hbl hbA hM.2.2 hin dL_law_2720 ?_
  rw [ev1]
  refine lv_aload_n hx hb dL_law_2721 rfl (lv_at hl 3 rfl) ?_
  obtain ⟨v2, M3, hv2, hp⟩ := ob3 hp
  refine ml_S1 (As := [.ref x0, .int v1, .ref od]) (rest := []) C0 hM (w_L_triesOf hG hY hlf hv2) tw_1130 tw_1131 tw_0 twh_1132 yk_L_triesOf ⟨⟨rfl, rfl⟩, ⟨by decide, by decide⟩, by omega, by omega⟩ rfl hl.1 (Nat.le_of_ble_eq_true rfl) dL_law_2722 rfl (fun H locs hM => ?_)
  refine lv_istore (lv' := [(6, .int v2), (0, .ref b), (1, .ref x0), (2, .ref mo), (3, .ref od), (4, .ref od2), (5, .int i0)]) hx hb dL_law_2725 hl (by decide) rfl (fun ls hl => ?_)
  refine lv_aload_n hx hb dL_law_2727 rfl (lv_at hl 3 rfl) ?_
  refine lv_aload_n hx hb dL_law_2728 rfl (lv_at hl 1 rfl) ?_
  refine lv_iload hx hb dL_law_2729 (lv_at hl 6 rfl) ?_
  refine lv_iconst (v := 1) hx hb dL_law_2731 (by decide) ?_
  refine lv_iadd hx hb dL_law_2732 ?_
  obtain ⟨v4, hv4, hp⟩ := ob hp
  obtain ⟨hin, ev4⟩ := xI_at hv4
  refine va_sld hx hb hX hbl hbA hM.2.2 hin dL_law_2733 ?_
  rw [ev4]
  obtain ⟨_, h5, hp⟩ := ob hp
  obtain ⟨v6, M7, hv6, hp⟩ := ob3 hp
  refine mg_V1 (As := [.int v4]) (rest := []) C0 cbX7 hM h5 rfl (w_X7_triesOf hG hv6) tw_1785 tw_1786 tw_1787 tw_7 tw_1788 yk_X7_triesOf ⟨⟨rfl, rfl⟩, ⟨by decide, by decide⟩, by omega, by omega⟩ rfl hl.1 (Nat.le_of_ble_eq_true rfl) dL_law_2734 rfl (fun H locs hM => ?_)
  refine lv_istore (lv' := [(7, .int v6), (6, .int v2), (0, .ref b), (1, .ref x0), (2, .ref mo), (3, .ref od), (4, .ref od2), (5, .int i0)]) hx hb dL_law_2737 hl (by decide) rfl (fun ls hl => ?_)
  refine lv_aload_n hx hb dL_law_2739 rfl (lv_at hl 4 rfl) ?_
  obtain ⟨_, h8, hp⟩ := ob hp
  obtain ⟨v9, hv9, hp⟩ := ob hp
  refine mg_V1 (As := []) (rest := []) C0 cbX7 hM h8 rfl (w_X7_thrown hG hv9) tw_1309 tw_1310 tw_1311 tw_7 tw_1312 yk_X7_thrown ⟨⟨rfl, rfl⟩, ⟨by decide, by decide⟩, by omega, by omega⟩ rfl hl.1 (Nat.le_of_ble_eq_true rfl) dL_law_2740 rfl (fun H locs hM => ?_)
  refine lv_iload hx hb dL_law_2743 (lv_at hl 1 rfl) ?_
  refine lv_icmp_eq (tgt := 2750) hx hb dL_law_2745 (by decide) (fun c10 => ?_) (fun c10 => ?_)
  · replace hp := oT c10 hp
    refine lv_iload hx hb dL_law_2750 (lv_at hl 1 rfl) ?_
    refine lv_if_ne (tgt := 2767) hx hb dL_law_2752 (by decide) (fun c11 => ?_) (fun c11 => ?_)
    · replace hp := oF c11 hp
      refine lv_goto (tgt := 3302) hx hb dL_law_2767 (by decide) ?_
      cases hp
      refine W.widen (k := cells + 8) (n := slots + 48) (by omega) (by omega) ?_
      exact kk H locs ls hM (lv_sub hl [2, 3, 4, 5, 6, 7] rfl)
    · replace hp := oT c11 hp
      refine lv_aload_n hx hb dL_law_2755 rfl (lv_at hl 5 rfl) ?_
      refine lv_iconst (v := 0) hx hb dL_law_2756 (by decide) ?_
      obtain ⟨v12, hv12, hp⟩ := ob hp
      refine mr_lald C0 hM hv12 dL_law_2757 ?_
      refine lv_iload hx hb dL_law_2758 (lv_at hl 0 rfl) ?_
      refine lv_i2l (v := (Int32.toInt64 v6)) hx hb dL_law_2760 rfl ?_
      refine W.lcmp hx hb dL_law_2761 ?_
      refine lv_if_eq (tgt := 2767) hx hb dL_law_2762 (by decide) (fun c13 => ?_) (fun c13 => ?_)
      · replace hp := oT c13 hp
        refine lv_goto (tgt := 3302) hx hb dL_law_2767 (by decide) ?_
        cases hp
        refine W.widen (k := cells + 8) (n := slots + 48) (by omega) (by omega) ?_
        exact kk H locs ls hM (lv_sub hl [2, 3, 4, 5, 6, 7] rfl)
      · replace hp := oF c13 hp
        cases hp
  · replace hp := oF c10 hp
    cases hp
