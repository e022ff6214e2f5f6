def p_start (Z : gZ) (z L : Nat) (xs : Nat → Int32) (M : Mem) : Option Unit :=
  (jn (upM M z (.inr (5, [.null, .null, .null, .null, .null, .null, .null, .int 0, .null, .int 0, .int 0]))) fun M1 =>
  (Option.bind (pn_X6_init (z + 1) z M1) fun M2 =>
  (jn (upM M2 (z + 180) (.inr (6, [.null, .null, .null, .null, .null, .int 0, .int 0, .null, .null, .int 0, .null, .null, .int 0, .int 0, .int 0, .int 0, .int 0, .int 0, .int 0, .int 0, .int 0, .int 0, .null, .null, .null, .int 0, .null, .int 0]))) fun M3 =>
  (Option.bind (pn_X7_init (z + 181) (z + 180) M3) fun M4 =>
  (jn (upM M4 (z + 194) (.inl (2, (1, .inr (.inl (fun _ => 0)))))) fun M5 =>
  (jn (upM M5 (z + 195) (.inl (3, (1, .inr (.inr (.inr (.inl (fun _ => 0)))))))) fun M6 =>
  p_law Z L xs z (z + 180) (z + 194) (z + 195) 514 (0 : Int32) M6
  )
  )
  )
  )
  )
  )
set_option maxHeartbeats 4000000 in
set_option maxRecDepth 100000 in
theorem w_start {G : gG} {p : Program} {l : Launch} {e : Env} {s : State} {m : MethodId} {args : Array Value} {below : List Frame} {meth : Method} {c : Code} {A : Nat → Prop} {Z : gZ} {Q : State → Prop} {z b L : Nat} {xs : Nat → Int32} (C0 : cx G p s m args c cL_law RL 10 A) (hG : GOK G) (hZ : GS G Z) (hY : GY G) (hAO : ∀ U : State, G.2.2.2 U → va_AO "PlaceOffice$Roll" U) (hlf : l.stackTraces = false) (hX : va_X b L xs s s.heap) (hbl : b < s.heap.size) (hbA : ¬ A b) (hend : ∀ (M : Mem) (H : Heap) (locs : List Loc) (ls : Array Slot) (cells slots : Nat), cells ≤ room_1.cells → slots ≤ room_1.slots → mm G A s M H locs → W p l e room_1 s m args below meth c H locs cells slots Q (F0 m 3308 ls [])) {M : Mem} {H : Heap} {locs : List Loc} {ls : Array Slot} (hN : mz G A s M H locs z) (hl : lv_has ls 10 [(0, .ref b)]) (hp : p_start Z z L xs M = some ()) : W p l e room_1 s m args below meth c H locs 0 0 Q (F0 m 0 ls []) := by
  have hM := hN.1
  have hx := C0.1
  have hb := C0.2.1
  have hown := C0.2.2.2.1
  have hts := C0.2.2.2.2.1
  unfold p_start at hp
  obtain ⟨M1, eM1, hp⟩ := ojn hp
  refine mn_new C0 hN cbX6 tw_25 tw_26 tw_1 (fs := [.null, .null, .null, .null, .null, .null, .null, .int 0, .null, .int 0, .int 0]) dfX6 (by decide) (by decide) dL_law_0 (fun H hN => ?_)
  rw [← eM1] at hN
  have hM := hN.1
  refine lv_dup hx hb dL_law_3 rfl ?_
  obtain ⟨M2, hM2, hp⟩ := ob hp
  refine mn_I (As := []) (rest := [.ref z]) C0 hN (wn_X6_init hG hAO hM2) rfl tw_27 tw_28 tw_1 tw_29 yk_X6_init (by decide) rfl hl.1 (Nat.le_of_ble_eq_true rfl) dL_law_4 rfl (fun H locs hN => ?_)
  have hM := hN.1
  refine lv_astore_n (lv' := [(1, .ref z), (0, .ref b)]) hx hb dL_law_7 rfl hl (by decide) rfl (fun ls hl => ?_)
  obtain ⟨M3, eM3, hp⟩ := ojn hp
  refine mn_new C0 hN cbX7 tw_1214 tw_1215 tw_7 (fs := [.null, .null, .null, .null, .null, .int 0, .int 0, .null, .null, .int 0, .null, .null, .int 0, .int 0, .int 0, .int 0, .int 0, .int 0, .int 0, .int 0, .int 0, .int 0, .null, .null, .null, .int 0, .null, .int 0]) dfX7 (by decide) (by decide) dL_law_8 (fun H hN => ?_)
  rw [← eM3] at hN
  have hM := hN.1
  refine lv_dup hx hb dL_law_11 rfl ?_
  obtain ⟨M4, hM4, hp⟩ := ob hp
  refine mn_I (As := []) (rest := [.ref (z + 180)]) C0 hN (wn_X7_init hG hM4) rfl tw_1216 tw_1217 tw_7 tw_1218 yk_X7_init (by decide) rfl hl.1 (Nat.le_of_ble_eq_true rfl) dL_law_12 rfl (fun H locs hN => ?_)
  have hM := hN.1
  refine lv_astore_n (lv' := [(2, .ref (z + 180)), (1, .ref z), (0, .ref b)]) hx hb dL_law_15 rfl hl (by decide) rfl (fun ls hl => ?_)
  refine lv_iconst (v := 1) hx hb dL_law_16 (by decide) ?_
  obtain ⟨M5, eM5, hp⟩ := ojn hp
  refine mn_newa C0 hN tw_1844 rfl 2 rfl (fun _ => rfl) 1 (1, .inr (.inl (fun _ => 0))) (fun _ => rfl) (by decide) (by decide +kernel) (by decide) (by decide) (by decide) dL_law_17 (fun H hN => ?_)
  rw [← eM5] at hN
  have hM := hN.1
  refine lv_astore_n (lv' := [(3, .ref (z + 194)), (2, .ref (z + 180)), (1, .ref z), (0, .ref b)]) hx hb dL_law_19 rfl hl (by decide) rfl (fun ls hl => ?_)
  refine lv_iconst (v := 1) hx hb dL_law_20 (by decide) ?_
  obtain ⟨M6, eM6, hp⟩ := ojn hp
  refine mn_newa C0 hN tw_1845 rfl 3 rfl (fun _ => rfl) 1 (1, .inr (.inr (.inr (.inl (fun _ => 0))))) (fun _ => rfl) (by decide) (by decide +kernel) (by decide) (by decide) (by decide) dL_law_21 (fun H hN => ?_)
  rw [← eM6] at hN
  have hM := hN.1
  refine lv_astore (lv' := [(4, .ref (z + 195)), (3, .ref (z + 194)), (2, .ref (z + 180)), (1, .ref z), (0, .ref b)]) hx hb dL_law_23 hl (by decide) rfl (fun ls hl => ?_)
  refine lv_iconst (v := 0) hx hb dL_law_25 (by decide) ?_
  refine lv_istore (lv' := [(5, .int (0 : Int32)), (4, .ref (z + 195)), (3, .ref (z + 194)), (2, .ref (z + 180)), (1, .ref z), (0, .ref b)]) hx hb dL_law_26 hl (by decide) rfl (fun ls hl => ?_)
  exact w_law C0 hG hZ hY hlf hX hbl hbA hend 514 _ _ _ _ _ _ _ (by decide) (by decide) hM (lv_sub hl [5, 4, 3, 2, 1, 0] rfl) hp
theorem st_flags {l : Launch} (h : l.flags = flags0) : l.stackTraces = false := by
  unfold Launch.stackTraces
  rw [h]
  decide +kernel
/-- THE CLAIM, from what is pure -/
theorem start_of (pure : ∀ (Z : gZ) (z L : Nat) (xs : Nat → Int32), L ≤ 3072 → p_start Z z L xs (fun _ => none) = some ()) {p : Program} {e : Env} {s : State} {m : MethodId} {below : List Frame} {meth : Method} {c : Code} (l : Launch) (hflags : l.flags = flags0) {b L : Nat} {xs : Nat → Int32} (hL : L ≤ 3072) (C0 : lw_At p s m meth c b L xs) : W p l e room_1 s m #[Value.ref b] below meth c s.heap [] 0 0 (lw_Z below #[Value.ref b] s) (entryFrame m ([Value.ref b] : List Value).toArray 10) := by
  obtain ⟨hx, hb, hr, hml, hown, hts, hX, hbl, hlk, hgv⟩ := C0
  have hs : ∀ c ∈ stF, c.before #[Value.ref b] s = true := flat_of_before _ hgv
  obtain ⟨D, hD⟩ := st_cls hts
  obtain ⟨g, hg⟩ := st_arr hts
  obtain ⟨Z, hZ⟩ := st_sx hts hs
  have hY := st_sy hts hs
  have hnw : ∀ w ∈ NW, w.onTables = true := by decide +kernel
  have hF : Fct s.heap.size Z s := ⟨hZ, hY, va_AO.of (hts _ tm_ao), fun w hw => va_Nw.of (hnw w hw) (hts _ (tm_nw w hw))⟩
  obtain ⟨kG, kZ, kY, kA⟩ := Fct_ok D g s.heap.size Z
  have hlf : l.stackTraces = false := st_flags hflags
  have Cx : cx (D, g, s.heap.size, Fct s.heap.size Z) p s m #[Value.ref b] c cL_law RL 10 (fun q => s.heap.size ≤ q) := ⟨hx, hb, hml, hown, fun w h => hts w (List.mem_filter.mp h).1, ⟨⟨hD, hg⟩, Nat.le_refl _, hF⟩, fun q h => h, fun q h => h, kG⟩
  rw [lg_entry_eq]
  have hl0 : lv_has ((lg_sl [Value.ref b] ++ List.replicate (10 - (lg_sl [Value.ref b]).length) Slot.unset).toArray) 10 [(0, Value.ref b)] := lv_entry [Value.ref b] (Nat.le_of_ble_eq_true rfl)
  refine w_start Cx kG kZ kY kA hlf hX hbl (Nat.not_le.mpr hbl) (fun M H locs ls cells slots hc hs hM => ?_) ⟨⟨(fun a x h => by cases h), (fun q x h => by cases h), va_S.rf⟩, rfl⟩ hl0 (pure Z s.heap.size L xs hL)
  refine va_forget hM.2.2.2.2 ?_
  refine lv_iconst (v := 1) hx hb dL_law_3308 (by decide) ?_
  exact W.widen hc hs (lw_ret (Drawn.sameBut.refl s.drawn lw_cs) hx hb hr hlk dL_law_3309)
