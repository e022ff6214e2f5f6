def pk_45 (L : Nat) (xs : Nat → Int32) (x0 mo od od2 : Nat) (i0 : Int32) (M : Mem) : Option Mem :=
  (Option.bind (isC 5 M x0) fun _ =>
  (Option.bind (p_X6_meanWay x0 M) fun v2 =>
  (Option.bind (isC 6 M mo) fun _ =>
  (ob2 (p_X7_meanWay mo M) fun v4 M5 =>
  (if (Op.cmpValue (FP.dcmp v2 v4) .l) = 0 then
   some M5
  else
   (if (Op.cmpValue (FP.dcmp v2 v2) .l) = 0 then
    none
   else
    (if (Op.cmpValue (FP.dcmp v4 v4) .l) = 0 then
     none
    else
     some M5
    )
   )
  )
  )
  )
  )
  )
set_option maxHeartbeats 4000000 in
set_option maxRecDepth 100000 in
theorem wk_45 {G : gG} {p : Program} {l : Launch} {e : Env} {s : State} {m : MethodId} {args : Array Value} {below : List Frame} {meth : Method} {c : Code} {A : Nat → Prop} {Z : gZ} {Q : State → Prop} {cells slots b L : Nat} {xs : Nat → Int32} {x0 mo od od2 : Nat} {i0 : Int32} (C0 : cx G p s m args c cL_law RL 10 A) (hG : GOK G) (hZ : GS G Z) (hY : GY G) (hlf : l.stackTraces = false) (hX : va_X b L xs s s.heap) (hbl : b < s.heap.size) (hbA : ¬ A b) (hcs : cells + 8 ≤ room_1.cells ∧ slots + 48 ≤ room_1.slots) {M M' : Mem} {H : Heap} {locs : List Loc} {ls : Array Slot} (hM : mm G A s M H locs) (hl : lv_has ls 10 [(0, .ref b), (1, .ref x0), (2, .ref mo), (3, .ref od), (4, .ref od2), (5, .int i0)]) (hp : pk_45 L xs x0 mo od od2 i0 M = some M') (kk : ∀ (H : Heap) (locs : List Loc) (ls : Array Slot), mm G A s M' H locs → lv_has ls 10 [(0, .ref b), (1, .ref x0), (2, .ref mo), (3, .ref od), (4, .ref od2), (5, .int i0)] → W p l e room_1 s m args below meth c H locs (cells + 8) (slots + 48) Q (F0 m 3302 ls [])) : W p l e room_1 s m args below meth c H locs cells slots Q (F0 m 2770 ls []) := by
  have hx := C0.1
  have hb := C0.2.1
  have hown := C0.2.2.2.1
  have hts := C0.2.2.2.2.1
  obtain ⟨hc1, hs1⟩ := hcs
  unfold pk_45 at hp
  refine lv_aload_n hx hb dL_law_2770 rfl (lv_at hl 1 rfl) ?_
  obtain ⟨_, h1, hp⟩ := ob hp
  obtain ⟨v2, hv2, hp⟩ := ob hp
  refine mg_V1 (As := []) (rest := []) C0 cbX6 hM h1 rfl (w_X6_meanWay hG hv2) tw_690 tw_691 tw_692 tw_1 tw_693 yk_X6_meanWay ⟨⟨rfl, rfl⟩, ⟨by decide, by decide⟩, by omega, by omega⟩ rfl hl.1 (Nat.le_of_ble_eq_true rfl) dL_law_2771 rfl (fun H locs hM => ?_)
  refine lv_dstore (lv' := [(6, .double v2), (0, .ref b), (1, .ref x0), (2, .ref mo), (3, .ref od), (4, .ref od2), (5, .int i0)]) hx hb dL_law_2774 hl (by decide) rfl (fun ls hl => ?_)
  refine lv_aload_n hx hb dL_law_2776 rfl (lv_at hl 3 rfl) ?_
  obtain ⟨_, h3, hp⟩ := ob hp
  obtain ⟨v4, M5, hv4, hp⟩ := ob3 hp
  refine mg_V1 (As := []) (rest := []) C0 cbX7 hM h3 rfl (w_X7_meanWay hG hv4) tw_1708 tw_1709 tw_1710 tw_7 tw_1711 yk_X7_meanWay ⟨⟨rfl, rfl⟩, ⟨by decide, by decide⟩, by omega, by omega⟩ rfl hl.1 (Nat.le_of_ble_eq_true rfl) dL_law_2777 rfl (fun H locs hM => ?_)
  refine lv_dstore (lv' := [(8, .double v4), (6, .double v2), (0, .ref b), (1, .ref x0), (2, .ref mo), (3, .ref od), (4, .ref od2), (5, .int i0)]) hx hb dL_law_2780 hl (by decide) rfl (fun ls hl => ?_)
  refine lv_dload hx hb dL_law_2782 (lv_at hl 1 rfl) ?_
  refine lv_dload hx hb dL_law_2784 (lv_at hl 0 rfl) ?_
  refine lv_dcmp hx hb dL_law_2786 ?_
  refine lv_if_eq (tgt := 2808) hx hb dL_law_2787 (by decide) (fun c6 => ?_) (fun c6 => ?_)
  · replace hp := oT c6 hp
    refine lv_goto (tgt := 3302) hx hb dL_law_2808 (by decide) ?_
    cases hp
    refine W.widen (k := cells + 8) (n := slots + 48) (by omega) (by omega) ?_
    exact kk H locs ls hM (lv_sub hl [2, 3, 4, 5, 6, 7] rfl)
  · replace hp := oF c6 hp
    refine lv_dload hx hb dL_law_2790 (lv_at hl 1 rfl) ?_
    refine lv_dload hx hb dL_law_2792 (lv_at hl 1 rfl) ?_
    refine lv_dcmp hx hb dL_law_2794 ?_
    refine lv_if_eq (tgt := 2806) hx hb dL_law_2795 (by decide) (fun c7 => ?_) (fun c7 => ?_)
    · replace hp := oT c7 hp
      cases hp
    · replace hp := oF c7 hp
      refine lv_dload hx hb dL_law_2798 (lv_at hl 0 rfl) ?_
      refine lv_dload hx hb dL_law_2800 (lv_at hl 0 rfl) ?_
      refine lv_dcmp hx hb dL_law_2802 ?_
      refine lv_if_ne (tgt := 2808) hx hb dL_law_2803 (by decide) (fun c8 => ?_) (fun c8 => ?_)
      · replace hp := oF c8 hp
        refine lv_goto (tgt := 3302) hx hb dL_law_2808 (by decide) ?_
        cases hp
        refine W.widen (k := cells + 8) (n := slots + 48) (by omega) (by omega) ?_
        exact kk H locs ls hM (lv_sub hl [2, 3, 4, 5, 6, 7] rfl)
      · replace hp := oT c8 hp
        cases hp
def pk_46 (L : Nat) (xs : Nat → Int32) (x0 mo od od2 : Nat) (i0 : Int32) (M : Mem) : Option Mem :=
  (Option.bind (isC 5 M x0) fun _ =>
  (Option.bind (p_X6_mostWaited x0 M) fun v2 =>
  (Option.bind (isC 6 M mo) fun _ =>
  (ob2 (p_X7_mostWaited mo M) fun v4 M5 =>
  (if v2 = v4 then
   some M5
  else
   none
  )
  )
  )
  )
  )
set_option maxHeartbeats 4000000 in
set_option maxRecDepth 100000 in
theorem wk_46 {G : gG} {p : Program} {l : Launch} {e : Env} {s : State} {m : MethodId} {args : Array Value} {below : List Frame} {meth : Method} {c : Code} {A : Nat → Prop} {Z : gZ} {Q : State → Prop} {cells slots b L : Nat} {xs : Nat → Int32} {x0 mo od od2 : Nat} {i0 : Int32} (C0 : cx G p s m args c cL_law RL 10 A) (hG : GOK G) (hZ : GS G Z) (hY : GY G) (hlf : l.stackTraces = false) (hX : va_X b L xs s s.heap) (hbl : b < s.heap.size) (hbA : ¬ A b) (hcs : cells + 8 ≤ room_1.cells ∧ slots + 48 ≤ room_1.slots) {M M' : Mem} {H : Heap} {locs : List Loc} {ls : Array Slot} (hM : mm G A s M H locs) (hl : lv_has ls 10 [(0, .ref b), (1, .ref x0), (2, .ref mo), (3, .ref od), (4, .ref od2), (5, .int i0)]) (hp : pk_46 L xs x0 mo od od2 i0 M = some M') (kk : ∀ (H : Heap) (locs : List Loc) (ls : Array Slot), mm G A s M' H locs → lv_has ls 10 [(0, .ref b), (1, .ref x0), (2, .ref mo), (3, .ref od), (4, .ref od2), (5, .int i0)] → W p l e room_1 s m args below meth c H locs (cells + 8) (slots + 48) Q (F0 m 3302 ls [])) : W p l e room_1 s m args below meth c H locs cells slots Q (F0 m 2811 ls []) := by
  have hx := C0.1
  have hb := C0.2.1
  have hown := C0.2.2.2.1
  have hts := C0.2.2.2.2.1
  obtain ⟨hc1, hs1⟩ := hcs
  unfold pk_46 at hp
  refine lv_aload_n hx hb dL_law_2811 rfl (lv_at hl 1 rfl) ?_
  obtain ⟨_, h1, hp⟩ := ob hp
  obtain ⟨v2, hv2, hp⟩ := ob hp
  refine mg_V1 (As := []) (rest := []) C0 cbX6 hM h1 rfl (w_X6_mostWaited hG hv2) tw_699 tw_700 tw_701 tw_1 tw_702 yk_X6_mostWaited ⟨⟨rfl, rfl⟩, ⟨by decide, by decide⟩, by omega, by omega⟩ rfl hl.1 (Nat.le_of_ble_eq_true rfl) dL_law_2812 rfl (fun H locs hM => ?_)
  refine lv_aload_n hx hb dL_law_2815 rfl (lv_at hl 2 rfl) ?_
  obtain ⟨_, h3, hp⟩ := ob hp
  obtain ⟨v4, M5, hv4, hp⟩ := ob3 hp
  refine mg_V1 (As := []) (rest := [.int v2]) C0 cbX7 hM h3 rfl (w_X7_mostWaited hG hv4) tw_1732 tw_1733 tw_1734 tw_7 tw_1735 yk_X7_mostWaited ⟨⟨rfl, rfl⟩, ⟨by decide, by decide⟩, by omega, by omega⟩ rfl hl.1 (Nat.le_of_ble_eq_true rfl) dL_law_2816 rfl (fun H locs hM => ?_)
  refine lv_icmp_eq (tgt := 3302) hx hb dL_law_2819 (by decide) (fun c6 => ?_) (fun c6 => ?_)
  · replace hp := oT c6 hp
    cases hp
    refine W.widen (k := cells + 8) (n := slots + 48) (by omega) (by omega) ?_
    exact kk H locs ls hM (lv_sub hl [0, 1, 2, 3, 4, 5] rfl)
  · replace hp := oF c6 hp
    cases hp
def pk_47 (L : Nat) (xs : Nat → Int32) (x0 mo od od2 : Nat) (i0 : Int32) (M : Mem) : Option Mem :=
  (Option.bind (xI L xs (i0 + (1 : Int32))) fun v1 =>
  (ob2 (p_L_siblings x0 v1 od M) fun v2 M3 =>
  (Option.bind (xI L xs (i0 + (1 : Int32))) fun v4 =>
  (Option.bind (isC 6 M3 mo) fun _ =>
  (ob2 (p_X7_siblings mo v4 M3) fun v6 M7 =>
  (Option.bind (isC 6 M7 mo) fun _ =>
  (Option.bind (p_X7_thrown mo M7) fun v9 =>
  (if v9 = v2 then
   (if v2 = 0 then
    (Option.bind (aL M7 od (0 : Int32)) fun v12 =>
    (if (lg_cmp v12 v6) = 0 then
     some M7
    else
     none
    )
    )
   else
    some M7
   )
  else
   none
  )
  )
  )
  )
  )
  )
  )
  )
set_option maxHeartbeats 4000000 in
set_option maxRecDepth 100000 in
theorem wk_47 {G : gG} {p : Program} {l : Launch} {e : Env} {s : State} {m : MethodId} {args : Array Value} {below : List Frame} {meth : Method} {c : Code} {A : Nat → Prop} {Z : gZ} {Q : State → Prop} {cells slots b L : Nat} {xs : Nat → Int32} {x0 mo od od2 : Nat} {i0 : Int32} (C0 : cx G p s m args c cL_law RL 10 A) (hG : GOK G) (hZ : GS G Z) (hY : GY G) (hlf : l.stackTraces = false) (hX : va_X b L xs s s.heap) (hbl : b < s.heap.size) (hbA : ¬ A b) (hcs : cells + 8 ≤ room_1.cells ∧ slots + 48 ≤ room_1.slots) {M M' : Mem} {H : Heap} {locs : List Loc} {ls : Array Slot} (hM : mm G A s M H locs) (hl : lv_has ls 10 [(0, .ref b), (1, .ref x0), (2, .ref mo), (3, .ref od), (4, .ref od2), (5, .int i0)]) (hp : pk_47 L xs x0 mo od od2 i0 M = some M') (kk : ∀ (H : Heap) (locs : List Loc) (ls : Array Slot), mm G A s M' H locs → lv_has ls 10 [(0, .ref b), (1, .ref x0), (2, .ref mo), (3, .ref od), (4, .ref od2), (5, .int i0)] → W p l e room_1 s m args below meth c H locs (cells + 8) (slots + 48) Q (F0 m 3302 ls [])) : W p l e room_1 s m args below meth c H locs cells slots Q (F0 m 2824 ls []) := by
  have hx := C0.1
  have hb := C0.2.1
  have hown := C0.2.2.2.1
  have hts := C0.2.2.2.2.1
  obtain ⟨hc1, hs1⟩ := hcs
  unfold pk_47 at hp
  refine lv_aload_n hx hb dL_law_2824 rfl (lv_at hl 1 rfl) ?_
  refine lv_aload_n hx hb dL_law_2825 rfl (lv_at hl 0 rfl) ?_
  refine lv_iload hx hb dL_law_2826 (lv_at hl 5 rfl) ?_
  refine lv_iconst (v := 1) hx hb dL_law_2828 (by decide) ?_
  refine lv_iadd hx hb dL_law_2829 ?_
  obtain ⟨v1, hv1, hp⟩ := ob hp
  obtain ⟨hin, ev1⟩ := xI_at hv1
  refine va_sld hx hb hX hbl hbA hM.2.2 hin dL_law_2830 ?_
  rw [ev1]
  refine lv_aload_n hx hb dL_law_2831 rfl (lv_at hl 3 rfl) ?_
  obtain ⟨v2, M3, hv2, hp⟩ := ob3 hp
  refine ml_S1 (As := [.ref x0, .int v1, .ref od]) (rest := []) C0 hM (w_L_siblings hG hY hlf hv2) tw_1141 tw_1142 tw_0 twh_1143 yk_L_siblings ⟨⟨rfl, rfl⟩, ⟨by decide, by decide⟩, by omega, by omega⟩ rfl hl.1 (Nat.le_of_ble_eq_true rfl) dL_law_2832 rfl (fun H locs hM => ?_)
  refine lv_istore (lv' := [(6, .int v2), (0, .ref b), (1, .ref x0), (2, .ref mo), (3, .ref od), (4, .ref od2), (5, .int i0)]) hx hb dL_law_2835 hl (by decide) rfl (fun ls hl => ?_)
  refine lv_aload_n hx hb dL_law_2837 rfl (lv_at hl 3 rfl) ?_
  refine lv_aload_n hx hb dL_law_2838 rfl (lv_at hl 1 rfl) ?_
  refine lv_iload hx hb dL_law_2839 (lv_at hl 6 rfl) ?_
  refine lv_iconst (v := 1) hx hb dL_law_2841 (by decide) ?_
  refine lv_iadd hx hb dL_law_2842 ?_
  obtain ⟨v4, hv4, hp⟩ := ob hp
  obtain ⟨hin, ev4⟩ := xI_at hv4
  refine va_sld hx hb hX hbl hbA hM.2.2 hin dL_law_2843 ?_
  rw [ev4]
  obtain ⟨_, h5, hp⟩ := ob hp
  obtain ⟨v6, M7, hv6, hp⟩ := ob3 hp
  refine mg_V1 (As := [.int v4]) (rest := []) C0 cbX7 hM h5 rfl (w_X7_siblings hG hv6) tw_1736 tw_1737 tw_1738 tw_7 tw_1739 yk_X7_siblings ⟨⟨rfl, rfl⟩, ⟨by decide, by decide⟩, by omega, by omega⟩ rfl hl.1 (Nat.le_of_ble_eq_true rfl) dL_law_2844 rfl (fun H locs hM => ?_)
  refine lv_lstore (lv' := [(7, .long v6), (6, .int v2), (0, .ref b), (1, .ref x0), (2, .ref mo), (3, .ref od), (4, .ref od2), (5, .int i0)]) hx hb dL_law_2847 hl (by decide) rfl (fun ls hl => ?_)
  refine lv_aload_n hx hb dL_law_2849 rfl (lv_at hl 4 rfl) ?_
  obtain ⟨_, h8, hp⟩ := ob hp
  obtain ⟨v9, hv9, hp⟩ := ob hp
  refine mg_V1 (As := []) (rest := []) C0 cbX7 hM h8 rfl (w_X7_thrown hG hv9) tw_1309 tw_1310 tw_1311 tw_7 tw_1312 yk_X7_thrown ⟨⟨rfl, rfl⟩, ⟨by decide, by decide⟩, by omega, by omega⟩ rfl hl.1 (Nat.le_of_ble_eq_true rfl) dL_law_2850 rfl (fun H locs hM => ?_)
  refine lv_iload hx hb dL_law_2853 (lv_at hl 1 rfl) ?_
  refine lv_icmp_eq (tgt := 2860) hx hb dL_law_2855 (by decide) (fun c10 => ?_) (fun c10 => ?_)
  · replace hp := oT c10 hp
    refine lv_iload hx hb dL_law_2860 (lv_at hl 1 rfl) ?_
    refine lv_if_ne (tgt := 2876) hx hb dL_law_2862 (by decide) (fun c11 => ?_) (fun c11 => ?_)
    · replace hp := oF c11 hp
      refine lv_goto (tgt := 3302) hx hb dL_law_2876 (by decide) ?_
      cases hp
      refine W.widen (k := cells + 8) (n := slots + 48) (by omega) (by omega) ?_
      exact kk H locs ls hM (lv_sub hl [2, 3, 4, 5, 6, 7] rfl)
    · replace hp := oT c11 hp
      refine lv_aload_n hx hb dL_law_2865 rfl (lv_at hl 5 rfl) ?_
      refine lv_iconst (v := 0) hx hb dL_law_2866 (by decide) ?_
      obtain ⟨v12, hv12, hp⟩ := ob hp
      refine mr_lald C0 hM hv12 dL_law_2867 ?_
      refine lv_lload hx hb dL_law_2868 (lv_at hl 0 rfl) ?_
      refine W.lcmp hx hb dL_law_2870 ?_
      refine lv_if_eq (tgt := 2876) hx hb dL_law_2871 (by decide) (fun c13 => ?_) (fun c13 => ?_)
      · replace hp := oT c13 hp
        refine lv_goto (tgt := 3302) hx hb dL_law_2876 (by decide) ?_
        cases hp
        refine W.widen (k := cells + 8) (n := slots + 48) (by omega) (by omega) ?_
        exact kk H locs ls hM (lv_sub hl [2, 3, 4, 5, 6, 7] rfl)
      · replace hp := oF c13 hp
        cases hp
  · replace hp := oF c10 hp
    cases hp
def pk_48 (L : Nat) (xs : Nat → Int32) (x0 mo od od2 : Nat) (i0 : Int32) (M : Mem) : Option Mem :=
  (Option.bind (isC 5 M x0) fun _ =>
  (ob2 (p_X6_changedByAllocation x0 M) fun v2 M3 =>
  (Option.bind (isC 6 M3 mo) fun _ =>
  (ob2 (p_X7_changedByAllocation mo M3) fun v5 M6 =>
  (if v2 = v5 then
   some M6
  else
   none
  )
  )
  )
  )
  )
set_option maxHeartbeats 4000000 in
set_option maxRecDepth 100000 in
theorem wk_48 {G : gG} {p : Program} {l : Launch} {e : Env} {s : State} {m : MethodId} {args : Array Value} {below : List Frame} {meth : Method} {c : Code} {A : Nat → Prop} {Z : gZ} {Q : State → Prop} {cells slots b L : Nat} {xs : Nat → Int32} {x0 mo od od2 : Nat} {i0 : Int32} (C0 : cx G p s m args c cL_law RL 10 A) (hG : GOK G) (hZ : GS G Z) (hY : GY G) (hlf : l.stackTraces = false) (hX : va_X b L xs s s.heap) (hbl : b < s.heap.size) (hbA : ¬ A b) (hcs : cells + 8 ≤ room_1.cells ∧ slots + 48 ≤ room_1.slots) {M M' : Mem} {H : Heap} {locs : List Loc} {ls : Array Slot} (hM : mm G A s M H locs) (hl : lv_has ls 10 [(0, .ref b), (1, .ref x0), (2, .ref mo), (3, .ref od), (4, .ref od2), (5, .int i0)]) (hp : pk_48 L xs x0 mo od od2 i0 M = some M') (kk : ∀ (H : Heap) (locs : List Loc) (ls : Array Slot), mm G A s M' H locs → lv_has ls 10 [(0, .ref b), (1, .ref x0), (2, .ref mo), (3, .ref od), (4, .ref od2), (5, .int i0)] → W p l e room_1 s m args below meth c H locs (cells + 8) (slots + 48) Q (F0 m 3302 ls [])) : W p l e room_1 s m args below meth c H locs cells slots Q (F0 m 2879 ls []) := by
  have hx := C0.1
  have hb := C0.2.1
  have hown := C0.2.2.2.1
  have hts := C0.2.2.2.2.1
  obtain ⟨hc1, hs1⟩ := hcs
  unfold pk_48 at hp
  refine lv_aload_n hx hb dL_law_2879 rfl (lv_at hl 1 rfl) ?_
  obtain ⟨_, h1, hp⟩ := ob hp
  obtain ⟨v2, M3, hv2, hp⟩ := ob3 hp
  refine mg_V1 (As := []) (rest := []) C0 cbX6 hM h1 rfl (w_X6_changedByAllocation hG hv2) tw_704 tw_705 tw_706 tw_1 tw_707 yk_X6_changedByAllocation ⟨⟨rfl, rfl⟩, ⟨by decide, by decide⟩, by omega, by omega⟩ rfl hl.1 (Nat.le_of_ble_eq_true rfl) dL_law_2880 rfl (fun H locs hM => ?_)
  refine lv_aload_n hx hb dL_law_2883 rfl (lv_at hl 2 rfl) ?_
  obtain ⟨_, h4, hp⟩ := ob hp
  obtain ⟨v5, M6, hv5, hp⟩ := ob3 hp
  refine mg_V1 (As := []) (rest := [.int v2]) C0 cbX7 hM h4 rfl (w_X7_changedByAllocation hG hv5) tw_1781 tw_1782 tw_1783 tw_7 tw_1784 yk_X7_changedByAllocation ⟨⟨rfl, rfl⟩, ⟨by decide, by decide⟩, by omega, by omega⟩ rfl hl.1 (Nat.le_of_ble_eq_true rfl) dL_law_2884 rfl (fun H locs hM => ?_)
  refine lv_icmp_eq (tgt := 3302) hx hb dL_law_2887 (by decide) (fun c7 => ?_) (fun c7 => ?_)
  · replace hp := oT c7 hp
    cases hp
    refine W.widen (k := cells + 8) (n := slots + 48) (by omega) (by omega) ?_
    exact kk H locs ls hM (lv_sub hl [0, 1, 2, 3, 4, 5] rfl)
  · replace hp := oF c7 hp
    cases hp
def pk_49 (L : Nat) (xs : Nat → Int32) (x0 mo od od2 : Nat) (i0 : Int32) (M : Mem) : Option Mem :=
  (Option.bind (xI L xs (i0 + (1 : Int32))) fun v1 =>
  (Option.bind (xI L xs (i0 + (2 : Int32))) fun v2 =>
  (Option.bind (xI L xs (i0 + (3 : Int32))) fun v3 =>
  (ob2 (p_L_placeWith x0 v1 v2 v3 od M) fun v4 M5 =>
  (Option.bind (xI L xs (i0 + (1 : Int32))) fun v6 =>
  (Option.bind (xI L xs (i0 + (2 : Int32))) fun v7 =>
  (Option.bind (xI L xs (i0 + (3 : Int32))) fun v8 =>
  (Option.bind (isC 6 M5 mo) fun _ =>
  (ob2 (p_X7_placeWith mo v6 v7 v8 M5) fun v10 M11 =>
  (Option.bind (isC 6 M11 mo) fun _ =>
  (Option.bind (p_X7_thrown mo M11) fun v13 =>
  (if v13 = v4 then
   (if v4 = 0 then
    (Option.bind (aL M11 od (0 : Int32)) fun v16 =>
    (if (lg_cmp v16 (Int32.toInt64 v10)) = 0 then
     some M11
    else
     none
    )
    )
   else
    some M11
   )
  else
   none
  )
  )
  )
  )
  )
  )
  )
  )
  )
  )
  )
  )
set_option maxHeartbeats 4000000 in
set_option maxRecDepth 100000 in
theorem wk_49 {G : gG} {p : Program} {l : Launch} {e : Env} {s : State} {m : MethodId} {args : Array Value} {below : List Frame} {meth : Method} {c : Code} {A : Nat → Prop} {Z : gZ} {Q : State → Prop} {cells slots b L : Nat} {xs : Nat → Int32} {x0 mo od od2 : Nat} {i0 : Int32} (C0 : cx G p s m args c cL_law RL 10 A) (hG : GOK G) (hZ : GS G Z) (hY : GY G) (hlf : l.stackTraces = false) (hX : va_X b L xs s s.heap) (hbl : b < s.heap.size) (hbA : ¬ A b) (hcs : cells + 8 ≤ room_1.cells ∧ slots + 48 ≤ room_1.slots) {M M' : Mem} {H : Heap} {locs : List Loc} {ls : Array Slot} (hM : mm G A s M H locs) (hl : lv_has ls 10 [(0, .ref b), (1, .ref x0), (2, .ref mo), (3, .ref od), (4, .ref od2), (5, .int i0)]) (hp : pk_49 L xs x0 mo od od2 i0 M = some M') (kk : ∀ (H : Heap) (locs : List Loc) (ls : Array Slot), mm G A s M' H locs → lv_has ls 10 [(0, .ref b), (1, .ref x0), (2, .ref mo), (3, .ref od), (4, .ref od2), (5, .int i0)] → W p l e room_1 s m args below meth c H locs (cells + 8) (slots + 48) Q (F0 m 3302 ls [])) : W p l e room_1 s m args below meth c H locs cells slots Q (F0 m 2892 ls []) := by
  have hx := C0.1
  have hb := C0.2.1
  have hown := C0.2.2.2.1
  have hts := C0.2.2.2.2.1
  obtain ⟨hc1, hs1⟩ := hcs
  unfold pk_49 at hp
  refine lv_aload_n hx hb dL_law_2892 rfl (lv_at hl 1 rfl) ?_
  refine lv_aload_n hx hb dL_law_2893 rfl (lv_at hl 0 rfl) ?_
  refine lv_iload hx hb dL_law_2894 (lv_at hl 5 rfl) ?_
  refine lv_iconst (v := 1) hx hb dL_law_2896 (by decide) ?_
  refine lv_iadd hx hb dL_law_2897 ?_
  obtain ⟨v1, hv1, hp⟩ := ob hp
  obtain ⟨hin, ev1⟩ := xI_at hv1
  refine va_sld hx hb hX hbl hbA hM.2.2 hin dL_law_2898 ?_
  rw [ev1]
  refine lv_aload_n hx hb dL_law_2899 rfl (lv_at hl 0 rfl) ?_
  refine lv_iload hx hb dL_law_2900 (lv_at hl 5 rfl) ?_
  refine lv_iconst (v := 2) hx hb dL_law_2902 (by decide) ?_
  refine lv_iadd hx hb dL_law_2903 ?_
  obtain ⟨v2, hv2, hp⟩ := ob hp
  obtain ⟨hin, ev2⟩ := xI_at hv2
  refine va_sld hx hb hX hbl hbA hM.2.2 hin dL_law_2904 ?_
  rw [ev2]
  refine lv_aload_n hx hb dL_law_2905 rfl (lv_at hl 0 rfl) ?_
  refine lv_iload hx hb dL_law_2906 (lv_at hl 5 rfl) ?_
  refine lv_iconst (v := 3) hx hb dL_law_2908 (by decide) ?_
  refine lv_iadd hx hb dL_law_2909 ?_
  obtain ⟨v3, hv3, hp⟩ := ob hp
  obtain ⟨hin, ev3⟩ := xI_at hv3
  refine va_sld hx hb hX hbl hbA hM.2.2 hin dL_law_2910 ?_
  rw [ev3]
  refine lv_aload_n hx hb dL_law_2911 rfl (lv_at hl 3 rfl) ?_
  obtain ⟨v4, M5, hv4, hp⟩ := ob3 hp
  refine ml_S1 (As := [.ref x0, .int v1, .int v2, .int v3, .ref od]) (rest := []) C0 hM (w_L_placeWith hG hY hlf hv4) tw_1149 tw_1150 tw_0 twh_1151 yk_L_placeWith ⟨⟨rfl, rfl⟩, ⟨by decide, by decide⟩, by omega, by omega⟩ rfl hl.1 (Nat.le_of_ble_eq_true rfl) dL_law_2912 rfl (fun H locs hM => ?_)
  refine lv_istore (lv' := [(6, .int v4), (0, .ref b), (1, .ref x0), (2, .ref mo), (3, .ref od), (4, .ref od2), (5, .int i0)]) hx hb dL_law_2915 hl (by decide) rfl (fun ls hl => ?_)
  refine lv_aload_n hx hb dL_law_2917 rfl (lv_at hl 3 rfl) ?_
  refine lv_aload_n hx hb dL_law_2918 rfl (lv_at hl 1 rfl) ?_
  refine lv_iload hx hb dL_law_2919 (lv_at hl 6 rfl) ?_
  refine lv_iconst (v := 1) hx hb dL_law_2921 (by decide) ?_
  refine lv_iadd hx hb dL_law_2922 ?_
  obtain ⟨v6, hv6, hp⟩ := ob hp
  obtain ⟨hin, ev6⟩ := xI_at hv6
  refine va_sld hx hb hX hbl hbA hM.2.2 hin dL_law_2923 ?_
  rw [ev6]
  refine lv_aload_n hx hb dL_law_2924 rfl (lv_at hl 1 rfl) ?_
  refine lv_iload hx hb dL_law_2925 (lv_at hl 6 rfl) ?_
  refine lv_iconst (v := 2) hx hb dL_law_2927 (by decide) ?_
  refine lv_iadd hx hb dL_law_2928 ?_
  obtain ⟨v7, hv7, hp⟩ := ob hp
  obtain ⟨hin, ev7⟩ := xI_at hv7
  refine va_sld hx hb hX hbl hbA hM.2.2 hin dL_law_2929 ?_
  rw [ev7]
  refine lv_aload_n hx hb dL_law_2930 rfl (lv_at hl 1 rfl) ?_
  refine lv_iload hx hb dL_law_2931 (lv_at hl 6 rfl) ?_
  refine lv_iconst (v := 3) hx hb dL_law_2933 (by decide) ?_
  refine lv_iadd hx hb dL_law_2934 ?_
  obtain ⟨v8, hv8, hp⟩ := ob hp
  obtain ⟨hin, ev8⟩ := xI_at hv8
  refine va_sld hx hb hX hbl hbA hM.2.2 hin dL_law_2935 ?_
  rw [ev8]
  obtain ⟨_, h9, hp⟩ := ob hp
  obtain ⟨v10, M11, hv10, hp⟩ := ob3 hp
  refine mg_V1 (As := [.int v6, .int v7, .int v8]) (rest := []) C0 cbX7 hM h9 rfl (w_X7_placeWith hG hv10) tw_1789 tw_1790 tw_1791 tw_7 tw_1792 yk_X7_placeWith ⟨⟨rfl, rfl⟩, ⟨by decide, by decide⟩, by omega, by omega⟩ rfl hl.1 (Nat.le_of_ble_eq_true rfl) dL_law_2936 rfl (fun H locs hM => ?_)
  refine lv_istore (lv' := [(7, .int v10), (6, .int v4), (0, .ref b), (1, .ref x0), (2, .ref mo), (3, .ref od), (4, .ref od2), (5, .int i0)]) hx hb dL_law_2939 hl (by decide) rfl (fun ls hl => ?_)
  refine lv_aload_n hx hb dL_law_2941 rfl (lv_at hl 4 rfl) ?_
  obtain ⟨_, h12, hp⟩ := ob hp
  obtain ⟨v13, hv13, hp⟩ := ob hp
  refine mg_V1 (As := []) (rest := []) C0 cbX7 hM h12 rfl (w_X7_thrown hG hv13) tw_1309 tw_1310 tw_1311 tw_7 tw_1312 yk_X7_thrown ⟨⟨rfl, rfl⟩, ⟨by decide, by decide⟩, by omega, by omega⟩ rfl hl.1 (Nat.le_of_ble_eq_true rfl) dL_law_2942 rfl (fun H locs hM => ?_)
  refine lv_iload hx hb dL_law_2945 (lv_at hl 1 rfl) ?_
  refine lv_icmp_eq (tgt := 2952) hx hb dL_law_2947 (by decide) (fun c14 => ?_) (fun c14 => ?_)
  · replace hp := oT c14 hp
    refine lv_iload hx hb dL_law_2952 (lv_at hl 1 rfl) ?_
    refine lv_if_ne (tgt := 2969) hx hb dL_law_2954 (by decide) (fun c15 => ?_) (fun c15 => ?_)
    · replace hp := oF c15 hp
      refine lv_goto (tgt := 3302) hx hb dL_law_2969 (by decide) ?_
      cases hp
      refine W.widen (k := cells + 8) (n := slots + 48) (by omega) (by omega) ?_
      exact kk H locs ls hM (lv_sub hl [2, 3, 4, 5, 6, 7] rfl)
    · replace hp := oT c15 hp
      refine lv_aload_n hx hb dL_law_2957 rfl (lv_at hl 5 rfl) ?_
      refine lv_iconst (v := 0) hx hb dL_law_2958 (by decide) ?_
      obtain ⟨v16, hv16, hp⟩ := ob hp
      refine mr_lald C0 hM hv16 dL_law_2959 ?_
      refine lv_iload hx hb dL_law_2960 (lv_at hl 0 rfl) ?_
      refine lv_i2l (v := (Int32.toInt64 v10)) hx hb dL_law_2962 rfl ?_
      refine W.lcmp hx hb dL_law_2963 ?_
      refine lv_if_eq (tgt := 2969) hx hb dL_law_2964 (by decide) (fun c17 => ?_) (fun c17 => ?_)
      · replace hp := oT c17 hp
        refine lv_goto (tgt := 3302) hx hb dL_law_2969 (by decide) ?_
        cases hp
        refine W.widen (k := cells + 8) (n := slots + 48) (by omega) (by omega) ?_
        exact kk H locs ls hM (lv_sub hl [2, 3, 4, 5, 6, 7] rfl)
      · replace hp := oF c17 hp
        cases hp
  · replace hp := oF c14 hp
    cases hp
def pk_50 (L : Nat) (xs : Nat → Int32) (x0 mo od od2 : Nat) (i0 : Int32) (M : Mem) : Option Mem :=
  (Option.bind (xI L xs (i0 + (1 : Int32))) fun v1 =>
  (Option.bind (xI L xs (i0 + (2 : Int32))) fun v2 =>
  (ob2 (p_L_neededCapacity x0 v1 v2 od M) fun v3 M4 =>
  (Option.bind (xI L xs (i0 + (1 : Int32))) fun v5 =>
  (Option.bind (xI L xs (i0 + (2 : Int32))) fun v6 =>
  (Option.bind (isC 6 M4 mo) fun _ =>
  (ob2 (p_X7_neededCapacity mo v5 v6 M4) fun v8 M9 =>
  (Option.bind (isC 6 M9 mo) fun _ =>
  (Option.bind (p_X7_thrown mo M9) fun v11 =>
  (if v11 = v3 then
   (if v3 = 0 then
    (Option.bind (aL M9 od (0 : Int32)) fun v14 =>
    (if (lg_cmp v14 (Int32.toInt64 v8)) = 0 then
     some M9
    else
     none
    )
    )
   else
    some M9
   )
  else
   none
  )
  )
  )
  )
  )
  )
  )
  )
  )
  )
set_option maxHeartbeats 4000000 in
set_option maxRecDepth 100000 in
theorem wk_50 {G : gG} {p : Program} {l : Launch} {e : Env} {s : State} {m : MethodId} {args : Array Value} {below : List Frame} {meth : Method} {c : Code} {A : Nat → Prop} {Z : gZ} {Q : State → Prop} {cells slots b L : Nat} {xs : Nat → Int32} {x0 mo od od2 : Nat} {i0 : Int32} (C0 : cx G p s m args c cL_law RL 10 A) (hG : GOK G) (hZ : GS G Z) (hY : GY G) (hlf : l.stackTraces = false) (hX : va_X b L xs s s.heap) (hbl : b < s.heap.size) (hbA : ¬ A b) (hcs : cells + 8 ≤ room_1.cells ∧ slots + 48 ≤ room_1.slots) {M M' : Mem} {H : Heap} {locs : List Loc} {ls : Array Slot} (hM : mm G A s M H locs) (hl : lv_has ls 10 [(0, .ref b), (1, .ref x0), (2, .ref mo), (3, .ref od), (4, .ref od2), (5, .int i0)]) (hp : pk_50 L xs x0 mo od od2 i0 M = some M') (kk : ∀ (H : Heap) (locs : List Loc) (ls : Array Slot), mm G A s M' H locs → lv_has ls 10 [(0, .ref b), (1, .ref x0), (2, .ref mo), (3, .ref od), (4, .ref od2), (5, .int i0)] → W p l e room_1 s m args below meth c H locs (cells + 8) (slots + 48) Q (F0 m 3302 ls [])) : W p l e room_1 s m args below meth c H locs cells slots Q (F0 m 2972 ls []) := by
  have hx := C0.1
  have hb := C0.2.1
  have hown := C0.2.2.2.1
  have hts := C0.2.2.2.2.1
  obtain ⟨hc1, hs1⟩ := hcs
  unfold pk_50 at hp
  refine lv_aload_n hx hb dL_law_2972 rfl (lv_at hl 1 rfl) ?_
  refine lv_aload_n hx hb dL_law_2973 rfl (lv_at hl 0 rfl) ?_
  refine lv_iload hx hb dL_law_2974 (lv_at hl 5 rfl) ?_
  refine lv_iconst (v := 1) hx hb dL_law_2976 (by decide) ?_
  refine lv_iadd hx hb dL_law_2977 ?_
  obtain ⟨v1, hv1, hp⟩ := ob hp
  obtain ⟨hin, ev1⟩ := xI_at hv1
  refine va_sld hx hb hX hbl hbA hM.2.2 hin dL_law_2978 ?_
  rw [ev1]
  refine lv_aload_n hx hb dL_law_2979 rfl (lv_at hl 0 rfl) ?_
  refine lv_iload hx hb dL_law_2980 (lv_at hl 5 rfl) ?_
  refine lv_iconst (v := 2) hx hb dL_law_2982 (by decide) ?_
  refine lv_iadd hx hb dL_law_2983 ?_
  obtain ⟨v2, hv2, hp⟩ := ob hp
  obtain ⟨hin, ev2⟩ := xI_at hv2
  refine va_sld hx hb hX hbl hbA hM.2.2 hin dL_law_2984 ?_
  rw [ev2]
  refine lv_aload_n hx hb dL_law_2985 rfl (lv_at hl 3 rfl) ?_
  obtain ⟨v3, M4, hv3, hp⟩ := ob3 hp
  refine ml_S1 (As := [.ref x0, .int v1, .int v2, .ref od]) (rest := []) C0 hM (w_L_neededCapacity hG hY hlf hv3) tw_1156 tw_1157 tw_0 twh_1158 yk_L_neededCapacity ⟨⟨rfl, rfl⟩, ⟨by decide, by decide⟩, by omega, by omega⟩ rfl hl.1 (Nat.le_of_ble_eq_true rfl) dL_law_2986 rfl (fun H locs hM => ?_)
  refine lv_istore (lv' := [(6, .int v3), (0, .ref b), (1, .ref x0), (2, .ref mo), (3, .ref od), (4, .ref od2), (5, .int i0)]) hx hb dL_law_2989 hl (by decide) rfl (fun ls hl => ?_)
  refine lv_aload_n hx hb dL_law_2991 rfl (lv_at hl 3 rfl) ?_
  refine lv_aload_n hx hb dL_law_2992 rfl (lv_at hl 1 rfl) ?_
  refine lv_iload hx hb dL_law_2993 (lv_at hl 6 rfl) ?_
  refine lv_iconst (v := 1) hx hb dL_law_2995 (by decide) ?_
  refine lv_iadd hx hb dL_law_2996 ?_
  obtain ⟨v5, hv5, hp⟩ := ob hp
  obtain ⟨hin, ev5⟩ := xI_at hv5
  refine va_sld hx hb hX hbl hbA hM.2.2 hin dL_law_2997 ?_
  rw [ev5]
  refine lv_aload_n hx hb dL_law_2998 rfl (lv_at hl 1 rfl) ?_
  refine lv_iload hx hb dL_law_2999 (lv_at hl 6 rfl) ?_
  refine lv_iconst (v := 2) hx hb dL_law_3001 (by decide) ?_
  refine lv_iadd hx hb dL_law_3002 ?_
  obtain ⟨v6, hv6, hp⟩ := ob hp
  obtain ⟨hin, ev6⟩ := xI_at hv6
  refine va_sld hx hb hX hbl hbA hM.2.2 hin dL_law_3003 ?_
  rw [ev6]
  obtain ⟨_, h7, hp⟩ := ob hp
  obtain ⟨v8, M9, hv8, hp⟩ := ob3 hp
  refine mg_V1 (As := [.int v5, .int v6]) (rest := []) C0 cbX7 hM h7 rfl (w_X7_neededCapacity hG hv8) tw_1797 tw_1798 tw_1799 tw_7 tw_1800 yk_X7_neededCapacity ⟨⟨rfl, rfl⟩, ⟨by decide, by decide⟩, by omega, by omega⟩ rfl hl.1 (Nat.le_of_ble_eq_true rfl) dL_law_3004 rfl (fun H locs hM => ?_)
  refine lv_istore (lv' := [(7, .int v8), (6, .int v3), (0, .ref b), (1, .ref x0), (2, .ref mo), (3, .ref od), (4, .ref od2), (5, .int i0)]) hx hb dL_law_3007 hl (by decide) rfl (fun ls hl => ?_)
  refine lv_aload_n hx hb dL_law_3009 rfl (lv_at hl 4 rfl) ?_
  obtain ⟨_, h10, hp⟩ := ob hp
  obtain ⟨v11, hv11, hp⟩ := ob hp
  refine mg_V1 (As := []) (rest := []) C0 cbX7 hM h10 rfl (w_X7_thrown hG hv11) tw_1309 tw_1310 tw_1311 tw_7 tw_1312 yk_X7_thrown ⟨⟨rfl, rfl⟩, ⟨by decide, by decide⟩, by omega, by omega⟩ rfl hl.1 (Nat.le_of_ble_eq_true rfl) dL_law_3010 rfl (fun H locs hM => ?_)
  refine lv_iload hx hb dL_law_3013 (lv_at hl 1 rfl) ?_
  refine lv_icmp_eq (tgt := 3020) hx hb dL_law_3015 (by decide) (fun c12 => ?_) (fun c12 => ?_)
  · replace hp := oT c12 hp
    refine lv_iload hx hb dL_law_3020 (lv_at hl 1 rfl) ?_
    refine lv_if_ne (tgt := 3037) hx hb dL_law_3022 (by decide) (fun c13 => ?_) (fun c13 => ?_)
    · replace hp := oF c13 hp
      refine lv_goto (tgt := 3302) hx hb dL_law_3037 (by decide) ?_
      cases hp
      refine W.widen (k := cells + 8) (n := slots + 48) (by omega) (by omega) ?_
      exact kk H locs ls hM (lv_sub hl [2, 3, 4, 5, 6, 7] rfl)
    · replace hp := oT c13 hp
      refine lv_aload_n hx hb dL_law_3025 rfl (lv_at hl 5 rfl) ?_
      refine lv_iconst (v := 0) hx hb dL_law_3026 (by decide) ?_
      obtain ⟨v14, hv14, hp⟩ := ob hp
      refine mr_lald C0 hM hv14 dL_law_3027 ?_
      refine lv_iload hx hb dL_law_3028 (lv_at hl 0 rfl) ?_
      refine lv_i2l (v := (Int32.toInt64 v8)) hx hb dL_law_3030 rfl ?_
      refine W.lcmp hx hb dL_law_3031 ?_
      refine lv_if_eq (tgt := 3037) hx hb dL_law_3032 (by decide) (fun c15 => ?_) (fun c15 => ?_)
      · replace hp := oT c15 hp
        refine lv_goto (tgt := 3302) hx hb dL_law_3037 (by decide) ?_
        cases hp
        refine W.widen (k := cells + 8) (n := slots + 48) (by omega) (by omega) ?_
        exact kk H locs ls hM (lv_sub hl [2, 3, 4, 5, 6, 7] rfl)
      · replace hp := oF c15 hp
        cases hp
  · replace hp := oF c12 hp
    cases hp
def pk_51 (L : Nat) (xs : Nat → Int32) (x0 mo od od2 : Nat) (i0 : Int32) (M : Mem) : Option Mem :=
  (Option.bind (xI L xs (i0 + (1 : Int32))) fun v1 =>
  (ob2 (p_L_gainersWithout x0 v1 od M) fun v2 M3 =>
  (Option.bind (xI L xs (i0 + (1 : Int32))) fun v4 =>
  (Option.bind (isC 6 M3 mo) fun _ =>
  (ob2 (p_X7_gainersWithout mo v4 M3) fun v6 M7 =>
  (Option.bind (isC 6 M7 mo) fun _ =>
  (Option.bind (p_X7_thrown mo M7) fun v9 =>
  (if v9 = v2 then
   (if v2 = 0 then
    (Option.bind (aL M7 od (0 : Int32)) fun v12 =>
    (if (lg_cmp v12 v6) = 0 then
     some M7
    else
     none
    )
    )
   else
    some M7
   )
  else
   none
  )
  )
  )
  )
  )
  )
  )
  )
set_option maxHeartbeats 4000000 in
set_option maxRecDepth 100000 in
theorem wk_51 {G : gG} {p : Program} {l : Launch} {e : Env} {s : State} {m : MethodId} {args : Array Value} {below : List Frame} {meth : Method} {c : Code} {A : Nat → Prop} {Z : gZ} {Q : State → Prop} {cells slots b L : Nat} {xs : Nat → Int32} {x0 mo od od2 : Nat} {i0 : Int32} (C0 : cx G p s m args c cL_law RL 10 A) (hG : GOK G) (hZ : GS G Z) (hY : GY G) (hlf : l.stackTraces = false) (hX : va_X b L xs s s.heap) (hbl : b < s.heap.size) (hbA : ¬ A b) (hcs : cells + 8 ≤ room_1.cells ∧ slots + 48 ≤ room_1.slots) {M M' : Mem} {H : Heap} {locs : List Loc} {ls : Array Slot} (hM : mm G A s M H locs) (hl : lv_has ls 10 [(0, .ref b), (1, .ref x0), (2, .ref mo), (3, .ref od), (4, .ref od2), (5, .int i0)]) (hp : pk_51 L xs x0 mo od od2 i0 M = some M') (kk : ∀ (H : Heap) (locs : List Loc) (ls : Array Slot), mm G A s M' H locs → lv_has ls 10 [(0, .ref b), (1, .ref x0), (2, .ref mo), (3, .ref od), (4, .ref od2), (5, .int i0)] → W p l e room_1 s m args below meth c H locs (cells + 8) (slots + 48) Q (F0 m 3302 ls [])) : W p l e room_1 s m args below meth c H locs cells slots Q (F0 m 3040 ls []) := by
  have hx := C0.1
  have hb := C0.2.1
  have hown := C0.2.2.2.1
  have hts := C0.2.2.2.2.1
  obtain ⟨hc1, hs1⟩ := hcs
  unfold pk_51 at hp
  refine lv_aload_n hx hb dL_law_3040 rfl (lv_at hl 1 rfl) ?_
  refine lv_aload_n hx hb dL_law_3041 rfl (lv_at hl 0 rfl) ?_
  refine lv_iload hx hb dL_law_3042 (lv_at hl 5 rfl) ?_
  refine lv_iconst (v := 1) hx hb dL_law_3044 (by decide) ?_
  refine lv_iadd hx hb dL_law_3045 ?_
  obtain ⟨v1, hv1, hp⟩ := ob hp
  obtain ⟨hin, ev1⟩ := xI_at hv1
  refine va_sld hx hb hX hbl hbA hM.2.2 hin dL_law_3046 ?_
  rw [ev1]
  refine lv_aload_n hx hb dL_law_3047 rfl (lv_at hl 3 rfl) ?_
  obtain ⟨v2, M3, hv2, hp⟩ := ob3 hp
  refine ml_S1 (As := [.ref x0, .int v1, .ref od]) (rest := []) C0 hM (w_L_gainersWithout hG hY hlf hv2) tw_1163 tw_1164 tw_0 twh_1165 yk_L_gainersWithout ⟨⟨rfl, rfl⟩, ⟨by decide, by decide⟩, by omega, by omega⟩ rfl hl.1 (Nat.le_of_ble_eq_true rfl) dL_law_3048 rfl (fun H locs hM => ?_)
  refine lv_istore (lv' := [(6, .int v2), (0, .ref b), (1, .ref x0), (2, .ref mo), (3, .ref od), (4, .ref od2), (5, .int i0)]) hx hb dL_law_3051 hl (by decide) rfl (fun ls hl => ?_)
  refine lv_aload_n hx hb dL_law_3053 rfl (lv_at hl 3 rfl) ?_
  refine lv_aload_n hx hb dL_law_3054 rfl (lv_at hl 1 rfl) ?_
  refine lv_iload hx hb dL_law_3055 (lv_at hl 6 rfl) ?_
  refine lv_iconst (v := 1) hx hb dL_law_3057 (by decide) ?_
  refine lv_iadd hx hb dL_law_3058 ?_
  obtain ⟨v4, hv4, hp⟩ := ob hp
  obtain ⟨hin, ev4⟩ := xI_at hv4
  refine va_sld hx hb hX hbl hbA hM.2.2 hin dL_law_3059 ?_
  rw [ev4]
  obtain ⟨_, h5, hp⟩ := ob hp
  obtain ⟨v6, M7, hv6, hp⟩ := ob3 hp
  refine mg_V1 (As := [.int v4]) (rest := []) C0 cbX7 hM h5 rfl (w_X7_gainersWithout hG hv6) tw_1801 tw_1802 tw_1803 tw_7 tw_1804 yk_X7_gainersWithout ⟨⟨rfl, rfl⟩, ⟨by decide, by decide⟩, by omega, by omega⟩ rfl hl.1 (Nat.le_of_ble_eq_true rfl) dL_law_3060 rfl (fun H locs hM => ?_)
  refine lv_lstore (lv' := [(7, .long v6), (6, .int v2), (0, .ref b), (1, .ref x0), (2, .ref mo), (3, .ref od), (4, .ref od2), (5, .int i0)]) hx hb dL_law_3063 hl (by decide) rfl (fun ls hl => ?_)
  refine lv_aload_n hx hb dL_law_3065 rfl (lv_at hl 4 rfl) ?_
  obtain ⟨_, h8, hp⟩ := ob hp
  obtain ⟨v9, hv9, hp⟩ := ob hp
  refine mg_V1 (As := []) (rest := []) C0 cbX7 hM h8 rfl (w_X7_thrown hG hv9) tw_1309 tw_1310 tw_1311 tw_7 tw_1312 yk_X7_thrown ⟨⟨rfl, rfl⟩, ⟨by decide, by decide⟩, by omega, by omega⟩ rfl hl.1 (Nat.le_of_ble_eq_true rfl) dL_law_3066 rfl (fun H locs hM => ?_)
  refine lv_iload hx hb dL_law_3069 (lv_at hl 1 rfl) ?_
  refine lv_icmp_eq (tgt := 3076) hx hb dL_law_3071 (by decide) (fun c10 => ?_) (fun c10 => ?_)
  · replace hp := oT c10 hp
    refine lv_iload hx hb dL_law_3076 (lv_at hl 1 rfl) ?_
    refine lv_if_ne (tgt := 3092) hx hb dL_law_3078 (by decide) (fun c11 => ?_) (fun c11 => ?_)
    · replace hp := oF c11 hp
      refine lv_goto (tgt := 3302) hx hb dL_law_3092 (by decide) ?_
      cases hp
      refine W.widen (k := cells + 8) (n := slots + 48) (by omega) (by omega) ?_
      exact kk H locs ls hM (lv_sub hl [2, 3, 4, 5, 6, 7] rfl)
    · replace hp := oT c11 hp
      refine lv_aload_n hx hb dL_law_3081 rfl (lv_at hl 5 rfl) ?_
      refine lv_iconst (v := 0) hx hb dL_law_3082 (by decide) ?_
      obtain ⟨v12, hv12, hp⟩ := ob hp
      refine mr_lald C0 hM hv12 dL_law_3083 ?_
      refine lv_lload hx hb dL_law_3084 (lv_at hl 0 rfl) ?_
      refine W.lcmp hx hb dL_law_3086 ?_
      refine lv_if_eq (tgt := 3092) hx hb dL_law_3087 (by decide) (fun c13 => ?_) (fun c13 => ?_)
      · replace hp := oT c13 hp
        refine lv_goto (tgt := 3302) hx hb dL_law_3092 (by decide) ?_
        cases hp
        refine W.widen (k := cells + 8) (n := slots + 48) (by omega) (by omega) ?_
        exact kk H locs ls hM (lv_sub hl [2, 3, 4, 5, 6, 7] rfl)
      · replace hp := oF c13 hp
        cases hp
  · replace hp := oF c10 hp
    cases hp
def pk_52 (L : Nat) (xs : Nat → Int32) (x0 mo od od2 : Nat) (i0 : Int32) (M : Mem) : Option Mem :=
  (Option.bind (xI L xs (i0 + (1 : Int32))) fun v1 =>
  (ob2 (p_L_bestByOrder x0 v1 od M) fun v2 M3 =>
  (Option.bind (xI L xs (i0 + (1 : Int32))) fun v4 =>
  (Option.bind (isC 6 M3 mo) fun _ =>
  (ob2 (p_X7_bestByOrder mo v4 M3) fun v6 M7 =>
  (Option.bind (isC 6 M7 mo) fun _ =>
  (Option.bind (p_X7_thrown mo M7) fun v9 =>
  (if v9 = v2 then
   (if v2 = 0 then
    (Option.bind (aL M7 od (0 : Int32)) fun v12 =>
    (if (lg_cmp v12 (Int32.toInt64 v6)) = 0 then
     some M7
    else
     none
    )
    )
   else
    some M7
   )
  else
   none
  )
  )
  )
  )
  )
  )
  )
  )
set_option maxHeartbeats 4000000 in
set_option maxRecDepth 100000 in
theorem wk_52 {G : gG} {p : Program} {l : Launch} {e : Env} {s : State} {m : MethodId} {args : Array Value} {below : List Frame} {meth : Method} {c : Code} {A : Nat → Prop} {Z : gZ} {Q : State → Prop} {cells slots b L : Nat} {xs : Nat → Int32} {x0 mo od od2 : Nat} {i0 : Int32} (C0 : cx G p s m args c cL_law RL 10 A) (hG : GOK G) (hZ : GS G Z) (hY : GY G) (hlf : l.stackTraces = false) (hX : va_X b L xs s s.heap) (hbl : b < s.heap.size) (hbA : ¬ A b) (hcs : cells + 8 ≤ room_1.cells ∧ slots + 48 ≤ room_1.slots) {M M' : Mem} {H : Heap} {locs : List Loc} {ls : Array Slot} (hM : mm G A s M H locs) (hl : lv_has ls 10 [(0, .ref b), (1, .ref x0), (2, .ref mo), (3, .ref od), (4, .ref od2), (5, .int i0)]) (hp : pk_52 L xs x0 mo od od2 i0 M = some M') (kk : ∀ (H : Heap) (locs : List Loc) (ls : Array Slot), mm G A s M' H locs → lv_has ls 10 [(0, .ref b), (1, .ref x0), (2, .ref mo), (3, .ref od), (4, .ref od2), (5, .int i0)] → W p l e room_1 s m args below meth c H locs (cells + 8) (slots + 48) Q (F0 m 3302 ls [])) : W p l e room_1 s m args below meth c H locs cells slots Q (F0 m 3095 ls []) := by
  have hx := C0.1
  have hb := C0.2.1
  have hown := C0.2.2.2.1
  have hts := C0.2.2.2.2.1
  obtain ⟨hc1, hs1⟩ := hcs
  unfold pk_52 at hp
  refine lv_aload_n hx hb dL_law_3095 rfl (lv_at hl 1 rfl) ?_
  refine lv_aload_n hx hb dL_law_3096 rfl (lv_at hl 0 rfl) ?_
  refine lv_iload hx hb dL_law_3097 (lv_at hl 5 rfl) ?_
  refine lv_iconst (v := 1) hx hb dL_law_3099 (by decide) ?_
  refine lv_iadd hx hb dL_law_3100 ?_
  obtain ⟨v1, hv1, hp⟩ := ob hp
  obtain ⟨hin, ev1⟩ := xI_at hv1
  refine va_sld hx hb hX hbl hbA hM.2.2 hin dL_law_3101 ?_
  rw [ev1]
  refine lv_aload_n hx hb dL_law_3102 rfl (lv_at hl 3 rfl) ?_
  obtain ⟨v2, M3, hv2, hp⟩ := ob3 hp
  refine ml_S1 (As := [.ref x0, .int v1, .ref od]) (rest := []) C0 hM (w_L_bestByOrder hG hY hlf hv2) tw_1170 tw_1171 tw_0 twh_1172 yk_L_bestByOrder ⟨⟨rfl, rfl⟩, ⟨by decide, by decide⟩, by omega, by omega⟩ rfl hl.1 (Nat.le_of_ble_eq_true rfl) dL_law_3103 rfl (fun H locs hM => ?_)
  refine lv_istore (lv' := [(6, .int v2), (0, .ref b), (1, .ref x0), (2, .ref mo), (3, .ref od), (4, .ref od2), (5, .int i0)]) hx hb dL_law_3106 hl (by decide) rfl (fun ls hl => ?_)
  refine lv_aload_n hx hb dL_law_3108 rfl (lv_at hl 3 rfl) ?_
  refine lv_aload_n hx hb dL_law_3109 rfl (lv_at hl 1 rfl) ?_
  refine lv_iload hx hb dL_law_3110 (lv_at hl 6 rfl) ?_
  refine lv_iconst (v := 1) hx hb dL_law_3112 (by decide) ?_
  refine lv_iadd hx hb dL_law_3113 ?_
  obtain ⟨v4, hv4, hp⟩ := ob hp
  obtain ⟨hin, ev4⟩ := xI_at hv4
  refine va_sld hx hb hX hbl hbA hM.2.2 hin dL_law_3114 ?_
  rw [ev4]
  obtain ⟨_, h5, hp⟩ := ob hp
  obtain ⟨v6, M7, hv6, hp⟩ := ob3 hp
  refine mg_V1 (As := [.int v4]) (rest := []) C0 cbX7 hM h5 rfl (w_X7_bestByOrder hG hv6) tw_1808 tw_1809 tw_1810 tw_7 tw_1811 yk_X7_bestByOrder ⟨⟨rfl, rfl⟩, ⟨by decide, by decide⟩, by omega, by omega⟩ rfl hl.1 (Nat.le_of_ble_eq_true rfl) dL_law_3115 rfl (fun H locs hM => ?_)
  refine lv_istore (lv' := [(7, .int v6), (6, .int v2), (0, .ref b), (1, .ref x0), (2, .ref mo), (3, .ref od), (4, .ref od2), (5, .int i0)]) hx hb dL_law_3118 hl (by decide) rfl (fun ls hl => ?_)
  refine lv_aload_n hx hb dL_law_3120 rfl (lv_at hl 4 rfl) ?_
  obtain ⟨_, h8, hp⟩ := ob hp
  obtain ⟨v9, hv9, hp⟩ := ob hp
  refine mg_V1 (As := []) (rest := []) C0 cbX7 hM h8 rfl (w_X7_thrown hG hv9) tw_1309 tw_1310 tw_1311 tw_7 tw_1312 yk_X7_thrown ⟨⟨rfl, rfl⟩, ⟨by decide, by decide⟩, by omega, by omega⟩ rfl hl.1 (Nat.le_of_ble_eq_true rfl) dL_law_3121 rfl (fun H locs hM => ?_)
  refine lv_iload hx hb dL_law_3124 (lv_at hl 1 rfl) ?_
  refine lv_icmp_eq (tgt := 3131) hx hb dL_law_3126 (by decide) (fun c10 => ?_) (fun c10 => ?_)
  · replace hp := oT c10 hp
    refine lv_iload hx hb dL_law_3131 (lv_at hl 1 rfl) ?_
    refine lv_if_ne (tgt := 3148) hx hb dL_law_3133 (by decide) (fun c11 => ?_) (fun c11 => ?_)
    · replace hp := oF c11 hp
      refine lv_goto (tgt := 3302) hx hb dL_law_3148 (by decide) ?_
      cases hp
      refine W.widen (k := cells + 8) (n := slots + 48) (by omega) (by omega) ?_
      exact kk H locs ls hM (lv_sub hl [2, 3, 4, 5, 6, 7] rfl)
    · replace hp := oT c11 hp
      refine lv_aload_n hx hb dL_law_3136 rfl (lv_at hl 5 rfl) ?_
      refine lv_iconst (v := 0) hx hb dL_law_3137 (by decide) ?_
      obtain ⟨v12, hv12, hp⟩ := ob hp
      refine mr_lald C0 hM hv12 dL_law_3138 ?_
      refine lv_iload hx hb dL_law_3139 (lv_at hl 0 rfl) ?_
      refine lv_i2l (v := (Int32.toInt64 v6)) hx hb dL_law_3141 rfl ?_
      refine W.lcmp hx hb dL_law_3142 ?_
      refine lv_if_eq (tgt := 3148) hx hb dL_law_3143 (by decide) (fun c13 => ?_) (fun c13 => ?_)
      · replace hp := oT c13 hp
        refine lv_goto (tgt := 3302) hx hb dL_law_3148 (by decide) ?_
        cases hp
        refine W.widen (k := cells + 8) (n := slots + 48) (by omega) (by omega) ?_
        exact kk H locs ls hM (lv_sub hl [2, 3, 4, 5, 6, 7] rfl)
      · replace hp := oF c13 hp
        cases hp
  · replace hp := oF c10 hp
    cases hp
def pk_53 (L : Nat) (xs : Nat → Int32) (x0 mo od od2 : Nat) (i0 : Int32) (M : Mem) : Option Mem :=
  (Option.bind (xI L xs (i0 + (1 : Int32))) fun v1 =>
  (ob2 (p_L_printSchool x0 v1 od M) fun v2 M3 =>
  (Option.bind (xI L xs (i0 + (1 : Int32))) fun v4 =>
  (Option.bind (isC 6 M3 mo) fun _ =>
  (ob2 (p_X7_printSchool mo v4 M3) fun v6 M7 =>
  (Option.bind (isC 6 M7 mo) fun _ =>
  (Option.bind (p_X7_thrown mo M7) fun v9 =>
  (if v9 = v2 then
   (if v2 = 0 then
    (Option.bind (aL M7 od (0 : Int32)) fun v12 =>
    (if (lg_cmp v12 (Int32.toInt64 v6)) = 0 then
     some M7
    else
     none
    )
    )
   else
    some M7
   )
  else
   none
  )
  )
  )
  )
  )
  )
  )
  )
set_option maxHeartbeats 4000000 in
set_option maxRecDepth 100000 in
theorem wk_53 {G : gG} {p : Program} {l : Launch} {e : Env} {s : State} {m : MethodId} {args : Array Value} {below : List Frame} {meth : Method} {c : Code} {A : Nat → Prop} {Z : gZ} {Q : State → Prop} {cells slots b L : Nat} {xs : Nat → Int32} {x0 mo od od2 : Nat} {i0 : Int32} (C0 : cx G p s m args c cL_law RL 10 A) (hG : GOK G) (hZ : GS G Z) (hY : GY G) (hlf : l.stackTraces = false) (hX : va_X b L xs s s.heap) (hbl : b < s.heap.size) (hbA : ¬ A b) (hcs : cells + 8 ≤ room_1.cells ∧ slots + 48 ≤ room_1.slots) {M M' : Mem} {H : Heap} {locs : List Loc} {ls : Array Slot} (hM : mm G A s M H locs) (hl : lv_has ls 10 [(0, .ref b), (1, .ref x0), (2, .ref mo), (3, .ref od), (4, .ref od2), (5, .int i0)]) (hp : pk_53 L xs x0 mo od od2 i0 M = some M') (kk : ∀ (H : Heap) (locs : List Loc) (ls : Array Slot), mm G A s M' H locs → lv_has ls 10 [(0, .ref b), (1, .ref x0), (2, .ref mo), (3, .ref od), (4, .ref od2), (5, .int i0)] → W p l e room_1 s m args below meth c H locs (cells + 8) (slots + 48) Q (F0 m 3302 ls [])) : W p l e room_1 s m args below meth c H locs cells slots Q (F0 m 3151 ls []) := by
  have hx := C0.1
  have hb := C0.2.1
  have hown := C0.2.2.2.1
  have hts := C0.2.2.2.2.1
  obtain ⟨hc1, hs1⟩ := hcs
  unfold pk_53 at hp
  refine lv_aload_n hx hb dL_law_3151 rfl (lv_at hl 1 rfl) ?_
  refine lv_aload_n hx hb dL_law_3152 rfl (lv_at hl 0 rfl) ?_
  refine lv_iload hx hb dL_law_3153 (lv_at hl 5 rfl) ?_
  refine lv_iconst (v := 1) hx hb dL_law_3155 (by decide) ?_
  refine lv_iadd hx hb dL_law_3156 ?_
  obtain ⟨v1, hv1, hp⟩ := ob hp
  obtain ⟨hin, ev1⟩ := xI_at hv1
  refine va_sld hx hb hX hbl hbA hM.2.2 hin dL_law_3157 ?_
  rw [ev1]
  refine lv_aload_n hx hb dL_law_3158 rfl (lv_at hl 3 rfl) ?_
  obtain ⟨v2, M3, hv2, hp⟩ := ob3 hp
  refine ml_S1 (As := [.ref x0, .int v1, .ref od]) (rest := []) C0 hM (w_L_printSchool hG hY hlf hv2) tw_1177 tw_1178 tw_0 twh_1179 yk_L_printSchool ⟨⟨rfl, rfl⟩, ⟨by decide, by decide⟩, by omega, by omega⟩ rfl hl.1 (Nat.le_of_ble_eq_true rfl) dL_law_3159 rfl (fun H locs hM => ?_)
  refine lv_istore (lv' := [(6, .int v2), (0, .ref b), (1, .ref x0), (2, .ref mo), (3, .ref od), (4, .ref od2), (5, .int i0)]) hx hb dL_law_3162 hl (by decide) rfl (fun ls hl => ?_)
  refine lv_aload_n hx hb dL_law_3164 rfl (lv_at hl 3 rfl) ?_
  refine lv_aload_n hx hb dL_law_3165 rfl (lv_at hl 1 rfl) ?_
  refine lv_iload hx hb dL_law_3166 (lv_at hl 6 rfl) ?_
  refine lv_iconst (v := 1) hx hb dL_law_3168 (by decide) ?_
  refine lv_iadd hx hb dL_law_3169 ?_
  obtain ⟨v4, hv4, hp⟩ := ob hp
  obtain ⟨hin, ev4⟩ := xI_at hv4
  refine va_sld hx hb hX hbl hbA hM.2.2 hin dL_law_3170 ?_
  rw [ev4]
  obtain ⟨_, h5, hp⟩ := ob hp
  obtain ⟨v6, M7, hv6, hp⟩ := ob3 hp
  refine mg_V1 (As := [.int v4]) (rest := []) C0 cbX7 hM h5 rfl (w_X7_printSchool hG hv6) tw_1816 tw_1817 tw_1818 tw_7 tw_1819 yk_X7_printSchool ⟨⟨rfl, rfl⟩, ⟨by decide, by decide⟩, by omega, by omega⟩ rfl hl.1 (Nat.le_of_ble_eq_true rfl) dL_law_3171 rfl (fun H locs hM => ?_)
  refine lv_istore (lv' := [(7, .int v6), (6, .int v2), (0, .ref b), (1, .ref x0), (2, .ref mo), (3, .ref od), (4, .ref od2), (5, .int i0)]) hx hb dL_law_3174 hl (by decide) rfl (fun ls hl => ?_)
  refine lv_aload_n hx hb dL_law_3176 rfl (lv_at hl 4 rfl) ?_
  obtain ⟨_, h8, hp⟩ := ob hp
  obtain ⟨v9, hv9, hp⟩ := ob hp
  refine mg_V1 (As := []) (rest := []) C0 cbX7 hM h8 rfl (w_X7_thrown hG hv9) tw_1309 tw_1310 tw_1311 tw_7 tw_1312 yk_X7_thrown ⟨⟨rfl, rfl⟩, ⟨by decide, by decide⟩, by omega, by omega⟩ rfl hl.1 (Nat.le_of_ble_eq_true rfl) dL_law_3177 rfl (fun H locs hM => ?_)
  refine lv_iload hx hb dL_law_3180 (lv_at hl 1 rfl) ?_
  refine lv_icmp_eq (tgt := 3187) hx hb dL_law_3182 (by decide) (fun c10 => ?_) (fun c10 => ?_)
  · replace hp := oT c10 hp
    refine lv_iload hx hb dL_law_3187 (lv_at hl 1 rfl) ?_
    refine lv_if_ne (tgt := 3204) hx hb dL_law_3189 (by decide) (fun c11 => ?_) (fun c11 => ?_)
    · replace hp := oF c11 hp
      refine lv_goto (tgt := 3302) hx hb dL_law_3204 (by decide) ?_
      cases hp
      refine W.widen (k := cells + 8) (n := slots + 48) (by omega) (by omega) ?_
      exact kk H locs ls hM (lv_sub hl [2, 3, 4, 5, 6, 7] rfl)
    · replace hp := oT c11 hp
      refine lv_aload_n hx hb dL_law_3192 rfl (lv_at hl 5 rfl) ?_
      refine lv_iconst (v := 0) hx hb dL_law_3193 (by decide) ?_
      obtain ⟨v12, hv12, hp⟩ := ob hp
      refine mr_lald C0 hM hv12 dL_law_3194 ?_
      refine lv_iload hx hb dL_law_3195 (lv_at hl 0 rfl) ?_
      refine lv_i2l (v := (Int32.toInt64 v6)) hx hb dL_law_3197 rfl ?_
      refine W.lcmp hx hb dL_law_3198 ?_
      refine lv_if_eq (tgt := 3204) hx hb dL_law_3199 (by decide) (fun c13 => ?_) (fun c13 => ?_)
      · replace hp := oT c13 hp
        refine lv_goto (tgt := 3302) hx hb dL_law_3204 (by decide) ?_
        cases hp
        refine W.widen (k := cells + 8) (n := slots + 48) (by omega) (by omega) ?_
        exact kk H locs ls hM (lv_sub hl [2, 3, 4, 5, 6, 7] rfl)
      · replace hp := oF c13 hp
        cases hp
  · replace hp := oF c10 hp
    cases hp
def pk_54 (L : Nat) (xs : Nat → Int32) (x0 mo od od2 : Nat) (i0 : Int32) (M : Mem) : Option Mem :=
  (Option.bind (xI L xs (i0 + (1 : Int32))) fun v1 =>
  (Option.bind (isC 5 M x0) fun _ =>
  (Option.bind (p_X6_outputByte x0 v1 M) fun v3 =>
  (Option.bind (xI L xs (i0 + (1 : Int32))) fun v4 =>
  (Option.bind (isC 6 M mo) fun _ =>
  (ob2 (p_X7_outputByte mo v4 M) fun v6 M7 =>
  (if v3 = v6 then
   some M7
  else
   none
  )
  )
  )
  )
  )
  )
  )
set_option maxHeartbeats 4000000 in
set_option maxRecDepth 100000 in
theorem wk_54 {G : gG} {p : Program} {l : Launch} {e : Env} {s : State} {m : MethodId} {args : Array Value} {below : List Frame} {meth : Method} {c : Code} {A : Nat → Prop} {Z : gZ} {Q : State → Prop} {cells slots b L : Nat} {xs : Nat → Int32} {x0 mo od od2 : Nat} {i0 : Int32} (C0 : cx G p s m args c cL_law RL 10 A) (hG : GOK G) (hZ : GS G Z) (hY : GY G) (hlf : l.stackTraces = false) (hX : va_X b L xs s s.heap) (hbl : b < s.heap.size) (hbA : ¬ A b) (hcs : cells + 8 ≤ room_1.cells ∧ slots + 48 ≤ room_1.slots) {M M' : Mem} {H : Heap} {locs : List Loc} {ls : Array Slot} (hM : mm G A s M H locs) (hl : lv_has ls 10 [(0, .ref b), (1, .ref x0), (2, .ref mo), (3, .ref od), (4, .ref od2), (5, .int i0)]) (hp : pk_54 L xs x0 mo od od2 i0 M = some M') (kk : ∀ (H : Heap) (locs : List Loc) (ls : Array Slot), mm G A s M' H locs → lv_has ls 10 [(0, .ref b), (1, .ref x0), (2, .ref mo), (3, .ref od), (4, .ref od2), (5, .int i0)] → W p l e room_1 s m args below meth c H locs (cells + 8) (slots + 48) Q (F0 m 3302 ls [])) : W p l e room_1 s m args below meth c H locs cells slots Q (F0 m 3207 ls []) := by
  have hx := C0.1
  have hb := C0.2.1
  have hown := C0.2.2.2.1
  have hts := C0.2.2.2.2.1
  obtain ⟨hc1, hs1⟩ := hcs
  unfold pk_54 at hp
  refine lv_aload_n hx hb dL_law_3207 rfl (lv_at hl 1 rfl) ?_
  refine lv_aload_n hx hb dL_law_3208 rfl (lv_at hl 0 rfl) ?_
  refine lv_iload hx hb dL_law_3209 (lv_at hl 5 rfl) ?_
  refine lv_iconst (v := 1) hx hb dL_law_3211 (by decide) ?_
  refine lv_iadd hx hb dL_law_3212 ?_
  obtain ⟨v1, hv1, hp⟩ := ob hp
  obtain ⟨hin, ev1⟩ := xI_at hv1
  refine va_sld hx hb hX hbl hbA hM.2.2 hin dL_law_3213 ?_
  rw [ev1]
  obtain ⟨_, h2, hp⟩ := ob hp
  obtain ⟨v3, hv3, hp⟩ := ob hp
  refine mg_V1 (As := [.int v1]) (rest := []) C0 cbX6 hM h2 rfl (w_X6_outputByte hG hv3) tw_708 tw_709 tw_710 tw_1 tw_711 yk_X6_outputByte ⟨⟨rfl, rfl⟩, ⟨by decide, by decide⟩, by omega, by omega⟩ rfl hl.1 (Nat.le_of_ble_eq_true rfl) dL_law_3214 rfl (fun H locs hM => ?_)
  refine lv_aload_n hx hb dL_law_3217 rfl (lv_at hl 2 rfl) ?_
  refine lv_aload_n hx hb dL_law_3218 rfl (lv_at hl 0 rfl) ?_
  refine lv_iload hx hb dL_law_3219 (lv_at hl 5 rfl) ?_
  refine lv_iconst (v := 1) hx hb dL_law_3221 (by decide) ?_
  refine lv_iadd hx hb dL_law_3222 ?_
  obtain ⟨v4, hv4, hp⟩ := ob hp
  obtain ⟨hin, ev4⟩ := xI_at hv4
  refine va_sld hx hb hX hbl hbA hM.2.2 hin dL_law_3223 ?_
  rw [ev4]
  obtain ⟨_, h5, hp⟩ := ob hp
  obtain ⟨v6, M7, hv6, hp⟩ := ob3 hp
  refine mg_V1 (As := [.int v4]) (rest := [.int v3]) C0 cbX7 hM h5 rfl (w_X7_outputByte hG hv6) tw_1828 tw_1829 tw_1830 tw_7 tw_1831 yk_X7_outputByte ⟨⟨rfl, rfl⟩, ⟨by decide, by decide⟩, by omega, by omega⟩ rfl hl.1 (Nat.le_of_ble_eq_true rfl) dL_law_3224 rfl (fun H locs hM => ?_)
  refine lv_icmp_eq (tgt := 3302) hx hb dL_law_3227 (by decide) (fun c8 => ?_) (fun c8 => ?_)
  · replace hp := oT c8 hp
    cases hp
    refine W.widen (k := cells + 8) (n := slots + 48) (by omega) (by omega) ?_
    exact kk H locs ls hM (lv_sub hl [0, 1, 2, 3, 4, 5] rfl)
  · replace hp := oF c8 hp
    cases hp
def pk_55 (L : Nat) (xs : Nat → Int32) (x0 mo od od2 : Nat) (i0 : Int32) (M : Mem) : Option Mem :=
  (Option.bind (isC 5 M x0) fun _ =>
  (ob2 (p_X6_undo x0 M) fun v2 M3 =>
  (Option.bind (isC 6 M3 mo) fun _ =>
  (ob2 (p_X7_undo mo M3) fun v5 M6 =>
  (if v2 = v5 then
   some M6
  else
   none
  )
  )
  )
  )
  )
set_option maxHeartbeats 4000000 in
set_option maxRecDepth 100000 in
theorem wk_55 {G : gG} {p : Program} {l : Launch} {e : Env} {s : State} {m : MethodId} {args : Array Value} {below : List Frame} {meth : Method} {c : Code} {A : Nat → Prop} {Z : gZ} {Q : State → Prop} {cells slots b L : Nat} {xs : Nat → Int32} {x0 mo od od2 : Nat} {i0 : Int32} (C0 : cx G p s m args c cL_law RL 10 A) (hG : GOK G) (hZ : GS G Z) (hY : GY G) (hlf : l.stackTraces = false) (hX : va_X b L xs s s.heap) (hbl : b < s.heap.size) (hbA : ¬ A b) (hcs : cells + 8 ≤ room_1.cells ∧ slots + 48 ≤ room_1.slots) {M M' : Mem} {H : Heap} {locs : List Loc} {ls : Array Slot} (hM : mm G A s M H locs) (hl : lv_has ls 10 [(0, .ref b), (1, .ref x0), (2, .ref mo), (3, .ref od), (4, .ref od2), (5, .int i0)]) (hp : pk_55 L xs x0 mo od od2 i0 M = some M') (kk : ∀ (H : Heap) (locs : List Loc) (ls : Array Slot), mm G A s M' H locs → lv_has ls 10 [(0, .ref b), (1, .ref x0), (2, .ref mo), (3, .ref od), (4, .ref od2), (5, .int i0)] → W p l e room_1 s m args below meth c H locs (cells + 8) (slots + 48) Q (F0 m 3302 ls [])) : W p l e room_1 s m args below meth c H locs cells slots Q (F0 m 3232 ls []) := by
  have hx := C0.1
  have hb := C0.2.1
  have hown := C0.2.2.2.1
  have hts := C0.2.2.2.2.1
  obtain ⟨hc1, hs1⟩ := hcs
  unfold pk_55 at hp
  refine lv_aload_n hx hb dL_law_3232 rfl (lv_at hl 1 rfl) ?_
  obtain ⟨_, h1, hp⟩ := ob hp
  obtain ⟨v2, M3, hv2, hp⟩ := ob3 hp
  refine mg_V1 (As := []) (rest := []) C0 cbX6 hM h1 rfl (w_X6_undo hG hv2) tw_712 tw_713 tw_714 tw_1 tw_715 yk_X6_undo ⟨⟨rfl, rfl⟩, ⟨by decide, by decide⟩, by omega, by omega⟩ rfl hl.1 (Nat.le_of_ble_eq_true rfl) dL_law_3233 rfl (fun H locs hM => ?_)
  refine lv_aload_n hx hb dL_law_3236 rfl (lv_at hl 2 rfl) ?_
  obtain ⟨_, h4, hp⟩ := ob hp
  obtain ⟨v5, M6, hv5, hp⟩ := ob3 hp
  refine mg_V1 (As := []) (rest := [.int v2]) C0 cbX7 hM h4 rfl (w_X7_undo hG hv5) tw_1832 tw_1833 tw_1834 tw_7 tw_1835 yk_X7_undo ⟨⟨rfl, rfl⟩, ⟨by decide, by decide⟩, by omega, by omega⟩ rfl hl.1 (Nat.le_of_ble_eq_true rfl) dL_law_3237 rfl (fun H locs hM => ?_)
  refine lv_icmp_eq (tgt := 3302) hx hb dL_law_3240 (by decide) (fun c7 => ?_) (fun c7 => ?_)
  · replace hp := oT c7 hp
    cases hp
    refine W.widen (k := cells + 8) (n := slots + 48) (by omega) (by omega) ?_
    exact kk H locs ls hM (lv_sub hl [0, 1, 2, 3, 4, 5] rfl)
  · replace hp := oF c7 hp
    cases hp
def pk_56 (L : Nat) (xs : Nat → Int32) (x0 mo od od2 : Nat) (i0 : Int32) (M : Mem) : Option Mem :=
  (Option.bind (isC 5 M x0) fun _ =>
  (ob2 (p_X6_saveState x0 M) fun v2 M3 =>
  (Option.bind (isC 6 M3 mo) fun _ =>
  (ob2 (p_X7_saveState mo M3) fun v5 M6 =>
  (if v2 = v5 then
   some M6
  else
   none
  )
  )
  )
  )
  )
set_option maxHeartbeats 4000000 in
set_option maxRecDepth 100000 in
theorem wk_56 {G : gG} {p : Program} {l : Launch} {e : Env} {s : State} {m : MethodId} {args : Array Value} {below : List Frame} {meth : Method} {c : Code} {A : Nat → Prop} {Z : gZ} {Q : State → Prop} {cells slots b L : Nat} {xs : Nat → Int32} {x0 mo od od2 : Nat} {i0 : Int32} (C0 : cx G p s m args c cL_law RL 10 A) (hG : GOK G) (hZ : GS G Z) (hY : GY G) (hlf : l.stackTraces = false) (hX : va_X b L xs s s.heap) (hbl : b < s.heap.size) (hbA : ¬ A b) (hcs : cells + 8 ≤ room_1.cells ∧ slots + 48 ≤ room_1.slots) {M M' : Mem} {H : Heap} {locs : List Loc} {ls : Array Slot} (hM : mm G A s M H locs) (hl : lv_has ls 10 [(0, .ref b), (1, .ref x0), (2, .ref mo), (3, .ref od), (4, .ref od2), (5, .int i0)]) (hp : pk_56 L xs x0 mo od od2 i0 M = some M') (kk : ∀ (H : Heap) (locs : List Loc) (ls : Array Slot), mm G A s M' H locs → lv_has ls 10 [(0, .ref b), (1, .ref x0), (2, .ref mo), (3, .ref od), (4, .ref od2), (5, .int i0)] → W p l e room_1 s m args below meth c H locs (cells + 8) (slots + 48) Q (F0 m 3302 ls [])) : W p l e room_1 s m args below meth c H locs cells slots Q (F0 m 3245 ls []) := by
  have hx := C0.1
  have hb := C0.2.1
  have hown := C0.2.2.2.1
  have hts := C0.2.2.2.2.1
  obtain ⟨hc1, hs1⟩ := hcs
  unfold pk_56 at hp
  refine lv_aload_n hx hb dL_law_3245 rfl (lv_at hl 1 rfl) ?_
  obtain ⟨_, h1, hp⟩ := ob hp
  obtain ⟨v2, M3, hv2, hp⟩ := ob3 hp
  refine mg_V1 (As := []) (rest := []) C0 cbX6 hM h1 rfl (w_X6_saveState hG hv2) tw_716 tw_717 tw_718 tw_1 tw_719 yk_X6_saveState ⟨⟨rfl, rfl⟩, ⟨by decide, by decide⟩, by omega, by omega⟩ rfl hl.1 (Nat.le_of_ble_eq_true rfl) dL_law_3246 rfl (fun H locs hM => ?_)
  refine lv_aload_n hx hb dL_law_3249 rfl (lv_at hl 2 rfl) ?_
  obtain ⟨_, h4, hp⟩ := ob hp
  obtain ⟨v5, M6, hv5, hp⟩ := ob3 hp
  refine mg_V1 (As := []) (rest := [.int v2]) C0 cbX7 hM h4 rfl (w_X7_saveState hG hv5) tw_1836 tw_1837 tw_1838 tw_7 tw_1839 yk_X7_saveState ⟨⟨rfl, rfl⟩, ⟨by decide, by decide⟩, by omega, by omega⟩ rfl hl.1 (Nat.le_of_ble_eq_true rfl) dL_law_3250 rfl (fun H locs hM => ?_)
  refine lv_icmp_eq (tgt := 3302) hx hb dL_law_3253 (by decide) (fun c7 => ?_) (fun c7 => ?_)
  · replace hp := oT c7 hp
    cases hp
    refine W.widen (k := cells + 8) (n := slots + 48) (by omega) (by omega) ?_
    exact kk H locs ls hM (lv_sub hl [0, 1, 2, 3, 4, 5] rfl)
  · replace hp := oF c7 hp
    cases hp
def pk_57 (L : Nat) (xs : Nat → Int32) (x0 mo od od2 : Nat) (i0 : Int32) (M : Mem) : Option Mem :=
  (ob2 (p_L_restoreState x0 od M) fun v1 M2 =>
  (Option.bind (isC 6 M2 mo) fun _ =>
  (ob2 (p_X7_restoreState mo M2) fun v4 M5 =>
  (Option.bind (isC 6 M5 mo) fun _ =>
  (Option.bind (p_X7_thrown mo M5) fun v7 =>
  (if v7 = v1 then
   (if v1 = 0 then
    (Option.bind (aL M5 od (0 : Int32)) fun v10 =>
    (if (lg_cmp v10 (Int32.toInt64 v4)) = 0 then
     some M5
    else
     none
    )
    )
   else
    some M5
   )
  else
   none
  )
  )
  )
  )
  )
  )
set_option maxHeartbeats 4000000 in
set_option maxRecDepth 100000 in
theorem wk_57 {G : gG} {p : Program} {l : Launch} {e : Env} {s : State} {m : MethodId} {args : Array Value} {below : List Frame} {meth : Method} {c : Code} {A : Nat → Prop} {Z : gZ} {Q : State → Prop} {cells slots b L : Nat} {xs : Nat → Int32} {x0 mo od od2 : Nat} {i0 : Int32} (C0 : cx G p s m args c cL_law RL 10 A) (hG : GOK G) (hZ : GS G Z) (hY : GY G) (hlf : l.stackTraces = false) (hX : va_X b L xs s s.heap) (hbl : b < s.heap.size) (hbA : ¬ A b) (hcs : cells + 8 ≤ room_1.cells ∧ slots + 48 ≤ room_1.slots) {M M' : Mem} {H : Heap} {locs : List Loc} {ls : Array Slot} (hM : mm G A s M H locs) (hl : lv_has ls 10 [(0, .ref b), (1, .ref x0), (2, .ref mo), (3, .ref od), (4, .ref od2), (5, .int i0)]) (hp : pk_57 L xs x0 mo od od2 i0 M = some M') (kk : ∀ (H : Heap) (locs : List Loc) (ls : Array Slot), mm G A s M' H locs → lv_has ls 10 [(0, .ref b), (1, .ref x0), (2, .ref mo), (3, .ref od), (4, .ref od2), (5, .int i0)] → W p l e room_1 s m args below meth c H locs (cells + 8) (slots + 48) Q (F0 m 3302 ls [])) : W p l e room_1 s m args below meth c H locs cells slots Q (F0 m 3258 ls []) := by
  have hx := C0.1
  have hb := C0.2.1
  have hown := C0.2.2.2.1
  have hts := C0.2.2.2.2.1
  obtain ⟨hc1, hs1⟩ := hcs
  unfold pk_57 at hp
  refine lv_aload_n hx hb dL_law_3258 rfl (lv_at hl 1 rfl) ?_
  refine lv_aload_n hx hb dL_law_3259 rfl (lv_at hl 3 rfl) ?_
  obtain ⟨v1, M2, hv1, hp⟩ := ob3 hp
  refine ml_S1 (As := [.ref x0, .ref od]) (rest := []) C0 hM (w_L_restoreState hG hY hlf hv1) tw_1206 tw_1207 tw_0 twh_1208 yk_L_restoreState ⟨⟨rfl, rfl⟩, ⟨by decide, by decide⟩, by omega, by omega⟩ rfl hl.1 (Nat.le_of_ble_eq_true rfl) dL_law_3260 rfl (fun H locs hM => ?_)
  refine lv_istore (lv' := [(6, .int v1), (0, .ref b), (1, .ref x0), (2, .ref mo), (3, .ref od), (4, .ref od2), (5, .int i0)]) hx hb dL_law_3263 hl (by decide) rfl (fun ls hl => ?_)
  refine lv_aload_n hx hb dL_law_3265 rfl (lv_at hl 3 rfl) ?_
  obtain ⟨_, h3, hp⟩ := ob hp
  obtain ⟨v4, M5, hv4, hp⟩ := ob3 hp
  refine mg_V1 (As := []) (rest := []) C0 cbX7 hM h3 rfl (w_X7_restoreState hG hv4) tw_1840 tw_1841 tw_1842 tw_7 tw_1843 yk_X7_restoreState ⟨⟨rfl, rfl⟩, ⟨by decide, by decide⟩, by omega, by omega⟩ rfl hl.1 (Nat.le_of_ble_eq_true rfl) dL_law_3266 rfl (fun H locs hM => ?_)
  refine lv_istore (lv' := [(7, .int v4), (6, .int v1), (0, .ref b), (1, .ref x0), (2, .ref mo), (3, .ref od), (4, .ref od2), (5, .int i0)]) hx hb dL_law_3269 hl (by decide) rfl (fun ls hl => ?_)
  refine lv_aload_n hx hb dL_law_3271 rfl (lv_at hl 4 rfl) ?_
  obtain ⟨_, h6, hp⟩ := ob hp
  obtain ⟨v7, hv7, hp⟩ := ob hp
  refine mg_V1 (As := []) (rest := []) C0 cbX7 hM h6 rfl (w_X7_thrown hG hv7) tw_1309 tw_1310 tw_1311 tw_7 tw_1312 yk_X7_thrown ⟨⟨rfl, rfl⟩, ⟨by decide, by decide⟩, by omega, by omega⟩ rfl hl.1 (Nat.le_of_ble_eq_true rfl) dL_law_3272 rfl (fun H locs hM => ?_)
  refine lv_iload hx hb dL_law_3275 (lv_at hl 1 rfl) ?_
  refine lv_icmp_eq (tgt := 3282) hx hb dL_law_3277 (by decide) (fun c8 => ?_) (fun c8 => ?_)
  · replace hp := oT c8 hp
    refine lv_iload hx hb dL_law_3282 (lv_at hl 1 rfl) ?_
    refine lv_if_ne (tgt := 3299) hx hb dL_law_3284 (by decide) (fun c9 => ?_) (fun c9 => ?_)
    · replace hp := oF c9 hp
      refine lv_goto (tgt := 3302) hx hb dL_law_3299 (by decide) ?_
      cases hp
      refine W.widen (k := cells + 8) (n := slots + 48) (by omega) (by omega) ?_
      exact kk H locs ls hM (lv_sub hl [2, 3, 4, 5, 6, 7] rfl)
    · replace hp := oT c9 hp
      refine lv_aload_n hx hb dL_law_3287 rfl (lv_at hl 5 rfl) ?_
      refine lv_iconst (v := 0) hx hb dL_law_3288 (by decide) ?_
      obtain ⟨v10, hv10, hp⟩ := ob hp
      refine mr_lald C0 hM hv10 dL_law_3289 ?_
      refine lv_iload hx hb dL_law_3290 (lv_at hl 0 rfl) ?_
      refine lv_i2l (v := (Int32.toInt64 v4)) hx hb dL_law_3292 rfl ?_
      refine W.lcmp hx hb dL_law_3293 ?_
      refine lv_if_eq (tgt := 3299) hx hb dL_law_3294 (by decide) (fun c11 => ?_) (fun c11 => ?_)
      · replace hp := oT c11 hp
        refine lv_goto (tgt := 3302) hx hb dL_law_3299 (by decide) ?_
        cases hp
        refine W.widen (k := cells + 8) (n := slots + 48) (by omega) (by omega) ?_
        exact kk H locs ls hM (lv_sub hl [2, 3, 4, 5, 6, 7] rfl)
      · replace hp := oF c11 hp
        cases hp
  · replace hp := oF c8 hp
    cases hp
