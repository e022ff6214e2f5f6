abbrev rm_L_count : Room := { frames := 7, cells := 1, slots := 6, locals := 111 }
def p_L_count (a0 : Nat) (a1 : Int32) (a2 : Nat) (M : Mem) : Option (Int32 × Mem) :=
  (Option.bind (isC 5 M a0) fun _ =>
  (ctc (p_X6_count a0 a1 M) (fun (v2 : Int32) =>
  (Option.bind (aLs M a2 (0 : Int32) (Int32.toInt64 v2)) fun M5 =>
  some ((0 : Int32), M5)
  )
  ) fun E3 =>
  (if E3 = "java/lang/IllegalArgumentException" then
  some ((1 : Int32), M)
  else
  none
  )
  ))
theorem yk_L_count : yok yL_count 3 := by decide +kernel
set_option maxHeartbeats 4000000 in
set_option maxRecDepth 100000 in
theorem w_L_count {G : gG} (hG : GOK G) (hY : GY G) {l : Launch} (hlf : l.stackTraces = false) {a0 : Nat} {a1 : Int32} {a2 : Nat} {M : Mem} {r : Int32} {M' : Mem} (hp : p_L_count a0 a1 a2 M = some (r, M')) : CT G l yL_count (wH yL_count cL_count 4 (some FieldType.int) [(0, 9, 12, 13)]) rm_L_count [.ref a0, .int a1, .ref a2] M (some (.int r)) M' 1 6 := by
  refine CTH_of (own := RL) (maxL := 4) (ret := (some FieldType.int)) hG (by decide) rfl (Nat.le_of_ble_eq_true rfl) (fun p e s m below meth c A C0 hr hlk ht hM ls hl => ?_)
  have hl : lv_has ls 4 [(0, .ref a0), (1, .int a1), (2, .ref a2)] := hl
  generalize ([.ref a0, .int a1, .ref a2] : List Value).toArray = args at C0 ⊢
  skip
  have hYs := hY s C0.2.2.2.2.2.1.2.2
  have hx := C0.1
  have hb := C0.2.1
  have hown := C0.2.2.2.1
  have hts := C0.2.2.2.2.1
  unfold p_L_count at hp
  refine lv_aload_n hx hb dL_count_0 rfl (lv_at hl 2 rfl) ?_
  refine lv_iconst (v := 0) hx hb dL_count_1 (by decide) ?_
  refine lv_aload_n hx hb dL_count_2 rfl (lv_at hl 0 rfl) ?_
  refine lv_iload_n hx hb dL_count_3 rfl (lv_at hl 1 rfl) ?_
  obtain ⟨_, h1, hp⟩ := ob hp
  rcases ctc_at hp with ⟨E3, hv2, hp⟩ | ⟨v2, hv2, hp⟩
  · by_cases e0 : E3 = "java/lang/IllegalArgumentException"
    · replace hp := oT e0 hp
      subst e0
      refine mx_threw C0 hM (mx_runV (As := [.int a1]) (rest := [.int (0 : Int32), .ref a2]) C0 cbX6 hM h1 rfl (w_X6_count hG hY hlf hv2) tw_724 tw_725 tw_726 tw_1 tw_727 yk_X6_count (by decide) rfl hl.1 (Nat.le_of_ble_eq_true rfl) dL_count_4) (fun H locs q4 ce hM hc1 hc2 hc3 => ?_)
      refine ml_c1 C0 hYs ht (by decide) (by decide) tw_723 (by decide +kernel) hc1 hc2 hc3 ?_
      refine lv_astore_n (lv' := [(3, .ref q4), (0, .ref a0), (1, .int a1), (2, .ref a2)]) hx hb dL_count_12 rfl hl (by decide) rfl (fun ls hl => ?_)
      refine lv_iconst (v := 1) hx hb dL_count_13 (by decide) ?_
      exact mr_iret C0 hr hlk hM (Prod.mk.inj (Option.some.inj hp)).2 (Prod.mk.inj (Option.some.inj hp)).1 (by decide) (by decide) dL_count_14
    replace hp := oF e0 hp
    cases hp
  refine mx_back C0 hM (mx_runV (As := [.int a1]) (rest := [.int (0 : Int32), .ref a2]) C0 cbX6 hM h1 rfl (w_X6_count hG hY hlf hv2) tw_724 tw_725 tw_726 tw_1 tw_727 yk_X6_count (by decide) rfl hl.1 (Nat.le_of_ble_eq_true rfl) dL_count_4) (fun H locs hM => ?_)
  refine lv_i2l (v := (Int32.toInt64 v2)) hx hb dL_count_7 rfl ?_
  obtain ⟨M5, hM5, hp⟩ := ob hp
  refine mr_last C0 hM hM5 dL_count_8 (fun H locs hM => ?_)
  refine lv_goto (tgt := 15) hx hb dL_count_9 (by decide) ?_
  refine lv_iconst (v := 0) hx hb dL_count_15 (by decide) ?_
  exact mr_iret C0 hr hlk hM (Prod.mk.inj (Option.some.inj hp)).2 (Prod.mk.inj (Option.some.inj hp)).1 (by decide) (by decide) dL_count_16
abbrev rm_L_school : Room := { frames := 8, cells := 2, slots := 12, locals := 134 }
def p_L_school (a0 : Nat) (a1 : Int32) (a2 : Int32) (a3 : Nat) (M : Mem) : Option (Int32 × Mem) :=
  (Option.bind (isC 5 M a0) fun _ =>
  (ctc (p_X6_school a0 a1 a2 M) (fun (v2 : Int32) =>
  (Option.bind (aLs M a3 (0 : Int32) (Int32.toInt64 v2)) fun M5 =>
  some ((0 : Int32), M5)
  )
  ) fun E3 =>
  (if E3 = "java/lang/IndexOutOfBoundsException" then
  some ((1 : Int32), M)
  else
  (if E3 = "java/lang/IllegalArgumentException" then
  some ((2 : Int32), M)
  else
  none
  )
  )
  ))
theorem yk_L_school : yok yL_school 4 := by decide +kernel
set_option maxHeartbeats 4000000 in
set_option maxRecDepth 100000 in
theorem w_L_school {G : gG} (hG : GOK G) (hY : GY G) {l : Launch} (hlf : l.stackTraces = false) {a0 : Nat} {a1 : Int32} {a2 : Int32} {a3 : Nat} {M : Mem} {r : Int32} {M' : Mem} (hp : p_L_school a0 a1 a2 a3 M = some (r, M')) : CT G l yL_school (wH yL_school cL_school 5 (some FieldType.int) [(0, 10, 13, 19), (0, 10, 17, 13)]) rm_L_school [.ref a0, .int a1, .int a2, .ref a3] M (some (.int r)) M' 2 12 := by
  refine CTH_of (own := RL) (maxL := 5) (ret := (some FieldType.int)) hG (by decide) rfl (Nat.le_of_ble_eq_true rfl) (fun p e s m below meth c A C0 hr hlk ht hM ls hl => ?_)
  have hl : lv_has ls 5 [(0, .ref a0), (1, .int a1), (2, .int a2), (3, .ref a3)] := hl
  generalize ([.ref a0, .int a1, .int a2, .ref a3] : List Value).toArray = args at C0 ⊢
  skip
  have hYs := hY s C0.2.2.2.2.2.1.2.2
  have hx := C0.1
  have hb := C0.2.1
  have hown := C0.2.2.2.1
  have hts := C0.2.2.2.2.1
  unfold p_L_school at hp
  refine lv_aload_n hx hb dL_school_0 rfl (lv_at hl 3 rfl) ?_
  refine lv_iconst (v := 0) hx hb dL_school_1 (by decide) ?_
  refine lv_aload_n hx hb dL_school_2 rfl (lv_at hl 0 rfl) ?_
  refine lv_iload_n hx hb dL_school_3 rfl (lv_at hl 1 rfl) ?_
  refine lv_iload_n hx hb dL_school_4 rfl (lv_at hl 2 rfl) ?_
  obtain ⟨_, h1, hp⟩ := ob hp
  rcases ctc_at hp with ⟨E3, hv2, hp⟩ | ⟨v2, hv2, hp⟩
  · by_cases e0 : E3 = "java/lang/IndexOutOfBoundsException"
    · replace hp := oT e0 hp
      subst e0
      refine mx_threw C0 hM (mx_runV (As := [.int a1, .int a2]) (rest := [.int (0 : Int32), .ref a3]) C0 cbX6 hM h1 rfl (w_X6_school hG hY hlf hv2) tw_804 tw_805 tw_806 tw_1 tw_807 yk_X6_school (by decide) rfl hl.1 (Nat.le_of_ble_eq_true rfl) dL_school_5) (fun H locs q4 ce hM hc1 hc2 hc3 => ?_)
      refine ml_c1 C0 hYs ht (by decide) (by decide) tw_803 (by decide +kernel) hc1 hc2 hc3 ?_
      refine lv_astore (lv' := [(4, .ref q4), (0, .ref a0), (1, .int a1), (2, .int a2), (3, .ref a3)]) hx hb dL_school_13 hl (by decide) rfl (fun ls hl => ?_)
      refine lv_iconst (v := 1) hx hb dL_school_15 (by decide) ?_
      exact mr_iret C0 hr hlk hM (Prod.mk.inj (Option.some.inj hp)).2 (Prod.mk.inj (Option.some.inj hp)).1 (by decide) (by decide) dL_school_16
    replace hp := oF e0 hp
    by_cases e1 : E3 = "java/lang/IllegalArgumentException"
    · replace hp := oT e1 hp
      subst e1
      refine mx_threw C0 hM (mx_runV (As := [.int a1, .int a2]) (rest := [.int (0 : Int32), .ref a3]) C0 cbX6 hM h1 rfl (w_X6_school hG hY hlf hv2) tw_804 tw_805 tw_806 tw_1 tw_807 yk_X6_school (by decide) rfl hl.1 (Nat.le_of_ble_eq_true rfl) dL_school_5) (fun H locs q4 ce hM hc1 hc2 hc3 => ?_)
      refine ml_c2 C0 hYs ht (by decide) (by decide) (by decide) tw_803 (by decide +kernel) tw_723 (by decide +kernel) hc1 hc2 hc3 ?_
      refine lv_astore (lv' := [(4, .ref q4), (0, .ref a0), (1, .int a1), (2, .int a2), (3, .ref a3)]) hx hb dL_school_17 hl (by decide) rfl (fun ls hl => ?_)
      refine lv_iconst (v := 2) hx hb dL_school_19 (by decide) ?_
      exact mr_iret C0 hr hlk hM (Prod.mk.inj (Option.some.inj hp)).2 (Prod.mk.inj (Option.some.inj hp)).1 (by decide) (by decide) dL_school_20
    replace hp := oF e1 hp
    cases hp
  refine mx_back C0 hM (mx_runV (As := [.int a1, .int a2]) (rest := [.int (0 : Int32), .ref a3]) C0 cbX6 hM h1 rfl (w_X6_school hG hY hlf hv2) tw_804 tw_805 tw_806 tw_1 tw_807 yk_X6_school (by decide) rfl hl.1 (Nat.le_of_ble_eq_true rfl) dL_school_5) (fun H locs hM => ?_)
  refine lv_i2l (v := (Int32.toInt64 v2)) hx hb dL_school_8 rfl ?_
  obtain ⟨M5, hM5, hp⟩ := ob hp
  refine mr_last C0 hM hM5 dL_school_9 (fun H locs hM => ?_)
  refine lv_goto (tgt := 21) hx hb dL_school_10 (by decide) ?_
  refine lv_iconst (v := 0) hx hb dL_school_21 (by decide) ?_
  exact mr_iret C0 hr hlk hM (Prod.mk.inj (Option.some.inj hp)).2 (Prod.mk.inj (Option.some.inj hp)).1 (by decide) (by decide) dL_school_22
abbrev rm_L_rule : Room := { frames := 8, cells := 2, slots := 12, locals := 134 }
def p_L_rule (a0 : Nat) (a1 : Int32) (a2 : Int32) (a3 : Nat) (M : Mem) : Option (Int32 × Mem) :=
  (Option.bind (isC 5 M a0) fun _ =>
  (ctc (p_X6_rule a0 a1 a2 M) (fun (v2 : Int32) =>
  (Option.bind (aLs M a3 (0 : Int32) (Int32.toInt64 v2)) fun M5 =>
  some ((0 : Int32), M5)
  )
  ) fun E3 =>
  (if E3 = "java/lang/IndexOutOfBoundsException" then
  some ((1 : Int32), M)
  else
  (if E3 = "java/util/NoSuchElementException" then
  some ((2 : Int32), M)
  else
  none
  )
  )
  ))
theorem yk_L_rule : yok yL_rule 4 := by decide +kernel
set_option maxHeartbeats 4000000 in
set_option maxRecDepth 100000 in
theorem w_L_rule {G : gG} (hG : GOK G) (hY : GY G) {l : Launch} (hlf : l.stackTraces = false) {a0 : Nat} {a1 : Int32} {a2 : Int32} {a3 : Nat} {M : Mem} {r : Int32} {M' : Mem} (hp : p_L_rule a0 a1 a2 a3 M = some (r, M')) : CT G l yL_rule (wH yL_rule cL_rule 5 (some FieldType.int) [(0, 10, 13, 19), (0, 10, 17, 24)]) rm_L_rule [.ref a0, .int a1, .int a2, .ref a3] M (some (.int r)) M' 2 12 := by
  refine CTH_of (own := RL) (maxL := 5) (ret := (some FieldType.int)) hG (by decide) rfl (Nat.le_of_ble_eq_true rfl) (fun p e s m below meth c A C0 hr hlk ht hM ls hl => ?_)
  have hl : lv_has ls 5 [(0, .ref a0), (1, .int a1), (2, .int a2), (3, .ref a3)] := hl
  generalize ([.ref a0, .int a1, .int a2, .ref a3] : List Value).toArray = args at C0 ⊢
  skip
  have hYs := hY s C0.2.2.2.2.2.1.2.2
  have hx := C0.1
  have hb := C0.2.1
  have hown := C0.2.2.2.1
  have hts := C0.2.2.2.2.1
  unfold p_L_rule at hp
  refine lv_aload_n hx hb dL_rule_0 rfl (lv_at hl 3 rfl) ?_
  refine lv_iconst (v := 0) hx hb dL_rule_1 (by decide) ?_
  refine lv_aload_n hx hb dL_rule_2 rfl (lv_at hl 0 rfl) ?_
  refine lv_iload_n hx hb dL_rule_3 rfl (lv_at hl 1 rfl) ?_
  refine lv_iload_n hx hb dL_rule_4 rfl (lv_at hl 2 rfl) ?_
  obtain ⟨_, h1, hp⟩ := ob hp
  rcases ctc_at hp with ⟨E3, hv2, hp⟩ | ⟨v2, hv2, hp⟩
  · by_cases e0 : E3 = "java/lang/IndexOutOfBoundsException"
    · replace hp := oT e0 hp
      subst e0
      refine mx_threw C0 hM (mx_runV (As := [.int a1, .int a2]) (rest := [.int (0 : Int32), .ref a3]) C0 cbX6 hM h1 rfl (w_X6_rule hG hY hlf hv2) tw_838 tw_839 tw_840 tw_1 tw_841 yk_X6_rule (by decide) rfl hl.1 (Nat.le_of_ble_eq_true rfl) dL_rule_5) (fun H locs q4 ce hM hc1 hc2 hc3 => ?_)
      refine ml_c1 C0 hYs ht (by decide) (by decide) tw_803 (by decide +kernel) hc1 hc2 hc3 ?_
      refine lv_astore (lv' := [(4, .ref q4), (0, .ref a0), (1, .int a1), (2, .int a2), (3, .ref a3)]) hx hb dL_rule_13 hl (by decide) rfl (fun ls hl => ?_)
      refine lv_iconst (v := 1) hx hb dL_rule_15 (by decide) ?_
      exact mr_iret C0 hr hlk hM (Prod.mk.inj (Option.some.inj hp)).2 (Prod.mk.inj (Option.some.inj hp)).1 (by decide) (by decide) dL_rule_16
    replace hp := oF e0 hp
    by_cases e1 : E3 = "java/util/NoSuchElementException"
    · replace hp := oT e1 hp
      subst e1
      refine mx_threw C0 hM (mx_runV (As := [.int a1, .int a2]) (rest := [.int (0 : Int32), .ref a3]) C0 cbX6 hM h1 rfl (w_X6_rule hG hY hlf hv2) tw_838 tw_839 tw_840 tw_1 tw_841 yk_X6_rule (by decide) rfl hl.1 (Nat.le_of_ble_eq_true rfl) dL_rule_5) (fun H locs q4 ce hM hc1 hc2 hc3 => ?_)
      refine ml_c2 C0 hYs ht (by decide) (by decide) (by decide) tw_803 (by decide +kernel) tw_837 (by decide +kernel) hc1 hc2 hc3 ?_
      refine lv_astore (lv' := [(4, .ref q4), (0, .ref a0), (1, .int a1), (2, .int a2), (3, .ref a3)]) hx hb dL_rule_17 hl (by decide) rfl (fun ls hl => ?_)
      refine lv_iconst (v := 2) hx hb dL_rule_19 (by decide) ?_
      exact mr_iret C0 hr hlk hM (Prod.mk.inj (Option.some.inj hp)).2 (Prod.mk.inj (Option.some.inj hp)).1 (by decide) (by decide) dL_rule_20
    replace hp := oF e1 hp
    cases hp
  refine mx_back C0 hM (mx_runV (As := [.int a1, .int a2]) (rest := [.int (0 : Int32), .ref a3]) C0 cbX6 hM h1 rfl (w_X6_rule hG hY hlf hv2) tw_838 tw_839 tw_840 tw_1 tw_841 yk_X6_rule (by decide) rfl hl.1 (Nat.le_of_ble_eq_true rfl) dL_rule_5) (fun H locs hM => ?_)
  refine lv_i2l (v := (Int32.toInt64 v2)) hx hb dL_rule_8 rfl ?_
  obtain ⟨M5, hM5, hp⟩ := ob hp
  refine mr_last C0 hM hM5 dL_rule_9 (fun H locs hM => ?_)
  refine lv_goto (tgt := 21) hx hb dL_rule_10 (by decide) ?_
  refine lv_iconst (v := 0) hx hb dL_rule_21 (by decide) ?_
  exact mr_iret C0 hr hlk hM (Prod.mk.inj (Option.some.inj hp)).2 (Prod.mk.inj (Option.some.inj hp)).1 (by decide) (by decide) dL_rule_22
abbrev rm_L_child : Room := { frames := 8, cells := 2, slots := 12, locals := 133 }
def p_L_child (a0 : Nat) (a1 : Int32) (a2 : Int32) (a3 : Nat) (M : Mem) : Option (Int32 × Mem) :=
  (Option.bind (isC 5 M a0) fun _ =>
  (ctc (p_X6_child a0 a1 a2 M) (fun (v2 : Int32) =>
  (Option.bind (aLs M a3 (0 : Int32) (Int32.toInt64 v2)) fun M5 =>
  some ((0 : Int32), M5)
  )
  ) fun E3 =>
  (if E3 = "java/lang/IndexOutOfBoundsException" then
  some ((1 : Int32), M)
  else
  (if E3 = "java/lang/IllegalArgumentException" then
  some ((2 : Int32), M)
  else
  none
  )
  )
  ))
theorem yk_L_child : yok yL_child 4 := by decide +kernel
set_option maxHeartbeats 4000000 in
set_option maxRecDepth 100000 in
theorem w_L_child {G : gG} (hG : GOK G) (hY : GY G) {l : Launch} (hlf : l.stackTraces = false) {a0 : Nat} {a1 : Int32} {a2 : Int32} {a3 : Nat} {M : Mem} {r : Int32} {M' : Mem} (hp : p_L_child a0 a1 a2 a3 M = some (r, M')) : CT G l yL_child (wH yL_child cL_child 5 (some FieldType.int) [(0, 10, 13, 19), (0, 10, 17, 13)]) rm_L_child [.ref a0, .int a1, .int a2, .ref a3] M (some (.int r)) M' 2 12 := by
  refine CTH_of (own := RL) (maxL := 5) (ret := (some FieldType.int)) hG (by decide) rfl (Nat.le_of_ble_eq_true rfl) (fun p e s m below meth c A C0 hr hlk ht hM ls hl => ?_)
  have hl : lv_has ls 5 [(0, .ref a0), (1, .int a1), (2, .int a2), (3, .ref a3)] := hl
  generalize ([.ref a0, .int a1, .int a2, .ref a3] : List Value).toArray = args at C0 ⊢
  skip
  have hYs := hY s C0.2.2.2.2.2.1.2.2
  have hx := C0.1
  have hb := C0.2.1
  have hown := C0.2.2.2.1
  have hts := C0.2.2.2.2.1
  unfold p_L_child at hp
  refine lv_aload_n hx hb dL_child_0 rfl (lv_at hl 3 rfl) ?_
  refine lv_iconst (v := 0) hx hb dL_child_1 (by decide) ?_
  refine lv_aload_n hx hb dL_child_2 rfl (lv_at hl 0 rfl) ?_
  refine lv_iload_n hx hb dL_child_3 rfl (lv_at hl 1 rfl) ?_
  refine lv_iload_n hx hb dL_child_4 rfl (lv_at hl 2 rfl) ?_
  obtain ⟨_, h1, hp⟩ := ob hp
  rcases ctc_at hp with ⟨E3, hv2, hp⟩ | ⟨v2, hv2, hp⟩
  · by_cases e0 : E3 = "java/lang/IndexOutOfBoundsException"
    · replace hp := oT e0 hp
      subst e0
      refine mx_threw C0 hM (mx_runV (As := [.int a1, .int a2]) (rest := [.int (0 : Int32), .ref a3]) C0 cbX6 hM h1 rfl (w_X6_child hG hY hlf hv2) tw_861 tw_862 tw_863 tw_1 tw_864 yk_X6_child (by decide) rfl hl.1 (Nat.le_of_ble_eq_true rfl) dL_child_5) (fun H locs q4 ce hM hc1 hc2 hc3 => ?_)
      refine ml_c1 C0 hYs ht (by decide) (by decide) tw_803 (by decide +kernel) hc1 hc2 hc3 ?_
      refine lv_astore (lv' := [(4, .ref q4), (0, .ref a0), (1, .int a1), (2, .int a2), (3, .ref a3)]) hx hb dL_child_13 hl (by decide) rfl (fun ls hl => ?_)
      refine lv_iconst (v := 1) hx hb dL_child_15 (by decide) ?_
      exact mr_iret C0 hr hlk hM (Prod.mk.inj (Option.some.inj hp)).2 (Prod.mk.inj (Option.some.inj hp)).1 (by decide) (by decide) dL_child_16
    replace hp := oF e0 hp
    by_cases e1 : E3 = "java/lang/IllegalArgumentException"
    · replace hp := oT e1 hp
      subst e1
      refine mx_threw C0 hM (mx_runV (As := [.int a1, .int a2]) (rest := [.int (0 : Int32), .ref a3]) C0 cbX6 hM h1 rfl (w_X6_child hG hY hlf hv2) tw_861 tw_862 tw_863 tw_1 tw_864 yk_X6_child (by decide) rfl hl.1 (Nat.le_of_ble_eq_true rfl) dL_child_5) (fun H locs q4 ce hM hc1 hc2 hc3 => ?_)
      refine ml_c2 C0 hYs ht (by decide) (by decide) (by decide) tw_803 (by decide +kernel) tw_723 (by decide +kernel) hc1 hc2 hc3 ?_
      refine lv_astore (lv' := [(4, .ref q4), (0, .ref a0), (1, .int a1), (2, .int a2), (3, .ref a3)]) hx hb dL_child_17 hl (by decide) rfl (fun ls hl => ?_)
      refine lv_iconst (v := 2) hx hb dL_child_19 (by decide) ?_
      exact mr_iret C0 hr hlk hM (Prod.mk.inj (Option.some.inj hp)).2 (Prod.mk.inj (Option.some.inj hp)).1 (by decide) (by decide) dL_child_20
    replace hp := oF e1 hp
    cases hp
  refine mx_back C0 hM (mx_runV (As := [.int a1, .int a2]) (rest := [.int (0 : Int32), .ref a3]) C0 cbX6 hM h1 rfl (w_X6_child hG hY hlf hv2) tw_861 tw_862 tw_863 tw_1 tw_864 yk_X6_child (by decide) rfl hl.1 (Nat.le_of_ble_eq_true rfl) dL_child_5) (fun H locs hM => ?_)
  refine lv_i2l (v := (Int32.toInt64 v2)) hx hb dL_child_8 rfl ?_
  obtain ⟨M5, hM5, hp⟩ := ob hp
  refine mr_last C0 hM hM5 dL_child_9 (fun H locs hM => ?_)
  refine lv_goto (tgt := 21) hx hb dL_child_10 (by decide) ?_
  refine lv_iconst (v := 0) hx hb dL_child_21 (by decide) ?_
  exact mr_iret C0 hr hlk hM (Prod.mk.inj (Option.some.inj hp)).2 (Prod.mk.inj (Option.some.inj hp)).1 (by decide) (by decide) dL_child_22
abbrev rm_L_preference : Room := { frames := 8, cells := 2, slots := 12, locals := 134 }
def p_L_preference (a0 : Nat) (a1 : Int32) (a2 : Int32) (a3 : Nat) (M : Mem) : Option (Int32 × Mem) :=
  (Option.bind (isC 5 M a0) fun _ =>
  (ctc (p_X6_preference a0 a1 a2 M) (fun (v2 : Int32) =>
  (Option.bind (aLs M a3 (0 : Int32) (Int32.toInt64 v2)) fun M5 =>
  some ((0 : Int32), M5)
  )
  ) fun E3 =>
  (if E3 = "java/lang/IndexOutOfBoundsException" then
  some ((1 : Int32), M)
  else
  (if E3 = "java/util/NoSuchElementException" then
  some ((2 : Int32), M)
  else
  none
  )
  )
  ))
theorem yk_L_preference : yok yL_preference 4 := by decide +kernel
set_option maxHeartbeats 4000000 in
set_option maxRecDepth 100000 in
theorem w_L_preference {G : gG} (hG : GOK G) (hY : GY G) {l : Launch} (hlf : l.stackTraces = false) {a0 : Nat} {a1 : Int32} {a2 : Int32} {a3 : Nat} {M : Mem} {r : Int32} {M' : Mem} (hp : p_L_preference a0 a1 a2 a3 M = some (r, M')) : CT G l yL_preference (wH yL_preference cL_preference 5 (some FieldType.int) [(0, 10, 13, 19), (0, 10, 17, 24)]) rm_L_preference [.ref a0, .int a1, .int a2, .ref a3] M (some (.int r)) M' 2 12 := by
  refine CTH_of (own := RL) (maxL := 5) (ret := (some FieldType.int)) hG (by decide) rfl (Nat.le_of_ble_eq_true rfl) (fun p e s m below meth c A C0 hr hlk ht hM ls hl => ?_)
  have hl : lv_has ls 5 [(0, .ref a0), (1, .int a1), (2, .int a2), (3, .ref a3)] := hl
  generalize ([.ref a0, .int a1, .int a2, .ref a3] : List Value).toArray = args at C0 ⊢
  skip
  have hYs := hY s C0.2.2.2.2.2.1.2.2
  have hx := C0.1
  have hb := C0.2.1
  have hown := C0.2.2.2.1
  have hts := C0.2.2.2.2.1
  unfold p_L_preference at hp
  refine lv_aload_n hx hb dL_preference_0 rfl (lv_at hl 3 rfl) ?_
  refine lv_iconst (v := 0) hx hb dL_preference_1 (by decide) ?_
  refine lv_aload_n hx hb dL_preference_2 rfl (lv_at hl 0 rfl) ?_
  refine lv_iload_n hx hb dL_preference_3 rfl (lv_at hl 1 rfl) ?_
  refine lv_iload_n hx hb dL_preference_4 rfl (lv_at hl 2 rfl) ?_
  obtain ⟨_, h1, hp⟩ := ob hp
  rcases ctc_at hp with ⟨E3, hv2, hp⟩ | ⟨v2, hv2, hp⟩
  · by_cases e0 : E3 = "java/lang/IndexOutOfBoundsException"
    · replace hp := oT e0 hp
      subst e0
      refine mx_threw C0 hM (mx_runV (As := [.int a1, .int a2]) (rest := [.int (0 : Int32), .ref a3]) C0 cbX6 hM h1 rfl (w_X6_preference hG hY hlf hv2) tw_875 tw_876 tw_877 tw_1 tw_878 yk_X6_preference (by decide) rfl hl.1 (Nat.le_of_ble_eq_true rfl) dL_preference_5) (fun H locs q4 ce hM hc1 hc2 hc3 => ?_)
      refine ml_c1 C0 hYs ht (by decide) (by decide) tw_803 (by decide +kernel) hc1 hc2 hc3 ?_
      refine lv_astore (lv' := [(4, .ref q4), (0, .ref a0), (1, .int a1), (2, .int a2), (3, .ref a3)]) hx hb dL_preference_13 hl (by decide) rfl (fun ls hl => ?_)
      refine lv_iconst (v := 1) hx hb dL_preference_15 (by decide) ?_
      exact mr_iret C0 hr hlk hM (Prod.mk.inj (Option.some.inj hp)).2 (Prod.mk.inj (Option.some.inj hp)).1 (by decide) (by decide) dL_preference_16
    replace hp := oF e0 hp
    by_cases e1 : E3 = "java/util/NoSuchElementException"
    · replace hp := oT e1 hp
      subst e1
      refine mx_threw C0 hM (mx_runV (As := [.int a1, .int a2]) (rest := [.int (0 : Int32), .ref a3]) C0 cbX6 hM h1 rfl (w_X6_preference hG hY hlf hv2) tw_875 tw_876 tw_877 tw_1 tw_878 yk_X6_preference (by decide) rfl hl.1 (Nat.le_of_ble_eq_true rfl) dL_preference_5) (fun H locs q4 ce hM hc1 hc2 hc3 => ?_)
      refine ml_c2 C0 hYs ht (by decide) (by decide) (by decide) tw_803 (by decide +kernel) tw_837 (by decide +kernel) hc1 hc2 hc3 ?_
      refine lv_astore (lv' := [(4, .ref q4), (0, .ref a0), (1, .int a1), (2, .int a2), (3, .ref a3)]) hx hb dL_preference_17 hl (by decide) rfl (fun ls hl => ?_)
      refine lv_iconst (v := 2) hx hb dL_preference_19 (by decide) ?_
      exact mr_iret C0 hr hlk hM (Prod.mk.inj (Option.some.inj hp)).2 (Prod.mk.inj (Option.some.inj hp)).1 (by decide) (by decide) dL_preference_20
    replace hp := oF e1 hp
    cases hp
  refine mx_back C0 hM (mx_runV (As := [.int a1, .int a2]) (rest := [.int (0 : Int32), .ref a3]) C0 cbX6 hM h1 rfl (w_X6_preference hG hY hlf hv2) tw_875 tw_876 tw_877 tw_1 tw_878 yk_X6_preference (by decide) rfl hl.1 (Nat.le_of_ble_eq_true rfl) dL_preference_5) (fun H locs hM => ?_)
  refine lv_i2l (v := (Int32.toInt64 v2)) hx hb dL_preference_8 rfl ?_
  obtain ⟨M5, hM5, hp⟩ := ob hp
  refine mr_last C0 hM hM5 dL_preference_9 (fun H locs hM => ?_)
  refine lv_goto (tgt := 21) hx hb dL_preference_10 (by decide) ?_
  refine lv_iconst (v := 0) hx hb dL_preference_21 (by decide) ?_
  exact mr_iret C0 hr hlk hM (Prod.mk.inj (Option.some.inj hp)).2 (Prod.mk.inj (Option.some.inj hp)).1 (by decide) (by decide) dL_preference_22
abbrev rm_L_placeOf : Room := { frames := 8, cells := 1, slots := 6, locals := 132 }
def p_L_placeOf (a0 : Nat) (a1 : Int32) (a2 : Nat) (M : Mem) : Option (Int32 × Mem) :=
  (Option.bind (isC 5 M a0) fun _ =>
  (ctc (p_X6_placeOf a0 a1 M) (fun (v2 : Int32) =>
  (Option.bind (aLs M a2 (0 : Int32) (Int32.toInt64 v2)) fun M5 =>
  some ((0 : Int32), M5)
  )
  ) fun E3 =>
  (if E3 = "java/lang/IndexOutOfBoundsException" then
  some ((1 : Int32), M)
  else
  none
  )
  ))
theorem yk_L_placeOf : yok yL_placeOf 3 := by decide +kernel
set_option maxHeartbeats 4000000 in
set_option maxRecDepth 100000 in
theorem w_L_placeOf {G : gG} (hG : GOK G) (hY : GY G) {l : Launch} (hlf : l.stackTraces = false) {a0 : Nat} {a1 : Int32} {a2 : Nat} {M : Mem} {r : Int32} {M' : Mem} (hp : p_L_placeOf a0 a1 a2 M = some (r, M')) : CT G l yL_placeOf (wH yL_placeOf cL_placeOf 4 (some FieldType.int) [(0, 9, 12, 19)]) rm_L_placeOf [.ref a0, .int a1, .ref a2] M (some (.int r)) M' 1 6 := by
  refine CTH_of (own := RL) (maxL := 4) (ret := (some FieldType.int)) hG (by decide) rfl (Nat.le_of_ble_eq_true rfl) (fun p e s m below meth c A C0 hr hlk ht hM ls hl => ?_)
  have hl : lv_has ls 4 [(0, .ref a0), (1, .int a1), (2, .ref a2)] := hl
  generalize ([.ref a0, .int a1, .ref a2] : List Value).toArray = args at C0 ⊢
  skip
  have hYs := hY s C0.2.2.2.2.2.1.2.2
  have hx := C0.1
  have hb := C0.2.1
  have hown := C0.2.2.2.1
  have hts := C0.2.2.2.2.1
  unfold p_L_placeOf at hp
  refine lv_aload_n hx hb dL_placeOf_0 rfl (lv_at hl 2 rfl) ?_
  refine lv_iconst (v := 0) hx hb dL_placeOf_1 (by decide) ?_
  refine lv_aload_n hx hb dL_placeOf_2 rfl (lv_at hl 0 rfl) ?_
  refine lv_iload_n hx hb dL_placeOf_3 rfl (lv_at hl 1 rfl) ?_
  obtain ⟨_, h1, hp⟩ := ob hp
  rcases ctc_at hp with ⟨E3, hv2, hp⟩ | ⟨v2, hv2, hp⟩
  · by_cases e0 : E3 = "java/lang/IndexOutOfBoundsException"
    · replace hp := oT e0 hp
      subst e0
      refine mx_threw C0 hM (mx_runV (As := [.int a1]) (rest := [.int (0 : Int32), .ref a2]) C0 cbX6 hM h1 rfl (w_X6_placeOf hG hY hlf hv2) tw_883 tw_884 tw_885 tw_1 tw_886 yk_X6_placeOf (by decide) rfl hl.1 (Nat.le_of_ble_eq_true rfl) dL_placeOf_4) (fun H locs q4 ce hM hc1 hc2 hc3 => ?_)
      refine ml_c1 C0 hYs ht (by decide) (by decide) tw_803 (by decide +kernel) hc1 hc2 hc3 ?_
      refine lv_astore_n (lv' := [(3, .ref q4), (0, .ref a0), (1, .int a1), (2, .ref a2)]) hx hb dL_placeOf_12 rfl hl (by decide) rfl (fun ls hl => ?_)
      refine lv_iconst (v := 1) hx hb dL_placeOf_13 (by decide) ?_
      exact mr_iret C0 hr hlk hM (Prod.mk.inj (Option.some.inj hp)).2 (Prod.mk.inj (Option.some.inj hp)).1 (by decide) (by decide) dL_placeOf_14
    replace hp := oF e0 hp
    cases hp
  refine mx_back C0 hM (mx_runV (As := [.int a1]) (rest := [.int (0 : Int32), .ref a2]) C0 cbX6 hM h1 rfl (w_X6_placeOf hG hY hlf hv2) tw_883 tw_884 tw_885 tw_1 tw_886 yk_X6_placeOf (by decide) rfl hl.1 (Nat.le_of_ble_eq_true rfl) dL_placeOf_4) (fun H locs hM => ?_)
  refine lv_i2l (v := (Int32.toInt64 v2)) hx hb dL_placeOf_7 rfl ?_
  obtain ⟨M5, hM5, hp⟩ := ob hp
  refine mr_last C0 hM hM5 dL_placeOf_8 (fun H locs hM => ?_)
  refine lv_goto (tgt := 15) hx hb dL_placeOf_9 (by decide) ?_
  refine lv_iconst (v := 0) hx hb dL_placeOf_15 (by decide) ?_
  exact mr_iret C0 hr hlk hM (Prod.mk.inj (Option.some.inj hp)).2 (Prod.mk.inj (Option.some.inj hp)).1 (by decide) (by decide) dL_placeOf_16
abbrev rm_L_gotPreference : Room := { frames := 8, cells := 1, slots := 6, locals := 132 }
def p_L_gotPreference (a0 : Nat) (a1 : Int32) (a2 : Nat) (M : Mem) : Option (Int32 × Mem) :=
  (Option.bind (isC 5 M a0) fun _ =>
  (ctc (p_X6_gotPreference a0 a1 M) (fun (v2 : Int32) =>
  (Option.bind (aLs M a2 (0 : Int32) (Int32.toInt64 v2)) fun M5 =>
  some ((0 : Int32), M5)
  )
  ) fun E3 =>
  (if E3 = "java/lang/IndexOutOfBoundsException" then
  some ((1 : Int32), M)
  else
  none
  )
  ))
theorem yk_L_gotPreference : yok yL_gotPreference 3 := by decide +kernel
set_option maxHeartbeats 4000000 in
set_option maxRecDepth 100000 in
theorem w_L_gotPreference {G : gG} (hG : GOK G) (hY : GY G) {l : Launch} (hlf : l.stackTraces = false) {a0 : Nat} {a1 : Int32} {a2 : Nat} {M : Mem} {r : Int32} {M' : Mem} (hp : p_L_gotPreference a0 a1 a2 M = some (r, M')) : CT G l yL_gotPreference (wH yL_gotPreference cL_gotPreference 4 (some FieldType.int) [(0, 9, 12, 19)]) rm_L_gotPreference [.ref a0, .int a1, .ref a2] M (some (.int r)) M' 1 6 := by
  refine CTH_of (own := RL) (maxL := 4) (ret := (some FieldType.int)) hG (by decide) rfl (Nat.le_of_ble_eq_true rfl) (fun p e s m below meth c A C0 hr hlk ht hM ls hl => ?_)
  have hl : lv_has ls 4 [(0, .ref a0), (1, .int a1), (2, .ref a2)] := hl
  generalize ([.ref a0, .int a1, .ref a2] : List Value).toArray = args at C0 ⊢
  skip
  have hYs := hY s C0.2.2.2.2.2.1.2.2
  have hx := C0.1
  have hb := C0.2.1
  have hown := C0.2.2.2.1
  have hts := C0.2.2.2.2.1
  unfold p_L_gotPreference at hp
  refine lv_aload_n hx hb dL_gotPreference_0 rfl (lv_at hl 2 rfl) ?_
  refine lv_iconst (v := 0) hx hb dL_gotPreference_1 (by decide) ?_
  refine lv_aload_n hx hb dL_gotPreference_2 rfl (lv_at hl 0 rfl) ?_
  refine lv_iload_n hx hb dL_gotPreference_3 rfl (lv_at hl 1 rfl) ?_
  obtain ⟨_, h1, hp⟩ := ob hp
  rcases ctc_at hp with ⟨E3, hv2, hp⟩ | ⟨v2, hv2, hp⟩
  · by_cases e0 : E3 = "java/lang/IndexOutOfBoundsException"
    · replace hp := oT e0 hp
      subst e0
      refine mx_threw C0 hM (mx_runV (As := [.int a1]) (rest := [.int (0 : Int32), .ref a2]) C0 cbX6 hM h1 rfl (w_X6_gotPreference hG hY hlf hv2) tw_890 tw_891 tw_892 tw_1 tw_893 yk_X6_gotPreference (by decide) rfl hl.1 (Nat.le_of_ble_eq_true rfl) dL_gotPreference_4) (fun H locs q4 ce hM hc1 hc2 hc3 => ?_)
      refine ml_c1 C0 hYs ht (by decide) (by decide) tw_803 (by decide +kernel) hc1 hc2 hc3 ?_
      refine lv_astore_n (lv' := [(3, .ref q4), (0, .ref a0), (1, .int a1), (2, .ref a2)]) hx hb dL_gotPreference_12 rfl hl (by decide) rfl (fun ls hl => ?_)
      refine lv_iconst (v := 1) hx hb dL_gotPreference_13 (by decide) ?_
      exact mr_iret C0 hr hlk hM (Prod.mk.inj (Option.some.inj hp)).2 (Prod.mk.inj (Option.some.inj hp)).1 (by decide) (by decide) dL_gotPreference_14
    replace hp := oF e0 hp
    cases hp
  refine mx_back C0 hM (mx_runV (As := [.int a1]) (rest := [.int (0 : Int32), .ref a2]) C0 cbX6 hM h1 rfl (w_X6_gotPreference hG hY hlf hv2) tw_890 tw_891 tw_892 tw_1 tw_893 yk_X6_gotPreference (by decide) rfl hl.1 (Nat.le_of_ble_eq_true rfl) dL_gotPreference_4) (fun H locs hM => ?_)
  refine lv_i2l (v := (Int32.toInt64 v2)) hx hb dL_gotPreference_7 rfl ?_
  obtain ⟨M5, hM5, hp⟩ := ob hp
  refine mr_last C0 hM hM5 dL_gotPreference_8 (fun H locs hM => ?_)
  refine lv_goto (tgt := 15) hx hb dL_gotPreference_9 (by decide) ?_
  refine lv_iconst (v := 0) hx hb dL_gotPreference_15 (by decide) ?_
  exact mr_iret C0 hr hlk hM (Prod.mk.inj (Option.some.inj hp)).2 (Prod.mk.inj (Option.some.inj hp)).1 (by decide) (by decide) dL_gotPreference_16
abbrev rm_L_meets : Room := { frames := 8, cells := 3, slots := 18, locals := 134 }
def p_L_meets (a0 : Nat) (a1 : Int32) (a2 : Int32) (a3 : Int32) (a4 : Nat) (M : Mem) : Option (Int32 × Mem) :=
  (Option.bind (isC 5 M a0) fun _ =>
  (ctc (p_X6_meets a0 a1 a2 a3 M) (fun (v2 : Int32) =>
  (jn (fun (s5 : Int64) =>
   (Option.bind (aLs M a4 (0 : Int32) s5) fun M7 =>
   some ((0 : Int32), M7)
   )
  ) fun k6 =>
  (if v2 = 0 then
   (k6 (0 : Int64))
  else
   (k6 (1 : Int64))
  )
  )
  ) fun E3 =>
  (if E3 = "java/lang/IndexOutOfBoundsException" then
  some ((1 : Int32), M)
  else
  (if E3 = "java/lang/IllegalArgumentException" then
  some ((2 : Int32), M)
  else
  none
  )
  )
  ))
theorem yk_L_meets : yok yL_meets 5 := by decide +kernel
set_option maxHeartbeats 4000000 in
set_option maxRecDepth 100000 in
theorem w_L_meets {G : gG} (hG : GOK G) (hY : GY G) {l : Launch} (hlf : l.stackTraces = false) {a0 : Nat} {a1 : Int32} {a2 : Int32} {a3 : Int32} {a4 : Nat} {M : Mem} {r : Int32} {M' : Mem} (hp : p_L_meets a0 a1 a2 a3 a4 M = some (r, M')) : CT G l yL_meets (wH yL_meets cL_meets 6 (some FieldType.int) [(0, 19, 22, 19), (0, 19, 26, 13)]) rm_L_meets [.ref a0, .int a1, .int a2, .int a3, .ref a4] M (some (.int r)) M' 3 18 := by
  refine CTH_of (own := RL) (maxL := 6) (ret := (some FieldType.int)) hG (by decide) rfl (Nat.le_of_ble_eq_true rfl) (fun p e s m below meth c A C0 hr hlk ht hM ls hl => ?_)
  have hl : lv_has ls 6 [(0, .ref a0), (1, .int a1), (2, .int a2), (3, .int a3), (4, .ref a4)] := hl
  generalize ([.ref a0, .int a1, .int a2, .int a3, .ref a4] : List Value).toArray = args at C0 ⊢
  skip
  have hYs := hY s C0.2.2.2.2.2.1.2.2
  have hx := C0.1
  have hb := C0.2.1
  have hown := C0.2.2.2.1
  have hts := C0.2.2.2.2.1
  unfold p_L_meets at hp
  refine lv_aload hx hb dL_meets_0 (lv_at hl 4 rfl) ?_
  refine lv_iconst (v := 0) hx hb dL_meets_2 (by decide) ?_
  refine lv_aload_n hx hb dL_meets_3 rfl (lv_at hl 0 rfl) ?_
  refine lv_iload_n hx hb dL_meets_4 rfl (lv_at hl 1 rfl) ?_
  refine lv_iload_n hx hb dL_meets_5 rfl (lv_at hl 2 rfl) ?_
  refine lv_iload_n hx hb dL_meets_6 rfl (lv_at hl 3 rfl) ?_
  obtain ⟨_, h1, hp⟩ := ob hp
  rcases ctc_at hp with ⟨E3, hv2, hp⟩ | ⟨v2, hv2, hp⟩
  · by_cases e0 : E3 = "java/lang/IndexOutOfBoundsException"
    · replace hp := oT e0 hp
      subst e0
      refine mx_threw C0 hM (mx_runV (As := [.int a1, .int a2, .int a3]) (rest := [.int (0 : Int32), .ref a4]) C0 cbX6 hM h1 rfl (w_X6_meets hG hY hlf hv2) tw_897 tw_898 tw_899 tw_1 tw_900 yk_X6_meets (by decide) rfl hl.1 (Nat.le_of_ble_eq_true rfl) dL_meets_7) (fun H locs q4 ce hM hc1 hc2 hc3 => ?_)
      refine ml_c1 C0 hYs ht (by decide) (by decide) tw_803 (by decide +kernel) hc1 hc2 hc3 ?_
      refine lv_astore (lv' := [(5, .ref q4), (0, .ref a0), (1, .int a1), (2, .int a2), (3, .int a3), (4, .ref a4)]) hx hb dL_meets_22 hl (by decide) rfl (fun ls hl => ?_)
      refine lv_iconst (v := 1) hx hb dL_meets_24 (by decide) ?_
      exact mr_iret C0 hr hlk hM (Prod.mk.inj (Option.some.inj hp)).2 (Prod.mk.inj (Option.some.inj hp)).1 (by decide) (by decide) dL_meets_25
    replace hp := oF e0 hp
    by_cases e1 : E3 = "java/lang/IllegalArgumentException"
    · replace hp := oT e1 hp
      subst e1
      refine mx_threw C0 hM (mx_runV (As := [.int a1, .int a2, .int a3]) (rest := [.int (0 : Int32), .ref a4]) C0 cbX6 hM h1 rfl (w_X6_meets hG hY hlf hv2) tw_897 tw_898 tw_899 tw_1 tw_900 yk_X6_meets (by decide) rfl hl.1 (Nat.le_of_ble_eq_true rfl) dL_meets_7) (fun H locs q4 ce hM hc1 hc2 hc3 => ?_)
      refine ml_c2 C0 hYs ht (by decide) (by decide) (by decide) tw_803 (by decide +kernel) tw_723 (by decide +kernel) hc1 hc2 hc3 ?_
      refine lv_astore (lv' := [(5, .ref q4), (0, .ref a0), (1, .int a1), (2, .int a2), (3, .int a3), (4, .ref a4)]) hx hb dL_meets_26 hl (by decide) rfl (fun ls hl => ?_)
      refine lv_iconst (v := 2) hx hb dL_meets_28 (by decide) ?_
      exact mr_iret C0 hr hlk hM (Prod.mk.inj (Option.some.inj hp)).2 (Prod.mk.inj (Option.some.inj hp)).1 (by decide) (by decide) dL_meets_29
    replace hp := oF e1 hp
    cases hp
  refine mx_back C0 hM (mx_runV (As := [.int a1, .int a2, .int a3]) (rest := [.int (0 : Int32), .ref a4]) C0 cbX6 hM h1 rfl (w_X6_meets hG hY hlf hv2) tw_897 tw_898 tw_899 tw_1 tw_900 yk_X6_meets (by decide) rfl hl.1 (Nat.le_of_ble_eq_true rfl) dL_meets_7) (fun H locs hM => ?_)
  obtain ⟨k6, ek6, hp⟩ := ojn hp
  have hk6 : ∀ (s5 : Int64) (H : Heap) (locs : List Loc) (ls : Array Slot), mm G A s M H locs → lv_has ls 6 [] → k6 s5 = some (r, M') → W p l e rm_L_meets s m args below meth c H locs 3 18 (MQ below (CQ G M' (some (.int r)) A) args s 3 18 A) (F0 m 18 ls [.long s5, .int (0 : Int32), .ref a4]) := by
    intro s5 H locs ls hM hl hp
    rw [ek6] at hp
    obtain ⟨M7, hM7, hp⟩ := ob hp
    refine mr_last C0 hM hM7 dL_meets_18 (fun H locs hM => ?_)
    refine lv_goto (tgt := 30) hx hb dL_meets_19 (by decide) ?_
    refine lv_iconst (v := 0) hx hb dL_meets_30 (by decide) ?_
    exact mr_iret C0 hr hlk hM (Prod.mk.inj (Option.some.inj hp)).2 (Prod.mk.inj (Option.some.inj hp)).1 (by decide) (by decide) dL_meets_31
  refine lv_if_eq (tgt := 17) hx hb dL_meets_10 (by decide) (fun c8 => ?_) (fun c8 => ?_)
  · replace hp := oT c8 hp
    refine lv_lconst (v := 0) hx hb dL_meets_17 (by decide) ?_
    exact hk6 _ _ _ _ hM (lv_sub hl [] rfl) hp
  · replace hp := oF c8 hp
    refine lv_lconst (v := 1) hx hb dL_meets_13 (by decide) ?_
    refine lv_goto (tgt := 18) hx hb dL_meets_14 (by decide) ?_
    exact hk6 _ _ _ _ hM (lv_sub hl [] rfl) hp
abbrev rm_L_classOf : Room := { frames := 8, cells := 2, slots := 12, locals := 133 }
def p_L_classOf (a0 : Nat) (a1 : Int32) (a2 : Int32) (a3 : Nat) (M : Mem) : Option (Int32 × Mem) :=
  (Option.bind (isC 5 M a0) fun _ =>
  (ctc (p_X6_classOf a0 a1 a2 M) (fun (v2 : Int32) =>
  (Option.bind (aLs M a3 (0 : Int32) (Int32.toInt64 v2)) fun M5 =>
  some ((0 : Int32), M5)
  )
  ) fun E3 =>
  (if E3 = "java/lang/IndexOutOfBoundsException" then
  some ((1 : Int32), M)
  else
  none
  )
  ))
theorem yk_L_classOf : yok yL_classOf 4 := by decide +kernel
set_option maxHeartbeats 4000000 in
set_option maxRecDepth 100000 in
theorem w_L_classOf {G : gG} (hG : GOK G) (hY : GY G) {l : Launch} (hlf : l.stackTraces = false) {a0 : Nat} {a1 : Int32} {a2 : Int32} {a3 : Nat} {M : Mem} {r : Int32} {M' : Mem} (hp : p_L_classOf a0 a1 a2 a3 M = some (r, M')) : CT G l yL_classOf (wH yL_classOf cL_classOf 5 (some FieldType.int) [(0, 10, 13, 19)]) rm_L_classOf [.ref a0, .int a1, .int a2, .ref a3] M (some (.int r)) M' 2 12 := by
  refine CTH_of (own := RL) (maxL := 5) (ret := (some FieldType.int)) hG (by decide) rfl (Nat.le_of_ble_eq_true rfl) (fun p e s m below meth c A C0 hr hlk ht hM ls hl => ?_)
  have hl : lv_has ls 5 [(0, .ref a0), (1, .int a1), (2, .int a2), (3, .ref a3)] := hl
  generalize ([.ref a0, .int a1, .int a2, .ref a3] : List Value).toArray = args at C0 ⊢
  skip
  have hYs := hY s C0.2.2.2.2.2.1.2.2
  have hx := C0.1
  have hb := C0.2.1
  have hown := C0.2.2.2.1
  have hts := C0.2.2.2.2.1
  unfold p_L_classOf at hp
  refine lv_aload_n hx hb dL_classOf_0 rfl (lv_at hl 3 rfl) ?_
  refine lv_iconst (v := 0) hx hb dL_classOf_1 (by decide) ?_
  refine lv_aload_n hx hb dL_classOf_2 rfl (lv_at hl 0 rfl) ?_
  refine lv_iload_n hx hb dL_classOf_3 rfl (lv_at hl 1 rfl) ?_
  refine lv_iload_n hx hb dL_classOf_4 rfl (lv_at hl 2 rfl) ?_
  obtain ⟨_, h1, hp⟩ := ob hp
  rcases ctc_at hp with ⟨E3, hv2, hp⟩ | ⟨v2, hv2, hp⟩
  · by_cases e0 : E3 = "java/lang/IndexOutOfBoundsException"
    · replace hp := oT e0 hp
      subst e0
      refine mx_threw C0 hM (mx_runV (As := [.int a1, .int a2]) (rest := [.int (0 : Int32), .ref a3]) C0 cbX6 hM h1 rfl (w_X6_classOf hG hY hlf hv2) tw_905 tw_906 tw_907 tw_1 tw_908 yk_X6_classOf (by decide) rfl hl.1 (Nat.le_of_ble_eq_true rfl) dL_classOf_5) (fun H locs q4 ce hM hc1 hc2 hc3 => ?_)
      refine ml_c1 C0 hYs ht (by decide) (by decide) tw_803 (by decide +kernel) hc1 hc2 hc3 ?_
      refine lv_astore (lv' := [(4, .ref q4), (0, .ref a0), (1, .int a1), (2, .int a2), (3, .ref a3)]) hx hb dL_classOf_13 hl (by decide) rfl (fun ls hl => ?_)
      refine lv_iconst (v := 1) hx hb dL_classOf_15 (by decide) ?_
      exact mr_iret C0 hr hlk hM (Prod.mk.inj (Option.some.inj hp)).2 (Prod.mk.inj (Option.some.inj hp)).1 (by decide) (by decide) dL_classOf_16
    replace hp := oF e0 hp
    cases hp
  refine mx_back C0 hM (mx_runV (As := [.int a1, .int a2]) (rest := [.int (0 : Int32), .ref a3]) C0 cbX6 hM h1 rfl (w_X6_classOf hG hY hlf hv2) tw_905 tw_906 tw_907 tw_1 tw_908 yk_X6_classOf (by decide) rfl hl.1 (Nat.le_of_ble_eq_true rfl) dL_classOf_5) (fun H locs hM => ?_)
  refine lv_i2l (v := (Int32.toInt64 v2)) hx hb dL_classOf_8 rfl ?_
  obtain ⟨M5, hM5, hp⟩ := ob hp
  refine mr_last C0 hM hM5 dL_classOf_9 (fun H locs hM => ?_)
  refine lv_goto (tgt := 17) hx hb dL_classOf_10 (by decide) ?_
  refine lv_iconst (v := 0) hx hb dL_classOf_17 (by decide) ?_
  exact mr_iret C0 hr hlk hM (Prod.mk.inj (Option.some.inj hp)).2 (Prod.mk.inj (Option.some.inj hp)).1 (by decide) (by decide) dL_classOf_18
abbrev rm_L_distance : Room := { frames := 8, cells := 2, slots := 12, locals := 133 }
def p_L_distance (a0 : Nat) (a1 : Int32) (a2 : Int32) (a3 : Nat) (M : Mem) : Option (Int32 × Mem) :=
  (Option.bind (isC 5 M a0) fun _ =>
  (ctc (p_X6_distance a0 a1 a2 M) (fun (v2 : Int32) =>
  (Option.bind (aLs M a3 (0 : Int32) (Int32.toInt64 v2)) fun M5 =>
  some ((0 : Int32), M5)
  )
  ) fun E3 =>
  (if E3 = "java/lang/IndexOutOfBoundsException" then
  some ((1 : Int32), M)
  else
  none
  )
  ))
theorem yk_L_distance : yok yL_distance 4 := by decide +kernel
set_option maxHeartbeats 4000000 in
set_option maxRecDepth 100000 in
theorem w_L_distance {G : gG} (hG : GOK G) (hY : GY G) {l : Launch} (hlf : l.stackTraces = false) {a0 : Nat} {a1 : Int32} {a2 : Int32} {a3 : Nat} {M : Mem} {r : Int32} {M' : Mem} (hp : p_L_distance a0 a1 a2 a3 M = some (r, M')) : CT G l yL_distance (wH yL_distance cL_distance 5 (some FieldType.int) [(0, 10, 13, 19)]) rm_L_distance [.ref a0, .int a1, .int a2, .ref a3] M (some (.int r)) M' 2 12 := by
  refine CTH_of (own := RL) (maxL := 5) (ret := (some FieldType.int)) hG (by decide) rfl (Nat.le_of_ble_eq_true rfl) (fun p e s m below meth c A C0 hr hlk ht hM ls hl => ?_)
  have hl : lv_has ls 5 [(0, .ref a0), (1, .int a1), (2, .int a2), (3, .ref a3)] := hl
  generalize ([.ref a0, .int a1, .int a2, .ref a3] : List Value).toArray = args at C0 ⊢
  skip
  have hYs := hY s C0.2.2.2.2.2.1.2.2
  have hx := C0.1
  have hb := C0.2.1
  have hown := C0.2.2.2.1
  have hts := C0.2.2.2.2.1
  unfold p_L_distance at hp
  refine lv_aload_n hx hb dL_distance_0 rfl (lv_at hl 3 rfl) ?_
  refine lv_iconst (v := 0) hx hb dL_distance_1 (by decide) ?_
  refine lv_aload_n hx hb dL_distance_2 rfl (lv_at hl 0 rfl) ?_
  refine lv_iload_n hx hb dL_distance_3 rfl (lv_at hl 1 rfl) ?_
  refine lv_iload_n hx hb dL_distance_4 rfl (lv_at hl 2 rfl) ?_
  obtain ⟨_, h1, hp⟩ := ob hp
  rcases ctc_at hp with ⟨E3, hv2, hp⟩ | ⟨v2, hv2, hp⟩
  · by_cases e0 : E3 = "java/lang/IndexOutOfBoundsException"
    · replace hp := oT e0 hp
      subst e0
      refine mx_threw C0 hM (mx_runV (As := [.int a1, .int a2]) (rest := [.int (0 : Int32), .ref a3]) C0 cbX6 hM h1 rfl (w_X6_distance hG hY hlf hv2) tw_913 tw_914 tw_915 tw_1 tw_916 yk_X6_distance (by decide) rfl hl.1 (Nat.le_of_ble_eq_true rfl) dL_distance_5) (fun H locs q4 ce hM hc1 hc2 hc3 => ?_)
      refine ml_c1 C0 hYs ht (by decide) (by decide) tw_803 (by decide +kernel) hc1 hc2 hc3 ?_
      refine lv_astore (lv' := [(4, .ref q4), (0, .ref a0), (1, .int a1), (2, .int a2), (3, .ref a3)]) hx hb dL_distance_13 hl (by decide) rfl (fun ls hl => ?_)
      refine lv_iconst (v := 1) hx hb dL_distance_15 (by decide) ?_
      exact mr_iret C0 hr hlk hM (Prod.mk.inj (Option.some.inj hp)).2 (Prod.mk.inj (Option.some.inj hp)).1 (by decide) (by decide) dL_distance_16
    replace hp := oF e0 hp
    cases hp
  refine mx_back C0 hM (mx_runV (As := [.int a1, .int a2]) (rest := [.int (0 : Int32), .ref a3]) C0 cbX6 hM h1 rfl (w_X6_distance hG hY hlf hv2) tw_913 tw_914 tw_915 tw_1 tw_916 yk_X6_distance (by decide) rfl hl.1 (Nat.le_of_ble_eq_true rfl) dL_distance_5) (fun H locs hM => ?_)
  refine lv_i2l (v := (Int32.toInt64 v2)) hx hb dL_distance_8 rfl ?_
  obtain ⟨M5, hM5, hp⟩ := ob hp
  refine mr_last C0 hM hM5 dL_distance_9 (fun H locs hM => ?_)
  refine lv_goto (tgt := 17) hx hb dL_distance_10 (by decide) ?_
  refine lv_iconst (v := 0) hx hb dL_distance_17 (by decide) ?_
  exact mr_iret C0 hr hlk hM (Prod.mk.inj (Option.some.inj hp)).2 (Prod.mk.inj (Option.some.inj hp)).1 (by decide) (by decide) dL_distance_18
abbrev rm_L_comesFirst : Room := { frames := 8, cells := 3, slots := 18, locals := 134 }
def p_L_comesFirst (a0 : Nat) (a1 : Int32) (a2 : Int32) (a3 : Int32) (a4 : Nat) (M : Mem) : Option (Int32 × Mem) :=
  (Option.bind (isC 5 M a0) fun _ =>
  (ctc (p_X6_comesFirst a0 a1 a2 a3 M) (fun (v2 : Int32) =>
  (jn (fun (s5 : Int64) =>
   (Option.bind (aLs M a4 (0 : Int32) s5) fun M7 =>
   some ((0 : Int32), M7)
   )
  ) fun k6 =>
  (if v2 = 0 then
   (k6 (0 : Int64))
  else
   (k6 (1 : Int64))
  )
  )
  ) fun E3 =>
  (if E3 = "java/lang/IndexOutOfBoundsException" then
  some ((1 : Int32), M)
  else
  none
  )
  ))
theorem yk_L_comesFirst : yok yL_comesFirst 5 := by decide +kernel
set_option maxHeartbeats 4000000 in
set_option maxRecDepth 100000 in
theorem w_L_comesFirst {G : gG} (hG : GOK G) (hY : GY G) {l : Launch} (hlf : l.stackTraces = false) {a0 : Nat} {a1 : Int32} {a2 : Int32} {a3 : Int32} {a4 : Nat} {M : Mem} {r : Int32} {M' : Mem} (hp : p_L_comesFirst a0 a1 a2 a3 a4 M = some (r, M')) : CT G l yL_comesFirst (wH yL_comesFirst cL_comesFirst 6 (some FieldType.int) [(0, 19, 22, 19)]) rm_L_comesFirst [.ref a0, .int a1, .int a2, .int a3, .ref a4] M (some (.int r)) M' 3 18 := by
  refine CTH_of (own := RL) (maxL := 6) (ret := (some FieldType.int)) hG (by decide) rfl (Nat.le_of_ble_eq_true rfl) (fun p e s m below meth c A C0 hr hlk ht hM ls hl => ?_)
  have hl : lv_has ls 6 [(0, .ref a0), (1, .int a1), (2, .int a2), (3, .int a3), (4, .ref a4)] := hl
  generalize ([.ref a0, .int a1, .int a2, .int a3, .ref a4] : List Value).toArray = args at C0 ⊢
  skip
  have hYs := hY s C0.2.2.2.2.2.1.2.2
  have hx := C0.1
  have hb := C0.2.1
  have hown := C0.2.2.2.1
  have hts := C0.2.2.2.2.1
  unfold p_L_comesFirst at hp
  refine lv_aload hx hb dL_comesFirst_0 (lv_at hl 4 rfl) ?_
  refine lv_iconst (v := 0) hx hb dL_comesFirst_2 (by decide) ?_
  refine lv_aload_n hx hb dL_comesFirst_3 rfl (lv_at hl 0 rfl) ?_
  refine lv_iload_n hx hb dL_comesFirst_4 rfl (lv_at hl 1 rfl) ?_
  refine lv_iload_n hx hb dL_comesFirst_5 rfl (lv_at hl 2 rfl) ?_
  refine lv_iload_n hx hb dL_comesFirst_6 rfl (lv_at hl 3 rfl) ?_
  obtain ⟨_, h1, hp⟩ := ob hp
  rcases ctc_at hp with ⟨E3, hv2, hp⟩ | ⟨v2, hv2, hp⟩
  · by_cases e0 : E3 = "java/lang/IndexOutOfBoundsException"
    · replace hp := oT e0 hp
      subst e0
      refine mx_threw C0 hM (mx_runV (As := [.int a1, .int a2, .int a3]) (rest := [.int (0 : Int32), .ref a4]) C0 cbX6 hM h1 rfl (w_X6_comesFirst hG hY hlf hv2) tw_920 tw_921 tw_922 tw_1 tw_923 yk_X6_comesFirst (by decide) rfl hl.1 (Nat.le_of_ble_eq_true rfl) dL_comesFirst_7) (fun H locs q4 ce hM hc1 hc2 hc3 => ?_)
      refine ml_c1 C0 hYs ht (by decide) (by decide) tw_803 (by decide +kernel) hc1 hc2 hc3 ?_
      refine lv_astore (lv' := [(5, .ref q4), (0, .ref a0), (1, .int a1), (2, .int a2), (3, .int a3), (4, .ref a4)]) hx hb dL_comesFirst_22 hl (by decide) rfl (fun ls hl => ?_)
      refine lv_iconst (v := 1) hx hb dL_comesFirst_24 (by decide) ?_
      exact mr_iret C0 hr hlk hM (Prod.mk.inj (Option.some.inj hp)).2 (Prod.mk.inj (Option.some.inj hp)).1 (by decide) (by decide) dL_comesFirst_25
    replace hp := oF e0 hp
    cases hp
  refine mx_back C0 hM (mx_runV (As := [.int a1, .int a2, .int a3]) (rest := [.int (0 : Int32), .ref a4]) C0 cbX6 hM h1 rfl (w_X6_comesFirst hG hY hlf hv2) tw_920 tw_921 tw_922 tw_1 tw_923 yk_X6_comesFirst (by decide) rfl hl.1 (Nat.le_of_ble_eq_true rfl) dL_comesFirst_7) (fun H locs hM => ?_)
  obtain ⟨k6, ek6, hp⟩ := ojn hp
  have hk6 : ∀ (s5 : Int64) (H : Heap) (locs : List Loc) (ls : Array Slot), mm G A s M H locs → lv_has ls 6 [] → k6 s5 = some (r, M') → W p l e rm_L_comesFirst s m args below meth c H locs 3 18 (MQ below (CQ G M' (some (.int r)) A) args s 3 18 A) (F0 m 18 ls [.long s5, .int (0 : Int32), .ref a4]) := by
    intro s5 H locs ls hM hl hp
    rw [ek6] at hp
    obtain ⟨M7, hM7, hp⟩ := ob hp
    refine mr_last C0 hM hM7 dL_comesFirst_18 (fun H locs hM => ?_)
    refine lv_goto (tgt := 26) hx hb dL_comesFirst_19 (by decide) ?_
    refine lv_iconst (v := 0) hx hb dL_comesFirst_26 (by decide) ?_
    exact mr_iret C0 hr hlk hM (Prod.mk.inj (Option.some.inj hp)).2 (Prod.mk.inj (Option.some.inj hp)).1 (by decide) (by decide) dL_comesFirst_27
  refine lv_if_eq (tgt := 17) hx hb dL_comesFirst_10 (by decide) (fun c8 => ?_) (fun c8 => ?_)
  · replace hp := oT c8 hp
    refine lv_lconst (v := 0) hx hb dL_comesFirst_17 (by decide) ?_
    exact hk6 _ _ _ _ hM (lv_sub hl [] rfl) hp
  · replace hp := oF c8 hp
    refine lv_lconst (v := 1) hx hb dL_comesFirst_13 (by decide) ?_
    refine lv_goto (tgt := 18) hx hb dL_comesFirst_14 (by decide) ?_
    exact hk6 _ _ _ _ hM (lv_sub hl [] rfl) hp
abbrev rm_L_holder : Room := { frames := 8, cells := 2, slots := 12, locals := 148 }
def p_L_holder (a0 : Nat) (a1 : Int32) (a2 : Int32) (a3 : Nat) (M : Mem) : Option (Int32 × Mem) :=
  (Option.bind (isC 5 M a0) fun _ =>
  (ctc (p_X6_holder a0 a1 a2 M) (fun (v2 : Int32) =>
  (Option.bind (aLs M a3 (0 : Int32) (Int32.toInt64 v2)) fun M5 =>
  some ((0 : Int32), M5)
  )
  ) fun E3 =>
  (if E3 = "java/lang/IndexOutOfBoundsException" then
  some ((1 : Int32), M)
  else
  (if E3 = "java/util/NoSuchElementException" then
  some ((2 : Int32), M)
  else
  none
  )
  )
  ))
theorem yk_L_holder : yok yL_holder 4 := by decide +kernel
set_option maxHeartbeats 4000000 in
set_option maxRecDepth 100000 in
theorem w_L_holder {G : gG} (hG : GOK G) (hY : GY G) {l : Launch} (hlf : l.stackTraces = false) {a0 : Nat} {a1 : Int32} {a2 : Int32} {a3 : Nat} {M : Mem} {r : Int32} {M' : Mem} (hp : p_L_holder a0 a1 a2 a3 M = some (r, M')) : CT G l yL_holder (wH yL_holder cL_holder 5 (some FieldType.int) [(0, 10, 13, 19), (0, 10, 17, 24)]) rm_L_holder [.ref a0, .int a1, .int a2, .ref a3] M (some (.int r)) M' 2 12 := by
  refine CTH_of (own := RL) (maxL := 5) (ret := (some FieldType.int)) hG (by decide) rfl (Nat.le_of_ble_eq_true rfl) (fun p e s m below meth c A C0 hr hlk ht hM ls hl => ?_)
  have hl : lv_has ls 5 [(0, .ref a0), (1, .int a1), (2, .int a2), (3, .ref a3)] := hl
  generalize ([.ref a0, .int a1, .int a2, .ref a3] : List Value).toArray = args at C0 ⊢
  skip
  have hYs := hY s C0.2.2.2.2.2.1.2.2
  have hx := C0.1
  have hb := C0.2.1
  have hown := C0.2.2.2.1
  have hts := C0.2.2.2.2.1
  unfold p_L_holder at hp
  refine lv_aload_n hx hb dL_holder_0 rfl (lv_at hl 3 rfl) ?_
  refine lv_iconst (v := 0) hx hb dL_holder_1 (by decide) ?_
  refine lv_aload_n hx hb dL_holder_2 rfl (lv_at hl 0 rfl) ?_
  refine lv_iload_n hx hb dL_holder_3 rfl (lv_at hl 1 rfl) ?_
  refine lv_iload_n hx hb dL_holder_4 rfl (lv_at hl 2 rfl) ?_
  obtain ⟨_, h1, hp⟩ := ob hp
  rcases ctc_at hp with ⟨E3, hv2, hp⟩ | ⟨v2, hv2, hp⟩
  · by_cases e0 : E3 = "java/lang/IndexOutOfBoundsException"
    · replace hp := oT e0 hp
      subst e0
      refine mx_threw C0 hM (mx_runV (As := [.int a1, .int a2]) (rest := [.int (0 : Int32), .ref a3]) C0 cbX6 hM h1 rfl (w_X6_holder hG hY hlf hv2) tw_928 tw_929 tw_930 tw_1 tw_931 yk_X6_holder (by decide) rfl hl.1 (Nat.le_of_ble_eq_true rfl) dL_holder_5) (fun H locs q4 ce hM hc1 hc2 hc3 => ?_)
      refine ml_c1 C0 hYs ht (by decide) (by decide) tw_803 (by decide +kernel) hc1 hc2 hc3 ?_
      refine lv_astore (lv' := [(4, .ref q4), (0, .ref a0), (1, .int a1), (2, .int a2), (3, .ref a3)]) hx hb dL_holder_13 hl (by decide) rfl (fun ls hl => ?_)
      refine lv_iconst (v := 1) hx hb dL_holder_15 (by decide) ?_
      exact mr_iret C0 hr hlk hM (Prod.mk.inj (Option.some.inj hp)).2 (Prod.mk.inj (Option.some.inj hp)).1 (by decide) (by decide) dL_holder_16
    replace hp := oF e0 hp
    by_cases e1 : E3 = "java/util/NoSuchElementException"
    · replace hp := oT e1 hp
      subst e1
      refine mx_threw C0 hM (mx_runV (As := [.int a1, .int a2]) (rest := [.int (0 : Int32), .ref a3]) C0 cbX6 hM h1 rfl (w_X6_holder hG hY hlf hv2) tw_928 tw_929 tw_930 tw_1 tw_931 yk_X6_holder (by decide) rfl hl.1 (Nat.le_of_ble_eq_true rfl) dL_holder_5) (fun H locs q4 ce hM hc1 hc2 hc3 => ?_)
      refine ml_c2 C0 hYs ht (by decide) (by decide) (by decide) tw_803 (by decide +kernel) tw_837 (by decide +kernel) hc1 hc2 hc3 ?_
      refine lv_astore (lv' := [(4, .ref q4), (0, .ref a0), (1, .int a1), (2, .int a2), (3, .ref a3)]) hx hb dL_holder_17 hl (by decide) rfl (fun ls hl => ?_)
      refine lv_iconst (v := 2) hx hb dL_holder_19 (by decide) ?_
      exact mr_iret C0 hr hlk hM (Prod.mk.inj (Option.some.inj hp)).2 (Prod.mk.inj (Option.some.inj hp)).1 (by decide) (by decide) dL_holder_20
    replace hp := oF e1 hp
    cases hp
  refine mx_back C0 hM (mx_runV (As := [.int a1, .int a2]) (rest := [.int (0 : Int32), .ref a3]) C0 cbX6 hM h1 rfl (w_X6_holder hG hY hlf hv2) tw_928 tw_929 tw_930 tw_1 tw_931 yk_X6_holder (by decide) rfl hl.1 (Nat.le_of_ble_eq_true rfl) dL_holder_5) (fun H locs hM => ?_)
  refine lv_i2l (v := (Int32.toInt64 v2)) hx hb dL_holder_8 rfl ?_
  obtain ⟨M5, hM5, hp⟩ := ob hp
  refine mr_last C0 hM hM5 dL_holder_9 (fun H locs hM => ?_)
  refine lv_goto (tgt := 21) hx hb dL_holder_10 (by decide) ?_
  refine lv_iconst (v := 0) hx hb dL_holder_21 (by decide) ?_
  exact mr_iret C0 hr hlk hM (Prod.mk.inj (Option.some.inj hp)).2 (Prod.mk.inj (Option.some.inj hp)).1 (by decide) (by decide) dL_holder_22
abbrev rm_L_waiting : Room := { frames := 8, cells := 2, slots := 12, locals := 148 }
def p_L_waiting (a0 : Nat) (a1 : Int32) (a2 : Int32) (a3 : Nat) (M : Mem) : Option (Int32 × Mem) :=
  (Option.bind (isC 5 M a0) fun _ =>
  (ctc (p_X6_waiting a0 a1 a2 M) (fun (v2 : Int32) =>
  (Option.bind (aLs M a3 (0 : Int32) (Int32.toInt64 v2)) fun M5 =>
  some ((0 : Int32), M5)
  )
  ) fun E3 =>
  (if E3 = "java/lang/IndexOutOfBoundsException" then
  some ((1 : Int32), M)
  else
  (if E3 = "java/util/NoSuchElementException" then
  some ((2 : Int32), M)
  else
  none
  )
  )
  ))
theorem yk_L_waiting : yok yL_waiting 4 := by decide +kernel
set_option maxHeartbeats 4000000 in
set_option maxRecDepth 100000 in
theorem w_L_waiting {G : gG} (hG : GOK G) (hY : GY G) {l : Launch} (hlf : l.stackTraces = false) {a0 : Nat} {a1 : Int32} {a2 : Int32} {a3 : Nat} {M : Mem} {r : Int32} {M' : Mem} (hp : p_L_waiting a0 a1 a2 a3 M = some (r, M')) : CT G l yL_waiting (wH yL_waiting cL_waiting 5 (some FieldType.int) [(0, 10, 13, 19), (0, 10, 17, 24)]) rm_L_waiting [.ref a0, .int a1, .int a2, .ref a3] M (some (.int r)) M' 2 12 := by
  refine CTH_of (own := RL) (maxL := 5) (ret := (some FieldType.int)) hG (by decide) rfl (Nat.le_of_ble_eq_true rfl) (fun p e s m below meth c A C0 hr hlk ht hM ls hl => ?_)
  have hl : lv_has ls 5 [(0, .ref a0), (1, .int a1), (2, .int a2), (3, .ref a3)] := hl
  generalize ([.ref a0, .int a1, .int a2, .ref a3] : List Value).toArray = args at C0 ⊢
  skip
  have hYs := hY s C0.2.2.2.2.2.1.2.2
  have hx := C0.1
  have hb := C0.2.1
  have hown := C0.2.2.2.1
  have hts := C0.2.2.2.2.1
  unfold p_L_waiting at hp
  refine lv_aload_n hx hb dL_waiting_0 rfl (lv_at hl 3 rfl) ?_
  refine lv_iconst (v := 0) hx hb dL_waiting_1 (by decide) ?_
  refine lv_aload_n hx hb dL_waiting_2 rfl (lv_at hl 0 rfl) ?_
  refine lv_iload_n hx hb dL_waiting_3 rfl (lv_at hl 1 rfl) ?_
  refine lv_iload_n hx hb dL_waiting_4 rfl (lv_at hl 2 rfl) ?_
  obtain ⟨_, h1, hp⟩ := ob hp
  rcases ctc_at hp with ⟨E3, hv2, hp⟩ | ⟨v2, hv2, hp⟩
  · by_cases e0 : E3 = "java/lang/IndexOutOfBoundsException"
    · replace hp := oT e0 hp
      subst e0
      refine mx_threw C0 hM (mx_runV (As := [.int a1, .int a2]) (rest := [.int (0 : Int32), .ref a3]) C0 cbX6 hM h1 rfl (w_X6_waiting hG hY hlf hv2) tw_944 tw_945 tw_946 tw_1 tw_947 yk_X6_waiting (by decide) rfl hl.1 (Nat.le_of_ble_eq_true rfl) dL_waiting_5) (fun H locs q4 ce hM hc1 hc2 hc3 => ?_)
      refine ml_c1 C0 hYs ht (by decide) (by decide) tw_803 (by decide +kernel) hc1 hc2 hc3 ?_
      refine lv_astore (lv' := [(4, .ref q4), (0, .ref a0), (1, .int a1), (2, .int a2), (3, .ref a3)]) hx hb dL_waiting_13 hl (by decide) rfl (fun ls hl => ?_)
      refine lv_iconst (v := 1) hx hb dL_waiting_15 (by decide) ?_
      exact mr_iret C0 hr hlk hM (Prod.mk.inj (Option.some.inj hp)).2 (Prod.mk.inj (Option.some.inj hp)).1 (by decide) (by decide) dL_waiting_16
    replace hp := oF e0 hp
    by_cases e1 : E3 = "java/util/NoSuchElementException"
    · replace hp := oT e1 hp
      subst e1
      refine mx_threw C0 hM (mx_runV (As := [.int a1, .int a2]) (rest := [.int (0 : Int32), .ref a3]) C0 cbX6 hM h1 rfl (w_X6_waiting hG hY hlf hv2) tw_944 tw_945 tw_946 tw_1 tw_947 yk_X6_waiting (by decide) rfl hl.1 (Nat.le_of_ble_eq_true rfl) dL_waiting_5) (fun H locs q4 ce hM hc1 hc2 hc3 => ?_)
      refine ml_c2 C0 hYs ht (by decide) (by decide) (by decide) tw_803 (by decide +kernel) tw_837 (by decide +kernel) hc1 hc2 hc3 ?_
      refine lv_astore (lv' := [(4, .ref q4), (0, .ref a0), (1, .int a1), (2, .int a2), (3, .ref a3)]) hx hb dL_waiting_17 hl (by decide) rfl (fun ls hl => ?_)
      refine lv_iconst (v := 2) hx hb dL_waiting_19 (by decide) ?_
      exact mr_iret C0 hr hlk hM (Prod.mk.inj (Option.some.inj hp)).2 (Prod.mk.inj (Option.some.inj hp)).1 (by decide) (by decide) dL_waiting_20
    replace hp := oF e1 hp
    cases hp
  refine mx_back C0 hM (mx_runV (As := [.int a1, .int a2]) (rest := [.int (0 : Int32), .ref a3]) C0 cbX6 hM h1 rfl (w_X6_waiting hG hY hlf hv2) tw_944 tw_945 tw_946 tw_1 tw_947 yk_X6_waiting (by decide) rfl hl.1 (Nat.le_of_ble_eq_true rfl) dL_waiting_5) (fun H locs hM => ?_)
  refine lv_i2l (v := (Int32.toInt64 v2)) hx hb dL_waiting_8 rfl ?_
  obtain ⟨M5, hM5, hp⟩ := ob hp
  refine mr_last C0 hM hM5 dL_waiting_9 (fun H locs hM => ?_)
  refine lv_goto (tgt := 21) hx hb dL_waiting_10 (by decide) ?_
  refine lv_iconst (v := 0) hx hb dL_waiting_21 (by decide) ?_
  exact mr_iret C0 hr hlk hM (Prod.mk.inj (Option.some.inj hp)).2 (Prod.mk.inj (Option.some.inj hp)).1 (by decide) (by decide) dL_waiting_22
abbrev rm_L_waitingPlace : Room := { frames := 8, cells := 2, slots := 12, locals := 133 }
def p_L_waitingPlace (a0 : Nat) (a1 : Int32) (a2 : Int32) (a3 : Nat) (M : Mem) : Option (Int32 × Mem) :=
  (Option.bind (isC 5 M a0) fun _ =>
  (ctc (p_X6_waitingPlace a0 a1 a2 M) (fun (v2 : Int32) =>
  (Option.bind (aLs M a3 (0 : Int32) (Int32.toInt64 v2)) fun M5 =>
  some ((0 : Int32), M5)
  )
  ) fun E3 =>
  (if E3 = "java/lang/IndexOutOfBoundsException" then
  some ((1 : Int32), M)
  else
  none
  )
  ))
theorem yk_L_waitingPlace : yok yL_waitingPlace 4 := by decide +kernel
set_option maxHeartbeats 4000000 in
set_option maxRecDepth 100000 in
theorem w_L_waitingPlace {G : gG} (hG : GOK G) (hY : GY G) {l : Launch} (hlf : l.stackTraces = false) {a0 : Nat} {a1 : Int32} {a2 : Int32} {a3 : Nat} {M : Mem} {r : Int32} {M' : Mem} (hp : p_L_waitingPlace a0 a1 a2 a3 M = some (r, M')) : CT G l yL_waitingPlace (wH yL_waitingPlace cL_waitingPlace 5 (some FieldType.int) [(0, 10, 13, 19)]) rm_L_waitingPlace [.ref a0, .int a1, .int a2, .ref a3] M (some (.int r)) M' 2 12 := by
  refine CTH_of (own := RL) (maxL := 5) (ret := (some FieldType.int)) hG (by decide) rfl (Nat.le_of_ble_eq_true rfl) (fun p e s m below meth c A C0 hr hlk ht hM ls hl => ?_)
  have hl : lv_has ls 5 [(0, .ref a0), (1, .int a1), (2, .int a2), (3, .ref a3)] := hl
  generalize ([.ref a0, .int a1, .int a2, .ref a3] : List Value).toArray = args at C0 ⊢
  skip
  have hYs := hY s C0.2.2.2.2.2.1.2.2
  have hx := C0.1
  have hb := C0.2.1
  have hown := C0.2.2.2.1
  have hts := C0.2.2.2.2.1
  unfold p_L_waitingPlace at hp
  refine lv_aload_n hx hb dL_waitingPlace_0 rfl (lv_at hl 3 rfl) ?_
  refine lv_iconst (v := 0) hx hb dL_waitingPlace_1 (by decide) ?_
  refine lv_aload_n hx hb dL_waitingPlace_2 rfl (lv_at hl 0 rfl) ?_
  refine lv_iload_n hx hb dL_waitingPlace_3 rfl (lv_at hl 1 rfl) ?_
  refine lv_iload_n hx hb dL_waitingPlace_4 rfl (lv_at hl 2 rfl) ?_
  obtain ⟨_, h1, hp⟩ := ob hp
  rcases ctc_at hp with ⟨E3, hv2, hp⟩ | ⟨v2, hv2, hp⟩
  · by_cases e0 : E3 = "java/lang/IndexOutOfBoundsException"
    · replace hp := oT e0 hp
      subst e0
      refine mx_threw C0 hM (mx_runV (As := [.int a1, .int a2]) (rest := [.int (0 : Int32), .ref a3]) C0 cbX6 hM h1 rfl (w_X6_waitingPlace hG hY hlf hv2) tw_952 tw_953 tw_954 tw_1 tw_955 yk_X6_waitingPlace (by decide) rfl hl.1 (Nat.le_of_ble_eq_true rfl) dL_waitingPlace_5) (fun H locs q4 ce hM hc1 hc2 hc3 => ?_)
      refine ml_c1 C0 hYs ht (by decide) (by decide) tw_803 (by decide +kernel) hc1 hc2 hc3 ?_
      refine lv_astore (lv' := [(4, .ref q4), (0, .ref a0), (1, .int a1), (2, .int a2), (3, .ref a3)]) hx hb dL_waitingPlace_13 hl (by decide) rfl (fun ls hl => ?_)
      refine lv_iconst (v := 1) hx hb dL_waitingPlace_15 (by decide) ?_
      exact mr_iret C0 hr hlk hM (Prod.mk.inj (Option.some.inj hp)).2 (Prod.mk.inj (Option.some.inj hp)).1 (by decide) (by decide) dL_waitingPlace_16
    replace hp := oF e0 hp
    cases hp
  refine mx_back C0 hM (mx_runV (As := [.int a1, .int a2]) (rest := [.int (0 : Int32), .ref a3]) C0 cbX6 hM h1 rfl (w_X6_waitingPlace hG hY hlf hv2) tw_952 tw_953 tw_954 tw_1 tw_955 yk_X6_waitingPlace (by decide) rfl hl.1 (Nat.le_of_ble_eq_true rfl) dL_waitingPlace_5) (fun H locs hM => ?_)
  refine lv_i2l (v := (Int32.toInt64 v2)) hx hb dL_waitingPlace_8 rfl ?_
  obtain ⟨M5, hM5, hp⟩ := ob hp
  refine mr_last C0 hM hM5 dL_waitingPlace_9 (fun H locs hM => ?_)
  refine lv_goto (tgt := 17) hx hb dL_waitingPlace_10 (by decide) ?_
  refine lv_iconst (v := 0) hx hb dL_waitingPlace_17 (by decide) ?_
  exact mr_iret C0 hr hlk hM (Prod.mk.inj (Option.some.inj hp)).2 (Prod.mk.inj (Option.some.inj hp)).1 (by decide) (by decide) dL_waitingPlace_18
abbrev rm_L_hasClaim : Room := { frames := 8, cells := 2, slots := 12, locals := 146 }
def p_L_hasClaim (a0 : Nat) (a1 : Int32) (a2 : Int32) (a3 : Nat) (M : Mem) : Option (Int32 × Mem) :=
  (Option.bind (isC 5 M a0) fun _ =>
  (ctc (p_X6_hasClaim a0 a1 a2 M) (fun (v2 : Int32) =>
  (jn (fun (s5 : Int64) =>
   (Option.bind (aLs M a3 (0 : Int32) s5) fun M7 =>
   some ((0 : Int32), M7)
   )
  ) fun k6 =>
  (if v2 = 0 then
   (k6 (0 : Int64))
  else
   (k6 (1 : Int64))
  )
  )
  ) fun E3 =>
  (if E3 = "java/lang/IndexOutOfBoundsException" then
  some ((1 : Int32), M)
  else
  none
  )
  ))
theorem yk_L_hasClaim : yok yL_hasClaim 4 := by decide +kernel
set_option maxHeartbeats 4000000 in
set_option maxRecDepth 100000 in
theorem w_L_hasClaim {G : gG} (hG : GOK G) (hY : GY G) {l : Launch} (hlf : l.stackTraces = false) {a0 : Nat} {a1 : Int32} {a2 : Int32} {a3 : Nat} {M : Mem} {r : Int32} {M' : Mem} (hp : p_L_hasClaim a0 a1 a2 a3 M = some (r, M')) : CT G l yL_hasClaim (wH yL_hasClaim cL_hasClaim 5 (some FieldType.int) [(0, 17, 20, 19)]) rm_L_hasClaim [.ref a0, .int a1, .int a2, .ref a3] M (some (.int r)) M' 2 12 := by
  refine CTH_of (own := RL) (maxL := 5) (ret := (some FieldType.int)) hG (by decide) rfl (Nat.le_of_ble_eq_true rfl) (fun p e s m below meth c A C0 hr hlk ht hM ls hl => ?_)
  have hl : lv_has ls 5 [(0, .ref a0), (1, .int a1), (2, .int a2), (3, .ref a3)] := hl
  generalize ([.ref a0, .int a1, .int a2, .ref a3] : List Value).toArray = args at C0 ⊢
  skip
  have hYs := hY s C0.2.2.2.2.2.1.2.2
  have hx := C0.1
  have hb := C0.2.1
  have hown := C0.2.2.2.1
  have hts := C0.2.2.2.2.1
  unfold p_L_hasClaim at hp
  refine lv_aload_n hx hb dL_hasClaim_0 rfl (lv_at hl 3 rfl) ?_
  refine lv_iconst (v := 0) hx hb dL_hasClaim_1 (by decide) ?_
  refine lv_aload_n hx hb dL_hasClaim_2 rfl (lv_at hl 0 rfl) ?_
  refine lv_iload_n hx hb dL_hasClaim_3 rfl (lv_at hl 1 rfl) ?_
  refine lv_iload_n hx hb dL_hasClaim_4 rfl (lv_at hl 2 rfl) ?_
  obtain ⟨_, h1, hp⟩ := ob hp
  rcases ctc_at hp with ⟨E3, hv2, hp⟩ | ⟨v2, hv2, hp⟩
  · by_cases e0 : E3 = "java/lang/IndexOutOfBoundsException"
    · replace hp := oT e0 hp
      subst e0
      refine mx_threw C0 hM (mx_runV (As := [.int a1, .int a2]) (rest := [.int (0 : Int32), .ref a3]) C0 cbX6 hM h1 rfl (w_X6_hasClaim hG hY hlf hv2) tw_961 tw_962 tw_963 tw_1 tw_964 yk_X6_hasClaim (by decide) rfl hl.1 (Nat.le_of_ble_eq_true rfl) dL_hasClaim_5) (fun H locs q4 ce hM hc1 hc2 hc3 => ?_)
      refine ml_c1 C0 hYs ht (by decide) (by decide) tw_803 (by decide +kernel) hc1 hc2 hc3 ?_
      refine lv_astore (lv' := [(4, .ref q4), (0, .ref a0), (1, .int a1), (2, .int a2), (3, .ref a3)]) hx hb dL_hasClaim_20 hl (by decide) rfl (fun ls hl => ?_)
      refine lv_iconst (v := 1) hx hb dL_hasClaim_22 (by decide) ?_
      exact mr_iret C0 hr hlk hM (Prod.mk.inj (Option.some.inj hp)).2 (Prod.mk.inj (Option.some.inj hp)).1 (by decide) (by decide) dL_hasClaim_23
    replace hp := oF e0 hp
    cases hp
  refine mx_back C0 hM (mx_runV (As := [.int a1, .int a2]) (rest := [.int (0 : Int32), .ref a3]) C0 cbX6 hM h1 rfl (w_X6_hasClaim hG hY hlf hv2) tw_961 tw_962 tw_963 tw_1 tw_964 yk_X6_hasClaim (by decide) rfl hl.1 (Nat.le_of_ble_eq_true rfl) dL_hasClaim_5) (fun H locs hM => ?_)
  obtain ⟨k6, ek6, hp⟩ := ojn hp
  have hk6 : ∀ (s5 : Int64) (H : Heap) (locs : List Loc) (ls : Array Slot), mm G A s M H locs → lv_has ls 5 [] → k6 s5 = some (r, M') → W p l e rm_L_hasClaim s m args below meth c H locs 2 12 (MQ below (CQ G M' (some (.int r)) A) args s 2 12 A) (F0 m 16 ls [.long s5, .int (0 : Int32), .ref a3]) := by
    intro s5 H locs ls hM hl hp
    rw [ek6] at hp
    obtain ⟨M7, hM7, hp⟩ := ob hp
    refine mr_last C0 hM hM7 dL_hasClaim_16 (fun H locs hM => ?_)
    refine lv_goto (tgt := 24) hx hb dL_hasClaim_17 (by decide) ?_
    refine lv_iconst (v := 0) hx hb dL_hasClaim_24 (by decide) ?_
    exact mr_iret C0 hr hlk hM (Prod.mk.inj (Option.some.inj hp)).2 (Prod.mk.inj (Option.some.inj hp)).1 (by decide) (by decide) dL_hasClaim_25
  refine lv_if_eq (tgt := 15) hx hb dL_hasClaim_8 (by decide) (fun c8 => ?_) (fun c8 => ?_)
  · replace hp := oT c8 hp
    refine lv_lconst (v := 0) hx hb dL_hasClaim_15 (by decide) ?_
    exact hk6 _ _ _ _ hM (lv_sub hl [] rfl) hp
  · replace hp := oF c8 hp
    refine lv_lconst (v := 1) hx hb dL_hasClaim_11 (by decide) ?_
    refine lv_goto (tgt := 16) hx hb dL_hasClaim_12 (by decide) ?_
    exact hk6 _ _ _ _ hM (lv_sub hl [] rfl) hp
abbrev rm_L_roundOf : Room := { frames := 8, cells := 1, slots := 6, locals := 132 }
def p_L_roundOf (a0 : Nat) (a1 : Int32) (a2 : Nat) (M : Mem) : Option (Int32 × Mem) :=
  (Option.bind (isC 5 M a0) fun _ =>
  (ctc (p_X6_roundOf a0 a1 M) (fun (v2 : Int32) =>
  (Option.bind (aLs M a2 (0 : Int32) (Int32.toInt64 v2)) fun M5 =>
  some ((0 : Int32), M5)
  )
  ) fun E3 =>
  (if E3 = "java/lang/IndexOutOfBoundsException" then
  some ((1 : Int32), M)
  else
  none
  )
  ))
theorem yk_L_roundOf : yok yL_roundOf 3 := by decide +kernel
set_option maxHeartbeats 4000000 in
set_option maxRecDepth 100000 in
theorem w_L_roundOf {G : gG} (hG : GOK G) (hY : GY G) {l : Launch} (hlf : l.stackTraces = false) {a0 : Nat} {a1 : Int32} {a2 : Nat} {M : Mem} {r : Int32} {M' : Mem} (hp : p_L_roundOf a0 a1 a2 M = some (r, M')) : CT G l yL_roundOf (wH yL_roundOf cL_roundOf 4 (some FieldType.int) [(0, 9, 12, 19)]) rm_L_roundOf [.ref a0, .int a1, .ref a2] M (some (.int r)) M' 1 6 := by
  refine CTH_of (own := RL) (maxL := 4) (ret := (some FieldType.int)) hG (by decide) rfl (Nat.le_of_ble_eq_true rfl) (fun p e s m below meth c A C0 hr hlk ht hM ls hl => ?_)
  have hl : lv_has ls 4 [(0, .ref a0), (1, .int a1), (2, .ref a2)] := hl
  generalize ([.ref a0, .int a1, .ref a2] : List Value).toArray = args at C0 ⊢
  skip
  have hYs := hY s C0.2.2.2.2.2.1.2.2
  have hx := C0.1
  have hb := C0.2.1
  have hown := C0.2.2.2.1
  have hts := C0.2.2.2.2.1
  unfold p_L_roundOf at hp
  refine lv_aload_n hx hb dL_roundOf_0 rfl (lv_at hl 2 rfl) ?_
  refine lv_iconst (v := 0) hx hb dL_roundOf_1 (by decide) ?_
  refine lv_aload_n hx hb dL_roundOf_2 rfl (lv_at hl 0 rfl) ?_
  refine lv_iload_n hx hb dL_roundOf_3 rfl (lv_at hl 1 rfl) ?_
  obtain ⟨_, h1, hp⟩ := ob hp
  rcases ctc_at hp with ⟨E3, hv2, hp⟩ | ⟨v2, hv2, hp⟩
  · by_cases e0 : E3 = "java/lang/IndexOutOfBoundsException"
    · replace hp := oT e0 hp
      subst e0
      refine mx_threw C0 hM (mx_runV (As := [.int a1]) (rest := [.int (0 : Int32), .ref a2]) C0 cbX6 hM h1 rfl (w_X6_roundOf hG hY hlf hv2) tw_968 tw_969 tw_970 tw_1 tw_971 yk_X6_roundOf (by decide) rfl hl.1 (Nat.le_of_ble_eq_true rfl) dL_roundOf_4) (fun H locs q4 ce hM hc1 hc2 hc3 => ?_)
      refine ml_c1 C0 hYs ht (by decide) (by decide) tw_803 (by decide +kernel) hc1 hc2 hc3 ?_
      refine lv_astore_n (lv' := [(3, .ref q4), (0, .ref a0), (1, .int a1), (2, .ref a2)]) hx hb dL_roundOf_12 rfl hl (by decide) rfl (fun ls hl => ?_)
      refine lv_iconst (v := 1) hx hb dL_roundOf_13 (by decide) ?_
      exact mr_iret C0 hr hlk hM (Prod.mk.inj (Option.some.inj hp)).2 (Prod.mk.inj (Option.some.inj hp)).1 (by decide) (by decide) dL_roundOf_14
    replace hp := oF e0 hp
    cases hp
  refine mx_back C0 hM (mx_runV (As := [.int a1]) (rest := [.int (0 : Int32), .ref a2]) C0 cbX6 hM h1 rfl (w_X6_roundOf hG hY hlf hv2) tw_968 tw_969 tw_970 tw_1 tw_971 yk_X6_roundOf (by decide) rfl hl.1 (Nat.le_of_ble_eq_true rfl) dL_roundOf_4) (fun H locs hM => ?_)
  refine lv_i2l (v := (Int32.toInt64 v2)) hx hb dL_roundOf_7 rfl ?_
  obtain ⟨M5, hM5, hp⟩ := ob hp
  refine mr_last C0 hM hM5 dL_roundOf_8 (fun H locs hM => ?_)
  refine lv_goto (tgt := 15) hx hb dL_roundOf_9 (by decide) ?_
  refine lv_iconst (v := 0) hx hb dL_roundOf_15 (by decide) ?_
  exact mr_iret C0 hr hlk hM (Prod.mk.inj (Option.some.inj hp)).2 (Prod.mk.inj (Option.some.inj hp)).1 (by decide) (by decide) dL_roundOf_16
abbrev rm_L_addChild : Room := { frames := 8, cells := 2, slots := 12, locals := 171 }
def p_L_addChild (a0 : Nat) (a1 : Int32) (a2 : Int32) (a3 : Int32) (a4 : Int32) (a5 : Int32) (a6 : Nat) (M : Mem) : Option (Int32 × Mem) :=
  (Option.bind (isC 5 M a0) fun _ =>
  (ctc2 (p_X6_addChild a0 a1 a2 a3 a4 a5 M) (fun (v2 : Int32) (M3 : Mem) =>
  (Option.bind (aLs M3 a6 (0 : Int32) (Int32.toInt64 v2)) fun M6 =>
  some ((0 : Int32), M6)
  )
  ) fun E4 =>
  (if E4 = "java/lang/IllegalArgumentException" then
  some ((1 : Int32), M)
  else
  (if E4 = "java/lang/IllegalStateException" then
  some ((2 : Int32), M)
  else
  none
  )
  )
  ))
theorem yk_L_addChild : yok yL_addChild 7 := by decide +kernel
set_option maxHeartbeats 4000000 in
set_option maxRecDepth 100000 in
theorem w_L_addChild {G : gG} (hG : GOK G) (hY : GY G) {l : Launch} (hlf : l.stackTraces = false) {a0 : Nat} {a1 : Int32} {a2 : Int32} {a3 : Int32} {a4 : Int32} {a5 : Int32} {a6 : Nat} {M : Mem} {r : Int32} {M' : Mem} (hp : p_L_addChild a0 a1 a2 a3 a4 a5 a6 M = some (r, M')) : CT G l yL_addChild (wH yL_addChild cL_addChild 8 (some FieldType.int) [(0, 16, 19, 13), (0, 16, 23, 71)]) rm_L_addChild [.ref a0, .int a1, .int a2, .int a3, .int a4, .int a5, .ref a6] M (some (.int r)) M' 2 12 := by
  refine CTH_of (own := RL) (maxL := 8) (ret := (some FieldType.int)) hG (by decide) rfl (Nat.le_of_ble_eq_true rfl) (fun p e s m below meth c A C0 hr hlk ht hM ls hl => ?_)
  have hl : lv_has ls 8 [(0, .ref a0), (1, .int a1), (2, .int a2), (3, .int a3), (4, .int a4), (5, .int a5), (6, .ref a6)] := hl
  generalize ([.ref a0, .int a1, .int a2, .int a3, .int a4, .int a5, .ref a6] : List Value).toArray = args at C0 ⊢
  skip
  have hYs := hY s C0.2.2.2.2.2.1.2.2
  have hx := C0.1
  have hb := C0.2.1
  have hown := C0.2.2.2.1
  have hts := C0.2.2.2.2.1
  unfold p_L_addChild at hp
  refine lv_aload hx hb dL_addChild_0 (lv_at hl 6 rfl) ?_
  refine lv_iconst (v := 0) hx hb dL_addChild_2 (by decide) ?_
  refine lv_aload_n hx hb dL_addChild_3 rfl (lv_at hl 0 rfl) ?_
  refine lv_iload_n hx hb dL_addChild_4 rfl (lv_at hl 1 rfl) ?_
  refine lv_iload_n hx hb dL_addChild_5 rfl (lv_at hl 2 rfl) ?_
  refine lv_iload_n hx hb dL_addChild_6 rfl (lv_at hl 3 rfl) ?_
  refine lv_iload hx hb dL_addChild_7 (lv_at hl 4 rfl) ?_
  refine lv_iload hx hb dL_addChild_9 (lv_at hl 5 rfl) ?_
  obtain ⟨_, h1, hp⟩ := ob hp
  rcases ctc2_at hp with ⟨E4, hv2, hp⟩ | ⟨v2, M3, hv2, hp⟩
  · by_cases e0 : E4 = "java/lang/IllegalArgumentException"
    · replace hp := oT e0 hp
      subst e0
      refine mx_threw C0 hM (mx_runV (As := [.int a1, .int a2, .int a3, .int a4, .int a5]) (rest := [.int (0 : Int32), .ref a6]) C0 cbX6 hM h1 rfl (w_X6_addChild hG hY hlf hv2) tw_976 tw_977 tw_978 tw_1 tw_979 yk_X6_addChild (by decide) rfl hl.1 (Nat.le_of_ble_eq_true rfl) dL_addChild_11) (fun H locs q5 ce hM hc1 hc2 hc3 => ?_)
      refine ml_c1 C0 hYs ht (by decide) (by decide) tw_723 (by decide +kernel) hc1 hc2 hc3 ?_
      refine lv_astore (lv' := [(7, .ref q5), (0, .ref a0), (1, .int a1), (2, .int a2), (3, .int a3), (4, .int a4), (5, .int a5), (6, .ref a6)]) hx hb dL_addChild_19 hl (by decide) rfl (fun ls hl => ?_)
      refine lv_iconst (v := 1) hx hb dL_addChild_21 (by decide) ?_
      exact mr_iret C0 hr hlk hM (Prod.mk.inj (Option.some.inj hp)).2 (Prod.mk.inj (Option.some.inj hp)).1 (by decide) (by decide) dL_addChild_22
    replace hp := oF e0 hp
    by_cases e1 : E4 = "java/lang/IllegalStateException"
    · replace hp := oT e1 hp
      subst e1
      refine mx_threw C0 hM (mx_runV (As := [.int a1, .int a2, .int a3, .int a4, .int a5]) (rest := [.int (0 : Int32), .ref a6]) C0 cbX6 hM h1 rfl (w_X6_addChild hG hY hlf hv2) tw_976 tw_977 tw_978 tw_1 tw_979 yk_X6_addChild (by decide) rfl hl.1 (Nat.le_of_ble_eq_true rfl) dL_addChild_11) (fun H locs q5 ce hM hc1 hc2 hc3 => ?_)
      refine ml_c2 C0 hYs ht (by decide) (by decide) (by decide) tw_723 (by decide +kernel) tw_975 (by decide +kernel) hc1 hc2 hc3 ?_
      refine lv_astore (lv' := [(7, .ref q5), (0, .ref a0), (1, .int a1), (2, .int a2), (3, .int a3), (4, .int a4), (5, .int a5), (6, .ref a6)]) hx hb dL_addChild_23 hl (by decide) rfl (fun ls hl => ?_)
      refine lv_iconst (v := 2) hx hb dL_addChild_25 (by decide) ?_
      exact mr_iret C0 hr hlk hM (Prod.mk.inj (Option.some.inj hp)).2 (Prod.mk.inj (Option.some.inj hp)).1 (by decide) (by decide) dL_addChild_26
    replace hp := oF e1 hp
    cases hp
  refine mx_back C0 hM (mx_runV (As := [.int a1, .int a2, .int a3, .int a4, .int a5]) (rest := [.int (0 : Int32), .ref a6]) C0 cbX6 hM h1 rfl (w_X6_addChild hG hY hlf hv2) tw_976 tw_977 tw_978 tw_1 tw_979 yk_X6_addChild (by decide) rfl hl.1 (Nat.le_of_ble_eq_true rfl) dL_addChild_11) (fun H locs hM => ?_)
  refine lv_i2l (v := (Int32.toInt64 v2)) hx hb dL_addChild_14 rfl ?_
  obtain ⟨M6, hM6, hp⟩ := ob hp
  refine mr_last C0 hM hM6 dL_addChild_15 (fun H locs hM => ?_)
  refine lv_goto (tgt := 27) hx hb dL_addChild_16 (by decide) ?_
  refine lv_iconst (v := 0) hx hb dL_addChild_27 (by decide) ?_
  exact mr_iret C0 hr hlk hM (Prod.mk.inj (Option.some.inj hp)).2 (Prod.mk.inj (Option.some.inj hp)).1 (by decide) (by decide) dL_addChild_28
abbrev rm_L_withdraw : Room := { frames := 8, cells := 2, slots := 12, locals := 166 }
def p_L_withdraw (a0 : Nat) (a1 : Int32) (a2 : Nat) (M : Mem) : Option (Int32 × Mem) :=
  (Option.bind (isC 5 M a0) fun _ =>
  (ctc2 (p_X6_withdraw a0 a1 M) (fun (v2 : Int32) (M3 : Mem) =>
  (Option.bind (aLs M3 a2 (0 : Int32) (Int32.toInt64 v2)) fun M6 =>
  some ((0 : Int32), M6)
  )
  ) fun E4 =>
  (if E4 = "java/lang/IndexOutOfBoundsException" then
  some ((1 : Int32), M)
  else
  (if E4 = "java/lang/IllegalStateException" then
  some ((2 : Int32), M)
  else
  none
  )
  )
  ))
theorem yk_L_withdraw : yok yL_withdraw 3 := by decide +kernel
set_option maxHeartbeats 4000000 in
set_option maxRecDepth 100000 in
theorem w_L_withdraw {G : gG} (hG : GOK G) (hY : GY G) {l : Launch} (hlf : l.stackTraces = false) {a0 : Nat} {a1 : Int32} {a2 : Nat} {M : Mem} {r : Int32} {M' : Mem} (hp : p_L_withdraw a0 a1 a2 M = some (r, M')) : CT G l yL_withdraw (wH yL_withdraw cL_withdraw 4 (some FieldType.int) [(0, 9, 12, 19), (0, 9, 15, 71)]) rm_L_withdraw [.ref a0, .int a1, .ref a2] M (some (.int r)) M' 2 12 := by
  refine CTH_of (own := RL) (maxL := 4) (ret := (some FieldType.int)) hG (by decide) rfl (Nat.le_of_ble_eq_true rfl) (fun p e s m below meth c A C0 hr hlk ht hM ls hl => ?_)
  have hl : lv_has ls 4 [(0, .ref a0), (1, .int a1), (2, .ref a2)] := hl
  generalize ([.ref a0, .int a1, .ref a2] : List Value).toArray = args at C0 ⊢
  skip
  have hYs := hY s C0.2.2.2.2.2.1.2.2
  have hx := C0.1
  have hb := C0.2.1
  have hown := C0.2.2.2.1
  have hts := C0.2.2.2.2.1
  unfold p_L_withdraw at hp
  refine lv_aload_n hx hb dL_withdraw_0 rfl (lv_at hl 2 rfl) ?_
  refine lv_iconst (v := 0) hx hb dL_withdraw_1 (by decide) ?_
  refine lv_aload_n hx hb dL_withdraw_2 rfl (lv_at hl 0 rfl) ?_
  refine lv_iload_n hx hb dL_withdraw_3 rfl (lv_at hl 1 rfl) ?_
  obtain ⟨_, h1, hp⟩ := ob hp
  rcases ctc2_at hp with ⟨E4, hv2, hp⟩ | ⟨v2, M3, hv2, hp⟩
  · by_cases e0 : E4 = "java/lang/IndexOutOfBoundsException"
    · replace hp := oT e0 hp
      subst e0
      refine mx_threw C0 hM (mx_runV (As := [.int a1]) (rest := [.int (0 : Int32), .ref a2]) C0 cbX6 hM h1 rfl (w_X6_withdraw hG hY hlf hv2) tw_1011 tw_1012 tw_1013 tw_1 tw_1014 yk_X6_withdraw (by decide) rfl hl.1 (Nat.le_of_ble_eq_true rfl) dL_withdraw_4) (fun H locs q5 ce hM hc1 hc2 hc3 => ?_)
      refine ml_c1 C0 hYs ht (by decide) (by decide) tw_803 (by decide +kernel) hc1 hc2 hc3 ?_
      refine lv_astore_n (lv' := [(3, .ref q5), (0, .ref a0), (1, .int a1), (2, .ref a2)]) hx hb dL_withdraw_12 rfl hl (by decide) rfl (fun ls hl => ?_)
      refine lv_iconst (v := 1) hx hb dL_withdraw_13 (by decide) ?_
      exact mr_iret C0 hr hlk hM (Prod.mk.inj (Option.some.inj hp)).2 (Prod.mk.inj (Option.some.inj hp)).1 (by decide) (by decide) dL_withdraw_14
    replace hp := oF e0 hp
    by_cases e1 : E4 = "java/lang/IllegalStateException"
    · replace hp := oT e1 hp
      subst e1
      refine mx_threw C0 hM (mx_runV (As := [.int a1]) (rest := [.int (0 : Int32), .ref a2]) C0 cbX6 hM h1 rfl (w_X6_withdraw hG hY hlf hv2) tw_1011 tw_1012 tw_1013 tw_1 tw_1014 yk_X6_withdraw (by decide) rfl hl.1 (Nat.le_of_ble_eq_true rfl) dL_withdraw_4) (fun H locs q5 ce hM hc1 hc2 hc3 => ?_)
      refine ml_c2 C0 hYs ht (by decide) (by decide) (by decide) tw_803 (by decide +kernel) tw_975 (by decide +kernel) hc1 hc2 hc3 ?_
      refine lv_astore_n (lv' := [(3, .ref q5), (0, .ref a0), (1, .int a1), (2, .ref a2)]) hx hb dL_withdraw_15 rfl hl (by decide) rfl (fun ls hl => ?_)
      refine lv_iconst (v := 2) hx hb dL_withdraw_16 (by decide) ?_
      exact mr_iret C0 hr hlk hM (Prod.mk.inj (Option.some.inj hp)).2 (Prod.mk.inj (Option.some.inj hp)).1 (by decide) (by decide) dL_withdraw_17
    replace hp := oF e1 hp
    cases hp
  refine mx_back C0 hM (mx_runV (As := [.int a1]) (rest := [.int (0 : Int32), .ref a2]) C0 cbX6 hM h1 rfl (w_X6_withdraw hG hY hlf hv2) tw_1011 tw_1012 tw_1013 tw_1 tw_1014 yk_X6_withdraw (by decide) rfl hl.1 (Nat.le_of_ble_eq_true rfl) dL_withdraw_4) (fun H locs hM => ?_)
  refine lv_i2l (v := (Int32.toInt64 v2)) hx hb dL_withdraw_7 rfl ?_
  obtain ⟨M6, hM6, hp⟩ := ob hp
  refine mr_last C0 hM hM6 dL_withdraw_8 (fun H locs hM => ?_)
  refine lv_goto (tgt := 18) hx hb dL_withdraw_9 (by decide) ?_
  refine lv_iconst (v := 0) hx hb dL_withdraw_18 (by decide) ?_
  exact mr_iret C0 hr hlk hM (Prod.mk.inj (Option.some.inj hp)).2 (Prod.mk.inj (Option.some.inj hp)).1 (by decide) (by decide) dL_withdraw_19
abbrev rm_L_giveBack : Room := { frames := 8, cells := 2, slots := 12, locals := 166 }
def p_L_giveBack (a0 : Nat) (a1 : Int32) (a2 : Nat) (M : Mem) : Option (Int32 × Mem) :=
  (Option.bind (isC 5 M a0) fun _ =>
  (ctc2 (p_X6_giveBack a0 a1 M) (fun (v2 : Int32) (M3 : Mem) =>
  (Option.bind (aLs M3 a2 (0 : Int32) (Int32.toInt64 v2)) fun M6 =>
  some ((0 : Int32), M6)
  )
  ) fun E4 =>
  (if E4 = "java/lang/IndexOutOfBoundsException" then
  some ((1 : Int32), M)
  else
  (if E4 = "java/lang/IllegalStateException" then
  some ((2 : Int32), M)
  else
  none
  )
  )
  ))
theorem yk_L_giveBack : yok yL_giveBack 3 := by decide +kernel
set_option maxHeartbeats 4000000 in
set_option maxRecDepth 100000 in
theorem w_L_giveBack {G : gG} (hG : GOK G) (hY : GY G) {l : Launch} (hlf : l.stackTraces = false) {a0 : Nat} {a1 : Int32} {a2 : Nat} {M : Mem} {r : Int32} {M' : Mem} (hp : p_L_giveBack a0 a1 a2 M = some (r, M')) : CT G l yL_giveBack (wH yL_giveBack cL_giveBack 4 (some FieldType.int) [(0, 9, 12, 19), (0, 9, 15, 71)]) rm_L_giveBack [.ref a0, .int a1, .ref a2] M (some (.int r)) M' 2 12 := by
  refine CTH_of (own := RL) (maxL := 4) (ret := (some FieldType.int)) hG (by decide) rfl (Nat.le_of_ble_eq_true rfl) (fun p e s m below meth c A C0 hr hlk ht hM ls hl => ?_)
  have hl : lv_has ls 4 [(0, .ref a0), (1, .int a1), (2, .ref a2)] := hl
  generalize ([.ref a0, .int a1, .ref a2] : List Value).toArray = args at C0 ⊢
  skip
  have hYs := hY s C0.2.2.2.2.2.1.2.2
  have hx := C0.1
  have hb := C0.2.1
  have hown := C0.2.2.2.1
  have hts := C0.2.2.2.2.1
  unfold p_L_giveBack at hp
  refine lv_aload_n hx hb dL_giveBack_0 rfl (lv_at hl 2 rfl) ?_
  refine lv_iconst (v := 0) hx hb dL_giveBack_1 (by decide) ?_
  refine lv_aload_n hx hb dL_giveBack_2 rfl (lv_at hl 0 rfl) ?_
  refine lv_iload_n hx hb dL_giveBack_3 rfl (lv_at hl 1 rfl) ?_
  obtain ⟨_, h1, hp⟩ := ob hp
  rcases ctc2_at hp with ⟨E4, hv2, hp⟩ | ⟨v2, M3, hv2, hp⟩
  · by_cases e0 : E4 = "java/lang/IndexOutOfBoundsException"
    · replace hp := oT e0 hp
      subst e0
      refine mx_threw C0 hM (mx_runV (As := [.int a1]) (rest := [.int (0 : Int32), .ref a2]) C0 cbX6 hM h1 rfl (w_X6_giveBack hG hY hlf hv2) tw_1023 tw_1024 tw_1025 tw_1 tw_1026 yk_X6_giveBack (by decide) rfl hl.1 (Nat.le_of_ble_eq_true rfl) dL_giveBack_4) (fun H locs q5 ce hM hc1 hc2 hc3 => ?_)
      refine ml_c1 C0 hYs ht (by decide) (by decide) tw_803 (by decide +kernel) hc1 hc2 hc3 ?_
      refine lv_astore_n (lv' := [(3, .ref q5), (0, .ref a0), (1, .int a1), (2, .ref a2)]) hx hb dL_giveBack_12 rfl hl (by decide) rfl (fun ls hl => ?_)
      refine lv_iconst (v := 1) hx hb dL_giveBack_13 (by decide) ?_
      exact mr_iret C0 hr hlk hM (Prod.mk.inj (Option.some.inj hp)).2 (Prod.mk.inj (Option.some.inj hp)).1 (by decide) (by decide) dL_giveBack_14
    replace hp := oF e0 hp
    by_cases e1 : E4 = "java/lang/IllegalStateException"
    · replace hp := oT e1 hp
      subst e1
      refine mx_threw C0 hM (mx_runV (As := [.int a1]) (rest := [.int (0 : Int32), .ref a2]) C0 cbX6 hM h1 rfl (w_X6_giveBack hG hY hlf hv2) tw_1023 tw_1024 tw_1025 tw_1 tw_1026 yk_X6_giveBack (by decide) rfl hl.1 (Nat.le_of_ble_eq_true rfl) dL_giveBack_4) (fun H locs q5 ce hM hc1 hc2 hc3 => ?_)
      refine ml_c2 C0 hYs ht (by decide) (by decide) (by decide) tw_803 (by decide +kernel) tw_975 (by decide +kernel) hc1 hc2 hc3 ?_
      refine lv_astore_n (lv' := [(3, .ref q5), (0, .ref a0), (1, .int a1), (2, .ref a2)]) hx hb dL_giveBack_15 rfl hl (by decide) rfl (fun ls hl => ?_)
      refine lv_iconst (v := 2) hx hb dL_giveBack_16 (by decide) ?_
      exact mr_iret C0 hr hlk hM (Prod.mk.inj (Option.some.inj hp)).2 (Prod.mk.inj (Option.some.inj hp)).1 (by decide) (by decide) dL_giveBack_17
    replace hp := oF e1 hp
    cases hp
  refine mx_back C0 hM (mx_runV (As := [.int a1]) (rest := [.int (0 : Int32), .ref a2]) C0 cbX6 hM h1 rfl (w_X6_giveBack hG hY hlf hv2) tw_1023 tw_1024 tw_1025 tw_1 tw_1026 yk_X6_giveBack (by decide) rfl hl.1 (Nat.le_of_ble_eq_true rfl) dL_giveBack_4) (fun H locs hM => ?_)
  refine lv_i2l (v := (Int32.toInt64 v2)) hx hb dL_giveBack_7 rfl ?_
  obtain ⟨M6, hM6, hp⟩ := ob hp
  refine mr_last C0 hM hM6 dL_giveBack_8 (fun H locs hM => ?_)
  refine lv_goto (tgt := 18) hx hb dL_giveBack_9 (by decide) ?_
  refine lv_iconst (v := 0) hx hb dL_giveBack_18 (by decide) ?_
  exact mr_iret C0 hr hlk hM (Prod.mk.inj (Option.some.inj hp)).2 (Prod.mk.inj (Option.some.inj hp)).1 (by decide) (by decide) dL_giveBack_19
abbrev rm_L_moveHome : Room := { frames := 8, cells := 2, slots := 12, locals := 170 }
def p_L_moveHome (a0 : Nat) (a1 : Int32) (a2 : Int32) (a3 : Int32) (a4 : Nat) (M : Mem) : Option (Int32 × Mem) :=
  (Option.bind (isC 5 M a0) fun _ =>
  (ctc2 (p_X6_moveHome a0 a1 a2 a3 M) (fun (v2 : Int32) (M3 : Mem) =>
  (Option.bind (aLs M3 a4 (0 : Int32) (Int32.toInt64 v2)) fun M6 =>
  some ((0 : Int32), M6)
  )
  ) fun E4 =>
  (if E4 = "java/lang/IndexOutOfBoundsException" then
  some ((1 : Int32), M)
  else
  (if E4 = "java/lang/IllegalArgumentException" then
  some ((2 : Int32), M)
  else
  none
  )
  )
  ))
theorem yk_L_moveHome : yok yL_moveHome 5 := by decide +kernel
set_option maxHeartbeats 4000000 in
set_option maxRecDepth 100000 in
theorem w_L_moveHome {G : gG} (hG : GOK G) (hY : GY G) {l : Launch} (hlf : l.stackTraces = false) {a0 : Nat} {a1 : Int32} {a2 : Int32} {a3 : Int32} {a4 : Nat} {M : Mem} {r : Int32} {M' : Mem} (hp : p_L_moveHome a0 a1 a2 a3 a4 M = some (r, M')) : CT G l yL_moveHome (wH yL_moveHome cL_moveHome 6 (some FieldType.int) [(0, 12, 15, 19), (0, 12, 19, 13)]) rm_L_moveHome [.ref a0, .int a1, .int a2, .int a3, .ref a4] M (some (.int r)) M' 2 12 := by
  refine CTH_of (own := RL) (maxL := 6) (ret := (some FieldType.int)) hG (by decide) rfl (Nat.le_of_ble_eq_true rfl) (fun p e s m below meth c A C0 hr hlk ht hM ls hl => ?_)
  have hl : lv_has ls 6 [(0, .ref a0), (1, .int a1), (2, .int a2), (3, .int a3), (4, .ref a4)] := hl
  generalize ([.ref a0, .int a1, .int a2, .int a3, .ref a4] : List Value).toArray = args at C0 ⊢
  skip
  have hYs := hY s C0.2.2.2.2.2.1.2.2
  have hx := C0.1
  have hb := C0.2.1
  have hown := C0.2.2.2.1
  have hts := C0.2.2.2.2.1
  unfold p_L_moveHome at hp
  refine lv_aload hx hb dL_moveHome_0 (lv_at hl 4 rfl) ?_
  refine lv_iconst (v := 0) hx hb dL_moveHome_2 (by decide) ?_
  refine lv_aload_n hx hb dL_moveHome_3 rfl (lv_at hl 0 rfl) ?_
  refine lv_iload_n hx hb dL_moveHome_4 rfl (lv_at hl 1 rfl) ?_
  refine lv_iload_n hx hb dL_moveHome_5 rfl (lv_at hl 2 rfl) ?_
  refine lv_iload_n hx hb dL_moveHome_6 rfl (lv_at hl 3 rfl) ?_
  obtain ⟨_, h1, hp⟩ := ob hp
  rcases ctc2_at hp with ⟨E4, hv2, hp⟩ | ⟨v2, M3, hv2, hp⟩
  · by_cases e0 : E4 = "java/lang/IndexOutOfBoundsException"
    · replace hp := oT e0 hp
      subst e0
      refine mx_threw C0 hM (mx_runV (As := [.int a1, .int a2, .int a3]) (rest := [.int (0 : Int32), .ref a4]) C0 cbX6 hM h1 rfl (w_X6_moveHome hG hY hlf hv2) tw_1037 tw_1038 tw_1039 tw_1 tw_1040 yk_X6_moveHome (by decide) rfl hl.1 (Nat.le_of_ble_eq_true rfl) dL_moveHome_7) (fun H locs q5 ce hM hc1 hc2 hc3 => ?_)
      refine ml_c1 C0 hYs ht (by decide) (by decide) tw_803 (by decide +kernel) hc1 hc2 hc3 ?_
      refine lv_astore (lv' := [(5, .ref q5), (0, .ref a0), (1, .int a1), (2, .int a2), (3, .int a3), (4, .ref a4)]) hx hb dL_moveHome_15 hl (by decide) rfl (fun ls hl => ?_)
      refine lv_iconst (v := 1) hx hb dL_moveHome_17 (by decide) ?_
      exact mr_iret C0 hr hlk hM (Prod.mk.inj (Option.some.inj hp)).2 (Prod.mk.inj (Option.some.inj hp)).1 (by decide) (by decide) dL_moveHome_18
    replace hp := oF e0 hp
    by_cases e1 : E4 = "java/lang/IllegalArgumentException"
    · replace hp := oT e1 hp
      subst e1
      refine mx_threw C0 hM (mx_runV (As := [.int a1, .int a2, .int a3]) (rest := [.int (0 : Int32), .ref a4]) C0 cbX6 hM h1 rfl (w_X6_moveHome hG hY hlf hv2) tw_1037 tw_1038 tw_1039 tw_1 tw_1040 yk_X6_moveHome (by decide) rfl hl.1 (Nat.le_of_ble_eq_true rfl) dL_moveHome_7) (fun H locs q5 ce hM hc1 hc2 hc3 => ?_)
      refine ml_c2 C0 hYs ht (by decide) (by decide) (by decide) tw_803 (by decide +kernel) tw_723 (by decide +kernel) hc1 hc2 hc3 ?_
      refine lv_astore (lv' := [(5, .ref q5), (0, .ref a0), (1, .int a1), (2, .int a2), (3, .int a3), (4, .ref a4)]) hx hb dL_moveHome_19 hl (by decide) rfl (fun ls hl => ?_)
      refine lv_iconst (v := 2) hx hb dL_moveHome_21 (by decide) ?_
      exact mr_iret C0 hr hlk hM (Prod.mk.inj (Option.some.inj hp)).2 (Prod.mk.inj (Option.some.inj hp)).1 (by decide) (by decide) dL_moveHome_22
    replace hp := oF e1 hp
    cases hp
  refine mx_back C0 hM (mx_runV (As := [.int a1, .int a2, .int a3]) (rest := [.int (0 : Int32), .ref a4]) C0 cbX6 hM h1 rfl (w_X6_moveHome hG hY hlf hv2) tw_1037 tw_1038 tw_1039 tw_1 tw_1040 yk_X6_moveHome (by decide) rfl hl.1 (Nat.le_of_ble_eq_true rfl) dL_moveHome_7) (fun H locs hM => ?_)
  refine lv_i2l (v := (Int32.toInt64 v2)) hx hb dL_moveHome_10 rfl ?_
  obtain ⟨M6, hM6, hp⟩ := ob hp
  refine mr_last C0 hM hM6 dL_moveHome_11 (fun H locs hM => ?_)
  refine lv_goto (tgt := 23) hx hb dL_moveHome_12 (by decide) ?_
  refine lv_iconst (v := 0) hx hb dL_moveHome_23 (by decide) ?_
  exact mr_iret C0 hr hlk hM (Prod.mk.inj (Option.some.inj hp)).2 (Prod.mk.inj (Option.some.inj hp)).1 (by decide) (by decide) dL_moveHome_24
abbrev rm_L_setCapacity : Room := { frames := 8, cells := 2, slots := 12, locals := 167 }
def p_L_setCapacity (a0 : Nat) (a1 : Int32) (a2 : Int32) (a3 : Nat) (M : Mem) : Option (Int32 × Mem) :=
  (Option.bind (isC 5 M a0) fun _ =>
  (ctc2 (p_X6_setCapacity a0 a1 a2 M) (fun (v2 : Int32) (M3 : Mem) =>
  (Option.bind (aLs M3 a3 (0 : Int32) (Int32.toInt64 v2)) fun M6 =>
  some ((0 : Int32), M6)
  )
  ) fun E4 =>
  (if E4 = "java/lang/IndexOutOfBoundsException" then
  some ((1 : Int32), M)
  else
  (if E4 = "java/lang/IllegalArgumentException" then
  some ((2 : Int32), M)
  else
  none
  )
  )
  ))
theorem yk_L_setCapacity : yok yL_setCapacity 4 := by decide +kernel
set_option maxHeartbeats 4000000 in
set_option maxRecDepth 100000 in
theorem w_L_setCapacity {G : gG} (hG : GOK G) (hY : GY G) {l : Launch} (hlf : l.stackTraces = false) {a0 : Nat} {a1 : Int32} {a2 : Int32} {a3 : Nat} {M : Mem} {r : Int32} {M' : Mem} (hp : p_L_setCapacity a0 a1 a2 a3 M = some (r, M')) : CT G l yL_setCapacity (wH yL_setCapacity cL_setCapacity 5 (some FieldType.int) [(0, 10, 13, 19), (0, 10, 17, 13)]) rm_L_setCapacity [.ref a0, .int a1, .int a2, .ref a3] M (some (.int r)) M' 2 12 := by
  refine CTH_of (own := RL) (maxL := 5) (ret := (some FieldType.int)) hG (by decide) rfl (Nat.le_of_ble_eq_true rfl) (fun p e s m below meth c A C0 hr hlk ht hM ls hl => ?_)
  have hl : lv_has ls 5 [(0, .ref a0), (1, .int a1), (2, .int a2), (3, .ref a3)] := hl
  generalize ([.ref a0, .int a1, .int a2, .ref a3] : List Value).toArray = args at C0 ⊢
  skip
  have hYs := hY s C0.2.2.2.2.2.1.2.2
  have hx := C0.1
  have hb := C0.2.1
  have hown := C0.2.2.2.1
  have hts := C0.2.2.2.2.1
  unfold p_L_setCapacity at hp
  refine lv_aload_n hx hb dL_setCapacity_0 rfl (lv_at hl 3 rfl) ?_
  refine lv_iconst (v := 0) hx hb dL_setCapacity_1 (by decide) ?_
  refine lv_aload_n hx hb dL_setCapacity_2 rfl (lv_at hl 0 rfl) ?_
  refine lv_iload_n hx hb dL_setCapacity_3 rfl (lv_at hl 1 rfl) ?_
  refine lv_iload_n hx hb dL_setCapacity_4 rfl (lv_at hl 2 rfl) ?_
  obtain ⟨_, h1, hp⟩ := ob hp
  rcases ctc2_at hp with ⟨E4, hv2, hp⟩ | ⟨v2, M3, hv2, hp⟩
  · by_cases e0 : E4 = "java/lang/IndexOutOfBoundsException"
    · replace hp := oT e0 hp
      subst e0
      refine mx_threw C0 hM (mx_runV (As := [.int a1, .int a2]) (rest := [.int (0 : Int32), .ref a3]) C0 cbX6 hM h1 rfl (w_X6_setCapacity hG hY hlf hv2) tw_1044 tw_1045 tw_1046 tw_1 tw_1047 yk_X6_setCapacity (by decide) rfl hl.1 (Nat.le_of_ble_eq_true rfl) dL_setCapacity_5) (fun H locs q5 ce hM hc1 hc2 hc3 => ?_)
      refine ml_c1 C0 hYs ht (by decide) (by decide) tw_803 (by decide +kernel) hc1 hc2 hc3 ?_
      refine lv_astore (lv' := [(4, .ref q5), (0, .ref a0), (1, .int a1), (2, .int a2), (3, .ref a3)]) hx hb dL_setCapacity_13 hl (by decide) rfl (fun ls hl => ?_)
      refine lv_iconst (v := 1) hx hb dL_setCapacity_15 (by decide) ?_
      exact mr_iret C0 hr hlk hM (Prod.mk.inj (Option.some.inj hp)).2 (Prod.mk.inj (Option.some.inj hp)).1 (by decide) (by decide) dL_setCapacity_16
    replace hp := oF e0 hp
    by_cases e1 : E4 = "java/lang/IllegalArgumentException"
    · replace hp := oT e1 hp
      subst e1
      refine mx_threw C0 hM (mx_runV (As := [.int a1, .int a2]) (rest := [.int (0 : Int32), .ref a3]) C0 cbX6 hM h1 rfl (w_X6_setCapacity hG hY hlf hv2) tw_1044 tw_1045 tw_1046 tw_1 tw_1047 yk_X6_setCapacity (by decide) rfl hl.1 (Nat.le_of_ble_eq_true rfl) dL_setCapacity_5) (fun H locs q5 ce hM hc1 hc2 hc3 => ?_)
      refine ml_c2 C0 hYs ht (by decide) (by decide) (by decide) tw_803 (by decide +kernel) tw_723 (by decide +kernel) hc1 hc2 hc3 ?_
      refine lv_astore (lv' := [(4, .ref q5), (0, .ref a0), (1, .int a1), (2, .int a2), (3, .ref a3)]) hx hb dL_setCapacity_17 hl (by decide) rfl (fun ls hl => ?_)
      refine lv_iconst (v := 2) hx hb dL_setCapacity_19 (by decide) ?_
      exact mr_iret C0 hr hlk hM (Prod.mk.inj (Option.some.inj hp)).2 (Prod.mk.inj (Option.some.inj hp)).1 (by decide) (by decide) dL_setCapacity_20
    replace hp := oF e1 hp
    cases hp
  refine mx_back C0 hM (mx_runV (As := [.int a1, .int a2]) (rest := [.int (0 : Int32), .ref a3]) C0 cbX6 hM h1 rfl (w_X6_setCapacity hG hY hlf hv2) tw_1044 tw_1045 tw_1046 tw_1 tw_1047 yk_X6_setCapacity (by decide) rfl hl.1 (Nat.le_of_ble_eq_true rfl) dL_setCapacity_5) (fun H locs hM => ?_)
  refine lv_i2l (v := (Int32.toInt64 v2)) hx hb dL_setCapacity_8 rfl ?_
  obtain ⟨M6, hM6, hp⟩ := ob hp
  refine mr_last C0 hM hM6 dL_setCapacity_9 (fun H locs hM => ?_)
  refine lv_goto (tgt := 21) hx hb dL_setCapacity_10 (by decide) ?_
  refine lv_iconst (v := 0) hx hb dL_setCapacity_21 (by decide) ?_
  exact mr_iret C0 hr hlk hM (Prod.mk.inj (Option.some.inj hp)).2 (Prod.mk.inj (Option.some.inj hp)).1 (by decide) (by decide) dL_setCapacity_22
abbrev rm_L_appeal : Room := { frames := 8, cells := 3, slots := 18, locals := 170 }
def p_L_appeal (a0 : Nat) (a1 : Int32) (a2 : Int32) (a3 : Nat) (M : Mem) : Option (Int32 × Mem) :=
  (Option.bind (isC 5 M a0) fun _ =>
  (ctc2 (p_X6_appeal a0 a1 a2 M) (fun (v2 : Int32) (M3 : Mem) =>
  (Option.bind (aLs M3 a3 (0 : Int32) (Int32.toInt64 v2)) fun M6 =>
  some ((0 : Int32), M6)
  )
  ) fun E4 =>
  (if E4 = "java/lang/IndexOutOfBoundsException" then
  some ((1 : Int32), M)
  else
  (if E4 = "java/lang/IllegalStateException" then
  some ((2 : Int32), M)
  else
  none
  )
  )
  ))
theorem yk_L_appeal : yok yL_appeal 4 := by decide +kernel
set_option maxHeartbeats 4000000 in
set_option maxRecDepth 100000 in
theorem w_L_appeal {G : gG} (hG : GOK G) (hY : GY G) {l : Launch} (hlf : l.stackTraces = false) {a0 : Nat} {a1 : Int32} {a2 : Int32} {a3 : Nat} {M : Mem} {r : Int32} {M' : Mem} (hp : p_L_appeal a0 a1 a2 a3 M = some (r, M')) : CT G l yL_appeal (wH yL_appeal cL_appeal 5 (some FieldType.int) [(0, 10, 13, 19), (0, 10, 17, 71)]) rm_L_appeal [.ref a0, .int a1, .int a2, .ref a3] M (some (.int r)) M' 3 18 := by
  refine CTH_of (own := RL) (maxL := 5) (ret := (some FieldType.int)) hG (by decide) rfl (Nat.le_of_ble_eq_true rfl) (fun p e s m below meth c A C0 hr hlk ht hM ls hl => ?_)
  have hl : lv_has ls 5 [(0, .ref a0), (1, .int a1), (2, .int a2), (3, .ref a3)] := hl
  generalize ([.ref a0, .int a1, .int a2, .ref a3] : List Value).toArray = args at C0 ⊢
  skip
  have hYs := hY s C0.2.2.2.2.2.1.2.2
  have hx := C0.1
  have hb := C0.2.1
  have hown := C0.2.2.2.1
  have hts := C0.2.2.2.2.1
  unfold p_L_appeal at hp
  refine lv_aload_n hx hb dL_appeal_0 rfl (lv_at hl 3 rfl) ?_
  refine lv_iconst (v := 0) hx hb dL_appeal_1 (by decide) ?_
  refine lv_aload_n hx hb dL_appeal_2 rfl (lv_at hl 0 rfl) ?_
  refine lv_iload_n hx hb dL_appeal_3 rfl (lv_at hl 1 rfl) ?_
  refine lv_iload_n hx hb dL_appeal_4 rfl (lv_at hl 2 rfl) ?_
  obtain ⟨_, h1, hp⟩ := ob hp
  rcases ctc2_at hp with ⟨E4, hv2, hp⟩ | ⟨v2, M3, hv2, hp⟩
  · by_cases e0 : E4 = "java/lang/IndexOutOfBoundsException"
    · replace hp := oT e0 hp
      subst e0
      refine mx_threw C0 hM (mx_runV (As := [.int a1, .int a2]) (rest := [.int (0 : Int32), .ref a3]) C0 cbX6 hM h1 rfl (w_X6_appeal hG hY hlf hv2) tw_1055 tw_1056 tw_1057 tw_1 tw_1058 yk_X6_appeal (by decide) rfl hl.1 (Nat.le_of_ble_eq_true rfl) dL_appeal_5) (fun H locs q5 ce hM hc1 hc2 hc3 => ?_)
      refine ml_c1 C0 hYs ht (by decide) (by decide) tw_803 (by decide +kernel) hc1 hc2 hc3 ?_
      refine lv_astore (lv' := [(4, .ref q5), (0, .ref a0), (1, .int a1), (2, .int a2), (3, .ref a3)]) hx hb dL_appeal_13 hl (by decide) rfl (fun ls hl => ?_)
      refine lv_iconst (v := 1) hx hb dL_appeal_15 (by decide) ?_
      exact mr_iret C0 hr hlk hM (Prod.mk.inj (Option.some.inj hp)).2 (Prod.mk.inj (Option.some.inj hp)).1 (by decide) (by decide) dL_appeal_16
    replace hp := oF e0 hp
    by_cases e1 : E4 = "java/lang/IllegalStateException"
    · replace hp := oT e1 hp
      subst e1
      refine mx_threw C0 hM (mx_runV (As := [.int a1, .int a2]) (rest := [.int (0 : Int32), .ref a3]) C0 cbX6 hM h1 rfl (w_X6_appeal hG hY hlf hv2) tw_1055 tw_1056 tw_1057 tw_1 tw_1058 yk_X6_appeal (by decide) rfl hl.1 (Nat.le_of_ble_eq_true rfl) dL_appeal_5) (fun H locs q5 ce hM hc1 hc2 hc3 => ?_)
      refine ml_c2 C0 hYs ht (by decide) (by decide) (by decide) tw_803 (by decide +kernel) tw_975 (by decide +kernel) hc1 hc2 hc3 ?_
      refine lv_astore (lv' := [(4, .ref q5), (0, .ref a0), (1, .int a1), (2, .int a2), (3, .ref a3)]) hx hb dL_appeal_17 hl (by decide) rfl (fun ls hl => ?_)
      refine lv_iconst (v := 2) hx hb dL_appeal_19 (by decide) ?_
      exact mr_iret C0 hr hlk hM (Prod.mk.inj (Option.some.inj hp)).2 (Prod.mk.inj (Option.some.inj hp)).1 (by decide) (by decide) dL_appeal_20
    replace hp := oF e1 hp
    cases hp
  refine mx_back C0 hM (mx_runV (As := [.int a1, .int a2]) (rest := [.int (0 : Int32), .ref a3]) C0 cbX6 hM h1 rfl (w_X6_appeal hG hY hlf hv2) tw_1055 tw_1056 tw_1057 tw_1 tw_1058 yk_X6_appeal (by decide) rfl hl.1 (Nat.le_of_ble_eq_true rfl) dL_appeal_5) (fun H locs hM => ?_)
  refine lv_i2l (v := (Int32.toInt64 v2)) hx hb dL_appeal_8 rfl ?_
  obtain ⟨M6, hM6, hp⟩ := ob hp
  refine mr_last C0 hM hM6 dL_appeal_9 (fun H locs hM => ?_)
  refine lv_goto (tgt := 21) hx hb dL_appeal_10 (by decide) ?_
  refine lv_iconst (v := 0) hx hb dL_appeal_21 (by decide) ?_
  exact mr_iret C0 hr hlk hM (Prod.mk.inj (Option.some.inj hp)).2 (Prod.mk.inj (Option.some.inj hp)).1 (by decide) (by decide) dL_appeal_22
abbrev rm_L_lastHolder : Room := { frames := 8, cells := 1, slots := 6, locals := 132 }
def p_L_lastHolder (a0 : Nat) (a1 : Int32) (a2 : Nat) (M : Mem) : Option (Int32 × Mem) :=
  (Option.bind (isC 5 M a0) fun _ =>
  (ctc (p_X6_lastHolder a0 a1 M) (fun (v2 : Int32) =>
  (Option.bind (aLs M a2 (0 : Int32) (Int32.toInt64 v2)) fun M5 =>
  some ((0 : Int32), M5)
  )
  ) fun E3 =>
  (if E3 = "java/lang/IndexOutOfBoundsException" then
  some ((1 : Int32), M)
  else
  none
  )
  ))
theorem yk_L_lastHolder : yok yL_lastHolder 3 := by decide +kernel
set_option maxHeartbeats 4000000 in
set_option maxRecDepth 100000 in
theorem w_L_lastHolder {G : gG} (hG : GOK G) (hY : GY G) {l : Launch} (hlf : l.stackTraces = false) {a0 : Nat} {a1 : Int32} {a2 : Nat} {M : Mem} {r : Int32} {M' : Mem} (hp : p_L_lastHolder a0 a1 a2 M = some (r, M')) : CT G l yL_lastHolder (wH yL_lastHolder cL_lastHolder 4 (some FieldType.int) [(0, 9, 12, 19)]) rm_L_lastHolder [.ref a0, .int a1, .ref a2] M (some (.int r)) M' 1 6 := by
  refine CTH_of (own := RL) (maxL := 4) (ret := (some FieldType.int)) hG (by decide) rfl (Nat.le_of_ble_eq_true rfl) (fun p e s m below meth c A C0 hr hlk ht hM ls hl => ?_)
  have hl : lv_has ls 4 [(0, .ref a0), (1, .int a1), (2, .ref a2)] := hl
  generalize ([.ref a0, .int a1, .ref a2] : List Value).toArray = args at C0 ⊢
  skip
  have hYs := hY s C0.2.2.2.2.2.1.2.2
  have hx := C0.1
  have hb := C0.2.1
  have hown := C0.2.2.2.1
  have hts := C0.2.2.2.2.1
  unfold p_L_lastHolder at hp
  refine lv_aload_n hx hb dL_lastHolder_0 rfl (lv_at hl 2 rfl) ?_
  refine lv_iconst (v := 0) hx hb dL_lastHolder_1 (by decide) ?_
  refine lv_aload_n hx hb dL_lastHolder_2 rfl (lv_at hl 0 rfl) ?_
  refine lv_iload_n hx hb dL_lastHolder_3 rfl (lv_at hl 1 rfl) ?_
  obtain ⟨_, h1, hp⟩ := ob hp
  rcases ctc_at hp with ⟨E3, hv2, hp⟩ | ⟨v2, hv2, hp⟩
  · by_cases e0 : E3 = "java/lang/IndexOutOfBoundsException"
    · replace hp := oT e0 hp
      subst e0
      refine mx_threw C0 hM (mx_runV (As := [.int a1]) (rest := [.int (0 : Int32), .ref a2]) C0 cbX6 hM h1 rfl (w_X6_lastHolder hG hY hlf hv2) tw_1068 tw_1069 tw_1070 tw_1 tw_1071 yk_X6_lastHolder (by decide) rfl hl.1 (Nat.le_of_ble_eq_true rfl) dL_lastHolder_4) (fun H locs q4 ce hM hc1 hc2 hc3 => ?_)
      refine ml_c1 C0 hYs ht (by decide) (by decide) tw_803 (by decide +kernel) hc1 hc2 hc3 ?_
      refine lv_astore_n (lv' := [(3, .ref q4), (0, .ref a0), (1, .int a1), (2, .ref a2)]) hx hb dL_lastHolder_12 rfl hl (by decide) rfl (fun ls hl => ?_)
      refine lv_iconst (v := 1) hx hb dL_lastHolder_13 (by decide) ?_
      exact mr_iret C0 hr hlk hM (Prod.mk.inj (Option.some.inj hp)).2 (Prod.mk.inj (Option.some.inj hp)).1 (by decide) (by decide) dL_lastHolder_14
    replace hp := oF e0 hp
    cases hp
  refine mx_back C0 hM (mx_runV (As := [.int a1]) (rest := [.int (0 : Int32), .ref a2]) C0 cbX6 hM h1 rfl (w_X6_lastHolder hG hY hlf hv2) tw_1068 tw_1069 tw_1070 tw_1 tw_1071 yk_X6_lastHolder (by decide) rfl hl.1 (Nat.le_of_ble_eq_true rfl) dL_lastHolder_4) (fun H locs hM => ?_)
  refine lv_i2l (v := (Int32.toInt64 v2)) hx hb dL_lastHolder_7 rfl ?_
  obtain ⟨M5, hM5, hp⟩ := ob hp
  refine mr_last C0 hM hM5 dL_lastHolder_8 (fun H locs hM => ?_)
  refine lv_goto (tgt := 15) hx hb dL_lastHolder_9 (by decide) ?_
  refine lv_iconst (v := 0) hx hb dL_lastHolder_15 (by decide) ?_
  exact mr_iret C0 hr hlk hM (Prod.mk.inj (Option.some.inj hp)).2 (Prod.mk.inj (Option.some.inj hp)).1 (by decide) (by decide) dL_lastHolder_16
abbrev rm_L_way : Room := { frames := 8, cells := 1, slots := 6, locals := 133 }
def p_L_way (a0 : Nat) (a1 : Int32) (a2 : Nat) (M : Mem) : Option (Int32 × Mem) :=
  (Option.bind (isC 5 M a0) fun _ =>
  (ctc (p_X6_way a0 a1 M) (fun (v2 : UInt32) =>
  (jn (FP.f2d v2) fun w5 =>
  (if w5 &&& 0x7fffffffffffffff ≤ 0x7ff0000000000000 then
  (Option.bind (aDs M a2 (0 : Int32) w5) fun M6 =>
  some ((0 : Int32), M6)
  )
  else none))
  ) fun E3 =>
  (if E3 = "java/lang/IndexOutOfBoundsException" then
  some ((1 : Int32), M)
  else
  none
  )
  ))
theorem yk_L_way : yok yL_way 3 := by decide +kernel
set_option maxHeartbeats 4000000 in
set_option maxRecDepth 100000 in
theorem w_L_way {G : gG} (hG : GOK G) (hY : GY G) {l : Launch} (hlf : l.stackTraces = false) {a0 : Nat} {a1 : Int32} {a2 : Nat} {M : Mem} {r : Int32} {M' : Mem} (hp : p_L_way a0 a1 a2 M = some (r, M')) : CT G l yL_way (wH yL_way cL_way 4 (some FieldType.int) [(0, 9, 12, 19)]) rm_L_way [.ref a0, .int a1, .ref a2] M (some (.int r)) M' 1 6 := by
  refine CTH_of (own := RL) (maxL := 4) (ret := (some FieldType.int)) hG (by decide) rfl (Nat.le_of_ble_eq_true rfl) (fun p e s m below meth c A C0 hr hlk ht hM ls hl => ?_)
  have hl : lv_has ls 4 [(0, .ref a0), (1, .int a1), (2, .ref a2)] := hl
  generalize ([.ref a0, .int a1, .ref a2] : List Value).toArray = args at C0 ⊢
  skip
  have hYs := hY s C0.2.2.2.2.2.1.2.2
  have hx := C0.1
  have hb := C0.2.1
  have hown := C0.2.2.2.1
  have hts := C0.2.2.2.2.1
  unfold p_L_way at hp
  refine lv_aload_n hx hb dL_way_0 rfl (lv_at hl 2 rfl) ?_
  refine lv_iconst (v := 0) hx hb dL_way_1 (by decide) ?_
  refine lv_aload_n hx hb dL_way_2 rfl (lv_at hl 0 rfl) ?_
  refine lv_iload_n hx hb dL_way_3 rfl (lv_at hl 1 rfl) ?_
  obtain ⟨_, h1, hp⟩ := ob hp
  rcases ctc_at hp with ⟨E3, hv2, hp⟩ | ⟨v2, hv2, hp⟩
  · by_cases e0 : E3 = "java/lang/IndexOutOfBoundsException"
    · replace hp := oT e0 hp
      subst e0
      refine mx_threw C0 hM (mx_runV (As := [.int a1]) (rest := [.int (0 : Int32), .ref a2]) C0 cbX6 hM h1 rfl (w_X6_way hG hY hlf hv2) tw_1076 tw_1077 tw_1078 tw_1 tw_1079 yk_X6_way (by decide) rfl hl.1 (Nat.le_of_ble_eq_true rfl) dL_way_4) (fun H locs q4 ce hM hc1 hc2 hc3 => ?_)
      refine ml_c1 C0 hYs ht (by decide) (by decide) tw_803 (by decide +kernel) hc1 hc2 hc3 ?_
      refine lv_astore_n (lv' := [(3, .ref q4), (0, .ref a0), (1, .int a1), (2, .ref a2)]) hx hb dL_way_12 rfl hl (by decide) rfl (fun ls hl => ?_)
      refine lv_iconst (v := 1) hx hb dL_way_13 (by decide) ?_
      exact mr_iret C0 hr hlk hM (Prod.mk.inj (Option.some.inj hp)).2 (Prod.mk.inj (Option.some.inj hp)).1 (by decide) (by decide) dL_way_14
    replace hp := oF e0 hp
    cases hp
  refine mx_back C0 hM (mx_runV (As := [.int a1]) (rest := [.int (0 : Int32), .ref a2]) C0 cbX6 hM h1 rfl (w_X6_way hG hY hlf hv2) tw_1076 tw_1077 tw_1078 tw_1 tw_1079 yk_X6_way (by decide) rfl hl.1 (Nat.le_of_ble_eq_true rfl) dL_way_4) (fun H locs hM => ?_)
  obtain ⟨w5, ew5, hp⟩ := ojn hp
  obtain ⟨hne, hp⟩ := oG hp
  refine lv_f2d hx hb dL_way_7 (by rw [← ew5]; exact hne) ?_
  rw [← ew5]
  obtain ⟨M6, hM6, hp⟩ := ob hp
  refine mr_dast C0 hM hM6 dL_way_8 (fun H locs hM => ?_)
  refine lv_goto (tgt := 15) hx hb dL_way_9 (by decide) ?_
  refine lv_iconst (v := 0) hx hb dL_way_15 (by decide) ?_
  exact mr_iret C0 hr hlk hM (Prod.mk.inj (Option.some.inj hp)).2 (Prod.mk.inj (Option.some.inj hp)).1 (by decide) (by decide) dL_way_16
abbrev rm_L_wanted : Room := { frames := 8, cells := 1, slots := 6, locals := 135 }
def p_L_wanted (a0 : Nat) (a1 : Int32) (a2 : Int32) (a3 : Nat) (M : Mem) : Option (Int32 × Mem) :=
  (Option.bind (isC 5 M a0) fun _ =>
  (ctc (p_X6_wanted a0 a1 a2 M) (fun (v2 : Int32) =>
  (Option.bind (aLs M a3 (0 : Int32) (Int32.toInt64 v2)) fun M5 =>
  some ((0 : Int32), M5)
  )
  ) fun E3 =>
  (if E3 = "java/lang/IndexOutOfBoundsException" then
  some ((1 : Int32), M)
  else
  none
  )
  ))
theorem yk_L_wanted : yok yL_wanted 4 := by decide +kernel
set_option maxHeartbeats 4000000 in
set_option maxRecDepth 100000 in
theorem w_L_wanted {G : gG} (hG : GOK G) (hY : GY G) {l : Launch} (hlf : l.stackTraces = false) {a0 : Nat} {a1 : Int32} {a2 : Int32} {a3 : Nat} {M : Mem} {r : Int32} {M' : Mem} (hp : p_L_wanted a0 a1 a2 a3 M = some (r, M')) : CT G l yL_wanted (wH yL_wanted cL_wanted 5 (some FieldType.int) [(0, 10, 13, 19)]) rm_L_wanted [.ref a0, .int a1, .int a2, .ref a3] M (some (.int r)) M' 1 6 := by
  refine CTH_of (own := RL) (maxL := 5) (ret := (some FieldType.int)) hG (by decide) rfl (Nat.le_of_ble_eq_true rfl) (fun p e s m below meth c A C0 hr hlk ht hM ls hl => ?_)
  have hl : lv_has ls 5 [(0, .ref a0), (1, .int a1), (2, .int a2), (3, .ref a3)] := hl
  generalize ([.ref a0, .int a1, .int a2, .ref a3] : List Value).toArray = args at C0 ⊢
  skip
  have hYs := hY s C0.2.2.2.2.2.1.2.2
  have hx := C0.1
  have hb := C0.2.1
  have hown := C0.2.2.2.1
  have hts := C0.2.2.2.2.1
  unfold p_L_wanted at hp
  refine lv_aload_n hx hb dL_wanted_0 rfl (lv_at hl 3 rfl) ?_
  refine lv_iconst (v := 0) hx hb dL_wanted_1 (by decide) ?_
  refine lv_aload_n hx hb dL_wanted_2 rfl (lv_at hl 0 rfl) ?_
  refine lv_iload_n hx hb dL_wanted_3 rfl (lv_at hl 1 rfl) ?_
  refine lv_iload_n hx hb dL_wanted_4 rfl (lv_at hl 2 rfl) ?_
  obtain ⟨_, h1, hp⟩ := ob hp
  rcases ctc_at hp with ⟨E3, hv2, hp⟩ | ⟨v2, hv2, hp⟩
  · by_cases e0 : E3 = "java/lang/IndexOutOfBoundsException"
    · replace hp := oT e0 hp
      subst e0
      refine mx_threw C0 hM (mx_runV (As := [.int a1, .int a2]) (rest := [.int (0 : Int32), .ref a3]) C0 cbX6 hM h1 rfl (w_X6_wanted hG hY hlf hv2) tw_1084 tw_1085 tw_1086 tw_1 tw_1087 yk_X6_wanted (by decide) rfl hl.1 (Nat.le_of_ble_eq_true rfl) dL_wanted_5) (fun H locs q4 ce hM hc1 hc2 hc3 => ?_)
      refine ml_c1 C0 hYs ht (by decide) (by decide) tw_803 (by decide +kernel) hc1 hc2 hc3 ?_
      refine lv_astore (lv' := [(4, .ref q4), (0, .ref a0), (1, .int a1), (2, .int a2), (3, .ref a3)]) hx hb dL_wanted_13 hl (by decide) rfl (fun ls hl => ?_)
      refine lv_iconst (v := 1) hx hb dL_wanted_15 (by decide) ?_
      exact mr_iret C0 hr hlk hM (Prod.mk.inj (Option.some.inj hp)).2 (Prod.mk.inj (Option.some.inj hp)).1 (by decide) (by decide) dL_wanted_16
    replace hp := oF e0 hp
    cases hp
  refine mx_back C0 hM (mx_runV (As := [.int a1, .int a2]) (rest := [.int (0 : Int32), .ref a3]) C0 cbX6 hM h1 rfl (w_X6_wanted hG hY hlf hv2) tw_1084 tw_1085 tw_1086 tw_1 tw_1087 yk_X6_wanted (by decide) rfl hl.1 (Nat.le_of_ble_eq_true rfl) dL_wanted_5) (fun H locs hM => ?_)
  refine lv_i2l (v := (Int32.toInt64 v2)) hx hb dL_wanted_8 rfl ?_
  obtain ⟨M5, hM5, hp⟩ := ob hp
  refine mr_last C0 hM hM5 dL_wanted_9 (fun H locs hM => ?_)
  refine lv_goto (tgt := 17) hx hb dL_wanted_10 (by decide) ?_
  refine lv_iconst (v := 0) hx hb dL_wanted_17 (by decide) ?_
  exact mr_iret C0 hr hlk hM (Prod.mk.inj (Option.some.inj hp)).2 (Prod.mk.inj (Option.some.inj hp)).1 (by decide) (by decide) dL_wanted_18
abbrev rm_L_inZone : Room := { frames := 8, cells := 1, slots := 6, locals := 134 }
def p_L_inZone (a0 : Nat) (a1 : Int32) (a2 : Nat) (M : Mem) : Option (Int32 × Mem) :=
  (Option.bind (isC 5 M a0) fun _ =>
  (ctc (p_X6_inZone a0 a1 M) (fun (v2 : Int32) =>
  (Option.bind (aLs M a2 (0 : Int32) (Int32.toInt64 v2)) fun M5 =>
  some ((0 : Int32), M5)
  )
  ) fun E3 =>
  (if E3 = "java/lang/IndexOutOfBoundsException" then
  some ((1 : Int32), M)
  else
  none
  )
  ))
theorem yk_L_inZone : yok yL_inZone 3 := by decide +kernel
set_option maxHeartbeats 4000000 in
set_option maxRecDepth 100000 in
theorem w_L_inZone {G : gG} (hG : GOK G) (hY : GY G) {l : Launch} (hlf : l.stackTraces = false) {a0 : Nat} {a1 : Int32} {a2 : Nat} {M : Mem} {r : Int32} {M' : Mem} (hp : p_L_inZone a0 a1 a2 M = some (r, M')) : CT G l yL_inZone (wH yL_inZone cL_inZone 4 (some FieldType.int) [(0, 9, 12, 19)]) rm_L_inZone [.ref a0, .int a1, .ref a2] M (some (.int r)) M' 1 6 := by
  refine CTH_of (own := RL) (maxL := 4) (ret := (some FieldType.int)) hG (by decide) rfl (Nat.le_of_ble_eq_true rfl) (fun p e s m below meth c A C0 hr hlk ht hM ls hl => ?_)
  have hl : lv_has ls 4 [(0, .ref a0), (1, .int a1), (2, .ref a2)] := hl
  generalize ([.ref a0, .int a1, .ref a2] : List Value).toArray = args at C0 ⊢
  skip
  have hYs := hY s C0.2.2.2.2.2.1.2.2
  have hx := C0.1
  have hb := C0.2.1
  have hown := C0.2.2.2.1
  have hts := C0.2.2.2.2.1
  unfold p_L_inZone at hp
  refine lv_aload_n hx hb dL_inZone_0 rfl (lv_at hl 2 rfl) ?_
  refine lv_iconst (v := 0) hx hb dL_inZone_1 (by decide) ?_
  refine lv_aload_n hx hb dL_inZone_2 rfl (lv_at hl 0 rfl) ?_
  refine lv_iload_n hx hb dL_inZone_3 rfl (lv_at hl 1 rfl) ?_
  obtain ⟨_, h1, hp⟩ := ob hp
  rcases ctc_at hp with ⟨E3, hv2, hp⟩ | ⟨v2, hv2, hp⟩
  · by_cases e0 : E3 = "java/lang/IndexOutOfBoundsException"
    · replace hp := oT e0 hp
      subst e0
      refine mx_threw C0 hM (mx_runV (As := [.int a1]) (rest := [.int (0 : Int32), .ref a2]) C0 cbX6 hM h1 rfl (w_X6_inZone hG hY hlf hv2) tw_1091 tw_1092 tw_1093 tw_1 tw_1094 yk_X6_inZone (by decide) rfl hl.1 (Nat.le_of_ble_eq_true rfl) dL_inZone_4) (fun H locs q4 ce hM hc1 hc2 hc3 => ?_)
      refine ml_c1 C0 hYs ht (by decide) (by decide) tw_803 (by decide +kernel) hc1 hc2 hc3 ?_
      refine lv_astore_n (lv' := [(3, .ref q4), (0, .ref a0), (1, .int a1), (2, .ref a2)]) hx hb dL_inZone_12 rfl hl (by decide) rfl (fun ls hl => ?_)
      refine lv_iconst (v := 1) hx hb dL_inZone_13 (by decide) ?_
      exact mr_iret C0 hr hlk hM (Prod.mk.inj (Option.some.inj hp)).2 (Prod.mk.inj (Option.some.inj hp)).1 (by decide) (by decide) dL_inZone_14
    replace hp := oF e0 hp
    cases hp
  refine mx_back C0 hM (mx_runV (As := [.int a1]) (rest := [.int (0 : Int32), .ref a2]) C0 cbX6 hM h1 rfl (w_X6_inZone hG hY hlf hv2) tw_1091 tw_1092 tw_1093 tw_1 tw_1094 yk_X6_inZone (by decide) rfl hl.1 (Nat.le_of_ble_eq_true rfl) dL_inZone_4) (fun H locs hM => ?_)
  refine lv_i2l (v := (Int32.toInt64 v2)) hx hb dL_inZone_7 rfl ?_
  obtain ⟨M5, hM5, hp⟩ := ob hp
  refine mr_last C0 hM hM5 dL_inZone_8 (fun H locs hM => ?_)
  refine lv_goto (tgt := 15) hx hb dL_inZone_9 (by decide) ?_
  refine lv_iconst (v := 0) hx hb dL_inZone_15 (by decide) ?_
  exact mr_iret C0 hr hlk hM (Prod.mk.inj (Option.some.inj hp)).2 (Prod.mk.inj (Option.some.inj hp)).1 (by decide) (by decide) dL_inZone_16
abbrev rm_L_cutoff : Room := { frames := 8, cells := 2, slots := 12, locals := 134 }
def p_L_cutoff (a0 : Nat) (a1 : Int32) (a2 : Int32) (a3 : Nat) (M : Mem) : Option (Int32 × Mem) :=
  (Option.bind (isC 5 M a0) fun _ =>
  (ctc (p_X6_cutoff a0 a1 a2 M) (fun (v2 : Int32) =>
  (Option.bind (aLs M a3 (0 : Int32) (Int32.toInt64 v2)) fun M5 =>
  some ((0 : Int32), M5)
  )
  ) fun E3 =>
  (if E3 = "java/lang/IndexOutOfBoundsException" then
  some ((1 : Int32), M)
  else
  (if E3 = "java/lang/IllegalArgumentException" then
  some ((2 : Int32), M)
  else
  none
  )
  )
  ))
theorem yk_L_cutoff : yok yL_cutoff 4 := by decide +kernel
set_option maxHeartbeats 4000000 in
set_option maxRecDepth 100000 in
theorem w_L_cutoff {G : gG} (hG : GOK G) (hY : GY G) {l : Launch} (hlf : l.stackTraces = false) {a0 : Nat} {a1 : Int32} {a2 : Int32} {a3 : Nat} {M : Mem} {r : Int32} {M' : Mem} (hp : p_L_cutoff a0 a1 a2 a3 M = some (r, M')) : CT G l yL_cutoff (wH yL_cutoff cL_cutoff 5 (some FieldType.int) [(0, 10, 13, 19), (0, 10, 17, 13)]) rm_L_cutoff [.ref a0, .int a1, .int a2, .ref a3] M (some (.int r)) M' 2 12 := by
  refine CTH_of (own := RL) (maxL := 5) (ret := (some FieldType.int)) hG (by decide) rfl (Nat.le_of_ble_eq_true rfl) (fun p e s m below meth c A C0 hr hlk ht hM ls hl => ?_)
  have hl : lv_has ls 5 [(0, .ref a0), (1, .int a1), (2, .int a2), (3, .ref a3)] := hl
  generalize ([.ref a0, .int a1, .int a2, .ref a3] : List Value).toArray = args at C0 ⊢
  skip
  have hYs := hY s C0.2.2.2.2.2.1.2.2
  have hx := C0.1
  have hb := C0.2.1
  have hown := C0.2.2.2.1
  have hts := C0.2.2.2.2.1
  unfold p_L_cutoff at hp
  refine lv_aload_n hx hb dL_cutoff_0 rfl (lv_at hl 3 rfl) ?_
  refine lv_iconst (v := 0) hx hb dL_cutoff_1 (by decide) ?_
  refine lv_aload_n hx hb dL_cutoff_2 rfl (lv_at hl 0 rfl) ?_
  refine lv_iload_n hx hb dL_cutoff_3 rfl (lv_at hl 1 rfl) ?_
  refine lv_iload_n hx hb dL_cutoff_4 rfl (lv_at hl 2 rfl) ?_
  obtain ⟨_, h1, hp⟩ := ob hp
  rcases ctc_at hp with ⟨E3, hv2, hp⟩ | ⟨v2, hv2, hp⟩
  · by_cases e0 : E3 = "java/lang/IndexOutOfBoundsException"
    · replace hp := oT e0 hp
      subst e0
      refine mx_threw C0 hM (mx_runV (As := [.int a1, .int a2]) (rest := [.int (0 : Int32), .ref a3]) C0 cbX6 hM h1 rfl (w_X6_cutoff hG hY hlf hv2) tw_1098 tw_1099 tw_1100 tw_1 tw_1101 yk_X6_cutoff (by decide) rfl hl.1 (Nat.le_of_ble_eq_true rfl) dL_cutoff_5) (fun H locs q4 ce hM hc1 hc2 hc3 => ?_)
      refine ml_c1 C0 hYs ht (by decide) (by decide) tw_803 (by decide +kernel) hc1 hc2 hc3 ?_
      refine lv_astore (lv' := [(4, .ref q4), (0, .ref a0), (1, .int a1), (2, .int a2), (3, .ref a3)]) hx hb dL_cutoff_13 hl (by decide) rfl (fun ls hl => ?_)
      refine lv_iconst (v := 1) hx hb dL_cutoff_15 (by decide) ?_
      exact mr_iret C0 hr hlk hM (Prod.mk.inj (Option.some.inj hp)).2 (Prod.mk.inj (Option.some.inj hp)).1 (by decide) (by decide) dL_cutoff_16
    replace hp := oF e0 hp
    by_cases e1 : E3 = "java/lang/IllegalArgumentException"
    · replace hp := oT e1 hp
      subst e1
      refine mx_threw C0 hM (mx_runV (As := [.int a1, .int a2]) (rest := [.int (0 : Int32), .ref a3]) C0 cbX6 hM h1 rfl (w_X6_cutoff hG hY hlf hv2) tw_1098 tw_1099 tw_1100 tw_1 tw_1101 yk_X6_cutoff (by decide) rfl hl.1 (Nat.le_of_ble_eq_true rfl) dL_cutoff_5) (fun H locs q4 ce hM hc1 hc2 hc3 => ?_)
      refine ml_c2 C0 hYs ht (by decide) (by decide) (by decide) tw_803 (by decide +kernel) tw_723 (by decide +kernel) hc1 hc2 hc3 ?_
      refine lv_astore (lv' := [(4, .ref q4), (0, .ref a0), (1, .int a1), (2, .int a2), (3, .ref a3)]) hx hb dL_cutoff_17 hl (by decide) rfl (fun ls hl => ?_)
      refine lv_iconst (v := 2) hx hb dL_cutoff_19 (by decide) ?_
      exact mr_iret C0 hr hlk hM (Prod.mk.inj (Option.some.inj hp)).2 (Prod.mk.inj (Option.some.inj hp)).1 (by decide) (by decide) dL_cutoff_20
    replace hp := oF e1 hp
    cases hp
  refine mx_back C0 hM (mx_runV (As := [.int a1, .int a2]) (rest := [.int (0 : Int32), .ref a3]) C0 cbX6 hM h1 rfl (w_X6_cutoff hG hY hlf hv2) tw_1098 tw_1099 tw_1100 tw_1 tw_1101 yk_X6_cutoff (by decide) rfl hl.1 (Nat.le_of_ble_eq_true rfl) dL_cutoff_5) (fun H locs hM => ?_)
  refine lv_i2l (v := (Int32.toInt64 v2)) hx hb dL_cutoff_8 rfl ?_
  obtain ⟨M5, hM5, hp⟩ := ob hp
  refine mr_last C0 hM hM5 dL_cutoff_9 (fun H locs hM => ?_)
  refine lv_goto (tgt := 21) hx hb dL_cutoff_10 (by decide) ?_
  refine lv_iconst (v := 0) hx hb dL_cutoff_21 (by decide) ?_
  exact mr_iret C0 hr hlk hM (Prod.mk.inj (Option.some.inj hp)).2 (Prod.mk.inj (Option.some.inj hp)).1 (by decide) (by decide) dL_cutoff_22
abbrev rm_L_nearest : Room := { frames := 8, cells := 1, slots := 6, locals := 134 }
def p_L_nearest (a0 : Nat) (a1 : Int32) (a2 : Nat) (M : Mem) : Option (Int32 × Mem) :=
  (Option.bind (isC 5 M a0) fun _ =>
  (ctc (p_X6_nearest a0 a1 M) (fun (v2 : Int32) =>
  (Option.bind (aLs M a2 (0 : Int32) (Int32.toInt64 v2)) fun M5 =>
  some ((0 : Int32), M5)
  )
  ) fun E3 =>
  (if E3 = "java/lang/IndexOutOfBoundsException" then
  some ((1 : Int32), M)
  else
  none
  )
  ))
theorem yk_L_nearest : yok yL_nearest 3 := by decide +kernel
set_option maxHeartbeats 4000000 in
set_option maxRecDepth 100000 in
theorem w_L_nearest {G : gG} (hG : GOK G) (hY : GY G) {l : Launch} (hlf : l.stackTraces = false) {a0 : Nat} {a1 : Int32} {a2 : Nat} {M : Mem} {r : Int32} {M' : Mem} (hp : p_L_nearest a0 a1 a2 M = some (r, M')) : CT G l yL_nearest (wH yL_nearest cL_nearest 4 (some FieldType.int) [(0, 9, 12, 19)]) rm_L_nearest [.ref a0, .int a1, .ref a2] M (some (.int r)) M' 1 6 := by
  refine CTH_of (own := RL) (maxL := 4) (ret := (some FieldType.int)) hG (by decide) rfl (Nat.le_of_ble_eq_true rfl) (fun p e s m below meth c A C0 hr hlk ht hM ls hl => ?_)
  have hl : lv_has ls 4 [(0, .ref a0), (1, .int a1), (2, .ref a2)] := hl
  generalize ([.ref a0, .int a1, .ref a2] : List Value).toArray = args at C0 ⊢
  skip
  have hYs := hY s C0.2.2.2.2.2.1.2.2
  have hx := C0.1
  have hb := C0.2.1
  have hown := C0.2.2.2.1
  have hts := C0.2.2.2.2.1
  unfold p_L_nearest at hp
  refine lv_aload_n hx hb dL_nearest_0 rfl (lv_at hl 2 rfl) ?_
  refine lv_iconst (v := 0) hx hb dL_nearest_1 (by decide) ?_
  refine lv_aload_n hx hb dL_nearest_2 rfl (lv_at hl 0 rfl) ?_
  refine lv_iload_n hx hb dL_nearest_3 rfl (lv_at hl 1 rfl) ?_
  obtain ⟨_, h1, hp⟩ := ob hp
  rcases ctc_at hp with ⟨E3, hv2, hp⟩ | ⟨v2, hv2, hp⟩
  · by_cases e0 : E3 = "java/lang/IndexOutOfBoundsException"
    · replace hp := oT e0 hp
      subst e0
      refine mx_threw C0 hM (mx_runV (As := [.int a1]) (rest := [.int (0 : Int32), .ref a2]) C0 cbX6 hM h1 rfl (w_X6_nearest hG hY hlf hv2) tw_1105 tw_1106 tw_1107 tw_1 tw_1108 yk_X6_nearest (by decide) rfl hl.1 (Nat.le_of_ble_eq_true rfl) dL_nearest_4) (fun H locs q4 ce hM hc1 hc2 hc3 => ?_)
      refine ml_c1 C0 hYs ht (by decide) (by decide) tw_803 (by decide +kernel) hc1 hc2 hc3 ?_
      refine lv_astore_n (lv' := [(3, .ref q4), (0, .ref a0), (1, .int a1), (2, .ref a2)]) hx hb dL_nearest_12 rfl hl (by decide) rfl (fun ls hl => ?_)
      refine lv_iconst (v := 1) hx hb dL_nearest_13 (by decide) ?_
      exact mr_iret C0 hr hlk hM (Prod.mk.inj (Option.some.inj hp)).2 (Prod.mk.inj (Option.some.inj hp)).1 (by decide) (by decide) dL_nearest_14
    replace hp := oF e0 hp
    cases hp
  refine mx_back C0 hM (mx_runV (As := [.int a1]) (rest := [.int (0 : Int32), .ref a2]) C0 cbX6 hM h1 rfl (w_X6_nearest hG hY hlf hv2) tw_1105 tw_1106 tw_1107 tw_1 tw_1108 yk_X6_nearest (by decide) rfl hl.1 (Nat.le_of_ble_eq_true rfl) dL_nearest_4) (fun H locs hM => ?_)
  refine lv_i2l (v := (Int32.toInt64 v2)) hx hb dL_nearest_7 rfl ?_
  obtain ⟨M5, hM5, hp⟩ := ob hp
  refine mr_last C0 hM hM5 dL_nearest_8 (fun H locs hM => ?_)
  refine lv_goto (tgt := 15) hx hb dL_nearest_9 (by decide) ?_
  refine lv_iconst (v := 0) hx hb dL_nearest_15 (by decide) ?_
  exact mr_iret C0 hr hlk hM (Prod.mk.inj (Option.some.inj hp)).2 (Prod.mk.inj (Option.some.inj hp)).1 (by decide) (by decide) dL_nearest_16
abbrev rm_L_chainOf : Room := { frames := 8, cells := 1, slots := 6, locals := 165 }
def p_L_chainOf (a0 : Nat) (a1 : Int32) (a2 : Nat) (M : Mem) : Option (Int32 × Mem) :=
  (Option.bind (isC 5 M a0) fun _ =>
  (ctc2 (p_X6_chainOf a0 a1 M) (fun (v2 : Int32) (M3 : Mem) =>
  (Option.bind (aLs M3 a2 (0 : Int32) (Int32.toInt64 v2)) fun M6 =>
  some ((0 : Int32), M6)
  )
  ) fun E4 =>
  (if E4 = "java/lang/IndexOutOfBoundsException" then
  some ((1 : Int32), M)
  else
  none
  )
  ))
theorem yk_L_chainOf : yok yL_chainOf 3 := by decide +kernel
set_option maxHeartbeats 4000000 in
set_option maxRecDepth 100000 in
theorem w_L_chainOf {G : gG} (hG : GOK G) (hY : GY G) {l : Launch} (hlf : l.stackTraces = false) {a0 : Nat} {a1 : Int32} {a2 : Nat} {M : Mem} {r : Int32} {M' : Mem} (hp : p_L_chainOf a0 a1 a2 M = some (r, M')) : CT G l yL_chainOf (wH yL_chainOf cL_chainOf 4 (some FieldType.int) [(0, 9, 12, 19)]) rm_L_chainOf [.ref a0, .int a1, .ref a2] M (some (.int r)) M' 1 6 := by
  refine CTH_of (own := RL) (maxL := 4) (ret := (some FieldType.int)) hG (by decide) rfl (Nat.le_of_ble_eq_true rfl) (fun p e s m below meth c A C0 hr hlk ht hM ls hl => ?_)
  have hl : lv_has ls 4 [(0, .ref a0), (1, .int a1), (2, .ref a2)] := hl
  generalize ([.ref a0, .int a1, .ref a2] : List Value).toArray = args at C0 ⊢
  skip
  have hYs := hY s C0.2.2.2.2.2.1.2.2
  have hx := C0.1
  have hb := C0.2.1
  have hown := C0.2.2.2.1
  have hts := C0.2.2.2.2.1
  unfold p_L_chainOf at hp
  refine lv_aload_n hx hb dL_chainOf_0 rfl (lv_at hl 2 rfl) ?_
  refine lv_iconst (v := 0) hx hb dL_chainOf_1 (by decide) ?_
  refine lv_aload_n hx hb dL_chainOf_2 rfl (lv_at hl 0 rfl) ?_
  refine lv_iload_n hx hb dL_chainOf_3 rfl (lv_at hl 1 rfl) ?_
  obtain ⟨_, h1, hp⟩ := ob hp
  rcases ctc2_at hp with ⟨E4, hv2, hp⟩ | ⟨v2, M3, hv2, hp⟩
  · by_cases e0 : E4 = "java/lang/IndexOutOfBoundsException"
    · replace hp := oT e0 hp
      subst e0
      refine mx_threw C0 hM (mx_runV (As := [.int a1]) (rest := [.int (0 : Int32), .ref a2]) C0 cbX6 hM h1 rfl (w_X6_chainOf hG hY hlf hv2) tw_1112 tw_1113 tw_1114 tw_1 tw_1115 yk_X6_chainOf (by decide) rfl hl.1 (Nat.le_of_ble_eq_true rfl) dL_chainOf_4) (fun H locs q5 ce hM hc1 hc2 hc3 => ?_)
      refine ml_c1 C0 hYs ht (by decide) (by decide) tw_803 (by decide +kernel) hc1 hc2 hc3 ?_
      refine lv_astore_n (lv' := [(3, .ref q5), (0, .ref a0), (1, .int a1), (2, .ref a2)]) hx hb dL_chainOf_12 rfl hl (by decide) rfl (fun ls hl => ?_)
      refine lv_iconst (v := 1) hx hb dL_chainOf_13 (by decide) ?_
      exact mr_iret C0 hr hlk hM (Prod.mk.inj (Option.some.inj hp)).2 (Prod.mk.inj (Option.some.inj hp)).1 (by decide) (by decide) dL_chainOf_14
    replace hp := oF e0 hp
    cases hp
  refine mx_back C0 hM (mx_runV (As := [.int a1]) (rest := [.int (0 : Int32), .ref a2]) C0 cbX6 hM h1 rfl (w_X6_chainOf hG hY hlf hv2) tw_1112 tw_1113 tw_1114 tw_1 tw_1115 yk_X6_chainOf (by decide) rfl hl.1 (Nat.le_of_ble_eq_true rfl) dL_chainOf_4) (fun H locs hM => ?_)
  refine lv_i2l (v := (Int32.toInt64 v2)) hx hb dL_chainOf_7 rfl ?_
  obtain ⟨M6, hM6, hp⟩ := ob hp
  refine mr_last C0 hM hM6 dL_chainOf_8 (fun H locs hM => ?_)
  refine lv_goto (tgt := 15) hx hb dL_chainOf_9 (by decide) ?_
  refine lv_iconst (v := 0) hx hb dL_chainOf_15 (by decide) ?_
  exact mr_iret C0 hr hlk hM (Prod.mk.inj (Option.some.inj hp)).2 (Prod.mk.inj (Option.some.inj hp)).1 (by decide) (by decide) dL_chainOf_16
abbrev rm_L_tradePartner : Room := { frames := 8, cells := 1, slots := 6, locals := 133 }
def p_L_tradePartner (a0 : Nat) (a1 : Int32) (a2 : Nat) (M : Mem) : Option (Int32 × Mem) :=
  (Option.bind (isC 5 M a0) fun _ =>
  (ctc (p_X6_tradePartner a0 a1 M) (fun (v2 : Int32) =>
  (Option.bind (aLs M a2 (0 : Int32) (Int32.toInt64 v2)) fun M5 =>
  some ((0 : Int32), M5)
  )
  ) fun E3 =>
  (if E3 = "java/lang/IndexOutOfBoundsException" then
  some ((1 : Int32), M)
  else
  none
  )
  ))
theorem yk_L_tradePartner : yok yL_tradePartner 3 := by decide +kernel
set_option maxHeartbeats 4000000 in
set_option maxRecDepth 100000 in
theorem w_L_tradePartner {G : gG} (hG : GOK G) (hY : GY G) {l : Launch} (hlf : l.stackTraces = false) {a0 : Nat} {a1 : Int32} {a2 : Nat} {M : Mem} {r : Int32} {M' : Mem} (hp : p_L_tradePartner a0 a1 a2 M = some (r, M')) : CT G l yL_tradePartner (wH yL_tradePartner cL_tradePartner 4 (some FieldType.int) [(0, 9, 12, 19)]) rm_L_tradePartner [.ref a0, .int a1, .ref a2] M (some (.int r)) M' 1 6 := by
  refine CTH_of (own := RL) (maxL := 4) (ret := (some FieldType.int)) hG (by decide) rfl (Nat.le_of_ble_eq_true rfl) (fun p e s m below meth c A C0 hr hlk ht hM ls hl => ?_)
  have hl : lv_has ls 4 [(0, .ref a0), (1, .int a1), (2, .ref a2)] := hl
  generalize ([.ref a0, .int a1, .ref a2] : List Value).toArray = args at C0 ⊢
  skip
  have hYs := hY s C0.2.2.2.2.2.1.2.2
  have hx := C0.1
  have hb := C0.2.1
  have hown := C0.2.2.2.1
  have hts := C0.2.2.2.2.1
  unfold p_L_tradePartner at hp
  refine lv_aload_n hx hb dL_tradePartner_0 rfl (lv_at hl 2 rfl) ?_
  refine lv_iconst (v := 0) hx hb dL_tradePartner_1 (by decide) ?_
  refine lv_aload_n hx hb dL_tradePartner_2 rfl (lv_at hl 0 rfl) ?_
  refine lv_iload_n hx hb dL_tradePartner_3 rfl (lv_at hl 1 rfl) ?_
  obtain ⟨_, h1, hp⟩ := ob hp
  rcases ctc_at hp with ⟨E3, hv2, hp⟩ | ⟨v2, hv2, hp⟩
  · by_cases e0 : E3 = "java/lang/IndexOutOfBoundsException"
    · replace hp := oT e0 hp
      subst e0
      refine mx_threw C0 hM (mx_runV (As := [.int a1]) (rest := [.int (0 : Int32), .ref a2]) C0 cbX6 hM h1 rfl (w_X6_tradePartner hG hY hlf hv2) tw_1119 tw_1120 tw_1121 tw_1 tw_1122 yk_X6_tradePartner (by decide) rfl hl.1 (Nat.le_of_ble_eq_true rfl) dL_tradePartner_4) (fun H locs q4 ce hM hc1 hc2 hc3 => ?_)
      refine ml_c1 C0 hYs ht (by decide) (by decide) tw_803 (by decide +kernel) hc1 hc2 hc3 ?_
      refine lv_astore_n (lv' := [(3, .ref q4), (0, .ref a0), (1, .int a1), (2, .ref a2)]) hx hb dL_tradePartner_12 rfl hl (by decide) rfl (fun ls hl => ?_)
      refine lv_iconst (v := 1) hx hb dL_tradePartner_13 (by decide) ?_
      exact mr_iret C0 hr hlk hM (Prod.mk.inj (Option.some.inj hp)).2 (Prod.mk.inj (Option.some.inj hp)).1 (by decide) (by decide) dL_tradePartner_14
    replace hp := oF e0 hp
    cases hp
  refine mx_back C0 hM (mx_runV (As := [.int a1]) (rest := [.int (0 : Int32), .ref a2]) C0 cbX6 hM h1 rfl (w_X6_tradePartner hG hY hlf hv2) tw_1119 tw_1120 tw_1121 tw_1 tw_1122 yk_X6_tradePartner (by decide) rfl hl.1 (Nat.le_of_ble_eq_true rfl) dL_tradePartner_4) (fun H locs hM => ?_)
  refine lv_i2l (v := (Int32.toInt64 v2)) hx hb dL_tradePartner_7 rfl ?_
  obtain ⟨M5, hM5, hp⟩ := ob hp
  refine mr_last C0 hM hM5 dL_tradePartner_8 (fun H locs hM => ?_)
  refine lv_goto (tgt := 15) hx hb dL_tradePartner_9 (by decide) ?_
  refine lv_iconst (v := 0) hx hb dL_tradePartner_15 (by decide) ?_
  exact mr_iret C0 hr hlk hM (Prod.mk.inj (Option.some.inj hp)).2 (Prod.mk.inj (Option.some.inj hp)).1 (by decide) (by decide) dL_tradePartner_16
abbrev rm_L_holdersOfClass : Room := { frames := 8, cells := 1, slots := 6, locals := 135 }
def p_L_holdersOfClass (a0 : Nat) (a1 : Int32) (a2 : Int32) (a3 : Nat) (M : Mem) : Option (Int32 × Mem) :=
  (Option.bind (isC 5 M a0) fun _ =>
  (ctc (p_X6_holdersOfClass a0 a1 a2 M) (fun (v2 : Int32) =>
  (Option.bind (aLs M a3 (0 : Int32) (Int32.toInt64 v2)) fun M5 =>
  some ((0 : Int32), M5)
  )
  ) fun E3 =>
  (if E3 = "java/lang/IndexOutOfBoundsException" then
  some ((1 : Int32), M)
  else
  none
  )
  ))
theorem yk_L_holdersOfClass : yok yL_holdersOfClass 4 := by decide +kernel
set_option maxHeartbeats 4000000 in
set_option maxRecDepth 100000 in
theorem w_L_holdersOfClass {G : gG} (hG : GOK G) (hY : GY G) {l : Launch} (hlf : l.stackTraces = false) {a0 : Nat} {a1 : Int32} {a2 : Int32} {a3 : Nat} {M : Mem} {r : Int32} {M' : Mem} (hp : p_L_holdersOfClass a0 a1 a2 a3 M = some (r, M')) : CT G l yL_holdersOfClass (wH yL_holdersOfClass cL_holdersOfClass 5 (some FieldType.int) [(0, 10, 13, 19)]) rm_L_holdersOfClass [.ref a0, .int a1, .int a2, .ref a3] M (some (.int r)) M' 1 6 := by
  refine CTH_of (own := RL) (maxL := 5) (ret := (some FieldType.int)) hG (by decide) rfl (Nat.le_of_ble_eq_true rfl) (fun p e s m below meth c A C0 hr hlk ht hM ls hl => ?_)
  have hl : lv_has ls 5 [(0, .ref a0), (1, .int a1), (2, .int a2), (3, .ref a3)] := hl
  generalize ([.ref a0, .int a1, .int a2, .ref a3] : List Value).toArray = args at C0 ⊢
  skip
  have hYs := hY s C0.2.2.2.2.2.1.2.2
  have hx := C0.1
  have hb := C0.2.1
  have hown := C0.2.2.2.1
  have hts := C0.2.2.2.2.1
  unfold p_L_holdersOfClass at hp
  refine lv_aload_n hx hb dL_holdersOfClass_0 rfl (lv_at hl 3 rfl) ?_
  refine lv_iconst (v := 0) hx hb dL_holdersOfClass_1 (by decide) ?_
  refine lv_aload_n hx hb dL_holdersOfClass_2 rfl (lv_at hl 0 rfl) ?_
  refine lv_iload_n hx hb dL_holdersOfClass_3 rfl (lv_at hl 1 rfl) ?_
  refine lv_iload_n hx hb dL_holdersOfClass_4 rfl (lv_at hl 2 rfl) ?_
  obtain ⟨_, h1, hp⟩ := ob hp
  rcases ctc_at hp with ⟨E3, hv2, hp⟩ | ⟨v2, hv2, hp⟩
  · by_cases e0 : E3 = "java/lang/IndexOutOfBoundsException"
    · replace hp := oT e0 hp
      subst e0
      refine mx_threw C0 hM (mx_runV (As := [.int a1, .int a2]) (rest := [.int (0 : Int32), .ref a3]) C0 cbX6 hM h1 rfl (w_X6_holdersOfClass hG hY hlf hv2) tw_1126 tw_1127 tw_1128 tw_1 tw_1129 yk_X6_holdersOfClass (by decide) rfl hl.1 (Nat.le_of_ble_eq_true rfl) dL_holdersOfClass_5) (fun H locs q4 ce hM hc1 hc2 hc3 => ?_)
      refine ml_c1 C0 hYs ht (by decide) (by decide) tw_803 (by decide +kernel) hc1 hc2 hc3 ?_
      refine lv_astore (lv' := [(4, .ref q4), (0, .ref a0), (1, .int a1), (2, .int a2), (3, .ref a3)]) hx hb dL_holdersOfClass_13 hl (by decide) rfl (fun ls hl => ?_)
      refine lv_iconst (v := 1) hx hb dL_holdersOfClass_15 (by decide) ?_
      exact mr_iret C0 hr hlk hM (Prod.mk.inj (Option.some.inj hp)).2 (Prod.mk.inj (Option.some.inj hp)).1 (by decide) (by decide) dL_holdersOfClass_16
    replace hp := oF e0 hp
    cases hp
  refine mx_back C0 hM (mx_runV (As := [.int a1, .int a2]) (rest := [.int (0 : Int32), .ref a3]) C0 cbX6 hM h1 rfl (w_X6_holdersOfClass hG hY hlf hv2) tw_1126 tw_1127 tw_1128 tw_1 tw_1129 yk_X6_holdersOfClass (by decide) rfl hl.1 (Nat.le_of_ble_eq_true rfl) dL_holdersOfClass_5) (fun H locs hM => ?_)
  refine lv_i2l (v := (Int32.toInt64 v2)) hx hb dL_holdersOfClass_8 rfl ?_
  obtain ⟨M5, hM5, hp⟩ := ob hp
  refine mr_last C0 hM hM5 dL_holdersOfClass_9 (fun H locs hM => ?_)
  refine lv_goto (tgt := 17) hx hb dL_holdersOfClass_10 (by decide) ?_
  refine lv_iconst (v := 0) hx hb dL_holdersOfClass_17 (by decide) ?_
  exact mr_iret C0 hr hlk hM (Prod.mk.inj (Option.some.inj hp)).2 (Prod.mk.inj (Option.some.inj hp)).1 (by decide) (by decide) dL_holdersOfClass_18
abbrev rm_L_triesOf : Room := { frames := 8, cells := 1, slots := 6, locals := 173 }
def p_L_triesOf (a0 : Nat) (a1 : Int32) (a2 : Nat) (M : Mem) : Option (Int32 × Mem) :=
  (Option.bind (isC 5 M a0) fun _ =>
  (ctc2 (p_X6_triesOf a0 a1 M) (fun (v2 : Int32) (M3 : Mem) =>
  (Option.bind (aLs M3 a2 (0 : Int32) (Int32.toInt64 v2)) fun M6 =>
  some ((0 : Int32), M6)
  )
  ) fun E4 =>
  (if E4 = "java/lang/IndexOutOfBoundsException" then
  some ((1 : Int32), M)
  else
  none
  )
  ))
theorem yk_L_triesOf : yok yL_triesOf 3 := by decide +kernel
set_option maxHeartbeats 4000000 in
set_option maxRecDepth 100000 in
theorem w_L_triesOf {G : gG} (hG : GOK G) (hY : GY G) {l : Launch} (hlf : l.stackTraces = false) {a0 : Nat} {a1 : Int32} {a2 : Nat} {M : Mem} {r : Int32} {M' : Mem} (hp : p_L_triesOf a0 a1 a2 M = some (r, M')) : CT G l yL_triesOf (wH yL_triesOf cL_triesOf 4 (some FieldType.int) [(0, 9, 12, 19)]) rm_L_triesOf [.ref a0, .int a1, .ref a2] M (some (.int r)) M' 1 6 := by
  refine CTH_of (own := RL) (maxL := 4) (ret := (some FieldType.int)) hG (by decide) rfl (Nat.le_of_ble_eq_true rfl) (fun p e s m below meth c A C0 hr hlk ht hM ls hl => ?_)
  have hl : lv_has ls 4 [(0, .ref a0), (1, .int a1), (2, .ref a2)] := hl
  generalize ([.ref a0, .int a1, .ref a2] : List Value).toArray = args at C0 ⊢
  skip
  have hYs := hY s C0.2.2.2.2.2.1.2.2
  have hx := C0.1
  have hb := C0.2.1
  have hown := C0.2.2.2.1
  have hts := C0.2.2.2.2.1
  unfold p_L_triesOf at hp
  refine lv_aload_n hx hb dL_triesOf_0 rfl (lv_at hl 2 rfl) ?_
  refine lv_iconst (v := 0) hx hb dL_triesOf_1 (by decide) ?_
  refine lv_aload_n hx hb dL_triesOf_2 rfl (lv_at hl 0 rfl) ?_
  refine lv_iload_n hx hb dL_triesOf_3 rfl (lv_at hl 1 rfl) ?_
  obtain ⟨_, h1, hp⟩ := ob hp
  rcases ctc2_at hp with ⟨E4, hv2, hp⟩ | ⟨v2, M3, hv2, hp⟩
  · by_cases e0 : E4 = "java/lang/IndexOutOfBoundsException"
    · replace hp := oT e0 hp
      subst e0
      refine mx_threw C0 hM (mx_runV (As := [.int a1]) (rest := [.int (0 : Int32), .ref a2]) C0 cbX6 hM h1 rfl (w_X6_triesOf hG hY hlf hv2) tw_1133 tw_1134 tw_1135 tw_1 tw_1136 yk_X6_triesOf (by decide) rfl hl.1 (Nat.le_of_ble_eq_true rfl) dL_triesOf_4) (fun H locs q5 ce hM hc1 hc2 hc3 => ?_)
      refine ml_c1 C0 hYs ht (by decide) (by decide) tw_803 (by decide +kernel) hc1 hc2 hc3 ?_
      refine lv_astore_n (lv' := [(3, .ref q5), (0, .ref a0), (1, .int a1), (2, .ref a2)]) hx hb dL_triesOf_12 rfl hl (by decide) rfl (fun ls hl => ?_)
      refine lv_iconst (v := 1) hx hb dL_triesOf_13 (by decide) ?_
      exact mr_iret C0 hr hlk hM (Prod.mk.inj (Option.some.inj hp)).2 (Prod.mk.inj (Option.some.inj hp)).1 (by decide) (by decide) dL_triesOf_14
    replace hp := oF e0 hp
    cases hp
  refine mx_back C0 hM (mx_runV (As := [.int a1]) (rest := [.int (0 : Int32), .ref a2]) C0 cbX6 hM h1 rfl (w_X6_triesOf hG hY hlf hv2) tw_1133 tw_1134 tw_1135 tw_1 tw_1136 yk_X6_triesOf (by decide) rfl hl.1 (Nat.le_of_ble_eq_true rfl) dL_triesOf_4) (fun H locs hM => ?_)
  refine lv_i2l (v := (Int32.toInt64 v2)) hx hb dL_triesOf_7 rfl ?_
  obtain ⟨M6, hM6, hp⟩ := ob hp
  refine mr_last C0 hM hM6 dL_triesOf_8 (fun H locs hM => ?_)
  refine lv_goto (tgt := 15) hx hb dL_triesOf_9 (by decide) ?_
  refine lv_iconst (v := 0) hx hb dL_triesOf_15 (by decide) ?_
  exact mr_iret C0 hr hlk hM (Prod.mk.inj (Option.some.inj hp)).2 (Prod.mk.inj (Option.some.inj hp)).1 (by decide) (by decide) dL_triesOf_16
abbrev rm_L_siblings : Room := { frames := 8, cells := 1, slots := 6, locals := 136 }
def p_L_siblings (a0 : Nat) (a1 : Int32) (a2 : Nat) (M : Mem) : Option (Int32 × Mem) :=
  (Option.bind (isC 5 M a0) fun _ =>
  (ctc (p_X6_siblings a0 a1 M) (fun (v2 : Int64) =>
  (Option.bind (aLs M a2 (0 : Int32) v2) fun M5 =>
  some ((0 : Int32), M5)
  )
  ) fun E3 =>
  (if E3 = "java/lang/IndexOutOfBoundsException" then
  some ((1 : Int32), M)
  else
  none
  )
  ))
theorem yk_L_siblings : yok yL_siblings 3 := by decide +kernel
set_option maxHeartbeats 4000000 in
set_option maxRecDepth 100000 in
theorem w_L_siblings {G : gG} (hG : GOK G) (hY : GY G) {l : Launch} (hlf : l.stackTraces = false) {a0 : Nat} {a1 : Int32} {a2 : Nat} {M : Mem} {r : Int32} {M' : Mem} (hp : p_L_siblings a0 a1 a2 M = some (r, M')) : CT G l yL_siblings (wH yL_siblings cL_siblings 4 (some FieldType.int) [(0, 8, 11, 19)]) rm_L_siblings [.ref a0, .int a1, .ref a2] M (some (.int r)) M' 1 6 := by
  refine CTH_of (own := RL) (maxL := 4) (ret := (some FieldType.int)) hG (by decide) rfl (Nat.le_of_ble_eq_true rfl) (fun p e s m below meth c A C0 hr hlk ht hM ls hl => ?_)
  have hl : lv_has ls 4 [(0, .ref a0), (1, .int a1), (2, .ref a2)] := hl
  generalize ([.ref a0, .int a1, .ref a2] : List Value).toArray = args at C0 ⊢
  skip
  have hYs := hY s C0.2.2.2.2.2.1.2.2
  have hx := C0.1
  have hb := C0.2.1
  have hown := C0.2.2.2.1
  have hts := C0.2.2.2.2.1
  unfold p_L_siblings at hp
  refine lv_aload_n hx hb dL_siblings_0 rfl (lv_at hl 2 rfl) ?_
  refine lv_iconst (v := 0) hx hb dL_siblings_1 (by decide) ?_
  refine lv_aload_n hx hb dL_siblings_2 rfl (lv_at hl 0 rfl) ?_
  refine lv_iload_n hx hb dL_siblings_3 rfl (lv_at hl 1 rfl) ?_
  obtain ⟨_, h1, hp⟩ := ob hp
  rcases ctc_at hp with ⟨E3, hv2, hp⟩ | ⟨v2, hv2, hp⟩
  · by_cases e0 : E3 = "java/lang/IndexOutOfBoundsException"
    · replace hp := oT e0 hp
      subst e0
      refine mx_threw C0 hM (mx_runV (As := [.int a1]) (rest := [.int (0 : Int32), .ref a2]) C0 cbX6 hM h1 rfl (w_X6_siblings hG hY hlf hv2) tw_1144 tw_1145 tw_1146 tw_1 tw_1147 yk_X6_siblings (by decide) rfl hl.1 (Nat.le_of_ble_eq_true rfl) dL_siblings_4) (fun H locs q4 ce hM hc1 hc2 hc3 => ?_)
      refine ml_c1 C0 hYs ht (by decide) (by decide) tw_803 (by decide +kernel) hc1 hc2 hc3 ?_
      refine lv_astore_n (lv' := [(3, .ref q4), (0, .ref a0), (1, .int a1), (2, .ref a2)]) hx hb dL_siblings_11 rfl hl (by decide) rfl (fun ls hl => ?_)
      refine lv_iconst (v := 1) hx hb dL_siblings_12 (by decide) ?_
      exact mr_iret C0 hr hlk hM (Prod.mk.inj (Option.some.inj hp)).2 (Prod.mk.inj (Option.some.inj hp)).1 (by decide) (by decide) dL_siblings_13
    replace hp := oF e0 hp
    cases hp
  refine mx_back C0 hM (mx_runV (As := [.int a1]) (rest := [.int (0 : Int32), .ref a2]) C0 cbX6 hM h1 rfl (w_X6_siblings hG hY hlf hv2) tw_1144 tw_1145 tw_1146 tw_1 tw_1147 yk_X6_siblings (by decide) rfl hl.1 (Nat.le_of_ble_eq_true rfl) dL_siblings_4) (fun H locs hM => ?_)
  obtain ⟨M5, hM5, hp⟩ := ob hp
  refine mr_last C0 hM hM5 dL_siblings_7 (fun H locs hM => ?_)
  refine lv_goto (tgt := 14) hx hb dL_siblings_8 (by decide) ?_
  refine lv_iconst (v := 0) hx hb dL_siblings_14 (by decide) ?_
  exact mr_iret C0 hr hlk hM (Prod.mk.inj (Option.some.inj hp)).2 (Prod.mk.inj (Option.some.inj hp)).1 (by decide) (by decide) dL_siblings_15
abbrev rm_L_placeWith : Room := { frames := 8, cells := 3, slots := 18, locals := 173 }
def p_L_placeWith (a0 : Nat) (a1 : Int32) (a2 : Int32) (a3 : Int32) (a4 : Nat) (M : Mem) : Option (Int32 × Mem) :=
  (Option.bind (isC 5 M a0) fun _ =>
  (ctc2 (p_X6_placeWith a0 a1 a2 a3 M) (fun (v2 : Int32) (M3 : Mem) =>
  (Option.bind (aLs M3 a4 (0 : Int32) (Int32.toInt64 v2)) fun M6 =>
  some ((0 : Int32), M6)
  )
  ) fun E4 =>
  (if E4 = "java/lang/IndexOutOfBoundsException" then
  some ((1 : Int32), M)
  else
  (if E4 = "java/lang/IllegalArgumentException" then
  some ((2 : Int32), M)
  else
  none
  )
  )
  ))
theorem yk_L_placeWith : yok yL_placeWith 5 := by decide +kernel
set_option maxHeartbeats 4000000 in
set_option maxRecDepth 100000 in
theorem w_L_placeWith {G : gG} (hG : GOK G) (hY : GY G) {l : Launch} (hlf : l.stackTraces = false) {a0 : Nat} {a1 : Int32} {a2 : Int32} {a3 : Int32} {a4 : Nat} {M : Mem} {r : Int32} {M' : Mem} (hp : p_L_placeWith a0 a1 a2 a3 a4 M = some (r, M')) : CT G l yL_placeWith (wH yL_placeWith cL_placeWith 6 (some FieldType.int) [(0, 12, 15, 19), (0, 12, 19, 13)]) rm_L_placeWith [.ref a0, .int a1, .int a2, .int a3, .ref a4] M (some (.int r)) M' 3 18 := by
  refine CTH_of (own := RL) (maxL := 6) (ret := (some FieldType.int)) hG (by decide) rfl (Nat.le_of_ble_eq_true rfl) (fun p e s m below meth c A C0 hr hlk ht hM ls hl => ?_)
  have hl : lv_has ls 6 [(0, .ref a0), (1, .int a1), (2, .int a2), (3, .int a3), (4, .ref a4)] := hl
  generalize ([.ref a0, .int a1, .int a2, .int a3, .ref a4] : List Value).toArray = args at C0 ⊢
  skip
  have hYs := hY s C0.2.2.2.2.2.1.2.2
  have hx := C0.1
  have hb := C0.2.1
  have hown := C0.2.2.2.1
  have hts := C0.2.2.2.2.1
  unfold p_L_placeWith at hp
  refine lv_aload hx hb dL_placeWith_0 (lv_at hl 4 rfl) ?_
  refine lv_iconst (v := 0) hx hb dL_placeWith_2 (by decide) ?_
  refine lv_aload_n hx hb dL_placeWith_3 rfl (lv_at hl 0 rfl) ?_
  refine lv_iload_n hx hb dL_placeWith_4 rfl (lv_at hl 1 rfl) ?_
  refine lv_iload_n hx hb dL_placeWith_5 rfl (lv_at hl 2 rfl) ?_
  refine lv_iload_n hx hb dL_placeWith_6 rfl (lv_at hl 3 rfl) ?_
  obtain ⟨_, h1, hp⟩ := ob hp
  rcases ctc2_at hp with ⟨E4, hv2, hp⟩ | ⟨v2, M3, hv2, hp⟩
  · by_cases e0 : E4 = "java/lang/IndexOutOfBoundsException"
    · replace hp := oT e0 hp
      subst e0
      refine mx_threw C0 hM (mx_runV (As := [.int a1, .int a2, .int a3]) (rest := [.int (0 : Int32), .ref a4]) C0 cbX6 hM h1 rfl (w_X6_placeWith hG hY hlf hv2) tw_1152 tw_1153 tw_1154 tw_1 tw_1155 yk_X6_placeWith (by decide) rfl hl.1 (Nat.le_of_ble_eq_true rfl) dL_placeWith_7) (fun H locs q5 ce hM hc1 hc2 hc3 => ?_)
      refine ml_c1 C0 hYs ht (by decide) (by decide) tw_803 (by decide +kernel) hc1 hc2 hc3 ?_
      refine lv_astore (lv' := [(5, .ref q5), (0, .ref a0), (1, .int a1), (2, .int a2), (3, .int a3), (4, .ref a4)]) hx hb dL_placeWith_15 hl (by decide) rfl (fun ls hl => ?_)
      refine lv_iconst (v := 1) hx hb dL_placeWith_17 (by decide) ?_
      exact mr_iret C0 hr hlk hM (Prod.mk.inj (Option.some.inj hp)).2 (Prod.mk.inj (Option.some.inj hp)).1 (by decide) (by decide) dL_placeWith_18
    replace hp := oF e0 hp
    by_cases e1 : E4 = "java/lang/IllegalArgumentException"
    · replace hp := oT e1 hp
      subst e1
      refine mx_threw C0 hM (mx_runV (As := [.int a1, .int a2, .int a3]) (rest := [.int (0 : Int32), .ref a4]) C0 cbX6 hM h1 rfl (w_X6_placeWith hG hY hlf hv2) tw_1152 tw_1153 tw_1154 tw_1 tw_1155 yk_X6_placeWith (by decide) rfl hl.1 (Nat.le_of_ble_eq_true rfl) dL_placeWith_7) (fun H locs q5 ce hM hc1 hc2 hc3 => ?_)
      refine ml_c2 C0 hYs ht (by decide) (by decide) (by decide) tw_803 (by decide +kernel) tw_723 (by decide +kernel) hc1 hc2 hc3 ?_
      refine lv_astore (lv' := [(5, .ref q5), (0, .ref a0), (1, .int a1), (2, .int a2), (3, .int a3), (4, .ref a4)]) hx hb dL_placeWith_19 hl (by decide) rfl (fun ls hl => ?_)
      refine lv_iconst (v := 2) hx hb dL_placeWith_21 (by decide) ?_
      exact mr_iret C0 hr hlk hM (Prod.mk.inj (Option.some.inj hp)).2 (Prod.mk.inj (Option.some.inj hp)).1 (by decide) (by decide) dL_placeWith_22
    replace hp := oF e1 hp
    cases hp
  refine mx_back C0 hM (mx_runV (As := [.int a1, .int a2, .int a3]) (rest := [.int (0 : Int32), .ref a4]) C0 cbX6 hM h1 rfl (w_X6_placeWith hG hY hlf hv2) tw_1152 tw_1153 tw_1154 tw_1 tw_1155 yk_X6_placeWith (by decide) rfl hl.1 (Nat.le_of_ble_eq_true rfl) dL_placeWith_7) (fun H locs hM => ?_)
  refine lv_i2l (v := (Int32.toInt64 v2)) hx hb dL_placeWith_10 rfl ?_
  obtain ⟨M6, hM6, hp⟩ := ob hp
  refine mr_last C0 hM hM6 dL_placeWith_11 (fun H locs hM => ?_)
  refine lv_goto (tgt := 23) hx hb dL_placeWith_12 (by decide) ?_
  refine lv_iconst (v := 0) hx hb dL_placeWith_23 (by decide) ?_
  exact mr_iret C0 hr hlk hM (Prod.mk.inj (Option.some.inj hp)).2 (Prod.mk.inj (Option.some.inj hp)).1 (by decide) (by decide) dL_placeWith_24
abbrev rm_L_neededCapacity : Room := { frames := 8, cells := 2, slots := 12, locals := 173 }
def p_L_neededCapacity (a0 : Nat) (a1 : Int32) (a2 : Int32) (a3 : Nat) (M : Mem) : Option (Int32 × Mem) :=
  (Option.bind (isC 5 M a0) fun _ =>
  (ctc2 (p_X6_neededCapacity a0 a1 a2 M) (fun (v2 : Int32) (M3 : Mem) =>
  (Option.bind (aLs M3 a3 (0 : Int32) (Int32.toInt64 v2)) fun M6 =>
  some ((0 : Int32), M6)
  )
  ) fun E4 =>
  (if E4 = "java/lang/IndexOutOfBoundsException" then
  some ((1 : Int32), M)
  else
  none
  )
  ))
theorem yk_L_neededCapacity : yok yL_neededCapacity 4 := by decide +kernel
set_option maxHeartbeats 4000000 in
set_option maxRecDepth 100000 in
theorem w_L_neededCapacity {G : gG} (hG : GOK G) (hY : GY G) {l : Launch} (hlf : l.stackTraces = false) {a0 : Nat} {a1 : Int32} {a2 : Int32} {a3 : Nat} {M : Mem} {r : Int32} {M' : Mem} (hp : p_L_neededCapacity a0 a1 a2 a3 M = some (r, M')) : CT G l yL_neededCapacity (wH yL_neededCapacity cL_neededCapacity 5 (some FieldType.int) [(0, 10, 13, 19)]) rm_L_neededCapacity [.ref a0, .int a1, .int a2, .ref a3] M (some (.int r)) M' 2 12 := by
  refine CTH_of (own := RL) (maxL := 5) (ret := (some FieldType.int)) hG (by decide) rfl (Nat.le_of_ble_eq_true rfl) (fun p e s m below meth c A C0 hr hlk ht hM ls hl => ?_)
  have hl : lv_has ls 5 [(0, .ref a0), (1, .int a1), (2, .int a2), (3, .ref a3)] := hl
  generalize ([.ref a0, .int a1, .int a2, .ref a3] : List Value).toArray = args at C0 ⊢
  skip
  have hYs := hY s C0.2.2.2.2.2.1.2.2
  have hx := C0.1
  have hb := C0.2.1
  have hown := C0.2.2.2.1
  have hts := C0.2.2.2.2.1
  unfold p_L_neededCapacity at hp
  refine lv_aload_n hx hb dL_neededCapacity_0 rfl (lv_at hl 3 rfl) ?_
  refine lv_iconst (v := 0) hx hb dL_neededCapacity_1 (by decide) ?_
  refine lv_aload_n hx hb dL_neededCapacity_2 rfl (lv_at hl 0 rfl) ?_
  refine lv_iload_n hx hb dL_neededCapacity_3 rfl (lv_at hl 1 rfl) ?_
  refine lv_iload_n hx hb dL_neededCapacity_4 rfl (lv_at hl 2 rfl) ?_
  obtain ⟨_, h1, hp⟩ := ob hp
  rcases ctc2_at hp with ⟨E4, hv2, hp⟩ | ⟨v2, M3, hv2, hp⟩
  · by_cases e0 : E4 = "java/lang/IndexOutOfBoundsException"
    · replace hp := oT e0 hp
      subst e0
      refine mx_threw C0 hM (mx_runV (As := [.int a1, .int a2]) (rest := [.int (0 : Int32), .ref a3]) C0 cbX6 hM h1 rfl (w_X6_neededCapacity hG hY hlf hv2) tw_1159 tw_1160 tw_1161 tw_1 tw_1162 yk_X6_neededCapacity (by decide) rfl hl.1 (Nat.le_of_ble_eq_true rfl) dL_neededCapacity_5) (fun H locs q5 ce hM hc1 hc2 hc3 => ?_)
      refine ml_c1 C0 hYs ht (by decide) (by decide) tw_803 (by decide +kernel) hc1 hc2 hc3 ?_
      refine lv_astore (lv' := [(4, .ref q5), (0, .ref a0), (1, .int a1), (2, .int a2), (3, .ref a3)]) hx hb dL_neededCapacity_13 hl (by decide) rfl (fun ls hl => ?_)
      refine lv_iconst (v := 1) hx hb dL_neededCapacity_15 (by decide) ?_
      exact mr_iret C0 hr hlk hM (Prod.mk.inj (Option.some.inj hp)).2 (Prod.mk.inj (Option.some.inj hp)).1 (by decide) (by decide) dL_neededCapacity_16
    replace hp := oF e0 hp
    cases hp
  refine mx_back C0 hM (mx_runV (As := [.int a1, .int a2]) (rest := [.int (0 : Int32), .ref a3]) C0 cbX6 hM h1 rfl (w_X6_neededCapacity hG hY hlf hv2) tw_1159 tw_1160 tw_1161 tw_1 tw_1162 yk_X6_neededCapacity (by decide) rfl hl.1 (Nat.le_of_ble_eq_true rfl) dL_neededCapacity_5) (fun H locs hM => ?_)
  refine lv_i2l (v := (Int32.toInt64 v2)) hx hb dL_neededCapacity_8 rfl ?_
  obtain ⟨M6, hM6, hp⟩ := ob hp
  refine mr_last C0 hM hM6 dL_neededCapacity_9 (fun H locs hM => ?_)
  refine lv_goto (tgt := 17) hx hb dL_neededCapacity_10 (by decide) ?_
  refine lv_iconst (v := 0) hx hb dL_neededCapacity_17 (by decide) ?_
  exact mr_iret C0 hr hlk hM (Prod.mk.inj (Option.some.inj hp)).2 (Prod.mk.inj (Option.some.inj hp)).1 (by decide) (by decide) dL_neededCapacity_18
abbrev rm_L_gainersWithout : Room := { frames := 8, cells := 1, slots := 6, locals := 176 }
def p_L_gainersWithout (a0 : Nat) (a1 : Int32) (a2 : Nat) (M : Mem) : Option (Int32 × Mem) :=
  (Option.bind (isC 5 M a0) fun _ =>
  (ctc2 (p_X6_gainersWithout a0 a1 M) (fun (v2 : Int64) (M3 : Mem) =>
  (Option.bind (aLs M3 a2 (0 : Int32) v2) fun M6 =>
  some ((0 : Int32), M6)
  )
  ) fun E4 =>
  (if E4 = "java/lang/IndexOutOfBoundsException" then
  some ((1 : Int32), M)
  else
  none
  )
  ))
theorem yk_L_gainersWithout : yok yL_gainersWithout 3 := by decide +kernel
set_option maxHeartbeats 4000000 in
set_option maxRecDepth 100000 in
theorem w_L_gainersWithout {G : gG} (hG : GOK G) (hY : GY G) {l : Launch} (hlf : l.stackTraces = false) {a0 : Nat} {a1 : Int32} {a2 : Nat} {M : Mem} {r : Int32} {M' : Mem} (hp : p_L_gainersWithout a0 a1 a2 M = some (r, M')) : CT G l yL_gainersWithout (wH yL_gainersWithout cL_gainersWithout 4 (some FieldType.int) [(0, 8, 11, 19)]) rm_L_gainersWithout [.ref a0, .int a1, .ref a2] M (some (.int r)) M' 1 6 := by
  refine CTH_of (own := RL) (maxL := 4) (ret := (some FieldType.int)) hG (by decide) rfl (Nat.le_of_ble_eq_true rfl) (fun p e s m below meth c A C0 hr hlk ht hM ls hl => ?_)
  have hl : lv_has ls 4 [(0, .ref a0), (1, .int a1), (2, .ref a2)] := hl
  generalize ([.ref a0, .int a1, .ref a2] : List Value).toArray = args at C0 ⊢
  skip
  have hYs := hY s C0.2.2.2.2.2.1.2.2
  have hx := C0.1
  have hb := C0.2.1
  have hown := C0.2.2.2.1
  have hts := C0.2.2.2.2.1
  unfold p_L_gainersWithout at hp
  refine lv_aload_n hx hb dL_gainersWithout_0 rfl (lv_at hl 2 rfl) ?_
  refine lv_iconst (v := 0) hx hb dL_gainersWithout_1 (by decide) ?_
  refine lv_aload_n hx hb dL_gainersWithout_2 rfl (lv_at hl 0 rfl) ?_
  refine lv_iload_n hx hb dL_gainersWithout_3 rfl (lv_at hl 1 rfl) ?_
  obtain ⟨_, h1, hp⟩ := ob hp
  rcases ctc2_at hp with ⟨E4, hv2, hp⟩ | ⟨v2, M3, hv2, hp⟩
  · by_cases e0 : E4 = "java/lang/IndexOutOfBoundsException"
    · replace hp := oT e0 hp
      subst e0
      refine mx_threw C0 hM (mx_runV (As := [.int a1]) (rest := [.int (0 : Int32), .ref a2]) C0 cbX6 hM h1 rfl (w_X6_gainersWithout hG hY hlf hv2) tw_1166 tw_1167 tw_1168 tw_1 tw_1169 yk_X6_gainersWithout (by decide) rfl hl.1 (Nat.le_of_ble_eq_true rfl) dL_gainersWithout_4) (fun H locs q5 ce hM hc1 hc2 hc3 => ?_)
      refine ml_c1 C0 hYs ht (by decide) (by decide) tw_803 (by decide +kernel) hc1 hc2 hc3 ?_
      refine lv_astore_n (lv' := [(3, .ref q5), (0, .ref a0), (1, .int a1), (2, .ref a2)]) hx hb dL_gainersWithout_11 rfl hl (by decide) rfl (fun ls hl => ?_)
      refine lv_iconst (v := 1) hx hb dL_gainersWithout_12 (by decide) ?_
      exact mr_iret C0 hr hlk hM (Prod.mk.inj (Option.some.inj hp)).2 (Prod.mk.inj (Option.some.inj hp)).1 (by decide) (by decide) dL_gainersWithout_13
    replace hp := oF e0 hp
    cases hp
  refine mx_back C0 hM (mx_runV (As := [.int a1]) (rest := [.int (0 : Int32), .ref a2]) C0 cbX6 hM h1 rfl (w_X6_gainersWithout hG hY hlf hv2) tw_1166 tw_1167 tw_1168 tw_1 tw_1169 yk_X6_gainersWithout (by decide) rfl hl.1 (Nat.le_of_ble_eq_true rfl) dL_gainersWithout_4) (fun H locs hM => ?_)
  obtain ⟨M6, hM6, hp⟩ := ob hp
  refine mr_last C0 hM hM6 dL_gainersWithout_7 (fun H locs hM => ?_)
  refine lv_goto (tgt := 14) hx hb dL_gainersWithout_8 (by decide) ?_
  refine lv_iconst (v := 0) hx hb dL_gainersWithout_14 (by decide) ?_
  exact mr_iret C0 hr hlk hM (Prod.mk.inj (Option.some.inj hp)).2 (Prod.mk.inj (Option.some.inj hp)).1 (by decide) (by decide) dL_gainersWithout_15
abbrev rm_L_bestByOrder : Room := { frames := 8, cells := 1, slots := 6, locals := 171 }
def p_L_bestByOrder (a0 : Nat) (a1 : Int32) (a2 : Nat) (M : Mem) : Option (Int32 × Mem) :=
  (Option.bind (isC 5 M a0) fun _ =>
  (ctc2 (p_X6_bestByOrder a0 a1 M) (fun (v2 : Int32) (M3 : Mem) =>
  (Option.bind (aLs M3 a2 (0 : Int32) (Int32.toInt64 v2)) fun M6 =>
  some ((0 : Int32), M6)
  )
  ) fun E4 =>
  (if E4 = "java/lang/IndexOutOfBoundsException" then
  some ((1 : Int32), M)
  else
  none
  )
  ))
theorem yk_L_bestByOrder : yok yL_bestByOrder 3 := by decide +kernel
set_option maxHeartbeats 4000000 in
set_option maxRecDepth 100000 in
theorem w_L_bestByOrder {G : gG} (hG : GOK G) (hY : GY G) {l : Launch} (hlf : l.stackTraces = false) {a0 : Nat} {a1 : Int32} {a2 : Nat} {M : Mem} {r : Int32} {M' : Mem} (hp : p_L_bestByOrder a0 a1 a2 M = some (r, M')) : CT G l yL_bestByOrder (wH yL_bestByOrder cL_bestByOrder 4 (some FieldType.int) [(0, 9, 12, 19)]) rm_L_bestByOrder [.ref a0, .int a1, .ref a2] M (some (.int r)) M' 1 6 := by
  refine CTH_of (own := RL) (maxL := 4) (ret := (some FieldType.int)) hG (by decide) rfl (Nat.le_of_ble_eq_true rfl) (fun p e s m below meth c A C0 hr hlk ht hM ls hl => ?_)
  have hl : lv_has ls 4 [(0, .ref a0), (1, .int a1), (2, .ref a2)] := hl
  generalize ([.ref a0, .int a1, .ref a2] : List Value).toArray = args at C0 ⊢
  skip
  have hYs := hY s C0.2.2.2.2.2.1.2.2
  have hx := C0.1
  have hb := C0.2.1
  have hown := C0.2.2.2.1
  have hts := C0.2.2.2.2.1
  unfold p_L_bestByOrder at hp
  refine lv_aload_n hx hb dL_bestByOrder_0 rfl (lv_at hl 2 rfl) ?_
  refine lv_iconst (v := 0) hx hb dL_bestByOrder_1 (by decide) ?_
  refine lv_aload_n hx hb dL_bestByOrder_2 rfl (lv_at hl 0 rfl) ?_
  refine lv_iload_n hx hb dL_bestByOrder_3 rfl (lv_at hl 1 rfl) ?_
  obtain ⟨_, h1, hp⟩ := ob hp
  rcases ctc2_at hp with ⟨E4, hv2, hp⟩ | ⟨v2, M3, hv2, hp⟩
  · by_cases e0 : E4 = "java/lang/IndexOutOfBoundsException"
    · replace hp := oT e0 hp
      subst e0
      refine mx_threw C0 hM (mx_runV (As := [.int a1]) (rest := [.int (0 : Int32), .ref a2]) C0 cbX6 hM h1 rfl (w_X6_bestByOrder hG hY hlf hv2) tw_1173 tw_1174 tw_1175 tw_1 tw_1176 yk_X6_bestByOrder (by decide) rfl hl.1 (Nat.le_of_ble_eq_true rfl) dL_bestByOrder_4) (fun H locs q5 ce hM hc1 hc2 hc3 => ?_)
      refine ml_c1 C0 hYs ht (by decide) (by decide) tw_803 (by decide +kernel) hc1 hc2 hc3 ?_
      refine lv_astore_n (lv' := [(3, .ref q5), (0, .ref a0), (1, .int a1), (2, .ref a2)]) hx hb dL_bestByOrder_12 rfl hl (by decide) rfl (fun ls hl => ?_)
      refine lv_iconst (v := 1) hx hb dL_bestByOrder_13 (by decide) ?_
      exact mr_iret C0 hr hlk hM (Prod.mk.inj (Option.some.inj hp)).2 (Prod.mk.inj (Option.some.inj hp)).1 (by decide) (by decide) dL_bestByOrder_14
    replace hp := oF e0 hp
    cases hp
  refine mx_back C0 hM (mx_runV (As := [.int a1]) (rest := [.int (0 : Int32), .ref a2]) C0 cbX6 hM h1 rfl (w_X6_bestByOrder hG hY hlf hv2) tw_1173 tw_1174 tw_1175 tw_1 tw_1176 yk_X6_bestByOrder (by decide) rfl hl.1 (Nat.le_of_ble_eq_true rfl) dL_bestByOrder_4) (fun H locs hM => ?_)
  refine lv_i2l (v := (Int32.toInt64 v2)) hx hb dL_bestByOrder_7 rfl ?_
  obtain ⟨M6, hM6, hp⟩ := ob hp
  refine mr_last C0 hM hM6 dL_bestByOrder_8 (fun H locs hM => ?_)
  refine lv_goto (tgt := 15) hx hb dL_bestByOrder_9 (by decide) ?_
  refine lv_iconst (v := 0) hx hb dL_bestByOrder_15 (by decide) ?_
  exact mr_iret C0 hr hlk hM (Prod.mk.inj (Option.some.inj hp)).2 (Prod.mk.inj (Option.some.inj hp)).1 (by decide) (by decide) dL_bestByOrder_16
abbrev rm_L_printSchool : Room := { frames := 8, cells := 1, slots := 6, locals := 149 }
def p_L_printSchool (a0 : Nat) (a1 : Int32) (a2 : Nat) (M : Mem) : Option (Int32 × Mem) :=
  (Option.bind (isC 5 M a0) fun _ =>
  (ctc2 (p_X6_printSchool a0 a1 M) (fun (v2 : Int32) (M3 : Mem) =>
  (Option.bind (aLs M3 a2 (0 : Int32) (Int32.toInt64 v2)) fun M6 =>
  some ((0 : Int32), M6)
  )
  ) fun E4 =>
  (if E4 = "java/lang/IndexOutOfBoundsException" then
  some ((1 : Int32), M)
  else
  none
  )
  ))
theorem yk_L_printSchool : yok yL_printSchool 3 := by decide +kernel
set_option maxHeartbeats 4000000 in
set_option maxRecDepth 100000 in
theorem w_L_printSchool {G : gG} (hG : GOK G) (hY : GY G) {l : Launch} (hlf : l.stackTraces = false) {a0 : Nat} {a1 : Int32} {a2 : Nat} {M : Mem} {r : Int32} {M' : Mem} (hp : p_L_printSchool a0 a1 a2 M = some (r, M')) : CT G l yL_printSchool (wH yL_printSchool cL_printSchool 4 (some FieldType.int) [(0, 9, 12, 19)]) rm_L_printSchool [.ref a0, .int a1, .ref a2] M (some (.int r)) M' 1 6 := by
  refine CTH_of (own := RL) (maxL := 4) (ret := (some FieldType.int)) hG (by decide) rfl (Nat.le_of_ble_eq_true rfl) (fun p e s m below meth c A C0 hr hlk ht hM ls hl => ?_)
  have hl : lv_has ls 4 [(0, .ref a0), (1, .int a1), (2, .ref a2)] := hl
  generalize ([.ref a0, .int a1, .ref a2] : List Value).toArray = args at C0 ⊢
  skip
  have hYs := hY s C0.2.2.2.2.2.1.2.2
  have hx := C0.1
  have hb := C0.2.1
  have hown := C0.2.2.2.1
  have hts := C0.2.2.2.2.1
  unfold p_L_printSchool at hp
  refine lv_aload_n hx hb dL_printSchool_0 rfl (lv_at hl 2 rfl) ?_
  refine lv_iconst (v := 0) hx hb dL_printSchool_1 (by decide) ?_
  refine lv_aload_n hx hb dL_printSchool_2 rfl (lv_at hl 0 rfl) ?_
  refine lv_iload_n hx hb dL_printSchool_3 rfl (lv_at hl 1 rfl) ?_
  obtain ⟨_, h1, hp⟩ := ob hp
  rcases ctc2_at hp with ⟨E4, hv2, hp⟩ | ⟨v2, M3, hv2, hp⟩
  · by_cases e0 : E4 = "java/lang/IndexOutOfBoundsException"
    · replace hp := oT e0 hp
      subst e0
      refine mx_threw C0 hM (mx_runV (As := [.int a1]) (rest := [.int (0 : Int32), .ref a2]) C0 cbX6 hM h1 rfl (w_X6_printSchool hG hY hlf hv2) tw_1180 tw_1181 tw_1182 tw_1 tw_1183 yk_X6_printSchool (by decide) rfl hl.1 (Nat.le_of_ble_eq_true rfl) dL_printSchool_4) (fun H locs q5 ce hM hc1 hc2 hc3 => ?_)
      refine ml_c1 C0 hYs ht (by decide) (by decide) tw_803 (by decide +kernel) hc1 hc2 hc3 ?_
      refine lv_astore_n (lv' := [(3, .ref q5), (0, .ref a0), (1, .int a1), (2, .ref a2)]) hx hb dL_printSchool_12 rfl hl (by decide) rfl (fun ls hl => ?_)
      refine lv_iconst (v := 1) hx hb dL_printSchool_13 (by decide) ?_
      exact mr_iret C0 hr hlk hM (Prod.mk.inj (Option.some.inj hp)).2 (Prod.mk.inj (Option.some.inj hp)).1 (by decide) (by decide) dL_printSchool_14
    replace hp := oF e0 hp
    cases hp
  refine mx_back C0 hM (mx_runV (As := [.int a1]) (rest := [.int (0 : Int32), .ref a2]) C0 cbX6 hM h1 rfl (w_X6_printSchool hG hY hlf hv2) tw_1180 tw_1181 tw_1182 tw_1 tw_1183 yk_X6_printSchool (by decide) rfl hl.1 (Nat.le_of_ble_eq_true rfl) dL_printSchool_4) (fun H locs hM => ?_)
  refine lv_i2l (v := (Int32.toInt64 v2)) hx hb dL_printSchool_7 rfl ?_
  obtain ⟨M6, hM6, hp⟩ := ob hp
  refine mr_last C0 hM hM6 dL_printSchool_8 (fun H locs hM => ?_)
  refine lv_goto (tgt := 15) hx hb dL_printSchool_9 (by decide) ?_
  refine lv_iconst (v := 0) hx hb dL_printSchool_15 (by decide) ?_
  exact mr_iret C0 hr hlk hM (Prod.mk.inj (Option.some.inj hp)).2 (Prod.mk.inj (Option.some.inj hp)).1 (by decide) (by decide) dL_printSchool_16
abbrev rm_L_restoreState : Room := { frames := 7, cells := 1, slots := 6, locals := 110 }
def p_L_restoreState (a0 : Nat) (a1 : Nat) (M : Mem) : Option (Int32 × Mem) :=
  (Option.bind (isC 5 M a0) fun _ =>
  (ctc2 (p_X6_restoreState a0 M) (fun (v2 : Int32) (M3 : Mem) =>
  (Option.bind (aLs M3 a1 (0 : Int32) (Int32.toInt64 v2)) fun M6 =>
  some ((0 : Int32), M6)
  )
  ) fun E4 =>
  (if E4 = "java/lang/IllegalStateException" then
  some ((1 : Int32), M)
  else
  none
  )
  ))
theorem yk_L_restoreState : yok yL_restoreState 2 := by decide +kernel
set_option maxHeartbeats 4000000 in
set_option maxRecDepth 100000 in
theorem w_L_restoreState {G : gG} (hG : GOK G) (hY : GY G) {l : Launch} (hlf : l.stackTraces = false) {a0 : Nat} {a1 : Nat} {M : Mem} {r : Int32} {M' : Mem} (hp : p_L_restoreState a0 a1 M = some (r, M')) : CT G l yL_restoreState (wH yL_restoreState cL_restoreState 3 (some FieldType.int) [(0, 8, 11, 71)]) rm_L_restoreState [.ref a0, .ref a1] M (some (.int r)) M' 1 6 := by
  refine CTH_of (own := RL) (maxL := 3) (ret := (some FieldType.int)) hG (by decide) rfl (Nat.le_of_ble_eq_true rfl) (fun p e s m below meth c A C0 hr hlk ht hM ls hl => ?_)
  have hl : lv_has ls 3 [(0, .ref a0), (1, .ref a1)] := hl
  generalize ([.ref a0, .ref a1] : List Value).toArray = args at C0 ⊢
  skip
  have hYs := hY s C0.2.2.2.2.2.1.2.2
  have hx := C0.1
  have hb := C0.2.1
  have hown := C0.2.2.2.1
  have hts := C0.2.2.2.2.1
  unfold p_L_restoreState at hp
  refine lv_aload_n hx hb dL_restoreState_0 rfl (lv_at hl 1 rfl) ?_
  refine lv_iconst (v := 0) hx hb dL_restoreState_1 (by decide) ?_
  refine lv_aload_n hx hb dL_restoreState_2 rfl (lv_at hl 0 rfl) ?_
  obtain ⟨_, h1, hp⟩ := ob hp
  rcases ctc2_at hp with ⟨E4, hv2, hp⟩ | ⟨v2, M3, hv2, hp⟩
  · by_cases e0 : E4 = "java/lang/IllegalStateException"
    · replace hp := oT e0 hp
      subst e0
      refine mx_threw C0 hM (mx_runV (As := []) (rest := [.int (0 : Int32), .ref a1]) C0 cbX6 hM h1 rfl (w_X6_restoreState hG hY hlf hv2) tw_1209 tw_1210 tw_1211 tw_1 tw_1212 yk_X6_restoreState (by decide) rfl hl.1 (Nat.le_of_ble_eq_true rfl) dL_restoreState_3) (fun H locs q5 ce hM hc1 hc2 hc3 => ?_)
      refine ml_c1 C0 hYs ht (by decide) (by decide) tw_975 (by decide +kernel) hc1 hc2 hc3 ?_
      refine lv_astore_n (lv' := [(2, .ref q5), (0, .ref a0), (1, .ref a1)]) hx hb dL_restoreState_11 rfl hl (by decide) rfl (fun ls hl => ?_)
      refine lv_iconst (v := 1) hx hb dL_restoreState_12 (by decide) ?_
      exact mr_iret C0 hr hlk hM (Prod.mk.inj (Option.some.inj hp)).2 (Prod.mk.inj (Option.some.inj hp)).1 (by decide) (by decide) dL_restoreState_13
    replace hp := oF e0 hp
    cases hp
  refine mx_back C0 hM (mx_runV (As := []) (rest := [.int (0 : Int32), .ref a1]) C0 cbX6 hM h1 rfl (w_X6_restoreState hG hY hlf hv2) tw_1209 tw_1210 tw_1211 tw_1 tw_1212 yk_X6_restoreState (by decide) rfl hl.1 (Nat.le_of_ble_eq_true rfl) dL_restoreState_3) (fun H locs hM => ?_)
  refine lv_i2l (v := (Int32.toInt64 v2)) hx hb dL_restoreState_6 rfl ?_
  obtain ⟨M6, hM6, hp⟩ := ob hp
  refine mr_last C0 hM hM6 dL_restoreState_7 (fun H locs hM => ?_)
  refine lv_goto (tgt := 14) hx hb dL_restoreState_8 (by decide) ?_
  refine lv_iconst (v := 0) hx hb dL_restoreState_14 (by decide) ?_
  exact mr_iret C0 hr hlk hM (Prod.mk.inj (Option.some.inj hp)).2 (Prod.mk.inj (Option.some.inj hp)).1 (by decide) (by decide) dL_restoreState_15
