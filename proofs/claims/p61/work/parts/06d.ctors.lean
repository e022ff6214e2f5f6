theorem dfX0 : ∀ j, j < 1 → defaultValue (tyX0 j) = vp_V [.null] j := fun j hj => by
  have h : j = 0 := by omega
  subst h; rfl
theorem dfX1 : ∀ j, j < 2 → defaultValue (tyX1 j) = vp_V [.null, .int 0] j := fun j hj => by
  have h : j = 0 ∨ j = 1 := by omega
  rcases h with rfl | rfl <;> rfl
theorem dfX2 : ∀ j, j < 20 → defaultValue (tyX2 j) = vp_V [.null, .int 0, .int 0, .int 0, .int 0, .int 0, .int 0, .long 0, .long 0, .long 0, .long 0, .null, .null, .null, .null, .null, .null, .null, .null, .null] j := fun j hj => by
  have h : j = 0 ∨ j = 1 ∨ j = 2 ∨ j = 3 ∨ j = 4 ∨ j = 5 ∨ j = 6 ∨ j = 7 ∨ j = 8 ∨ j = 9 ∨ j = 10 ∨ j = 11 ∨ j = 12 ∨ j = 13 ∨ j = 14 ∨ j = 15 ∨ j = 16 ∨ j = 17 ∨ j = 18 ∨ j = 19 := by omega
  rcases h with rfl | rfl | rfl | rfl | rfl | rfl | rfl | rfl | rfl | rfl | rfl | rfl | rfl | rfl | rfl | rfl | rfl | rfl | rfl | rfl <;> rfl
theorem dfX3 : ∀ j, j < 12 → defaultValue (tyX3 j) = vp_V [.null, .int 0, .int 0, .int 0, .null, .int 0, .int 0, .int 0, .int 0, .int 0, .int 0, .null] j := fun j hj => by
  have h : j = 0 ∨ j = 1 ∨ j = 2 ∨ j = 3 ∨ j = 4 ∨ j = 5 ∨ j = 6 ∨ j = 7 ∨ j = 8 ∨ j = 9 ∨ j = 10 ∨ j = 11 := by omega
  rcases h with rfl | rfl | rfl | rfl | rfl | rfl | rfl | rfl | rfl | rfl | rfl | rfl <;> rfl
theorem dfX4 : ∀ j, j < 13 → defaultValue (tyX4 j) = vp_V [.int 0, .int 0, .int 0, .null, .null, .null, .null, .null, .null, .null, .null, .null, .null] j := fun j hj => by
  have h : j = 0 ∨ j = 1 ∨ j = 2 ∨ j = 3 ∨ j = 4 ∨ j = 5 ∨ j = 6 ∨ j = 7 ∨ j = 8 ∨ j = 9 ∨ j = 10 ∨ j = 11 ∨ j = 12 := by omega
  rcases h with rfl | rfl | rfl | rfl | rfl | rfl | rfl | rfl | rfl | rfl | rfl | rfl | rfl <;> rfl
theorem dfX6 : ∀ j, j < 11 → defaultValue (tyX6 j) = vp_V [.null, .null, .null, .null, .null, .null, .null, .int 0, .null, .int 0, .int 0] j := fun j hj => by
  have h : j = 0 ∨ j = 1 ∨ j = 2 ∨ j = 3 ∨ j = 4 ∨ j = 5 ∨ j = 6 ∨ j = 7 ∨ j = 8 ∨ j = 9 ∨ j = 10 := by omega
  rcases h with rfl | rfl | rfl | rfl | rfl | rfl | rfl | rfl | rfl | rfl | rfl <;> rfl
abbrev rm_X0_init : Room := { frames := 1, cells := 1, slots := 40, locals := 30 }
def pn_X0_init (z : Nat) (a0 : Nat) (M : Mem) : Option Mem :=
  (jn (upM M z (.inl (0, (40, .inl (fun _ => 0))))) fun M1 =>
  (Option.bind (sV 0 0 M1 a0 (.ref z)) fun M2 =>
  some M2
  )
  )
theorem yk_X0_init : yok yX0_init 0 := by decide +kernel
set_option maxHeartbeats 4000000 in
set_option maxRecDepth 100000 in
theorem wn_X0_init {G : gG} (hG : GOK G) {l : Launch} {z : Nat} {a0 : Nat} {M M' : Mem} (hp : pn_X0_init z a0 M = some M') : CN G l yX0_init (wT yX0_init cX0_init 1 none) rm_X0_init [.ref a0] M z M' 1 40 := by
  refine CN_of (own := RX0) (maxL := 1) hG (by decide) rfl rfl (Nat.le_of_ble_eq_true rfl) (fun p e s m below meth c A C0 hr hlk hni hN ls hl => ?_)
  have hl : lv_has ls 1 [(0, .ref a0)] := hl
  generalize ([.ref a0] : List Value).toArray = args at C0 ⊢
  have hM := hN.1
  have hz0 := hN.2
  have hx := C0.1
  have hb := C0.2.1
  have hown := C0.2.2.2.1
  have hts := C0.2.2.2.2.1
  unfold pn_X0_init at hp
  refine lv_aload_n hx hb dX0_init_0 rfl (lv_at hl 0 rfl) ?_
  refine mn_obj C0 tw_268 tw_48 tw_49 hl.1 ⟨by decide, Nat.le_of_ble_eq_true rfl⟩ dX0_init_1 ?_
  refine lv_aload_n hx hb dX0_init_4 rfl (lv_at hl 0 rfl) ?_
  refine lv_bipush (v := 40) hx hb dX0_init_5 (by decide) ?_
  obtain ⟨M1, eM1, hp⟩ := ojn hp
  refine mn_newa C0 hN tw_126 rfl 0 rfl (fun _ => rfl) 40 (40, .inl (fun _ => 0)) (fun _ => rfl) (by decide) (by decide +kernel) (by decide) (by decide) (by decide) dX0_init_7 (fun H hN => ?_)
  rw [← eM1] at hN
  have hM := hN.1
  obtain ⟨M2, hM2, hp⟩ := ob hp
  refine mn_putF C0 cbX0 hN hni 0 (by decide) rfl rfl tw_269 rfl rfl hM2 dX0_init_9 (fun H locs hN => ?_)
  have hM := hN.1
  exact mn_vret C0 hr hlk hN (Option.some.inj hp) rfl (by decide) (by decide) dX0_init_12
abbrev rm_X1_init : Room := { frames := 1, cells := 1, slots := 200, locals := 30 }
def pn_X1_init (z : Nat) (a0 : Nat) (M : Mem) : Option Mem :=
  (jn (upM M z (.inl (1, (200, .inl (fun _ => 0))))) fun M1 =>
  (Option.bind (sV 1 0 M1 a0 (.ref z)) fun M2 =>
  (Option.bind (sV 1 1 M2 a0 (.int (0 : Int32))) fun M3 =>
  some M3
  )
  )
  )
theorem yk_X1_init : yok yX1_init 0 := by decide +kernel
set_option maxHeartbeats 4000000 in
set_option maxRecDepth 100000 in
theorem wn_X1_init {G : gG} (hG : GOK G) {l : Launch} {z : Nat} {a0 : Nat} {M M' : Mem} (hp : pn_X1_init z a0 M = some M') : CN G l yX1_init (wT yX1_init cX1_init 1 none) rm_X1_init [.ref a0] M z M' 1 200 := by
  refine CN_of (own := RX1) (maxL := 1) hG (by decide) rfl rfl (Nat.le_of_ble_eq_true rfl) (fun p e s m below meth c A C0 hr hlk hni hN ls hl => ?_)
  have hl : lv_has ls 1 [(0, .ref a0)] := hl
  generalize ([.ref a0] : List Value).toArray = args at C0 ⊢
  have hM := hN.1
  have hz0 := hN.2
  have hx := C0.1
  have hb := C0.2.1
  have hown := C0.2.2.2.1
  have hts := C0.2.2.2.2.1
  unfold pn_X1_init at hp
  refine lv_aload_n hx hb dX1_init_0 rfl (lv_at hl 0 rfl) ?_
  refine mn_obj C0 tw_278 tw_48 tw_49 hl.1 ⟨by decide, Nat.le_of_ble_eq_true rfl⟩ dX1_init_1 ?_
  refine lv_aload_n hx hb dX1_init_4 rfl (lv_at hl 0 rfl) ?_
  refine lv_sipush (v := 200) hx hb dX1_init_5 (by decide) ?_
  obtain ⟨M1, eM1, hp⟩ := ojn hp
  refine mn_newa C0 hN tw_125 rfl 1 rfl (fun _ => rfl) 200 (200, .inl (fun _ => 0)) (fun _ => rfl) (by decide) (by decide +kernel) (by decide) (by decide) (by decide) dX1_init_8 (fun H hN => ?_)
  rw [← eM1] at hN
  have hM := hN.1
  obtain ⟨M2, hM2, hp⟩ := ob hp
  refine mn_putF C0 cbX1 hN hni 0 (by decide) rfl rfl tw_279 rfl rfl hM2 dX1_init_10 (fun H locs hN => ?_)
  have hM := hN.1
  refine lv_aload_n hx hb dX1_init_13 rfl (lv_at hl 0 rfl) ?_
  refine lv_iconst (v := 0) hx hb dX1_init_14 (by decide) ?_
  obtain ⟨M3, hM3, hp⟩ := ob hp
  refine mn_put C0 cbX1 hN 1 (by decide) rfl tw_280 rfl rfl hM3 dX1_init_15 (fun H locs hN => ?_)
  have hM := hN.1
  exact mn_vret C0 hr hlk hN (Option.some.inj hp) rfl (by decide) (by decide) dX1_init_18
abbrev rm_X4_init : Room := { frames := 1, cells := 10, slots := 172, locals := 30 }
def pn_X4_init (z : Nat) (a0 : Nat) (M : Mem) : Option Mem :=
  (Option.bind (sV 4 0 M a0 (.int (0 : Int32))) fun M1 =>
  (Option.bind (sV 4 1 M1 a0 (.int (0 : Int32))) fun M2 =>
  (Option.bind (sV 4 2 M2 a0 (.int (0 : Int32))) fun M3 =>
  (jn (upM M3 z (.inl (0, (8, .inl (fun _ => 0))))) fun M4 =>
  (Option.bind (sV 4 3 M4 a0 (.ref z)) fun M5 =>
  (jn (upM M5 (z + 1) (.inl (0, (8, .inl (fun _ => 0))))) fun M6 =>
  (Option.bind (sV 4 4 M6 a0 (.ref (z + 1))) fun M7 =>
  (jn (upM M7 (z + 2) (.inl (0, (8, .inl (fun _ => 0))))) fun M8 =>
  (Option.bind (sV 4 5 M8 a0 (.ref (z + 2))) fun M9 =>
  (jn (upM M9 (z + 3) (.inl (0, (8, .inl (fun _ => 0))))) fun M10 =>
  (Option.bind (sV 4 6 M10 a0 (.ref (z + 3))) fun M11 =>
  (jn (upM M11 (z + 4) (.inl (0, (8, .inl (fun _ => 0))))) fun M12 =>
  (Option.bind (sV 4 7 M12 a0 (.ref (z + 4))) fun M13 =>
  (jn (upM M13 (z + 5) (.inl (0, (8, .inl (fun _ => 0))))) fun M14 =>
  (Option.bind (sV 4 8 M14 a0 (.ref (z + 5))) fun M15 =>
  (jn (upM M15 (z + 6) (.inl (0, (8, .inl (fun _ => 0))))) fun M16 =>
  (Option.bind (sV 4 9 M16 a0 (.ref (z + 6))) fun M17 =>
  (jn (upM M17 (z + 7) (.inl (0, (8, .inl (fun _ => 0))))) fun M18 =>
  (Option.bind (sV 4 10 M18 a0 (.ref (z + 7))) fun M19 =>
  (jn (upM M19 (z + 8) (.inl (0, (8, .inl (fun _ => 0))))) fun M20 =>
  (Option.bind (sV 4 11 M20 a0 (.ref (z + 8))) fun M21 =>
  (jn (upM M21 (z + 9) (.inl (0, (100, .inl (fun _ => 0))))) fun M22 =>
  (Option.bind (sV 4 12 M22 a0 (.ref (z + 9))) fun M23 =>
  some M23
  )
  )
  )
  )
  )
  )
  )
  )
  )
  )
  )
  )
  )
  )
  )
  )
  )
  )
  )
  )
  )
  )
  )
theorem yk_X4_init : yok yX4_init 0 := by decide +kernel
set_option maxHeartbeats 4000000 in
set_option maxRecDepth 100000 in
theorem wn_X4_init {G : gG} (hG : GOK G) {l : Launch} {z : Nat} {a0 : Nat} {M M' : Mem} (hp : pn_X4_init z a0 M = some M') : CN G l yX4_init (wT yX4_init cX4_init 1 none) rm_X4_init [.ref a0] M z M' 10 172 := by
  refine CN_of (own := RX4) (maxL := 1) hG (by decide) rfl rfl (Nat.le_of_ble_eq_true rfl) (fun p e s m below meth c A C0 hr hlk hni hN ls hl => ?_)
  have hl : lv_has ls 1 [(0, .ref a0)] := hl
  generalize ([.ref a0] : List Value).toArray = args at C0 ⊢
  have hM := hN.1
  have hz0 := hN.2
  have hx := C0.1
  have hb := C0.2.1
  have hown := C0.2.2.2.1
  have hts := C0.2.2.2.2.1
  unfold pn_X4_init at hp
  refine lv_aload_n hx hb dX4_init_0 rfl (lv_at hl 0 rfl) ?_
  refine mn_obj C0 tw_63 tw_48 tw_49 hl.1 ⟨by decide, Nat.le_of_ble_eq_true rfl⟩ dX4_init_1 ?_
  refine lv_aload_n hx hb dX4_init_4 rfl (lv_at hl 0 rfl) ?_
  refine lv_iconst (v := 0) hx hb dX4_init_5 (by decide) ?_
  obtain ⟨M1, hM1, hp⟩ := ob hp
  refine mn_put C0 cbX4 hN 0 (by decide) rfl tw_64 rfl rfl hM1 dX4_init_6 (fun H locs hN => ?_)
  have hM := hN.1
  refine lv_aload_n hx hb dX4_init_9 rfl (lv_at hl 0 rfl) ?_
  refine lv_iconst (v := 0) hx hb dX4_init_10 (by decide) ?_
  obtain ⟨M2, hM2, hp⟩ := ob hp
  refine mn_put C0 cbX4 hN 1 (by decide) rfl tw_69 rfl rfl hM2 dX4_init_11 (fun H locs hN => ?_)
  have hM := hN.1
  refine lv_aload_n hx hb dX4_init_14 rfl (lv_at hl 0 rfl) ?_
  refine lv_iconst (v := 0) hx hb dX4_init_15 (by decide) ?_
  obtain ⟨M3, hM3, hp⟩ := ob hp
  refine mn_put C0 cbX4 hN 2 (by decide) rfl tw_72 rfl rfl hM3 dX4_init_16 (fun H locs hN => ?_)
  have hM := hN.1
  refine lv_aload_n hx hb dX4_init_19 rfl (lv_at hl 0 rfl) ?_
  refine lv_bipush (v := 8) hx hb dX4_init_20 (by decide) ?_
  obtain ⟨M4, eM4, hp⟩ := ojn hp
  refine mn_newa C0 hN tw_126 rfl 0 rfl (fun _ => rfl) 8 (8, .inl (fun _ => 0)) (fun _ => rfl) (by decide) (by decide +kernel) (by decide) (by decide) (by decide) dX4_init_22 (fun H hN => ?_)
  rw [← eM4] at hN
  have hM := hN.1
  obtain ⟨M5, hM5, hp⟩ := ob hp
  refine mn_putF C0 cbX4 hN hni 3 (by decide) rfl rfl tw_76 rfl rfl hM5 dX4_init_24 (fun H locs hN => ?_)
  have hM := hN.1
  refine lv_aload_n hx hb dX4_init_27 rfl (lv_at hl 0 rfl) ?_
  refine lv_bipush (v := 8) hx hb dX4_init_28 (by decide) ?_
  obtain ⟨M6, eM6, hp⟩ := ojn hp
  refine mn_newa C0 hN tw_126 rfl 0 rfl (fun _ => rfl) 8 (8, .inl (fun _ => 0)) (fun _ => rfl) (by decide) (by decide +kernel) (by decide) (by decide) (by decide) dX4_init_30 (fun H hN => ?_)
  rw [← eM6] at hN
  have hM := hN.1
  obtain ⟨M7, hM7, hp⟩ := ob hp
  refine mn_putF C0 cbX4 hN hni 4 (by decide) rfl rfl tw_77 rfl rfl hM7 dX4_init_32 (fun H locs hN => ?_)
  have hM := hN.1
  refine lv_aload_n hx hb dX4_init_35 rfl (lv_at hl 0 rfl) ?_
  refine lv_bipush (v := 8) hx hb dX4_init_36 (by decide) ?_
  obtain ⟨M8, eM8, hp⟩ := ojn hp
  refine mn_newa C0 hN tw_126 rfl 0 rfl (fun _ => rfl) 8 (8, .inl (fun _ => 0)) (fun _ => rfl) (by decide) (by decide +kernel) (by decide) (by decide) (by decide) dX4_init_38 (fun H hN => ?_)
  rw [← eM8] at hN
  have hM := hN.1
  obtain ⟨M9, hM9, hp⟩ := ob hp
  refine mn_putF C0 cbX4 hN hni 5 (by decide) rfl rfl tw_80 rfl rfl hM9 dX4_init_40 (fun H locs hN => ?_)
  have hM := hN.1
  refine lv_aload_n hx hb dX4_init_43 rfl (lv_at hl 0 rfl) ?_
  refine lv_bipush (v := 8) hx hb dX4_init_44 (by decide) ?_
  obtain ⟨M10, eM10, hp⟩ := ojn hp
  refine mn_newa C0 hN tw_126 rfl 0 rfl (fun _ => rfl) 8 (8, .inl (fun _ => 0)) (fun _ => rfl) (by decide) (by decide +kernel) (by decide) (by decide) (by decide) dX4_init_46 (fun H hN => ?_)
  rw [← eM10] at hN
  have hM := hN.1
  obtain ⟨M11, hM11, hp⟩ := ob hp
  refine mn_putF C0 cbX4 hN hni 6 (by decide) rfl rfl tw_83 rfl rfl hM11 dX4_init_48 (fun H locs hN => ?_)
  have hM := hN.1
  refine lv_aload_n hx hb dX4_init_51 rfl (lv_at hl 0 rfl) ?_
  refine lv_bipush (v := 8) hx hb dX4_init_52 (by decide) ?_
  obtain ⟨M12, eM12, hp⟩ := ojn hp
  refine mn_newa C0 hN tw_126 rfl 0 rfl (fun _ => rfl) 8 (8, .inl (fun _ => 0)) (fun _ => rfl) (by decide) (by decide +kernel) (by decide) (by decide) (by decide) dX4_init_54 (fun H hN => ?_)
  rw [← eM12] at hN
  have hM := hN.1
  obtain ⟨M13, hM13, hp⟩ := ob hp
  refine mn_putF C0 cbX4 hN hni 7 (by decide) rfl rfl tw_86 rfl rfl hM13 dX4_init_56 (fun H locs hN => ?_)
  have hM := hN.1
  refine lv_aload_n hx hb dX4_init_59 rfl (lv_at hl 0 rfl) ?_
  refine lv_bipush (v := 8) hx hb dX4_init_60 (by decide) ?_
  obtain ⟨M14, eM14, hp⟩ := ojn hp
  refine mn_newa C0 hN tw_126 rfl 0 rfl (fun _ => rfl) 8 (8, .inl (fun _ => 0)) (fun _ => rfl) (by decide) (by decide +kernel) (by decide) (by decide) (by decide) dX4_init_62 (fun H hN => ?_)
  rw [← eM14] at hN
  have hM := hN.1
  obtain ⟨M15, hM15, hp⟩ := ob hp
  refine mn_putF C0 cbX4 hN hni 8 (by decide) rfl rfl tw_88 rfl rfl hM15 dX4_init_64 (fun H locs hN => ?_)
  have hM := hN.1
  refine lv_aload_n hx hb dX4_init_67 rfl (lv_at hl 0 rfl) ?_
  refine lv_bipush (v := 8) hx hb dX4_init_68 (by decide) ?_
  obtain ⟨M16, eM16, hp⟩ := ojn hp
  refine mn_newa C0 hN tw_126 rfl 0 rfl (fun _ => rfl) 8 (8, .inl (fun _ => 0)) (fun _ => rfl) (by decide) (by decide +kernel) (by decide) (by decide) (by decide) dX4_init_70 (fun H hN => ?_)
  rw [← eM16] at hN
  have hM := hN.1
  obtain ⟨M17, hM17, hp⟩ := ob hp
  refine mn_putF C0 cbX4 hN hni 9 (by decide) rfl rfl tw_90 rfl rfl hM17 dX4_init_72 (fun H locs hN => ?_)
  have hM := hN.1
  refine lv_aload_n hx hb dX4_init_75 rfl (lv_at hl 0 rfl) ?_
  refine lv_bipush (v := 8) hx hb dX4_init_76 (by decide) ?_
  obtain ⟨M18, eM18, hp⟩ := ojn hp
  refine mn_newa C0 hN tw_126 rfl 0 rfl (fun _ => rfl) 8 (8, .inl (fun _ => 0)) (fun _ => rfl) (by decide) (by decide +kernel) (by decide) (by decide) (by decide) dX4_init_78 (fun H hN => ?_)
  rw [← eM18] at hN
  have hM := hN.1
  obtain ⟨M19, hM19, hp⟩ := ob hp
  refine mn_putF C0 cbX4 hN hni 10 (by decide) rfl rfl tw_92 rfl rfl hM19 dX4_init_80 (fun H locs hN => ?_)
  have hM := hN.1
  refine lv_aload_n hx hb dX4_init_83 rfl (lv_at hl 0 rfl) ?_
  refine lv_bipush (v := 8) hx hb dX4_init_84 (by decide) ?_
  obtain ⟨M20, eM20, hp⟩ := ojn hp
  refine mn_newa C0 hN tw_126 rfl 0 rfl (fun _ => rfl) 8 (8, .inl (fun _ => 0)) (fun _ => rfl) (by decide) (by decide +kernel) (by decide) (by decide) (by decide) dX4_init_86 (fun H hN => ?_)
  rw [← eM20] at hN
  have hM := hN.1
  obtain ⟨M21, hM21, hp⟩ := ob hp
  refine mn_putF C0 cbX4 hN hni 11 (by decide) rfl rfl tw_94 rfl rfl hM21 dX4_init_88 (fun H locs hN => ?_)
  have hM := hN.1
  refine lv_aload_n hx hb dX4_init_91 rfl (lv_at hl 0 rfl) ?_
  refine lv_bipush (v := 100) hx hb dX4_init_92 (by decide) ?_
  obtain ⟨M22, eM22, hp⟩ := ojn hp
  refine mn_newa C0 hN tw_126 rfl 0 rfl (fun _ => rfl) 100 (100, .inl (fun _ => 0)) (fun _ => rfl) (by decide) (by decide +kernel) (by decide) (by decide) (by decide) dX4_init_94 (fun H hN => ?_)
  rw [← eM22] at hN
  have hM := hN.1
  obtain ⟨M23, hM23, hp⟩ := ob hp
  refine mn_putF C0 cbX4 hN hni 12 (by decide) rfl rfl tw_96 rfl rfl hM23 dX4_init_96 (fun H locs hN => ?_)
  have hM := hN.1
  exact mn_vret C0 hr hlk hN (Option.some.inj hp) rfl (by decide) (by decide) dX4_init_99
abbrev rm_X2_init : Room := { frames := 1, cells := 9, slots := 296, locals := 30 }
def pn_X2_init (z : Nat) (a0 : Nat) (a1 : Nat) (M : Mem) : Option Mem :=
  (Option.bind (sV 2 1 M a0 (.int (0 : Int32))) fun M1 =>
  (Option.bind (sV 2 2 M1 a0 (.int (0 : Int32))) fun M2 =>
  (Option.bind (sV 2 3 M2 a0 (.int (0 : Int32))) fun M3 =>
  (Option.bind (sV 2 4 M3 a0 (.int (0 : Int32))) fun M4 =>
  (Option.bind (sV 2 5 M4 a0 (.int (0 : Int32))) fun M5 =>
  (Option.bind (sV 2 6 M5 a0 (.int (0 : Int32))) fun M6 =>
  (Option.bind (sV 2 7 M6 a0 (.long (0 : Int64))) fun M7 =>
  (Option.bind (sV 2 8 M7 a0 (.long (0 : Int64))) fun M8 =>
  (Option.bind (sV 2 9 M8 a0 (.long (0 : Int64))) fun M9 =>
  (Option.bind (sV 2 10 M9 a0 (.long (0 : Int64))) fun M10 =>
  (jn (upM M10 z (.inl (0, (40, .inl (fun _ => 0))))) fun M11 =>
  (Option.bind (sV 2 11 M11 a0 (.ref z)) fun M12 =>
  (jn (upM M12 (z + 1) (.inl (0, (40, .inl (fun _ => 0))))) fun M13 =>
  (Option.bind (sV 2 12 M13 a0 (.ref (z + 1))) fun M14 =>
  (jn (upM M14 (z + 2) (.inl (0, (40, .inl (fun _ => 0))))) fun M15 =>
  (Option.bind (sV 2 13 M15 a0 (.ref (z + 2))) fun M16 =>
  (jn (upM M16 (z + 3) (.inl (0, (40, .inl (fun _ => 0))))) fun M17 =>
  (Option.bind (sV 2 14 M17 a0 (.ref (z + 3))) fun M18 =>
  (jn (upM M18 (z + 4) (.inl (0, (40, .inl (fun _ => 0))))) fun M19 =>
  (Option.bind (sV 2 15 M19 a0 (.ref (z + 4))) fun M20 =>
  (jn (upM M20 (z + 5) (.inl (0, (40, .inl (fun _ => 0))))) fun M21 =>
  (Option.bind (sV 2 16 M21 a0 (.ref (z + 5))) fun M22 =>
  (jn (upM M22 (z + 6) (.inl (0, (40, .inl (fun _ => 0))))) fun M23 =>
  (Option.bind (sV 2 17 M23 a0 (.ref (z + 6))) fun M24 =>
  (jn (upM M24 (z + 7) (.inl (0, (8, .inl (fun _ => 0))))) fun M25 =>
  (Option.bind (sV 2 18 M25 a0 (.ref (z + 7))) fun M26 =>
  (jn (upM M26 (z + 8) (.inl (0, (8, .inl (fun _ => 0))))) fun M27 =>
  (Option.bind (sV 2 19 M27 a0 (.ref (z + 8))) fun M28 =>
  (Option.bind (sV 2 0 M28 a0 (.ref a1)) fun M29 =>
  some M29
  )
  )
  )
  )
  )
  )
  )
  )
  )
  )
  )
  )
  )
  )
  )
  )
  )
  )
  )
  )
  )
  )
  )
  )
  )
  )
  )
  )
  )
theorem yk_X2_init : yok yX2_init 1 := by decide +kernel
set_option maxHeartbeats 4000000 in
set_option maxRecDepth 100000 in
theorem wn_X2_init {G : gG} (hG : GOK G) {l : Launch} {z : Nat} {a0 : Nat} {a1 : Nat} {M M' : Mem} (hp : pn_X2_init z a0 a1 M = some M') : CN G l yX2_init (wT yX2_init cX2_init 2 none) rm_X2_init [.ref a0, .ref a1] M z M' 9 296 := by
  refine CN_of (own := RX2) (maxL := 2) hG (by decide) rfl rfl (Nat.le_of_ble_eq_true rfl) (fun p e s m below meth c A C0 hr hlk hni hN ls hl => ?_)
  have hl : lv_has ls 2 [(0, .ref a0), (1, .ref a1)] := hl
  generalize ([.ref a0, .ref a1] : List Value).toArray = args at C0 ⊢
  have hM := hN.1
  have hz0 := hN.2
  have hx := C0.1
  have hb := C0.2.1
  have hown := C0.2.2.2.1
  have hts := C0.2.2.2.2.1
  unfold pn_X2_init at hp
  refine lv_aload_n hx hb dX2_init_0 rfl (lv_at hl 0 rfl) ?_
  refine mn_obj C0 tw_130 tw_48 tw_49 hl.1 ⟨by decide, Nat.le_of_ble_eq_true rfl⟩ dX2_init_1 ?_
  refine lv_aload_n hx hb dX2_init_4 rfl (lv_at hl 0 rfl) ?_
  refine lv_iconst (v := 0) hx hb dX2_init_5 (by decide) ?_
  obtain ⟨M1, hM1, hp⟩ := ob hp
  refine mn_put C0 cbX2 hN 1 (by decide) rfl tw_135 rfl rfl hM1 dX2_init_6 (fun H locs hN => ?_)
  have hM := hN.1
  refine lv_aload_n hx hb dX2_init_9 rfl (lv_at hl 0 rfl) ?_
  refine lv_iconst (v := 0) hx hb dX2_init_10 (by decide) ?_
  obtain ⟨M2, hM2, hp⟩ := ob hp
  refine mn_put C0 cbX2 hN 2 (by decide) rfl tw_139 rfl rfl hM2 dX2_init_11 (fun H locs hN => ?_)
  have hM := hN.1
  refine lv_aload_n hx hb dX2_init_14 rfl (lv_at hl 0 rfl) ?_
  refine lv_iconst (v := 0) hx hb dX2_init_15 (by decide) ?_
  obtain ⟨M3, hM3, hp⟩ := ob hp
  refine mn_put C0 cbX2 hN 3 (by decide) rfl tw_141 rfl rfl hM3 dX2_init_16 (fun H locs hN => ?_)
  have hM := hN.1
  refine lv_aload_n hx hb dX2_init_19 rfl (lv_at hl 0 rfl) ?_
  refine lv_iconst (v := 0) hx hb dX2_init_20 (by decide) ?_
  obtain ⟨M4, hM4, hp⟩ := ob hp
  refine mn_put C0 cbX2 hN 4 (by decide) rfl tw_144 rfl rfl hM4 dX2_init_21 (fun H locs hN => ?_)
  have hM := hN.1
  refine lv_aload_n hx hb dX2_init_24 rfl (lv_at hl 0 rfl) ?_
  refine lv_iconst (v := 0) hx hb dX2_init_25 (by decide) ?_
  obtain ⟨M5, hM5, hp⟩ := ob hp
  refine mn_put C0 cbX2 hN 5 (by decide) rfl tw_146 rfl rfl hM5 dX2_init_26 (fun H locs hN => ?_)
  have hM := hN.1
  refine lv_aload_n hx hb dX2_init_29 rfl (lv_at hl 0 rfl) ?_
  refine lv_iconst (v := 0) hx hb dX2_init_30 (by decide) ?_
  obtain ⟨M6, hM6, hp⟩ := ob hp
  refine mn_put C0 cbX2 hN 6 (by decide) rfl tw_149 rfl rfl hM6 dX2_init_31 (fun H locs hN => ?_)
  have hM := hN.1
  refine lv_aload_n hx hb dX2_init_34 rfl (lv_at hl 0 rfl) ?_
  refine lv_lconst (v := 0) hx hb dX2_init_35 (by decide) ?_
  obtain ⟨M7, hM7, hp⟩ := ob hp
  refine mn_put C0 cbX2 hN 7 (by decide) rfl tw_151 rfl rfl hM7 dX2_init_36 (fun H locs hN => ?_)
  have hM := hN.1
  refine lv_aload_n hx hb dX2_init_39 rfl (lv_at hl 0 rfl) ?_
  refine lv_lconst (v := 0) hx hb dX2_init_40 (by decide) ?_
  obtain ⟨M8, hM8, hp⟩ := ob hp
  refine mn_put C0 cbX2 hN 8 (by decide) rfl tw_153 rfl rfl hM8 dX2_init_41 (fun H locs hN => ?_)
  have hM := hN.1
  refine lv_aload_n hx hb dX2_init_44 rfl (lv_at hl 0 rfl) ?_
  refine lv_lconst (v := 0) hx hb dX2_init_45 (by decide) ?_
  obtain ⟨M9, hM9, hp⟩ := ob hp
  refine mn_put C0 cbX2 hN 9 (by decide) rfl tw_155 rfl rfl hM9 dX2_init_46 (fun H locs hN => ?_)
  have hM := hN.1
  refine lv_aload_n hx hb dX2_init_49 rfl (lv_at hl 0 rfl) ?_
  refine lv_lconst (v := 0) hx hb dX2_init_50 (by decide) ?_
  obtain ⟨M10, hM10, hp⟩ := ob hp
  refine mn_put C0 cbX2 hN 10 (by decide) rfl tw_158 rfl rfl hM10 dX2_init_51 (fun H locs hN => ?_)
  have hM := hN.1
  refine lv_aload_n hx hb dX2_init_54 rfl (lv_at hl 0 rfl) ?_
  refine lv_bipush (v := 40) hx hb dX2_init_55 (by decide) ?_
  obtain ⟨M11, eM11, hp⟩ := ojn hp
  refine mn_newa C0 hN tw_126 rfl 0 rfl (fun _ => rfl) 40 (40, .inl (fun _ => 0)) (fun _ => rfl) (by decide) (by decide +kernel) (by decide) (by decide) (by decide) dX2_init_57 (fun H hN => ?_)
  rw [← eM11] at hN
  have hM := hN.1
  obtain ⟨M12, hM12, hp⟩ := ob hp
  refine mn_putF C0 cbX2 hN hni 11 (by decide) rfl rfl tw_160 rfl rfl hM12 dX2_init_59 (fun H locs hN => ?_)
  have hM := hN.1
  refine lv_aload_n hx hb dX2_init_62 rfl (lv_at hl 0 rfl) ?_
  refine lv_bipush (v := 40) hx hb dX2_init_63 (by decide) ?_
  obtain ⟨M13, eM13, hp⟩ := ojn hp
  refine mn_newa C0 hN tw_126 rfl 0 rfl (fun _ => rfl) 40 (40, .inl (fun _ => 0)) (fun _ => rfl) (by decide) (by decide +kernel) (by decide) (by decide) (by decide) dX2_init_65 (fun H hN => ?_)
  rw [← eM13] at hN
  have hM := hN.1
  obtain ⟨M14, hM14, hp⟩ := ob hp
  refine mn_putF C0 cbX2 hN hni 12 (by decide) rfl rfl tw_162 rfl rfl hM14 dX2_init_67 (fun H locs hN => ?_)
  have hM := hN.1
  refine lv_aload_n hx hb dX2_init_70 rfl (lv_at hl 0 rfl) ?_
  refine lv_bipush (v := 40) hx hb dX2_init_71 (by decide) ?_
  obtain ⟨M15, eM15, hp⟩ := ojn hp
  refine mn_newa C0 hN tw_126 rfl 0 rfl (fun _ => rfl) 40 (40, .inl (fun _ => 0)) (fun _ => rfl) (by decide) (by decide +kernel) (by decide) (by decide) (by decide) dX2_init_73 (fun H hN => ?_)
  rw [← eM15] at hN
  have hM := hN.1
  obtain ⟨M16, hM16, hp⟩ := ob hp
  refine mn_putF C0 cbX2 hN hni 13 (by decide) rfl rfl tw_164 rfl rfl hM16 dX2_init_75 (fun H locs hN => ?_)
  have hM := hN.1
  refine lv_aload_n hx hb dX2_init_78 rfl (lv_at hl 0 rfl) ?_
  refine lv_bipush (v := 40) hx hb dX2_init_79 (by decide) ?_
  obtain ⟨M17, eM17, hp⟩ := ojn hp
  refine mn_newa C0 hN tw_126 rfl 0 rfl (fun _ => rfl) 40 (40, .inl (fun _ => 0)) (fun _ => rfl) (by decide) (by decide +kernel) (by decide) (by decide) (by decide) dX2_init_81 (fun H hN => ?_)
  rw [← eM17] at hN
  have hM := hN.1
  obtain ⟨M18, hM18, hp⟩ := ob hp
  refine mn_putF C0 cbX2 hN hni 14 (by decide) rfl rfl tw_166 rfl rfl hM18 dX2_init_83 (fun H locs hN => ?_)
  have hM := hN.1
  refine lv_aload_n hx hb dX2_init_86 rfl (lv_at hl 0 rfl) ?_
  refine lv_bipush (v := 40) hx hb dX2_init_87 (by decide) ?_
  obtain ⟨M19, eM19, hp⟩ := ojn hp
  refine mn_newa C0 hN tw_126 rfl 0 rfl (fun _ => rfl) 40 (40, .inl (fun _ => 0)) (fun _ => rfl) (by decide) (by decide +kernel) (by decide) (by decide) (by decide) dX2_init_89 (fun H hN => ?_)
  rw [← eM19] at hN
  have hM := hN.1
  obtain ⟨M20, hM20, hp⟩ := ob hp
  refine mn_putF C0 cbX2 hN hni 15 (by decide) rfl rfl tw_168 rfl rfl hM20 dX2_init_91 (fun H locs hN => ?_)
  have hM := hN.1
  refine lv_aload_n hx hb dX2_init_94 rfl (lv_at hl 0 rfl) ?_
  refine lv_bipush (v := 40) hx hb dX2_init_95 (by decide) ?_
  obtain ⟨M21, eM21, hp⟩ := ojn hp
  refine mn_newa C0 hN tw_126 rfl 0 rfl (fun _ => rfl) 40 (40, .inl (fun _ => 0)) (fun _ => rfl) (by decide) (by decide +kernel) (by decide) (by decide) (by decide) dX2_init_97 (fun H hN => ?_)
  rw [← eM21] at hN
  have hM := hN.1
  obtain ⟨M22, hM22, hp⟩ := ob hp
  refine mn_putF C0 cbX2 hN hni 16 (by decide) rfl rfl tw_171 rfl rfl hM22 dX2_init_99 (fun H locs hN => ?_)
  have hM := hN.1
  refine lv_aload_n hx hb dX2_init_102 rfl (lv_at hl 0 rfl) ?_
  refine lv_bipush (v := 40) hx hb dX2_init_103 (by decide) ?_
  obtain ⟨M23, eM23, hp⟩ := ojn hp
  refine mn_newa C0 hN tw_126 rfl 0 rfl (fun _ => rfl) 40 (40, .inl (fun _ => 0)) (fun _ => rfl) (by decide) (by decide +kernel) (by decide) (by decide) (by decide) dX2_init_105 (fun H hN => ?_)
  rw [← eM23] at hN
  have hM := hN.1
  obtain ⟨M24, hM24, hp⟩ := ob hp
  refine mn_putF C0 cbX2 hN hni 17 (by decide) rfl rfl tw_174 rfl rfl hM24 dX2_init_107 (fun H locs hN => ?_)
  have hM := hN.1
  refine lv_aload_n hx hb dX2_init_110 rfl (lv_at hl 0 rfl) ?_
  refine lv_bipush (v := 8) hx hb dX2_init_111 (by decide) ?_
  obtain ⟨M25, eM25, hp⟩ := ojn hp
  refine mn_newa C0 hN tw_126 rfl 0 rfl (fun _ => rfl) 8 (8, .inl (fun _ => 0)) (fun _ => rfl) (by decide) (by decide +kernel) (by decide) (by decide) (by decide) dX2_init_113 (fun H hN => ?_)
  rw [← eM25] at hN
  have hM := hN.1
  obtain ⟨M26, hM26, hp⟩ := ob hp
  refine mn_putF C0 cbX2 hN hni 18 (by decide) rfl rfl tw_176 rfl rfl hM26 dX2_init_115 (fun H locs hN => ?_)
  have hM := hN.1
  refine lv_aload_n hx hb dX2_init_118 rfl (lv_at hl 0 rfl) ?_
  refine lv_bipush (v := 8) hx hb dX2_init_119 (by decide) ?_
  obtain ⟨M27, eM27, hp⟩ := ojn hp
  refine mn_newa C0 hN tw_126 rfl 0 rfl (fun _ => rfl) 8 (8, .inl (fun _ => 0)) (fun _ => rfl) (by decide) (by decide +kernel) (by decide) (by decide) (by decide) dX2_init_121 (fun H hN => ?_)
  rw [← eM27] at hN
  have hM := hN.1
  obtain ⟨M28, hM28, hp⟩ := ob hp
  refine mn_putF C0 cbX2 hN hni 19 (by decide) rfl rfl tw_180 rfl rfl hM28 dX2_init_123 (fun H locs hN => ?_)
  have hM := hN.1
  refine lv_aload_n hx hb dX2_init_126 rfl (lv_at hl 0 rfl) ?_
  refine lv_aload_n hx hb dX2_init_127 rfl (lv_at hl 1 rfl) ?_
  obtain ⟨M29, hM29, hp⟩ := ob hp
  refine mn_put C0 cbX2 hN 0 (by decide) rfl tw_132 rfl rfl hM29 dX2_init_128 (fun H locs hN => ?_)
  have hM := hN.1
  exact mn_vret C0 hr hlk hN (Option.some.inj hp) rfl (by decide) (by decide) dX2_init_131
abbrev rm_X3_init : Room := { frames := 2, cells := 22, slots := 1401, locals := 51 }
def pn_X3_init (z : Nat) (a0 : Nat) (M : Mem) : Option Mem :=
  (jn (upM M z (.inl (1, (900, .inl (fun _ => 0))))) fun M1 =>
  (Option.bind (sV 3 0 M1 a0 (.ref z)) fun M2 =>
  (Option.bind (sV 3 1 M2 a0 (.int (0 : Int32))) fun M3 =>
  (Option.bind (sV 3 2 M3 a0 (.int (0 : Int32))) fun M4 =>
  (Option.bind (sV 3 3 M4 a0 (.int (-1 : Int32))) fun M5 =>
  (jn (upM M5 (z + 1) (.inr (2, [.null, .int 0, .int 0, .int 0, .int 0, .int 0, .int 0, .long 0, .long 0, .long 0, .long 0, .null, .null, .null, .null, .null, .null, .null, .null, .null]))) fun M6 =>
  (jn (upM M6 (z + 2) (.inr (4, [.int 0, .int 0, .int 0, .null, .null, .null, .null, .null, .null, .null, .null, .null, .null]))) fun M7 =>
  (Option.bind (pn_X4_init (z + 3) (z + 2) M7) fun M8 =>
  (Option.bind (pn_X2_init (z + 13) (z + 1) (z + 2) M8) fun M9 =>
  (Option.bind (sV 3 4 M9 a0 (.ref (z + 1))) fun M10 =>
  (Option.bind (sV 3 5 M10 a0 (.int (0 : Int32))) fun M11 =>
  (Option.bind (sV 3 6 M11 a0 (.int (0 : Int32))) fun M12 =>
  (Option.bind (sV 3 7 M12 a0 (.int (0 : Int32))) fun M13 =>
  (Option.bind (sV 3 8 M13 a0 (.int (0 : Int32))) fun M14 =>
  (Option.bind (sV 3 9 M14 a0 (.int (0 : Int32))) fun M15 =>
  (Option.bind (sV 3 10 M15 a0 (.int (0 : Int32))) fun M16 =>
  (Option.bind (sV 3 11 M16 a0 (.null)) fun M17 =>
  some M17
  )
  )
  )
  )
  )
  )
  )
  )
  )
  )
  )
  )
  )
  )
  )
  )
  )
theorem yk_X3_init : yok yX3_init 0 := by decide +kernel
set_option maxHeartbeats 4000000 in
set_option maxRecDepth 100000 in
theorem wn_X3_init {G : gG} (hG : GOK G) {l : Launch} {z : Nat} {a0 : Nat} {M M' : Mem} (hp : pn_X3_init z a0 M = some M') : CN G l yX3_init (wT yX3_init cX3_init 1 none) rm_X3_init [.ref a0] M z M' 22 1401 := by
  refine CN_of (own := RX3) (maxL := 1) hG (by decide) rfl rfl (Nat.le_of_ble_eq_true rfl) (fun p e s m below meth c A C0 hr hlk hni hN ls hl => ?_)
  have hl : lv_has ls 1 [(0, .ref a0)] := hl
  generalize ([.ref a0] : List Value).toArray = args at C0 ⊢
  have hM := hN.1
  have hz0 := hN.2
  have hx := C0.1
  have hb := C0.2.1
  have hown := C0.2.2.2.1
  have hts := C0.2.2.2.2.1
  unfold pn_X3_init at hp
  refine lv_aload_n hx hb dX3_init_0 rfl (lv_at hl 0 rfl) ?_
  refine mn_obj C0 tw_55 tw_48 tw_49 hl.1 ⟨by decide, Nat.le_of_ble_eq_true rfl⟩ dX3_init_1 ?_
  refine lv_aload_n hx hb dX3_init_4 rfl (lv_at hl 0 rfl) ?_
  refine lv_sipush (v := 900) hx hb dX3_init_5 (by decide) ?_
  obtain ⟨M1, eM1, hp⟩ := ojn hp
  refine mn_newa C0 hN tw_125 rfl 1 rfl (fun _ => rfl) 900 (900, .inl (fun _ => 0)) (fun _ => rfl) (by decide) (by decide +kernel) (by decide) (by decide) (by decide) dX3_init_8 (fun H hN => ?_)
  rw [← eM1] at hN
  have hM := hN.1
  obtain ⟨M2, hM2, hp⟩ := ob hp
  refine mn_putF C0 cbX3 hN hni 0 (by decide) rfl rfl tw_223 rfl rfl hM2 dX3_init_10 (fun H locs hN => ?_)
  have hM := hN.1
  refine lv_aload_n hx hb dX3_init_13 rfl (lv_at hl 0 rfl) ?_
  refine lv_iconst (v := 0) hx hb dX3_init_14 (by decide) ?_
  obtain ⟨M3, hM3, hp⟩ := ob hp
  refine mn_put C0 cbX3 hN 1 (by decide) rfl tw_224 rfl rfl hM3 dX3_init_15 (fun H locs hN => ?_)
  have hM := hN.1
  refine lv_aload_n hx hb dX3_init_18 rfl (lv_at hl 0 rfl) ?_
  refine lv_iconst (v := 0) hx hb dX3_init_19 (by decide) ?_
  obtain ⟨M4, hM4, hp⟩ := ob hp
  refine mn_put C0 cbX3 hN 2 (by decide) rfl tw_226 rfl rfl hM4 dX3_init_20 (fun H locs hN => ?_)
  have hM := hN.1
  refine lv_aload_n hx hb dX3_init_23 rfl (lv_at hl 0 rfl) ?_
  refine lv_iconst (v := -1) hx hb dX3_init_24 (by decide) ?_
  obtain ⟨M5, hM5, hp⟩ := ob hp
  refine mn_put C0 cbX3 hN 3 (by decide) rfl tw_228 rfl rfl hM5 dX3_init_25 (fun H locs hN => ?_)
  have hM := hN.1
  refine lv_aload_n hx hb dX3_init_28 rfl (lv_at hl 0 rfl) ?_
  obtain ⟨M6, eM6, hp⟩ := ojn hp
  refine mn_new C0 hN cbX2 tw_56 tw_57 tw_17 (fs := [.null, .int 0, .int 0, .int 0, .int 0, .int 0, .int 0, .long 0, .long 0, .long 0, .long 0, .null, .null, .null, .null, .null, .null, .null, .null, .null]) dfX2 (by decide) (by decide) dX3_init_29 (fun H hN => ?_)
  rw [← eM6] at hN
  have hM := hN.1
  refine lv_dup hx hb dX3_init_32 rfl ?_
  obtain ⟨M7, eM7, hp⟩ := ojn hp
  refine mn_new C0 hN cbX4 tw_58 tw_59 tw_18 (fs := [.int 0, .int 0, .int 0, .null, .null, .null, .null, .null, .null, .null, .null, .null, .null]) dfX4 (by decide) (by decide) dX3_init_33 (fun H hN => ?_)
  rw [← eM7] at hN
  have hM := hN.1
  refine lv_dup hx hb dX3_init_36 rfl ?_
  obtain ⟨M8, hM8, hp⟩ := ob hp
  refine mn_IN (As := []) (rest := [.ref (z + 2), .ref (z + 1), .ref (z + 1), .ref a0]) C0 hN (wn_X4_init hG hM8) rfl tw_60 tw_61 tw_18 tw_62 yk_X4_init (by decide) rfl hl.1 (Nat.le_of_ble_eq_true rfl) dX3_init_37 rfl (fun H locs hN => ?_)
  have hM := hN.1
  obtain ⟨M9, hM9, hp⟩ := ob hp
  refine mn_I (As := [.ref (z + 2)]) (rest := [.ref (z + 1), .ref a0]) C0 hN (wn_X2_init hG hM9) rfl tw_127 tw_128 tw_17 tw_129 yk_X2_init (by decide) rfl hl.1 (Nat.le_of_ble_eq_true rfl) dX3_init_40 rfl (fun H locs hN => ?_)
  have hM := hN.1
  obtain ⟨M10, hM10, hp⟩ := ob hp
  refine mn_put C0 cbX3 hN 4 (by decide) rfl tw_229 rfl rfl hM10 dX3_init_43 (fun H locs hN => ?_)
  have hM := hN.1
  refine lv_aload_n hx hb dX3_init_46 rfl (lv_at hl 0 rfl) ?_
  refine lv_iconst (v := 0) hx hb dX3_init_47 (by decide) ?_
  obtain ⟨M11, hM11, hp⟩ := ob hp
  refine mn_put C0 cbX3 hN 5 (by decide) rfl tw_231 rfl rfl hM11 dX3_init_48 (fun H locs hN => ?_)
  have hM := hN.1
  refine lv_aload_n hx hb dX3_init_51 rfl (lv_at hl 0 rfl) ?_
  refine lv_iconst (v := 0) hx hb dX3_init_52 (by decide) ?_
  obtain ⟨M12, hM12, hp⟩ := ob hp
  refine mn_put C0 cbX3 hN 6 (by decide) rfl tw_232 rfl rfl hM12 dX3_init_53 (fun H locs hN => ?_)
  have hM := hN.1
  refine lv_aload_n hx hb dX3_init_56 rfl (lv_at hl 0 rfl) ?_
  refine lv_iconst (v := 0) hx hb dX3_init_57 (by decide) ?_
  obtain ⟨M13, hM13, hp⟩ := ob hp
  refine mn_put C0 cbX3 hN 7 (by decide) rfl tw_233 rfl rfl hM13 dX3_init_58 (fun H locs hN => ?_)
  have hM := hN.1
  refine lv_aload_n hx hb dX3_init_61 rfl (lv_at hl 0 rfl) ?_
  refine lv_iconst (v := 0) hx hb dX3_init_62 (by decide) ?_
  obtain ⟨M14, hM14, hp⟩ := ob hp
  refine mn_put C0 cbX3 hN 8 (by decide) rfl tw_234 rfl rfl hM14 dX3_init_63 (fun H locs hN => ?_)
  have hM := hN.1
  refine lv_aload_n hx hb dX3_init_66 rfl (lv_at hl 0 rfl) ?_
  refine lv_iconst (v := 0) hx hb dX3_init_67 (by decide) ?_
  obtain ⟨M15, hM15, hp⟩ := ob hp
  refine mn_put C0 cbX3 hN 9 (by decide) rfl tw_235 rfl rfl hM15 dX3_init_68 (fun H locs hN => ?_)
  have hM := hN.1
  refine lv_aload_n hx hb dX3_init_71 rfl (lv_at hl 0 rfl) ?_
  refine lv_iconst (v := 0) hx hb dX3_init_72 (by decide) ?_
  obtain ⟨M16, hM16, hp⟩ := ob hp
  refine mn_put C0 cbX3 hN 10 (by decide) rfl tw_236 rfl rfl hM16 dX3_init_73 (fun H locs hN => ?_)
  have hM := hN.1
  refine lv_aload_n hx hb dX3_init_76 rfl (lv_at hl 0 rfl) ?_
  refine lv_null hx hb dX3_init_77 ?_
  obtain ⟨M17, hM17, hp⟩ := ob hp
  refine mn_put C0 cbX3 hN 11 (by decide) rfl tw_237 rfl rfl hM17 dX3_init_78 (fun H locs hN => ?_)
  have hM := hN.1
  exact mn_vret C0 hr hlk hN (Option.some.inj hp) rfl (by decide) (by decide) dX3_init_81
abbrev rm_X6_init : Room := { frames := 3, cells := 179, slots := 6275, locals := 71 }
def pn_X6_init (z : Nat) (a0 : Nat) (M : Mem) : Option Mem :=
  (jn (upM M z (.inr (3, [.null, .int 0, .int 0, .int 0, .null, .int 0, .int 0, .int 0, .int 0, .int 0, .int 0, .null]))) fun M1 =>
  (Option.bind (pn_X3_init (z + 1) z M1) fun M2 =>
  (Option.bind (sV 5 0 M2 a0 (.ref z)) fun M3 =>
  (jn (upM M3 (z + 23) (.inr (0, [.null]))) fun M4 =>
  (Option.bind (pn_X0_init (z + 24) (z + 23) M4) fun M5 =>
  (Option.bind (sV 5 1 M5 a0 (.ref (z + 23))) fun M6 =>
  (jn (upM M6 (z + 25) (.inr (1, [.null, .int 0]))) fun M7 =>
  (Option.bind (pn_X1_init (z + 26) (z + 25) M7) fun M8 =>
  (Option.bind (sV 5 2 M8 a0 (.ref (z + 25))) fun M9 =>
  (jn (upM M9 (z + 27) (.inr (2, [.null, .int 0, .int 0, .int 0, .int 0, .int 0, .int 0, .long 0, .long 0, .long 0, .long 0, .null, .null, .null, .null, .null, .null, .null, .null, .null]))) fun M10 =>
  (jn (upM M10 (z + 28) (.inr (4, [.int 0, .int 0, .int 0, .null, .null, .null, .null, .null, .null, .null, .null, .null, .null]))) fun M11 =>
  (Option.bind (pn_X4_init (z + 29) (z + 28) M11) fun M12 =>
  (Option.bind (pn_X2_init (z + 39) (z + 27) (z + 28) M12) fun M13 =>
  (Option.bind (sV 5 3 M13 a0 (.ref (z + 27))) fun M14 =>
  (jn (upM M14 (z + 48) (.inr (2, [.null, .int 0, .int 0, .int 0, .int 0, .int 0, .int 0, .long 0, .long 0, .long 0, .long 0, .null, .null, .null, .null, .null, .null, .null, .null, .null]))) fun M15 =>
  (Option.bind (gR 5 3 M15 a0) fun v16 =>
  (Option.bind (gR 2 0 M15 v16) fun v17 =>
  (Option.bind (pn_X2_init (z + 49) (z + 48) v17 M15) fun M18 =>
  (Option.bind (sV 5 4 M18 a0 (.ref (z + 48))) fun M19 =>
  (jn (upM M19 (z + 58) (.inr (2, [.null, .int 0, .int 0, .int 0, .int 0, .int 0, .int 0, .long 0, .long 0, .long 0, .long 0, .null, .null, .null, .null, .null, .null, .null, .null, .null]))) fun M20 =>
  (Option.bind (gR 5 3 M20 a0) fun v21 =>
  (Option.bind (gR 2 0 M20 v21) fun v22 =>
  (Option.bind (pn_X2_init (z + 59) (z + 58) v22 M20) fun M23 =>
  (Option.bind (sV 5 5 M23 a0 (.ref (z + 58))) fun M24 =>
  (jn (upM M24 (z + 68) (.inr (2, [.null, .int 0, .int 0, .int 0, .int 0, .int 0, .int 0, .long 0, .long 0, .long 0, .long 0, .null, .null, .null, .null, .null, .null, .null, .null, .null]))) fun M25 =>
  (Option.bind (gR 5 3 M25 a0) fun v26 =>
  (Option.bind (gR 2 0 M25 v26) fun v27 =>
  (Option.bind (pn_X2_init (z + 69) (z + 68) v27 M25) fun M28 =>
  (Option.bind (sV 5 6 M28 a0 (.ref (z + 68))) fun M29 =>
  (Option.bind (sV 5 7 M29 a0 (.int (0 : Int32))) fun M30 =>
  (jn (upM M30 (z + 78) (.inl (4, 10, .inr (.inr (.inr (.inr (fun _ => none))))))) fun M31 =>
  (Option.bind (sV 5 8 M31 a0 (.ref (z + 78))) fun M32 =>
  (Option.bind (sV 5 9 M32 a0 (.int (0 : Int32))) fun M33 =>
  (Option.bind (sV 5 10 M33 a0 (.int (0 : Int32))) fun M34 =>
  (Option.bind (gR 5 8 M34 a0) fun v35 =>
  (jn (upM M34 (z + 79) (.inr (2, [.null, .int 0, .int 0, .int 0, .int 0, .int 0, .int 0, .long 0, .long 0, .long 0, .long 0, .null, .null, .null, .null, .null, .null, .null, .null, .null]))) fun M36 =>
  (Option.bind (gR 5 3 M36 a0) fun v37 =>
  (Option.bind (gR 2 0 M36 v37) fun v38 =>
  (Option.bind (pn_X2_init (z + 80) (z + 79) v38 M36) fun M39 =>
  (Option.bind (aRs M39 v35 (0 : Int32) (z + 79)) fun M40 =>
  (Option.bind (gR 5 8 M40 a0) fun v41 =>
  (jn (upM M40 (z + 89) (.inr (2, [.null, .int 0, .int 0, .int 0, .int 0, .int 0, .int 0, .long 0, .long 0, .long 0, .long 0, .null, .null, .null, .null, .null, .null, .null, .null, .null]))) fun M42 =>
  (Option.bind (gR 5 3 M42 a0) fun v43 =>
  (Option.bind (gR 2 0 M42 v43) fun v44 =>
  (Option.bind (pn_X2_init (z + 90) (z + 89) v44 M42) fun M45 =>
  (Option.bind (aRs M45 v41 ((0 : Int32) + (1 : Int32)) (z + 89)) fun M46 =>
  (Option.bind (gR 5 8 M46 a0) fun v47 =>
  (jn (upM M46 (z + 99) (.inr (2, [.null, .int 0, .int 0, .int 0, .int 0, .int 0, .int 0, .long 0, .long 0, .long 0, .long 0, .null, .null, .null, .null, .null, .null, .null, .null, .null]))) fun M48 =>
  (Option.bind (gR 5 3 M48 a0) fun v49 =>
  (Option.bind (gR 2 0 M48 v49) fun v50 =>
  (Option.bind (pn_X2_init (z + 100) (z + 99) v50 M48) fun M51 =>
  (Option.bind (aRs M51 v47 (((0 : Int32) + (1 : Int32)) + (1 : Int32)) (z + 99)) fun M52 =>
  (Option.bind (gR 5 8 M52 a0) fun v53 =>
  (jn (upM M52 (z + 109) (.inr (2, [.null, .int 0, .int 0, .int 0, .int 0, .int 0, .int 0, .long 0, .long 0, .long 0, .long 0, .null, .null, .null, .null, .null, .null, .null, .null, .null]))) fun M54 =>
  (Option.bind (gR 5 3 M54 a0) fun v55 =>
  (Option.bind (gR 2 0 M54 v55) fun v56 =>
  (Option.bind (pn_X2_init (z + 110) (z + 109) v56 M54) fun M57 =>
  (Option.bind (aRs M57 v53 ((((0 : Int32) + (1 : Int32)) + (1 : Int32)) + (1 : Int32)) (z + 109)) fun M58 =>
  (Option.bind (gR 5 8 M58 a0) fun v59 =>
  (jn (upM M58 (z + 119) (.inr (2, [.null, .int 0, .int 0, .int 0, .int 0, .int 0, .int 0, .long 0, .long 0, .long 0, .long 0, .null, .null, .null, .null, .null, .null, .null, .null, .null]))) fun M60 =>
  (Option.bind (gR 5 3 M60 a0) fun v61 =>
  (Option.bind (gR 2 0 M60 v61) fun v62 =>
  (Option.bind (pn_X2_init (z + 120) (z + 119) v62 M60) fun M63 =>
  (Option.bind (aRs M63 v59 (((((0 : Int32) + (1 : Int32)) + (1 : Int32)) + (1 : Int32)) + (1 : Int32)) (z + 119)) fun M64 =>
  (Option.bind (gR 5 8 M64 a0) fun v65 =>
  (jn (upM M64 (z + 129) (.inr (2, [.null, .int 0, .int 0, .int 0, .int 0, .int 0, .int 0, .long 0, .long 0, .long 0, .long 0, .null, .null, .null, .null, .null, .null, .null, .null, .null]))) fun M66 =>
  (Option.bind (gR 5 3 M66 a0) fun v67 =>
  (Option.bind (gR 2 0 M66 v67) fun v68 =>
  (Option.bind (pn_X2_init (z + 130) (z + 129) v68 M66) fun M69 =>
  (Option.bind (aRs M69 v65 ((((((0 : Int32) + (1 : Int32)) + (1 : Int32)) + (1 : Int32)) + (1 : Int32)) + (1 : Int32)) (z + 129)) fun M70 =>
  (Option.bind (gR 5 8 M70 a0) fun v71 =>
  (jn (upM M70 (z + 139) (.inr (2, [.null, .int 0, .int 0, .int 0, .int 0, .int 0, .int 0, .long 0, .long 0, .long 0, .long 0, .null, .null, .null, .null, .null, .null, .null, .null, .null]))) fun M72 =>
  (Option.bind (gR 5 3 M72 a0) fun v73 =>
  (Option.bind (gR 2 0 M72 v73) fun v74 =>
  (Option.bind (pn_X2_init (z + 140) (z + 139) v74 M72) fun M75 =>
  (Option.bind (aRs M75 v71 (((((((0 : Int32) + (1 : Int32)) + (1 : Int32)) + (1 : Int32)) + (1 : Int32)) + (1 : Int32)) + (1 : Int32)) (z + 139)) fun M76 =>
  (Option.bind (gR 5 8 M76 a0) fun v77 =>
  (jn (upM M76 (z + 149) (.inr (2, [.null, .int 0, .int 0, .int 0, .int 0, .int 0, .int 0, .long 0, .long 0, .long 0, .long 0, .null, .null, .null, .null, .null, .null, .null, .null, .null]))) fun M78 =>
  (Option.bind (gR 5 3 M78 a0) fun v79 =>
  (Option.bind (gR 2 0 M78 v79) fun v80 =>
  (Option.bind (pn_X2_init (z + 150) (z + 149) v80 M78) fun M81 =>
  (Option.bind (aRs M81 v77 ((((((((0 : Int32) + (1 : Int32)) + (1 : Int32)) + (1 : Int32)) + (1 : Int32)) + (1 : Int32)) + (1 : Int32)) + (1 : Int32)) (z + 149)) fun M82 =>
  (Option.bind (gR 5 8 M82 a0) fun v83 =>
  (jn (upM M82 (z + 159) (.inr (2, [.null, .int 0, .int 0, .int 0, .int 0, .int 0, .int 0, .long 0, .long 0, .long 0, .long 0, .null, .null, .null, .null, .null, .null, .null, .null, .null]))) fun M84 =>
  (Option.bind (gR 5 3 M84 a0) fun v85 =>
  (Option.bind (gR 2 0 M84 v85) fun v86 =>
  (Option.bind (pn_X2_init (z + 160) (z + 159) v86 M84) fun M87 =>
  (Option.bind (aRs M87 v83 (((((((((0 : Int32) + (1 : Int32)) + (1 : Int32)) + (1 : Int32)) + (1 : Int32)) + (1 : Int32)) + (1 : Int32)) + (1 : Int32)) + (1 : Int32)) (z + 159)) fun M88 =>
  (Option.bind (gR 5 8 M88 a0) fun v89 =>
  (jn (upM M88 (z + 169) (.inr (2, [.null, .int 0, .int 0, .int 0, .int 0, .int 0, .int 0, .long 0, .long 0, .long 0, .long 0, .null, .null, .null, .null, .null, .null, .null, .null, .null]))) fun M90 =>
  (Option.bind (gR 5 3 M90 a0) fun v91 =>
  (Option.bind (gR 2 0 M90 v91) fun v92 =>
  (Option.bind (pn_X2_init (z + 170) (z + 169) v92 M90) fun M93 =>
  (Option.bind (aRs M93 v89 ((((((((((0 : Int32) + (1 : Int32)) + (1 : Int32)) + (1 : Int32)) + (1 : Int32)) + (1 : Int32)) + (1 : Int32)) + (1 : Int32)) + (1 : Int32)) + (1 : Int32)) (z + 169)) fun M94 =>
  some M94
  )
  )
  )
  )
  )
  )
  )
  )
  )
  )
  )
  )
  )
  )
  )
  )
  )
  )
  )
  )
  )
  )
  )
  )
  )
  )
  )
  )
  )
  )
  )
  )
  )
  )
  )
  )
  )
  )
  )
  )
  )
  )
  )
  )
  )
  )
  )
  )
  )
  )
  )
  )
  )
  )
  )
  )
  )
  )
  )
  )
  )
  )
  )
  )
  )
  )
  )
  )
  )
  )
  )
  )
  )
  )
  )
  )
  )
  )
  )
  )
  )
  )
  )
  )
  )
  )
  )
  )
  )
  )
  )
  )
  )
  )
theorem yk_X6_init : yok yX6_init 0 := by decide +kernel
set_option maxHeartbeats 4000000 in
set_option maxRecDepth 100000 in
theorem wn_X6_init {G : gG} (hG : GOK G) (hAO : ∀ U : State, G.2.2.2 U → va_AO "PlaceOffice$Roll" U) {l : Launch} {z : Nat} {a0 : Nat} {M M' : Mem} (hp : pn_X6_init z a0 M = some M') : CN G l yX6_init (wT yX6_init cX6_init 2 none) rm_X6_init [.ref a0] M z M' 179 6275 := by
  refine CN_of (own := RX6) (maxL := 2) hG (by decide) rfl rfl (Nat.le_of_ble_eq_true rfl) (fun p e s m below meth c A C0 hr hlk hni hN ls hl => ?_)
  have hl : lv_has ls 2 [(0, .ref a0)] := hl
  generalize ([.ref a0] : List Value).toArray = args at C0 ⊢
  have hM := hN.1
  have hz0 := hN.2
  have hx := C0.1
  have hb := C0.2.1
  have hown := C0.2.2.2.1
  have hts := C0.2.2.2.2.1
  unfold pn_X6_init at hp
  refine lv_aload_n hx hb dX6_init_0 rfl (lv_at hl 0 rfl) ?_
  refine mn_obj C0 tw_47 tw_48 tw_49 hl.1 ⟨by decide, Nat.le_of_ble_eq_true rfl⟩ dX6_init_1 ?_
  refine lv_aload_n hx hb dX6_init_4 rfl (lv_at hl 0 rfl) ?_
  obtain ⟨M1, eM1, hp⟩ := ojn hp
  refine mn_new C0 hN cbX3 tw_50 tw_51 tw_16 (fs := [.null, .int 0, .int 0, .int 0, .null, .int 0, .int 0, .int 0, .int 0, .int 0, .int 0, .null]) dfX3 (by decide) (by decide) dX6_init_5 (fun H hN => ?_)
  rw [← eM1] at hN
  have hM := hN.1
  refine lv_dup hx hb dX6_init_8 rfl ?_
  obtain ⟨M2, hM2, hp⟩ := ob hp
  refine mn_IN (As := []) (rest := [.ref z, .ref a0]) C0 hN (wn_X3_init hG hM2) rfl tw_52 tw_53 tw_16 tw_54 yk_X3_init (by decide) rfl hl.1 (Nat.le_of_ble_eq_true rfl) dX6_init_9 rfl (fun H locs hN => ?_)
  have hM := hN.1
  obtain ⟨M3, hM3, hp⟩ := ob hp
  refine mn_putF C0 cbX6 hN hni 0 (by decide) rfl rfl tw_291 rfl rfl hM3 dX6_init_12 (fun H locs hN => ?_)
  have hM := hN.1
  refine lv_aload_n hx hb dX6_init_15 rfl (lv_at hl 0 rfl) ?_
  obtain ⟨M4, eM4, hp⟩ := ojn hp
  refine mn_new C0 hN cbX0 tw_263 tw_264 tw_19 (fs := [.null]) dfX0 (by decide) (by decide) dX6_init_16 (fun H hN => ?_)
  rw [← eM4] at hN
  have hM := hN.1
  refine lv_dup hx hb dX6_init_19 rfl ?_
  obtain ⟨M5, hM5, hp⟩ := ob hp
  refine mn_IN (As := []) (rest := [.ref (z + 23), .ref a0]) C0 hN (wn_X0_init hG hM5) rfl tw_265 tw_266 tw_19 tw_267 yk_X0_init (by decide) rfl hl.1 (Nat.le_of_ble_eq_true rfl) dX6_init_20 rfl (fun H locs hN => ?_)
  have hM := hN.1
  obtain ⟨M6, hM6, hp⟩ := ob hp
  refine mn_putF C0 cbX6 hN hni 1 (by decide) rfl rfl tw_292 rfl rfl hM6 dX6_init_23 (fun H locs hN => ?_)
  have hM := hN.1
  refine lv_aload_n hx hb dX6_init_26 rfl (lv_at hl 0 rfl) ?_
  obtain ⟨M7, eM7, hp⟩ := ojn hp
  refine mn_new C0 hN cbX1 tw_273 tw_274 tw_20 (fs := [.null, .int 0]) dfX1 (by decide) (by decide) dX6_init_27 (fun H hN => ?_)
  rw [← eM7] at hN
  have hM := hN.1
  refine lv_dup hx hb dX6_init_30 rfl ?_
  obtain ⟨M8, hM8, hp⟩ := ob hp
  refine mn_IN (As := []) (rest := [.ref (z + 25), .ref a0]) C0 hN (wn_X1_init hG hM8) rfl tw_275 tw_276 tw_20 tw_277 yk_X1_init (by decide) rfl hl.1 (Nat.le_of_ble_eq_true rfl) dX6_init_31 rfl (fun H locs hN => ?_)
  have hM := hN.1
  obtain ⟨M9, hM9, hp⟩ := ob hp
  refine mn_putF C0 cbX6 hN hni 2 (by decide) rfl rfl tw_293 rfl rfl hM9 dX6_init_34 (fun H locs hN => ?_)
  have hM := hN.1
  refine lv_aload_n hx hb dX6_init_37 rfl (lv_at hl 0 rfl) ?_
  obtain ⟨M10, eM10, hp⟩ := ojn hp
  refine mn_new C0 hN cbX2 tw_286 tw_57 tw_17 (fs := [.null, .int 0, .int 0, .int 0, .int 0, .int 0, .int 0, .long 0, .long 0, .long 0, .long 0, .null, .null, .null, .null, .null, .null, .null, .null, .null]) dfX2 (by decide) (by decide) dX6_init_38 (fun H hN => ?_)
  rw [← eM10] at hN
  have hM := hN.1
  refine lv_dup hx hb dX6_init_41 rfl ?_
  obtain ⟨M11, eM11, hp⟩ := ojn hp
  refine mn_new C0 hN cbX4 tw_287 tw_59 tw_18 (fs := [.int 0, .int 0, .int 0, .null, .null, .null, .null, .null, .null, .null, .null, .null, .null]) dfX4 (by decide) (by decide) dX6_init_42 (fun H hN => ?_)
  rw [← eM11] at hN
  have hM := hN.1
  refine lv_dup hx hb dX6_init_45 rfl ?_
  obtain ⟨M12, hM12, hp⟩ := ob hp
  refine mn_IN (As := []) (rest := [.ref (z + 28), .ref (z + 27), .ref (z + 27), .ref a0]) C0 hN (wn_X4_init hG hM12) rfl tw_288 tw_61 tw_18 tw_62 yk_X4_init (by decide) rfl hl.1 (Nat.le_of_ble_eq_true rfl) dX6_init_46 rfl (fun H locs hN => ?_)
  have hM := hN.1
  obtain ⟨M13, hM13, hp⟩ := ob hp
  refine mn_I (As := [.ref (z + 28)]) (rest := [.ref (z + 27), .ref a0]) C0 hN (wn_X2_init hG hM13) rfl tw_289 tw_128 tw_17 tw_129 yk_X2_init (by decide) rfl hl.1 (Nat.le_of_ble_eq_true rfl) dX6_init_49 rfl (fun H locs hN => ?_)
  have hM := hN.1
  obtain ⟨M14, hM14, hp⟩ := ob hp
  refine mn_put C0 cbX6 hN 3 (by decide) rfl tw_294 rfl rfl hM14 dX6_init_52 (fun H locs hN => ?_)
  have hM := hN.1
  refine lv_aload_n hx hb dX6_init_55 rfl (lv_at hl 0 rfl) ?_
  obtain ⟨M15, eM15, hp⟩ := ojn hp
  refine mn_new C0 hN cbX2 tw_286 tw_57 tw_17 (fs := [.null, .int 0, .int 0, .int 0, .int 0, .int 0, .int 0, .long 0, .long 0, .long 0, .long 0, .null, .null, .null, .null, .null, .null, .null, .null, .null]) dfX2 (by decide) (by decide) dX6_init_56 (fun H hN => ?_)
  rw [← eM15] at hN
  have hM := hN.1
  refine lv_dup hx hb dX6_init_59 rfl ?_
  refine lv_aload_n hx hb dX6_init_60 rfl (lv_at hl 0 rfl) ?_
  obtain ⟨v16, hv16, hp⟩ := ob hp
  refine mr_getR C0 cbX6 hM 3 (by decide) tw_294 hv16 dX6_init_61 ?_
  obtain ⟨v17, hv17, hp⟩ := ob hp
  refine mr_getR C0 cbX2 hM 0 (by decide) tw_131 hv17 dX6_init_64 ?_
  obtain ⟨M18, hM18, hp⟩ := ob hp
  refine mn_I (As := [.ref v17]) (rest := [.ref (z + 48), .ref a0]) C0 hN (wn_X2_init hG hM18) rfl tw_289 tw_128 tw_17 tw_129 yk_X2_init (by decide) rfl hl.1 (Nat.le_of_ble_eq_true rfl) dX6_init_67 rfl (fun H locs hN => ?_)
  have hM := hN.1
  obtain ⟨M19, hM19, hp⟩ := ob hp
  refine mn_putF C0 cbX6 hN hni 4 (by decide) rfl rfl tw_295 rfl rfl hM19 dX6_init_70 (fun H locs hN => ?_)
  have hM := hN.1
  refine lv_aload_n hx hb dX6_init_73 rfl (lv_at hl 0 rfl) ?_
  obtain ⟨M20, eM20, hp⟩ := ojn hp
  refine mn_new C0 hN cbX2 tw_286 tw_57 tw_17 (fs := [.null, .int 0, .int 0, .int 0, .int 0, .int 0, .int 0, .long 0, .long 0, .long 0, .long 0, .null, .null, .null, .null, .null, .null, .null, .null, .null]) dfX2 (by decide) (by decide) dX6_init_74 (fun H hN => ?_)
  rw [← eM20] at hN
  have hM := hN.1
  refine lv_dup hx hb dX6_init_77 rfl ?_
  refine lv_aload_n hx hb dX6_init_78 rfl (lv_at hl 0 rfl) ?_
  obtain ⟨v21, hv21, hp⟩ := ob hp
  refine mr_getR C0 cbX6 hM 3 (by decide) tw_294 hv21 dX6_init_79 ?_
  obtain ⟨v22, hv22, hp⟩ := ob hp
  refine mr_getR C0 cbX2 hM 0 (by decide) tw_131 hv22 dX6_init_82 ?_
  obtain ⟨M23, hM23, hp⟩ := ob hp
  refine mn_I (As := [.ref v22]) (rest := [.ref (z + 58), .ref a0]) C0 hN (wn_X2_init hG hM23) rfl tw_289 tw_128 tw_17 tw_129 yk_X2_init (by decide) rfl hl.1 (Nat.le_of_ble_eq_true rfl) dX6_init_85 rfl (fun H locs hN => ?_)
  have hM := hN.1
  obtain ⟨M24, hM24, hp⟩ := ob hp
  refine mn_putF C0 cbX6 hN hni 5 (by decide) rfl rfl tw_296 rfl rfl hM24 dX6_init_88 (fun H locs hN => ?_)
  have hM := hN.1
  refine lv_aload_n hx hb dX6_init_91 rfl (lv_at hl 0 rfl) ?_
  obtain ⟨M25, eM25, hp⟩ := ojn hp
  refine mn_new C0 hN cbX2 tw_286 tw_57 tw_17 (fs := [.null, .int 0, .int 0, .int 0, .int 0, .int 0, .int 0, .long 0, .long 0, .long 0, .long 0, .null, .null, .null, .null, .null, .null, .null, .null, .null]) dfX2 (by decide) (by decide) dX6_init_92 (fun H hN => ?_)
  rw [← eM25] at hN
  have hM := hN.1
  refine lv_dup hx hb dX6_init_95 rfl ?_
  refine lv_aload_n hx hb dX6_init_96 rfl (lv_at hl 0 rfl) ?_
  obtain ⟨v26, hv26, hp⟩ := ob hp
  refine mr_getR C0 cbX6 hM 3 (by decide) tw_294 hv26 dX6_init_97 ?_
  obtain ⟨v27, hv27, hp⟩ := ob hp
  refine mr_getR C0 cbX2 hM 0 (by decide) tw_131 hv27 dX6_init_100 ?_
  obtain ⟨M28, hM28, hp⟩ := ob hp
  refine mn_I (As := [.ref v27]) (rest := [.ref (z + 68), .ref a0]) C0 hN (wn_X2_init hG hM28) rfl tw_289 tw_128 tw_17 tw_129 yk_X2_init (by decide) rfl hl.1 (Nat.le_of_ble_eq_true rfl) dX6_init_103 rfl (fun H locs hN => ?_)
  have hM := hN.1
  obtain ⟨M29, hM29, hp⟩ := ob hp
  refine mn_putF C0 cbX6 hN hni 6 (by decide) rfl rfl tw_297 rfl rfl hM29 dX6_init_106 (fun H locs hN => ?_)
  have hM := hN.1
  refine lv_aload_n hx hb dX6_init_109 rfl (lv_at hl 0 rfl) ?_
  refine lv_iconst (v := 0) hx hb dX6_init_110 (by decide) ?_
  obtain ⟨M30, hM30, hp⟩ := ob hp
  refine mn_put C0 cbX6 hN 7 (by decide) rfl tw_298 rfl rfl hM30 dX6_init_111 (fun H locs hN => ?_)
  have hM := hN.1
  refine lv_aload_n hx hb dX6_init_114 rfl (lv_at hl 0 rfl) ?_
  refine lv_bipush (v := 10) hx hb dX6_init_115 (by decide) ?_
  obtain ⟨M31, eM31, hp⟩ := ojn hp
  refine mn_newq C0 hN tw_286 (hAO s C0.2.2.2.2.2.1.2.2) 10 (by decide) (by decide +kernel) (by decide) (by decide) (by decide) dX6_init_117 (fun H hN => ?_)
  rw [← eM31] at hN
  have hM := hN.1
  obtain ⟨M32, hM32, hp⟩ := ob hp
  refine mn_putF C0 cbX6 hN hni 8 (by decide) rfl rfl tw_299 rfl rfl hM32 dX6_init_120 (fun H locs hN => ?_)
  have hM := hN.1
  refine lv_aload_n hx hb dX6_init_123 rfl (lv_at hl 0 rfl) ?_
  refine lv_iconst (v := 0) hx hb dX6_init_124 (by decide) ?_
  obtain ⟨M33, hM33, hp⟩ := ob hp
  refine mn_put C0 cbX6 hN 9 (by decide) rfl tw_300 rfl rfl hM33 dX6_init_125 (fun H locs hN => ?_)
  have hM := hN.1
  refine lv_aload_n hx hb dX6_init_128 rfl (lv_at hl 0 rfl) ?_
  refine lv_iconst (v := 0) hx hb dX6_init_129 (by decide) ?_
  obtain ⟨M34, hM34, hp⟩ := ob hp
  refine mn_put C0 cbX6 hN 10 (by decide) rfl tw_301 rfl rfl hM34 dX6_init_130 (fun H locs hN => ?_)
  have hM := hN.1
  refine lv_iconst (v := 0) hx hb dX6_init_133 (by decide) ?_
  refine lv_istore_n (lv' := [(1, .int (0 : Int32)), (0, .ref a0)]) hx hb dX6_init_134 rfl hl (by decide) rfl (fun ls hl => ?_)
  refine lv_iload_n hx hb dX6_init_135 rfl (lv_at hl 0 rfl) ?_
  refine lv_bipush (v := 10) hx hb dX6_init_136 (by decide) ?_
  refine lv_icmp_ge (tgt := 167) hx hb dX6_init_138 (by decide) (fun c => absurd c (by decide)) (fun _ => ?_)
  refine lv_aload_n hx hb dX6_init_141 rfl (lv_at hl 1 rfl) ?_
  obtain ⟨v35, hv35, hp⟩ := ob hp
  refine mr_getR C0 cbX6 hM 8 (by decide) tw_299 hv35 dX6_init_142 ?_
  refine lv_iload_n hx hb dX6_init_145 rfl (lv_at hl 0 rfl) ?_
  obtain ⟨M36, eM36, hp⟩ := ojn hp
  refine mn_new C0 hN cbX2 tw_286 tw_57 tw_17 (fs := [.null, .int 0, .int 0, .int 0, .int 0, .int 0, .int 0, .long 0, .long 0, .long 0, .long 0, .null, .null, .null, .null, .null, .null, .null, .null, .null]) dfX2 (by decide) (by decide) dX6_init_146 (fun H hN => ?_)
  rw [← eM36] at hN
  have hM := hN.1
  refine lv_dup hx hb dX6_init_149 rfl ?_
  refine lv_aload_n hx hb dX6_init_150 rfl (lv_at hl 1 rfl) ?_
  obtain ⟨v37, hv37, hp⟩ := ob hp
  refine mr_getR C0 cbX6 hM 3 (by decide) tw_294 hv37 dX6_init_151 ?_
  obtain ⟨v38, hv38, hp⟩ := ob hp
  refine mr_getR C0 cbX2 hM 0 (by decide) tw_131 hv38 dX6_init_154 ?_
  obtain ⟨M39, hM39, hp⟩ := ob hp
  refine mn_I (As := [.ref v38]) (rest := [.ref (z + 79), .int (0 : Int32), .ref v35]) C0 hN (wn_X2_init hG hM39) rfl tw_289 tw_128 tw_17 tw_129 yk_X2_init (by decide) rfl hl.1 (Nat.le_of_ble_eq_true rfl) dX6_init_157 rfl (fun H locs hN => ?_)
  have hM := hN.1
  obtain ⟨M40, hM40, hp⟩ := ob hp
  obtain ⟨_, _, _, ha94, hv94, hi94, eM40⟩ := aRs_at hM40
  refine mn_astq C0 hN ha94 hv94 cbX2.1 rfl hi94 dX6_init_160 (fun H locs hN => ?_)
  rw [← eM40] at hN
  have hM := hN.1
  refine lv_iinc (v := ((0 : Int32) + (1 : Int32))) (lv' := [(1, .int ((0 : Int32) + (1 : Int32))), (0, .ref a0)]) hx hb dX6_init_161 hl (k := 0) rfl rfl (by decide) rfl (fun ls hl => ?_)
  refine lv_goto (tgt := 135) hx hb dX6_init_164 (by decide) ?_
  refine lv_iload_n hx hb dX6_init_135 rfl (lv_at hl 0 rfl) ?_
  refine lv_bipush (v := 10) hx hb dX6_init_136 (by decide) ?_
  refine lv_icmp_ge (tgt := 167) hx hb dX6_init_138 (by decide) (fun c => absurd c (by decide)) (fun _ => ?_)
  refine lv_aload_n hx hb dX6_init_141 rfl (lv_at hl 1 rfl) ?_
  obtain ⟨v41, hv41, hp⟩ := ob hp
  refine mr_getR C0 cbX6 hM 8 (by decide) tw_299 hv41 dX6_init_142 ?_
  refine lv_iload_n hx hb dX6_init_145 rfl (lv_at hl 0 rfl) ?_
  obtain ⟨M42, eM42, hp⟩ := ojn hp
  refine mn_new C0 hN cbX2 tw_286 tw_57 tw_17 (fs := [.null, .int 0, .int 0, .int 0, .int 0, .int 0, .int 0, .long 0, .long 0, .long 0, .long 0, .null, .null, .null, .null, .null, .null, .null, .null, .null]) dfX2 (by decide) (by decide) dX6_init_146 (fun H hN => ?_)
  rw [← eM42] at hN
  have hM := hN.1
  refine lv_dup hx hb dX6_init_149 rfl ?_
  refine lv_aload_n hx hb dX6_init_150 rfl (lv_at hl 1 rfl) ?_
  obtain ⟨v43, hv43, hp⟩ := ob hp
  refine mr_getR C0 cbX6 hM 3 (by decide) tw_294 hv43 dX6_init_151 ?_
  obtain ⟨v44, hv44, hp⟩ := ob hp
  refine mr_getR C0 cbX2 hM 0 (by decide) tw_131 hv44 dX6_init_154 ?_
  obtain ⟨M45, hM45, hp⟩ := ob hp
  refine mn_I (As := [.ref v44]) (rest := [.ref (z + 89), .int ((0 : Int32) + (1 : Int32)), .ref v41]) C0 hN (wn_X2_init hG hM45) rfl tw_289 tw_128 tw_17 tw_129 yk_X2_init (by decide) rfl hl.1 (Nat.le_of_ble_eq_true rfl) dX6_init_157 rfl (fun H locs hN => ?_)
  have hM := hN.1
  obtain ⟨M46, hM46, hp⟩ := ob hp
  obtain ⟨_, _, _, ha94, hv94, hi94, eM46⟩ := aRs_at hM46
  refine mn_astq C0 hN ha94 hv94 cbX2.1 rfl hi94 dX6_init_160 (fun H locs hN => ?_)
  rw [← eM46] at hN
  have hM := hN.1
  refine lv_iinc (v := (((0 : Int32) + (1 : Int32)) + (1 : Int32))) (lv' := [(1, .int (((0 : Int32) + (1 : Int32)) + (1 : Int32))), (0, .ref a0)]) hx hb dX6_init_161 hl (k := 0) rfl rfl (by decide) rfl (fun ls hl => ?_)
  refine lv_goto (tgt := 135) hx hb dX6_init_164 (by decide) ?_
  refine lv_iload_n hx hb dX6_init_135 rfl (lv_at hl 0 rfl) ?_
  refine lv_bipush (v := 10) hx hb dX6_init_136 (by decide) ?_
  refine lv_icmp_ge (tgt := 167) hx hb dX6_init_138 (by decide) (fun c => absurd c (by decide)) (fun _ => ?_)
  refine lv_aload_n hx hb dX6_init_141 rfl (lv_at hl 1 rfl) ?_
  obtain ⟨v47, hv47, hp⟩ := ob hp
  refine mr_getR C0 cbX6 hM 8 (by decide) tw_299 hv47 dX6_init_142 ?_
  refine lv_iload_n hx hb dX6_init_145 rfl (lv_at hl 0 rfl) ?_
  obtain ⟨M48, eM48, hp⟩ := ojn hp
  refine mn_new C0 hN cbX2 tw_286 tw_57 tw_17 (fs := [.null, .int 0, .int 0, .int 0, .int 0, .int 0, .int 0, .long 0, .long 0, .long 0, .long 0, .null, .null, .null, .null, .null, .null, .null, .null, .null]) dfX2 (by decide) (by decide) dX6_init_146 (fun H hN => ?_)
  rw [← eM48] at hN
  have hM := hN.1
  refine lv_dup hx hb dX6_init_149 rfl ?_
  refine lv_aload_n hx hb dX6_init_150 rfl (lv_at hl 1 rfl) ?_
  obtain ⟨v49, hv49, hp⟩ := ob hp
  refine mr_getR C0 cbX6 hM 3 (by decide) tw_294 hv49 dX6_init_151 ?_
  obtain ⟨v50, hv50, hp⟩ := ob hp
  refine mr_getR C0 cbX2 hM 0 (by decide) tw_131 hv50 dX6_init_154 ?_
  obtain ⟨M51, hM51, hp⟩ := ob hp
  refine mn_I (As := [.ref v50]) (rest := [.ref (z + 99), .int (((0 : Int32) + (1 : Int32)) + (1 : Int32)), .ref v47]) C0 hN (wn_X2_init hG hM51) rfl tw_289 tw_128 tw_17 tw_129 yk_X2_init (by decide) rfl hl.1 (Nat.le_of_ble_eq_true rfl) dX6_init_157 rfl (fun H locs hN => ?_)
  have hM := hN.1
  obtain ⟨M52, hM52, hp⟩ := ob hp
  obtain ⟨_, _, _, ha94, hv94, hi94, eM52⟩ := aRs_at hM52
  refine mn_astq C0 hN ha94 hv94 cbX2.1 rfl hi94 dX6_init_160 (fun H locs hN => ?_)
  rw [← eM52] at hN
  have hM := hN.1
  refine lv_iinc (v := ((((0 : Int32) + (1 : Int32)) + (1 : Int32)) + (1 : Int32))) (lv' := [(1, .int ((((0 : Int32) + (1 : Int32)) + (1 : Int32)) + (1 : Int32))), (0, .ref a0)]) hx hb dX6_init_161 hl (k := 0) rfl rfl (by decide) rfl (fun ls hl => ?_)
  refine lv_goto (tgt := 135) hx hb dX6_init_164 (by decide) ?_
  refine lv_iload_n hx hb dX6_init_135 rfl (lv_at hl 0 rfl) ?_
  refine lv_bipush (v := 10) hx hb dX6_init_136 (by decide) ?_
  refine lv_icmp_ge (tgt := 167) hx hb dX6_init_138 (by decide) (fun c => absurd c (by decide)) (fun _ => ?_)
  refine lv_aload_n hx hb dX6_init_141 rfl (lv_at hl 1 rfl) ?_
  obtain ⟨v53, hv53, hp⟩ := ob hp
  refine mr_getR C0 cbX6 hM 8 (by decide) tw_299 hv53 dX6_init_142 ?_
  refine lv_iload_n hx hb dX6_init_145 rfl (lv_at hl 0 rfl) ?_
  obtain ⟨M54, eM54, hp⟩ := ojn hp
  refine mn_new C0 hN cbX2 tw_286 tw_57 tw_17 (fs := [.null, .int 0, .int 0, .int 0, .int 0, .int 0, .int 0, .long 0, .long 0, .long 0, .long 0, .null, .null, .null, .null, .null, .null, .null, .null, .null]) dfX2 (by decide) (by decide) dX6_init_146 (fun H hN => ?_)
  rw [← eM54] at hN
  have hM := hN.1
  refine lv_dup hx hb dX6_init_149 rfl ?_
  refine lv_aload_n hx hb dX6_init_150 rfl (lv_at hl 1 rfl) ?_
  obtain ⟨v55, hv55, hp⟩ := ob hp
  refine mr_getR C0 cbX6 hM 3 (by decide) tw_294 hv55 dX6_init_151 ?_
  obtain ⟨v56, hv56, hp⟩ := ob hp
  refine mr_getR C0 cbX2 hM 0 (by decide) tw_131 hv56 dX6_init_154 ?_
  obtain ⟨M57, hM57, hp⟩ := ob hp
  refine mn_I (As := [.ref v56]) (rest := [.ref (z + 109), .int ((((0 : Int32) + (1 : Int32)) + (1 : Int32)) + (1 : Int32)), .ref v53]) C0 hN (wn_X2_init hG hM57) rfl tw_289 tw_128 tw_17 tw_129 yk_X2_init (by decide) rfl hl.1 (Nat.le_of_ble_eq_true rfl) dX6_init_157 rfl (fun H locs hN => ?_)
  have hM := hN.1
  obtain ⟨M58, hM58, hp⟩ := ob hp
  obtain ⟨_, _, _, ha94, hv94, hi94, eM58⟩ := aRs_at hM58
  refine mn_astq C0 hN ha94 hv94 cbX2.1 rfl hi94 dX6_init_160 (fun H locs hN => ?_)
  rw [← eM58] at hN
  have hM := hN.1
  refine lv_iinc (v := (((((0 : Int32) + (1 : Int32)) + (1 : Int32)) + (1 : Int32)) + (1 : Int32))) (lv' := [(1, .int (((((0 : Int32) + (1 : Int32)) + (1 : Int32)) + (1 : Int32)) + (1 : Int32))), (0, .ref a0)]) hx hb dX6_init_161 hl (k := 0) rfl rfl (by decide) rfl (fun ls hl => ?_)
  refine lv_goto (tgt := 135) hx hb dX6_init_164 (by decide) ?_
  refine lv_iload_n hx hb dX6_init_135 rfl (lv_at hl 0 rfl) ?_
  refine lv_bipush (v := 10) hx hb dX6_init_136 (by decide) ?_
  refine lv_icmp_ge (tgt := 167) hx hb dX6_init_138 (by decide) (fun c => absurd c (by decide)) (fun _ => ?_)
  refine lv_aload_n hx hb dX6_init_141 rfl (lv_at hl 1 rfl) ?_
  obtain ⟨v59, hv59, hp⟩ := ob hp
  refine mr_getR C0 cbX6 hM 8 (by decide) tw_299 hv59 dX6_init_142 ?_
  refine lv_iload_n hx hb dX6_init_145 rfl (lv_at hl 0 rfl) ?_
  obtain ⟨M60, eM60, hp⟩ := ojn hp
  refine mn_new C0 hN cbX2 tw_286 tw_57 tw_17 (fs := [.null, .int 0, .int 0, .int 0, .int 0, .int 0, .int 0, .long 0, .long 0, .long 0, .long 0, .null, .null, .null, .null, .null, .null, .null, .null, .null]) dfX2 (by decide) (by decide) dX6_init_146 (fun H hN => ?_)
  rw [← eM60] at hN
  have hM := hN.1
  refine lv_dup hx hb dX6_init_149 rfl ?_
  refine lv_aload_n hx hb dX6_init_150 rfl (lv_at hl 1 rfl) ?_
  obtain ⟨v61, hv61, hp⟩ := ob hp
  refine mr_getR C0 cbX6 hM 3 (by decide) tw_294 hv61 dX6_init_151 ?_
  obtain ⟨v62, hv62, hp⟩ := ob hp
  refine mr_getR C0 cbX2 hM 0 (by decide) tw_131 hv62 dX6_init_154 ?_
  obtain ⟨M63, hM63, hp⟩ := ob hp
  refine mn_I (As := [.ref v62]) (rest := [.ref (z + 119), .int (((((0 : Int32) + (1 : Int32)) + (1 : Int32)) + (1 : Int32)) + (1 : Int32)), .ref v59]) C0 hN (wn_X2_init hG hM63) rfl tw_289 tw_128 tw_17 tw_129 yk_X2_init (by decide) rfl hl.1 (Nat.le_of_ble_eq_true rfl) dX6_init_157 rfl (fun H locs hN => ?_)
  have hM := hN.1
  obtain ⟨M64, hM64, hp⟩ := ob hp
  obtain ⟨_, _, _, ha94, hv94, hi94, eM64⟩ := aRs_at hM64
  refine mn_astq C0 hN ha94 hv94 cbX2.1 rfl hi94 dX6_init_160 (fun H locs hN => ?_)
  rw [← eM64] at hN
  have hM := hN.1
  refine lv_iinc (v := ((((((0 : Int32) + (1 : Int32)) + (1 : Int32)) + (1 : Int32)) + (1 : Int32)) + (1 : Int32))) (lv' := [(1, .int ((((((0 : Int32) + (1 : Int32)) + (1 : Int32)) + (1 : Int32)) + (1 : Int32)) + (1 : Int32))), (0, .ref a0)]) hx hb dX6_init_161 hl (k := 0) rfl rfl (by decide) rfl (fun ls hl => ?_)
  refine lv_goto (tgt := 135) hx hb dX6_init_164 (by decide) ?_
  refine lv_iload_n hx hb dX6_init_135 rfl (lv_at hl 0 rfl) ?_
  refine lv_bipush (v := 10) hx hb dX6_init_136 (by decide) ?_
  refine lv_icmp_ge (tgt := 167) hx hb dX6_init_138 (by decide) (fun c => absurd c (by decide)) (fun _ => ?_)
  refine lv_aload_n hx hb dX6_init_141 rfl (lv_at hl 1 rfl) ?_
  obtain ⟨v65, hv65, hp⟩ := ob hp
  refine mr_getR C0 cbX6 hM 8 (by decide) tw_299 hv65 dX6_init_142 ?_
  refine lv_iload_n hx hb dX6_init_145 rfl (lv_at hl 0 rfl) ?_
  obtain ⟨M66, eM66, hp⟩ := ojn hp
  refine mn_new C0 hN cbX2 tw_286 tw_57 tw_17 (fs := [.null, .int 0, .int 0, .int 0, .int 0, .int 0, .int 0, .long 0, .long 0, .long 0, .long 0, .null, .null, .null, .null, .null, .null, .null, .null, .null]) dfX2 (by decide) (by decide) dX6_init_146 (fun H hN => ?_)
  rw [← eM66] at hN
  have hM := hN.1
  refine lv_dup hx hb dX6_init_149 rfl ?_
  refine lv_aload_n hx hb dX6_init_150 rfl (lv_at hl 1 rfl) ?_
  obtain ⟨v67, hv67, hp⟩ := ob hp
  refine mr_getR C0 cbX6 hM 3 (by decide) tw_294 hv67 dX6_init_151 ?_
  obtain ⟨v68, hv68, hp⟩ := ob hp
  refine mr_getR C0 cbX2 hM 0 (by decide) tw_131 hv68 dX6_init_154 ?_
  obtain ⟨M69, hM69, hp⟩ := ob hp
  refine mn_I (As := [.ref v68]) (rest := [.ref (z + 129), .int ((((((0 : Int32) + (1 : Int32)) + (1 : Int32)) + (1 : Int32)) + (1 : Int32)) + (1 : Int32)), .ref v65]) C0 hN (wn_X2_init hG hM69) rfl tw_289 tw_128 tw_17 tw_129 yk_X2_init (by decide) rfl hl.1 (Nat.le_of_ble_eq_true rfl) dX6_init_157 rfl (fun H locs hN => ?_)
  have hM := hN.1
  obtain ⟨M70, hM70, hp⟩ := ob hp
  obtain ⟨_, _, _, ha94, hv94, hi94, eM70⟩ := aRs_at hM70
  refine mn_astq C0 hN ha94 hv94 cbX2.1 rfl hi94 dX6_init_160 (fun H locs hN => ?_)
  rw [← eM70] at hN
  have hM := hN.1
  refine lv_iinc (v := (((((((0 : Int32) + (1 : Int32)) + (1 : Int32)) + (1 : Int32)) + (1 : Int32)) + (1 : Int32)) + (1 : Int32))) (lv' := [(1, .int (((((((0 : Int32) + (1 : Int32)) + (1 : Int32)) + (1 : Int32)) + (1 : Int32)) + (1 : Int32)) + (1 : Int32))), (0, .ref a0)]) hx hb dX6_init_161 hl (k := 0) rfl rfl (by decide) rfl (fun ls hl => ?_)
  refine lv_goto (tgt := 135) hx hb dX6_init_164 (by decide) ?_
  refine lv_iload_n hx hb dX6_init_135 rfl (lv_at hl 0 rfl) ?_
  refine lv_bipush (v := 10) hx hb dX6_init_136 (by decide) ?_
  refine lv_icmp_ge (tgt := 167) hx hb dX6_init_138 (by decide) (fun c => absurd c (by decide)) (fun _ => ?_)
  refine lv_aload_n hx hb dX6_init_141 rfl (lv_at hl 1 rfl) ?_
  obtain ⟨v71, hv71, hp⟩ := ob hp
  refine mr_getR C0 cbX6 hM 8 (by decide) tw_299 hv71 dX6_init_142 ?_
  refine lv_iload_n hx hb dX6_init_145 rfl (lv_at hl 0 rfl) ?_
  obtain ⟨M72, eM72, hp⟩ := ojn hp
  refine mn_new C0 hN cbX2 tw_286 tw_57 tw_17 (fs := [.null, .int 0, .int 0, .int 0, .int 0, .int 0, .int 0, .long 0, .long 0, .long 0, .long 0, .null, .null, .null, .null, .null, .null, .null, .null, .null]) dfX2 (by decide) (by decide) dX6_init_146 (fun H hN => ?_)
  rw [← eM72] at hN
  have hM := hN.1
  refine lv_dup hx hb dX6_init_149 rfl ?_
  refine lv_aload_n hx hb dX6_init_150 rfl (lv_at hl 1 rfl) ?_
  obtain ⟨v73, hv73, hp⟩ := ob hp
  refine mr_getR C0 cbX6 hM 3 (by decide) tw_294 hv73 dX6_init_151 ?_
  obtain ⟨v74, hv74, hp⟩ := ob hp
  refine mr_getR C0 cbX2 hM 0 (by decide) tw_131 hv74 dX6_init_154 ?_
  obtain ⟨M75, hM75, hp⟩ := ob hp
  refine mn_I (As := [.ref v74]) (rest := [.ref (z + 139), .int (((((((0 : Int32) + (1 : Int32)) + (1 : Int32)) + (1 : Int32)) + (1 : Int32)) + (1 : Int32)) + (1 : Int32)), .ref v71]) C0 hN (wn_X2_init hG hM75) rfl tw_289 tw_128 tw_17 tw_129 yk_X2_init (by decide) rfl hl.1 (Nat.le_of_ble_eq_true rfl) dX6_init_157 rfl (fun H locs hN => ?_)
  have hM := hN.1
  obtain ⟨M76, hM76, hp⟩ := ob hp
  obtain ⟨_, _, _, ha94, hv94, hi94, eM76⟩ := aRs_at hM76
  refine mn_astq C0 hN ha94 hv94 cbX2.1 rfl hi94 dX6_init_160 (fun H locs hN => ?_)
  rw [← eM76] at hN
  have hM := hN.1
  refine lv_iinc (v := ((((((((0 : Int32) + (1 : Int32)) + (1 : Int32)) + (1 : Int32)) + (1 : Int32)) + (1 : Int32)) + (1 : Int32)) + (1 : Int32))) (lv' := [(1, .int ((((((((0 : Int32) + (1 : Int32)) + (1 : Int32)) + (1 : Int32)) + (1 : Int32)) + (1 : Int32)) + (1 : Int32)) + (1 : Int32))), (0, .ref a0)]) hx hb dX6_init_161 hl (k := 0) rfl rfl (by decide) rfl (fun ls hl => ?_)
  refine lv_goto (tgt := 135) hx hb dX6_init_164 (by decide) ?_
  refine lv_iload_n hx hb dX6_init_135 rfl (lv_at hl 0 rfl) ?_
  refine lv_bipush (v := 10) hx hb dX6_init_136 (by decide) ?_
  refine lv_icmp_ge (tgt := 167) hx hb dX6_init_138 (by decide) (fun c => absurd c (by decide)) (fun _ => ?_)
  refine lv_aload_n hx hb dX6_init_141 rfl (lv_at hl 1 rfl) ?_
  obtain ⟨v77, hv77, hp⟩ := ob hp
  refine mr_getR C0 cbX6 hM 8 (by decide) tw_299 hv77 dX6_init_142 ?_
  refine lv_iload_n hx hb dX6_init_145 rfl (lv_at hl 0 rfl) ?_
  obtain ⟨M78, eM78, hp⟩ := ojn hp
  refine mn_new C0 hN cbX2 tw_286 tw_57 tw_17 (fs := [.null, .int 0, .int 0, .int 0, .int 0, .int 0, .int 0, .long 0, .long 0, .long 0, .long 0, .null, .null, .null, .null, .null, .null, .null, .null, .null]) dfX2 (by decide) (by decide) dX6_init_146 (fun H hN => ?_)
  rw [← eM78] at hN
  have hM := hN.1
  refine lv_dup hx hb dX6_init_149 rfl ?_
  refine lv_aload_n hx hb dX6_init_150 rfl (lv_at hl 1 rfl) ?_
  obtain ⟨v79, hv79, hp⟩ := ob hp
  refine mr_getR C0 cbX6 hM 3 (by decide) tw_294 hv79 dX6_init_151 ?_
  obtain ⟨v80, hv80, hp⟩ := ob hp
  refine mr_getR C0 cbX2 hM 0 (by decide) tw_131 hv80 dX6_init_154 ?_
  obtain ⟨M81, hM81, hp⟩ := ob hp
  refine mn_I (As := [.ref v80]) (rest := [.ref (z + 149), .int ((((((((0 : Int32) + (1 : Int32)) + (1 : Int32)) + (1 : Int32)) + (1 : Int32)) + (1 : Int32)) + (1 : Int32)) + (1 : Int32)), .ref v77]) C0 hN (wn_X2_init hG hM81) rfl tw_289 tw_128 tw_17 tw_129 yk_X2_init (by decide) rfl hl.1 (Nat.le_of_ble_eq_true rfl) dX6_init_157 rfl (fun H locs hN => ?_)
  have hM := hN.1
  obtain ⟨M82, hM82, hp⟩ := ob hp
  obtain ⟨_, _, _, ha94, hv94, hi94, eM82⟩ := aRs_at hM82
  refine mn_astq C0 hN ha94 hv94 cbX2.1 rfl hi94 dX6_init_160 (fun H locs hN => ?_)
  rw [← eM82] at hN
  have hM := hN.1
  refine lv_iinc (v := (((((((((0 : Int32) + (1 : Int32)) + (1 : Int32)) + (1 : Int32)) + (1 : Int32)) + (1 : Int32)) + (1 : Int32)) + (1 : Int32)) + (1 : Int32))) (lv' := [(1, .int (((((((((0 : Int32) + (1 : Int32)) + (1 : Int32)) + (1 : Int32)) + (1 : Int32)) + (1 : Int32)) + (1 : Int32)) + (1 : Int32)) + (1 : Int32))), (0, .ref a0)]) hx hb dX6_init_161 hl (k := 0) rfl rfl (by decide) rfl (fun ls hl => ?_)
  refine lv_goto (tgt := 135) hx hb dX6_init_164 (by decide) ?_
  refine lv_iload_n hx hb dX6_init_135 rfl (lv_at hl 0 rfl) ?_
  refine lv_bipush (v := 10) hx hb dX6_init_136 (by decide) ?_
  refine lv_icmp_ge (tgt := 167) hx hb dX6_init_138 (by decide) (fun c => absurd c (by decide)) (fun _ => ?_)
  refine lv_aload_n hx hb dX6_init_141 rfl (lv_at hl 1 rfl) ?_
  obtain ⟨v83, hv83, hp⟩ := ob hp
  refine mr_getR C0 cbX6 hM 8 (by decide) tw_299 hv83 dX6_init_142 ?_
  refine lv_iload_n hx hb dX6_init_145 rfl (lv_at hl 0 rfl) ?_
  obtain ⟨M84, eM84, hp⟩ := ojn hp
  refine mn_new C0 hN cbX2 tw_286 tw_57 tw_17 (fs := [.null, .int 0, .int 0, .int 0, .int 0, .int 0, .int 0, .long 0, .long 0, .long 0, .long 0, .null, .null, .null, .null, .null, .null, .null, .null, .null]) dfX2 (by decide) (by decide) dX6_init_146 (fun H hN => ?_)
  rw [← eM84] at hN
  have hM := hN.1
  refine lv_dup hx hb dX6_init_149 rfl ?_
  refine lv_aload_n hx hb dX6_init_150 rfl (lv_at hl 1 rfl) ?_
  obtain ⟨v85, hv85, hp⟩ := ob hp
  refine mr_getR C0 cbX6 hM 3 (by decide) tw_294 hv85 dX6_init_151 ?_
  obtain ⟨v86, hv86, hp⟩ := ob hp
  refine mr_getR C0 cbX2 hM 0 (by decide) tw_131 hv86 dX6_init_154 ?_
  obtain ⟨M87, hM87, hp⟩ := ob hp
  refine mn_I (As := [.ref v86]) (rest := [.ref (z + 159), .int (((((((((0 : Int32) + (1 : Int32)) + (1 : Int32)) + (1 : Int32)) + (1 : Int32)) + (1 : Int32)) + (1 : Int32)) + (1 : Int32)) + (1 : Int32)), .ref v83]) C0 hN (wn_X2_init hG hM87) rfl tw_289 tw_128 tw_17 tw_129 yk_X2_init (by decide) rfl hl.1 (Nat.le_of_ble_eq_true rfl) dX6_init_157 rfl (fun H locs hN => ?_)
  have hM := hN.1
  obtain ⟨M88, hM88, hp⟩ := ob hp
  obtain ⟨_, _, _, ha94, hv94, hi94, eM88⟩ := aRs_at hM88
  refine mn_astq C0 hN ha94 hv94 cbX2.1 rfl hi94 dX6_init_160 (fun H locs hN => ?_)
  rw [← eM88] at hN
  have hM := hN.1
  refine lv_iinc (v := ((((((((((0 : Int32) + (1 : Int32)) + (1 : Int32)) + (1 : Int32)) + (1 : Int32)) + (1 : Int32)) + (1 : Int32)) + (1 : Int32)) + (1 : Int32)) + (1 : Int32))) (lv' := [(1, .int ((((((((((0 : Int32) + (1 : Int32)) + (1 : Int32)) + (1 : Int32)) + (1 : Int32)) + (1 : Int32)) + (1 : Int32)) + (1 : Int32)) + (1 : Int32)) + (1 : Int32))), (0, .ref a0)]) hx hb dX6_init_161 hl (k := 0) rfl rfl (by decide) rfl (fun ls hl => ?_)
  refine lv_goto (tgt := 135) hx hb dX6_init_164 (by decide) ?_
  refine lv_iload_n hx hb dX6_init_135 rfl (lv_at hl 0 rfl) ?_
  refine lv_bipush (v := 10) hx hb dX6_init_136 (by decide) ?_
  refine lv_icmp_ge (tgt := 167) hx hb dX6_init_138 (by decide) (fun c => absurd c (by decide)) (fun _ => ?_)
  refine lv_aload_n hx hb dX6_init_141 rfl (lv_at hl 1 rfl) ?_
  obtain ⟨v89, hv89, hp⟩ := ob hp
  refine mr_getR C0 cbX6 hM 8 (by decide) tw_299 hv89 dX6_init_142 ?_
  refine lv_iload_n hx hb dX6_init_145 rfl (lv_at hl 0 rfl) ?_
  obtain ⟨M90, eM90, hp⟩ := ojn hp
  refine mn_new C0 hN cbX2 tw_286 tw_57 tw_17 (fs := [.null, .int 0, .int 0, .int 0, .int 0, .int 0, .int 0, .long 0, .long 0, .long 0, .long 0, .null, .null, .null, .null, .null, .null, .null, .null, .null]) dfX2 (by decide) (by decide) dX6_init_146 (fun H hN => ?_)
  rw [← eM90] at hN
  have hM := hN.1
  refine lv_dup hx hb dX6_init_149 rfl ?_
  refine lv_aload_n hx hb dX6_init_150 rfl (lv_at hl 1 rfl) ?_
  obtain ⟨v91, hv91, hp⟩ := ob hp
  refine mr_getR C0 cbX6 hM 3 (by decide) tw_294 hv91 dX6_init_151 ?_
  obtain ⟨v92, hv92, hp⟩ := ob hp
  refine mr_getR C0 cbX2 hM 0 (by decide) tw_131 hv92 dX6_init_154 ?_
  obtain ⟨M93, hM93, hp⟩ := ob hp
  refine mn_I (As := [.ref v92]) (rest := [.ref (z + 169), .int ((((((((((0 : Int32) + (1 : Int32)) + (1 : Int32)) + (1 : Int32)) + (1 : Int32)) + (1 : Int32)) + (1 : Int32)) + (1 : Int32)) + (1 : Int32)) + (1 : Int32)), .ref v89]) C0 hN (wn_X2_init hG hM93) rfl tw_289 tw_128 tw_17 tw_129 yk_X2_init (by decide) rfl hl.1 (Nat.le_of_ble_eq_true rfl) dX6_init_157 rfl (fun H locs hN => ?_)
  have hM := hN.1
  obtain ⟨M94, hM94, hp⟩ := ob hp
  obtain ⟨_, _, _, ha94, hv94, hi94, eM94⟩ := aRs_at hM94
  refine mn_astq C0 hN ha94 hv94 cbX2.1 rfl hi94 dX6_init_160 (fun H locs hN => ?_)
  rw [← eM94] at hN
  have hM := hN.1
  refine lv_iinc (v := (((((((((((0 : Int32) + (1 : Int32)) + (1 : Int32)) + (1 : Int32)) + (1 : Int32)) + (1 : Int32)) + (1 : Int32)) + (1 : Int32)) + (1 : Int32)) + (1 : Int32)) + (1 : Int32))) (lv' := [(1, .int (((((((((((0 : Int32) + (1 : Int32)) + (1 : Int32)) + (1 : Int32)) + (1 : Int32)) + (1 : Int32)) + (1 : Int32)) + (1 : Int32)) + (1 : Int32)) + (1 : Int32)) + (1 : Int32))), (0, .ref a0)]) hx hb dX6_init_161 hl (k := 0) rfl rfl (by decide) rfl (fun ls hl => ?_)
  refine lv_goto (tgt := 135) hx hb dX6_init_164 (by decide) ?_
  refine lv_iload_n hx hb dX6_init_135 rfl (lv_at hl 0 rfl) ?_
  refine lv_bipush (v := 10) hx hb dX6_init_136 (by decide) ?_
  refine lv_icmp_ge (tgt := 167) hx hb dX6_init_138 (by decide) (fun _ => ?_) (fun c => absurd (by decide) c)
  exact mn_vret C0 hr hlk hN (Option.some.inj hp) rfl (by decide) (by decide) dX6_init_167
