/-! the start: what the statement gives of the tables and of the cells below ours -/
def stF : List Cond := flatC (Jvm.Cond.and given_1 narrow_1)
def zK : List Nat := [191, 197, 199, 201, 203, 205, 207, 209, 211, 213, 215]
def zW : List Nat := [61, 67, 70, 73, 76, 79, 82, 85, 88, 91, 94]
def zt (i : Nat) : Term := .string "PlaceOfficeModel" (zK.getD i 0)
def zs (i : Nat) : Term := .static "PlaceOffice$Word" (zNm.getD i "") "LPlaceOffice$Word;"
def zwt : Term := .static "PlaceOffice$SetupReader" "WORDS" "[LPlaceOffice$Word;"
set_option maxRecDepth 100000
def p_fm_ex : List Nat := [619, 629, 637, 646, 655, 663, 674, 682, 690, 701, 711]
theorem q_fm_ex : ∀ i, i < 11 → stF[p_fm_ex.getD i 0]? = some (Cond.exactly (zt i) "java/lang/String") := by decide +kernel
theorem fm_ex : ∀ i, i < 11 → Cond.exactly (zt i) "java/lang/String" ∈ stF := fun i hi => List.mem_of_getElem? (q_fm_ex i hi)
def p_fm_co : List Nat := [620, 630, 638, 647, 656, 664, 675, 683, 691, 702, 712]
theorem q_fm_co : ∀ i, i < 11 → stF[p_fm_co.getD i 0]? = some (Cond.eq (.field (zt i) "java/lang/String" "coder" "B") (.int 0)) := by decide +kernel
theorem fm_co : ∀ i, i < 11 → Cond.eq (.field (zt i) "java/lang/String" "coder" "B") (.int 0) ∈ stF := fun i hi => List.mem_of_getElem? (q_fm_co i hi)
def p_fm_ar : List Nat := [621, 631, 639, 648, 657, 665, 676, 684, 692, 703, 713]
theorem q_fm_ar : ∀ i, i < 11 → stF[p_fm_ar.getD i 0]? = some (Cond.arrayOf (.field (zt i) "java/lang/String" "value" "[B") .byte) := by decide +kernel
theorem fm_ar : ∀ i, i < 11 → Cond.arrayOf (.field (zt i) "java/lang/String" "value" "[B") .byte ∈ stF := fun i hi => List.mem_of_getElem? (q_fm_ar i hi)
def p_fm_le : List Nat := [622, 632, 640, 649, 658, 666, 677, 685, 693, 704, 714]
theorem q_fm_le : ∀ i, i < 11 → stF[p_fm_le.getD i 0]? = some (Cond.eq (.length (.field (zt i) "java/lang/String" "value" "[B")) (.int (Int32.ofNat (zLen.getD i 0)))) := by decide +kernel
theorem fm_le : ∀ i, i < 11 → Cond.eq (.length (.field (zt i) "java/lang/String" "value" "[B")) (.int (Int32.ofNat (zLen.getD i 0))) ∈ stF := fun i hi => List.mem_of_getElem? (q_fm_le i hi)
def p_fm_el : List (List Nat) := [[623, 624, 625, 626, 627, 628], [633, 634, 635, 636], [641, 642, 643, 644, 645], [650, 651, 652, 653, 654], [659, 660, 661, 662], [667, 668, 669, 670, 671, 672, 673], [678, 679, 680, 681], [686, 687, 688, 689], [694, 695, 696, 697, 698, 699, 700], [705, 706, 707, 708, 709, 710], [715, 716, 717, 718, 719, 720, 721]]
theorem q_fm_el : ∀ i, i < 11 → ∀ j, j < zLen.getD i 0 → stF[(p_fm_el.getD i []).getD j 0]? = some (Cond.eq (.elem (.field (zt i) "java/lang/String" "value" "[B") (.int (Int32.ofNat j))) (.int ((zBy.getD i []).getD j 0))) := by decide +kernel
theorem fm_el : ∀ i, i < 11 → ∀ j, j < zLen.getD i 0 → Cond.eq (.elem (.field (zt i) "java/lang/String" "value" "[B") (.int (Int32.ofNat j))) (.int ((zBy.getD i []).getD j 0)) ∈ stF := fun i hi j hj => List.mem_of_getElem? (q_fm_el i hi j hj)
def p_fm_eq : List Nat := [732, 762, 772, 782, 814, 826, 835, 741, 753, 793, 805]
theorem q_fm_eq : ∀ i, i < 11 → stF[p_fm_eq.getD i 0]? = some (Cond.eq (zt i) (.string "PlaceOffice$Word" (zW.getD i 0))) := by decide +kernel
theorem fm_eq : ∀ i, i < 11 → Cond.eq (zt i) (.string "PlaceOffice$Word" (zW.getD i 0)) ∈ stF := fun i hi => List.mem_of_getElem? (q_fm_eq i hi)
def p_fm_tx : List Nat := [27, 39, 45, 52, 79, 90, 102, 30, 34, 60, 69]
theorem q_fm_tx : ∀ i, i < 11 → stF[p_fm_tx.getD i 0]? = some (Cond.eq (.field (zs i) "PlaceOffice$Word" "text" "Ljava/lang/String;") (.string "PlaceOffice$Word" (zW.getD i 0))) := by decide +kernel
theorem fm_tx : ∀ i, i < 11 → Cond.eq (.field (zs i) "PlaceOffice$Word" "text" "Ljava/lang/String;") (.string "PlaceOffice$Word" (zW.getD i 0)) ∈ stF := fun i hi => List.mem_of_getElem? (q_fm_tx i hi)
def p_fm_wx : List Nat := [25, 37, 43, 50, 77, 88, 100, 28, 32, 58, 67]
theorem q_fm_wx : ∀ i, i < 11 → stF[p_fm_wx.getD i 0]? = some (Cond.exactly (zs i) "PlaceOffice$Word") := by decide +kernel
theorem fm_wx : ∀ i, i < 11 → Cond.exactly (zs i) "PlaceOffice$Word" ∈ stF := fun i hi => List.mem_of_getElem? (q_fm_wx i hi)
def p_fm_ne : List (List Nat) := [[0, 40, 46, 53, 80, 91, 103, 31, 35, 61, 70], [40, 0, 49, 56, 83, 94, 106, 41, 42, 64, 73], [46, 49, 0, 57, 84, 95, 107, 47, 48, 65, 74], [53, 56, 57, 0, 85, 96, 108, 54, 55, 66, 75], [80, 83, 84, 85, 0, 99, 111, 81, 82, 86, 87], [91, 94, 95, 96, 99, 0, 112, 92, 93, 97, 98], [103, 106, 107, 108, 111, 112, 0, 104, 105, 109, 110], [31, 41, 47, 54, 81, 92, 104, 0, 36, 62, 71], [35, 42, 48, 55, 82, 93, 105, 36, 0, 63, 72], [61, 64, 65, 66, 86, 97, 109, 62, 63, 0, 76], [70, 73, 74, 75, 87, 98, 110, 71, 72, 76, 0]]
theorem q_fm_ne : ∀ i, i < 11 → ∀ j, j < 11 → i ≠ j → (stF[(p_fm_ne.getD i []).getD j 0]? = some (Cond.not (.eq (zs i) (zs j))) ∨ stF[(p_fm_ne.getD i []).getD j 0]? = some (Cond.not (.eq (zs j) (zs i)))) := by decide +kernel
theorem fm_ne : ∀ i, i < 11 → ∀ j, j < 11 → i ≠ j → (Cond.not (.eq (zs i) (zs j)) ∈ stF ∨ Cond.not (.eq (zs j) (zs i)) ∈ stF) := fun i hi j hj h => (q_fm_ne i hi j hj h).imp List.mem_of_getElem? List.mem_of_getElem?
theorem fm_wa : Cond.arrayOf zwt (.object "PlaceOffice$Word") ∈ stF := List.mem_of_getElem? (i := 6) (by decide +kernel)
theorem fm_wl : Cond.eq (.length zwt) (.int 11) ∈ stF := List.mem_of_getElem? (i := 7) (by decide +kernel)
def p_fm_we : List Nat := [9, 10, 11, 12, 13, 14, 15, 16, 17, 18, 19]
theorem q_fm_we : ∀ i, i < 11 → stF[p_fm_we.getD i 0]? = some (Cond.eq (.elem zwt (.int (Int32.ofNat i))) (zs i)) := by decide +kernel
theorem fm_we : ∀ i, i < 11 → Cond.eq (.elem zwt (.int (Int32.ofNat i))) (zs i) ∈ stF := fun i hi => List.mem_of_getElem? (q_fm_we i hi)
theorem fm_cs : Cond.eq (.static "java/lang/String" "COMPACT_STRINGS" "Z") (.int 1) ∈ stF := List.mem_of_getElem? (i := 20) (by decide +kernel)
theorem fm_sf : Cond.isRef (.static "jdk/internal/util/Preconditions" "SIOOBE_FORMATTER" "Ljava/util/function/BiFunction;") ∈ stF := List.mem_of_getElem? (i := 21) (by decide +kernel)
theorem fm_us : Cond.isRef (.static Bundle.tN "UNASSIGNED_STACK" Bundle.steD) ∈ stF := List.mem_of_getElem? (i := 113) (by decide +kernel)
theorem fm_su : Cond.isRef (.static Bundle.tN "SUPPRESSED_SENTINEL" Bundle.listD) ∈ stF := List.mem_of_getElem? (i := 114) (by decide +kernel)
def p_fm_nc : List Nat := [134, 145, 156, 123, 146, 157, 124, 135, 158, 125, 136, 147]
theorem q_fm_nc : ∀ i, i < 12 → ∀ q, ncs[i]? = some q → stF[p_fm_nc.getD i 0]? = some (Cond.not (.castable q.1 q.2)) := fun i hi q hq => by
  have h : ∀ i, i < 12 → (ncs[i]?).map (fun q => stF[p_fm_nc.getD i 0]? == some (Cond.not (.castable q.1 q.2))) = some true := by decide +kernel
  have h9 := h i hi
  rw [hq] at h9
  exact eq_of_beq (Option.some.inj h9)
theorem fm_nc : ∀ q ∈ ncs, Cond.not (.castable q.1 q.2) ∈ stF := fun q hq => by
  obtain ⟨i, hi⟩ := List.getElem?_of_mem hq
  have hl : i < 12 := (List.getElem?_eq_some_iff.mp hi).1
  exact List.mem_of_getElem? (q_fm_nc i hl q hi)
def p_fm_yx : List Nat := [159, 191, 209, 241, 257, 274, 305, 327, 345, 382, 399, 417, 445, 476, 510, 536, 556, 598]
theorem q_fm_yx : ∀ i, i < 18 → ∀ q, yRef[i]? = some q → stF[p_fm_yx.getD i 0]? = some (Cond.exactly (.string "PlaceOffice" q.1) "java/lang/String") := fun i hi q hq => by
  have h : ∀ i, i < 18 → (yRef[i]?).map (fun q => stF[p_fm_yx.getD i 0]? == some (Cond.exactly (.string "PlaceOffice" q.1) "java/lang/String")) = some true := by decide +kernel
  have h9 := h i hi
  rw [hq] at h9
  exact eq_of_beq (Option.some.inj h9)
theorem fm_yx : ∀ q ∈ yRef, Cond.exactly (.string "PlaceOffice" q.1) "java/lang/String" ∈ stF := fun q hq => by
  obtain ⟨i, hi⟩ := List.getElem?_of_mem hq
  have hl : i < 18 := (List.getElem?_eq_some_iff.mp hi).1
  exact List.mem_of_getElem? (q_fm_yx i hl q hi)
def p_tm_yr : List Nat := [774, 821, 833, 851, 869, 871, 879, 940, 948, 983, 984, 990, 1000, 1015, 1027, 1051, 1059, 1213]
theorem q_tm_yr : ∀ i, i < 18 → ∀ q, yRef[i]? = some q → tables_1[p_tm_yr.getD i 0]? = some (Cond.stringRef "PlaceOffice" q.1 q.2) := fun i hi q hq => by
  have h : ∀ i, i < 18 → (yRef[i]?).map (fun q => tables_1[p_tm_yr.getD i 0]? == some (Cond.stringRef "PlaceOffice" q.1 q.2)) = some true := by decide +kernel
  have h9 := h i hi
  rw [hq] at h9
  exact eq_of_beq (Option.some.inj h9)
theorem tm_yr : ∀ q ∈ yRef, Cond.stringRef "PlaceOffice" q.1 q.2 ∈ lw_tbl := fun q hq => by
  obtain ⟨i, hi⟩ := List.getElem?_of_mem hq
  have hl : i < 18 := (List.getElem?_eq_some_iff.mp hi).1
  exact List.mem_append_right _ (List.mem_of_getElem? (q_tm_yr i hl q hi))
def p_tm_zr : List Nat := [1351, 1378, 1379, 1380, 1381, 1382, 1383, 1384, 1385, 1386, 1387]
theorem q_tm_zr : ∀ i, i < 11 → ∀ q, zRef[i]? = some q → tables_1[p_tm_zr.getD i 0]? = some (Cond.stringRef q.1 q.2.1 (zTx.getD q.2.2 "")) := fun i hi q hq => by
  have h : ∀ i, i < 11 → (zRef[i]?).map (fun q => tables_1[p_tm_zr.getD i 0]? == some (Cond.stringRef q.1 q.2.1 (zTx.getD q.2.2 ""))) = some true := by decide +kernel
  have h9 := h i hi
  rw [hq] at h9
  exact eq_of_beq (Option.some.inj h9)
theorem tm_zr : ∀ q ∈ zRef, Cond.stringRef q.1 q.2.1 (zTx.getD q.2.2 "") ∈ lw_tbl := fun q hq => by
  obtain ⟨i, hi⟩ := List.getElem?_of_mem hq
  have hl : i < 11 := (List.getElem?_eq_some_iff.mp hi).1
  exact List.mem_append_right _ (List.mem_of_getElem? (q_tm_zr i hl q hi))
theorem tm_zk : ∀ q ∈ zRef, q.1 = "PlaceOfficeModel" ∧ q.2.2 < 11 ∧ q.2.1 = zK.getD q.2.2 0 := by decide +kernel
def p_tm_dw : List Nat := [734, 735, 736, 737, 738, 739, 740, 814, 844, 993]
theorem q_tm_dw : ∀ i, i < 10 → ∀ q, DW[i]? = some q → tables_1[p_tm_dw.getD i 0]? = some (q) := fun i hi q hq => by
  have h : ∀ i, i < 10 → (DW[i]?).map (fun q => tables_1[p_tm_dw.getD i 0]? == some (q)) = some true := by decide +kernel
  have h9 := h i hi
  rw [hq] at h9
  exact eq_of_beq (Option.some.inj h9)
theorem tm_dw : ∀ q ∈ DW, q ∈ lw_tbl := fun q hq => by
  obtain ⟨i, hi⟩ := List.getElem?_of_mem hq
  have hl : i < 10 := (List.getElem?_eq_some_iff.mp hi).1
  exact List.mem_append_right _ (List.mem_of_getElem? (q_tm_dw i hl q hi))
def p_tm_nw : List Nat := [35, 43, 251, 261, 276, 442, 546, 553, 571, 613, 614]
theorem q_tm_nw : ∀ i, i < 11 → ∀ q, NW[i]? = some q → tables_1[p_tm_nw.getD i 0]? = some (q) := fun i hi q hq => by
  have h : ∀ i, i < 11 → (NW[i]?).map (fun q => tables_1[p_tm_nw.getD i 0]? == some (q)) = some true := by decide +kernel
  have h9 := h i hi
  rw [hq] at h9
  exact eq_of_beq (Option.some.inj h9)
theorem tm_nw : ∀ q ∈ NW, q ∈ lw_tbl := fun q hq => by
  obtain ⟨i, hi⟩ := List.getElem?_of_mem hq
  have hl : i < 11 := (List.getElem?_eq_some_iff.mp hi).1
  exact List.mem_append_right _ (List.mem_of_getElem? (q_tm_nw i hl q hi))
def p_tm_ls : List Nat := [407, 441, 470, 480, 505, 515, 521, 437, 439, 490, 492]
theorem q_tm_ls : ∀ i, i < 11 → tables_1[p_tm_ls.getD i 0]? = some (Cond.laysStatic "PlaceOffice$Word" (zNm.getD i "") "LPlaceOffice$Word;") := by decide +kernel
theorem tm_ls : ∀ i, i < 11 → Cond.laysStatic "PlaceOffice$Word" (zNm.getD i "") "LPlaceOffice$Word;" ∈ lw_tbl := fun i hi => List.mem_append_right _ (List.mem_of_getElem? (q_tm_ls i hi))
theorem tm_lw : Cond.laysStatic "PlaceOffice$SetupReader" "WORDS" "[LPlaceOffice$Word;" ∈ lw_tbl := List.mem_append_right _ (List.mem_of_getElem? (i := 357) (by decide +kernel))
theorem tm_lc : Cond.laysStatic "java/lang/String" "COMPACT_STRINGS" "Z" ∈ lw_tbl := List.mem_append_right _ (List.mem_of_getElem? (i := 367) (by decide +kernel))
theorem tm_lf : Cond.laysStatic "jdk/internal/util/Preconditions" "SIOOBE_FORMATTER" "Ljava/util/function/BiFunction;" ∈ lw_tbl := List.mem_append_right _ (List.mem_of_getElem? (i := 383) (by decide +kernel))
theorem tm_lu : Cond.laysStatic "java/lang/Throwable" "UNASSIGNED_STACK" "[Ljava/lang/StackTraceElement;" ∈ lw_tbl := List.mem_append_right _ (List.mem_of_getElem? (i := 759) (by decide +kernel))
theorem tm_lp : Cond.laysStatic "java/lang/Throwable" "SUPPRESSED_SENTINEL" "Ljava/util/List;" ∈ lw_tbl := List.mem_append_right _ (List.mem_of_getElem? (i := 761) (by decide +kernel))
theorem tm_i0_0 : Cond.initialized "PlaceOffice$Word" ∈ lw_tbl := List.mem_append_right _ (List.mem_of_getElem? (i := 14) (by decide +kernel))
theorem tm_i0_1 : Cond.initialized "PlaceOffice$SetupReader" ∈ lw_tbl := List.mem_append_right _ (List.mem_of_getElem? (i := 2) (by decide +kernel))
theorem tm_i0_2 : Cond.initialized "java/lang/String" ∈ lw_tbl := List.mem_append_right _ (List.mem_of_getElem? (i := 9) (by decide +kernel))
theorem tm_i0_3 : Cond.initialized "jdk/internal/util/Preconditions" ∈ lw_tbl := List.mem_append_right _ (List.mem_of_getElem? (i := 11) (by decide +kernel))
theorem tm_i0_4 : Cond.initialized "java/lang/Throwable" ∈ lw_tbl := List.mem_append_right _ (List.mem_of_getElem? (i := 16) (by decide +kernel))
theorem tm_i0 : Cond.initialized "PlaceOffice$Word" ∈ lw_tbl ∧ Cond.initialized "PlaceOffice$SetupReader" ∈ lw_tbl ∧ Cond.initialized "java/lang/String" ∈ lw_tbl ∧ Cond.initialized "jdk/internal/util/Preconditions" ∈ lw_tbl ∧ Cond.initialized Bundle.tN ∈ lw_tbl := ⟨tm_i0_0, tm_i0_1, tm_i0_2, tm_i0_3, tm_i0_4⟩
theorem tm_ao : Cond.arrayOver (.object "PlaceOffice$Roll") ∈ lw_tbl := List.mem_append_right _ (List.mem_of_getElem? (i := 278) (by decide +kernel))
theorem tm_ac_0 : Cond.arrayClass .int ∈ lw_tbl := List.mem_append_right _ (List.mem_of_getElem? (i := 110) (by decide +kernel))
theorem tm_ac_1 : Cond.arrayClass .byte ∈ lw_tbl := List.mem_append_right _ (List.mem_of_getElem? (i := 109) (by decide +kernel))
theorem tm_ac_2 : Cond.arrayClass .long ∈ lw_tbl := List.mem_append_right _ (List.mem_of_getElem? (i := 1844) (by decide +kernel))
theorem tm_ac_3 : Cond.arrayClass .double ∈ lw_tbl := List.mem_append_right _ (List.mem_of_getElem? (i := 1845) (by decide +kernel))
theorem tm_ac : Cond.arrayClass .int ∈ lw_tbl ∧ Cond.arrayClass .byte ∈ lw_tbl ∧ Cond.arrayClass .long ∈ lw_tbl ∧ Cond.arrayClass .double ∈ lw_tbl := ⟨tm_ac_0, tm_ac_1, tm_ac_2, tm_ac_3⟩
theorem z_ne : ∀ i, i < 11 → ∀ j, j < 11 → i ≠ j → (Int32.ofNat (zLen.getD i 0) ≠ Int32.ofNat (zLen.getD j 0) ∨ ∃ k, k < zLen.getD i 0 ∧ k < zLen.getD j 0 ∧ (zBy.getD i []).getD k 0 ≠ (zBy.getD j []).getD k 0) := by decide +kernel
theorem z_lt : ∀ i, i < 11 → zLen.getD i 0 < 2 ^ 31 := by decide +kernel
theorem st_cls {args : Array Value} {s : State} (hts : ∀ w ∈ lw_tbl, w.before args s = true) : ∃ D : va_G, ∀ (c : Nat) (q : vw_C), vwCl[c]? = some q → u_Kn s q.1 q.2.1 q.2.2 (D.1 c) (D.2 c) := by
  have h : ∀ w ∈ TT, w.before args s = true := fun w hw => hts w (List.mem_filter.mp hw).1
  obtain ⟨c0, i0, k0⟩ := u_known h cbX0.2.1 (h _ tw_250)
  obtain ⟨c1, i1, k1⟩ := u_known h cbX1.2.1 (h _ tw_260)
  obtain ⟨c2, i2, k2⟩ := u_known h cbX2.2.1 (h _ tw_40)
  obtain ⟨c3, i3, k3⟩ := u_known h cbX3.2.1 (h _ tw_34)
  obtain ⟨c4, i4, k4⟩ := u_known h cbX4.2.1 (h _ tw_42)
  obtain ⟨c5, i5, k5⟩ := u_known h cbX6.2.1 (h _ tw_26)
  obtain ⟨c6, i6, k6⟩ := u_known h cbX7.2.1 (h _ tw_1215)
  refine ⟨(fun c => match c with | 0 => c0 | 1 => c1 | 2 => c2 | 3 => c3 | 4 => c4 | 5 => c5 | _ => c6, fun c => match c with | 0 => i0 | 1 => i1 | 2 => i2 | 3 => i3 | 4 => i4 | 5 => i5 | _ => i6), fun c q hq => ?_⟩
  match c, hq with
  | 0, hq => rw [← Option.some.inj (cbX0.1.symm.trans hq)]; exact k0
  | 1, hq => rw [← Option.some.inj (cbX1.1.symm.trans hq)]; exact k1
  | 2, hq => rw [← Option.some.inj (cbX2.1.symm.trans hq)]; exact k2
  | 3, hq => rw [← Option.some.inj (cbX3.1.symm.trans hq)]; exact k3
  | 4, hq => rw [← Option.some.inj (cbX4.1.symm.trans hq)]; exact k4
  | 5, hq => rw [← Option.some.inj (cbX6.1.symm.trans hq)]; exact k5
  | 6, hq => rw [← Option.some.inj (cbX7.1.symm.trans hq)]; exact k6
  | n + 7, hq => exact absurd (List.getElem?_eq_some_iff.mp hq).1 (by show ¬ (n + 7 < 7); omega)
theorem st_a1 {args : Array Value} {s : State} {t : FieldType} (h : (Cond.arrayClass t).before args s = true) (hp : ∀ cA : ClassId, va_RA s cA t = (s.vm.findClass ("[" ++ t.toString) = some cA)) : ∃ c : ClassId, ArrOfT s c t ∧ va_RA s c t := by
  obtain ⟨c, k, comp, h1, h2, h3⟩ := Cond.arrayClass_spec h
  exact ⟨c, fun n z => ⟨fun k h => (by cases h), k, h2, comp, h3⟩, by rw [hp]; exact h1⟩
theorem st_a2 {args : Array Value} {s : State} {C : String} (h : (Cond.arrayOver (.object C)).before args s = true) : ∃ c : ClassId, ArrOfT s c (.object C) ∧ va_RA s c (.object C) := by
  obtain ⟨comp, c, k, h1, -, h3, h4, h5⟩ := Cond.arrayOver_spec h
  exact ⟨c, fun n z => ⟨fun k h => (by cases h), k, h3, comp, h4⟩, k, comp, h3, h4, h1, h5⟩
theorem st_arr {args : Array Value} {s : State} (hts : ∀ w ∈ lw_tbl, w.before args s = true) : ∃ g : Nat → ClassId, ∀ (k : Nat) (q : ClassId × FieldType), (tyL g)[k]? = some q → ArrOfT s q.1 q.2 ∧ va_RA s q.1 q.2 := by
  obtain ⟨a0, h0⟩ := st_a1 (hts _ tm_ac.1) (fun _ => rfl)
  obtain ⟨a1, h1⟩ := st_a1 (hts _ tm_ac.2.1) (fun _ => rfl)
  obtain ⟨a2, h2⟩ := st_a1 (hts _ tm_ac.2.2.1) (fun _ => rfl)
  obtain ⟨a3, h3⟩ := st_a1 (hts _ tm_ac.2.2.2) (fun _ => rfl)
  obtain ⟨a4, h4⟩ := st_a2 (hts _ tm_ao)
  refine ⟨fun k => match k with | 0 => a0 | 1 => a1 | 2 => a2 | 3 => a3 | _ => a4, fun k q hq => ?_⟩
  match k, hq with
  | 0, hq => rw [← Option.some.inj hq]; exact h0
  | 1, hq => rw [← Option.some.inj hq]; exact h1
  | 2, hq => rw [← Option.some.inj hq]; exact h2
  | 3, hq => rw [← Option.some.inj hq]; exact h3
  | 4, hq => rw [← Option.some.inj hq]; exact h4
  | n + 5, hq => exact absurd (List.getElem?_eq_some_iff.mp hq).1 (by show ¬ (n + 5 < 5); omega)
theorem va_OF.one {o n d : String} {v w : Value} {t : Nat} {A : Nat → Prop} {U : State} {H : Heap} (h1 : va_OF o n d v t A U H) (h2 : va_OF o n d w t A U H) : v = w := by
  obtain ⟨cf, k, i, f, cell, a1, -, a3, -, a5, -⟩ := h1
  obtain ⟨cf', k', i', f', cell', b1, -, b3, -, b5, -⟩ := h2
  cases a1.symm.trans b1
  cases a3.symm.trans b3
  exact Option.some.inj (a5.symm.trans b5)
theorem va_T.one {ty ty' : FieldType} {t n n' : Nat} {f f' : Nat → Value} {A : Nat → Prop} {U : State} {H : Heap} (h1 : va_T ty t n f A U H) (h2 : va_T ty' t n' f' A U H) : Int32.ofNat n = Int32.ofNat n' ∧ ∀ k, k < n → k < n' → f k = f' k := by
  obtain ⟨c, a1, -, -, -, a5, a6, -⟩ := h1
  obtain ⟨c', b1, -, -, -, b5, b6, -⟩ := h2
  cases a1.symm.trans b1
  exact ⟨a5.symm.trans b5, fun k h h' => Option.some.inj ((a6 k h).symm.trans (b6 k h'))⟩
theorem st_str {args : Array Value} {s : State} (hs : ∀ c ∈ stF, c.before args s = true) {A : Nat → Prop} (hA : ∀ a : Nat, a < s.heap.size → ¬ A a) : ∃ adK adV : Nat → Nat, vk_S 11 zLen zBy adK adV A s s.heap ∧ ∀ i : Nat, i < 11 → (zt i).eval args s none [] s = some (.ref (adK i)) := by
  have one : ∀ i : Nat, ∃ q : Nat × Nat, i < 11 → (va_O "java/lang/String" q.1 A s s.heap ∧ va_OF "java/lang/String" "coder" "B" (.int 0) q.1 A s s.heap ∧ va_OF "java/lang/String" "value" "[B" (.ref q.2) q.1 A s s.heap ∧ va_T .byte q.2 (zLen.getD i 0) (fun j => .int ((zBy.getD i []).getD j 0)) A s s.heap) ∧ (zt i).eval args s none [] s = some (.ref q.1) := by
    intro i
    by_cases hi : i < 11
    · obtain ⟨a, v, h1, h2⟩ := vk_Sof (args := args) (s := s) (N := 1) (tm := fun _ => zt i) (len := [zLen.getD i 0]) (byt := [zBy.getD i []]) (A := A)
        (fun k hk => by obtain rfl : k = 0 := by omega
                        exact z_lt i hi) (fun k hk => hs _ (fm_ex i hi)) (fun k hk => hs _ (fm_co i hi)) (fun k hk => hs _ (fm_ar i hi))
        (fun k hk => by obtain rfl : k = 0 := by omega
                        exact hs _ (fm_le i hi))
        (fun k hk j hj => by obtain rfl : k = 0 := by omega
                             exact hs _ (fm_el i hi j hj)) (fun k j hk hj hn => absurd (by omega : k = j) hn) hA
      exact ⟨(a 0, v 0), fun _ => ⟨h1.1 0 (by omega), h2 0 (by omega)⟩⟩
    · exact ⟨(0, 0), fun h => absurd h hi⟩
  obtain ⟨ad, had⟩ := Classical.axiomOfChoice one
  refine ⟨fun i => (ad i).1, fun i => (ad i).2, ⟨fun i hi => (had i hi).1, fun i j hi hj e => ?_⟩, fun i hi => (had i hi).2⟩
  by_cases hij : i = j
  · exact hij
  · exfalso
    obtain ⟨-, -, a3, a4⟩ := (had i hi).1
    obtain ⟨-, -, b3, b4⟩ := (had j hj).1
    have e : (ad i).1 = (ad j).1 := e
    rw [e] at a3
    have e2 : (ad i).2 = (ad j).2 := Value.ref.inj (a3.one b3)
    rw [e2] at a4
    obtain ⟨g1, g2⟩ := a4.one b4
    rcases z_ne i hi j hj hij with h | ⟨k, k1, k2, h⟩
    · exact h g1
    · exact h (Value.int.inj (g2 k k1 k2))
theorem st_sx {args : Array Value} {s : State} (hts : ∀ w ∈ lw_tbl, w.before args s = true) (hs : ∀ c ∈ stF, c.before args s = true) : ∃ Z : gZ, SX s.heap.size Z s := by
  have hA : ∀ a : Nat, a < s.heap.size → ¬ (fun q => s.heap.size ≤ q) a := fun a h z => absurd h (Nat.not_lt.mpr z)
  obtain ⟨adK, adV, hK, hKe⟩ := st_str hs hA
  have one : ∀ i : Nat, ∃ q : Nat, i < 11 → (zs i).eval args s none [] s = some (.ref q) := by
    intro i
    by_cases hi : i < 11
    · obtain ⟨a, c, cA, kA, q1, -⟩ := Cond.exactly_spec (args := args) (first := s) (o := none) (s := s) (idx := []) (t := zs i) (cls := "PlaceOffice$Word") (hs _ (fm_wx i hi))
      exact ⟨a, fun _ => q1⟩
    · exact ⟨0, fun h => absurd h hi⟩
  obtain ⟨E, hE⟩ := Classical.axiomOfChoice one
  obtain ⟨w, hw, hT⟩ := va_Tof (f := fun j => .ref (E j)) (A := fun q => s.heap.size ≤ q) (N := 11) (by decide) (hs _ fm_wa) (va_eqt (hs _ fm_wl)) (fun j hj => va_eqv (hs _ (fm_we j hj)) (hE j hj)) hA
  refine ⟨(adK, adV, E, w), hK, fun q hq => ?_, va_Zof (hts _ tm_lc) (hts _ tm_i0.2.2.1) (va_eqt (hs _ fm_cs)) hA, va_Zqof (hts _ tm_lf) (hts _ tm_i0.2.2.2.1) (hs _ fm_sf) hA, fun i hi => ⟨va_Zof (hts _ (tm_ls i hi)) (hts _ tm_i0.1) (hE i hi) hA, vk_OFof (hE i hi) (va_eqv (hs _ (fm_tx i hi)) (va_eqR (hs _ (fm_eq i hi)) (hKe i hi))) hA⟩, fun i j hi hj e => ?_, va_Zof (hts _ tm_lw) (hts _ tm_i0.2.1) hw hA, hT⟩
  · obtain ⟨h1, h2, h3⟩ := tm_zk q hq
    refine vk_R.of (hts _ (tm_zr q hq)) ?_
    have h9 := hKe q.2.2 h2
    unfold zt at h9
    rw [← h3, ← h1] at h9
    exact h9
  · by_cases hij : i = j
    · exact hij
    · rcases fm_ne i hi j hj hij with h | h
      · exact absurd e (va_neR (hs _ h) (hE i hi) (hE j hj))
      · exact absurd e.symm (va_neR (hs _ h) (hE j hj) (hE i hi))
theorem st_sy {args : Array Value} {s : State} (hts : ∀ w ∈ lw_tbl, w.before args s = true) (hs : ∀ c ∈ stF, c.before args s = true) : SY s.heap.size s := by
  have hA : ∀ a : Nat, a < s.heap.size → ¬ (fun q => s.heap.size ≤ q) a := fun a h z => absurd h (Nat.not_lt.mpr z)
  have hd : ∀ w ∈ DW, w.onTables = true := by decide +kernel
  refine ⟨fun w hw => va_Nw.of (hd w hw) (hts _ (tm_dw w hw)), fun q hq => ?_, vx_Zqof (hts _ tm_lu) (hts _ tm_i0.2.2.2.2) (hs _ fm_us) hA, vx_Zqof (hts _ tm_lp) (hts _ tm_i0.2.2.2.2) (hs _ fm_su) hA, fun q hq => va_Nc.of (hs _ (fm_nc q hq))⟩
  obtain ⟨a, c, cA, kA, q1, -⟩ := Cond.exactly_spec (args := args) (first := s) (o := none) (s := s) (idx := []) (t := .string "PlaceOffice" q.1) (cls := "java/lang/String") (hs _ (fm_yx q hq))
  exact ⟨a, vk_R.of (hts _ (tm_yr q hq)) q1⟩
/-- what holds of the cells below, all along -/
def Fct (b : Nat) (Z : gZ) (U : State) : Prop := SX b Z U ∧ SY b U ∧ va_AO "PlaceOffice$Roll" U ∧ ∀ w ∈ NW, va_Nw w U
theorem NW_warm {u U : State} (hW : u.WarmedH U.vm) (h : ∀ w ∈ NW, va_Nw w u) : ∀ w ∈ NW, va_Nw w U := by
  intro w hw
  have h9 := h w hw
  simp only [NW, List.mem_cons, List.not_mem_nil, or_false] at hw
  rcases hw with rfl | rfl | rfl | rfl | rfl | rfl | rfl | rfl | rfl | rfl | rfl <;> exact va_Nw.warmM hW h9
theorem Fct_ok (D : va_G) (g : Nat → ClassId) (b : Nat) (Z : gZ) : GOK (D, g, b, Fct b Z) ∧ GS (D, g, b, Fct b Z) Z ∧ GY (D, g, b, Fct b Z) ∧ ∀ U : State, Fct b Z U → va_AO "PlaceOffice$Roll" U := by
  refine ⟨⟨fun u U hW hh hb h => ⟨h.1.kept hW hh, h.2.1.kept hW hh, va_AO.moved hW.alike h.2.2.1, NW_warm hW h.2.2.2⟩, fun U h => h.2.2.2⟩, fun U h => h.1, fun U h => h.2.1, fun U h => h.2.2.1⟩
