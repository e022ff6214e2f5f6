section E7
variable {B : Mem} {m : Nat} {g : Nat → Int32} {a : Nat → Nat → Int32} {v : Nat → Nat} {pl : Nat → Option Nat}
theorem e_holders (hw : a 1 = enc v pl) (hI : Inv v pl) {s : Nat} (hs : s < 8) : p_X7_holders m (nN s) (ovl B m g a) = some (nN (hldN v pl s)) := by
  have hb := hI.hb; have h1 := hI.h1
  have hpe : ∀ k, (oN (pl k) = nN s) = (pl k = some s) := fun k => oN_eq (hI.plb k) (by omega)
  unfold p_X7_holders
  have hFU : v 1 < FU := FU_pos (by omega)
  generalize FU = F at hFU ⊢
  refine loop_cnt (L := fun fu k x => pl_X7_holders_4 (fun z => some z) m (nN s) (ovl B m g a) fu (nN x) (nN k)) (P := fun k => pl k = some s) (fin := fun x => some (nN x)) (n := v 1) (fun fu k x hk hx => ?_) (fun fu x hx => ?_) F hFU
  · rw [pl_X7_holders_4]
    simp (disch := first | omega | (apply hb; omega)) only [oc, or_0, or_1, or_2, or_3, or_4, oi_5, oi_6, or_7, or_8, oi_9, or_10, or_11, oi_12, oi_13, oi_14, oi_15, oi_16, oi_17, oi_18, oi_19, oi_20, oi_21, or_22, or_23, or_24, oi_25, or_26, oi_27, od_1, od_2, od_3, od_4, od_5, od_6, od_7, od_8, od_9, od_10, od_11, od_12, od_13, bS, rd_nN, nN_lit, nN_add, nN_mul, hw, enc_v, enc_p, nN_le, nN_lt, nN_eq, jn_def, mI_lit, bI_0, bI_1, e_inRange, n01, n10, if_true, if_false, ite_not, nP_P, hpe]
    rw [if_neg (by omega)]
    rfl
  · rw [pl_X7_holders_4]
    simp (disch := first | omega | (apply hb; omega)) only [oc, or_0, or_1, or_2, or_3, or_4, oi_5, oi_6, or_7, or_8, oi_9, or_10, or_11, oi_12, oi_13, oi_14, oi_15, oi_16, oi_17, oi_18, oi_19, oi_20, oi_21, or_22, or_23, or_24, oi_25, or_26, oi_27, od_1, od_2, od_3, od_4, od_5, od_6, od_7, od_8, od_9, od_10, od_11, od_12, od_13, bS, rd_nN, nN_lit, nN_add, nN_mul, hw, enc_v, enc_p, nN_le, nN_lt, nN_eq, jn_def, mI_lit, bI_0, bI_1, e_inRange, n01, n10, if_true, if_false, ite_not, nP_P, hpe]
    rw [if_pos (by omega)]
theorem e_hasPupil (hw : a 1 = enc v pl) (hI : Inv v pl) {f s : Nat} (hf : f < 100) (hs : s < 8) : p_X7_hasPupil m (nN f) (nN s) (ovl B m g a) = some (bI (hasP v f s = true)) := by
  have hb := hI.hb; have h2 := hI.h2
  unfold p_X7_hasPupil
  have hFU : v 2 < FU := FU_pos (by omega)
  generalize FU = F at hFU ⊢
  refine loop_fnd (L := fun fu k => pl_X7_hasPupil_2 (fun _ => some 1) (fun _ => some 0) m (nN f) (nN s) (ovl B m g a) fu (nN k)) (P := fun k => v (724 + 2 * k) = f ∧ v (724 + 2 * k + 1) = s) (fin := fun o => some (bI (o.isSome = true))) (n := v 2) (fun fu k hk => ?_) (fun fu => ?_) (v 2) 0 F (by omega) hFU
  · rw [pl_X7_hasPupil_2]
    simp (disch := first | omega | (apply hb; omega)) only [oc, or_0, or_1, or_2, or_3, or_4, oi_5, oi_6, or_7, or_8, oi_9, or_10, or_11, oi_12, oi_13, oi_14, oi_15, oi_16, oi_17, oi_18, oi_19, oi_20, oi_21, or_22, or_23, or_24, oi_25, or_26, oi_27, od_1, od_2, od_3, od_4, od_5, od_6, od_7, od_8, od_9, od_10, od_11, od_12, od_13, bS, rd_nN, nN_lit, nN_add, nN_mul, hw, enc_v, enc_p, nN_le, nN_lt, nN_eq, jn_def, mI_lit, bI_0, bI_1, e_inRange, n01, n10, if_true, if_false, ite_not, nP_P]
    rw [if_neg (by omega)]
    by_cases c1 : v (724 + 2 * k) = f
    · by_cases c2 : v (724 + 2 * k + 1) = s
      · simp only [c1, c2, and_self, if_true]; rfl
      · simp only [c1, c2, and_false, if_true, if_false]
    · simp only [c1, false_and, if_false]
  · rw [pl_X7_hasPupil_2]
    simp (disch := first | omega | (apply hb; omega)) only [oc, or_0, or_1, or_2, or_3, or_4, oi_5, oi_6, or_7, or_8, oi_9, or_10, or_11, oi_12, oi_13, oi_14, oi_15, oi_16, oi_17, oi_18, oi_19, oi_20, oi_21, or_22, or_23, or_24, oi_25, or_26, oi_27, od_1, od_2, od_3, od_4, od_5, od_6, od_7, od_8, od_9, od_10, od_11, od_12, od_13, bS, rd_nN, nN_lit, nN_add, nN_mul, hw, enc_v, enc_p, nN_le, nN_lt, nN_eq, jn_def, mI_lit, bI_0, bI_1, e_inRange, n01, n10, if_true, if_false, ite_not, nP_P]
    rw [if_pos (by omega)]
    rfl
theorem e_wishOf (hw : a 1 = enc v pl) (hI : Inv v pl) {c s : Nat} (hc : c < v 1) (hs : s < 8) : p_X7_wishOf m (nN c) (nN s) (ovl B m g a) = some (oN (wisO v c s)) := by
  have hb := hI.hb; have h1 := hI.h1; have hch := hI.chi c (by omega)
  unfold p_X7_wishOf
  have hFU : v (324 + c) < FU := FU_pos (by omega)
  generalize FU = F at hFU ⊢
  refine loop_fnd (L := fun fu k => pl_X7_wishOf_2 (fun z => some z) (fun _ => some (-1)) m (nN c) (nN s) (ovl B m g a) fu (nN k)) (P := fun k => v (564 + 4 * c + k) = s) (fin := fun o => some (oN o)) (n := v (324 + c)) (fun fu k hk => ?_) (fun fu => ?_) (v (324 + c)) 0 F (by omega) hFU
  · rw [pl_X7_wishOf_2]
    simp (disch := first | omega | (apply hb; omega)) only [oc, or_0, or_1, or_2, or_3, or_4, oi_5, oi_6, or_7, or_8, oi_9, or_10, or_11, oi_12, oi_13, oi_14, oi_15, oi_16, oi_17, oi_18, oi_19, oi_20, oi_21, or_22, or_23, or_24, oi_25, or_26, oi_27, od_1, od_2, od_3, od_4, od_5, od_6, od_7, od_8, od_9, od_10, od_11, od_12, od_13, bS, rd_nN, nN_lit, nN_add, nN_mul, hw, enc_v, enc_p, nN_le, nN_lt, nN_eq, jn_def, mI_lit, bI_0, bI_1, e_inRange, n01, n10, if_true, if_false, ite_not, nP_P]
    rw [if_neg (by omega)]
    rfl
  · rw [pl_X7_wishOf_2]
    simp (disch := first | omega | (apply hb; omega)) only [oc, or_0, or_1, or_2, or_3, or_4, oi_5, oi_6, or_7, or_8, oi_9, or_10, or_11, oi_12, oi_13, oi_14, oi_15, oi_16, oi_17, oi_18, oi_19, oi_20, oi_21, or_22, or_23, or_24, oi_25, or_26, oi_27, od_1, od_2, od_3, od_4, od_5, od_6, od_7, od_8, od_9, od_10, od_11, od_12, od_13, bS, rd_nN, nN_lit, nN_add, nN_mul, hw, enc_v, enc_p, nN_le, nN_lt, nN_eq, jn_def, mI_lit, bI_0, bI_1, e_inRange, n01, n10, if_true, if_false, ite_not, nP_P]
    rw [if_pos (by omega)]
    rfl
theorem e_isInZone (hw : a 1 = enc v pl) (hI : Inv v pl) {c s : Nat} (hc : c < 40) (hs : s < 8) : p_X7_isInZone m (nN c) (nN s) (ovl B m g a) = some (bI (zonB v c s = true)) := by
  have hb := hI.hb
  unfold p_X7_isInZone zonB
  simp (disch := first | omega | (apply hb; omega)) only [oc, or_0, or_1, or_2, or_3, or_4, oi_5, oi_6, or_7, or_8, oi_9, or_10, or_11, oi_12, oi_13, oi_14, oi_15, oi_16, oi_17, oi_18, oi_19, oi_20, oi_21, or_22, or_23, or_24, oi_25, or_26, oi_27, od_1, od_2, od_3, od_4, od_5, od_6, od_7, od_8, od_9, od_10, od_11, od_12, od_13, bS, rd_nN, nN_lit, nN_add, nN_mul, hw, enc_v, enc_p, nN_le, nN_lt, nN_eq, jn_def, mI_lit, bI_0, bI_1, e_inRange, n01, n10, if_true, if_false, ite_not, nP_P]
  (simp only [bI, decide_eq_true_eq]; repeat' split) <;> first | rfl | (exfalso; omega) | (exfalso; simp_all; done) | (exfalso; simp_all; omega)
theorem e_far (hw : a 1 = enc v pl) (hI : Inv v pl) {c s : Nat} (hc : c < 40) (hs : s < 8) : p_X7_far m (nN c) (nN s) (ovl B m g a) = some (nN (farS v c s)) := by
  have hb := hI.hb
  have hch := hI.chi c hc; have hsc := hI.sch s hs
  have h1 := sq_le hch.1 hsc.2.1
  have h2 := sq_le hch.2.1 hsc.2.2.1
  unfold p_X7_far farS
  simp (disch := first | omega | (apply hb; omega)) only [oc, or_0, or_1, or_2, or_3, or_4, oi_5, oi_6, or_7, or_8, oi_9, or_10, or_11, oi_12, oi_13, oi_14, oi_15, oi_16, oi_17, oi_18, oi_19, oi_20, oi_21, or_22, or_23, or_24, oi_25, or_26, oi_27, od_1, od_2, od_3, od_4, od_5, od_6, od_7, od_8, od_9, od_10, od_11, od_12, od_13, bS, rd_nN, nN_lit, nN_add, nN_mul, hw, enc_v, enc_p, nN_le, nN_lt, nN_eq, jn_def, mI_lit, bI_0, bI_1, e_inRange, n01, n10, if_true, if_false, ite_not, nP_P, nN_sub, iI_mul, iI_add]
  rw [nN_iI]
  congr 2
  omega
theorem e_meetsRule (hw : a 1 = enc v pl) (hI : Inv v pl) {c s r : Nat} (hc : c < 40) (hs : s < 8) (hr : r < 2147483648) : p_X7_meetsRule m (nN c) (nN s) (nN r) (ovl B m g a) = some (bI (meeB v c s r = true)) := by
  have hb := hI.hb
  have hch := hI.chi c hc
  have h3 := e_hasPupil (B := B) (m := m) (g := g) hw hI (f := v (204 + c)) (s := s) (by omega) hs
  have h4 := e_isInZone (B := B) (m := m) (g := g) hw hI hc hs
  unfold p_X7_meetsRule meeB
  simp (disch := first | omega | (apply hb; omega)) only [oc, or_0, or_1, or_2, or_3, or_4, oi_5, oi_6, or_7, or_8, oi_9, or_10, or_11, oi_12, oi_13, oi_14, oi_15, oi_16, oi_17, oi_18, oi_19, oi_20, oi_21, or_22, or_23, or_24, oi_25, or_26, oi_27, od_1, od_2, od_3, od_4, od_5, od_6, od_7, od_8, od_9, od_10, od_11, od_12, od_13, bS, rd_nN, nN_lit, nN_add, nN_mul, hw, enc_v, enc_p, nN_le, nN_lt, nN_eq, jn_def, mI_lit, bI_0, bI_1, e_inRange, n01, n10, if_true, if_false, ite_not, nP_P, h3, h4, bI_01]
  by_cases c0 : r = 0
  · simp only [c0, if_true]
    (simp only [bI, decide_eq_true_eq]; repeat' split) <;> first | rfl | (exfalso; omega) | (exfalso; simp_all; done) | (exfalso; simp_all; omega)
  · simp only [c0, if_false]
    by_cases c1 : r = 1
    · simp only [c1, if_true]
      by_cases c2 : v (204 + c) = 0
      · simp [c2, bI]
      · by_cases c3 : hasP v (v (204 + c)) s = true
        · simp [c2, c3, bI]
        · simp [c2, c3, bI]
    · simp only [c1, if_false]
theorem e_classAt (hw : a 1 = enc v pl) (hI : Inv v pl) {c s : Nat} (hc : c < 40) (hs : s < 8) : p_X7_classAt m (nN c) (nN s) (ovl B m g a) = some (nN (clsS v c s)) := by
  have hb := hI.hb
  have hsc := hI.sch s hs
  unfold p_X7_classAt clsS
  simp only [jn_def]
  have hFU : v (44 + s) < FU := FU_pos (by omega)
  generalize FU = F at hFU ⊢
  refine loop_fnd (L := fun fu k => pl_X7_classAt_2 (fun z => some z) m (nN c) (nN s) (ovl B m g a) fu (nN k)) (P := fun k => meeB v c s (v (68 + 3 * s + k)) = true) (fin := fun o => some (nN (o.getD (v (44 + s))))) (n := v (44 + s)) (fun fu k hk => ?_) (fun fu => ?_) (v (44 + s)) 0 F (by omega) hFU
  · rw [pl_X7_classAt_2]
    have h4 := e_meetsRule (B := B) (m := m) (g := g) hw hI hc hs (r := v (68 + 3 * s + k)) (hb _ (by omega))
    simp (disch := first | omega | (apply hb; omega)) only [oc, or_0, or_1, or_2, or_3, or_4, oi_5, oi_6, or_7, or_8, oi_9, or_10, or_11, oi_12, oi_13, oi_14, oi_15, oi_16, oi_17, oi_18, oi_19, oi_20, oi_21, or_22, or_23, or_24, oi_25, or_26, oi_27, od_1, od_2, od_3, od_4, od_5, od_6, od_7, od_8, od_9, od_10, od_11, od_12, od_13, bS, rd_nN, nN_lit, nN_add, nN_mul, hw, enc_v, enc_p, nN_le, nN_lt, nN_eq, jn_def, mI_lit, bI_0, bI_1, e_inRange, n01, n10, if_true, if_false, ite_not, nP_P, h4]
    rw [if_neg (by omega)]
    rfl
  · rw [pl_X7_classAt_2]
    simp (disch := first | omega | (apply hb; omega)) only [oc, or_0, or_1, or_2, or_3, or_4, oi_5, oi_6, or_7, or_8, oi_9, or_10, or_11, oi_12, oi_13, oi_14, oi_15, oi_16, oi_17, oi_18, oi_19, oi_20, oi_21, or_22, or_23, or_24, oi_25, or_26, oi_27, od_1, od_2, od_3, od_4, od_5, od_6, od_7, od_8, od_9, od_10, od_11, od_12, od_13, bS, rd_nN, nN_lit, nN_add, nN_mul, hw, enc_v, enc_p, nN_le, nN_lt, nN_eq, jn_def, mI_lit, bI_0, bI_1, e_inRange, n01, n10, if_true, if_false, ite_not, nP_P]
    rw [if_pos (by omega)]
    rfl
theorem e_isAhead (hw : a 1 = enc v pl) (hI : Inv v pl) {c d s : Nat} (hc : c < 40) (hd : d < 40) (hs : s < 8) : p_X7_isAhead m (nN s) (nN c) (nN d) (ovl B m g a) = some (bI (stS v s c < stS v s d)) := by
  have hb := hI.hb
  have h7 := hI.h7
  have hch := hI.chi c hc; have hdh := hI.chi d hd
  have e1 := e_classAt (B := B) (m := m) (g := g) hw hI hc hs
  have e2 := e_classAt (B := B) (m := m) (g := g) hw hI hd hs
  have e3 := e_far (B := B) (m := m) (g := g) hw hI hc hs
  have e4 := e_far (B := B) (m := m) (g := g) hw hI hd hs
  have b1 := cls_le hI (c := c) hs; have b2 := cls_le hI (c := d) hs
  have b3 := far_le hI hc hs; have b4 := far_le hI hd hs
  unfold p_X7_isAhead stS latS
  simp (disch := first | omega | (apply hb; omega)) only [oc, or_0, or_1, or_2, or_3, or_4, oi_5, oi_6, or_7, or_8, oi_9, or_10, or_11, oi_12, oi_13, oi_14, oi_15, oi_16, oi_17, oi_18, oi_19, oi_20, oi_21, or_22, or_23, or_24, oi_25, or_26, oi_27, od_1, od_2, od_3, od_4, od_5, od_6, od_7, od_8, od_9, od_10, od_11, od_12, od_13, bS, rd_nN, nN_lit, nN_add, nN_mul, hw, enc_v, enc_p, nN_le, nN_lt, nN_eq, jn_def, mI_lit, bI_0, bI_1, e_inRange, n01, n10, if_true, if_false, ite_not, nP_P, e1, e2, e3, e4]
  generalize clsS v c s = k1 at *
  generalize clsS v d s = k2 at *
  generalize farS v c s = f1 at *
  generalize farS v d s = f2 at *
  by_cases c0 : v 7 = 1
  · simp only [c0, true_and, if_true]
    (repeat' split) <;> (unfold bI; split) <;> first | rfl | (exfalso; omega)
  · simp only [c0, false_and, if_false]
    (repeat' split) <;> (unfold bI; split) <;> first | rfl | (exfalso; omega)
theorem e_isHere (hw : a 1 = enc v pl) (hI : Inv v pl) {c : Nat} (hc : c < 40) : p_X7_isHere m (nN c) (ovl B m g a) = some (bI (v (404 + c) = 0)) := by
  have hb := hI.hb
  unfold p_X7_isHere
  simp (disch := first | omega | (apply hb; omega)) only [oc, or_0, or_1, or_2, or_3, or_4, oi_5, oi_6, or_7, or_8, oi_9, or_10, or_11, oi_12, oi_13, oi_14, oi_15, oi_16, oi_17, oi_18, oi_19, oi_20, oi_21, or_22, or_23, or_24, oi_25, or_26, oi_27, od_1, od_2, od_3, od_4, od_5, od_6, od_7, od_8, od_9, od_10, od_11, od_12, od_13, bS, rd_nN, nN_lit, nN_add, nN_mul, hw, enc_v, enc_p, nN_le, nN_lt, nN_eq, jn_def, mI_lit, bI_0, bI_1, e_inRange, n01, n10, if_true, if_false, ite_not, nP_P]
  (simp only [bI, decide_eq_true_eq]; repeat' split) <;> first | rfl | (exfalso; omega) | (exfalso; simp_all; done) | (exfalso; simp_all; omega)
theorem e_gotOf (hw : a 1 = enc v pl) (hI : Inv v pl) {c : Nat} (hc : c < v 1) : p_X7_gotOf m (nN c) (ovl B m g a) = some (oN (gotO v pl c)) := by
  have hb := hI.hb; have h1 := hI.h1; have h0 := hI.h0
  have hp := oN_mI (hI.plb c)
  unfold p_X7_gotOf gotO
  simp (disch := first | omega | (apply hb; omega)) only [oc, or_0, or_1, or_2, or_3, or_4, oi_5, oi_6, or_7, or_8, oi_9, or_10, or_11, oi_12, oi_13, oi_14, oi_15, oi_16, oi_17, oi_18, oi_19, oi_20, oi_21, or_22, or_23, or_24, oi_25, or_26, oi_27, od_1, od_2, od_3, od_4, od_5, od_6, od_7, od_8, od_9, od_10, od_11, od_12, od_13, bS, rd_nN, nN_lit, nN_add, nN_mul, hw, enc_v, enc_p, nN_le, nN_lt, nN_eq, jn_def, mI_lit, bI_0, bI_1, e_inRange, n01, n10, if_true, if_false, ite_not, nP_P, hp]
  cases h : pl c with
  | none => rfl
  | some s =>
    have h8 := hI.pl8 c s h
    have e1 := e_wishOf (B := B) (m := m) (g := g) hw hI hc (s := s) (by omega)
    simp only [reduceCtorEq, if_false]
    show Option.bind (p_X7_wishOf m (nN c) (nN s) (ovl B m g a)) _ = _
    rw [e1]
    rfl
theorem e_waits (hw : a 1 = enc v pl) (hI : Inv v pl) {c s : Nat} (hc : c < v 1) (hs : s < 8) : p_X7_waits m (nN c) (nN s) (ovl B m g a) = some (bI (waiB v pl c s = true)) := by
  have hb := hI.hb; have h1 := hI.h1; have h8 := hI.h8
  have hp := oN_mI (hI.plb c)
  have hch := hI.chi c (by omega)
  have e1 := e_wishOf (B := B) (m := m) (g := g) hw hI hc hs
  have e2 := e_gotOf (B := B) (m := m) (g := g) hw hI hc
  have e3 := e_isHere (B := B) (m := m) (g := g) hw hI (c := c) (by omega)
  have hg := got_pl hI (c := c)
  unfold p_X7_waits
  simp (disch := first | omega | (apply hb; omega)) only [oc, or_0, or_1, or_2, or_3, or_4, oi_5, oi_6, or_7, or_8, oi_9, or_10, or_11, oi_12, oi_13, oi_14, oi_15, oi_16, oi_17, oi_18, oi_19, oi_20, oi_21, or_22, or_23, or_24, oi_25, or_26, oi_27, od_1, od_2, od_3, od_4, od_5, od_6, od_7, od_8, od_9, od_10, od_11, od_12, od_13, bS, rd_nN, nN_lit, nN_add, nN_mul, hw, enc_v, enc_p, nN_le, nN_lt, nN_eq, jn_def, mI_lit, bI_0, bI_1, e_inRange, n01, n10, if_true, if_false, ite_not, nP_P, hp, e1, e2, e3]
  unfold waiB prfB
  by_cases c1 : v 8 = 0
  · rw [if_pos c1, ← bI_f (by simp [c1])]
  · rw [if_neg c1]
    have c1 : v 8 = 1 := by omega
    by_cases c2 : v (404 + c) = 0
    · simp only [c2, if_true, c1, decide_true, Bool.true_and]
      cases hwi : wisO v c s with
      | none =>
        show (if mI = mI then _ else _) = _
        rw [if_pos rfl]; rfl
      | some i =>
        have hi4 := wis_4 hI (by omega) hwi
        rw [if_neg (by show ¬ nN i = mI; rw [nN_mI (by omega)]; exact id)]
        cases hgo : gotO v pl c with
        | none =>
          rw [if_pos (hg.mp hgo)]
          rfl
        | some j =>
          have hne : ¬ pl c = none := fun h => by rw [hg.mpr h] at hgo; cases hgo
          rw [if_neg hne]
          have hj4 : j < 4 := by
            unfold gotO at hgo
            cases hpc : pl c with
            | none => exact absurd hpc hne
            | some t => rw [hpc] at hgo; exact wis_4 hI (by omega) hgo
          show (if nN j ≤ nN i then some (nN 0) else some (nN 1)) = some (bI (decide (i < j) = true))
          simp (disch := omega) only [nN_le]
          (simp only [bI, decide_eq_true_eq]; repeat' split) <;> first | rfl | (exfalso; omega) | (exfalso; simp_all; done) | (exfalso; simp_all; omega)
    · simp only [c2, if_false]
      rw [← bI_f (by simp)]
theorem e_waitingMany (hw : a 1 = enc v pl) (hI : Inv v pl) {s : Nat} (hs : s < 8) : p_X7_waitingMany m (nN s) (ovl B m g a) = some (nN (wtgN v pl s)) := by
  have hb := hI.hb; have h1 := hI.h1
  unfold p_X7_waitingMany
  have hFU : v 1 < FU := FU_pos (by omega)
  generalize FU = F at hFU ⊢
  refine loop_cnt (L := fun fu k x => pl_X7_waitingMany_4 (fun z => some z) m (nN s) (ovl B m g a) fu (nN x) (nN k)) (P := fun k => waiB v pl k s = true) (fin := fun x => some (nN x)) (n := v 1) (fun fu k x hk hx => ?_) (fun fu x hx => ?_) F hFU
  · rw [pl_X7_waitingMany_4]
    have e1 := e_waits (B := B) (m := m) (g := g) hw hI hk hs
    simp (disch := first | omega | (apply hb; omega)) only [oc, or_0, or_1, or_2, or_3, or_4, oi_5, oi_6, or_7, or_8, oi_9, or_10, or_11, oi_12, oi_13, oi_14, oi_15, oi_16, oi_17, oi_18, oi_19, oi_20, oi_21, or_22, or_23, or_24, oi_25, or_26, oi_27, od_1, od_2, od_3, od_4, od_5, od_6, od_7, od_8, od_9, od_10, od_11, od_12, od_13, bS, rd_nN, nN_lit, nN_add, nN_mul, hw, enc_v, enc_p, nN_le, nN_lt, nN_eq, jn_def, mI_lit, bI_0, bI_1, e_inRange, n01, n10, if_true, if_false, ite_not, nP_P, e1]
    rw [if_neg (by omega)]
    rfl
  · rw [pl_X7_waitingMany_4]
    simp (disch := first | omega | (apply hb; omega)) only [oc, or_0, or_1, or_2, or_3, or_4, oi_5, oi_6, or_7, or_8, oi_9, or_10, or_11, oi_12, oi_13, oi_14, oi_15, oi_16, oi_17, oi_18, oi_19, oi_20, oi_21, or_22, or_23, or_24, oi_25, or_26, oi_27, od_1, od_2, od_3, od_4, od_5, od_6, od_7, od_8, od_9, od_10, od_11, od_12, od_13, bS, rd_nN, nN_lit, nN_add, nN_mul, hw, enc_v, enc_p, nN_le, nN_lt, nN_eq, jn_def, mI_lit, bI_0, bI_1, e_inRange, n01, n10, if_true, if_false, ite_not, nP_P]
    rw [if_pos (by omega)]
theorem e_isOf (hw : a 1 = enc v pl) (hI : Inv v pl) {c s W : Nat} (hc : c < v 1) (hs : s < 8) (hW : W < 2) : p_X7_isOf m (nN c) (nN s) (nN W) (ovl B m g a) = some (bI (isoB v pl W c s = true)) := by
  have hb := hI.hb; have h1 := hI.h1
  have hpe : (oN (pl c) = nN s) = (pl c = some s) := oN_eq (hI.plb c) (by omega)
  have e1 := e_waits (B := B) (m := m) (g := g) hw hI hc hs
  unfold p_X7_isOf isoB
  simp (disch := first | omega | (apply hb; omega)) only [oc, or_0, or_1, or_2, or_3, or_4, oi_5, oi_6, or_7, or_8, oi_9, or_10, or_11, oi_12, oi_13, oi_14, oi_15, oi_16, oi_17, oi_18, oi_19, oi_20, oi_21, or_22, or_23, or_24, oi_25, or_26, oi_27, od_1, od_2, od_3, od_4, od_5, od_6, od_7, od_8, od_9, od_10, od_11, od_12, od_13, bS, rd_nN, nN_lit, nN_add, nN_mul, hw, enc_v, enc_p, nN_le, nN_lt, nN_eq, jn_def, mI_lit, bI_0, bI_1, e_inRange, n01, n10, if_true, if_false, ite_not, nP_P, hpe, e1]
  by_cases c1 : W = 0
  · simp only [c1, if_true]
    (simp only [bI, decide_eq_true_eq]; repeat' split) <;> first | rfl | (exfalso; omega) | (exfalso; simp_all; done) | (exfalso; simp_all; omega)
  · simp only [c1, if_false]
theorem e_aheadOf (hw : a 1 = enc v pl) (hI : Inv v pl) {c s W : Nat} (hc : c < v 1) (hs : s < 8) (hW : W < 2) : p_X7_aheadOf m (nN c) (nN s) (nN W) (ovl B m g a) = some (nN (ahdN v pl c s W)) := by
  have hb := hI.hb; have h1 := hI.h1
  unfold p_X7_aheadOf
  have hFU : v 1 < FU := FU_pos (by omega)
  generalize FU = F at hFU ⊢
  refine loop_cnt (L := fun fu k x => pl_X7_aheadOf_6 (fun z => some z) m (nN c) (nN s) (nN W) (ovl B m g a) fu (nN x) (nN k)) (P := fun k => isoB v pl W k s = true ∧ stS v s k < stS v s c) (fin := fun x => some (nN x)) (n := v 1) (fun fu k x hk hx => ?_) (fun fu x hx => ?_) F hFU
  · rw [pl_X7_aheadOf_6]
    have e1 := e_isOf (B := B) (m := m) (g := g) hw hI hk hs hW
    have e2 := e_isAhead (B := B) (m := m) (g := g) hw hI (c := k) (d := c) (s := s) (by omega) (by omega) hs
    simp (disch := first | omega | (apply hb; omega)) only [oc, or_0, or_1, or_2, or_3, or_4, oi_5, oi_6, or_7, or_8, oi_9, or_10, or_11, oi_12, oi_13, oi_14, oi_15, oi_16, oi_17, oi_18, oi_19, oi_20, oi_21, or_22, or_23, or_24, oi_25, or_26, oi_27, od_1, od_2, od_3, od_4, od_5, od_6, od_7, od_8, od_9, od_10, od_11, od_12, od_13, bS, rd_nN, nN_lit, nN_add, nN_mul, hw, enc_v, enc_p, nN_le, nN_lt, nN_eq, jn_def, mI_lit, bI_0, bI_1, e_inRange, n01, n10, if_true, if_false, ite_not, nP_P, e1, e2]
    rw [if_neg (by omega)]
    by_cases c1 : k = c
    · subst c1
      rw [if_pos rfl, if_neg (fun h => absurd h.2 (Nat.lt_irrefl _))]; rfl
    · rw [if_neg c1]
      by_cases c2 : isoB v pl W k s = true
      · by_cases c3 : stS v s k < stS v s c
        · simp only [c2, c3, and_self, if_true]
        · simp only [c2, c3, and_false, if_true, if_false]; rfl
      · simp only [c2, false_and, if_false]; rfl
  · rw [pl_X7_aheadOf_6]
    simp (disch := first | omega | (apply hb; omega)) only [oc, or_0, or_1, or_2, or_3, or_4, oi_5, oi_6, or_7, or_8, oi_9, or_10, or_11, oi_12, oi_13, oi_14, oi_15, oi_16, oi_17, oi_18, oi_19, oi_20, oi_21, or_22, or_23, or_24, oi_25, or_26, oi_27, od_1, od_2, od_3, od_4, od_5, od_6, od_7, od_8, od_9, od_10, od_11, od_12, od_13, bS, rd_nN, nN_lit, nN_add, nN_mul, hw, enc_v, enc_p, nN_le, nN_lt, nN_eq, jn_def, mI_lit, bI_0, bI_1, e_inRange, n01, n10, if_true, if_false, ite_not, nP_P]
    rw [if_pos (by omega)]
theorem e_standsAt (hw : a 1 = enc v pl) (hI : Inv v pl) {s i W : Nat} (hs : s < 8) (hi : i < 100) (hW : W < 2) : p_X7_standsAt m (nN s) (nN i) (nN W) (ovl B m g a) = some (oN (staO v pl s i W)) := by
  have hb := hI.hb; have h1 := hI.h1
  unfold p_X7_standsAt
  have hFU : v 1 < FU := FU_pos (by omega)
  generalize FU = F at hFU ⊢
  refine loop_fnd (L := fun fu k => pl_X7_standsAt_3 (fun z => some z) (fun _ => some (-1)) m (nN s) (nN i) (nN W) (ovl B m g a) fu (nN k)) (P := fun k => isoB v pl W k s = true ∧ ahdN v pl k s W = i) (fin := fun o => some (oN o)) (n := v 1) (fun fu k hk => ?_) (fun fu => ?_) (v 1) 0 F (by omega) hFU
  · rw [pl_X7_standsAt_3]
    have e1 := e_isOf (B := B) (m := m) (g := g) hw hI hk hs hW
    have e2 := e_aheadOf (B := B) (m := m) (g := g) hw hI hk hs hW
    have e3 : ahdN v pl k s W ≤ v 1 := cnt_le _ _
    simp (disch := first | omega | (apply hb; omega)) only [oc, or_0, or_1, or_2, or_3, or_4, oi_5, oi_6, or_7, or_8, oi_9, or_10, or_11, oi_12, oi_13, oi_14, oi_15, oi_16, oi_17, oi_18, oi_19, oi_20, oi_21, or_22, or_23, or_24, oi_25, or_26, oi_27, od_1, od_2, od_3, od_4, od_5, od_6, od_7, od_8, od_9, od_10, od_11, od_12, od_13, bS, rd_nN, nN_lit, nN_add, nN_mul, hw, enc_v, enc_p, nN_le, nN_lt, nN_eq, jn_def, mI_lit, bI_0, bI_1, e_inRange, n01, n10, if_true, if_false, ite_not, nP_P, e1, e2]
    rw [if_neg (by omega)]
    by_cases c2 : isoB v pl W k s = true
    · by_cases c3 : ahdN v pl k s W = i
      · simp only [c2, c3, and_self, if_true]; rfl
      · simp only [c2, c3, and_false, if_true, if_false]
    · simp only [c2, false_and, if_false]; rfl
  · rw [pl_X7_standsAt_3]
    simp (disch := first | omega | (apply hb; omega)) only [oc, or_0, or_1, or_2, or_3, or_4, oi_5, oi_6, or_7, or_8, oi_9, or_10, or_11, oi_12, oi_13, oi_14, oi_15, oi_16, oi_17, oi_18, oi_19, oi_20, oi_21, or_22, or_23, or_24, oi_25, or_26, oi_27, od_1, od_2, od_3, od_4, od_5, od_6, od_7, od_8, od_9, od_10, od_11, od_12, od_13, bS, rd_nN, nN_lit, nN_add, nN_mul, hw, enc_v, enc_p, nN_le, nN_lt, nN_eq, jn_def, mI_lit, bI_0, bI_1, e_inRange, n01, n10, if_true, if_false, ite_not, nP_P]
    rw [if_pos (by omega)]
    rfl
theorem e_fillable (hw : a 1 = enc v pl) (hI : Inv v pl) : p_X7_fillable m (ovl B m g a) = some (oN (filO v pl)) := by
  have hb := hI.hb; have h1 := hI.h1; have h0 := hI.h0
  unfold p_X7_fillable
  have hFU : v 0 < FU := FU_pos (by omega)
  generalize FU = F at hFU ⊢
  refine loop_fnd (L := fun fu k => pl_X7_fillable_2 (fun z => some z) (fun _ => some (-1)) m (ovl B m g a) fu (nN k)) (P := fun k => hldN v pl k < v (20 + k) ∧ 0 < wtgN v pl k) (fin := fun o => some (oN o)) (n := v 0) (fun fu k hk => ?_) (fun fu => ?_) (v 0) 0 F (by omega) hFU
  · rw [pl_X7_fillable_2]
    have e1 := e_holders (B := B) (m := m) (g := g) hw hI (s := k) (by omega)
    have e2 := e_waitingMany (B := B) (m := m) (g := g) hw hI (s := k) (by omega)
    have e3 : hldN v pl k ≤ v 1 := cnt_le _ _
    have e4 : wtgN v pl k ≤ v 1 := cnt_le _ _
    simp (disch := first | omega | (apply hb; omega)) only [oc, or_0, or_1, or_2, or_3, or_4, oi_5, oi_6, or_7, or_8, oi_9, or_10, or_11, oi_12, oi_13, oi_14, oi_15, oi_16, oi_17, oi_18, oi_19, oi_20, oi_21, or_22, or_23, or_24, oi_25, or_26, oi_27, od_1, od_2, od_3, od_4, od_5, od_6, od_7, od_8, od_9, od_10, od_11, od_12, od_13, bS, rd_nN, nN_lit, nN_add, nN_mul, hw, enc_v, enc_p, nN_le, nN_lt, nN_eq, jn_def, mI_lit, bI_0, bI_1, e_inRange, n01, n10, if_true, if_false, ite_not, nP_P, e1, e2]
    rw [if_neg (by omega)]
    by_cases c2 : hldN v pl k < v (20 + k)
    · rw [if_neg (by omega)]
      by_cases c3 : 0 < wtgN v pl k
      · rw [if_neg (by omega), if_pos ⟨c2, c3⟩]; rfl
      · rw [if_pos (by omega), if_neg (fun h => c3 h.2)]
    · rw [if_pos (by omega), if_neg (fun h => c2 h.1)]
  · rw [pl_X7_fillable_2]
    simp (disch := first | omega | (apply hb; omega)) only [oc, or_0, or_1, or_2, or_3, or_4, oi_5, oi_6, or_7, or_8, oi_9, or_10, or_11, oi_12, oi_13, oi_14, oi_15, oi_16, oi_17, oi_18, oi_19, oi_20, oi_21, or_22, or_23, or_24, oi_25, or_26, oi_27, od_1, od_2, od_3, od_4, od_5, od_6, od_7, od_8, od_9, od_10, od_11, od_12, od_13, bS, rd_nN, nN_lit, nN_add, nN_mul, hw, enc_v, enc_p, nN_le, nN_lt, nN_eq, jn_def, mI_lit, bI_0, bI_1, e_inRange, n01, n10, if_true, if_false, ite_not, nP_P]
    rw [if_pos (by omega)]
    rfl
theorem e_lastOf (hw : a 1 = enc v pl) (hI : Inv v pl) {s : Nat} (hs : s < 8) : p_X7_lastOf m (nN s) (ovl B m g a) = some (oN (lstO v pl s)) := by
  have hb := hI.hb; have h1 := hI.h1
  have hpe : ∀ k, (oN (pl k) = nN s) = (pl k = some s) := fun k => oN_eq (hI.plb k) (by omega)
  have key : ∀ d k fu, k + d = v 1 → d < fu → pl_X7_lastOf_4 (fun z => some z) m (nN s) (ovl B m g a) fu (oN (mxO (fun k => pl k = some s) (stS v s) k)) (nN k) = some (oN (mxO (fun k => pl k = some s) (stS v s) (v 1))) := by
    intro d
    induction d with
    | zero =>
      intro k fu hk hf
      obtain ⟨f, rfl⟩ : ∃ f, fu = f + 1 := ⟨fu - 1, by omega⟩
      rw [pl_X7_lastOf_4]
      simp (disch := first | omega | (apply hb; omega)) only [oc, or_0, or_1, or_2, or_3, or_4, oi_5, oi_6, or_7, or_8, oi_9, or_10, or_11, oi_12, oi_13, oi_14, oi_15, oi_16, oi_17, oi_18, oi_19, oi_20, oi_21, or_22, or_23, or_24, oi_25, or_26, oi_27, od_1, od_2, od_3, od_4, od_5, od_6, od_7, od_8, od_9, od_10, od_11, od_12, od_13, bS, rd_nN, nN_lit, nN_add, nN_mul, hw, enc_v, enc_p, nN_le, nN_lt, nN_eq, jn_def, mI_lit, bI_0, bI_1, e_inRange, n01, n10, if_true, if_false, ite_not, nP_P]
      rw [if_pos (by omega), show k = v 1 by omega]
    | succ d ih =>
      intro k fu hk hf
      obtain ⟨f, rfl⟩ : ∃ f, fu = f + 1 := ⟨fu - 1, by omega⟩
      have ih := ih (k + 1) f (by omega) (by omega)
      rw [pl_X7_lastOf_4]
      simp (disch := first | omega | (apply hb; omega)) only [oc, or_0, or_1, or_2, or_3, or_4, oi_5, oi_6, or_7, or_8, oi_9, or_10, or_11, oi_12, oi_13, oi_14, oi_15, oi_16, oi_17, oi_18, oi_19, oi_20, oi_21, or_22, or_23, or_24, oi_25, or_26, oi_27, od_1, od_2, od_3, od_4, od_5, od_6, od_7, od_8, od_9, od_10, od_11, od_12, od_13, bS, rd_nN, nN_lit, nN_add, nN_mul, hw, enc_v, enc_p, nN_le, nN_lt, nN_eq, jn_def, mI_lit, bI_0, bI_1, e_inRange, n01, n10, if_true, if_false, ite_not, nP_P, hpe]
      rw [if_neg (by omega), ← ih]
      show _ = pl_X7_lastOf_4 _ _ _ _ _ (oN (if _ then _ else _)) _
      by_cases c1 : pl k = some s
      · rw [if_pos c1]
        cases hl : mxO (fun k => pl k = some s) (stS v s) k with
        | none =>
          show (if mI = mI then _ else _) = _
          rw [if_pos rfl, if_pos ⟨c1, rfl⟩]; rfl
        | some l =>
          have hlk := mxO_lt hl
          rw [if_neg (by show ¬ nN l = mI; rw [nN_mI (by omega)]; exact id)]
          have e2 := e_isAhead (B := B) (m := m) (g := g) hw hI (c := l) (d := k) (s := s) (by omega) (by omega) hs
          show Option.bind (p_X7_isAhead m (nN s) (nN l) (nN k) (ovl B m g a)) _ = _
          rw [e2]
          by_cases c3 : stS v s l < stS v s k
          · rw [if_pos ⟨c1, by simp [c3]⟩, ← bI_t c3]; rfl
          · rw [if_neg (fun h => by simp [c3] at h), ← bI_f c3]; rfl
      · rw [if_neg c1, if_neg (fun h => c1 h.1)]
  exact key (v 1) 0 FU (by omega) (FU_pos (by omega))
end E7
