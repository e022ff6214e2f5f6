theorem b01 {x : Nat} (hx : x ≤ 1) : (if bI (x = 1) = 0 then (some (.inl (0 : Int32)) : Option (Int32 ⊕ String)) else some (.inl (1 : Int32))) = some (.inl (nN x)) := by
  rcases Nat.lt_or_ge x 1 with c | c
  · rw [show x = 0 by omega]; rfl
  · rw [show x = 1 by omega]; rfl
theorem bIf {P : Prop} [Decidable P] : (if bI P = 0 then (some (.inl (0 : Int32)) : Option (Int32 ⊕ String)) else some (.inl (1 : Int32))) = some (.inl (bI P)) := by
  by_cases c : P
  · rw [← bI_t c]; rfl
  · rw [← bI_f c]; rfl
theorem bIr {P : Prop} [Decidable P] {M : Mem} : (if bI P = 0 then some ((0 : Int32), M) else some ((1 : Int32), M)) = some (bI P, M) := by
  by_cases c : P
  · rw [← bI_t c]; rfl
  · rw [← bI_f c]; rfl
theorem bI01 {P : Prop} [Decidable P] : (bI P = 0 ∨ bI P = 1) := by
  by_cases c : P
  · rw [← bI_t c]; exact Or.inr rfl
  · rw [← bI_f c]; exact Or.inl rfl
theorem out_i {x : Int32} {n : Nat} (hn : n < 2147483647) (h : x < 0 ∨ nN (n + 1) ≤ x) : Int32.toInt x < 0 ∨ (n : Int) < Int32.toInt x := by
  rcases h with h | h
  · left; rw [i_lt] at h; exact h
  · right; rw [i_le, nN_toInt (by omega)] at h; omega
theorem or_neg {n : Nat} (hn : n < 2147483648) : oN (some n) = nN n := rfl
section QD
variable {B : Mem} {r b t tb : Nat} {g : Nat → Int32} {h : Nat → Int64} {ar : Nat → Nat → Int32} {u : Nat → Int32} {ta : Nat → Nat → Int32} {v : Nat → Nat} {pl : Nat → Option Nat} {cd : Nat → Nat}
variable {z m : Nat}
theorem ord_none {P : Nat → Prop} [DecidablePred P] {key : Nat → Nat} {n : Nat} (hn : n ≤ 40) (i : Int32) (ho : i < 0 ∨ nN (cnt P n) ≤ i) : fnd (fun k => P k ∧ nN (cnt (fun l => P l ∧ key l < key k) n) = i) 0 n = none := by
  refine fnd_no (fun k hk h => ?_)
  have lt := rnk_lt (key := key) hk h.1
  have le := cnt_le P n
  have e : i = nN (rnk P key n k) := h.2.symm
  rcases ho with ho | ho
  · rw [e] at ho; exact nN_neg0 (by omega) ho
  · rw [e, i_le, nN_toInt (by omega), nN_toInt (by omega)] at ho; omega
theorem ord_some {P : Nat → Prop} [DecidablePred P] {key : Nat → Nat} {n j : Nat} (hn : n ≤ 40) (hk : ∀ i j, i < n → j < n → key i = key j → i = j) (hj : j < cnt P n) : fnd (fun k => P k ∧ nN (cnt (fun l => P l ∧ key l < key k) n) = nN j) 0 n = fnd (fun k => P k ∧ cnt (fun l => P l ∧ key l < key k) n = j) 0 n ∧ ∃ k, k < n ∧ fnd (fun k => P k ∧ cnt (fun l => P l ∧ key l < key k) n = j) 0 n = some k := by
  have le := cnt_le P n
  constructor
  · refine fnd_c (fun k h1 h2 => ?_)
    have l2 := cnt_le (fun l => P l ∧ key l < key k) n
    rw [nN_eq (by omega) (by omega)]
  · obtain ⟨k, h1, h2, h3⟩ := rnk_ex hk hj
    cases e : fnd (fun k => P k ∧ cnt (fun l => P l ∧ key l < key k) n = j) 0 n with
    | none => exact absurd ⟨h2, h3⟩ (fnd_none e k (by omega) (by omega))
    | some q => have := fnd_some e; exact ⟨q, by omega, rfl⟩
theorem b_child (B : Mem) (hG : GE r b t tb) (hR : RG g h ar v pl) (hT : TG u ta v cd) (hI : Inv v pl) (hX : isC 5 (ofc B r b t tb g h ar u ta) z = some ()) (hr : gR 5 3 (ofc B r b t tb g h ar u ta) z = some r) (x0 x1 : Int32) : BQ m v pl "java/lang/IllegalArgumentException" (fun x y => x = y) (p_X6_child z x0 x1 (ofc B r b t tb g h ar u ta)) (fun M => p_X7_child m x0 x1 M) := by
  have hb := hI.hb; have h0 := hI.h0; have h1 := hI.h1; have h2 := hI.h2; have h7 := hI.h7; have h8 := hI.h8
  rcases ixN x0 (n := v 1) (by omega) with ho | ho | ⟨c0, hc0, rfl⟩
  · refine Or.inr (Or.inl ⟨?_, fun B g a => ?_⟩)
    · unfold p_X6_child; simp only [hX, bS, n_ch_o B hG hR hT hI hr (Or.inl ho), obx_r]
    · refine ⟨0, ?_⟩; show p_X7_child m _ x1 _ = _; unfold p_X7_child
      rw [oc, bS, e_nc_o hI (Or.inl ho), ob2_def, if_neg (by decide)]
  · refine Or.inr (Or.inl ⟨?_, fun B g a => ?_⟩)
    · unfold p_X6_child; simp only [hX, bS, n_ch_o B hG hR hT hI hr (Or.inr ho), obx_r]
    · refine ⟨0, ?_⟩; show p_X7_child m _ x1 _ = _; unfold p_X7_child
      rw [oc, bS, e_nc_o hI (Or.inr ho), ob2_def, if_neg (by decide)]
  rcases ixN x1 (n := 9) (by omega) with ho | ho | ⟨w, hw, rfl⟩
  · refine Or.inr (Or.inr ⟨?_, fun B' g' a' => ⟨0, ?_⟩⟩)
    · unfold p_X6_child; simp only [hX, bS, n_ch B hG hR hT hI hr hc0, obx_l, hX, bS]; rw [if_pos (show Int32.toInt x1 < 0 ∨ 8 < Int32.toInt x1 from out_i (n := 8) (by omega) (Or.inl ho))]
    · show p_X7_child m (nN c0) x1 _ = _
      unfold p_X7_child
      rw [oc, bS, e_nc hI hc0, ob2_def, if_pos (by rfl)]
      show Option.bind (p_X7_inRange x1 (nN 0) (nN 8) _) _ = _
      rw [rng_out2 (by omega) (Or.inl ho), bS, jn_def, if_pos (by rfl)]
      simp only [oc, bS]
      show ob2 (p_X7_fails m (nN 1) _ _) _ = _
      rw [fa_1, ob2_def, if_neg (by decide), upd_2]
      rfl
  · refine Or.inr (Or.inr ⟨?_, fun B' g' a' => ⟨0, ?_⟩⟩)
    · unfold p_X6_child; simp only [hX, bS, n_ch B hG hR hT hI hr hc0, obx_l, hX, bS]; rw [if_pos (show Int32.toInt x1 < 0 ∨ 8 < Int32.toInt x1 from out_i (n := 8) (by omega) (Or.inr ho))]
    · show p_X7_child m (nN c0) x1 _ = _
      unfold p_X7_child
      rw [oc, bS, e_nc hI hc0, ob2_def, if_pos (by rfl)]
      show Option.bind (p_X7_inRange x1 (nN 0) (nN 8) _) _ = _
      rw [rng_out2 (by omega) (Or.inr ho), bS, jn_def, if_pos (by rfl)]
      simp only [oc, bS]
      show ob2 (p_X7_fails m (nN 1) _ _) _ = _
      rw [fa_1, ob2_def, if_neg (by decide), upd_2]
      rfl
  · have hch := hI.chi c0 (by omega)
    have hw' : w = 0 ∨ w = 1 ∨ w = 2 ∨ w = 3 ∨ w = 4 ∨ w = 5 ∨ w = 6 ∨ w = 7 ∨ w = 8 := by omega
    refine Or.inl ⟨nN (v (124 + 40 * w + c0)), nN (v (124 + 40 * w + c0)), ?_, rfl, fun B' g' a' => ?_⟩
    · unfold p_X6_child
      have i3 : p_X6_isIn (mkL (fun c => v (244 + c) = 1) (v 1)) (nN c0) (ofc B r b t tb g h ar u ta) = some (bI (v (244 + c0) = 1)) := c_isIn (by omega) hc0
      have i6 : p_X6_isIn (mkL (fun c => v (364 + c) = 1) (v 1)) (nN c0) (ofc B r b t tb g h ar u ta) = some (bI (v (364 + c0) = 1)) := c_isIn (by omega) hc0
      have i7 : p_X6_isIn (mkL (fun c => v (404 + c) = 1) (v 1)) (nN c0) (ofc B r b t tb g h ar u ta) = some (bI (v (404 + c0) = 1)) := c_isIn (by omega) hc0
      have i8 : p_X6_isIn (mkL (fun c => v (444 + c) = 1) (v 1)) (nN c0) (ofc B r b t tb g h ar u ta) = some (bI (v (444 + c0) = 1)) := c_isIn (by omega) hc0
      have i5 := c_rowLength (M := (ofc B r b t tb g h ar u ta)) (w := fun i => v (564 + 4 * c0 + i)) (n := v (324 + c0)) (by omega) (wis15 hI hc0)
      rcases hw' with rfl | rfl | rfl | rfl | rfl | rfl | rfl | rfl | rfl
      · simp +decide (disch := omega) only [hX, bS, n_ch B hG hR hT hI hr hc0, obx_l, hX, bS, hr, if_true, if_false, fv_11, fd_0 hG, rd_nN, hR.a0]
      · simp +decide (disch := omega) only [hX, bS, n_ch B hG hR hT hI hr hc0, obx_l, hX, bS, hr, if_true, if_false, fv_12, fd_1 hG, rd_nN, hR.a1]
      · simp +decide (disch := omega) only [hX, bS, n_ch B hG hR hT hI hr hc0, obx_l, hX, bS, hr, if_true, if_false, fv_13, fd_2 hG, rd_nN, hR.a2]
      · simp +decide (disch := omega) only [hX, bS, n_ch B hG hR hT hI hr hc0, obx_l, hX, bS, hr, if_true, if_false, fv_7, hR.h7, i3, b01 (show v (244 + c0) ≤ 1 by omega)]
      · simp +decide (disch := omega) only [hX, bS, n_ch B hG hR hT hI hr hc0, obx_l, hX, bS, hr, if_true, if_false, fv_14, fd_3 hG, rd_nN, hR.a3]
      · simp +decide (disch := omega) only [hX, bS, n_ch B hG hR hT hI hr hc0, obx_l, hX, bS, hr, if_true, if_false, fv_15, fd_4 hG, rd_nN, hR.a4, i5]
      · simp +decide (disch := omega) only [hX, bS, n_ch B hG hR hT hI hr hc0, obx_l, hX, bS, hr, if_true, if_false, fv_8, hR.h8, i6, b01 (show v (364 + c0) ≤ 1 by omega)]
      · simp +decide (disch := omega) only [hX, bS, n_ch B hG hR hT hI hr hc0, obx_l, hX, bS, hr, if_true, if_false, fv_9, hR.h9, i7, b01 (show v (404 + c0) ≤ 1 by omega)]
      · simp +decide (disch := omega) only [hX, bS, n_ch B hG hR hT hI hr hc0, obx_l, hX, bS, hr, if_true, if_false, fv_10, hR.h10, i8, b01 (show v (444 + c0) ≤ 1 by omega)]
    · show p_X7_child m (nN c0) (nN w) _ = _
      unfold p_X7_child
      rw [oc, bS, e_nc hI hc0, ob2_def, if_pos (by rfl)]
      show Option.bind (p_X7_inRange (nN w) (nN 0) (nN 8) _) _ = _
      rw [rng_in2 (by omega) (by omega), bS, jn_def, if_neg (by decide)]
      simp only [oc, bS]
      show ob2 (p_X7_fails m (nN 0) _ _) _ = _
      rw [fa_0, ob2_def, if_pos (by rfl), or_0, bS]
      have ei : ((124 : Int32) + ((40 : Int32) * nN w)) + nN c0 = nN (124 + 40 * w + c0) := by simp only [nN_lit, nN_add, nN_mul]
      rw [ei, er_v (by omega) (by omega), bS]

theorem b_preference (B : Mem) (hG : GE r b t tb) (hR : RG g h ar v pl) (hT : TG u ta v cd) (hI : Inv v pl) (hX : isC 5 (ofc B r b t tb g h ar u ta) z = some ()) (hr : gR 5 3 (ofc B r b t tb g h ar u ta) z = some r) (x0 x1 : Int32) : BQ m v pl "java/util/NoSuchElementException" (fun x y => x = y) (p_X6_preference z x0 x1 (ofc B r b t tb g h ar u ta)) (fun M => p_X7_preference m x0 x1 M) := by
  have hb := hI.hb; have h0 := hI.h0; have h1 := hI.h1; have h2 := hI.h2; have h7 := hI.h7; have h8 := hI.h8
  rcases ixN x0 (n := v 1) (by omega) with ho | ho | ⟨c0, hc0, rfl⟩
  · refine Or.inr (Or.inl ⟨?_, fun B g a => ?_⟩)
    · unfold p_X6_preference; simp only [hX, bS, n_ch_o B hG hR hT hI hr (Or.inl ho), obx_r]
    · refine ⟨0, ?_⟩; show p_X7_preference m _ x1 _ = _; unfold p_X7_preference
      rw [oc, bS, e_nc_o hI (Or.inl ho), ob2_def, if_neg (by decide)]
  · refine Or.inr (Or.inl ⟨?_, fun B g a => ?_⟩)
    · unfold p_X6_preference; simp only [hX, bS, n_ch_o B hG hR hT hI hr (Or.inr ho), obx_r]
    · refine ⟨0, ?_⟩; show p_X7_preference m _ x1 _ = _; unfold p_X7_preference
      rw [oc, bS, e_nc_o hI (Or.inr ho), ob2_def, if_neg (by decide)]
  have hch := hI.chi c0 (by omega)
  rcases ixN x1 (n := v (324 + c0)) (by omega) with ho | ho | ⟨j, hj, rfl⟩
  · refine Or.inr (Or.inr ⟨?_, fun B' g' a' => ⟨0, ?_⟩⟩)
    · have er : p_X6_rowEntry (nN (rwN (fun i => v (564 + 4 * c0 + i)) (v (324 + c0)))) x1 (ofc B r b t tb g h ar u ta) = some mI := by
        rcases ixN x1 (n := 4) (by omega) with h4 | h4 | ⟨j, hj, rfl⟩
        · exact c_rowEntry_no (Or.inl (by rw [i_lt] at h4; exact h4))
        · exact c_rowEntry_no (Or.inr (by rw [i_le, nN_toInt (by omega)] at h4; omega))
        · rw [c_rowEntry (by omega) (wis15 hI hc0) hj, if_neg]
          · rfl
          · intro hlt
            rcases (Or.inl ho : nN j < 0 ∨ nN (v (324 + c0)) ≤ nN j) with h5 | h5
            · exact nN_neg0 (by omega) h5
            · rw [nN_le (by omega) (by omega)] at h5; omega
      unfold p_X6_preference; simp (disch := omega) only [hX, bS, n_ch B hG hR hT hI hr hc0, obx_l, hX, bS, hr, fv_15, fd_4 hG, rd_nN, hR.a4, er]
      rfl
    · show p_X7_preference m (nN c0) x1 _ = _
      unfold p_X7_preference
      rw [oc, bS, e_nc hI hc0, ob2_def, if_pos (by rfl), or_0, bS]
      simp only [nN_lit, nN_add]
      rw [er_v (by omega) (by omega), bS, rng_out (by omega) (Or.inl ho), bS, jn_def]
      simp only [eq_self, if_true, oc, bS, fa_1, ob2_def, n10, n01, if_false, upd_2]
  · refine Or.inr (Or.inr ⟨?_, fun B' g' a' => ⟨0, ?_⟩⟩)
    · have er : p_X6_rowEntry (nN (rwN (fun i => v (564 + 4 * c0 + i)) (v (324 + c0)))) x1 (ofc B r b t tb g h ar u ta) = some mI := by
        rcases ixN x1 (n := 4) (by omega) with h4 | h4 | ⟨j, hj, rfl⟩
        · exact c_rowEntry_no (Or.inl (by rw [i_lt] at h4; exact h4))
        · exact c_rowEntry_no (Or.inr (by rw [i_le, nN_toInt (by omega)] at h4; omega))
        · rw [c_rowEntry (by omega) (wis15 hI hc0) hj, if_neg]
          · rfl
          · intro hlt
            rcases (Or.inr ho : nN j < 0 ∨ nN (v (324 + c0)) ≤ nN j) with h5 | h5
            · exact nN_neg0 (by omega) h5
            · rw [nN_le (by omega) (by omega)] at h5; omega
      unfold p_X6_preference; simp (disch := omega) only [hX, bS, n_ch B hG hR hT hI hr hc0, obx_l, hX, bS, hr, fv_15, fd_4 hG, rd_nN, hR.a4, er]
      rfl
    · show p_X7_preference m (nN c0) x1 _ = _
      unfold p_X7_preference
      rw [oc, bS, e_nc hI hc0, ob2_def, if_pos (by rfl), or_0, bS]
      simp only [nN_lit, nN_add]
      rw [er_v (by omega) (by omega), bS, rng_out (by omega) (Or.inr ho), bS, jn_def]
      simp only [eq_self, if_true, oc, bS, fa_1, ob2_def, n10, n01, if_false, upd_2]
  · refine Or.inl ⟨nN (v (564 + 4 * c0 + j)), nN (v (564 + 4 * c0 + j)), ?_, rfl, fun B' g' a' => ?_⟩
    · have er := c_rowEntry (M := (ofc B r b t tb g h ar u ta)) (w := fun i => v (564 + 4 * c0 + i)) (n := v (324 + c0)) (i := j) (by omega) (wis15 hI hc0) (by omega)
      have wb := (wis15 hI hc0 : ∀ i, i < v (324 + c0) → _) j hj
      rw [if_pos hj] at er
      unfold p_X6_preference; simp (disch := omega) only [hX, bS, n_ch B hG hR hT hI hr hc0, obx_l, hX, bS, hr, fv_15, fd_4 hG, rd_nN, hR.a4, er]
      exact if_neg (nNm (by omega))
    · show p_X7_preference m (nN c0) (nN j) _ = _
      unfold p_X7_preference
      rw [oc, bS, e_nc hI hc0, ob2_def, if_pos (by rfl), or_0, bS]
      simp only [nN_lit, nN_add, nN_mul]
      rw [er_v (by omega) (by omega), bS, rng_in hj (by omega), bS, jn_def]
      simp only [n01, n10, if_false, oc, bS, fa_0, ob2_def, eq_self, if_true, or_0]
      rw [er_v (by omega) (by omega), bS]

theorem b_rule (B : Mem) (hG : GE r b t tb) (hR : RG g h ar v pl) (hT : TG u ta v cd) (hI : Inv v pl) (hX : isC 5 (ofc B r b t tb g h ar u ta) z = some ()) (hr : gR 5 3 (ofc B r b t tb g h ar u ta) z = some r) (x0 x1 : Int32) : BQ m v pl "java/util/NoSuchElementException" (fun x y => x = y) (p_X6_rule z x0 x1 (ofc B r b t tb g h ar u ta)) (fun M => p_X7_rule m x0 x1 M) := by
  have hb := hI.hb; have h0 := hI.h0; have h1 := hI.h1; have h2 := hI.h2; have h7 := hI.h7; have h8 := hI.h8
  rcases ixN x0 (n := v 0) (by omega) with ho | ho | ⟨s0, hs0, rfl⟩
  · refine Or.inr (Or.inl ⟨?_, fun B g a => ?_⟩)
    · unfold p_X6_rule; simp only [hX, bS, n_sc_o B hG hR hT hI hr (Or.inl ho), obx_r]
    · refine ⟨0, ?_⟩; show p_X7_rule m _ x1 _ = _; unfold p_X7_rule
      rw [oc, bS, e_ns_o hI (Or.inl ho), ob2_def, if_neg (by decide)]
  · refine Or.inr (Or.inl ⟨?_, fun B g a => ?_⟩)
    · unfold p_X6_rule; simp only [hX, bS, n_sc_o B hG hR hT hI hr (Or.inr ho), obx_r]
    · refine ⟨0, ?_⟩; show p_X7_rule m _ x1 _ = _; unfold p_X7_rule
      rw [oc, bS, e_ns_o hI (Or.inr ho), ob2_def, if_neg (by decide)]
  have hsc := hI.sch s0 (by omega)
  rcases ixN x1 (n := v (44 + s0)) (by omega) with ho | ho | ⟨j, hj, rfl⟩
  · refine Or.inr (Or.inr ⟨?_, fun B' g' a' => ⟨0, ?_⟩⟩)
    · have er : p_X6_rowEntry (nN (rwN (fun i => v (68 + 3 * s0 + i)) (v (44 + s0)))) x1 (ofc B r b t tb g h ar u ta) = some mI := by
        rcases ixN x1 (n := 4) (by omega) with h4 | h4 | ⟨j, hj, rfl⟩
        · exact c_rowEntry_no (Or.inl (by rw [i_lt] at h4; exact h4))
        · exact c_rowEntry_no (Or.inr (by rw [i_le, nN_toInt (by omega)] at h4; omega))
        · rw [c_rowEntry (by omega) ((fun i hi => by have := hI.rul s0 (by omega) i (by omega); omega)) hj, if_neg]
          · rfl
          · intro hlt
            rcases (Or.inl ho : nN j < 0 ∨ nN (v (44 + s0)) ≤ nN j) with h5 | h5
            · exact nN_neg0 (by omega) h5
            · rw [nN_le (by omega) (by omega)] at h5; omega
      unfold p_X6_rule; simp (disch := omega) only [hX, bS, n_sc B hG hR hT hI hr hs0, obx_l, hX, bS, hr, fv_0, ft_6 hG, fp_3 hG, rd_nN, hT.a3, er]
      rfl
    · show p_X7_rule m (nN s0) x1 _ = _
      unfold p_X7_rule
      rw [oc, bS, e_ns hI hs0, ob2_def, if_pos (by rfl), or_0, bS]
      simp only [nN_lit, nN_add]
      rw [er_v (by omega) (by omega), bS, rng_out (by omega) (Or.inl ho), bS, jn_def]
      simp only [eq_self, if_true, oc, bS, fa_1, ob2_def, n10, n01, if_false, upd_2]
  · refine Or.inr (Or.inr ⟨?_, fun B' g' a' => ⟨0, ?_⟩⟩)
    · have er : p_X6_rowEntry (nN (rwN (fun i => v (68 + 3 * s0 + i)) (v (44 + s0)))) x1 (ofc B r b t tb g h ar u ta) = some mI := by
        rcases ixN x1 (n := 4) (by omega) with h4 | h4 | ⟨j, hj, rfl⟩
        · exact c_rowEntry_no (Or.inl (by rw [i_lt] at h4; exact h4))
        · exact c_rowEntry_no (Or.inr (by rw [i_le, nN_toInt (by omega)] at h4; omega))
        · rw [c_rowEntry (by omega) ((fun i hi => by have := hI.rul s0 (by omega) i (by omega); omega)) hj, if_neg]
          · rfl
          · intro hlt
            rcases (Or.inr ho : nN j < 0 ∨ nN (v (44 + s0)) ≤ nN j) with h5 | h5
            · exact nN_neg0 (by omega) h5
            · rw [nN_le (by omega) (by omega)] at h5; omega
      unfold p_X6_rule; simp (disch := omega) only [hX, bS, n_sc B hG hR hT hI hr hs0, obx_l, hX, bS, hr, fv_0, ft_6 hG, fp_3 hG, rd_nN, hT.a3, er]
      rfl
    · show p_X7_rule m (nN s0) x1 _ = _
      unfold p_X7_rule
      rw [oc, bS, e_ns hI hs0, ob2_def, if_pos (by rfl), or_0, bS]
      simp only [nN_lit, nN_add]
      rw [er_v (by omega) (by omega), bS, rng_out (by omega) (Or.inr ho), bS, jn_def]
      simp only [eq_self, if_true, oc, bS, fa_1, ob2_def, n10, n01, if_false, upd_2]
  · refine Or.inl ⟨nN (v (68 + 3 * s0 + j)), nN (v (68 + 3 * s0 + j)), ?_, rfl, fun B' g' a' => ?_⟩
    · have er := c_rowEntry (M := (ofc B r b t tb g h ar u ta)) (w := fun i => v (68 + 3 * s0 + i)) (n := v (44 + s0)) (i := j) (by omega) ((fun i hi => by have := hI.rul s0 (by omega) i (by omega); omega)) (by omega)
      have wb := ((fun i hi => by have := hI.rul s0 (by omega) i (by omega); omega) : ∀ i, i < v (44 + s0) → _) j hj
      rw [if_pos hj] at er
      unfold p_X6_rule; simp (disch := omega) only [hX, bS, n_sc B hG hR hT hI hr hs0, obx_l, hX, bS, hr, fv_0, ft_6 hG, fp_3 hG, rd_nN, hT.a3, er]
      exact if_neg (nNm (by omega))
    · show p_X7_rule m (nN s0) (nN j) _ = _
      unfold p_X7_rule
      rw [oc, bS, e_ns hI hs0, ob2_def, if_pos (by rfl), or_0, bS]
      simp only [nN_lit, nN_add, nN_mul]
      rw [er_v (by omega) (by omega), bS, rng_in hj (by omega), bS, jn_def]
      simp only [n01, n10, if_false, oc, bS, fa_0, ob2_def, eq_self, if_true, or_0]
      rw [er_v (by omega) (by omega), bS]

theorem b_meets (B : Mem) (hG : GE r b t tb) (hR : RG g h ar v pl) (hT : TG u ta v cd) (hI : Inv v pl) (hX : isC 5 (ofc B r b t tb g h ar u ta) z = some ()) (hr : gR 5 3 (ofc B r b t tb g h ar u ta) z = some r) (x0 x1 x2 : Int32) : BQ m v pl "java/lang/IllegalArgumentException" (fun x y => x = y) (p_X6_meets z x0 x1 x2 (ofc B r b t tb g h ar u ta)) (fun M => p_X7_meets m x0 x1 x2 M) := by
  have hb := hI.hb; have h0 := hI.h0; have h1 := hI.h1; have h2 := hI.h2; have h7 := hI.h7; have h8 := hI.h8
  rcases ixN x0 (n := v 1) (by omega) with ho | ho | ⟨c0, hc0, rfl⟩
  · refine Or.inr (Or.inl ⟨?_, fun B g a => ?_⟩)
    · unfold p_X6_meets; simp only [hX, bS, n_ch_o B hG hR hT hI hr (Or.inl ho), obx_r]
    · refine ⟨0, ?_⟩; show p_X7_meets m _ _ x2 _ = _; unfold p_X7_meets; simp only [oc, bS, e_no_o hI (Or.inl ho), ob2_def]; rw [if_neg (by decide)]
  · refine Or.inr (Or.inl ⟨?_, fun B g a => ?_⟩)
    · unfold p_X6_meets; simp only [hX, bS, n_ch_o B hG hR hT hI hr (Or.inr ho), obx_r]
    · refine ⟨0, ?_⟩; show p_X7_meets m _ _ x2 _ = _; unfold p_X7_meets; simp only [oc, bS, e_no_o hI (Or.inr ho), ob2_def]; rw [if_neg (by decide)]
  rcases ixN x1 (n := v 0) (by omega) with ho | ho | ⟨s1, hs1, rfl⟩
  · refine Or.inr (Or.inl ⟨?_, fun B g a => ?_⟩)
    · unfold p_X6_meets; simp only [hX, bS, n_ch B hG hR hT hI hr hc0, obx_l, hX, bS, n_sc_o B hG hR hT hI hr (Or.inl ho), obx_r]
    · refine ⟨0, ?_⟩; show p_X7_meets m _ _ x2 _ = _; unfold p_X7_meets; simp only [oc, bS, e_no_p hI hc0 (Or.inl ho), ob2_def]; rw [if_neg (by decide)]
  · refine Or.inr (Or.inl ⟨?_, fun B g a => ?_⟩)
    · unfold p_X6_meets; simp only [hX, bS, n_ch B hG hR hT hI hr hc0, obx_l, hX, bS, n_sc_o B hG hR hT hI hr (Or.inr ho), obx_r]
    · refine ⟨0, ?_⟩; show p_X7_meets m _ _ x2 _ = _; unfold p_X7_meets; simp only [oc, bS, e_no_p hI hc0 (Or.inr ho), ob2_def]; rw [if_neg (by decide)]
  rcases ixN x2 (n := 3) (by omega) with ho | ho | ⟨w, hw, rfl⟩
  · refine Or.inr (Or.inr ⟨?_, fun B' g' a' => ⟨0, ?_⟩⟩)
    · unfold p_X6_meets; simp only [hX, bS, n_ch B hG hR hT hI hr hc0, obx_l, hX, bS, n_sc B hG hR hT hI hr hs1, obx_l, hX, bS]
      rw [if_pos ho]
    · show p_X7_meets m (nN c0) (nN s1) x2 _ = _
      unfold p_X7_meets
      rw [oc, bS, e_no hI hc0 hs1, ob2_def, if_pos (by rfl)]
      show Option.bind (p_X7_inRange x2 (nN 0) (nN 2) _) _ = _
      rw [rng_out2 (by omega) (Or.inl ho), bS, jn_def, if_pos (by rfl)]
      simp only [oc, bS]
      show ob2 (p_X7_fails m (nN 1) _ _) _ = _
      rw [fa_1, ob2_def, if_neg (by decide), upd_2]
      rfl
  · refine Or.inr (Or.inr ⟨?_, fun B' g' a' => ⟨0, ?_⟩⟩)
    · unfold p_X6_meets; simp only [hX, bS, n_ch B hG hR hT hI hr hc0, obx_l, hX, bS, n_sc B hG hR hT hI hr hs1, obx_l, hX, bS]
      rw [if_neg (by rw [i_lt]; rw [i_le, nN_toInt (by omega)] at ho; show ¬ x2.toInt < (0 : Int); omega), if_neg (by rw [i_lt]; rw [i_le, nN_toInt (by omega)] at ho; show ¬ x2.toInt < (3 : Int); omega)]
    · show p_X7_meets m (nN c0) (nN s1) x2 _ = _
      unfold p_X7_meets
      rw [oc, bS, e_no hI hc0 hs1, ob2_def, if_pos (by rfl)]
      show Option.bind (p_X7_inRange x2 (nN 0) (nN 2) _) _ = _
      rw [rng_out2 (by omega) (Or.inr ho), bS, jn_def, if_pos (by rfl)]
      simp only [oc, bS]
      show ob2 (p_X7_fails m (nN 1) _ _) _ = _
      rw [fa_1, ob2_def, if_neg (by decide), upd_2]
      rfl
  · refine Or.inl ⟨bI (meeB v c0 s1 w = true), bI (meeB v c0 s1 w = true), ?_, rfl, fun B' g' a' => ?_⟩
    · unfold p_X6_meets; simp (disch := omega) only [hX, bS, n_ch B hG hR hT hI hr hc0, obx_l, hX, bS, n_sc B hG hR hT hI hr hs1, obx_l, hX, bS, hr, fv_isC]
      rw [if_neg (nN_neg0 (by omega)), if_pos (show nN w < (3 : Int32) from nlt_t (b := 3) (by omega) (by omega) hw), c_fits B hG hR hT hI hc0 hs1 (by omega), bS, if_pos bI01]
    · show p_X7_meets m (nN c0) (nN s1) (nN w) _ = _
      unfold p_X7_meets
      rw [oc, bS, e_no hI hc0 hs1, ob2_def, if_pos (by rfl)]
      show Option.bind (p_X7_inRange (nN w) (nN 0) (nN 2) _) _ = _
      rw [rng_in2 (by omega) (by omega), bS, jn_def, if_neg (by decide)]
      simp only [oc, bS]
      show ob2 (p_X7_fails m (nN 0) _ _) _ = _
      have ee := fun B g a => e_meetsRule (B := B) (m := m) (g := g) (a := up2 a 1 (enc v pl)) up2_s hI (c := c0) (s := s1) (r := w) (by omega) (by omega) (by omega)
      rw [fa_0, ob2_def, if_pos (by rfl), oc, bS, ee, bS, bIr]

theorem b_holder (B : Mem) (hG : GE r b t tb) (hR : RG g h ar v pl) (hT : TG u ta v cd) (hI : Inv v pl) (hX : isC 5 (ofc B r b t tb g h ar u ta) z = some ()) (hr : gR 5 3 (ofc B r b t tb g h ar u ta) z = some r) (x0 x1 : Int32) : BQ m v pl "java/util/NoSuchElementException" (fun x y => x = y) (p_X6_holder z x0 x1 (ofc B r b t tb g h ar u ta)) (fun M => p_X7_holder m x0 x1 M) := by
  have hb := hI.hb; have h0 := hI.h0; have h1 := hI.h1; have h2 := hI.h2; have h7 := hI.h7; have h8 := hI.h8
  rcases ixN x0 (n := v 0) (by omega) with ho | ho | ⟨s0, hs0, rfl⟩
  · refine Or.inr (Or.inl ⟨?_, fun B g a => ?_⟩)
    · unfold p_X6_holder; simp only [hX, bS, n_sc_o B hG hR hT hI hr (Or.inl ho), obx_r]
    · refine ⟨0, ?_⟩; show p_X7_holder m _ x1 _ = _; unfold p_X7_holder
      rw [oc, bS, e_ns_o hI (Or.inl ho), ob2_def, if_neg (by decide)]
  · refine Or.inr (Or.inl ⟨?_, fun B g a => ?_⟩)
    · unfold p_X6_holder; simp only [hX, bS, n_sc_o B hG hR hT hI hr (Or.inr ho), obx_r]
    · refine ⟨0, ?_⟩; show p_X7_holder m _ x1 _ = _; unfold p_X7_holder
      rw [oc, bS, e_ns_o hI (Or.inr ho), ob2_def, if_neg (by decide)]
  have hle : hldN v pl s0 ≤ v 1 := cnt_le _ _
  have eo := c_orderedOf B hG hR hT hI (P := fun k => pl k = some s0) hs0 x1
  have es := c_holdersOf B hG hR hT hI (s := s0) (by omega)
  rcases ixN x1 (n := hldN v pl s0) (by omega) with ho | ho | ⟨j, hj, rfl⟩
  · refine Or.inr (Or.inr ⟨?_, fun B' g' a' => ⟨0, ?_⟩⟩)
    · rw [ord_none (P := fun k => pl k = some s0) (key := stS v s0) (by omega) x1 (Or.inl ho)] at eo
      unfold p_X6_holder; simp only [hX, bS, n_sc B hG hR hT hI hr hs0, obx_l, hX, bS, hr, fv_isC, es, eo]
      rfl
    · show p_X7_holder m (nN s0) x1 _ = _
      unfold p_X7_holder
      have ee := fun B g a => e_holders (B := B) (m := m) (g := g) (a := up2 a 1 (enc v pl)) up2_s hI (s := s0) (by omega)
      rw [oc, bS, e_ns hI hs0, ob2_def, if_pos (by rfl), oc, bS, ee, bS]
      show Option.bind (p_X7_inRange x1 (nN 0) (nN (hldN v pl s0) - nN 1) _) _ = _
      rw [rng_out (by omega) (Or.inl ho), bS, jn_def, if_pos (by rfl)]
      simp only [oc, bS]
      show ob2 (p_X7_fails m (nN 1) _ _) _ = _
      rw [fa_1, ob2_def, if_neg (by decide), upd_2]
      rfl
  · refine Or.inr (Or.inr ⟨?_, fun B' g' a' => ⟨0, ?_⟩⟩)
    · rw [ord_none (P := fun k => pl k = some s0) (key := stS v s0) (by omega) x1 (Or.inr ho)] at eo
      unfold p_X6_holder; simp only [hX, bS, n_sc B hG hR hT hI hr hs0, obx_l, hX, bS, hr, fv_isC, es, eo]
      rfl
    · show p_X7_holder m (nN s0) x1 _ = _
      unfold p_X7_holder
      have ee := fun B g a => e_holders (B := B) (m := m) (g := g) (a := up2 a 1 (enc v pl)) up2_s hI (s := s0) (by omega)
      rw [oc, bS, e_ns hI hs0, ob2_def, if_pos (by rfl), oc, bS, ee, bS]
      show Option.bind (p_X7_inRange x1 (nN 0) (nN (hldN v pl s0) - nN 1) _) _ = _
      rw [rng_out (by omega) (Or.inr ho), bS, jn_def, if_pos (by rfl)]
      simp only [oc, bS]
      show ob2 (p_X7_fails m (nN 1) _ _) _ = _
      rw [fa_1, ob2_def, if_neg (by decide), upd_2]
      rfl
  · obtain ⟨o1, k, o2, o3⟩ := ord_some (P := fun k => pl k = some s0) (key := stS v s0) (j := j) (n := v 1) (by omega) (stS_inj (by omega)) hj
    have o5 : ∀ k, ahdN v pl k s0 0 = cnt (fun l => pl l = some s0 ∧ stS v s0 l < stS v s0 k) (v 1) := fun k => cnt_c (fun l _ => by show (decide (pl l = some s0) = true ∧ _) ↔ _; rw [decide_eq_true_eq])
    have o4 : staO v pl s0 j 0 = some k := by
      rw [← o3]; unfold staO
      exact fnd_c (fun k _ _ => by rw [o5 k]; show (decide (pl k = some s0) = true ∧ _) ↔ _; rw [decide_eq_true_eq])
    refine Or.inl ⟨nN k, nN k, ?_, rfl, fun B' g' a' => ?_⟩
    · rw [o1, o3] at eo
      unfold p_X6_holder; simp only [hX, bS, n_sc B hG hR hT hI hr hs0, obx_l, hX, bS, hr, fv_isC, es, eo]
      exact if_neg (nNm (by omega))
    · show p_X7_holder m (nN s0) (nN j) _ = _
      unfold p_X7_holder
      have ee := fun B g a => e_holders (B := B) (m := m) (g := g) (a := up2 a 1 (enc v pl)) up2_s hI (s := s0) (by omega)
      have e2 := fun B g a => e_standsAt (B := B) (m := m) (g := g) (a := up2 a 1 (enc v pl)) up2_s hI (s := s0) (i := j) (W := 0) (by omega) (by omega) (by omega)
      rw [oc, bS, e_ns hI hs0, ob2_def, if_pos (by rfl), oc, bS, ee, bS]
      show Option.bind (p_X7_inRange (nN j) (nN 0) (nN (hldN v pl s0) - nN 1) _) _ = _
      rw [rng_in hj (by omega), bS, jn_def, if_neg (by decide)]
      simp only [oc, bS]
      show ob2 (p_X7_fails m (nN 0) _ _) _ = _
      rw [fa_0, ob2_def, if_pos (by rfl), oc, bS]
      show Option.bind (p_X7_standsAt m (nN s0) (nN j) (nN 0) _) _ = _
      rw [e2, bS, o4]
      rfl

theorem b_waiting (B : Mem) (hG : GE r b t tb) (hR : RG g h ar v pl) (hT : TG u ta v cd) (hI : Inv v pl) (hX : isC 5 (ofc B r b t tb g h ar u ta) z = some ()) (hr : gR 5 3 (ofc B r b t tb g h ar u ta) z = some r) (x0 x1 : Int32) : BQ m v pl "java/util/NoSuchElementException" (fun x y => x = y) (p_X6_waiting z x0 x1 (ofc B r b t tb g h ar u ta)) (fun M => p_X7_waiting m x0 x1 M) := by
  have hb := hI.hb; have h0 := hI.h0; have h1 := hI.h1; have h2 := hI.h2; have h7 := hI.h7; have h8 := hI.h8
  rcases ixN x0 (n := v 0) (by omega) with ho | ho | ⟨s0, hs0, rfl⟩
  · refine Or.inr (Or.inl ⟨?_, fun B g a => ?_⟩)
    · unfold p_X6_waiting; simp only [hX, bS, n_sc_o B hG hR hT hI hr (Or.inl ho), obx_r]
    · refine ⟨0, ?_⟩; show p_X7_waiting m _ x1 _ = _; unfold p_X7_waiting
      rw [oc, bS, e_ns_o hI (Or.inl ho), ob2_def, if_neg (by decide)]
  · refine Or.inr (Or.inl ⟨?_, fun B g a => ?_⟩)
    · unfold p_X6_waiting; simp only [hX, bS, n_sc_o B hG hR hT hI hr (Or.inr ho), obx_r]
    · refine ⟨0, ?_⟩; show p_X7_waiting m _ x1 _ = _; unfold p_X7_waiting
      rw [oc, bS, e_ns_o hI (Or.inr ho), ob2_def, if_neg (by decide)]
  have hle : wtgN v pl s0 ≤ v 1 := cnt_le _ _
  have eo := c_orderedOf B hG hR hT hI (P := fun k => waiB v pl k s0 = true) hs0 x1
  have es := c_waitersOf B hG hR hT hI (s := s0) (by omega)
  rcases ixN x1 (n := wtgN v pl s0) (by omega) with ho | ho | ⟨j, hj, rfl⟩
  · refine Or.inr (Or.inr ⟨?_, fun B' g' a' => ⟨0, ?_⟩⟩)
    · rw [ord_none (P := fun k => waiB v pl k s0 = true) (key := stS v s0) (by omega) x1 (Or.inl ho)] at eo
      unfold p_X6_waiting; simp only [hX, bS, n_sc B hG hR hT hI hr hs0, obx_l, hX, bS, hr, fv_isC, es, eo]
      rfl
    · show p_X7_waiting m (nN s0) x1 _ = _
      unfold p_X7_waiting
      have ee := fun B g a => e_waitingMany (B := B) (m := m) (g := g) (a := up2 a 1 (enc v pl)) up2_s hI (s := s0) (by omega)
      rw [oc, bS, e_ns hI hs0, ob2_def, if_pos (by rfl), oc, bS, ee, bS]
      show Option.bind (p_X7_inRange x1 (nN 0) (nN (wtgN v pl s0) - nN 1) _) _ = _
      rw [rng_out (by omega) (Or.inl ho), bS, jn_def, if_pos (by rfl)]
      simp only [oc, bS]
      show ob2 (p_X7_fails m (nN 1) _ _) _ = _
      rw [fa_1, ob2_def, if_neg (by decide), upd_2]
      rfl
  · refine Or.inr (Or.inr ⟨?_, fun B' g' a' => ⟨0, ?_⟩⟩)
    · rw [ord_none (P := fun k => waiB v pl k s0 = true) (key := stS v s0) (by omega) x1 (Or.inr ho)] at eo
      unfold p_X6_waiting; simp only [hX, bS, n_sc B hG hR hT hI hr hs0, obx_l, hX, bS, hr, fv_isC, es, eo]
      rfl
    · show p_X7_waiting m (nN s0) x1 _ = _
      unfold p_X7_waiting
      have ee := fun B g a => e_waitingMany (B := B) (m := m) (g := g) (a := up2 a 1 (enc v pl)) up2_s hI (s := s0) (by omega)
      rw [oc, bS, e_ns hI hs0, ob2_def, if_pos (by rfl), oc, bS, ee, bS]
      show Option.bind (p_X7_inRange x1 (nN 0) (nN (wtgN v pl s0) - nN 1) _) _ = _
      rw [rng_out (by omega) (Or.inr ho), bS, jn_def, if_pos (by rfl)]
      simp only [oc, bS]
      show ob2 (p_X7_fails m (nN 1) _ _) _ = _
      rw [fa_1, ob2_def, if_neg (by decide), upd_2]
      rfl
  · obtain ⟨o1, k, o2, o3⟩ := ord_some (P := fun k => waiB v pl k s0 = true) (key := stS v s0) (j := j) (n := v 1) (by omega) (stS_inj (by omega)) hj
    have o4 : staO v pl s0 j 1 = some k := o3
    refine Or.inl ⟨nN k, nN k, ?_, rfl, fun B' g' a' => ?_⟩
    · rw [o1, o3] at eo
      unfold p_X6_waiting; simp only [hX, bS, n_sc B hG hR hT hI hr hs0, obx_l, hX, bS, hr, fv_isC, es, eo]
      exact if_neg (nNm (by omega))
    · show p_X7_waiting m (nN s0) (nN j) _ = _
      unfold p_X7_waiting
      have ee := fun B g a => e_waitingMany (B := B) (m := m) (g := g) (a := up2 a 1 (enc v pl)) up2_s hI (s := s0) (by omega)
      have e2 := fun B g a => e_standsAt (B := B) (m := m) (g := g) (a := up2 a 1 (enc v pl)) up2_s hI (s := s0) (i := j) (W := 1) (by omega) (by omega) (by omega)
      rw [oc, bS, e_ns hI hs0, ob2_def, if_pos (by rfl), oc, bS, ee, bS]
      show Option.bind (p_X7_inRange (nN j) (nN 0) (nN (wtgN v pl s0) - nN 1) _) _ = _
      rw [rng_in hj (by omega), bS, jn_def, if_neg (by decide)]
      simp only [oc, bS]
      show ob2 (p_X7_fails m (nN 0) _ _) _ = _
      rw [fa_0, ob2_def, if_pos (by rfl), oc, bS]
      show Option.bind (p_X7_standsAt m (nN s0) (nN j) (nN 1) _) _ = _
      rw [e2, bS, o4]
      rfl

theorem b_waitingPlace (B : Mem) (hG : GE r b t tb) (hR : RG g h ar v pl) (hT : TG u ta v cd) (hI : Inv v pl) (hX : isC 5 (ofc B r b t tb g h ar u ta) z = some ()) (hr : gR 5 3 (ofc B r b t tb g h ar u ta) z = some r) (x0 x1 : Int32) : BQ1 m v pl (fun x y => x = y) (p_X6_waitingPlace z x0 x1 (ofc B r b t tb g h ar u ta)) (fun M => p_X7_waitingPlace m x0 x1 M) := by
  have hb := hI.hb; have h0 := hI.h0; have h1 := hI.h1; have h2 := hI.h2; have h7 := hI.h7; have h8 := hI.h8
  rcases ixN x0 (n := v 1) (by omega) with ho | ho | ⟨c0, hc0, rfl⟩
  · refine Or.inr (Or.inl ⟨?_, fun B g a => ?_⟩)
    · unfold p_X6_waitingPlace; simp only [hX, bS, n_ch_o B hG hR hT hI hr (Or.inl ho), obx_r]
    · refine ⟨0, ?_⟩; show p_X7_waitingPlace m _ _  _ = _; unfold p_X7_waitingPlace; simp only [oc, bS, e_no_o hI (Or.inl ho), ob2_def]; rw [if_neg (by decide)]
  · refine Or.inr (Or.inl ⟨?_, fun B g a => ?_⟩)
    · unfold p_X6_waitingPlace; simp only [hX, bS, n_ch_o B hG hR hT hI hr (Or.inr ho), obx_r]
    · refine ⟨0, ?_⟩; show p_X7_waitingPlace m _ _  _ = _; unfold p_X7_waitingPlace; simp only [oc, bS, e_no_o hI (Or.inr ho), ob2_def]; rw [if_neg (by decide)]
  rcases ixN x1 (n := v 0) (by omega) with ho | ho | ⟨s1, hs1, rfl⟩
  · refine Or.inr (Or.inl ⟨?_, fun B g a => ?_⟩)
    · unfold p_X6_waitingPlace; simp only [hX, bS, n_ch B hG hR hT hI hr hc0, obx_l, hX, bS, n_sc_o B hG hR hT hI hr (Or.inl ho), obx_r]
    · refine ⟨0, ?_⟩; show p_X7_waitingPlace m _ _  _ = _; unfold p_X7_waitingPlace; simp only [oc, bS, e_no_p hI hc0 (Or.inl ho), ob2_def]; rw [if_neg (by decide)]
  · refine Or.inr (Or.inl ⟨?_, fun B g a => ?_⟩)
    · unfold p_X6_waitingPlace; simp only [hX, bS, n_ch B hG hR hT hI hr hc0, obx_l, hX, bS, n_sc_o B hG hR hT hI hr (Or.inr ho), obx_r]
    · refine ⟨0, ?_⟩; show p_X7_waitingPlace m _ _  _ = _; unfold p_X7_waitingPlace; simp only [oc, bS, e_no_p hI hc0 (Or.inr ho), ob2_def]; rw [if_neg (by decide)]
  have ew := c_waits B hG hR hT hI hc0 (s := s1) (by omega)
  have es := c_waitersOf B hG hR hT hI (s := s1) (by omega)
  have ea := c_aheadOf B hG hR hT hI (P := fun k => waiB v pl k s1 = true) hc0 hs1
  refine Or.inl ⟨if waiB v pl c0 s1 = true then nN (ahdN v pl c0 s1 1) else mI, if waiB v pl c0 s1 = true then nN (ahdN v pl c0 s1 1) else mI, ?_, rfl, fun B' g' a' => ?_⟩
  · unfold p_X6_waitingPlace; simp only [hX, bS, n_ch B hG hR hT hI hr hc0, obx_l, hX, bS, n_sc B hG hR hT hI hr hs1, obx_l, hX, bS, hr, fv_isC, ew, es, ea]
    by_cases c : waiB v pl c0 s1 = true
    · rw [← bI_t c, if_neg (by decide), if_pos c]; rfl
    · rw [← bI_f c, if_pos (by rfl), if_neg c]; rfl
  · show p_X7_waitingPlace m (nN c0) (nN s1) _ = _
    unfold p_X7_waitingPlace
    have e1 := fun B g a => e_waits (B := B) (m := m) (g := g) (a := up2 a 1 (enc v pl)) up2_s hI hc0 (s := s1) (by omega)
    have e2 := fun B g a => e_aheadOf (B := B) (m := m) (g := g) (a := up2 a 1 (enc v pl)) up2_s hI (c := c0) (s := s1) (W := 1) hc0 (by omega) (by omega)
    rw [oc, bS, e_no hI hc0 hs1, ob2_def, if_pos (by rfl), oc, bS, e1, bS]
    by_cases c : waiB v pl c0 s1 = true
    · rw [← bI_t c, if_neg (by decide), if_pos c, bS]
      show Option.bind (p_X7_aheadOf m (nN c0) (nN s1) (nN 1) _) _ = _
      rw [e2, bS]
    · rw [← bI_f c, if_pos (by rfl), if_neg c]; rfl

theorem b_comesFirst (B : Mem) (hG : GE r b t tb) (hR : RG g h ar v pl) (hT : TG u ta v cd) (hI : Inv v pl) (hX : isC 5 (ofc B r b t tb g h ar u ta) z = some ()) (hr : gR 5 3 (ofc B r b t tb g h ar u ta) z = some r) (x0 x1 x2 : Int32) : BQ1 m v pl (fun x y => x = y) (p_X6_comesFirst z x0 x1 x2 (ofc B r b t tb g h ar u ta)) (fun M => p_X7_comesFirst m x0 x1 x2 M) := by
  have hb := hI.hb; have h0 := hI.h0; have h1 := hI.h1; have h2 := hI.h2; have h7 := hI.h7; have h8 := hI.h8
  rcases ixN x0 (n := v 0) (by omega) with ho | ho | ⟨s0, hs0, rfl⟩
  · refine Or.inr (Or.inl ⟨?_, fun B g a => ?_⟩)
    · unfold p_X6_comesFirst; simp only [hX, bS, n_sc_o B hG hR hT hI hr (Or.inl ho), obx_r]
    · refine ⟨0, ?_⟩; show p_X7_comesFirst m _ _ _  _ = _; unfold p_X7_comesFirst
      rw [oc, bS, e_ns_o hI (Or.inl ho), ob2_def, if_neg (by decide)]
  · refine Or.inr (Or.inl ⟨?_, fun B g a => ?_⟩)
    · unfold p_X6_comesFirst; simp only [hX, bS, n_sc_o B hG hR hT hI hr (Or.inr ho), obx_r]
    · refine ⟨0, ?_⟩; show p_X7_comesFirst m _ _ _  _ = _; unfold p_X7_comesFirst
      rw [oc, bS, e_ns_o hI (Or.inr ho), ob2_def, if_neg (by decide)]
  rcases ixN x1 (n := v 1) (by omega) with ho | ho | ⟨c1, hc1, rfl⟩
  · refine Or.inr (Or.inl ⟨?_, fun B g a => ?_⟩)
    · unfold p_X6_comesFirst; simp only [hX, bS, n_sc B hG hR hT hI hr hs0, obx_l, hX, bS, n_ch_o B hG hR hT hI hr (Or.inl ho), obx_r]
    · refine ⟨0, ?_⟩; show p_X7_comesFirst m _ _ _  _ = _; unfold p_X7_comesFirst
      rw [oc, bS, e_ns hI hs0, ob2_def, if_pos (by rfl)]
      rw [oc, bS, e_nc_o hI (Or.inl ho), ob2_def, if_neg (by decide)] <;> try simp only [upd_2]
  · refine Or.inr (Or.inl ⟨?_, fun B g a => ?_⟩)
    · unfold p_X6_comesFirst; simp only [hX, bS, n_sc B hG hR hT hI hr hs0, obx_l, hX, bS, n_ch_o B hG hR hT hI hr (Or.inr ho), obx_r]
    · refine ⟨0, ?_⟩; show p_X7_comesFirst m _ _ _  _ = _; unfold p_X7_comesFirst
      rw [oc, bS, e_ns hI hs0, ob2_def, if_pos (by rfl)]
      rw [oc, bS, e_nc_o hI (Or.inr ho), ob2_def, if_neg (by decide)] <;> try simp only [upd_2]
  rcases ixN x2 (n := v 1) (by omega) with ho | ho | ⟨c2, hc2, rfl⟩
  · refine Or.inr (Or.inl ⟨?_, fun B g a => ?_⟩)
    · unfold p_X6_comesFirst; simp only [hX, bS, n_sc B hG hR hT hI hr hs0, obx_l, hX, bS, n_ch B hG hR hT hI hr hc1, obx_l, hX, bS, n_ch_o B hG hR hT hI hr (Or.inl ho), obx_r]
    · refine ⟨0, ?_⟩; show p_X7_comesFirst m _ _ _  _ = _; unfold p_X7_comesFirst
      rw [oc, bS, e_ns hI hs0, ob2_def, if_pos (by rfl)]
      rw [oc, bS, e_nc hI hc1, ob2_def, if_pos (by rfl)]
      rw [oc, bS, e_nc_o hI (Or.inl ho), ob2_def, if_neg (by decide)] <;> try simp only [upd_2]
  · refine Or.inr (Or.inl ⟨?_, fun B g a => ?_⟩)
    · unfold p_X6_comesFirst; simp only [hX, bS, n_sc B hG hR hT hI hr hs0, obx_l, hX, bS, n_ch B hG hR hT hI hr hc1, obx_l, hX, bS, n_ch_o B hG hR hT hI hr (Or.inr ho), obx_r]
    · refine ⟨0, ?_⟩; show p_X7_comesFirst m _ _ _  _ = _; unfold p_X7_comesFirst
      rw [oc, bS, e_ns hI hs0, ob2_def, if_pos (by rfl)]
      rw [oc, bS, e_nc hI hc1, ob2_def, if_pos (by rfl)]
      rw [oc, bS, e_nc_o hI (Or.inr ho), ob2_def, if_neg (by decide)] <;> try simp only [upd_2]
  have e1 := c_standing B hG hR hT hI hc1 hs0
  have e2 := c_standing B hG hR hT hI hc2 hs0
  have l1 := st_lt hI (c := c1) (s := s0) (by omega) (by omega)
  have l2 := st_lt hI (c := c2) (s := s0) (by omega) (by omega)
  refine Or.inl ⟨bI (stS v s0 c1 < stS v s0 c2), bI (stS v s0 c1 < stS v s0 c2), ?_, rfl, fun B' g' a' => ?_⟩
  · unfold p_X6_comesFirst; simp only [hX, bS, n_sc B hG hR hT hI hr hs0, obx_l, hX, bS, n_ch B hG hR hT hI hr hc1, obx_l, hX, bS, n_ch B hG hR hT hI hr hc2, obx_l, hX, bS, hr, fv_isC, e1, e2]
    simp only [lgc_ge (show stS v s0 c1 < 2 ^ 63 by omega) (show stS v s0 c2 < 2 ^ 63 by omega)]
    by_cases c : stS v s0 c1 < stS v s0 c2
    · rw [if_neg (by omega), ← bI_t c]; rfl
    · rw [if_pos (by omega), ← bI_f c]; rfl
  · show p_X7_comesFirst m (nN s0) (nN c1) (nN c2) _ = _
    unfold p_X7_comesFirst
    have e3 := fun B g a => e_isAhead (B := B) (m := m) (g := g) (a := up2 a 1 (enc v pl)) up2_s hI (c := c1) (d := c2) (s := s0) (by omega) (by omega) (by omega)
    rw [oc, bS, e_ns hI hs0, ob2_def, if_pos (by rfl), oc, bS, e_nc hI hc1, ob2_def, if_pos (by rfl), oc, bS, e_nc hI hc2, ob2_def, if_pos (by rfl), upd_2, upd_2]
    by_cases c : c1 = c2
    · rw [c, if_pos rfl, ← bI_f (by omega)]; rfl
    · rw [if_neg (neq_f (by omega) (by omega) c), oc, bS, e3, bS, bIr]

end QD
