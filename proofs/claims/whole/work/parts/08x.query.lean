section QX
variable {B : Mem} {r b t tb : Nat} {g : Nat → Int32} {h : Nat → Int64} {ar : Nat → Nat → Int32} {u : Nat → Int32} {ta : Nat → Nat → Int32} {v : Nat → Nat} {pl : Nat → Option Nat} {cd : Nat → Nat}
variable {z m : Nat}
theorem b_school (B : Mem) (hG : GE r b t tb) (hR : RG g h ar v pl) (hT : TG u ta v cd) (hI : Inv v pl) (hX : isC 5 (ofc B r b t tb g h ar u ta) z = some ()) (hr : gR 5 3 (ofc B r b t tb g h ar u ta) z = some r) (x0 x1 : Int32) : BQ m v pl "java/lang/IllegalArgumentException" (fun x y => x = y) (p_X6_school z x0 x1 (ofc B r b t tb g h ar u ta)) (fun M => p_X7_school m x0 x1 M) := by
  have hb := hI.hb; have h0 := hI.h0; have h1 := hI.h1; have h2 := hI.h2; have h7 := hI.h7; have h8 := hI.h8
  rcases ixN x0 (n := v 0) (by omega) with ho | ho | ⟨s0, hs0, rfl⟩
  · refine Or.inr (Or.inl ⟨?_, fun B g a => ?_⟩)
    · unfold p_X6_school; simp only [hX, bS, n_sc_o B hG hR hT hI hr (Or.inl ho), obx_r]
    · refine ⟨0, ?_⟩; show p_X7_school m _ x1 _ = _; unfold p_X7_school
      rw [oc, bS, e_ns_o hI (Or.inl ho), ob2_def, if_neg (by decide)]
  · refine Or.inr (Or.inl ⟨?_, fun B g a => ?_⟩)
    · unfold p_X6_school; simp only [hX, bS, n_sc_o B hG hR hT hI hr (Or.inr ho), obx_r]
    · refine ⟨0, ?_⟩; show p_X7_school m _ x1 _ = _; unfold p_X7_school
      rw [oc, bS, e_ns_o hI (Or.inr ho), ob2_def, if_neg (by decide)]
  rcases ixN x1 (n := 10) (by omega) with ho | ho | ⟨w, hw, rfl⟩
  · refine Or.inr (Or.inr ⟨?_, fun B' g' a' => ⟨0, ?_⟩⟩)
    · unfold p_X6_school; simp only [hX, bS, n_sc B hG hR hT hI hr hs0, obx_l, hX, bS, hr, fv_0]; rw [if_pos (show Int32.toInt x1 < 0 ∨ 9 < Int32.toInt x1 from out_i (n := 9) (by omega) (Or.inl ho))]
    · show p_X7_school m (nN s0) x1 _ = _
      unfold p_X7_school
      rw [oc, bS, e_ns hI hs0, ob2_def, if_pos (by rfl)]
      show Option.bind (p_X7_inRange x1 (nN 0) (nN 9) _) _ = _
      rw [rng_out2 (by omega) (Or.inl ho), bS, jn_def, if_pos (by rfl)]
      simp only [oc, bS]
      show ob2 (p_X7_fails m (nN 1) _ _) _ = _
      rw [fa_1, ob2_def, if_neg (by decide), upd_2]
      rfl
  · refine Or.inr (Or.inr ⟨?_, fun B' g' a' => ⟨0, ?_⟩⟩)
    · unfold p_X6_school; simp only [hX, bS, n_sc B hG hR hT hI hr hs0, obx_l, hX, bS, hr, fv_0]; rw [if_pos (show Int32.toInt x1 < 0 ∨ 9 < Int32.toInt x1 from out_i (n := 9) (by omega) (Or.inr ho))]
    · show p_X7_school m (nN s0) x1 _ = _
      unfold p_X7_school
      rw [oc, bS, e_ns hI hs0, ob2_def, if_pos (by rfl)]
      show Option.bind (p_X7_inRange x1 (nN 0) (nN 9) _) _ = _
      rw [rng_out2 (by omega) (Or.inr ho), bS, jn_def, if_pos (by rfl)]
      simp only [oc, bS]
      show ob2 (p_X7_fails m (nN 1) _ _) _ = _
      rw [fa_1, ob2_def, if_neg (by decide), upd_2]
      rfl
  · have hsc := hI.sch s0 (by omega)
    have i3 := c_rowLength (M := (ofc B r b t tb g h ar u ta)) (w := fun i => v (68 + 3 * s0 + i)) (n := v (44 + s0)) (by omega) (fun i hi => by have := hI.rul s0 (by omega) i (by omega); omega)
    have ez : p_X4_isZoned t (nN s0) (ofc B r b t tb g h ar u ta) = some (bI (v (52 + s0) = 1)) := by
      unfold p_X4_isZoned
      rw [ft_10 hG, bS, fp_7 hG, rd_nN (by omega) (by omega), bS]
      by_cases c : v (52 + s0) = 1
      · have z2 := (hT.zy hs0 c).2.2.1
        have z3 := hb (92 + 4 * s0 + 2) (by omega)
        rw [z2, if_neg (show ¬ nN (v (92 + 4 * s0 + 2)) = -1 from nNm z3), ← bI_t c]; rfl
      · rw [(hT.zn hs0 c).1, if_pos (show mI = -1 from rfl), ← bI_f c]; rfl
    have eh := c_holdersOf B hG hR hT hI (s := s0) (by omega)
    have ew := c_waitersOf B hG hR hT hI (s := s0) (by omega)
    have eb6 : p_J13_bitCount_95d88 (mkL (fun c => pl c = some s0) (v 1)) (ofc B r b t tb g h ar u ta) = some (nN (hldN v pl s0)) := c_bitc (by omega)
    have eb7 : p_J13_bitCount_95d88 (mkL (fun c => pl c = some s0 ∧ v (444 + c) = 1) (v 1)) (ofc B r b t tb g h ar u ta) = some (nN (cnt (fun k => pl k = some s0 ∧ v (444 + k) = 1) (v 1))) := c_bitc (by omega)
    have eb9 : p_J13_bitCount_95d88 (mkL (fun c => waiB v pl c s0 = true) (v 1)) (ofc B r b t tb g h ar u ta) = some (nN (wtgN v pl s0)) := c_bitc (by omega)
    have hw' : w = 0 ∨ w = 1 ∨ w = 2 ∨ w = 3 ∨ w = 4 ∨ w = 5 ∨ w = 6 ∨ w = 7 ∨ w = 8 ∨ w = 9 := by omega
    have hh : ∀ B' g' a', up2 a' 1 (enc v pl) 1 = enc v pl := fun (B' : Mem) (g' : Nat → Int32) (a' : Nat → Nat → Int32) => up2_s
    rcases hw' with rfl | rfl | rfl | rfl | rfl | rfl | rfl | rfl | rfl | rfl
    · refine Or.inl ⟨nN (v (20 + s0)), nN (v (20 + s0)), ?_, rfl, fun B' g' a' => ?_⟩
      · unfold p_X6_school; simp +decide (disch := omega) only [hX, bS, n_sc B hG hR hT hI hr hs0, obx_l, hX, bS, hr, fv_0, if_true, if_false, fv_18, fd_7 hG, rd_nN, hR.a7]
      · show p_X7_school m (nN s0) (nN 0) _ = _
        unfold p_X7_school
        rw [oc, bS, e_ns hI hs0, ob2_def, if_pos (by rfl)]
        show Option.bind (p_X7_inRange (nN 0) (nN 0) (nN 9) _) _ = _
        rw [rng_in2 (by omega) (by omega), bS, jn_def, if_neg (by decide)]
        simp only [oc, bS]
        show ob2 (p_X7_fails m (nN 0) _ _) _ = _
        have ei : ((20 : Int32) + ((8 : Int32) * nN 0)) + nN s0 = nN (20 + s0) := by rw [show (20 : Int32) + (8 : Int32) * nN 0 = nN 20 by decide]; exact nN_add 20 s0
        simp +decide (disch := omega) only [fa_0, ob2_def, if_true, if_false, or_0, bS, ei, er_v]
    · refine Or.inl ⟨nN (v (28 + s0)), nN (v (28 + s0)), ?_, rfl, fun B' g' a' => ?_⟩
      · unfold p_X6_school; simp +decide (disch := omega) only [hX, bS, n_sc B hG hR hT hI hr hs0, obx_l, hX, bS, hr, fv_0, if_true, if_false, ft_4 hG, fp_1 hG, rd_nN, hT.a1]
      · show p_X7_school m (nN s0) (nN 1) _ = _
        unfold p_X7_school
        rw [oc, bS, e_ns hI hs0, ob2_def, if_pos (by rfl)]
        show Option.bind (p_X7_inRange (nN 1) (nN 0) (nN 9) _) _ = _
        rw [rng_in2 (by omega) (by omega), bS, jn_def, if_neg (by decide)]
        simp only [oc, bS]
        show ob2 (p_X7_fails m (nN 0) _ _) _ = _
        have ei : ((20 : Int32) + ((8 : Int32) * nN 1)) + nN s0 = nN (28 + s0) := by rw [show (20 : Int32) + (8 : Int32) * nN 1 = nN 28 by decide]; exact nN_add 28 s0
        simp +decide (disch := omega) only [fa_0, ob2_def, if_true, if_false, or_0, bS, ei, er_v]
    · refine Or.inl ⟨nN (v (36 + s0)), nN (v (36 + s0)), ?_, rfl, fun B' g' a' => ?_⟩
      · unfold p_X6_school; simp +decide (disch := omega) only [hX, bS, n_sc B hG hR hT hI hr hs0, obx_l, hX, bS, hr, fv_0, if_true, if_false, ft_5 hG, fp_2 hG, rd_nN, hT.a2]
      · show p_X7_school m (nN s0) (nN 2) _ = _
        unfold p_X7_school
        rw [oc, bS, e_ns hI hs0, ob2_def, if_pos (by rfl)]
        show Option.bind (p_X7_inRange (nN 2) (nN 0) (nN 9) _) _ = _
        rw [rng_in2 (by omega) (by omega), bS, jn_def, if_neg (by decide)]
        simp only [oc, bS]
        show ob2 (p_X7_fails m (nN 0) _ _) _ = _
        have ei : ((20 : Int32) + ((8 : Int32) * nN 2)) + nN s0 = nN (36 + s0) := by rw [show (20 : Int32) + (8 : Int32) * nN 2 = nN 36 by decide]; exact nN_add 36 s0
        simp +decide (disch := omega) only [fa_0, ob2_def, if_true, if_false, or_0, bS, ei, er_v]
    · refine Or.inl ⟨nN (v (44 + s0)), nN (v (44 + s0)), ?_, rfl, fun B' g' a' => ?_⟩
      · unfold p_X6_school; simp +decide (disch := omega) only [hX, bS, n_sc B hG hR hT hI hr hs0, obx_l, hX, bS, hr, fv_0, if_true, if_false, ft_6 hG, fp_3 hG, rd_nN, hT.a3, i3]
      · show p_X7_school m (nN s0) (nN 3) _ = _
        unfold p_X7_school
        rw [oc, bS, e_ns hI hs0, ob2_def, if_pos (by rfl)]
        show Option.bind (p_X7_inRange (nN 3) (nN 0) (nN 9) _) _ = _
        rw [rng_in2 (by omega) (by omega), bS, jn_def, if_neg (by decide)]
        simp only [oc, bS]
        show ob2 (p_X7_fails m (nN 0) _ _) _ = _
        have ei : ((20 : Int32) + ((8 : Int32) * nN 3)) + nN s0 = nN (44 + s0) := by rw [show (20 : Int32) + (8 : Int32) * nN 3 = nN 44 by decide]; exact nN_add 44 s0
        simp +decide (disch := omega) only [fa_0, ob2_def, if_true, if_false, or_0, bS, ei, er_v]
    · refine Or.inl ⟨nN (v (52 + s0)), nN (v (52 + s0)), ?_, rfl, fun B' g' a' => ?_⟩
      · unfold p_X6_school; simp +decide (disch := omega) only [hX, bS, n_sc B hG hR hT hI hr hs0, obx_l, hX, bS, hr, fv_0, if_true, if_false, ft_C hG, ez, b01 (show v (52 + s0) ≤ 1 by omega)]
      · show p_X7_school m (nN s0) (nN 4) _ = _
        unfold p_X7_school
        rw [oc, bS, e_ns hI hs0, ob2_def, if_pos (by rfl)]
        show Option.bind (p_X7_inRange (nN 4) (nN 0) (nN 9) _) _ = _
        rw [rng_in2 (by omega) (by omega), bS, jn_def, if_neg (by decide)]
        simp only [oc, bS]
        show ob2 (p_X7_fails m (nN 0) _ _) _ = _
        have ei : ((20 : Int32) + ((8 : Int32) * nN 4)) + nN s0 = nN (52 + s0) := by rw [show (20 : Int32) + (8 : Int32) * nN 4 = nN 52 by decide]; exact nN_add 52 s0
        simp +decide (disch := omega) only [fa_0, ob2_def, if_true, if_false, or_0, bS, ei, er_v]
    · refine Or.inl ⟨nN (cnt (fun k => v (724 + 2 * k + 1) = s0) (v 2)), nN (cnt (fun k => v (724 + 2 * k + 1) = s0) (v 2)), ?_, rfl, fun B' g' a' => ?_⟩
      · unfold p_X6_school; simp +decide (disch := omega) only [hX, bS, n_sc B hG hR hT hI hr hs0, obx_l, hX, bS, hr, fv_0, if_true, if_false, ft_7 hG, fp_4 hG, rd_nN, hT.a4]
      · show p_X7_school m (nN s0) (nN 5) _ = _
        unfold p_X7_school
        rw [oc, bS, e_ns hI hs0, ob2_def, if_pos (by rfl)]
        show Option.bind (p_X7_inRange (nN 5) (nN 0) (nN 9) _) _ = _
        rw [rng_in2 (by omega) (by omega), bS, jn_def, if_neg (by decide)]
        simp only [oc, bS]
        show ob2 (p_X7_fails m (nN 0) _ _) _ = _
        have hw : up2 a' 1 (enc v pl) 1 = enc v pl := up2_s
        have ee := e_pupilsAt (B := B') (m := m) (g := upd g' 9 (nN 0)) (a := up2 a' 1 (enc v pl)) hw hI (s := s0) (by omega)
        simp +decide (disch := omega) only [fa_0, ob2_def, if_true, if_false, oc, bS, ee]
    · refine Or.inl ⟨nN (hldN v pl s0), nN (hldN v pl s0), ?_, rfl, fun B' g' a' => ?_⟩
      · unfold p_X6_school; simp +decide (disch := omega) only [hX, bS, n_sc B hG hR hT hI hr hs0, obx_l, hX, bS, hr, fv_0, if_true, if_false, fv_isC, eh, eb6]
      · show p_X7_school m (nN s0) (nN 6) _ = _
        unfold p_X7_school
        rw [oc, bS, e_ns hI hs0, ob2_def, if_pos (by rfl)]
        show Option.bind (p_X7_inRange (nN 6) (nN 0) (nN 9) _) _ = _
        rw [rng_in2 (by omega) (by omega), bS, jn_def, if_neg (by decide)]
        simp only [oc, bS]
        show ob2 (p_X7_fails m (nN 0) _ _) _ = _
        have hw : up2 a' 1 (enc v pl) 1 = enc v pl := up2_s
        have ee := e_holders (B := B') (m := m) (g := upd g' 9 (nN 0)) (a := up2 a' 1 (enc v pl)) hw hI (s := s0) (by omega)
        simp +decide (disch := omega) only [fa_0, ob2_def, if_true, if_false, oc, bS, ee]
    · refine Or.inl ⟨nN (cnt (fun k => pl k = some s0 ∧ v (444 + k) = 1) (v 1)), nN (cnt (fun k => pl k = some s0 ∧ v (444 + k) = 1) (v 1)), ?_, rfl, fun B' g' a' => ?_⟩
      · unfold p_X6_school; simp +decide (disch := omega) only [hX, bS, n_sc B hG hR hT hI hr hs0, obx_l, hX, bS, hr, fv_0, if_true, if_false, fv_isC, eh, fv_10, hR.h10, mk_and, eb7]
      · show p_X7_school m (nN s0) (nN 7) _ = _
        unfold p_X7_school
        rw [oc, bS, e_ns hI hs0, ob2_def, if_pos (by rfl)]
        show Option.bind (p_X7_inRange (nN 7) (nN 0) (nN 9) _) _ = _
        rw [rng_in2 (by omega) (by omega), bS, jn_def, if_neg (by decide)]
        simp only [oc, bS]
        show ob2 (p_X7_fails m (nN 0) _ _) _ = _
        have hw : up2 a' 1 (enc v pl) 1 = enc v pl := up2_s
        have ee := e_appealedAt (B := B') (m := m) (g := upd g' 9 (nN 0)) (a := up2 a' 1 (enc v pl)) hw hI (s := s0) (by omega)
        simp +decide (disch := omega) only [fa_0, ob2_def, if_true, if_false, oc, bS, ee]
    · refine Or.inl ⟨nN (v (60 + s0)), nN (v (60 + s0)), ?_, rfl, fun B' g' a' => ?_⟩
      · unfold p_X6_school; simp +decide (disch := omega) only [hX, bS, n_sc B hG hR hT hI hr hs0, obx_l, hX, bS, hr, fv_0, if_true, if_false, fv_19, fd_8 hG, rd_nN, hR.a8]
      · show p_X7_school m (nN s0) (nN 8) _ = _
        unfold p_X7_school
        rw [oc, bS, e_ns hI hs0, ob2_def, if_pos (by rfl)]
        show Option.bind (p_X7_inRange (nN 8) (nN 0) (nN 9) _) _ = _
        rw [rng_in2 (by omega) (by omega), bS, jn_def, if_neg (by decide)]
        simp only [oc, bS]
        show ob2 (p_X7_fails m (nN 0) _ _) _ = _
        simp +decide (disch := omega) only [fa_0, ob2_def, if_true, if_false, or_0, bS, show (60 : Int32) + nN s0 = nN (60 + s0) from nN_add 60 s0, er_v]
    · refine Or.inl ⟨nN (wtgN v pl s0), nN (wtgN v pl s0), ?_, rfl, fun B' g' a' => ?_⟩
      · unfold p_X6_school; simp +decide (disch := omega) only [hX, bS, n_sc B hG hR hT hI hr hs0, obx_l, hX, bS, hr, fv_0, if_true, if_false, fv_isC, ew, eb9]
      · show p_X7_school m (nN s0) (nN 9) _ = _
        unfold p_X7_school
        rw [oc, bS, e_ns hI hs0, ob2_def, if_pos (by rfl)]
        show Option.bind (p_X7_inRange (nN 9) (nN 0) (nN 9) _) _ = _
        rw [rng_in2 (by omega) (by omega), bS, jn_def, if_neg (by decide)]
        simp only [oc, bS]
        show ob2 (p_X7_fails m (nN 0) _ _) _ = _
        have hw : up2 a' 1 (enc v pl) 1 = enc v pl := up2_s
        have ee := e_waitingMany (B := B') (m := m) (g := upd g' 9 (nN 0)) (a := up2 a' 1 (enc v pl)) hw hI (s := s0) (by omega)
        simp +decide (disch := omega) only [fa_0, ob2_def, if_true, if_false, oc, bS, ee]

theorem b_siblings (B : Mem) (hG : GE r b t tb) (hR : RG g h ar v pl) (hT : TG u ta v cd) (hI : Inv v pl) (hX : isC 5 (ofc B r b t tb g h ar u ta) z = some ()) (hr : gR 5 3 (ofc B r b t tb g h ar u ta) z = some r) (x0 : Int32) : BQ1 m v pl (fun x y => x = y) (p_X6_siblings z x0 (ofc B r b t tb g h ar u ta)) (fun M => p_X7_siblings m x0 M) := by
  have hb := hI.hb; have h0 := hI.h0; have h1 := hI.h1; have h2 := hI.h2; have h7 := hI.h7; have h8 := hI.h8
  rcases ixN x0 (n := v 1) (by omega) with ho | ho | ⟨c0, hc0, rfl⟩
  · refine Or.inr (Or.inl ⟨?_, fun B g a => ?_⟩)
    · unfold p_X6_siblings; simp only [hX, bS, n_ch_o B hG hR hT hI hr (Or.inl ho), obx_r]
    · refine ⟨0, ?_⟩; show p_X7_siblings m _  _ = _; unfold p_X7_siblings
      rw [oc, bS, e_nc_o hI (Or.inl ho), ob2_def, if_neg (by decide)]
  · refine Or.inr (Or.inl ⟨?_, fun B g a => ?_⟩)
    · unfold p_X6_siblings; simp only [hX, bS, n_ch_o B hG hR hT hI hr (Or.inr ho), obx_r]
    · refine ⟨0, ?_⟩; show p_X7_siblings m _  _ = _; unfold p_X7_siblings
      rw [oc, bS, e_nc_o hI (Or.inr ho), ob2_def, if_neg (by decide)]
  refine Or.inl ⟨mkL (fun k => v (204 + c0) ≠ 0 ∧ k ≠ c0 ∧ v (404 + k) = 0 ∧ v (204 + k) = v (204 + c0)) (v 1), mkL (fun k => v (204 + c0) ≠ 0 ∧ k ≠ c0 ∧ v (404 + k) = 0 ∧ v (204 + k) = v (204 + c0)) (v 1), ?_, rfl, fun B' g' a' => ?_⟩
  · unfold p_X6_siblings; simp only [hX, bS, n_ch B hG hR hT hI hr hc0, obx_l, hX, bS]
    simp (disch := omega) only [hr, bS, fv_13, fd_2 hG, rd_nN, hR.a2]
    have lp : ∀ F, v 1 < F → pl_X6_siblings_20 (fun z16 => Option.bind (gL 2 9 (ofc B r b t tb g h ar u ta) r) fun v18 => some (.inl (z16 &&& (v18 ^^^ (-1 : Int64))))) z (nN c0) (nN (v (204 + c0))) (ofc B r b t tb g h ar u ta) F (0 : Int64) (nN 0) = some (.inl (mkL (fun k => v (204 + c0) ≠ 0 ∧ k ≠ c0 ∧ v (204 + k) = v (204 + c0)) (v 1) &&& (mkL (fun k => v (404 + k) = 1) (v 1) ^^^ (-1 : Int64)))) := fun F hF => by
      refine loop_mk (L := fun fu x k => pl_X6_siblings_20 (fun z16 => Option.bind (gL 2 9 (ofc B r b t tb g h ar u ta) r) fun v18 => some (.inl (z16 &&& (v18 ^^^ (-1 : Int64))))) z (nN c0) (nN (v (204 + c0))) (ofc B r b t tb g h ar u ta) fu x (nN k)) (P := fun k => v (204 + c0) ≠ 0 ∧ k ≠ c0 ∧ v (204 + k) = v (204 + c0)) (fin := fun x => some (.inl (x &&& (mkL (fun k => v (404 + k) = 1) (v 1) ^^^ (-1 : Int64))))) (n := v 1) (by omega) (fun fu x k hk => ?_) (fun fu x => ?_) F hF
      · rw [pl_X6_siblings_20]
        have hch := hI.chi k (by omega); have hch2 := hI.chi c0 (by omega)
        simp (disch := first | omega | (apply hb; omega)) only [fv_isC, fv_0, fv_1, fv_2, fv_3, fv_4, fv_5, fv_6, fv_7, fv_8, fv_9, fv_10, fv_11, fv_12, fv_13, fv_14, fv_15, fv_16, fv_17, fv_18, fv_19, fd_0 hG, fd_1 hG, fd_2 hG, fd_3 hG, fd_4 hG, fd_5 hG, fd_6 hG, fd_7 hG, fd_8 hG, ft_C hG, ft_0 hG, ft_1 hG, ft_2 hG, ft_3 hG, ft_4 hG, ft_5 hG, ft_6 hG, ft_7 hG, ft_8 hG, ft_9 hG, ft_10 hG, ft_11 hG, ft_12 hG, fp_0 hG, fp_1 hG, fp_2 hG, fp_3 hG, fp_4 hG, fp_5 hG, fp_6 hG, fp_7 hG, fp_8 hG, fp_9 hG, hR.g1, hR.g2, hR.g3, hR.g4, hR.g5, hR.g6, hR.h7, hR.h8, hR.h9, hR.h10, hR.a0, hR.a1, hR.a2, hR.a3, hR.a4, hR.a5, hR.a6, hR.a7, hR.a8, hT.u0, hT.u1, hT.u2, hT.a0, hT.a1, hT.a2, hT.a3, hT.a4, bS, rd_nN, nN_lit, nN_add, nN_mul, nN_le, nN_lt, nN_eq, jn_def, mI_lit, bI_0, bI_1, n01, n10, if_true, if_false, ite_not, nP_P, hr]
        rw [if_neg (by omega)]
        by_cases c1 : v (204 + c0) = 0
        · rw [if_pos c1, if_neg (fun z => z.1 c1)]
        · rw [if_neg c1]
          by_cases c2 : k = c0
          · rw [if_pos c2, if_neg (fun z => z.2.1 c2)]
          · rw [if_neg c2]
            by_cases c3 : v (204 + k) = v (204 + c0)
            · rw [if_pos c3, if_pos ⟨c1, c2, c3⟩]
            · rw [if_neg c3, if_neg (fun z => c3 z.2.2)]
      · rw [pl_X6_siblings_20]
        simp (disch := first | omega | (apply hb; omega)) only [fv_isC, fv_0, fv_1, fv_2, fv_3, fv_4, fv_5, fv_6, fv_7, fv_8, fv_9, fv_10, fv_11, fv_12, fv_13, fv_14, fv_15, fv_16, fv_17, fv_18, fv_19, fd_0 hG, fd_1 hG, fd_2 hG, fd_3 hG, fd_4 hG, fd_5 hG, fd_6 hG, fd_7 hG, fd_8 hG, ft_C hG, ft_0 hG, ft_1 hG, ft_2 hG, ft_3 hG, ft_4 hG, ft_5 hG, ft_6 hG, ft_7 hG, ft_8 hG, ft_9 hG, ft_10 hG, ft_11 hG, ft_12 hG, fp_0 hG, fp_1 hG, fp_2 hG, fp_3 hG, fp_4 hG, fp_5 hG, fp_6 hG, fp_7 hG, fp_8 hG, fp_9 hG, hR.g1, hR.g2, hR.g3, hR.g4, hR.g5, hR.g6, hR.h7, hR.h8, hR.h9, hR.h10, hR.a0, hR.a1, hR.a2, hR.a3, hR.a4, hR.a5, hR.a6, hR.a7, hR.a8, hT.u0, hT.u1, hT.u2, hT.a0, hT.a1, hT.a2, hT.a3, hT.a4, bS, rd_nN, nN_lit, nN_add, nN_mul, nN_le, nN_lt, nN_eq, jn_def, mI_lit, bI_0, bI_1, n01, n10, if_true, if_false, ite_not, nP_P, hr]
        rw [if_pos (by omega)]
    have hFU : v 1 < FU := FU_pos (by omega)
    generalize FU = F at hFU ⊢
    refine (lp F hFU).trans ?_
    rw [mk_andnot]
    congr 2
    exact mk_c (fun k hk => by
      have hch := hI.chi k (by omega)
      constructor
      · rintro ⟨⟨p1, p2, p3⟩, p4⟩; exact ⟨p1, p2, by omega, p3⟩
      · rintro ⟨p1, p2, p3, p4⟩; exact ⟨⟨p1, p2, p4⟩, by omega⟩)
  · show p_X7_siblings m (nN c0)  _ = _
    unfold p_X7_siblings
    have hw : up2 a' 1 (enc v pl) 1 = enc v pl := up2_s
    rw [oc, bS, e_nc hI hc0, ob2_def, if_pos (by rfl)]
    have ei : (204 : Int32) + nN c0 = nN (204 + c0) := nN_add 204 c0
    have hch2 := hI.chi c0 (by omega)
    rw [or_0, bS, ei, er_v (by omega) (by omega), bS]
    by_cases c1 : v (204 + c0) = 0
    · rw [c1, if_pos (by rfl)]
      exact congrArg (fun q => some (q, (ovl B' m (upd g' 9 (nN 0)) (up2 a' 1 (enc v pl))))) (mk_none (fun k hk z => z.1 rfl))
    · rw [if_neg (show ¬ nN (v (204 + c0)) = 0 from neq_f (b := 0) (by omega) (by omega) c1)]
      have lp : ∀ F, v 1 < F → pl_X7_siblings_28 (fun z22 => some (z22, (ovl B' m (upd g' 9 (nN 0)) (up2 a' 1 (enc v pl))))) m (nN c0) (ovl B' m (upd g' 9 (nN 0)) (up2 a' 1 (enc v pl))) F (0 : Int64) (nN 0) = some (mkL (fun k => v (204 + c0) ≠ 0 ∧ k ≠ c0 ∧ v (404 + k) = 0 ∧ v (204 + k) = v (204 + c0)) (v 1), (ovl B' m (upd g' 9 (nN 0)) (up2 a' 1 (enc v pl)))) := fun F hF => by
        refine loop_mk (L := fun fu x k => pl_X7_siblings_28 (fun z22 => some (z22, (ovl B' m (upd g' 9 (nN 0)) (up2 a' 1 (enc v pl))))) m (nN c0) (ovl B' m (upd g' 9 (nN 0)) (up2 a' 1 (enc v pl))) fu x (nN k)) (P := fun k => v (204 + c0) ≠ 0 ∧ k ≠ c0 ∧ v (404 + k) = 0 ∧ v (204 + k) = v (204 + c0)) (fin := fun x => some (x, (ovl B' m (upd g' 9 (nN 0)) (up2 a' 1 (enc v pl))))) (n := v 1) (by omega) (fun fu x k hk => ?_) (fun fu x => ?_) F hF
        · rw [pl_X7_siblings_28]
          have hch := hI.chi k (by omega)
          have e1 := e_isHere (B := B') (m := m) (g := upd g' 9 (nN 0)) (a := up2 a' 1 (enc v pl)) hw hI (c := k) (by omega)
          have or0 : ∀ q : Int64, q ||| (0 : Int64) = q := fun q => lb_ext (fun i hi => by rw [lb_or]; show (lb q i || lb (lN 0) i) = _; rw [lb_lN hi]; simp)
          simp (disch := first | omega | (apply hb; omega)) only [oc, or_0, or_1, or_2, or_3, or_4, oi_5, oi_6, or_7, or_8, oi_9, or_10, or_11, oi_12, oi_13, oi_14, oi_15, oi_16, oi_17, oi_18, oi_19, oi_20, oi_21, or_22, or_23, or_24, oi_25, or_26, oi_27, od_1, od_2, od_3, od_4, od_5, od_6, od_7, od_8, od_9, od_10, od_11, od_12, od_13, bS, rd_nN, nN_lit, nN_add, nN_mul, hw, enc_v, enc_p, nN_le, nN_lt, nN_eq, jn_def, mI_lit, bI_0, bI_1, e_inRange, n01, n10, if_true, if_false, ite_not, nP_P, e1, or0]
          rw [if_neg (by omega)]
          by_cases c2 : k = c0
          · rw [if_pos c2, if_neg (fun z => z.2.1 c2)]
          · rw [if_neg c2]
            by_cases c3 : v (404 + k) = 0
            · rw [if_pos c3]
              by_cases c4 : v (204 + k) = v (204 + c0)
              · rw [if_pos c4, if_pos ⟨c1, c2, c3, c4⟩]
              · rw [if_neg c4, if_neg (fun z => c4 z.2.2.2)]
            · rw [if_neg c3, if_neg (fun z => c3 z.2.2.1)]
        · rw [pl_X7_siblings_28]
          simp (disch := first | omega | (apply hb; omega)) only [oc, or_0, or_1, or_2, or_3, or_4, oi_5, oi_6, or_7, or_8, oi_9, or_10, or_11, oi_12, oi_13, oi_14, oi_15, oi_16, oi_17, oi_18, oi_19, oi_20, oi_21, or_22, or_23, or_24, oi_25, or_26, oi_27, od_1, od_2, od_3, od_4, od_5, od_6, od_7, od_8, od_9, od_10, od_11, od_12, od_13, bS, rd_nN, nN_lit, nN_add, nN_mul, hw, enc_v, enc_p, nN_le, nN_lt, nN_eq, jn_def, mI_lit, bI_0, bI_1, e_inRange, n01, n10, if_true, if_false, ite_not, nP_P]
          rw [if_pos (by omega)]
      have hFU : v 1 < FU := FU_pos (by omega)
      generalize FU = F at hFU ⊢
      exact lp F hFU

end QX
