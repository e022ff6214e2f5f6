section CHB
variable {z : Nat} {M : Mem} {v : Nat → Nat} {pl : Nat → Option Nat} {nm : Nat → Nat} {H : Nat → rowT} {n sv : Nat} {S : rowT} {inp : Nat → Nat} {len ec : Nat} {eo : Int32} {out : Nat → Nat} {ol : Nat}
theorem e_isH {B : Mem} {m : Nat} {g : Nat → Int32} {a : Nat → Nat → Int32} : True := trivial
theorem ch_giveBack (hP : PUR v pl nm H n sv S inp len out ol) (hC : CL0 z (rst M z) v pl nm H n sv S inp len ec eo out ol) (x0 : Int32) : CG z M v pl nm H n sv S inp len ec eo out ol "java/lang/IndexOutOfBoundsException" "java/lang/IllegalStateException" (p_X6_giveBack z x0 M) (fun M => p_X7_giveBack (z + 180) x0 M) := by
  have hI : Inv v pl := hP.1.1
  obtain ⟨nc, nco, ns, nso⟩ := in_cc hI hC
  obtain ⟨hX, r, b, t, tb, g, h, ar, u, ta, hM, hr, hG, hR, hT, -⟩ := cl_qry hI hC
  have hb := hI.hb; have h0 := hI.h0; have h1 := hI.h1; have h2 := hI.h2; have h7 := hI.h7; have h8 := hI.h8
  have key : ∀ x : Int32, (x < 0 ∨ nN (v 1) ≤ x) → CG z M v pl nm H n sv S inp len ec eo out ol "java/lang/IndexOutOfBoundsException" "java/lang/IllegalStateException" (p_X6_giveBack z x M) (fun M => p_X7_giveBack (z + 180) x M) := fun x ho => by
    refine Or.inr (Or.inl ⟨?_, fun B g a => ⟨0, ?_⟩⟩)
    · unfold p_X6_giveBack; simp only [hX, bS, nco x ho, obx_r]
    · show p_X7_giveBack _ _ _ = _
      unfold p_X7_giveBack
      rw [oc, bS, e_nc_o hI ho, ob2_def, if_neg (by decide)]
  rcases ixN x0 (n := v 1) (by omega) with ho | ho | ⟨c, hc, rfl⟩
  · exact key _ (Or.inl ho)
  · exact key _ (Or.inr ho)
  clear key
  have hch := hI.chi c (by omega)
  have f16 : gR 2 16 M r = some (b + 5) := by rw [hM]; exact fv_16
  have f5 : aI 0 M (b + 5) (nN c) = some (oN (pl c)) := by rw [hM, fd_5 hG, rd_nN (by omega) (by omega), hR.a5 hc]
  cases hp : pl c with
  | none =>
    rw [hp] at f5
    refine Or.inr (Or.inr ⟨?_, fun B g a => ⟨0, ?_⟩⟩)
    · unfold p_X6_giveBack
      rw [hX, bS, nc c hc, obx_l, hr, bS, f16, bS, f5, bS, if_pos (show oN none = (-1 : Int32) from rfl)]
    · show p_X7_giveBack _ _ _ = _
      unfold p_X7_giveBack
      simp only [jn_def]
      rw [oc, bS, e_nc hI hc, ob2_def, if_pos (by rfl), or_0, bS, show (484 : Int32) + nN c = nN (484 + c) from nN_add 484 c]
      rw [er_p (by omega), bS, hp, if_pos (show oN none = (-1 : Int32) from rfl), oc, bS, fa1, ob2_def, if_neg (by decide), upd_2]
      rfl
  | some s =>
    obtain ⟨i, hi⟩ := got_ex hI hp
    have i4 := got_b hI hc hi
    have s8 := hI.pl8 c s hp
    have hle : i < v (324 + c) := by
      unfold gotO at hi
      rw [hp] at hi; exact wis_lt hi
    have e5 : ¬ oN (pl c) = (-1 : Int32) := by rw [hp]; exact nNm (by omega)
    have hI1 : Inv (if i = 0 then updN (updN v (444 + c) 0) (404 + c) 1 else updN (updN v (444 + c) 0) (324 + c) i) (updO pl c none) := by
      have hI0 := (hI.w (i := 444 + c) (x := 0) (by unfold okW; omega)).pn (c := c)
      by_cases ci : i = 0
      · rw [if_pos ci]
        exact hI0.gone (by omega) (by omega) updO_s
      · rw [if_neg ci]
        exact hI0.many (by omega) (by rw [updN_n (by omega)]; omega) updO_s
    suffices hcg : ∃ M1, (p_X6_giveBack z (nN c) M = some (.inl (oN (pl c), M1))) ∧ CGv z M v pl nm H n sv S inp len ec eo out ol (oN (pl c)) M1 (fun M => p_X7_giveBack (z + 180) (nN c) M) by
      obtain ⟨M1, hX1, hV⟩ := hcg
      exact Or.inl ⟨_, _, hX1, hV⟩
    refine cg_in hP hC (v1 := if i = 0 then updN (updN v (444 + c) 0) (404 + c) 1 else updN (updN v (444 + c) 0) (324 + c) i) (pl1 := updO pl c none) (X := fun M4 => p_X6_giveBack z (nN c) M = some (.inl (oN (pl c), M4))) ?_ ?_ ?_ ?_ ?_
    · exact hI1
    · intro j hj
      by_cases ci : i = 0
      · rw [if_pos ci, updN_n (by omega), updN_n (by omega)]; exact hP.1.2.1 j hj
      · rw [if_neg ci, updN_n (by omega), updN_n (by omega)]; exact hP.1.2.1 j hj
    · by_cases ci : i = 0
      · rw [if_pos ci]; exact (sameT.w (by omega)).t (sameT.w (by omega))
      · rw [if_neg ci]; exact (sameT.w (by omega)).t (sameT.w (by omega))
    · intro M2 r2 b2 t2 tb2 g2 h2' ar2 u2 ta2 hg hG2 hR2 hT2 e
      obtain ⟨g', h', ar', f1, R1⟩ := c_handBack M2 hG2 hR2 hT2 hI hc hi
      refine ⟨g', h', ar', R1, fun M4 f4 => ?_⟩
      unfold p_X6_giveBack
      rw [hX, bS, nc c hc, obx_l, hr, bS, f16, bS, f5, bS, if_neg e5]
      simp only [hX, bS, e, (hg _ _ _).1, fv_isC, f1, f4]
    · intro B g a g2 a2 e
      refine ⟨g2, a2, fun h => h, rfl, fun M4 f4 => ?_⟩
      show p_X7_giveBack _ _ _ = _
      unfold p_X7_giveBack
      simp only [jn_def]
      rw [oc, bS, e_nc hI hc, ob2_def, if_pos (by rfl), or_0, bS, show (484 : Int32) + nN c = nN (484 + c) from nN_add 484 c]
      rw [er_p (by omega), bS, if_neg e5, oc, bS, fa0, ob2_def, if_pos (by rfl), oc, bS, e, bS, or_0, bS, er_p (by omega), bS, oc, bS, e_gotOf up2_s hI hc, bS, hi]
      by_cases ci : i = 0
      · rw [if_pos ci] at f4
        rw [ci, if_pos (show oN (some 0) = (0 : Int32) from rfl), bS, e_goes (by omega), bS, oc, bS, f4, bS]
      · rw [if_neg ci] at f4
        rw [if_neg (show ¬ oN (some i) = (0 : Int32) from neq_f (b := 0) (by omega) (by omega) ci), bS, show oN (some i) = nN i from rfl, show (324 : Int32) + nN c = nN (324 + c) from nN_add 324 c, ew_v (by omega) (by omega), bS, oc, bS]
        have ep := e_puts (B := B) (m := z + 180) (g := g2) (a := a2) (v := updN v (324 + c) i) (pl := pl) (c := c) (x := 0) (p := none) (by omega)
        rw [updN_sw (by omega)] at ep
        rw [show (-1 : Int32) = oN none from rfl, show (0 : Int32) = nN 0 from rfl, ep, bS, oc, bS, f4, bS]
theorem ch_setCapacity (hP : PUR v pl nm H n sv S inp len out ol) (hC : CL0 z (rst M z) v pl nm H n sv S inp len ec eo out ol) (x0 x1 : Int32) : CG z M v pl nm H n sv S inp len ec eo out ol "java/lang/IndexOutOfBoundsException" "java/lang/IllegalArgumentException" (p_X6_setCapacity z x0 x1 M) (fun M => p_X7_setCapacity (z + 180) x0 x1 M) := by
  have hI : Inv v pl := hP.1.1
  obtain ⟨nc, nco, ns, nso⟩ := in_cc hI hC
  obtain ⟨hX, r, b, t, tb, g, h, ar, u, ta, hM, hr, hG, hR, hT, -⟩ := cl_qry hI hC
  have hb := hI.hb; have h0 := hI.h0; have h1 := hI.h1; have h2 := hI.h2; have h7 := hI.h7; have h8 := hI.h8
  have key : ∀ x : Int32, (x < 0 ∨ nN (v 0) ≤ x) → CG z M v pl nm H n sv S inp len ec eo out ol "java/lang/IndexOutOfBoundsException" "java/lang/IllegalArgumentException" (p_X6_setCapacity z x x1 M) (fun M => p_X7_setCapacity (z + 180) x x1 M) := fun x ho => by
    refine Or.inr (Or.inl ⟨?_, fun B g a => ⟨0, ?_⟩⟩)
    · unfold p_X6_setCapacity; simp only [hX, bS, nso x ho, obx_r]
    · show p_X7_setCapacity _ _ _ _ = _
      unfold p_X7_setCapacity
      rw [oc, bS, e_ns_o hI ho, ob2_def, if_neg (by decide)]
  rcases ixN x0 (n := v 0) (by omega) with ho | ho | ⟨s, hs, rfl⟩
  · exact key _ (Or.inl ho)
  · exact key _ (Or.inr ho)
  clear key
  have key : (x1 < 0 ∨ nN 41 ≤ x1) → CG z M v pl nm H n sv S inp len ec eo out ol "java/lang/IndexOutOfBoundsException" "java/lang/IllegalArgumentException" (p_X6_setCapacity z (nN s) x1 M) (fun M => p_X7_setCapacity (z + 180) (nN s) x1 M) := fun ho => by
    have nd : p_X6_needCapacity x1 M = some (.inr "java/lang/IllegalArgumentException") := by
      unfold p_X6_needCapacity
      rcases ho with ho | ho
      · rw [if_pos ho]
      · have : ¬ x1 ≤ (40 : Int32) := by
          rw [i_le] at ho ⊢
          have : (nN 41).toInt = 41 := rfl
          have : (40 : Int32).toInt = 40 := rfl
          omega
        by_cases c : x1 < 0
        · rw [if_pos c]
        · rw [if_neg c, if_neg this]
    refine Or.inr (Or.inr ⟨?_, fun B g a => ⟨0, ?_⟩⟩)
    · unfold p_X6_setCapacity; rw [hX, bS, ns s hs, obx_l, nd, obx_r]
    · show p_X7_setCapacity _ _ _ _ = _
      unfold p_X7_setCapacity
      simp only [jn_def]
      rw [oc, bS, e_ns hI hs, ob2_def, if_pos (by rfl)]
      have ri := rng_out2 (n := 40) (M := ovl B (z + 180) (upd g 9 (nN 0)) (up2 a 1 (enc v pl))) (by omega) ho
      rw [show (0 : Int32) = nN 0 from rfl, show (40 : Int32) = nN 40 from rfl, ri, bS, if_pos (by rfl), oc, bS, show (1 : Int32) = nN 1 from rfl, fa_1, ob2_def, if_neg (by decide), upd_2]
      rfl
  rcases ixN x1 (n := 41) (by omega) with ho | ho | ⟨k, hk, rfl⟩
  · exact key (Or.inl ho)
  · exact key (Or.inr ho)
  clear key
  have nd : p_X6_needCapacity (nN k) M = some (.inl ()) := by
    unfold p_X6_needCapacity
    rw [if_neg (nN_neg0 (by omega)), if_pos (show nN k ≤ (40 : Int32) from nle_t (b := 40) (by omega) (by omega) (by omega))]
  suffices hcg : ∃ M1, (p_X6_setCapacity z (nN s) (nN k) M = some (.inl (nN (v (20 + s)), M1))) ∧ CGv z M v pl nm H n sv S inp len ec eo out ol (nN (v (20 + s))) M1 (fun M => p_X7_setCapacity (z + 180) (nN s) (nN k) M) by
    obtain ⟨M1, hX1, hV⟩ := hcg
    exact Or.inl ⟨_, _, hX1, hV⟩
  refine cg_in hP hC (v1 := updN v (20 + s) k) (pl1 := pl) (X := fun M4 => p_X6_setCapacity z (nN s) (nN k) M = some (.inl (nN (v (20 + s)), M4))) ?_ ?_ ?_ ?_ ?_
  · exact hI.w (i := 20 + s) (x := k) (by unfold okW; omega)
  · intro j hj; rw [updN_n (by omega)]; exact hP.1.2.1 j hj
  · exact sameT.w (by omega)
  · intro M2 r2 b2 t2 tb2 g2 h2' ar2 u2 ta2 hg hG2 hR2 hT2 e
    refine ⟨g2, h2', _, hR2.cap h0 h1 (c := s) (x := k) (by omega), fun M4 f4 => ?_⟩
    unfold p_X6_setCapacity
    rw [hX, bS, ns s hs, obx_l, nd, obx_l, bS, e, bS]
    simp (disch := omega) only [bS, (hg _ _ _).1, fv_18, fd_7 hG2, fe_7 hG2, rd_nN, wr_nN, Option.map_some, hR2.a7, fv_isC, f4]
  · intro B g a g2 a2 e
    refine ⟨g2, a2, fun h => h, rfl, fun M4 f4 => ?_⟩
    show p_X7_setCapacity _ _ _ _ = _
    unfold p_X7_setCapacity
    simp only [jn_def]
    have ri := rng_in2 (c := k) (n := 40) (M := ovl B (z + 180) (upd g 9 (nN 0)) (up2 a 1 (enc v pl))) (by omega) (by omega)
    rw [oc, bS, e_ns hI hs, ob2_def, if_pos (by rfl)]
    rw [show (0 : Int32) = nN 0 from rfl, show (40 : Int32) = nN 40 from rfl, ri, bS, if_neg (by decide), oc, bS, fa_0, ob2_def, if_pos (by rfl), oc, bS, e, bS, or_0, bS, show (20 : Int32) + nN s = nN (20 + s) from nN_add 20 s]
    rw [er_v (by omega) (by omega), bS, bS, ew_v (by omega) (by omega), bS, oc, bS, f4, bS]
end CHB
section KC
variable {L : Nat} {xs : Nat → Int32} {i0 : Int32} {x : Nat → Int32} {z : Nat} {M : Mem}
theorem k_25 (hO : OFF z M) (hx : xIs L xs i0 x) : ∃ M', pk_25 L xs z (z + 180) (z + 194) (z + 195) i0 M = some M' ∧ OFF z M' := by
  obtain ⟨-, hx1, hx2, hx3, hx4, hx5⟩ := hx
  obtain ⟨v, pl, nm, H, n, sv, S, inp, len, ec, eo, out, ol, hP, hC, hX, hX6, hV, hE⟩ := off_w hO
  rcases ch_giveBack hP hC (x 1) with ⟨val, M1, e6, hv⟩ | ⟨e6, hv⟩ | ⟨e6, hv⟩
  · obtain ⟨⟨f0, hod⟩, hq⟩ := hV val M1 _ hv
    obtain ⟨o1, M2, o2, o3, o4, o5, o6⟩ := hq (vp_updL f0 0 (Int32.toInt64 val))
    refine ⟨M2, ?_, o3⟩
    have el : p_L_giveBack z (x 1) (z + 194) M = some (0, upM M1 (z + 194) (.inl (2, 1, .inr (.inl (vp_updL f0 0 (Int32.toInt64 val)))))) := by
      unfold p_L_giveBack
      rw [hX, bS, e6, ctc2_l, aLs_od hod, bS]
    unfold pk_25
    have eL := aL_od o6
    simp only [hx1, bS, el, ob2_def, o1, o2, o4, o5, eq_self, if_true, eL, lgc_self]
  · obtain ⟨y, M2, o2, o3, o4, o5⟩ := hE 1 _ hv
    refine ⟨M2, ?_, o3⟩
    have el : p_L_giveBack z (x 1) (z + 194) M = some (nN 1, M) := by
      unfold p_L_giveBack
      rw [hX, bS, e6, ctc2_r, if_pos rfl]
      rfl
    unfold pk_25
    simp only [hx1, bS, el, ob2_def, hX6, o2, o4, o5, eq_self, if_true]
    rw [if_neg (by decide)]
  · obtain ⟨y, M2, o2, o3, o4, o5⟩ := hE 2 _ hv
    refine ⟨M2, ?_, o3⟩
    have el : p_L_giveBack z (x 1) (z + 194) M = some (nN 2, M) := by
      unfold p_L_giveBack
      rw [hX, bS, e6, ctc2_r, if_neg (by decide), if_pos rfl]
      rfl
    unfold pk_25
    simp only [hx1, bS, el, ob2_def, hX6, o2, o4, o5, eq_self, if_true]
    rw [if_neg (by decide)]
theorem k_27 (hO : OFF z M) (hx : xIs L xs i0 x) : ∃ M', pk_27 L xs z (z + 180) (z + 194) (z + 195) i0 M = some M' ∧ OFF z M' := by
  obtain ⟨-, hx1, hx2, hx3, hx4, hx5⟩ := hx
  obtain ⟨v, pl, nm, H, n, sv, S, inp, len, ec, eo, out, ol, hP, hC, hX, hX6, hV, hE⟩ := off_w hO
  rcases ch_setCapacity hP hC (x 1) (x 2) with ⟨val, M1, e6, hv⟩ | ⟨e6, hv⟩ | ⟨e6, hv⟩
  · obtain ⟨⟨f0, hod⟩, hq⟩ := hV val M1 _ hv
    obtain ⟨o1, M2, o2, o3, o4, o5, o6⟩ := hq (vp_updL f0 0 (Int32.toInt64 val))
    refine ⟨M2, ?_, o3⟩
    have el : p_L_setCapacity z (x 1) (x 2) (z + 194) M = some (0, upM M1 (z + 194) (.inl (2, 1, .inr (.inl (vp_updL f0 0 (Int32.toInt64 val)))))) := by
      unfold p_L_setCapacity
      rw [hX, bS, e6, ctc2_l, aLs_od hod, bS]
    unfold pk_27
    have eL := aL_od o6
    simp only [hx1, hx2, bS, el, ob2_def, o1, o2, o4, o5, eq_self, if_true, eL, lgc_self]
  · obtain ⟨y, M2, o2, o3, o4, o5⟩ := hE 1 _ hv
    refine ⟨M2, ?_, o3⟩
    have el : p_L_setCapacity z (x 1) (x 2) (z + 194) M = some (nN 1, M) := by
      unfold p_L_setCapacity
      rw [hX, bS, e6, ctc2_r, if_pos rfl]
      rfl
    unfold pk_27
    simp only [hx1, hx2, bS, el, ob2_def, hX6, o2, o4, o5, eq_self, if_true]
    rw [if_neg (by decide)]
  · obtain ⟨y, M2, o2, o3, o4, o5⟩ := hE 2 _ hv
    refine ⟨M2, ?_, o3⟩
    have el : p_L_setCapacity z (x 1) (x 2) (z + 194) M = some (nN 2, M) := by
      unfold p_L_setCapacity
      rw [hX, bS, e6, ctc2_r, if_neg (by decide), if_pos rfl]
      rfl
    unfold pk_27
    simp only [hx1, hx2, bS, el, ob2_def, hX6, o2, o4, o5, eq_self, if_true]
    rw [if_neg (by decide)]
end KC
