/-! placeWith -/
section PW
variable {z : Nat} {M : Mem} {v : Nat → Nat} {pl : Nat → Option Nat} {nm : Nat → Nat} {H : Nat → rowT} {n sv : Nat} {S : rowT} {inp : Nat → Nat} {len ec : Nat} {eo : Int32} {out : Nat → Nat} {ol : Nat}
theorem e_placeIn {B : Mem} {m : Nat} {g : Nat → Int32} {a : Nat → Nat → Int32} (hI : Inv v pl) (hZ : ∀ i, 764 ≤ i → v i = 0) {c s k : Nat} (hc : c < v 1) (hs : s < v 0) (hk : k ≤ 40) : ∃ T9, p_X7_placeIn m (nN c) (nN s) (nN k) (ovl B m g (up2 a 1 (enc v pl))) = some (oN (daP (updN v (20 + s) k) c), ovl B m g (up2 (up2 (up2 a 3 (cpF (enc v pl) (a 3) 0 0 764)) 8 T9) 1 (enc v pl))) := by
  have hb := hI.hb; have h0 := hI.h0; have h1 := hI.h1; have h2 := hI.h2; have h7 := hI.h7; have h8 := hI.h8
  have hI1 : Inv (updN v (20 + s) k) pl := hI.w (i := 20 + s) (x := k) (by unfold okW; omega)
  obtain ⟨d1, d2, d3, -, -, -⟩ := da_all hI1
  have d9 : daR (updN v (20 + s) k) 9 ≤ 160 := d1.1.2.2.2.2.2.2
  obtain ⟨T9, e9, -⟩ := e_allocates (B := B) (m := m) (g := g) (a := up2 a 3 (cpF (enc v pl) (a 3) 0 0 764)) hI1
  have e9 : p_X7_allocates m (ovl B m g (up2 (up2 a 3 (cpF (enc v pl) (a 3) 0 0 764)) 1 (enc (updN v (20 + s) k) pl))) = some (nN (daR (updN v (20 + s) k) 9), ovl B m g (up2 (up2 (up2 a 3 (cpF (enc v pl) (a 3) 0 0 764)) 8 T9) 1 (enc (daR (updN v (20 + s) k)) (daP (updN v (20 + s) k))))) := e9
  have ee := e_ends (B := B) (m := m) (g := g) (a := up2 (up2 a 3 (cpF (enc v pl) (a 3) 0 0 764)) 8 T9) (v := v) (pl := pl) (v' := daR (updN v (20 + s) k)) (pl' := daP (updN v (20 + s) k)) hZ (fun i hi => (d2 i (by omega)).trans ((updN_n (by omega)).trans (hZ i hi))) (fun i hi => by rw [up2_n (by decide), up2_s]; exact cpF_3 hi)
  refine ⟨T9, ?_⟩
  unfold p_X7_placeIn
  simp only [jn_def]
  rw [oc, bS, e_begins, bS, or_0, bS, show (20 : Int32) + nN s = nN (20 + s) from nN_add 20 s, ew_v (by omega) (by omega), bS, oc, bS, e9, ob2_def, if_neg (nN_neg0 (by omega)), or_0, bS, show (484 : Int32) + nN c = nN (484 + c) from nN_add 484 c, er_p (by omega), bS, oc, bS, ee, bS]
theorem ch_placeWith (hP : PUR v pl nm H n sv S inp len out ol) (hC : CL0 z (rst M z) v pl nm H n sv S inp len ec eo out ol) (x0 x1 x2 : Int32) : CG z M v pl nm H n sv S inp len ec eo out ol "java/lang/IndexOutOfBoundsException" "java/lang/IllegalArgumentException" (p_X6_placeWith z x0 x1 x2 M) (fun M => p_X7_placeWith (z + 180) x0 x1 x2 M) := by
  have hI : Inv v pl := hP.1.1
  have hZ : ∀ i, 764 ≤ i → v i = 0 := hP.1.2.1
  obtain ⟨nc, nco, ns, nso⟩ := in_cc hI hC
  have hX := (cl_now hC).1
  have hb := hI.hb; have h0 := hI.h0; have h1 := hI.h1; have h2 := hI.h2; have h7 := hI.h7; have h8 := hI.h8
  have key : ∀ x : Int32, (x < 0 ∨ nN (v 1) ≤ x) → CG z M v pl nm H n sv S inp len ec eo out ol "java/lang/IndexOutOfBoundsException" "java/lang/IllegalArgumentException" (p_X6_placeWith z x x1 x2 M) (fun M => p_X7_placeWith (z + 180) x x1 x2 M) := fun x ho => by
    refine Or.inr (Or.inl ⟨?_, fun B g a => ⟨0, ?_⟩⟩)
    · unfold p_X6_placeWith; simp only [hX, bS, nco x ho, obx_r]
    · show p_X7_placeWith _ _ _ _ _ = _
      unfold p_X7_placeWith
      rw [oc, bS, e_no_o hI ho, ob2_def, if_neg (by decide)]
  rcases ixN x0 (n := v 1) (by omega) with ho | ho | ⟨c, hc, rfl⟩
  · exact key _ (Or.inl ho)
  · exact key _ (Or.inr ho)
  clear key
  have key : (x1 < 0 ∨ nN (v 0) ≤ x1) → CG z M v pl nm H n sv S inp len ec eo out ol "java/lang/IndexOutOfBoundsException" "java/lang/IllegalArgumentException" (p_X6_placeWith z (nN c) x1 x2 M) (fun M => p_X7_placeWith (z + 180) (nN c) x1 x2 M) := fun ho => by
    refine Or.inr (Or.inl ⟨?_, fun B g a => ⟨0, ?_⟩⟩)
    · unfold p_X6_placeWith; rw [hX, bS, nc c hc, obx_l, bS, nso x1 ho, obx_r]
    · show p_X7_placeWith _ _ _ _ _ = _
      unfold p_X7_placeWith
      rw [oc, bS, e_no_p hI hc ho, ob2_def, if_neg (by decide)]
  rcases ixN x1 (n := v 0) (by omega) with ho | ho | ⟨s, hs, rfl⟩
  · exact key (Or.inl ho)
  · exact key (Or.inr ho)
  clear key
  have key : (x2 < 0 ∨ nN 41 ≤ x2) → CG z M v pl nm H n sv S inp len ec eo out ol "java/lang/IndexOutOfBoundsException" "java/lang/IllegalArgumentException" (p_X6_placeWith z (nN c) (nN s) x2 M) (fun M => p_X7_placeWith (z + 180) (nN c) (nN s) x2 M) := fun ho => by
    have nd : p_X6_needCapacity x2 M = some (.inr "java/lang/IllegalArgumentException") := by
      unfold p_X6_needCapacity
      rcases ho with ho | ho
      · rw [if_pos ho]
      · have : ¬ x2 ≤ (40 : Int32) := by
          rw [i_le] at ho ⊢
          have : (nN 41).toInt = 41 := rfl
          have : (40 : Int32).toInt = 40 := rfl
          omega
        by_cases c : x2 < 0
        · rw [if_pos c]
        · rw [if_neg c, if_neg this]
    refine Or.inr (Or.inr ⟨?_, fun B g a => ⟨0, ?_⟩⟩)
    · unfold p_X6_placeWith; rw [hX, bS, nc c hc, obx_l, bS, ns s hs, obx_l, nd, obx_r]
    · show p_X7_placeWith _ _ _ _ _ = _
      unfold p_X7_placeWith
      simp only [jn_def]
      rw [oc, bS, e_no hI hc hs, ob2_def, if_pos (by rfl)]
      have ri := rng_out2 (n := 40) (M := ovl B (z + 180) (upd g 9 (nN 0)) (up2 a 1 (enc v pl))) (by omega) ho
      rw [show (0 : Int32) = nN 0 from rfl, show (40 : Int32) = nN 40 from rfl, ri, bS, if_pos (by rfl), oc, bS, show (1 : Int32) = nN 1 from rfl, fa_1, ob2_def, if_neg (by decide), upd_2]
      rfl
  rcases ixN x2 (n := 41) (by omega) with ho | ho | ⟨k, hk, rfl⟩
  · exact key (Or.inl ho)
  · exact key (Or.inr ho)
  clear key
  have nd : p_X6_needCapacity (nN k) M = some (.inl ()) := by
    unfold p_X6_needCapacity
    rw [if_neg (nN_neg0 (by omega)), if_pos (show nN k ≤ (40 : Int32) from nle_t (b := 40) (by omega) (by omega) (by omega))]
  have hI1 : Inv (updN v (20 + s) k) pl := hI.w (i := 20 + s) (x := k) (by unfold okW; omega)
  obtain ⟨d1, d2, d3, -, -, -⟩ := da_all hI1
  have dv1 : daR (updN v (20 + s) k) 1 = v 1 := (d2 1 (by omega)).trans (updN_n (by omega))
  obtain ⟨rn, bn, tn, tbn, g, h, ar, u, ta, M2, g0, h0', ar0, e3, r3, r4, i2, hG, hR, hT, hQ, R0, ⟨T, hTq⟩, hA⟩ := cl_tri hI hC
  rw [hTq] at e3
  have R1 := hR.cap h0 h1 (c := s) (x := k) (by omega)
  have T1 : TG u ta (updN v (20 + s) k) (cdS nm) := hT.same (sameT.w (by omega)) h0 (fun s hs => (hI.sch s hs).2.2.2.1)
  obtain ⟨g1, h1', ar1, Tq, q1, R2, -⟩ := c_run M2 hG R1 T1 hI1 hQ (T := T)
  obtain ⟨b3, b4, b1, b5, bR, bC, bO⟩ := hA g1 h1' ar1 Tq
  refine Or.inl ⟨oN (daP (updN v (20 + s) k) c), _, ?_, cgv_t hP hC bC bO (fun B g a hF => ?_)⟩
  · have hA1 := hA g h (up2 ar 7 (upd (ar 7) s (nN k))) T
    have wT : aI 0 (ofc (ovq M2 (z + 24) Tq) (z + 49) (z + 50) tn tbn g1 h1' ar1 u ta) (z + 50 + 5) (nN c) = some (oN (daP (updN v (20 + s) k) c)) := by
      rw [fd_5 hG, rd_nN (by omega) (by omega), R2.a5 (c := c) (by show c < daR (updN v (20 + s) k) 1; omega)]
      rfl
    unfold p_X6_placeWith
    rw [hX, bS, nc c hc, obx_l, bS, ns s hs, obx_l, nd, obx_l, r4, bS, r3, bS, i2, bS, e3, bS, (hA g h ar T).2.1, bS, fv_18, bS, fe_7 hG, wr_nN (by omega) (by omega), Option.map_some, bS, hA1.2.2.1, bS, hA1.2.1, bS, q_C hQ, bS, q1, bS, b4, bS, fv_16, bS, wT, bS]
  · have hF0 := hF.g9 (c := nN 0)
    obtain ⟨T9, e9⟩ := e_placeIn (B := B) (m := z + 180) (g := upd g 9 (nN 0)) (a := a) hI hZ hc hs (k := k) (by omega)
    refine ⟨upd g 9 (nN 0), up2 (up2 a 3 (cpF (enc v pl) (a 3) 0 0 764)) 8 T9, ?_, (hF0.a_ (by omega)).a_ (by omega), pk_us⟩
    show p_X7_placeWith _ _ _ _ _ = _
    unfold p_X7_placeWith
    simp only [jn_def]
    have ri := rng_in2 (c := k) (n := 40) (M := ovl B (z + 180) (upd g 9 (nN 0)) (up2 a 1 (enc v pl))) (by omega) (by omega)
    rw [oc, bS, e_no hI hc hs, ob2_def, if_pos (by rfl)]
    rw [show (0 : Int32) = nN 0 from rfl, show (40 : Int32) = nN 40 from rfl, ri, bS, if_neg (by decide), oc, bS, fa_0, ob2_def, if_pos (by rfl), oc, bS, e9, ob2_def]
end PW
section KC
variable {L : Nat} {xs : Nat → Int32} {i0 : Int32} {x : Nat → Int32} {z : Nat} {M : Mem}
theorem k_49 (hO : OFF z M) (hx : xIs L xs i0 x) : ∃ M', pk_49 L xs z (z + 180) (z + 194) (z + 195) i0 M = some M' ∧ OFF z M' := by
  obtain ⟨-, hx1, hx2, hx3, hx4, hx5⟩ := hx
  obtain ⟨v, pl, nm, H, n, sv, S, inp, len, ec, eo, out, ol, hP, hC, hX, hX6, hV, hE⟩ := off_w hO
  rcases ch_placeWith hP hC (x 1) (x 2) (x 3) with ⟨val, M1, e6, hv⟩ | ⟨e6, hv⟩ | ⟨e6, hv⟩
  · obtain ⟨⟨f0, hod⟩, hq⟩ := hV val M1 _ hv
    obtain ⟨o1, M2, o2, o3, o4, o5, o6⟩ := hq (vp_updL f0 0 (Int32.toInt64 val))
    refine ⟨M2, ?_, o3⟩
    have el : p_L_placeWith z (x 1) (x 2) (x 3) (z + 194) M = some (0, upM M1 (z + 194) (.inl (2, 1, .inr (.inl (vp_updL f0 0 (Int32.toInt64 val)))))) := by
      unfold p_L_placeWith
      rw [hX, bS, e6, ctc2_l, aLs_od hod, bS]
    unfold pk_49
    have eL := aL_od o6
    simp only [hx1, hx2, hx3, bS, el, ob2_def, o1, o2, o4, o5, eq_self, if_true, eL, lgc_self]
  · obtain ⟨y, M2, o2, o3, o4, o5⟩ := hE 1 _ hv
    refine ⟨M2, ?_, o3⟩
    have el : p_L_placeWith z (x 1) (x 2) (x 3) (z + 194) M = some (nN 1, M) := by
      unfold p_L_placeWith
      rw [hX, bS, e6, ctc2_r, if_pos rfl]
      rfl
    unfold pk_49
    simp only [hx1, hx2, hx3, bS, el, ob2_def, hX6, o2, o4, o5, eq_self, if_true]
    rw [if_neg (by decide)]
  · obtain ⟨y, M2, o2, o3, o4, o5⟩ := hE 2 _ hv
    refine ⟨M2, ?_, o3⟩
    have el : p_L_placeWith z (x 1) (x 2) (x 3) (z + 194) M = some (nN 2, M) := by
      unfold p_L_placeWith
      rw [hX, bS, e6, ctc2_r, if_neg (by decide), if_pos rfl]
      rfl
    unfold pk_49
    simp only [hx1, hx2, hx3, bS, el, ob2_def, hX6, o2, o4, o5, eq_self, if_true]
    rw [if_neg (by decide)]
end KC
