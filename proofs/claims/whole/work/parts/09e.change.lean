section CHE
variable {z : Nat} {M : Mem} {v : Nat → Nat} {pl : Nat → Option Nat} {nm : Nat → Nat} {H : Nat → rowT} {n sv : Nat} {S : rowT} {inp : Nat → Nat} {len ec : Nat} {eo : Int32} {out : Nat → Nat} {ol : Nat}
theorem hea_S {c s : Nat} (hI : Inv v pl) (hc : c < v 1) (hw : waiB v pl c s = true) : Inv (heaV v pl c s) (heaP v pl c s) ∧ (∀ i, 764 ≤ i → heaV v pl c s i = v i) ∧ sameT v (heaV v pl c s) := by
  have h1 := hI.h1
  obtain ⟨w8, wg, i, -, w1, w2⟩ := wai_wis hw
  have s8 : s < 8 := by have := hI.wis c hc i w1; have := hI.h0; omega
  have b6 := hI.1.2.2.2.1
  unfold heaV heaP
  by_cases c1 : clmB v pl c s = true
  · rw [if_pos c1, if_pos (Or.inl c1)]
    exact ⟨(hI.ps hc wg w1 w2).w (by unfold okW; omega), fun i hi => updN_n (by omega), sameT.w (by omega)⟩
  · rw [if_neg c1]
    by_cases c2 : v (60 + s) < v 6
    · rw [if_pos c2, if_pos (Or.inr c2)]
      exact ⟨((hI.ps hc wg w1 w2).w (i := 60 + s) (by unfold okW; omega)).w (by unfold okW; omega), fun i hi => by rw [updN_n (by omega), updN_n (by omega)], (sameT.w (by omega)).t (sameT.w (by omega))⟩
    · rw [if_neg c2, if_neg (by intro q; rcases q with q | q; exact c1 q; exact c2 q)]
      exact ⟨hI, fun _ _ => rfl, sameT.r _⟩
theorem ch_appeal (hP : PUR v pl nm H n sv S inp len out ol) (hC : CL0 z (rst M z) v pl nm H n sv S inp len ec eo out ol) (x0 x1 : Int32) : CG z M v pl nm H n sv S inp len ec eo out ol "java/lang/IndexOutOfBoundsException" "java/lang/IllegalStateException" (p_X6_appeal z x0 x1 M) (fun M => p_X7_appeal (z + 180) x0 x1 M) := by
  have hI : Inv v pl := hP.1.1
  obtain ⟨nc, nco, ns, nso⟩ := in_cc hI hC
  obtain ⟨hX, r, b, t, tb, g, h, ar, u, ta, hM, hr, hG, hR, hT, -⟩ := cl_qry hI hC
  have hb := hI.hb; have h0 := hI.h0; have h1 := hI.h1; have h2 := hI.h2; have h7 := hI.h7; have h8 := hI.h8
  have key : ∀ x : Int32, (x < 0 ∨ nN (v 1) ≤ x) → CG z M v pl nm H n sv S inp len ec eo out ol "java/lang/IndexOutOfBoundsException" "java/lang/IllegalStateException" (p_X6_appeal z x x1 M) (fun M => p_X7_appeal (z + 180) x x1 M) := fun x ho => by
    refine Or.inr (Or.inl ⟨?_, fun B g a => ⟨0, ?_⟩⟩)
    · unfold p_X6_appeal; simp only [hX, bS, nco x ho, obx_r]
    · show p_X7_appeal _ _ _ _ = _
      unfold p_X7_appeal
      rw [oc, bS, e_no_o hI ho, ob2_def, if_neg (by decide)]
  rcases ixN x0 (n := v 1) (by omega) with ho | ho | ⟨c, hc, rfl⟩
  · exact key _ (Or.inl ho)
  · exact key _ (Or.inr ho)
  clear key
  have key : (x1 < 0 ∨ nN (v 0) ≤ x1) → CG z M v pl nm H n sv S inp len ec eo out ol "java/lang/IndexOutOfBoundsException" "java/lang/IllegalStateException" (p_X6_appeal z (nN c) x1 M) (fun M => p_X7_appeal (z + 180) (nN c) x1 M) := fun ho => by
    refine Or.inr (Or.inl ⟨?_, fun B g a => ⟨0, ?_⟩⟩)
    · unfold p_X6_appeal; rw [hX, bS, nc c hc, obx_l, bS, nso x1 ho, obx_r]
    · show p_X7_appeal _ _ _ _ = _
      unfold p_X7_appeal
      rw [oc, bS, e_no_p hI hc ho, ob2_def, if_neg (by decide)]
  rcases ixN x1 (n := v 0) (by omega) with ho | ho | ⟨s, hs, rfl⟩
  · exact key (Or.inl ho)
  · exact key (Or.inr ho)
  clear key
  have hch := hI.chi c (by omega)
  have w6 : p_X2_waits r (nN c) (nN s) M = some (bI (waiB v pl c s = true)) := by rw [hM]; exact c_waits M hG hR hT hI hc (by omega)
  have i2 : isC 2 M r = some () := by rw [hM]; exact fv_isC
  by_cases hw : waiB v pl c s = true
  · obtain ⟨hI1, hZ1, hT1⟩ := hea_S hI hc hw
    suffices hcg : ∃ M1, (p_X6_appeal z (nN c) (nN s) M = some (.inl (nN (heaS v pl c s), M1))) ∧ CGv z M v pl nm H n sv S inp len ec eo out ol (nN (heaS v pl c s)) M1 (fun M => p_X7_appeal (z + 180) (nN c) (nN s) M) by
      obtain ⟨M1, hX1, hV⟩ := hcg
      exact Or.inl ⟨_, _, hX1, hV⟩
    refine cg_in hP hC (v1 := heaV v pl c s) (pl1 := heaP v pl c s) (X := fun M4 => p_X6_appeal z (nN c) (nN s) M = some (.inl (nN (heaS v pl c s), M4))) ?_ ?_ ?_ ?_ ?_
    · exact hI1
    · intro j hj; rw [hZ1 j hj]; exact hP.1.2.1 j hj
    · exact hT1
    · intro M2 r2 b2 t2 tb2 g2 h2' ar2 u2 ta2 hg hG2 hR2 hT2 e
      obtain ⟨g', h', ar', f1, R1⟩ := c_hearAppeal M2 hG2 hR2 hT2 hI hc hs
      refine ⟨g', h', ar', R1, fun M4 f4 => ?_⟩
      unfold p_X6_appeal
      rw [hX, bS, nc c hc, obx_l, bS, ns s hs, obx_l, hr, bS, i2, bS, w6, bS, if_neg (by rw [← bI_t hw]; decide), bS, e, bS, (hg _ _ _).1, bS, fv_isC, bS, f1, ob2_def, (hg _ _ _).1, bS, fv_isC, bS, f4, bS]
    · intro B g a g2 a2 e
      refine ⟨g2, a2, fun h => h, rfl, fun M4 f4 => ?_⟩
      show p_X7_appeal _ _ _ _ = _
      unfold p_X7_appeal
      simp only [jn_def]
      rw [oc, bS, e_no hI hc hs, ob2_def, if_pos (by rfl), oc, bS, e_waits up2_s hI hc (by omega), bS, if_neg (by rw [← bI_t hw]; decide), bS, fa0, ob2_def, if_pos (by rfl), oc, bS, e, bS, oc, bS, e_claims up2_s hI hc (by omega), bS]
      have ep := fun (w : Nat → Nat) => e_puts (B := B) (m := z + 180) (g := g2) (a := a2) (v := w) (pl := pl) (c := c) (x := 1) (p := some s) (by omega)
      have b6 := hI.1.2.2.2.1
      have b60 := hb (60 + s) (by omega)
      by_cases c1 : clmB v pl c s = true
      · rw [show heaV v pl c s = updN v (444 + c) 1 from if_pos c1, show heaP v pl c s = updO pl c (some s) from if_pos (Or.inl c1)] at f4
        rw [if_neg (by rw [← bI_t c1]; decide), if_neg (by decide), if_neg (by decide), bS, show (1 : Int32) = nN 1 from rfl, show nN s = oN (some s) from rfl, ep, bS, oc, bS, f4, bS, show heaS v pl c s = 2 from if_pos c1]
        rfl
      · rw [if_pos (by rw [← bI_f c1]; rfl), or_0, bS, show (60 : Int32) + nN s = nN (60 + s) from nN_add 60 s, er_v (by omega) (by omega), bS, bS, show (6 : Int32) = nN 6 from rfl, er_v (by omega) (by omega), bS]
        by_cases c2 : v (60 + s) < v 6
        · rw [show heaV v pl c s = updN (updN v (60 + s) (v (60 + s) + 1)) (444 + c) 1 from (if_neg c1).trans (if_pos c2), show heaP v pl c s = updO pl c (some s) from if_pos (Or.inr c2)] at f4
          rw [if_neg (nle_f (by omega) (by omega) (by omega)), if_pos trivial, bS, er_v (by omega) (by omega), bS, show nN (v (60 + s)) + (1 : Int32) = nN (v (60 + s) + 1) from nN_add _ 1, ew_v (by omega) (by omega), bS, if_neg (by decide), oc, bS, show (1 : Int32) = nN 1 from rfl, show nN s = oN (some s) from rfl, ep, bS, oc, bS, f4, bS, show heaS v pl c s = 1 from (if_neg c1).trans (if_pos c2)]
        · have e3 : ¬ (clmB v pl c s = true ∨ v (60 + s) < v 6) := by intro q; rcases q with q | q; exact c1 q; exact c2 q
          rw [show heaV v pl c s = v from (if_neg c1).trans (if_neg c2), show heaP v pl c s = pl from if_neg e3] at f4
          rw [if_pos (nle_t (by omega) (by omega) (by omega)), if_neg (by decide), if_pos (by decide), bS, f4, bS, show heaS v pl c s = 0 from (if_neg c1).trans (if_neg c2)]
          rfl
  · refine Or.inr (Or.inr ⟨?_, fun B g a => ⟨0, ?_⟩⟩)
    · unfold p_X6_appeal
      rw [hX, bS, nc c hc, obx_l, bS, ns s hs, obx_l, hr, bS, i2, bS, w6, bS, if_pos (by rw [← bI_f hw]; rfl)]
    · show p_X7_appeal _ _ _ _ = _
      unfold p_X7_appeal
      simp only [jn_def]
      rw [oc, bS, e_no hI hc hs, ob2_def, if_pos (by rfl), oc, bS, e_waits up2_s hI hc (by omega), bS, if_pos (by rw [← bI_f hw]; rfl), bS, fa1, ob2_def, if_neg (by decide), upd_2]
      rfl
end CHE
section KC
variable {L : Nat} {xs : Nat → Int32} {i0 : Int32} {x : Nat → Int32} {z : Nat} {M : Mem}
theorem k_28 (hO : OFF z M) (hx : xIs L xs i0 x) : ∃ M', pk_28 L xs z (z + 180) (z + 194) (z + 195) i0 M = some M' ∧ OFF z M' := by
  obtain ⟨-, hx1, hx2, hx3, hx4, hx5⟩ := hx
  obtain ⟨v, pl, nm, H, n, sv, S, inp, len, ec, eo, out, ol, hP, hC, hX, hX6, hV, hE⟩ := off_w hO
  rcases ch_appeal hP hC (x 1) (x 2) with ⟨val, M1, e6, hv⟩ | ⟨e6, hv⟩ | ⟨e6, hv⟩
  · obtain ⟨⟨f0, hod⟩, hq⟩ := hV val M1 _ hv
    obtain ⟨o1, M2, o2, o3, o4, o5, o6⟩ := hq (vp_updL f0 0 (Int32.toInt64 val))
    refine ⟨M2, ?_, o3⟩
    have el : p_L_appeal z (x 1) (x 2) (z + 194) M = some (0, upM M1 (z + 194) (.inl (2, 1, .inr (.inl (vp_updL f0 0 (Int32.toInt64 val)))))) := by
      unfold p_L_appeal
      rw [hX, bS, e6, ctc2_l, aLs_od hod, bS]
    unfold pk_28
    have eL := aL_od o6
    simp only [hx1, hx2, bS, el, ob2_def, o1, o2, o4, o5, eq_self, if_true, eL, lgc_self]
  · obtain ⟨y, M2, o2, o3, o4, o5⟩ := hE 1 _ hv
    refine ⟨M2, ?_, o3⟩
    have el : p_L_appeal z (x 1) (x 2) (z + 194) M = some (nN 1, M) := by
      unfold p_L_appeal
      rw [hX, bS, e6, ctc2_r, if_pos rfl]
      rfl
    unfold pk_28
    simp only [hx1, hx2, bS, el, ob2_def, hX6, o2, o4, o5, eq_self, if_true]
    rw [if_neg (by decide)]
  · obtain ⟨y, M2, o2, o3, o4, o5⟩ := hE 2 _ hv
    refine ⟨M2, ?_, o3⟩
    have el : p_L_appeal z (x 1) (x 2) (z + 194) M = some (nN 2, M) := by
      unfold p_L_appeal
      rw [hX, bS, e6, ctc2_r, if_neg (by decide), if_pos rfl]
      rfl
    unfold pk_28
    simp only [hx1, hx2, bS, el, ob2_def, hX6, o2, o4, o5, eq_self, if_true]
    rw [if_neg (by decide)]
end KC
