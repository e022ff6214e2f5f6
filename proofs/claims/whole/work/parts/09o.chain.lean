/-! chainOf -/
section CH
variable {z : Nat} {M : Mem} {v : Nat → Nat} {pl : Nat → Option Nat} {nm : Nat → Nat} {H : Nat → rowT} {n sv : Nat} {S : rowT} {inp : Nat → Nat} {len ec : Nat} {eo : Int32} {out : Nat → Nat} {ol : Nat}
theorem cgv_t (hP : PUR v pl nm H n sv S inp len out ol) (hC : CL0 z (rst M z) v pl nm H n sv S inp len ec eo out ol) {M1 : Mem} {val : Int32} {ref : Mem → Option (Int32 × Mem)} (hC1 : CL0 z (rst M1 z) v pl nm H n sv S inp len ec eo out ol) (ho : ∀ x, ¬ (z ≤ x ∧ x < z + 180) → M1 x = M x) (h : ∀ B g a, RFO g a nm H n sv S inp len ec eo out ol → ∃ g' a', ref (ovl B (z + 180) g (up2 a 1 (enc v pl))) = some (val, ovl B (z + 180) g' (up2 a' 1 (enc v pl))) ∧ RFO g' a' nm H n sv S inp len ec eo out ol ∧ g' 9 = nN 0) : CGv z M v pl nm H n sv S inp len ec eo out ol val M1 ref :=
  ⟨v, pl, H, n, sv, S, hP, hC1, ho, h⟩
theorem e_begins {B : Mem} {m : Nat} {g : Nat → Int32} {a : Nat → Nat → Int32} : p_X7_begins m (ovl B m g (up2 a 1 (enc v pl))) = some (ovl B m g (up2 (up2 a 3 (cpF (enc v pl) (a 3) 0 0 764)) 1 (enc v pl))) := by
  unfold p_X7_begins
  have ec := e_copies (B := B) (m := m) (g := g) (a := up2 a 1 (enc v pl)) (j0 := 1) (j1 := 3) (sp := 0) (dp := 0) (n := 764) (by omega) (by omega) (by omega) (by show 0 + 764 ≤ 764; omega) (by show 0 + 764 ≤ 764; omega)
  rw [up2_s, up2_n (by decide), up2_sw (by decide)] at ec
  rw [or_0, bS, or_2, bS, show (0 : Int32) = nN 0 from rfl, show (764 : Int32) = nN 764 from rfl, ec, bS]
theorem cpF_3 {f f1 : Nat → Int32} {i : Nat} (hi : i < 764) : cpF f f1 0 0 764 i = f i := by
  unfold cpF
  rw [if_pos (by omega), show 0 + (i - 0) = i by omega]
theorem e_ends {B : Mem} {m : Nat} {g : Nat → Int32} {a : Nat → Nat → Int32} {v' : Nat → Nat} {pl' : Nat → Option Nat} (hZ : ∀ i, 764 ≤ i → v i = 0) (hZ' : ∀ i, 764 ≤ i → v' i = 0) (h : ∀ i, i < 764 → a 3 i = enc v pl i) : p_X7_ends m (ovl B m g (up2 a 1 (enc v' pl'))) = some (ovl B m g (up2 a 1 (enc v pl))) := by
  unfold p_X7_ends
  have ec := e_copies (B := B) (m := m) (g := g) (a := up2 a 1 (enc v' pl')) (j0 := 3) (j1 := 1) (sp := 0) (dp := 0) (n := 764) (by omega) (by omega) (by omega) (by show 0 + 764 ≤ 764; omega) (by show 0 + 764 ≤ 764; omega)
  rw [up2_n (by decide), up2_s, up2_up2, cpF_enc hZ' hZ (fun i hi => by rw [Nat.zero_add]; exact h i hi)] at ec
  rw [or_2, bS, or_0, bS, show (0 : Int32) = nN 0 from rfl, show (764 : Int32) = nN 764 from rfl, ec, bS]
theorem fil_8 (h : v 8 = 0) : filO v pl = none := by
  cases hf : filO v pl with
  | none => rfl
  | some s =>
    have h2 := (fnd_some hf).2.2.1
    obtain ⟨k, hk, hp⟩ := cnt_pos.mp h2.2
    have := (wai_wis hp).1
    omega
theorem fil_app (hI : Inv v pl) (h : filO v pl = none) {v' : Nat → Nat} (hQ : sameQ v v') (h8 : v' 8 = v 8) : filO v' pl = none := by
  have h0 := hI.h0
  have h1 := hI.h1
  rw [← h]
  unfold filO
  rw [hQ 0 (by omega)]
  refine fnd_c (fun s hs1 hs2 => ?_)
  rw [q_hld hQ, hQ (20 + s) (by omega)]
  have : wtgN v' pl s = wtgN v pl s := by
    unfold wtgN
    rw [hQ 1 (by omega)]
    refine cnt_c (fun k hk => ?_)
    unfold waiB
    rw [h8, hQ (404 + k) (by omega), q_prf hQ hI (by omega)]
  rw [this]
theorem ch_chainOf (hP : PUR v pl nm H n sv S inp len out ol) (hC : CL0 z (rst M z) v pl nm H n sv S inp len ec eo out ol) {c : Nat} (hc : c < v 1) : ∃ val M1, p_X6_chainOf z (nN c) M = some (.inl (val, M1)) ∧ CGv z M v pl nm H n sv S inp len ec eo out ol val M1 (fun M => p_X7_chainOf (z + 180) (nN c) M) := by
  have hI : Inv v pl := hP.1.1
  have hZ : ∀ i, 764 ≤ i → v i = 0 := hP.1.2.1
  have hb := hI.hb; have h0 := hI.h0; have h1 := hI.h1; have h2 := hI.h2; have h7 := hI.h7; have h8 := hI.h8
  have hch := hI.chi c (by omega)
  obtain ⟨nc, -, -, -⟩ := in_cc hI hC
  have hX := (cl_now hC).1
  obtain ⟨rn, bn, tn, tbn, g, h, ar, u, ta, M2, g0, h0', ar0, e3, r3, r4, i2, hG, hR, hT, hQ, R0, ⟨T, hTq⟩, hA⟩ := cl_tri hI hC
  rw [hTq] at e3
  have hI1 : Inv (updN (updN v (444 + c) 0) (404 + c) 1) (updO pl c none) := ((hI.w (i := 444 + c) (x := 0) (by unfold okW; omega)).pn (c := c)).gone (by omega) (by omega) updO_s
  obtain ⟨g1, h1', ar1, f1, R1⟩ := c_takeOut (B := ovq M2 (z + 24) T) (u := u) (ta := ta) hG hR h0 h1 hc
  have hsch := hI.sch
  have hT1 : sameT v (updN (updN v (444 + c) 0) (404 + c) 1) := (sameT.w (by omega)).t (sameT.w (by omega))
  have T1 : TG u ta (updN (updN v (444 + c) 0) (404 + c) 1) (cdS nm) := hT.same hT1 h0 (fun s hs => (hsch s hs).2.2.2.1)
  obtain ⟨g2, h2', ar2, f2, R2⟩ := c_fillPlaces (ovq M2 (z + 24) T) hG R1 T1 hI1
  obtain ⟨b3, b4, b1, b5, bR, bC, bO⟩ := hA g2 h2' ar2 T
  have hfQ := fit_Q 160 (x := (updN (updN v (444 + c) 0) (404 + c) 1, updO pl c none)) hI1
  refine ⟨nN ((fit 160 (updN (updN v (444 + c) 0) (404 + c) 1, updO pl c none)).1 10) - nN (v 10), _, ?_, cgv_t hP hC bC bO (fun B g a hF => ?_)⟩
  · have w6 : gI 2 6 (ofc (ovq M2 (z + 24) T) (z + 49) (z + 50) tn tbn g2 h2' ar2 u ta) rn = some (nN (v 10)) := by unfold gI gV; rw [bR.1, ← R0.g6]; rfl
    unfold p_X6_chainOf
    rw [hX, bS, nc c hc, obx_l, r4, bS, r3, bS, i2, bS, e3, bS, (hA g h ar T).2.1, bS, fv_isC, bS, f1, bS, (hA g1 h1' ar1 T).2.1, bS, fv_isC, bS, f2, bS, b4, bS, fv_6, bS, b3, bS, w6, bS, R2.g6]
  · have hF0 := hF.g9 (c := nN 0)
    have same : (v 8 = 0 ∨ v (404 + c) ≠ 0) → nN ((fit 160 (updN (updN v (444 + c) 0) (404 + c) 1, updO pl c none)).1 10) - nN (v 10) = 0 := fun hh => by
      have hn : filO (updN (updN v (444 + c) 0) (404 + c) 1) (updO pl c none) = none := by
        by_cases hg : v (404 + c) = 0
        · exact fil_8 (by rw [updN_n (by omega), updN_n (by omega)]; rcases hh with e | e; exact e; exact absurd hg e)
        · have hp : pl c = none := by
            cases hp : pl c with
            | none => rfl
            | some s => exact absurd (hI.plc c s hp).2.1 hg
          have e1 : updO pl c none = pl := by
            funext k; unfold updO
            by_cases e : k = c
            · rw [if_pos e, e, hp]
            · rw [if_neg e]
          have e2 : updN (updN v (444 + c) 0) (404 + c) 1 = updN v (444 + c) 0 := by
            funext k; unfold updN
            by_cases e : k = 404 + c
            · rw [if_pos e, e, if_neg (by omega)]; omega
            · rw [if_neg e]
          rw [e1, e2]
          exact fil_app hI (fst_none hP.1.2.2.1) (sameQ.w (by omega)) (updN_n (by omega))
      have hfn : fit 160 (updN (updN v (444 + c) 0) (404 + c) 1, updO pl c none) = (updN (updN v (444 + c) 0) (404 + c) 1, updO pl c none) := fit_none (fil_fst hn)
      rw [hfn]
      show nN (updN (updN v (444 + c) 0) (404 + c) 1 10) - nN (v 10) = 0
      rw [updN_n (by omega), updN_n (by omega)]
      exact Int32.sub_self _
    by_cases c8 : v 8 = 0
    · refine ⟨upd g 9 (nN 0), a, ?_, hF0, pk_us⟩
      show p_X7_chainOf _ _ _ = _
      unfold p_X7_chainOf
      rw [same (Or.inl c8), oc, bS, e_nc hI hc, ob2_def, if_pos (by rfl), or_0, bS, show (8 : Int32) = nN 8 from rfl, er_v (by omega) (by omega), bS, c8, if_pos (by rfl)]
    · by_cases hg : v (404 + c) = 0
      · refine ⟨upd g 9 (nN 0), up2 a 3 (cpF (enc v pl) (a 3) 0 0 764), ?_, hF0.a_ (by omega), pk_us⟩
        show p_X7_chainOf _ _ _ = _
        unfold p_X7_chainOf
        have hZ1 : ∀ i, 764 ≤ i → (fit 160 (updN (updN v (444 + c) 0) (404 + c) 1, updO pl c none)).1 i = 0 := fun i hi => by
          rw [hfQ.1 i (by omega)]
          show updN (updN v (444 + c) 0) (404 + c) 1 i = 0
          rw [updN_n (by omega), updN_n (by omega)]; exact hZ i hi
        have ee := e_ends (B := B) (m := z + 180) (g := upd g 9 (nN 0)) (a := up2 a 3 (cpF (enc v pl) (a 3) 0 0 764)) (v := v) (pl := pl) (v' := (fit 160 (updN (updN v (444 + c) 0) (404 + c) 1, updO pl c none)).1) (pl' := (fit 160 (updN (updN v (444 + c) 0) (404 + c) 1, updO pl c none)).2) hZ hZ1 (fun i hi => by rw [up2_s]; exact cpF_3 hi)
        have e10 : aI 0 (ovl B (z + 180) (upd g 9 (nN 0)) (up2 (up2 a 3 (cpF (enc v pl) (a 3) 0 0 764)) 1 (enc (fit 160 (updN (updN v (444 + c) 0) (404 + c) 1, updO pl c none)).1 (fit 160 (updN (updN v (444 + c) 0) (404 + c) 1, updO pl c none)).2))) (z + 180 + 3) (nN 10) = some (nN (v 10)) := by
          rw [od_3, up2_n (by decide), up2_s, rd_nN (by omega) (by omega), cpF_3 (by omega), enc_v (by omega)]
        rw [oc, bS, e_nc hI hc, ob2_def, if_pos (by rfl), or_0, bS, show (8 : Int32) = nN 8 from rfl, er_v (by omega) (by omega), bS, if_neg (show ¬ nN (v 8) = (0 : Int32) from neq_f (b := 0) (by omega) (by omega) c8), oc, bS, e_isHere up2_s hI (c := c) (by omega), bS, if_neg (by rw [← bI_t hg]; decide), bS, e_begins, bS, oc, bS, e_goes (by omega), bS, oc, bS, e_fills hI1, bS, or_0, bS, show (10 : Int32) = nN 10 from rfl, er_v (by omega) (by omega), bS, or_2, bS, e10, bS, oc, bS, ee, bS]
      · refine ⟨upd g 9 (nN 0), a, ?_, hF0, pk_us⟩
        show p_X7_chainOf _ _ _ = _
        unfold p_X7_chainOf
        rw [same (Or.inr hg), oc, bS, e_nc hI hc, ob2_def, if_pos (by rfl), or_0, bS, show (8 : Int32) = nN 8 from rfl, er_v (by omega) (by omega), bS, if_neg (show ¬ nN (v 8) = (0 : Int32) from neq_f (b := 0) (by omega) (by omega) c8), oc, bS, e_isHere up2_s hI (c := c) (by omega), bS, if_pos (by rw [← bI_f hg]; rfl)]
end CH
section KCH
variable {L : Nat} {xs : Nat → Int32} {i0 : Int32} {x : Nat → Int32} {z : Nat} {M : Mem}
theorem k_39 (hO : OFF z M) (hx : xIs L xs i0 x) : ∃ M', pk_39 L xs z (z + 180) (z + 194) (z + 195) i0 M = some M' ∧ OFF z M' := by
  obtain ⟨-, hx1, hx2, hx3, hx4, hx5⟩ := hx
  obtain ⟨v, pl, nm, H, n, sv, S, inp, len, ec, eo, out, ol, hP, hC, hX, hX6, hV, hE2⟩ := off_w2 hO
  have hI : Inv v pl := hP.1.1
  have h1 := hI.h1
  obtain ⟨nc, nco, -, -⟩ := in_cc hI hC
  have outc : (x 1 < 0 ∨ nN (v 1) ≤ x 1) → ∃ M', pk_39 L xs z (z + 180) (z + 194) (z + 195) i0 M = some M' ∧ OFF z M' := fun ho => by
    have e6 : p_X6_chainOf z (x 1) M = some (.inr "java/lang/IndexOutOfBoundsException") := by
      unfold p_X6_chainOf; rw [hX, bS, nco _ ho, obx_r]
    obtain ⟨M2, o2, o3, o4, o5⟩ := hE2 1 0 (fun M => p_X7_chainOf (z + 180) (x 1) M) (fun B g a hF => by
      show p_X7_chainOf _ _ _ = _
      unfold p_X7_chainOf
      rw [oc, bS, e_nc_o hI ho, ob2_def, if_neg (by decide)])
    refine ⟨M2, ?_, o3⟩
    have el : p_L_chainOf z (x 1) (z + 194) M = some (nN 1, M) := by
      unfold p_L_chainOf
      rw [hX, bS, e6, ctc2_r, if_pos rfl]
      rfl
    unfold pk_39
    simp only [hx1, bS, el, ob2_def, hX6, o2, o4, o5, eq_self, if_true]
    rw [if_neg (by decide)]
  rcases ixN (x 1) (n := v 1) (by omega) with ho | ho | ⟨c, hc, hxc⟩
  · exact outc (Or.inl ho)
  · exact outc (Or.inr ho)
  clear outc
  obtain ⟨val, M1, e6, hv⟩ := ch_chainOf hP hC hc
  rw [← hxc] at e6 hv
  obtain ⟨⟨f0, hod⟩, hq⟩ := hV _ M1 _ hv
  obtain ⟨o1, M2, o2, o3, o4, o5, o6⟩ := hq (vp_updL f0 0 (Int32.toInt64 val))
  refine ⟨M2, ?_, o3⟩
  have el : p_L_chainOf z (x 1) (z + 194) M = some (0, upM M1 (z + 194) (.inl (2, 1, .inr (.inl (vp_updL f0 0 (Int32.toInt64 val)))))) := by
    unfold p_L_chainOf
    rw [hX, bS, e6, ctc2_l, aLs_od hod, bS]
  unfold pk_39
  have eL := aL_od o6
  simp only [hx1, bS, el, ob2_def, o1, o2, o4, o5, eq_self, if_true, eL, lgc_self]
end KCH
