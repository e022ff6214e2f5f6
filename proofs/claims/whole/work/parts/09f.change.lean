section CHF
variable {z : Nat} {M : Mem} {v : Nat → Nat} {pl : Nat → Option Nat} {nm : Nat → Nat} {H : Nat → rowT} {n sv : Nat} {S : rowT} {inp : Nat → Nat} {len ec : Nat} {eo : Int32} {out : Nat → Nat} {ol : Nat}
theorem RFO.a_ {g : Nat → Int32} {a : Nat → Nat → Int32} {j : Nat} {f : Nat → Int32} (hF : RFO g a nm H n sv S inp len ec eo out ol) (hj : j ≠ 4 ∧ j ≠ 5 ∧ j ≠ 6 ∧ j ≠ 9 ∧ j ≠ 13) : RFO g (up2 a j f) nm H n sv S inp len ec eo out ol := by
  obtain ⟨h0, h1, h2, h3, h4, h5⟩ := hF
  exact ⟨h0, by rw [up2_n (by omega)]; exact h1, by rw [up2_n (by omega)]; exact h2, by rw [up2_n (by omega)]; exact h3, by rw [up2_n (by omega)]; exact h4, by rw [up2_n (by omega)]; exact h5⟩
theorem ch_setLate (hP : PUR v pl nm H n sv S inp len out ol) (hC : CL0 z (rst M z) v pl nm H n sv S inp len ec eo out ol) {k : Nat} (hk : k ≤ 1) : ∃ M1, p_X6_setLate z (nN k) M = some (nN (v 7), M1) ∧ CGv z M v pl nm H n sv S inp len ec eo out ol (nN (v 7)) M1 (fun M => p_X7_setLate (z + 180) (nN k) M) := by
  have hI : Inv v pl := hP.1.1
  obtain ⟨nc, nco, ns, nso⟩ := in_cc hI hC
  obtain ⟨hX, r, b, t, tb, g, h, ar, u, ta, hM, hr, hG, hR, hT, -⟩ := cl_qry hI hC
  have hb := hI.hb; have h0 := hI.h0; have h1 := hI.h1; have h2 := hI.h2; have h7 := hI.h7; have h8 := hI.h8
  have e7 : nN (v 7) = (0 : Int32) ∨ nN (v 7) = (1 : Int32) := by
    rcases (show v 7 = 0 ∨ v 7 = 1 by omega) with e | e
    · rw [e]; exact Or.inl rfl
    · rw [e]; exact Or.inr rfl
  have ek : nN k = (0 : Int32) ∨ nN k = (1 : Int32) := by
    rcases (show k = 0 ∨ k = 1 by omega) with e | e
    · rw [e]; exact Or.inl rfl
    · rw [e]; exact Or.inr rfl
  refine cg_in hP hC (v1 := updN v 7 k) (pl1 := pl) (X := fun M4 => p_X6_setLate z (nN k) M = some (nN (v 7), M4)) ?_ ?_ ?_ ?_ ?_
  · exact hI.w (i := 7) (x := k) (by unfold okW; omega)
  · intro j hj; rw [updN_n (by omega)]; exact hP.1.2.1 j hj
  · exact sameT.w (by omega)
  · intro M2 r2 b2 t2 tb2 g2 h2' ar2 u2 ta2 hg hG2 hR2 hT2 e
    refine ⟨_, _, _, hR2.late h0 h1 (x := k), fun M4 f4 => ?_⟩
    unfold p_X6_setLate
    rw [hX, bS, e, bS, (hg _ _ _).1, bS, fv_3, bS, bS, fz_3 _ ek, bS, (hg _ _ _).1, bS, fv_isC, bS, f4, bS, hR2.g3, if_pos e7]
  · intro B g a g2 a2 e
    refine ⟨g2, a2, fun h => h, rfl, fun M4 f4 => ?_⟩
    show p_X7_setLate _ _ _ = _
    unfold p_X7_setLate
    simp only [jn_def]
    rw [show (0 : Int32) = nN 0 from rfl, op_9, bS, oc, bS, e, bS, or_0, bS, show (7 : Int32) = nN 7 from rfl, er_v (by omega) (by omega), bS]
    have w := fun (k : Nat) => ew_v (B := B) (m := z + 180) (g := g2) (a := a2) (v := v) (pl := pl) (i := 7) (x := k) (by omega) (by omega)
    rcases (show v 7 = 0 ∨ v 7 = 1 by omega) with e1 | e1
    · rw [e1, if_neg (show ¬ nN 0 = (1 : Int32) by decide), bS]
      rcases (show k = 0 ∨ k = 1 by omega) with e2 | e2
      · subst e2; rw [if_pos (by rfl), w, bS, oc, bS, f4, bS, if_pos (by simp)]
      · subst e2; rw [if_neg (by decide), show (1 : Int32) = nN 1 from rfl, w, bS, oc, bS, f4, bS, if_pos (by simp)]
    · rw [e1, if_pos (show nN 1 = (1 : Int32) by decide), bS]
      rcases (show k = 0 ∨ k = 1 by omega) with e2 | e2
      · subst e2; rw [if_pos (by rfl), w, bS, oc, bS, f4, bS, if_pos (by first | exact Or.inr trivial | exact Or.inr rfl)]; rfl
      · subst e2; rw [if_neg (by decide), show (1 : Int32) = nN 1 from rfl, w, bS, oc, bS, f4, bS, if_pos (by first | exact Or.inr trivial | exact Or.inr rfl)]
theorem ch_allocate (hP : PUR v pl nm H n sv S inp len out ol) (hC : CL0 z (rst M z) v pl nm H n sv S inp len ec eo out ol) : ∃ M1, p_X6_allocate z M = some (nN (daR v 9), M1) ∧ CGv z M v pl nm H n sv S inp len ec eo out ol (nN (daR v 9)) M1 (fun M => p_X7_allocate (z + 180) M) := by
  have hI : Inv v pl := hP.1.1
  have hb := hI.hb; have h0 := hI.h0; have h1 := hI.h1; have h2 := hI.h2; have h7 := hI.h7; have h8 := hI.h8
  obtain ⟨i1, i2, i3, -, -, -⟩ := da_all hI
  obtain ⟨M2, r, b, t, tb, g, h, ar, u, ta, e, hg, hG, hR, hT, hQ, put1, put2, ⟨T, hTq⟩, hout⟩ := cl_chg hI hP.2.1 hC
  obtain ⟨g', h', ar', T', q1, R1, -⟩ := c_run M2 hG hR hT hI hQ (T := T)
  rw [← hTq] at q1
  have hT2 : sameT v (daR v) := i2.T
  have hsch := hI.sch
  have T2 : TG u ta (daR v) (cdS nm) := hT.same hT2 h0 (fun s hs => (hsch s hs).2.2.2.1)
  refine ⟨_, ?_, daR v, daP v, hpush H n (v, pl), hlen n, sv, S, ?_, put2 g' h' ar' T' _ _ R1 T2, fun x hx => (hout g' h' ar' T' x hx).2, ?_⟩
  · unfold p_X6_allocate
    have hC0 : isC 0 (ofc M2 r b t tb g h ar u ta) (z + 24) = some () := by rw [hTq]; exact q_C hQ
    have f5 := R1.g5
    rw [(cl_now hC).1, bS, e, bS, (hg _ _ _).2.1, bS, (hg _ _ _).1, bS, hC0, bS, q1, bS, (hg _ _ _).2.2.2, bS, fv_5, bS, f5]
    rfl
  · exact pur_chg hP i1 (fun i hi => (i2 i (by omega)).trans (hP.1.2.1 i hi)) (fil_fst (da_fil hI)) hT2
  · intro B g a hF
    obtain ⟨g1, a1, e1, e2, e3⟩ := e_remembers (v := v) (pl := pl) (B := B) (m := z + 180) (hF.g9 (c := nN 0)) hP.2.1
    obtain ⟨T9, e4, -⟩ := e_allocates (B := B) (m := z + 180) (g := g1) (a := a1) hI
    refine ⟨g1, up2 a1 8 T9, ?_, e2.a_ (by omega), by rw [e3]; exact pk_us⟩
    show p_X7_allocate _ _ = _
    unfold p_X7_allocate
    rw [show (0 : Int32) = nN 0 from rfl, op_9, bS, oc, bS, e1, bS, oc, bS, e4, ob2_def]
    rfl
end CHF
section KC
variable {L : Nat} {xs : Nat → Int32} {i0 : Int32} {x : Nat → Int32} {z : Nat} {M : Mem}
theorem k_21 (hO : OFF z M) (hx : xIs L xs i0 x) : ∃ M', pk_21 L xs z (z + 180) (z + 194) (z + 195) i0 M = some M' ∧ OFF z M' := by
  obtain ⟨v, pl, nm, H, n, sv, S, inp, len, ec, eo, out, ol, hP, hC, hX, hX6, hV, hE⟩ := off_w hO
  obtain ⟨M1, e6, hv⟩ := ch_allocate hP hC
  obtain ⟨⟨f0, hod⟩, hq⟩ := hV _ M1 _ hv
  obtain ⟨o1, M2, o2, o3, o4, o5, o6⟩ := hq f0
  rw [upM_same hod] at o1 o2
  refine ⟨M2, ?_, o3⟩
  unfold pk_21
  rw [hX, bS, e6, ob2_def, o1, bS, o2, ob2_def, if_pos rfl]
theorem k_29 (hO : OFF z M) (hx : xIs L xs i0 x) : ∃ M', pk_29 L xs z (z + 180) (z + 194) (z + 195) i0 M = some M' ∧ OFF z M' := by
  obtain ⟨-, hx1, hx2, hx3, hx4, hx5⟩ := hx
  obtain ⟨v, pl, nm, H, n, sv, S, inp, len, ec, eo, out, ol, hP, hC, hX, hX6, hV, hE⟩ := off_w hO
  have key : ∀ k, k ≤ 1 → ∃ M1 M2, p_X6_setLate z (nN k) M = some (nN (v 7), M1) ∧ isC 6 M1 (z + 180) = some () ∧ p_X7_setLate (z + 180) (nN k) M1 = some (nN (v 7), M2) ∧ OFF z M2 := fun k hk => by
    obtain ⟨M1, e6, hv⟩ := ch_setLate hP hC hk
    obtain ⟨⟨f0, hod⟩, hq⟩ := hV _ M1 _ hv
    obtain ⟨o1, M2, o2, o3, o4, o5, o6⟩ := hq f0
    rw [upM_same hod] at o1 o2
    exact ⟨M1, M2, e6, o1, o2, o3⟩
  unfold pk_29
  by_cases c : x 1 = 0
  · obtain ⟨M1, M2, a1, a2, a3, a4⟩ := key 0 (by omega)
    refine ⟨M2, ?_, a4⟩
    have a1 : p_X6_setLate z (0 : Int32) M = _ := a1
    have a3 : p_X7_setLate (z + 180) (0 : Int32) M1 = _ := a3
    simp only [hx1, bS, jn_def, c, if_true, hX, a1, ob2_def, a2, a3]
  · obtain ⟨M1, M2, a1, a2, a3, a4⟩ := key 1 (by omega)
    refine ⟨M2, ?_, a4⟩
    have a1 : p_X6_setLate z (1 : Int32) M = _ := a1
    have a3 : p_X7_setLate (z + 180) (1 : Int32) M1 = _ := a3
    simp only [hx1, bS, jn_def, c, if_false, hX, a1, ob2_def, a2, a3, if_true]
end KC
