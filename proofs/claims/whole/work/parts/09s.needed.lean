/-! neededCapacity -/
section NE
variable {z : Nat} {M : Mem} {v : Nat → Nat} {pl : Nat → Option Nat} {nm : Nat → Nat} {H : Nat → rowT} {n sv : Nat} {S : rowT} {inp : Nat → Nat} {len ec : Nat} {eo : Int32} {out : Nat → Nat} {ol : Nat}
theorem tbS_same {v' : Nat → Nat} (h : sameQ v v') : tbS v' = tbS v := by
  funext i
  unfold tbS
  by_cases c : i = 8
  · rw [if_pos c, if_pos c]
  · rw [if_neg c, if_neg c]
    by_cases c2 : i = 9 ∨ i = 10 ∨ (60 ≤ i ∧ i < 68) ∨ (444 ≤ i ∧ i < 484) ∨ (524 ≤ i ∧ i < 564)
    · rw [if_pos c2, if_pos c2]
    · rw [if_neg c2, if_neg c2]; exact h i (by omega)
theorem daP_same {v' : Nat → Nat} (h : sameQ v v') : daP v' = daP v := by unfold daP; rw [tbS_same h]
def neP (v : Nat → Nat) (c s k : Nat) : Bool := decide (daP (updN v (20 + s) k) c = some s)
theorem fnd_st {P : Nat → Prop} [DecidablePred P] {k d : Nat} : fnd P k (d + 1) = if P k then some k else fnd P (k + 1) d := rfl
theorem c_need (hI : Inv v pl) {tn tbn : Nat} {u : Nat → Int32} {ta : Nat → Nat → Int32} {M2 : Mem} (hG : GE (z + 49) (z + 50) tn tbn) (hQ : GQ (z + 24) (z + 49) (z + 50) tn tbn) (hT : TG u ta v (cdS nm)) (hA : ∀ g h ar T, gR 5 4 (ofc (ovq M2 (z + 24) T) (z + 49) (z + 50) tn tbn g h ar u ta) z = some (z + 49) ∧ gR 5 1 (ofc (ovq M2 (z + 24) T) (z + 49) (z + 50) tn tbn g h ar u ta) z = some (z + 24)) {c s : Nat} (hc : c < v 1) (hs : s < v 0) : ∀ d k fu (w : Nat → Nat) (pw : Nat → Option Nat) (g : Nat → Int32) (h : Nat → Int64) (ar : Nat → Nat → Int32) (T : Nat → Int32), k + d = 41 → d < fu → Inv w pw → (∀ i, ¬ (i = 8 ∨ i = 9 ∨ i = 10 ∨ (60 ≤ i ∧ i < 68) ∨ (444 ≤ i ∧ i < 484) ∨ (524 ≤ i ∧ i < 564)) → i ≠ 20 + s → w i = v i) → RG g h ar w pw →
    ∃ g' h' ar' T', pl_X6_neededCapacity_23 (fun z23 M24 => some (.inl (z23, M24))) (fun M25 => some (.inl ((-1 : Int32), M25))) z (nN c) (nN s) fu (nN k) (ofc (ovq M2 (z + 24) T) (z + 49) (z + 50) tn tbn g h ar u ta) = some (.inl (oN (fnd (fun k => neP v c s k = true) k d), ofc (ovq M2 (z + 24) T') (z + 49) (z + 50) tn tbn g' h' ar' u ta)) := by
  have hb := hI.hb; have h0 := hI.h0; have h1 := hI.h1; have h2 := hI.h2; have h7 := hI.h7; have h8 := hI.h8
  intro d
  induction d with
  | zero =>
    intro k fu w pw g h ar T hk hf _ _ _
    obtain ⟨f, rfl⟩ : ∃ f, fu = f + 1 := ⟨fu - 1, by omega⟩
    refine ⟨g, h, ar, T, ?_⟩
    rw [pl_X6_neededCapacity_23, if_pos (show (40 : Int32) < nN k from nlt_t (a := 40) (by omega) (by omega) (by omega))]
    rfl
  | succ d ih =>
    intro k fu w pw g h ar T hk hf hIw hw hR
    obtain ⟨f, rfl⟩ : ∃ f, fu = f + 1 := ⟨fu - 1, by omega⟩
    have w0 : w 0 = v 0 := hw 0 (by omega) (by omega)
    have w1 : w 1 = v 1 := hw 1 (by omega) (by omega)
    have hI1 : Inv (updN w (20 + s) k) pw := hIw.w (i := 20 + s) (x := k) (by unfold okW; omega)
    have hQQ : sameQ (updN v (20 + s) k) (updN w (20 + s) k) := fun i hi => by
      unfold updN
      by_cases e : i = 20 + s
      · rw [if_pos e, if_pos e]
      · rw [if_neg e, if_neg e]; exact hw i hi e
    have R1 := hR.cap (by omega) (by omega) (c := s) (x := k) (by omega)
    have hTw : sameT v (updN w (20 + s) k) := fun i hi => by
      rw [updN_n (by omega)]; exact hw i (by omega) (by omega)
    have T1 : TG u ta (updN w (20 + s) k) (cdS nm) := hT.same hTw h0 (fun s hs => (hI.sch s hs).2.2.2.1)
    obtain ⟨d1, d2, d3, -, -, -⟩ := da_all hI1
    obtain ⟨g1, h1', ar1, Tq, q1, R2, -⟩ := c_run M2 hG R1 T1 hI1 hQ (T := T)
    have dv1 : daR (updN w (20 + s) k) 1 = v 1 := ((d2 1 (by omega)).trans (updN_n (by omega))).trans w1
    have wT : aI 0 (ofc (ovq M2 (z + 24) Tq) (z + 49) (z + 50) tn tbn g1 h1' ar1 u ta) (z + 50 + 5) (nN c) = some (oN (daP (updN v (20 + s) k) c)) := by
      rw [fd_5 hG, rd_nN (by omega) (by omega), R2.a5 (c := c) (by show c < daR (updN w (20 + s) k) 1; omega)]
      show some (oN (daP (updN w (20 + s) k) c)) = _
      rw [daP_same hQQ]
    have hA1 := hA g h (up2 ar 7 (upd (ar 7) s (nN k))) T
    have hA2 := hA g1 h1' ar1 Tq
    have hpb : ∀ t, daP (updN v (20 + s) k) c = some t → t < 2147483648 := fun t ht => by
      rw [← daP_same hQQ] at ht
      exact d1.plb c t ht
    have ek : nN k + (1 : Int32) = nN (k + 1) := nN_add k 1
    have st : ∀ k1 k2, pl_X6_neededCapacity_23 k1 k2 z (nN c) (nN s) (f + 1) (nN k) (ofc (ovq M2 (z + 24) T) (z + 49) (z + 50) tn tbn g h ar u ta) = if oN (daP (updN v (20 + s) k) c) = nN s then k1 (nN k) (ofc (ovq M2 (z + 24) Tq) (z + 49) (z + 50) tn tbn g1 h1' ar1 u ta) else pl_X6_neededCapacity_23 k1 k2 z (nN c) (nN s) f (nN (k + 1)) (ofc (ovq M2 (z + 24) Tq) (z + 49) (z + 50) tn tbn g1 h1' ar1 u ta) := fun k1 k2 => by
      rw [pl_X6_neededCapacity_23, if_neg (show ¬ (40 : Int32) < nN k from nlt_f (a := 40) (by omega) (by omega) (by omega)), (hA g h ar T).1, bS, fv_18, bS, fe_7 hG, wr_nN (by omega) (by omega), Option.map_some, bS, hA1.2, bS, hA1.1, bS, q_C hQ, bS, q1, bS, hA2.1, bS, fv_16, bS, wT, bS, ek]
    by_cases e : daP (updN v (20 + s) k) c = some s
    · refine ⟨g1, h1', ar1, Tq, ?_⟩
      rw [st, if_pos (by rw [e]; rfl), fnd_st, if_pos (show neP v c s k = true from decide_eq_true e)]
      rfl
    · obtain ⟨g3, h3, ar3, T3, e3⟩ := ih (k + 1) f (daR (updN w (20 + s) k)) (daP (updN w (20 + s) k)) g1 h1' ar1 Tq (by omega) (by omega) d1 (fun i hi he => ((d2 i hi).trans (updN_n he)).trans (hw i hi he)) R2
      refine ⟨g3, h3, ar3, T3, ?_⟩
      rw [st, if_neg (by rw [oN_eq hpb (by omega)]; exact e), e3, fnd_st, if_neg (show ¬ neP v c s k = true from fun q => e (of_decide_eq_true q))]
theorem e_need {B : Mem} {m : Nat} {g : Nat → Int32} (hI : Inv v pl) (hZ : ∀ i, 764 ≤ i → v i = 0) {c s : Nat} (hc : c < v 1) (hs : s < v 0) : ∀ d k fu (a : Nat → Nat → Int32), k + d = 41 → d < fu → RFO g a nm H n sv S inp len ec eo out ol → ∃ a', pl_X7_neededCapacity_13 (fun z10 M11 => some (z10, M11)) (fun M12 => some ((-1 : Int32), M12)) m (nN c) (nN s) fu (nN k) (ovl B m g (up2 a 1 (enc v pl))) = some (oN (fnd (fun k => neP v c s k = true) k d), ovl B m g (up2 a' 1 (enc v pl))) ∧ RFO g a' nm H n sv S inp len ec eo out ol := by
  have hb := hI.hb; have h0 := hI.h0; have h1 := hI.h1; have h2 := hI.h2; have h7 := hI.h7; have h8 := hI.h8
  intro d
  induction d with
  | zero =>
    intro k fu a hk hf hF
    obtain ⟨f, rfl⟩ : ∃ f, fu = f + 1 := ⟨fu - 1, by omega⟩
    refine ⟨a, ?_, hF⟩
    rw [pl_X7_neededCapacity_13, if_pos (show (40 : Int32) < nN k from nlt_t (a := 40) (by omega) (by omega) (by omega))]
    rfl
  | succ d ih =>
    intro k fu a hk hf hF
    obtain ⟨f, rfl⟩ : ∃ f, fu = f + 1 := ⟨fu - 1, by omega⟩
    obtain ⟨T9, e9⟩ := e_placeIn (B := B) (m := m) (g := g) (a := a) hI hZ hc hs (k := k) (by omega)
    have hI1 : Inv (updN v (20 + s) k) pl := hI.w (i := 20 + s) (x := k) (by unfold okW; omega)
    have hpb := (da_all hI1).1.plb c
    have ek : nN k + (1 : Int32) = nN (k + 1) := nN_add k 1
    have hF2 := (hF.a_ (j := 3) (f := cpF (enc v pl) (a 3) 0 0 764) (by omega)).a_ (j := 8) (f := T9) (by omega)
    by_cases e : daP (updN v (20 + s) k) c = some s
    · refine ⟨_, ?_, hF2⟩
      rw [pl_X7_neededCapacity_13, if_neg (show ¬ (40 : Int32) < nN k from nlt_f (a := 40) (by omega) (by omega) (by omega)), oc, bS, e9, ob2_def, if_pos (by rw [e]; rfl), fnd_st, if_pos (show neP v c s k = true from decide_eq_true e)]
      rfl
    · obtain ⟨a3, e3, F3⟩ := ih (k + 1) f _ (by omega) (by omega) hF2
      refine ⟨a3, ?_, F3⟩
      rw [pl_X7_neededCapacity_13, if_neg (show ¬ (40 : Int32) < nN k from nlt_f (a := 40) (by omega) (by omega) (by omega)), oc, bS, e9, ob2_def, if_neg (by rw [oN_eq hpb (by omega)]; exact e), ek, e3, fnd_st, if_neg (show ¬ neP v c s k = true from fun q => e (of_decide_eq_true q))]
theorem ch_needed (hP : PUR v pl nm H n sv S inp len out ol) (hC : CL0 z (rst M z) v pl nm H n sv S inp len ec eo out ol) {c s : Nat} (hc : c < v 1) (hs : s < v 0) : ∃ val M1, p_X6_neededCapacity z (nN c) (nN s) M = some (.inl (val, M1)) ∧ CGv z M v pl nm H n sv S inp len ec eo out ol val M1 (fun M => p_X7_neededCapacity (z + 180) (nN c) (nN s) M) := by
  have hI : Inv v pl := hP.1.1
  have hZ : ∀ i, 764 ≤ i → v i = 0 := hP.1.2.1
  obtain ⟨nc, -, ns, -⟩ := in_cc hI hC
  have hX := (cl_now hC).1
  obtain ⟨rn, bn, tn, tbn, g, h, ar, u, ta, M2, g0, h0', ar0, e3, r3, r4, i2, hG, hR, hT, hQ, R0, ⟨T, hTq⟩, hA⟩ := cl_tri hI hC
  rw [hTq] at e3
  obtain ⟨g1, h1', ar1, T1, q1⟩ := c_need hI hG hQ hT (fun g h ar T => ⟨(hA g h ar T).2.1, (hA g h ar T).2.2.1⟩) hc hs 41 0 FU v pl g h ar T (by omega) (FU_pos (by omega)) hI (fun _ _ _ => rfl) hR
  obtain ⟨b3, b4, b1, b5, bR, bC, bO⟩ := hA g1 h1' ar1 T1
  refine ⟨oN (fnd (fun k => neP v c s k = true) 0 41), _, ?_, cgv_t hP hC bC bO (fun B g a hF => ?_)⟩
  rotate_left
  · have hF0 := hF.g9 (c := nN 0)
    obtain ⟨a', e9, F9⟩ := e_need (B := B) (m := z + 180) hI hZ hc hs 41 0 FU a (by omega) (FU_pos (by omega)) hF0
    refine ⟨upd g 9 (nN 0), a', ?_, F9, pk_us⟩
    show p_X7_neededCapacity _ _ _ _ = _
    unfold p_X7_neededCapacity
    rw [oc, bS, e_no hI hc hs, ob2_def, if_pos (by rfl)]
    exact e9
  · unfold p_X6_neededCapacity
    rw [hX, bS, nc c hc, obx_l, bS, ns s hs, obx_l, r4, bS, r3, bS, i2, bS, e3, bS]
    exact q1
end NE
section KNE
variable {L : Nat} {xs : Nat → Int32} {i0 : Int32} {x : Nat → Int32} {z : Nat} {M : Mem}
theorem k_50 (hO : OFF z M) (hx : xIs L xs i0 x) : ∃ M', pk_50 L xs z (z + 180) (z + 194) (z + 195) i0 M = some M' ∧ OFF z M' := by
  obtain ⟨-, hx1, hx2, hx3, hx4, hx5⟩ := hx
  obtain ⟨v, pl, nm, H, n, sv, S, inp, len, ec, eo, out, ol, hP, hC, hX, hX6, hV, hE2⟩ := off_w2 hO
  have hI : Inv v pl := hP.1.1
  have h0 := hI.h0
  have h1 := hI.h1
  obtain ⟨nc, nco, ns, nso⟩ := in_cc hI hC
  have fin : p_X6_neededCapacity z (x 1) (x 2) M = some (.inr "java/lang/IndexOutOfBoundsException") → (∀ B g a, p_X7_neededCapacity (z + 180) (x 1) (x 2) (ovl B (z + 180) g (up2 a 1 (enc v pl))) = some (0, ovl B (z + 180) (upd g 9 (nN 1)) (up2 a 1 (enc v pl)))) → ∃ M', pk_50 L xs z (z + 180) (z + 194) (z + 195) i0 M = some M' ∧ OFF z M' := fun e6 e7 => by
    obtain ⟨M2, o2, o3, o4, o5⟩ := hE2 1 0 (fun M => p_X7_neededCapacity (z + 180) (x 1) (x 2) M) (fun B g a hF => e7 B g a)
    refine ⟨M2, ?_, o3⟩
    have el : p_L_neededCapacity z (x 1) (x 2) (z + 194) M = some (nN 1, M) := by
      unfold p_L_neededCapacity
      rw [hX, bS, e6, ctc2_r, if_pos rfl]
      rfl
    unfold pk_50
    simp only [hx1, hx2, bS, el, ob2_def, hX6, o2, o4, o5, eq_self, if_true]
    rw [if_neg (by decide)]
  have o1 : (x 1 < 0 ∨ nN (v 1) ≤ x 1) → ∃ M', pk_50 L xs z (z + 180) (z + 194) (z + 195) i0 M = some M' ∧ OFF z M' := fun ho => by
    refine fin ?_ (fun B g a => ?_)
    · unfold p_X6_neededCapacity; rw [hX, bS, nco _ ho, obx_r]
    · unfold p_X7_neededCapacity
      rw [oc, bS, e_no_o hI ho, ob2_def, if_neg (by decide)]
  rcases ixN (x 1) (n := v 1) (by omega) with ho | ho | ⟨c, hc, hxc⟩
  · exact o1 (Or.inl ho)
  · exact o1 (Or.inr ho)
  clear o1
  have o1 : (x 2 < 0 ∨ nN (v 0) ≤ x 2) → ∃ M', pk_50 L xs z (z + 180) (z + 194) (z + 195) i0 M = some M' ∧ OFF z M' := fun ho => by
    refine fin ?_ (fun B g a => ?_)
    · unfold p_X6_neededCapacity; rw [hxc, hX, bS, nc c hc, obx_l, bS, nso _ ho, obx_r]
    · unfold p_X7_neededCapacity
      rw [hxc, oc, bS, e_no_p hI hc ho, ob2_def, if_neg (by decide)]
  rcases ixN (x 2) (n := v 0) (by omega) with ho | ho | ⟨s, hs, hxs⟩
  · exact o1 (Or.inl ho)
  · exact o1 (Or.inr ho)
  clear o1 fin
  obtain ⟨val, M1, e6, hv⟩ := ch_needed hP hC hc hs
  rw [← hxc, ← hxs] at e6 hv
  obtain ⟨⟨f0, hod⟩, hq⟩ := hV _ M1 _ hv
  obtain ⟨o1, M2, o2, o3, o4, o5, o6⟩ := hq (vp_updL f0 0 (Int32.toInt64 val))
  refine ⟨M2, ?_, o3⟩
  have el : p_L_neededCapacity z (x 1) (x 2) (z + 194) M = some (0, upM M1 (z + 194) (.inl (2, 1, .inr (.inl (vp_updL f0 0 (Int32.toInt64 val)))))) := by
    unfold p_L_neededCapacity
    rw [hX, bS, e6, ctc2_l, aLs_od hod, bS]
  unfold pk_50
  have eL := aL_od o6
  simp only [hx1, hx2, bS, el, ob2_def, o1, o2, o4, o5, eq_self, if_true, eL, lgc_self]
end KNE
