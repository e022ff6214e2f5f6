/-! count -/
section CO
variable {z : Nat} {M : Mem} {v : Nat → Nat} {pl : Nat → Option Nat} {nm : Nat → Nat} {H : Nat → rowT} {n sv : Nat} {S : rowT} {inp : Nat → Nat} {len ec : Nat} {eo : Int32} {out : Nat → Nat} {ol : Nat}
theorem cgv_q (hP : PUR v pl nm H n sv S inp len out ol) (hC : CL0 z (rst M z) v pl nm H n sv S inp len ec eo out ol) {val : Int32} {ref : Mem → Option (Int32 × Mem)} (h : ∀ B g a, RFO g a nm H n sv S inp len ec eo out ol → ref (ovl B (z + 180) g (up2 a 1 (enc v pl))) = some (val, ovl B (z + 180) (upd g 9 (nN 0)) (up2 a 1 (enc v pl)))) : CGv z M v pl nm H n sv S inp len ec eo out ol val M ref :=
  ⟨v, pl, H, n, sv, S, hP, hC, fun _ _ => rfl, fun B g a hF => ⟨_, a, h B g a hF, hF.g9, pk_us⟩⟩
theorem cnt_no {P : Nat → Prop} [DecidablePred P] : ∀ n, cnt P n + cnt (fun k => ¬ P k) n = n := by
  intro n
  induction n with
  | zero => rfl
  | succ n ih =>
    unfold cnt
    by_cases c : P n
    · rw [if_pos c, if_neg (fun h => h c)]; omega
    · rw [if_neg c, if_pos c]; omega
def coV (v : Nat → Nat) (pl : Nat → Option Nat) (n : Nat) (k : Nat) : Nat := if k = 3 then cnt (fun c => v (404 + c) = 1) (v 1) else if k = 4 then cnt (fun c => pl c ≠ none) (v 1) else if k = 5 then cnt (fun c => v (364 + c) = 1) (v 1) else if k = 11 then n else v k
theorem ch_count (hP : PUR v pl nm H n sv S inp len out ol) (hC : CL0 z (rst M z) v pl nm H n sv S inp len ec eo out ol) {k : Nat} (hk : k < 12) : p_X6_count z (nN k) M = some (.inl (nN (coV v pl n k))) ∧ CGv z M v pl nm H n sv S inp len ec eo out ol (nN (coV v pl n k)) M (fun M => p_X7_count (z + 180) (nN k) M) := by
  have hI : Inv v pl := hP.1.1
  obtain ⟨rn, hn, rr, c1, -⟩ := cl_rw hC
  rw [rst_in (by omega)] at c1
  have o11 : gI 5 10 M z = some (nN n) := by unfold gI gV; rw [c1]; rfl
  obtain ⟨hX, r, b, t, tb, g, h, ar, u, ta, hM, hr, hG, hR, hT, -⟩ := cl_qry hI hC
  have hb := hI.hb; have h0 := hI.h0; have h1 := hI.h1; have h2 := hI.h2; have h7 := hI.h7; have h8 := hI.h8
  have a0 : gR 2 0 M r = some t := by rw [hM]; exact fv_0
  have b0 : gI 4 0 M t = some (nN (v 0)) := by rw [hM, ft_0 hG, hT.u0]
  have b1 : gI 4 1 M t = some (nN (v 2)) := by rw [hM, ft_1 hG, hT.u1]
  have b2 : gI 4 2 M t = some (nN (v 6)) := by rw [hM, ft_2 hG, hT.u2]
  have a1 : gI 2 1 M r = some (nN (v 1)) := by rw [hM, fv_1, hR.g1]
  have a3 : gI 2 3 M r = some (nN (v 7)) := by rw [hM, fv_3, hR.g3]
  have a4 : gI 2 4 M r = some (nN (v 8)) := by rw [hM, fv_4, hR.g4]
  have a5 : gI 2 5 M r = some (nN (v 9)) := by rw [hM, fv_5, hR.g5]
  have a6 : gI 2 6 M r = some (nN (v 10)) := by rw [hM, fv_6, hR.g6]
  have a9 : gL 2 9 M r = some (mkL (fun c => v (404 + c) = 1) (v 1)) := by rw [hM, fv_9, hR.h9]
  have a8 : gL 2 8 M r = some (mkL (fun c => v (364 + c) = 1) (v 1)) := by rw [hM, fv_8, hR.h8]
  have i2 : isC 2 M r = some () := by rw [hM]; exact fv_isC
  have po : p_X2_placedOnes r M = some (mkL (fun k => pl k ≠ none) (v 1)) := by rw [hM]; exact c_placedOnes M hG hR hT hI
  have bc : ∀ (P : Nat → Prop) [DecidablePred P], p_J13_bitCount_95d88 (mkL P (v 1)) M = some (nN (cnt P (v 1))) := fun P _ => c_bitc (by omega)
  have z7 : ∀ x : Nat, x ≤ 1 → (if nN x = 0 then (some (.inl (0 : Int32)) : Option (Int32 ⊕ String)) else some (.inl (1 : Int32))) = some (.inl (nN x)) := fun x hx => by
    rcases (show x = 0 ∨ x = 1 by omega) with e | e
    · rw [e]; rfl
    · rw [e]; rfl
  rcases (show k = 0 ∨ k = 1 ∨ k = 2 ∨ k = 3 ∨ k = 4 ∨ k = 5 ∨ k = 6 ∨ k = 7 ∨ k = 8 ∨ k = 9 ∨ k = 10 ∨ k = 11 by omega) with e | e | e | e | e | e | e | e | e | e | e | e <;> subst e
  · refine ⟨?_, cgv_q hP hC (fun B g a hF => ?_)⟩
    · unfold p_X6_count
      rw [if_neg (by decide), if_pos (by decide), hr, bS, a0, bS, b0, bS]
      rfl
    · show p_X7_count _ _ _ = _
      unfold p_X7_count
      simp only [jn_def]
      rw [show (0 : Int32) = nN 0 from rfl, op_9, bS, show (11 : Int32) = nN 11 from rfl, rng_in2 (by omega) (by omega), bS, if_neg (by decide), oc, bS, fa_0, ob2_def, if_pos rfl, if_pos (Or.inl (by decide)), or_0, bS, er_v (by omega) (by omega), bS]
      rfl
  · refine ⟨?_, cgv_q hP hC (fun B g a hF => ?_)⟩
    · unfold p_X6_count
      rw [if_neg (by decide), if_neg (by decide), if_pos (by decide), hr, bS, a1, bS]
      rfl
    · show p_X7_count _ _ _ = _
      unfold p_X7_count
      simp only [jn_def]
      rw [show (0 : Int32) = nN 0 from rfl, op_9, bS, show (11 : Int32) = nN 11 from rfl, rng_in2 (by omega) (by omega), bS, if_neg (by decide), oc, bS, fa_0, ob2_def, if_pos rfl, if_pos (Or.inl (by decide)), or_0, bS, er_v (by omega) (by omega), bS]
      rfl
  · refine ⟨?_, cgv_q hP hC (fun B g a hF => ?_)⟩
    · unfold p_X6_count
      rw [if_neg (by decide), if_neg (by decide), if_neg (by decide), if_pos (by decide), hr, bS, a0, bS, b1, bS]
      rfl
    · show p_X7_count _ _ _ = _
      unfold p_X7_count
      simp only [jn_def]
      rw [show (0 : Int32) = nN 0 from rfl, op_9, bS, show (11 : Int32) = nN 11 from rfl, rng_in2 (by omega) (by omega), bS, if_neg (by decide), oc, bS, fa_0, ob2_def, if_pos rfl, if_pos (Or.inl (by decide)), or_0, bS, er_v (by omega) (by omega), bS]
      rfl
  · refine ⟨?_, cgv_q hP hC (fun B g a hF => ?_)⟩
    · unfold p_X6_count
      rw [if_neg (by decide), if_neg (by decide), if_neg (by decide), if_neg (by decide), if_pos (by decide), hr, bS, a9, bS, bc, bS]
      rfl
    · show p_X7_count _ _ _ = _
      unfold p_X7_count
      simp only [jn_def]
      rw [show (0 : Int32) = nN 0 from rfl, op_9, bS, show (11 : Int32) = nN 11 from rfl, rng_in2 (by omega) (by omega), bS, if_neg (by decide), oc, bS, fa_0, ob2_def, if_pos rfl, if_neg (by decide), if_pos (by decide), oc, bS, show (404 : Int32) = nN 404 from rfl, show (1 : Int32) = nN 1 from rfl, e_childrenWith up2_s hI (Or.inr rfl), bS]
      rfl
  · refine ⟨?_, cgv_q hP hC (fun B g a hF => ?_)⟩
    · unfold p_X6_count
      rw [if_neg (by decide), if_neg (by decide), if_neg (by decide), if_neg (by decide), if_neg (by decide), if_pos (by decide), hr, bS, i2, bS, po, bS, bc, bS]
      rfl
    · show p_X7_count _ _ _ = _
      unfold p_X7_count
      simp only [jn_def]
      rw [show (0 : Int32) = nN 0 from rfl, op_9, bS, show (11 : Int32) = nN 11 from rfl, rng_in2 (by omega) (by omega), bS, if_neg (by decide), oc, bS, fa_0, ob2_def, if_pos rfl, if_neg (by decide), if_neg (by decide), if_pos (by decide), or_0, bS, show (1 : Int32) = nN 1 from rfl, er_v (by omega) (by omega), bS, oc, bS, show (484 : Int32) = nN 484 from rfl, show (-nN 1 : Int32) = mI from rfl, e_childrenFree up2_s hI, bS]
      have e := cnt_no (P := fun k => pl k = none) (v 1)
      have e2 : nN (v 1) - nN (cnt (fun k => pl k = none) (v 1)) = nN (cnt (fun k => ¬ pl k = none) (v 1)) := by
        have e3 : nN (v 1) - nN (cnt (fun k => pl k = none) (v 1)) = nN (v 1 - cnt (fun k => pl k = none) (v 1)) := nN_subN (by omega)
        rw [e3]; congr 1; omega
      rw [e2]
      rfl
  · refine ⟨?_, cgv_q hP hC (fun B g a hF => ?_)⟩
    · unfold p_X6_count
      rw [if_neg (by decide), if_neg (by decide), if_neg (by decide), if_neg (by decide), if_neg (by decide), if_neg (by decide), if_pos (by decide), hr, bS, a8, bS, bc, bS]
      rfl
    · show p_X7_count _ _ _ = _
      unfold p_X7_count
      simp only [jn_def]
      rw [show (0 : Int32) = nN 0 from rfl, op_9, bS, show (11 : Int32) = nN 11 from rfl, rng_in2 (by omega) (by omega), bS, if_neg (by decide), oc, bS, fa_0, ob2_def, if_pos rfl, if_neg (by decide), if_neg (by decide), if_neg (by decide), if_pos (by decide), oc, bS, show (364 : Int32) = nN 364 from rfl, show (1 : Int32) = nN 1 from rfl, e_childrenWith up2_s hI (Or.inl rfl), bS]
      rfl
  · refine ⟨?_, cgv_q hP hC (fun B g a hF => ?_)⟩
    · unfold p_X6_count
      rw [if_neg (by decide), if_neg (by decide), if_neg (by decide), if_neg (by decide), if_neg (by decide), if_neg (by decide), if_neg (by decide), if_pos (by decide), hr, bS, a0, bS, b2, bS]
      rfl
    · show p_X7_count _ _ _ = _
      unfold p_X7_count
      simp only [jn_def]
      rw [show (0 : Int32) = nN 0 from rfl, op_9, bS, show (11 : Int32) = nN 11 from rfl, rng_in2 (by omega) (by omega), bS, if_neg (by decide), oc, bS, fa_0, ob2_def, if_pos rfl, if_neg (by decide), if_neg (by decide), if_neg (by decide), if_neg (by decide), if_pos (by decide), or_0, bS, er_v (by omega) (by omega), bS]
      rfl
  · refine ⟨?_, cgv_q hP hC (fun B g a hF => ?_)⟩
    · unfold p_X6_count
      rw [if_neg (by decide), if_neg (by decide), if_neg (by decide), if_neg (by decide), if_neg (by decide), if_neg (by decide), if_neg (by decide), if_neg (by decide), if_pos (by decide), hr, bS, a3, bS, z7 _ h7]
      rfl
    · show p_X7_count _ _ _ = _
      unfold p_X7_count
      simp only [jn_def]
      rw [show (0 : Int32) = nN 0 from rfl, op_9, bS, show (11 : Int32) = nN 11 from rfl, rng_in2 (by omega) (by omega), bS, if_neg (by decide), oc, bS, fa_0, ob2_def, if_pos rfl, if_neg (by decide), if_neg (by decide), if_neg (by decide), if_neg (by decide), if_neg (by decide), if_pos (by decide), or_0, bS, er_v (by omega) (by omega), bS]
      rfl
  · refine ⟨?_, cgv_q hP hC (fun B g a hF => ?_)⟩
    · unfold p_X6_count
      rw [if_neg (by decide), if_neg (by decide), if_neg (by decide), if_neg (by decide), if_neg (by decide), if_neg (by decide), if_neg (by decide), if_neg (by decide), if_neg (by decide), if_pos (by decide), hr, bS, a4, bS, z7 _ h8]
      rfl
    · show p_X7_count _ _ _ = _
      unfold p_X7_count
      simp only [jn_def]
      rw [show (0 : Int32) = nN 0 from rfl, op_9, bS, show (11 : Int32) = nN 11 from rfl, rng_in2 (by omega) (by omega), bS, if_neg (by decide), oc, bS, fa_0, ob2_def, if_pos rfl, if_neg (by decide), if_neg (by decide), if_neg (by decide), if_neg (by decide), if_neg (by decide), if_neg (by decide), if_pos (by decide), or_0, bS, er_v (by omega) (by omega), bS]
      rfl
  · refine ⟨?_, cgv_q hP hC (fun B g a hF => ?_)⟩
    · unfold p_X6_count
      rw [if_neg (by decide), if_neg (by decide), if_neg (by decide), if_neg (by decide), if_neg (by decide), if_neg (by decide), if_neg (by decide), if_neg (by decide), if_neg (by decide), if_neg (by decide), if_pos (by decide), hr, bS, a5, bS]
      rfl
    · show p_X7_count _ _ _ = _
      unfold p_X7_count
      simp only [jn_def]
      rw [show (0 : Int32) = nN 0 from rfl, op_9, bS, show (11 : Int32) = nN 11 from rfl, rng_in2 (by omega) (by omega), bS, if_neg (by decide), oc, bS, fa_0, ob2_def, if_pos rfl, if_neg (by decide), if_neg (by decide), if_neg (by decide), if_neg (by decide), if_neg (by decide), if_neg (by decide), if_neg (by decide), if_pos (by decide), or_0, bS, er_v (by omega) (by omega), bS]
      rfl
  · refine ⟨?_, cgv_q hP hC (fun B g a hF => ?_)⟩
    · unfold p_X6_count
      rw [if_neg (by decide), if_neg (by decide), if_neg (by decide), if_neg (by decide), if_neg (by decide), if_neg (by decide), if_neg (by decide), if_neg (by decide), if_neg (by decide), if_neg (by decide), if_neg (by decide), if_pos (by decide), hr, bS, a6, bS]
      rfl
    · show p_X7_count _ _ _ = _
      unfold p_X7_count
      simp only [jn_def]
      rw [show (0 : Int32) = nN 0 from rfl, op_9, bS, show (11 : Int32) = nN 11 from rfl, rng_in2 (by omega) (by omega), bS, if_neg (by decide), oc, bS, fa_0, ob2_def, if_pos rfl, if_neg (by decide), if_neg (by decide), if_neg (by decide), if_neg (by decide), if_neg (by decide), if_neg (by decide), if_neg (by decide), if_neg (by decide), if_pos (by decide), or_0, bS, er_v (by omega) (by omega), bS]
      rfl
  · refine ⟨?_, cgv_q hP hC (fun B g a hF => ?_)⟩
    · unfold p_X6_count
      rw [if_neg (by decide), if_neg (by decide), if_neg (by decide), if_neg (by decide), if_neg (by decide), if_neg (by decide), if_neg (by decide), if_neg (by decide), if_neg (by decide), if_neg (by decide), if_neg (by decide), if_neg (by decide), if_pos (by decide), o11, bS]
      rfl
    · show p_X7_count _ _ _ = _
      unfold p_X7_count
      simp only [jn_def]
      rw [show (0 : Int32) = nN 0 from rfl, op_9, bS, show (11 : Int32) = nN 11 from rfl, rng_in2 (by omega) (by omega), bS, if_neg (by decide), oc, bS, fa_0, ob2_def, if_pos rfl, if_neg (by decide), if_neg (by decide), if_neg (by decide), if_neg (by decide), if_neg (by decide), if_neg (by decide), if_neg (by decide), if_neg (by decide), if_neg (by decide), if_pos (by decide), oi_5, bS, pk_un (by decide), hF.1.1]
      rfl
end CO
section KCO
variable {L : Nat} {xs : Nat → Int32} {i0 : Int32} {x : Nat → Int32} {z : Nat} {M : Mem}
theorem k_5 (hO : OFF z M) (hx : xIs L xs i0 x) : ∃ M', pk_5 L xs z (z + 180) (z + 194) (z + 195) i0 M = some M' ∧ OFF z M' := by
  obtain ⟨-, hx1, hx2, hx3, hx4, hx5⟩ := hx
  obtain ⟨v, pl, nm, H, n, sv, S, inp, len, ec, eo, out, ol, hP, hC, hX, hX6, hV, hE2⟩ := off_w2 hO
  have outc : (x 1 < 0 ∨ nN 12 ≤ x 1) → ∃ M', pk_5 L xs z (z + 180) (z + 194) (z + 195) i0 M = some M' ∧ OFF z M' := fun ho => by
    have hb : (x 1).toInt < 0 ∨ 11 < (x 1).toInt := by
      rcases ho with ho | ho
      · rw [i_lt] at ho; exact Or.inl ho
      · rw [i_le] at ho; have e : (nN 12).toInt = 12 := rfl; exact Or.inr (by omega)
    have e6 : p_X6_count z (x 1) M = some (.inr "java/lang/IllegalArgumentException") := by
      unfold p_X6_count; exact if_pos hb
    obtain ⟨M2, o2, o3, o4, o5⟩ := hE2 1 0 (fun M => p_X7_count (z + 180) (x 1) M) (fun B g a hF => by
      show p_X7_count _ _ _ = _
      unfold p_X7_count
      simp only [jn_def]
      rw [show (0 : Int32) = nN 0 from rfl, op_9, bS, show (11 : Int32) = nN 11 from rfl, rng_out2 (n := 11) (by omega) ho, bS, if_pos rfl, oc, bS, show (1 : Int32) = nN 1 from rfl, fa_1, ob2_def, if_neg (by decide), upd_2])
    refine ⟨M2, ?_, o3⟩
    have el : p_L_count z (x 1) (z + 194) M = some (nN 1, M) := by
      unfold p_L_count
      rw [hX, bS, e6, ctc_r, if_pos rfl]
      rfl
    unfold pk_5
    simp only [hx1, bS, el, ob2_def, hX6, o2, o4, o5, eq_self, if_true]
    rw [if_neg (by decide)]
  rcases ixN (x 1) (n := 12) (by omega) with ho | ho | ⟨k, hk, hxk⟩
  · exact outc (Or.inl ho)
  · exact outc (Or.inr ho)
  clear outc
  obtain ⟨e6, hv⟩ := ch_count hP hC hk
  rw [← hxk] at e6 hv
  obtain ⟨⟨f0, hod⟩, hq⟩ := hV _ M _ hv
  obtain ⟨o1, M2, o2, o3, o4, o5, o6⟩ := hq (vp_updL f0 0 (Int32.toInt64 (nN (coV v pl n k))))
  refine ⟨M2, ?_, o3⟩
  have el : p_L_count z (x 1) (z + 194) M = some (0, upM M (z + 194) (.inl (2, 1, .inr (.inl (vp_updL f0 0 (Int32.toInt64 (nN (coV v pl n k)))))))) := by
    unfold p_L_count
    rw [hX, bS, e6, ctc_l, aLs_od hod, bS]
  unfold pk_5
  have eL := aL_od o6
  simp only [hx1, bS, el, ob2_def, o1, o2, o4, o5, eq_self, if_true, eL, lgc_self]
end KCO
