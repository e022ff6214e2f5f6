/-! the law's cases without a word of the class's exceptions -/
section KB
variable {L : Nat} {xs : Nat → Int32} {i0 : Int32} {x : Nat → Int32} {z : Nat} {M : Mem}
theorem k_20 (hO : OFF z M) (hx : xIs L xs i0 x) : ∃ M', pk_20 L xs z (z + 180) (z + 194) (z + 195) i0 M = some M' ∧ OFF z M' := by
  obtain ⟨v, pl, cd, ⟨hX, r, b, t, tb, g, h, ar, u, ta, hM, hr, hG, hR, hT, hI⟩, ⟨f0, hod⟩, hF⟩ := off_q hO
  have hb := b_claims (z := z) (m := z + 180) M hG hR hT hI (by rw [← hM]; exact hX) (by rw [← hM]; exact hr)
  rw [← hM] at hb
  obtain ⟨val, y, e6, hv, e7⟩ := hb
  subst hv
  obtain ⟨B1, g1, a1, e1, hc⟩ := hF f0
  rw [upM_same hod] at e1
  obtain ⟨hO2, hod2⟩ := hc (nN 0)
  refine ⟨_, ?_, hO2⟩
  have e7 := e7 B1 g1 a1
  have o1 : isC 6 M (z + 180) = some () := by rw [e1]; exact oc _ _ _ _
  rw [← e1] at e7
  unfold pk_20
  rw [hX, bS, e6, bS, o1, bS]
  refine Eq.trans (congrArg (fun q => ob2 q _) e7) ?_
  rw [ob2_def, if_pos rfl]
theorem k_36 (hO : OFF z M) (hx : xIs L xs i0 x) : ∃ M', pk_36 L xs z (z + 180) (z + 194) (z + 195) i0 M = some M' ∧ OFF z M' := by
  obtain ⟨v, pl, cd, ⟨hX, r, b, t, tb, g, h, ar, u, ta, hM, hr, hG, hR, hT, hI⟩, ⟨f0, hod⟩, hF⟩ := off_q hO
  have hb := b_together (z := z) (m := z + 180) M hG hR hT hI (by rw [← hM]; exact hX) (by rw [← hM]; exact hr)
  rw [← hM] at hb
  obtain ⟨val, y, e6, hv, e7⟩ := hb
  subst hv
  obtain ⟨B1, g1, a1, e1, hc⟩ := hF f0
  rw [upM_same hod] at e1
  obtain ⟨hO2, hod2⟩ := hc (nN 0)
  refine ⟨_, ?_, hO2⟩
  have e7 := e7 B1 g1 a1
  have o1 : isC 6 M (z + 180) = some () := by rw [e1]; exact oc _ _ _ _
  rw [← e1] at e7
  unfold pk_36
  rw [hX, bS, e6, bS, o1, bS]
  refine Eq.trans (congrArg (fun q => ob2 q _) e7) ?_
  rw [ob2_def, if_pos rfl]
theorem k_40 (hO : OFF z M) (hx : xIs L xs i0 x) : ∃ M', pk_40 L xs z (z + 180) (z + 194) (z + 195) i0 M = some M' ∧ OFF z M' := by
  obtain ⟨v, pl, cd, ⟨hX, r, b, t, tb, g, h, ar, u, ta, hM, hr, hG, hR, hT, hI⟩, ⟨f0, hod⟩, hF⟩ := off_q hO
  have hb := b_freePlaces (z := z) (m := z + 180) M hG hR hT hI (by rw [← hM]; exact hX) (by rw [← hM]; exact hr)
  rw [← hM] at hb
  obtain ⟨val, y, e6, hv, e7⟩ := hb
  subst hv
  obtain ⟨B1, g1, a1, e1, hc⟩ := hF f0
  rw [upM_same hod] at e1
  obtain ⟨hO2, hod2⟩ := hc (nN 0)
  refine ⟨_, ?_, hO2⟩
  have e7 := e7 B1 g1 a1
  have o1 : isC 6 M (z + 180) = some () := by rw [e1]; exact oc _ _ _ _
  rw [← e1] at e7
  unfold pk_40
  rw [hX, bS, e6, bS, o1, bS]
  refine Eq.trans (congrArg (fun q => ob2 q _) e7) ?_
  rw [ob2_def, if_pos rfl]
theorem k_42 (hO : OFF z M) (hx : xIs L xs i0 x) : ∃ M', pk_42 L xs z (z + 180) (z + 194) (z + 195) i0 M = some M' ∧ OFF z M' := by
  obtain ⟨v, pl, cd, ⟨hX, r, b, t, tb, g, h, ar, u, ta, hM, hr, hG, hR, hT, hI⟩, ⟨f0, hod⟩, hF⟩ := off_q hO
  have hb := b_trades (z := z) (m := z + 180) M hG hR hT hI (by rw [← hM]; exact hX) (by rw [← hM]; exact hr)
  rw [← hM] at hb
  obtain ⟨val, y, e6, hv, e7⟩ := hb
  subst hv
  obtain ⟨B1, g1, a1, e1, hc⟩ := hF f0
  rw [upM_same hod] at e1
  obtain ⟨hO2, hod2⟩ := hc (nN 0)
  refine ⟨_, ?_, hO2⟩
  have e7 := e7 B1 g1 a1
  have o1 : isC 6 M (z + 180) = some () := by rw [e1]; exact oc _ _ _ _
  rw [← e1] at e7
  unfold pk_42
  rw [hX, bS, e6, bS, o1, bS]
  refine Eq.trans (congrArg (fun q => ob2 q _) e7) ?_
  rw [ob2_def, if_pos rfl]
theorem k_46 (hO : OFF z M) (hx : xIs L xs i0 x) : ∃ M', pk_46 L xs z (z + 180) (z + 194) (z + 195) i0 M = some M' ∧ OFF z M' := by
  obtain ⟨v, pl, cd, ⟨hX, r, b, t, tb, g, h, ar, u, ta, hM, hr, hG, hR, hT, hI⟩, ⟨f0, hod⟩, hF⟩ := off_q hO
  have hb := b_mostWaited (z := z) (m := z + 180) M hG hR hT hI (by rw [← hM]; exact hX) (by rw [← hM]; exact hr)
  rw [← hM] at hb
  obtain ⟨val, y, e6, hv, e7⟩ := hb
  subst hv
  obtain ⟨B1, g1, a1, e1, hc⟩ := hF f0
  rw [upM_same hod] at e1
  obtain ⟨hO2, hod2⟩ := hc (nN 0)
  refine ⟨_, ?_, hO2⟩
  have e7 := e7 B1 g1 a1
  have o1 : isC 6 M (z + 180) = some () := by rw [e1]; exact oc _ _ _ _
  rw [← e1] at e7
  unfold pk_46
  rw [hX, bS, e6, bS, o1, bS]
  refine Eq.trans (congrArg (fun q => ob2 q _) e7) ?_
  rw [ob2_def, if_pos rfl]
end KB
section GW
variable {z : Nat} {M : Mem} {v : Nat → Nat} {pl : Nat → Option Nat} {nm : Nat → Nat} {H : Nat → rowT} {n sv : Nat} {S : rowT} {inp : Nat → Nat} {len ec : Nat} {eo : Int32} {out : Nat → Nat} {ol : Nat}
/-- what a change leaves, at large -/
def CGw {α : Type} (z : Nat) (M : Mem) (v : Nat → Nat) (pl : Nat → Option Nat) (nm : Nat → Nat) (H : Nat → rowT) (n sv : Nat) (S : rowT) (inp : Nat → Nat) (len ec : Nat) (eo : Int32) (out : Nat → Nat) (ol : Nat) (val : α) (M1 : Mem) (ref : Mem → Option (α × Mem)) : Prop :=
  ∃ v' pl' nm' H' n' sv' S' inp' len' ec' eo' out' ol', PUR v' pl' nm' H' n' sv' S' inp' len' out' ol' ∧ CL0 z (rst M1 z) v' pl' nm' H' n' sv' S' inp' len' ec' eo' out' ol' ∧ (∀ x, ¬ (z ≤ x ∧ x < z + 180) → M1 x = M x) ∧ ∀ B g a, RFO g a nm H n sv S inp len ec eo out ol → ∃ g' a', ref (ovl B (z + 180) g (up2 a 1 (enc v pl))) = some (val, ovl B (z + 180) g' (up2 a' 1 (enc v' pl'))) ∧ RFO g' a' nm' H' n' sv' S' inp' len' ec' eo' out' ol'
theorem off_x (hO : OFF z M) : ∃ v pl nm H n sv S inp len ec eo out ol, PUR v pl nm H n sv S inp len out ol ∧ CL0 z (rst M z) v pl nm H n sv S inp len ec eo out ol ∧ isC 5 M z = some () ∧
    ∀ (α : Type) (val : α) M1 ref, CGw z M v pl nm H n sv S inp len ec eo out ol val M1 ref → isC 6 M1 (z + 180) = some () ∧ ∃ M2, ref M1 = some (val, M2) ∧ OFF z M2 ∧ isC 6 M2 (z + 180) = some () := by
  obtain ⟨v, pl, nm, H, n, sv, S, inp, len, ec, eo, out, ol, hP, hC, ⟨B, g, a, hM, hR⟩, ⟨f0, hod⟩, f1, hod2⟩ := hO
  refine ⟨v, pl, nm, H, n, sv, S, inp, len, ec, eo, out, ol, hP, hC, (cl_now hC).1, ?_⟩
  rintro α val M1 ref ⟨v', pl', nm', H', n', sv', S', inp', len', ec', eo', out', ol', p1, p2, p3, p4⟩
  have e1 : M1 = ovl M1 (z + 180) g (up2 a 1 (enc v pl)) := ovl_re (B := B) (fun x x1 x2 => by rw [← hM]; exact p3 x (by omega))
  obtain ⟨g', a', q1, q2⟩ := p4 M1 g a hR
  rw [← e1] at q1
  refine ⟨by rw [e1]; exact oc _ _ _ _, _, q1, ?_, oc _ _ _ _⟩
  refine ⟨v', pl', nm', H', n', sv', S', inp', len', ec', eo', out', ol', p1, ?_, ⟨_, g', a', rfl, q2⟩, ⟨f0, ?_⟩, f1, ?_⟩
  · rw [rst_eq (M := M1)]
    · exact p2
    · intro x x1 x2
      rw [ovl_o _ _ _ _ (by omega)]
  · rw [ovl_o _ _ _ _ (by omega)]; exact (p3 _ (by omega)).trans hod
  · rw [ovl_o _ _ _ _ (by omega)]; exact (p3 _ (by omega)).trans hod2
/-- the rolls lie behind the reader's two cells, and not at the writer's -/
theorem rd_all {rn bn tn tbn rr br tr tbr : Nat} (hW : WHR z rn bn tn tbn rr br tr tbr) : (∀ x, x = rr ∨ (br ≤ x ∧ x < br + 9) → z + 3 ≤ x ∧ x ≠ z + 26 ∧ x ≠ z + 27) ∧ (∀ x, x = tr ∨ (tbr ≤ x ∧ x < tbr + 10) → z + 3 ≤ x ∧ x ≠ z + 26 ∧ x ≠ z + 27) ∧ (∀ x, x = tn ∨ (tbn ≤ x ∧ x < tbn + 10) → z + 3 ≤ x ∧ x ≠ z + 26 ∧ x ≠ z + 27) ∧ (∀ x, x = rn ∨ (bn ≤ x ∧ x < bn + 9) → z + 3 ≤ x ∧ x ≠ z + 26 ∧ x ≠ z + 27) := by
  unfold WHR at hW
  rcases hW with ⟨w1, w2, w3, w4, w5, w6, w7, w8⟩ | ⟨w1, w2, w3, w4, w5, w6, w7, w8⟩
  · subst w1 w2 w3 w4 w5 w6 w7 w8
    exact ⟨fun x hx => by omega, fun x hx => by omega, fun x hx => by omega, fun x hx => by omega⟩
  · subst w1 w2 w3 w4 w5 w6 w7 w8
    exact ⟨fun x hx => by omega, fun x hx => by omega, fun x hx => by omega, fun x hx => by omega⟩
theorem ge3 {x : Nat} (h : z + 49 ≤ x) : z + 3 ≤ x ∧ x ≠ z + 26 ∧ x ≠ z + 27 := by omega
/-- the office with other words in the reader and the writer -/
theorem cl_rw {N : Mem} (hC : CL0 z N v pl nm H n sv S inp len ec eo out ol) : ∃ rn hn rr, N z = some (.inr (5, flX z rn sv hn n)) ∧ (∃ (q : Nat → Int32) (w : Value) (tx : Nat → Int32), N (z + 1) = some (.inr (3, [.ref (z + 2), .int (nN len), .int (nN ec), .int eo, .ref rr, .int (q 5), .int (q 6), .int (q 7), .int (q 8), .int (q 9), .int (q 10), w])) ∧ N (z + 2) = some (.inl (1, 900, .inl tx)) ∧ ∀ i, i < len → tx i = sbI (inp i)) ∧ (∃ bt, N (z + 26) = some (.inr (1, [.ref (z + 27), .int (nN ol)])) ∧ N (z + 27) = some (.inl (1, 200, .inl bt)) ∧ ∀ i, i < ol → bt i = nN (out i)) ∧
    ∀ N' inp' len' ec' eo' out' ol', (∀ x, x ≠ z + 1 → x ≠ z + 2 → x ≠ z + 26 → x ≠ z + 27 → N' x = N x) → RDR z N' rr inp' len' ec' eo' → (∃ bt, N' (z + 26) = some (.inr (1, [.ref (z + 27), .int (nN ol')])) ∧ N' (z + 27) = some (.inl (1, 200, .inl bt)) ∧ ∀ i, i < ol' → bt i = nN (out' i)) → CL0 z N' v pl nm H n sv S inp' len' ec' eo' out' ol' := by
  obtain ⟨rn, bn, tn, tbn, rr, br, tr, tbr, hn', hW, hX, ⟨g, h, ar, u, ta, q1, q2, q3, q4⟩, ⟨t5, g5, h5, a5, r5⟩, ⟨t6, g6, h6, a6, r6⟩, ⟨t7, g7, h7, a7, r7, r7'⟩, ⟨q8, f, q9, q10⟩, q11, ⟨T, q12a, q12b⟩, ⟨bt, q13a, q13b, q13c⟩, ⟨qq, w, tx, q14a, q14b, q14c⟩, gg, hh2, aa, uu, tt, r15, r16⟩ := hC
  refine ⟨rn, hn', rr, hX, ⟨qq, w, tx, q14a, q14b, q14c⟩, ⟨bt, q13a, q13b, q13c⟩, fun N' inp' len' ec' eo' out' ol' hk hrd hwt => ?_⟩
  obtain ⟨k1, k2, k3, k4⟩ := rd_all hW
  have hk3 : ∀ x, z + 3 ≤ x ∧ x ≠ z + 26 ∧ x ≠ z + 27 → N' x = N x := fun x hx => hk x (by have := hx.1; omega) (by have := hx.1; omega) hx.2.1 hx.2.2
  have c49 : ∀ x, (x = z + 49 ∨ (z + 50 ≤ x ∧ x < z + 50 + 9)) → N' x = N x := fun x hx => hk3 x (ge3 (ge49 (k := 49) (by decide) hx))
  have c59 : ∀ x, (x = z + 59 ∨ (z + 60 ≤ x ∧ x < z + 60 + 9)) → N' x = N x := fun x hx => hk3 x (ge3 (ge49 (k := 59) (by decide) hx))
  have c69 : ∀ x, (x = z + 69 ∨ (z + 70 ≤ x ∧ x < z + 70 + 9)) → N' x = N x := fun x hx => hk3 x (ge3 (ge49 (k := 69) (by decide) hx))
  have hz : N' z = N z := hk z (Nat.ne_of_lt (Nat.lt_add_of_pos_right (by decide))) (Nat.ne_of_lt (Nat.lt_add_of_pos_right (by decide))) (Nat.ne_of_lt (Nat.lt_add_of_pos_right (by decide))) (Nat.ne_of_lt (Nat.lt_add_of_pos_right (by decide)))
  refine ⟨rn, bn, tn, tbn, rr, br, tr, tbr, hn', hW, hz.trans hX, ⟨g, h, ar, u, ta, q1.kp (fun x hx => hk3 x (k4 x hx)), q2.kp (fun x hx => hk3 x (k3 x hx)), q3, q4⟩, ⟨t5, g5, h5, a5, r5.kp c49⟩, ⟨t6, g6, h6, a6, r6.kp c59⟩, ⟨t7, g7, h7, a7, r7.kp c69, r7'⟩, ⟨q8, f, (hk3 _ (ge3 (Nat.add_le_add_left (by decide) z))).trans q9, q10⟩, fun k hk10 => ?_, ⟨T, (hk3 (z + 24) ⟨Nat.add_le_add_left (by decide) z, fun e => absurd (Nat.add_left_cancel e) (by decide), fun e => absurd (Nat.add_left_cancel e) (by decide)⟩).trans q12a, (hk3 (z + 25) ⟨Nat.add_le_add_left (by decide) z, fun e => absurd (Nat.add_left_cancel e) (by decide), fun e => absurd (Nat.add_left_cancel e) (by decide)⟩).trans q12b⟩, hwt, hrd, ⟨gg, hh2, aa, uu, tt, r15.kp (fun x hx => hk3 x (k1 x hx)), r16.kp (fun x hx => hk3 x (k2 x hx))⟩⟩
  obtain ⟨t1, g1, h1, a1, s1, s2⟩ := q11 k hk10
  exact ⟨t1, g1, h1, a1, s1.kp (fun x hx => hk3 x (ge3 (ge80 hx))), s2⟩
/-- the class unchanged, the reference's word on exceptions cleared -/
theorem cgw_q {α : Type} (hP : PUR v pl nm H n sv S inp len out ol) (hC : CL0 z (rst M z) v pl nm H n sv S inp len ec eo out ol) {val : α} {ref : Mem → Option (α × Mem)} (h : ∀ B g a, RFO g a nm H n sv S inp len ec eo out ol → ref (ovl B (z + 180) g (up2 a 1 (enc v pl))) = some (val, ovl B (z + 180) (upd g 9 (nN 0)) (up2 a 1 (enc v pl)))) : CGw z M v pl nm H n sv S inp len ec eo out ol val M ref :=
  ⟨v, pl, nm, H, n, sv, S, inp, len, ec, eo, out, ol, hP, hC, fun _ _ => rfl, fun B g a hF => ⟨_, a, h B g a hF, hF.g9⟩⟩
end GW
section KG
variable {L : Nat} {xs : Nat → Int32} {i0 : Int32} {x : Nat → Int32} {z : Nat} {M : Mem}
theorem k_3 (hO : OFF z M) (hx : xIs L xs i0 x) : ∃ M', pk_3 L xs z (z + 180) (z + 194) (z + 195) i0 M = some M' ∧ OFF z M' := by
  obtain ⟨v, pl, nm, H, n, sv, S, inp, len, ec, eo, out, ol, hP, hC, hX, hV⟩ := off_x hO
  obtain ⟨rn, hn, rr, c1, ⟨q, w, tx, c2, c3, c4⟩, -, -⟩ := cl_rw hC
  rw [rst_in (by omega)] at c1 c2
  have e6 : p_X6_errorCode z M = some (nN ec) := by
    unfold p_X6_errorCode gR gI gV; rw [c1]; show Option.bind (some (z + 1)) _ = _; rw [bS, c2]; rfl
  obtain ⟨o1, M2, o2, o3, o4⟩ := hV Int32 (nN ec) M (fun M => p_X7_errorCode (z + 180) M) (cgw_q hP hC (fun B g a hF => by
    unfold p_X7_errorCode
    rw [show (0 : Int32) = nN 0 from rfl, op_9, bS, oi_13, bS, pk_un (by decide), hF.1.2.2.2.1]))
  exact ⟨M2, by unfold pk_3; rw [hX, bS, e6, bS, o1, bS]; refine Eq.trans (congrArg (fun q => ob2 q _) o2) ?_; rw [ob2_def, if_pos rfl], o3⟩
theorem k_4 (hO : OFF z M) (hx : xIs L xs i0 x) : ∃ M', pk_4 L xs z (z + 180) (z + 194) (z + 195) i0 M = some M' ∧ OFF z M' := by
  obtain ⟨v, pl, nm, H, n, sv, S, inp, len, ec, eo, out, ol, hP, hC, hX, hV⟩ := off_x hO
  obtain ⟨rn, hn, rr, c1, ⟨q, w, tx, c2, c3, c4⟩, -, -⟩ := cl_rw hC
  rw [rst_in (by omega)] at c1 c2
  have e6 : p_X6_errorOffset z M = some eo := by
    unfold p_X6_errorOffset gR gI gV; rw [c1]; show Option.bind (some (z + 1)) _ = _; rw [bS, c2]; rfl
  obtain ⟨o1, M2, o2, o3, o4⟩ := hV Int32 eo M (fun M => p_X7_errorOffset (z + 180) M) (cgw_q hP hC (fun B g a hF => by
    unfold p_X7_errorOffset
    rw [show (0 : Int32) = nN 0 from rfl, op_9, bS, oi_14, bS, pk_un (by decide), hF.1.2.2.2.2.1]))
  exact ⟨M2, by unfold pk_4; rw [hX, bS, e6, bS, o1, bS]; refine Eq.trans (congrArg (fun q => ob2 q _) o2) ?_; rw [ob2_def, if_pos rfl], o3⟩
end KG
section KG2
variable {L : Nat} {xs : Nat → Int32} {i0 : Int32} {x : Nat → Int32} {z : Nat} {M : Mem} {v : Nat → Nat} {pl : Nat → Option Nat} {nm : Nat → Nat} {H : Nat → rowT} {n sv : Nat} {S : rowT} {inp : Nat → Nat} {len ec : Nat} {eo : Int32} {out : Nat → Nat} {ol : Nat}
theorem rst_u {e : mE} {q y : Nat} (hy : y ≠ q) : rst (upM M q e) z y = rst M z y := by
  unfold rst upM
  by_cases c : z ≤ y ∧ y < z + 180
  · rw [if_pos c, if_pos c, if_neg hy]
  · rw [if_neg c, if_neg c]
theorem rst_s {e : mE} {q : Nat} (hq : z ≤ q ∧ q < z + 180) : rst (upM M q e) z q = some e := by rw [rst_in hq]; exact if_pos rfl
theorem k_1 (hO : OFF z M) (hx : xIs L xs i0 x) : ∃ M', pk_1 L xs z (z + 180) (z + 194) (z + 195) i0 M = some M' ∧ OFF z M' := by
  obtain ⟨-, hx1, -, -, -, -⟩ := hx
  obtain ⟨v, pl, nm, H, n, sv, S, inp, len, ec, eo, out, ol, hP, hC, hX, hV⟩ := off_x hO
  obtain ⟨rn, hn, rr, c1, ⟨q, w, tx, c2, c3, c4⟩, c5, put⟩ := cl_rw hC
  have c2' := c2
  rw [rst_in (by omega)] at c1 c2'
  have hl : len ≤ 900 := hP.2.2.2.2.2.1
  have r0 : gR 5 0 M z = some (z + 1) := by unfold gR gV; rw [c1]; rfl
  have i1 : gI 3 1 M (z + 1) = some (nN len) := by unfold gI gV; rw [c2']; rfl
  have fin : ∀ val M1, p_X6_truncateInput z (x 1) M = some (val, M1) → CGw z M v pl nm H n sv S inp len ec eo out ol val M1 (fun M => p_X7_truncateInput (z + 180) (x 1) M) → ∃ M', pk_1 L xs z (z + 180) (z + 194) (z + 195) i0 M = some M' ∧ OFF z M' := fun val M1 e6 hw => by
    obtain ⟨o1, M2, o2, o3, o4⟩ := hV Int32 val M1 _ hw
    exact ⟨M2, by unfold pk_1; rw [hx1, bS, hX, bS, e6, ob2_def, bS, o1, bS]; refine Eq.trans (congrArg (fun q => ob2 q _) o2) ?_; rw [ob2_def, if_pos rfl], o3⟩
  have outc : (x 1 < 0 ∨ nN (len + 1) ≤ x 1) → ∃ M', pk_1 L xs z (z + 180) (z + 194) (z + 195) i0 M = some M' ∧ OFF z M' := fun ho => by
    refine fin 0 M ?_ (cgw_q hP hC (fun B g a hF => ?_))
    · unfold p_X6_truncateInput
      by_cases c : x 1 < 0
      · rw [if_pos c]
      · have : ¬ x 1 ≤ nN len := by
          have h2 := ho.resolve_left c
          rw [i_le, nN_toInt (by omega)] at h2 ⊢
          omega
        rw [if_neg c, r0, bS, i1, bS, if_neg this]
    · show p_X7_truncateInput _ _ _ = _
      unfold p_X7_truncateInput
      rw [show (0 : Int32) = nN 0 from rfl, op_9, bS, oi_12, bS, pk_un (by decide), hF.1.2.2.1, rng_out2 (by omega) ho, bS, if_pos rfl]
  rcases ixN (x 1) (n := len + 1) (by omega) with ho | ho | ⟨k, hk, hxk⟩
  · exact outc (Or.inl ho)
  · exact outc (Or.inr ho)
  clear outc
  refine fin 1 (upM M (z + 1) (.inr (3, [.ref (z + 2), .int (nN k), .int (nN ec), .int eo, .ref rr, .int (q 5), .int (q 6), .int (q 7), .int (q 8), .int (q 9), .int (q 10), w]))) ?_ ?_
  · unfold p_X6_truncateInput
    have ew : sV 3 1 M (z + 1) (.int (nN k)) = some (upM M (z + 1) (.inr (3, [.ref (z + 2), .int (nN k), .int (nN ec), .int eo, .ref rr, .int (q 5), .int (q 6), .int (q 7), .int (q 8), .int (q 9), .int (q 10), w]))) := by
      unfold sV; rw [c2']; exact if_pos ⟨rfl, show 1 < 12 by decide⟩
    rw [hxk, if_neg (nN_neg0 (by omega)), r0, bS, i1, bS, if_pos (nle_t (by omega) (by omega) (by omega)), bS, ew, bS]
  · obtain ⟨p1, p2, p3, p4, p5, p6, p7, p8, p9, p10⟩ := hP
    refine ⟨v, pl, nm, H, n, sv, S, inp, k, ec, eo, out, ol, ⟨p1, p2, p3, p4, p5, by omega, fun i hi => p7 i (by omega), p8, p9, p10⟩, ?_, fun x hx => if_neg (by omega), fun B g a hF => ?_⟩
    · refine put _ inp k ec eo out ol (fun x a1 a2 a3 a4 => rst_u a1) ⟨q, w, tx, rst_s (by omega), (rst_u (by omega)).trans c3, fun i hi => c4 i (by omega)⟩ ?_
      obtain ⟨bt, b1, b2, b3⟩ := c5
      exact ⟨bt, (rst_u (by omega)).trans b1, (rst_u (by omega)).trans b2, b3⟩
    · refine ⟨upd (upd g 9 (nN 0)) 12 (nN k), a, ?_, ?_⟩
      · show p_X7_truncateInput _ _ _ = _
        unfold p_X7_truncateInput
        rw [hxk, show (0 : Int32) = nN 0 from rfl, op_9, bS, oi_12, bS, pk_un (by decide), hF.1.2.2.1, rng_in2 (by omega) (by omega), bS, if_neg (by decide), op_12, bS]
      · obtain ⟨⟨f1, f2, f3, f4, f5, f6⟩, f7, f8, f9, f10, f11⟩ := hF.g9 (c := nN 0)
        exact ⟨⟨by rw [pk_un (by decide)]; exact f1, by rw [pk_un (by decide)]; exact f2, pk_us, by rw [pk_un (by decide)]; exact f4, by rw [pk_un (by decide)]; exact f5, by rw [pk_un (by decide)]; exact f6⟩, f7, f8, f9, fun i hi => f10 i (by omega), f11⟩
theorem k_54 (hO : OFF z M) (hx : xIs L xs i0 x) : ∃ M', pk_54 L xs z (z + 180) (z + 194) (z + 195) i0 M = some M' ∧ OFF z M' := by
  obtain ⟨-, hx1, -, -, -, -⟩ := hx
  obtain ⟨v, pl, nm, H, n, sv, S, inp, len, ec, eo, out, ol, hP, hC, hX, hV⟩ := off_x hO
  obtain ⟨rn, hn, rr, c1, -, ⟨bt, c5, c6, c7⟩, -⟩ := cl_rw hC
  rw [rst_in (by omega)] at c1 c5 c6
  have hl : ol ≤ 200 := hP.2.2.2.2.2.2.2.1
  have r0 : gR 5 2 M z = some (z + 26) := by unfold gR gV; rw [c1]; rfl
  have i1 : gI 1 1 M (z + 26) = some (nN ol) := by unfold gI gV; rw [c5]; rfl
  have r1 : gR 1 0 M (z + 26) = some (z + 27) := by unfold gR gV; rw [c5]; rfl
  have fin : ∀ val, p_X6_outputByte z (x 1) M = some val → CGw z M v pl nm H n sv S inp len ec eo out ol val M (fun M => p_X7_outputByte (z + 180) (x 1) M) → ∃ M', pk_54 L xs z (z + 180) (z + 194) (z + 195) i0 M = some M' ∧ OFF z M' := fun val e6 hw => by
    obtain ⟨o1, M2, o2, o3, o4⟩ := hV Int32 val M _ hw
    exact ⟨M2, by unfold pk_54; rw [hx1, bS, hX, bS, e6, bS, bS, o1, bS]; refine Eq.trans (congrArg (fun q => ob2 q _) o2) ?_; rw [ob2_def, if_pos rfl], o3⟩
  have outc : (x 1 < 0 ∨ nN ol ≤ x 1) → ∃ M', pk_54 L xs z (z + 180) (z + 194) (z + 195) i0 M = some M' ∧ OFF z M' := fun ho => by
    refine fin (-1) ?_ (cgw_q hP hC (fun B g a hF => ?_))
    · unfold p_X6_outputByte
      by_cases c : x 1 < 0
      · rw [if_pos c]
      · rw [if_neg c, r0, bS, i1, bS, if_neg (fa_of_nlt_le (ho.resolve_left c))]
    · show p_X7_outputByte _ _ _ = _
      unfold p_X7_outputByte
      rw [show (0 : Int32) = nN 0 from rfl, op_9, bS, oi_27, bS, pk_un (by decide), hF.1.2.2.2.2.2, show (1 : Int32) = nN 1 from rfl, rng_out (by omega) ho, bS, if_pos rfl]
  rcases ixN (x 1) (n := ol) (by omega) with ho | ho | ⟨k, hk, hxk⟩
  · exact outc (Or.inl ho)
  · exact outc (Or.inr ho)
  clear outc
  refine fin (nN (out k)) ?_ (cgw_q hP hC (fun B g a hF => ?_))
  · unfold p_X6_outputByte
    have ea : aI 1 M (z + 27) (nN k) = some (nN (out k)) := by
      unfold aI; rw [c6]
      have n1 := nN_neg0 (n := k) (by omega)
      have n2 := nN_clamp (n := k) (by omega)
      simp only [n2]
      rw [if_pos ⟨trivial, fun y => by rcases y with y | y; exact n1 y; omega⟩, c7 k hk]
    rw [hxk, if_neg (nN_neg0 (by omega)), r0, bS, i1, bS, if_pos (nlt_t (by omega) (by omega) hk), bS, r1, bS, ea, bS]
  · show p_X7_outputByte _ _ _ = _
    unfold p_X7_outputByte
    rw [hxk, show (0 : Int32) = nN 0 from rfl, op_9, bS, oi_27, bS, pk_un (by decide), hF.1.2.2.2.2.2, show (1 : Int32) = nN 1 from rfl, rng_in hk (by omega), bS, if_neg (by decide), or_26, bS, od_13, up2_n (by decide), rd_nN (by omega) (by omega), hF.2.2.2.2.2 k hk, bS]
end KG2
