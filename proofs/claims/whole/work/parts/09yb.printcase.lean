/-! printSchool: the case -/
section PS4
variable {z : Nat} {M : Mem} {v : Nat → Nat} {pl : Nat → Option Nat} {nm : Nat → Nat} {H : Nat → rowT} {n sv : Nat} {S : rowT} {inp : Nat → Nat} {len ec : Nat} {eo : Int32} {out : Nat → Nat} {s : Nat} {ol : Nat}
theorem cl_pg (hC : CL0 z (rst M z) v pl nm H n sv S inp len ec eo out ol) : ∃ r b t tb g h ar u ta, GE r b t tb ∧ RG g h ar v pl ∧ TG u ta v (cdS nm) ∧ PCX M z r b t tb g h ar u ta := by
  obtain ⟨rn, bn, tn, tbn, rr, br, tr, tbr, hn', hW, hX, ⟨g, h, ar, u, ta, q1, q2, q3, q4⟩, -⟩ := hC
  have hXM : M z = some (.inr (5, flX z rn sv hn' n)) := by rw [← rst_in (M := M) (z := z) (a := z) (by omega)]; exact hX
  have hl : (z ≤ rn ∧ rn < z + 180) ∧ (z ≤ bn ∧ bn + 9 ≤ z + 180) ∧ (z ≤ tn ∧ tn < z + 180) ∧ (z ≤ tbn ∧ tbn + 10 ≤ z + 180) ∧ GE rn bn tn tbn := by
    unfold WHR at hW
    unfold GE
    rcases hW with hW | hW <;> omega
  obtain ⟨l1, l2, l3, l4, l5⟩ := hl
  obtain ⟨-, -, k3, k4⟩ := rd_all hW
  have q1M := q1.up (M := M) (z := z) l1 l2
  have q2M := q2.up (M := M) (z := z) l3 l4
  refine ⟨rn, bn, tn, tbn, g, h, ar, u, ta, l5, q3, q4, fun N hN => ?_⟩
  have hz : N z = some (.inr (5, flX z rn sv hn' n)) := (hN z (by omega) (by omega)).trans hXM
  exact ⟨(q1M.kp (fun x hx => hN x (k4 x hx).2.1 (k4 x hx).2.2)).toF (q2M.kp (fun x hx => hN x (k3 x hx).2.1 (k3 x hx).2.2)), by unfold gR gV; rw [hz]; rfl, by unfold gR gV; rw [hz]; rfl, by unfold isC; rw [hz]; rfl⟩
def pS1 (v : Nat → Nat) (pl : Nat → Option Nat) (nm out : Nat → Nat) (s : Nat) : outT := wO (nmO nm s (out, 0) 6) 58
def pS2 (v : Nat → Nat) (pl : Nat → Option Nat) (nm out : Nat → Nat) (s : Nat) : outT := wO (prO v pl s 0 (pS1 v pl nm out s) (hldN v pl s)) 47
def pS3 (v : Nat → Nat) (pl : Nat → Option Nat) (nm out : Nat → Nat) (s : Nat) : outT := prO v pl s 1 (pS2 v pl nm out s) (wtgN v pl s)
theorem pS_ok (hI : Inv v pl) (hn : ∀ i, i < 6 → nm (6 * s + i) < 128) : (OKO (nmO nm s (out, 0) 6) ∧ (nmO nm s (out, 0) 6).2 ≤ 6) ∧ (OKO (pS1 v pl nm out s) ∧ (pS1 v pl nm out s).2 ≤ 7) ∧ (OKO (pS2 v pl nm out s) ∧ (pS2 v pl nm out s).2 ≤ 8 + 4 * hldN v pl s) ∧ (OKO (pS3 v pl nm out s) ∧ (pS3 v pl nm out s).2 ≤ 8 + 4 * hldN v pl s + 4 * wtgN v pl s) ∧ hldN v pl s + wtgN v pl s ≤ 40 := by
  have h1 := hI.h1
  have o0 : OKO (out, 0) := fun i hi => absurd hi (Nat.not_lt_zero _)
  obtain ⟨a1, a2⟩ := nmO_ok (nm := nm) (s := s) o0 6 hn
  have a2 : (nmO nm s (out, 0) 6).2 ≤ 6 := by have : (nmO nm s (out, 0) 6).2 ≤ 0 + 6 := a2; omega
  have b1 : OKO (pS1 v pl nm out s) := wO_ok a1 (by omega)
  have b2 : (pS1 v pl nm out s).2 ≤ 7 := by unfold pS1; rw [wO_2]; omega
  obtain ⟨c1, c2⟩ := prO_ok (v := v) (pl := pl) (s := s) (W := 0) b1 h1 (hldN v pl s)
  have d1 : OKO (pS2 v pl nm out s) := wO_ok c1 (by omega)
  have d2 : (pS2 v pl nm out s).2 ≤ 8 + 4 * hldN v pl s := by unfold pS2; rw [wO_2]; omega
  obtain ⟨e1, e2⟩ := prO_ok (v := v) (pl := pl) (s := s) (W := 1) d1 h1 (wtgN v pl s)
  refine ⟨⟨a1, a2⟩, ⟨b1, b2⟩, ⟨d1, d2⟩, ⟨e1, by unfold pS3; omega⟩, ?_⟩
  have := cnt_dis (P := fun k => pl k = some s) (Q := fun k => waiB v pl k s = true) (n := v 1) (fun k hk ⟨x, y⟩ => wai_np y x)
  unfold hldN wtgN
  omega
theorem c_print (hP : PUR v pl nm H n sv S inp len out ol) (hC : CL0 z (rst M z) v pl nm H n sv S inp len ec eo out ol) {s : Nat} (hs : s < v 0) : ∃ M1, p_X6_printSchool z (nN s) M = some (.inl (nN (pS3 v pl nm out s).2, M1)) ∧ PGS M M1 z (pS3 v pl nm out s) := by
  have hI : Inv v pl := hP.1.1
  have hb := hI.hb; have h0 := hI.h0; have h1 := hI.h1; have h2 := hI.h2; have h7 := hI.h7; have h8 := hI.h8
  obtain ⟨-, -, ns, -⟩ := in_cc hI hC
  have hX0 := (cl_now hC).1
  have hol : ol ≤ 200 := hP.2.2.2.2.2.2.2.1
  obtain ⟨r, b, t, tb, g, h, ar, u, ta, hG, hR, hT, hX⟩ := cl_pg hC
  obtain ⟨rn, hn, rr, c1, -, ⟨bt, c5, c6, c7⟩, -⟩ := cl_rw hC
  rw [rst_in (by omega)] at c5 c6
  obtain ⟨n1, n2, n3⟩ := clN_eq (q := (out, 0)) hP.2.2.2.2.2.2.2.2.2 hs
  obtain ⟨⟨a1, a2⟩, ⟨b1, b2⟩, ⟨d1, d2⟩, ⟨e1, e2⟩, hle⟩ := pS_ok (out := out) (s := s) hI n3
  obtain ⟨-, -, x3, -⟩ := hX M (fun x _ _ => rfl)
  have i0 : isC 1 M (z + 26) = some () := by unfold isC; rw [c5]; rfl
  have w0 : sV 1 1 M (z + 26) (.int (nN 0)) = some (upM M (z + 26) (.inr (1, [.ref (z + 27), .int (nN 0)]))) := by
    unfold sV; rw [c5]; exact if_pos ⟨rfl, (by show 1 < 2; omega)⟩
  have p0 : PGS M (upM M (z + 26) (.inr (1, [.ref (z + 27), .int (nN 0)]))) z (out, 0) := ⟨⟨bt, upM_at, (upM_o (by omega)).trans c6, fun i hi => absurd hi (Nat.not_lt_zero _)⟩, fun x y1 y2 => upM_o y1⟩
  generalize upM M (z + 26) (.inr (1, [.ref (z + 27), .int (nN 0)])) = M6 at w0 p0
  obtain ⟨y1, y2, y3, y4⟩ := hX M6 p0.2
  have r0 : gR 2 0 M6 r = some t := by rw [y1]; exact fv_0
  have r3 : gR 4 3 M6 t = some tb := by rw [y1]; exact ft_3 hG
  have rc : aI 0 M6 tb (nN s) = some (nN (cdS nm s)) := by rw [y1, fp_0 hG, rd_nN (by omega) (by omega), hT.a0 hs]
  obtain ⟨M13, q13, p13⟩ := c_putName (M0 := M) (z := z) (cdS nm s) n2 (fun M5 => some M5) 6 FU M6 (out, 0) (by omega) (FU_pos (by omega)) p0 (by show 0 + 6 ≤ 200; omega)
  rw [n1] at p13
  have q13 : p_X1_putName (z + 26) (nN (cdS nm s)) M6 = some M13 := q13
  obtain ⟨-, v2, v3, v4⟩ := hX M13 p13.2
  obtain ⟨M16, q16, p16⟩ := c_put p13 (by omega) (x := 58) (by omega)
  have p16 : PGS M M16 z (pS1 v pl nm out s) := p16
  obtain ⟨u1, u2, u3, u4⟩ := hX M16 p16.2
  have ec1 : cnt (fun k => isoB v pl 0 k s = true) (v 1) = hldN v pl s := cnt_c (fun k hk => by show (decide (pl k = some s) = true) ↔ _; rw [decide_eq_true_eq])
  have ec2 : cnt (fun k => isoB v pl 1 k s = true) (v 1) = wtgN v pl s := cnt_c (fun k hk => Iff.rfl)
  have hH : p_X2_holdersOf r (nN s) M16 = some (mkL (fun k => isoB v pl 0 k s = true) (v 1)) := by
    rw [u1, c_holdersOf M16 hG hR hT hI (by omega)]
    exact congrArg some (mk_c (fun k hk => by show _ ↔ (decide (pl k = some s) = true); rw [decide_eq_true_eq]))
  have i16 : isC 2 M16 r = some () := by rw [u1]; exact fv_isC
  obtain ⟨M21, q21, p21⟩ := c_printChildren hX hG hR hT hI (W := 0) hs b1 (by rw [ec1]; omega) p16
  rw [ec1] at p21
  obtain ⟨-, t2, t3, t4⟩ := hX M21 p21.2
  have l21 : (prO v pl s 0 (pS1 v pl nm out s) (hldN v pl s)).2 + 1 = (pS2 v pl nm out s).2 := rfl
  obtain ⟨M24, q24, p24⟩ := c_put p21 (by omega) (x := 47) (by omega)
  have p24 : PGS M M24 z (pS2 v pl nm out s) := p24
  obtain ⟨s1, s2, s3, s4⟩ := hX M24 p24.2
  have hW : p_X2_waitersOf r (nN s) M24 = some (mkL (fun k => isoB v pl 1 k s = true) (v 1)) := by
    rw [s1, c_waitersOf M24 hG hR hT hI (by omega)]
    exact congrArg some (mk_c (fun k hk => Iff.rfl))
  have i24 : isC 2 M24 r = some () := by rw [s1]; exact fv_isC
  obtain ⟨M29, q29, p29⟩ := c_printChildren hX hG hR hT hI (W := 1) hs d1 (by rw [ec2]; omega) p24
  rw [ec2] at p29
  have p29 : PGS M M29 z (pS3 v pl nm out s) := p29
  obtain ⟨-, -, m3, -⟩ := hX M29 p29.2
  have g1 : gI 1 1 M29 (z + 26) = some (nN (pS3 v pl nm out s).2) := by
    obtain ⟨⟨bt', k1, -, -⟩, -⟩ := p29
    unfold gI gV; rw [k1]; rfl
  refine ⟨M29, ?_, p29⟩
  have w0 : p_X1_clear (z + 26) M = some M6 := by
    unfold p_X1_clear
    rw [show (0 : Int32) = nN 0 from rfl, w0, bS]
  unfold p_X6_printSchool
  rw [hX0, bS, ns s hs, obx_l, x3, bS, i0, bS, w0, bS, y3, bS, y2, bS, r0, bS, r3, bS, rc, bS, p0.c, bS, q13, bS, v3, bS, p13.c, bS, show (58 : Int32) = nN 58 from rfl, q16, bS, u2, bS, i16, bS, hH, bS, u4, bS, q21, bS, t3, bS, p21.c, bS, show (47 : Int32) = nN 47 from rfl, q24, bS, s2, bS, i24, bS, hW, bS, s4, bS, q29, bS, m3, bS, g1, bS]
theorem e_print {B : Mem} {m : Nat} {g : Nat → Int32} {a : Nat → Nat → Int32} (hP : PUR v pl nm H n sv S inp len out ol) (hF : RFO g a nm H n sv S inp len ec eo out ol) {s : Nat} (hs : s < v 0) : ∃ F, p_X7_printSchool m (nN s) (ovl B m g (up2 a 1 (enc v pl))) = some (nN (pS3 v pl nm out s).2, SW B m (upd g 9 (nN 0)) a F (pS3 v pl nm out s) v pl) ∧ PRF F (pS3 v pl nm out s) := by
  have hI : Inv v pl := hP.1.1
  have hb := hI.hb; have h0 := hI.h0; have h1 := hI.h1; have h2 := hI.h2; have h7 := hI.h7; have h8 := hI.h8
  obtain ⟨n1, n2, n3⟩ := clN_eq (q := (out, 0)) hP.2.2.2.2.2.2.2.2.2 hs
  obtain ⟨⟨a1, a2⟩, ⟨b1, b2⟩, ⟨d1, d2⟩, ⟨e1, e2⟩, hle⟩ := pS_ok (out := out) (s := s) hI n3
  have o0 : OKO (out, 0) := fun i hi => absurd hi (Nat.not_lt_zero _)
  have e0 : ovl B m (upd (upd g 9 (nN 0)) 27 (nN 0)) (up2 a 1 (enc v pl)) = SW B m (upd g 9 (nN 0)) a (a 13) (out, 0) v pl := by
    unfold SW; rw [up2_id]
  have hA6 : ∀ i, i < 48 → a 6 i = nN (nm i) := hF.2.2.2.1
  have hFU : 100 < FU := FU_pos (by omega)
  unfold p_X7_printSchool
  rw [oc, bS, e_ns hI hs, ob2_def, if_pos (by rfl), show (0 : Int32) = nN 0 from rfl, op_27, bS, e0]
  generalize FU = F0 at hFU ⊢
  obtain ⟨F1, q1, p1⟩ := e_name (B := B) (m := m) (g := upd g 9 (nN 0)) (A := a) (q := (out, 0)) (v := v) (pl := pl) (by omega) hA6 n3 (fun M14 => Option.bind (isC 6 M14 m) fun _ => Option.bind (p_X7_write m (58 : Int32) M14) fun M16 => pl_X7_printSchool_66 (fun M29 => Option.bind (isC 6 M29 m) fun _ => Option.bind (p_X7_write m (47 : Int32) M29) fun M31 => pl_X7_printSchool_122 (fun M39 => Option.bind (gI 6 27 M39 m) fun v40 => some (v40, M39)) m (nN s) F0 (nN 0) M31) m (nN s) F0 (nN 0) M16) 6 0 F0 (a 13) (by omega) (by omega) (fun i hi => absurd hi (Nat.not_lt_zero _)) o0 (by show 0 + 6 ≤ 400; omega)
  obtain ⟨F2, q2, p2⟩ := e_wr (B := B) (m := m) (g := upd g 9 (nN 0)) (A := a) (v := v) (pl := pl) p1 (by omega) 58
  have p2 : PRF F2 (pS1 v pl nm out s) := p2
  obtain ⟨F3, q3, p3⟩ := e_hold (B := B) (m := m) (g := upd g 9 (nN 0)) (A := a) (q := pS1 v pl nm out s) hI (s := s) (by omega) b1 (by omega) (fun M29 => Option.bind (isC 6 M29 m) fun _ => Option.bind (p_X7_write m (47 : Int32) M29) fun M31 => pl_X7_printSchool_122 (fun M39 => Option.bind (gI 6 27 M39 m) fun v40 => some (v40, M39)) m (nN s) F0 (nN 0) M31) (hldN v pl s) 0 F0 F2 (by omega) (by omega) p2
  have l21 : (prO v pl s 0 (pS1 v pl nm out s) (hldN v pl s)).2 + 1 = (pS2 v pl nm out s).2 := rfl
  obtain ⟨F4, q4, p4⟩ := e_wr (B := B) (m := m) (g := upd g 9 (nN 0)) (A := a) (v := v) (pl := pl) p3 (by omega) 47
  have p4 : PRF F4 (pS2 v pl nm out s) := p4
  obtain ⟨F5, q5, p5⟩ := e_wait (B := B) (m := m) (g := upd g 9 (nN 0)) (A := a) (q := pS2 v pl nm out s) hI (s := s) (by omega) d1 (by omega) (fun M39 => Option.bind (gI 6 27 M39 m) fun v40 => some (v40, M39)) (wtgN v pl s) 0 F0 F4 (by omega) (by omega) p4
  refine ⟨F5, ?_, p5⟩
  refine Eq.trans q1 ?_
  show Option.bind (isC 6 _ m) _ = _
  rw [SW.c, bS, show (58 : Int32) = nN 58 from rfl, q2, bS]
  refine Eq.trans q3 ?_
  show Option.bind (isC 6 _ m) _ = _
  rw [SW.c, bS, show (47 : Int32) = nN 47 from rfl, q4, bS]
  refine Eq.trans q5 ?_
  show Option.bind (gI 6 27 _ m) _ = _
  have r27 : gI 6 27 (SW B m (upd g 9 (nN 0)) a F5 (pS3 v pl nm out s) v pl) m = some (nN (pS3 v pl nm out s).2) := by unfold SW; rw [oi_27, pk_us]
  have r27 : gI 6 27 (SW B m (upd g 9 (nN 0)) a F5 (prO v pl s 1 (pS2 v pl nm out s) (wtgN v pl s)) v pl) m = some (nN (pS3 v pl nm out s).2) := r27
  rw [r27, bS]
  rfl
/-- the office with another output -/
theorem off_o (hO : OFF z M) : ∃ v pl nm H n sv S inp len ec eo out ol, PUR v pl nm H n sv S inp len out ol ∧ CL0 z (rst M z) v pl nm H n sv S inp len ec eo out ol ∧ isC 5 M z = some () ∧ isC 6 M (z + 180) = some () ∧
    (∀ (val : Int32) (M1 : Mem) (ref : Mem → Option (Int32 × Mem)) (out' : Nat → Nat) (ol' : Nat), ol' ≤ 200 → (∀ i, i < ol' → out' i < 128) → CL0 z (rst M1 z) v pl nm H n sv S inp len ec eo out' ol' → (∀ x, ¬ (z ≤ x ∧ x < z + 180) → M1 x = M x) → (∀ B g a, RFO g a nm H n sv S inp len ec eo out ol → ∃ g' a', ref (ovl B (z + 180) g (up2 a 1 (enc v pl))) = some (val, ovl B (z + 180) g' (up2 a' 1 (enc v pl))) ∧ RFO g' a' nm H n sv S inp len ec eo out' ol' ∧ g' 9 = nN 0) → (∃ f, M1 (z + 194) = some (.inl (2, 1, .inr (.inl f)))) ∧ ∀ f, isC 6 (upM M1 (z + 194) (.inl (2, 1, .inr (.inl f)))) (z + 180) = some () ∧ ∃ M2, ref (upM M1 (z + 194) (.inl (2, 1, .inr (.inl f)))) = some (val, M2) ∧ OFF z M2 ∧ isC 6 M2 (z + 180) = some () ∧ p_X7_thrown (z + 180) M2 = some 0 ∧ M2 (z + 194) = some (.inl (2, 1, .inr (.inl f)))) ∧
    (∀ (k : Nat) (y : Int32) (ref : Mem → Option (Int32 × Mem)), (∀ B g a, RFO g a nm H n sv S inp len ec eo out ol → ref (ovl B (z + 180) g (up2 a 1 (enc v pl))) = some (y, ovl B (z + 180) (upd g 9 (nN k)) (up2 a 1 (enc v pl)))) → ∃ M2, ref M = some (y, M2) ∧ OFF z M2 ∧ isC 6 M2 (z + 180) = some () ∧ p_X7_thrown (z + 180) M2 = some (nN k)) := by
  have hO' := hO
  obtain ⟨v, pl, nm, H, n, sv, S, inp, len, ec, eo, out, ol, hP, hC, ⟨B, g, a, hM, hR⟩, ⟨f0, hod⟩, f1, hod2⟩ := hO
  refine ⟨v, pl, nm, H, n, sv, S, inp, len, ec, eo, out, ol, hP, hC, (cl_now hC).1, by rw [hM]; exact oc _ _ _ _, ?_, ?_⟩
  · intro val M1 ref out' ol' hl1 hl2 p2 p3 p4
    have e1 : M1 = ovl M1 (z + 180) g (up2 a 1 (enc v pl)) := ovl_re (B := B) (fun x x1 x2 => by rw [← hM]; exact p3 x (by omega))
    have e2 : ∀ e, upM M1 (z + 194) e = ovl (upM M1 (z + 194) e) (z + 180) g (up2 a 1 (enc v pl)) := fun e => by
      conv => lhs; rw [e1]
      exact ovl_up (by omega) e
    refine ⟨⟨f0, (p3 _ (by omega)).trans hod⟩, fun f => ⟨by rw [e2]; exact oc _ _ _ _, ?_⟩⟩
    obtain ⟨g', a', q1, q2, q3⟩ := p4 (upM M1 (z + 194) (.inl (2, 1, .inr (.inl f)))) g a hR
    refine ⟨_, by rw [e2]; exact q1, ?_, oc _ _ _ _, ?_, ?_⟩
    · refine ⟨v, pl, nm, H, n, sv, S, inp, len, ec, eo, out', ol', ⟨hP.1, hP.2.1, hP.2.2.1, hP.2.2.2.1, hP.2.2.2.2.1, hP.2.2.2.2.2.1, hP.2.2.2.2.2.2.1, hl1, hl2, hP.2.2.2.2.2.2.2.2.2⟩, ?_, ⟨_, g', a', rfl, q2⟩, ⟨f, ?_⟩, f1, ?_⟩
      · rw [rst_eq (M := M1)]
        · exact p2
        · intro x x1 x2
          rw [ovl_o _ _ _ _ (by omega)]
          exact if_neg (by omega)
      · rw [ovl_o _ _ _ _ (by omega)]; exact if_pos rfl
      · rw [ovl_o _ _ _ _ (by omega)]
        exact (if_neg (by omega)).trans ((p3 _ (by omega)).trans hod2)
    · unfold p_X7_thrown; rw [oi_9, bS, q3]; rfl
    · rw [ovl_o _ _ _ _ (by omega)]; exact if_pos rfl
  · intro k y ref hx
    have q1 := hx B g a hR
    refine ⟨_, by rw [hM]; exact q1, ?_, oc _ _ _ _, thr_9⟩
    refine ⟨v, pl, nm, H, n, sv, S, inp, len, ec, eo, out, ol, hP, ?_, ⟨_, _, a, rfl, hR.g9⟩, ⟨f0, ?_⟩, f1, ?_⟩
    · rw [rst_eq (M := M)]
      · exact hC
      · intro x x1 x2
        rw [ovl_o _ _ _ _ (by omega), hM, ovl_o _ _ _ _ (by omega)]
    · rw [ovl_o _ _ _ _ (by omega)]
      rw [hM, ovl_o _ _ _ _ (by omega)] at hod
      exact hod
    · rw [ovl_o _ _ _ _ (by omega)]
      rw [hM, ovl_o _ _ _ _ (by omega)] at hod2
      exact hod2
end PS4
section KPS
variable {L : Nat} {xs : Nat → Int32} {i0 : Int32} {x : Nat → Int32} {z : Nat} {M : Mem}
theorem k_53 (hO : OFF z M) (hx : xIs L xs i0 x) : ∃ M', pk_53 L xs z (z + 180) (z + 194) (z + 195) i0 M = some M' ∧ OFF z M' := by
  obtain ⟨-, hx1, hx2, hx3, hx4, hx5⟩ := hx
  obtain ⟨v, pl, nm, H, n, sv, S, inp, len, ec, eo, out, ol, hP, hC, hX, hX6, hV, hE2⟩ := off_o hO
  have hI : Inv v pl := hP.1.1
  have h0 := hI.h0
  obtain ⟨-, -, -, nso⟩ := in_cc hI hC
  have outc : (x 1 < 0 ∨ nN (v 0) ≤ x 1) → ∃ M', pk_53 L xs z (z + 180) (z + 194) (z + 195) i0 M = some M' ∧ OFF z M' := fun ho => by
    have e6 : p_X6_printSchool z (x 1) M = some (.inr "java/lang/IndexOutOfBoundsException") := by
      unfold p_X6_printSchool; rw [hX, bS, nso _ ho, obx_r]
    obtain ⟨M2, o2, o3, o4, o5⟩ := hE2 1 0 (fun M => p_X7_printSchool (z + 180) (x 1) M) (fun B g a hF => by
      show p_X7_printSchool _ _ _ = _
      unfold p_X7_printSchool
      rw [oc, bS, e_ns_o hI ho, ob2_def, if_neg (by decide)])
    refine ⟨M2, ?_, o3⟩
    have el : p_L_printSchool z (x 1) (z + 194) M = some (nN 1, M) := by
      unfold p_L_printSchool
      rw [hX, bS, e6, ctc2_r, if_pos rfl]
      rfl
    unfold pk_53
    simp only [hx1, bS, el, ob2_def, hX6, o2, o4, o5, eq_self, if_true]
    rw [if_neg (by decide)]
  rcases ixN (x 1) (n := v 0) (by omega) with ho | ho | ⟨s, hs, hxs⟩
  · exact outc (Or.inl ho)
  · exact outc (Or.inr ho)
  clear outc
  obtain ⟨M1, e6, hp⟩ := c_print hP hC hs
  obtain ⟨n1, n2, n3⟩ := clN_eq (q := (out, 0)) hP.2.2.2.2.2.2.2.2.2 hs
  obtain ⟨-, -, -, ⟨b1, b2⟩, hle⟩ := pS_ok (out := out) (s := s) hI n3
  have hC1 : CL0 z (rst M1 z) v pl nm H n sv S inp len ec eo (pS3 v pl nm out s).1 (pS3 v pl nm out s).2 := by
    obtain ⟨rn, hn, rr, c1, ⟨qq, w, tx, c2, c3, c4⟩, -, put⟩ := cl_rw hC
    have sm : ∀ y, y ≠ z + 26 → y ≠ z + 27 → rst M1 z y = rst M z y := fun y y1 y2 => by
      unfold rst
      by_cases c : z ≤ y ∧ y < z + 180
      · rw [if_pos c, if_pos c, hp.2 y y1 y2]
      · rw [if_neg c, if_neg c]
    obtain ⟨⟨bt, k1, k2, k3⟩, -⟩ := hp
    have hrd : RDR z (rst M z) rr inp len ec eo := ⟨qq, w, tx, c2, c3, c4⟩
    refine put (rst M1 z) inp len ec eo _ _ (fun y _ _ y1 y2 => sm y y1 y2) ?_ ⟨bt, ?_, ?_, k3⟩
    · exact ⟨qq, w, tx, (sm _ (by omega) (by omega)).trans c2, (sm _ (by omega) (by omega)).trans c3, c4⟩
    · rw [rst_in (by omega)]; exact k1
    · rw [rst_in (by omega)]; exact k2
  rw [← hxs] at e6
  obtain ⟨⟨f0, hod⟩, hq⟩ := hV (nN (pS3 v pl nm out s).2) M1 (fun M => p_X7_printSchool (z + 180) (x 1) M) (pS3 v pl nm out s).1 (pS3 v pl nm out s).2 (by omega) b1 hC1 (fun y hy => hp.2 y (by omega) (by omega)) (fun B g a hF => by
    obtain ⟨F, e7, hf⟩ := e_print (B := B) (m := z + 180) hP hF hs
    refine ⟨upd (upd g 9 (nN 0)) 27 (nN (pS3 v pl nm out s).2), up2 a 13 F, ?_, ?_, ?_⟩
    · show p_X7_printSchool (z + 180) (x 1) _ = _
      rw [hxs]; exact e7
    · obtain ⟨⟨g1, g2, g3, g4, g5, g6⟩, g7, g8, g9, g10, g11⟩ := hF.g9 (c := nN 0)
      exact ⟨⟨by rw [pk_un (by decide)]; exact g1, by rw [pk_un (by decide)]; exact g2, by rw [pk_un (by decide)]; exact g3, by rw [pk_un (by decide)]; exact g4, by rw [pk_un (by decide)]; exact g5, pk_us⟩, by rw [up2_n (by decide)]; exact g7, by rw [up2_n (by decide)]; exact g8, by rw [up2_n (by decide)]; exact g9, by rw [up2_n (by decide)]; exact g10, by rw [up2_s]; exact hf⟩
    · rw [pk_un (by decide), pk_us])
  obtain ⟨o1, M2, o2, o3, o4, o5, o6⟩ := hq (vp_updL f0 0 (Int32.toInt64 (nN (pS3 v pl nm out s).2)))
  refine ⟨M2, ?_, o3⟩
  have el : p_L_printSchool z (x 1) (z + 194) M = some (0, upM M1 (z + 194) (.inl (2, 1, .inr (.inl (vp_updL f0 0 (Int32.toInt64 (nN (pS3 v pl nm out s).2))))))) := by
    unfold p_L_printSchool
    rw [hX, bS, e6, ctc2_l, aLs_od hod, bS]
  unfold pk_53
  have eL := aL_od o6
  simp only [hx1, bS, el, ob2_def, o1, o2, o4, o5, eq_self, if_true, eL, lgc_self]
end KPS
