/-! changedByAllocation -/
section CA
variable {z : Nat} {M : Mem} {v : Nat → Nat} {pl : Nat → Option Nat} {nm : Nat → Nat} {H : Nat → rowT} {n sv : Nat} {S : rowT} {inp : Nat → Nat} {len ec : Nat} {eo : Int32} {out : Nat → Nat} {ol : Nat}
theorem oN_in {p q : Option Nat} (hp : ∀ t, p = some t → t < 2147483648) (hq : ∀ t, q = some t → t < 2147483648) (h : oN p = oN q) : p = q := by
  cases q with
  | none =>
    have h : oN p = mI := h
    rw [oN_mI hp] at h; exact h
  | some t =>
    have ht := hq t rfl
    cases p with
    | none =>
      have h : oN (some t) = mI := h.symm
      rw [oN_mI hq] at h; cases h
    | some s =>
      have h : nN s = nN t := h
      rw [nN_eq (hp s rfl) ht] at h; rw [h]
theorem ch_changed (hP : PUR v pl nm H n sv S inp len out ol) (hC : CL0 z (rst M z) v pl nm H n sv S inp len ec eo out ol) : ∃ val M1, p_X6_changedByAllocation z M = some (val, M1) ∧ CGv z M v pl nm H n sv S inp len ec eo out ol val M1 (fun M => p_X7_changedByAllocation (z + 180) M) := by
  have hI : Inv v pl := hP.1.1
  have hZ : ∀ i, 764 ≤ i → v i = 0 := hP.1.2.1
  have hb := hI.hb; have h0 := hI.h0; have h1 := hI.h1; have h2 := hI.h2; have h7 := hI.h7; have h8 := hI.h8
  have hX := (cl_now hC).1
  obtain ⟨d1, d2, d3, -, -, -⟩ := da_all hI
  have d9 : daR v 9 ≤ 160 := d1.1.2.2.2.2.2.2
  have dv1 : daR v 1 = v 1 := d2 1 (by omega)
  obtain ⟨rn, bn, tn, tbn, g, h, ar, u, ta, M2, g0, h0', ar0, e3, r3, r4, i2, hG, hR, hT, hQ, R0, ⟨T, hTq⟩, hA⟩ := cl_tri hI hC
  rw [hTq] at e3
  obtain ⟨g1, h1', ar1, T1, q1, R1, -⟩ := c_run M2 hG hR hT hI hQ (T := T)
  obtain ⟨b3, b4, b1, b5, bR, bC, bO⟩ := hA g1 h1' ar1 T1
  have hinj : ∀ k, (oN (daP v k) = oN (pl k)) = (daP v k = pl k) := fun k => propext ⟨oN_in (d1.plb k) (hI.plb k), fun e => by rw [e]⟩
  refine ⟨nN (cnt (fun k => daP v k ≠ pl k) (v 1)), _, ?_, cgv_t hP hC bC bO (fun B g a hF => ?_)⟩
  · have w1 : gI 2 1 (ofc (ovq M2 (z + 24) T1) (z + 49) (z + 50) tn tbn g1 h1' ar1 u ta) rn = some (nN (v 1)) := by unfold gI gV; rw [bR.1, ← R0.g1]; rfl
    have w16 : gR 2 16 (ofc (ovq M2 (z + 24) T1) (z + 49) (z + 50) tn tbn g1 h1' ar1 u ta) rn = some (bn + 5) := by unfold gR gV; rw [bR.1]; rfl
    have wU : ∀ k, k < v 1 → aI 0 (ofc (ovq M2 (z + 24) T1) (z + 49) (z + 50) tn tbn g1 h1' ar1 u ta) (bn + 5) (nN k) = some (oN (pl k)) := fun k hk => by
      have e := bR.2 5 (by omega)
      unfold aI; rw [e]
      have n1 := nN_neg0 (n := k) (by omega)
      have n2 := nN_clamp (n := k) (by omega)
      simp only [n2]
      rw [if_pos ⟨trivial, fun y => by rcases y with y | y; exact n1 y; have : lnR 5 = 40 := rfl; omega⟩, R0.a5 hk]
    have wT : ∀ k, k < v 1 → aI 0 (ofc (ovq M2 (z + 24) T1) (z + 49) (z + 50) tn tbn g1 h1' ar1 u ta) (z + 50 + 5) (nN k) = some (oN (daP v k)) := fun k hk => by
      rw [fd_5 hG, rd_nN (by omega) (by omega), R1.a5 (c := k) (by show k < daR v 1; omega)]
      rfl
    have w16' : gR 2 16 (ofc (ovq M2 (z + 24) T1) (z + 49) (z + 50) tn tbn g1 h1' ar1 u ta) (z + 49) = some (z + 50 + 5) := fv_16
    unfold p_X6_changedByAllocation
    rw [r4, bS, r3, bS, i2, bS, e3, bS, (hA g h ar T).2.2.1, bS, (hA g h ar T).2.1, bS, q_C hQ, bS, q1, bS]
    generalize ofc (ovq M2 (z + 24) T1) (z + 49) (z + 50) tn tbn g1 h1' ar1 u ta = N at b3 b4 w1 w16 w16' wU wT ⊢
    have hFU : v 1 < FU := FU_pos (by omega)
    generalize FU = F at hFU ⊢
    refine loop_cnt (L := fun fu k x => pl_X6_changedByAllocation_26 (fun z19 => some (z19, N)) z N fu (nN x) (nN k)) (P := fun k => daP v k ≠ pl k) (fin := fun x => some (nN x, N)) (n := v 1) (fun fu k x hk hx => ?_) (fun fu x hx => ?_) F hFU
    · have ek : nN k + (1 : Int32) = nN (k + 1) := nN_add k 1
      have ex : nN x + (1 : Int32) = nN (x + 1) := nN_add x 1
      rw [pl_X6_changedByAllocation_26, b3, bS, w1, bS, if_neg (nle_f (by omega) (by omega) (by omega)), b4, bS, w16', bS, wT k hk, bS, bS, w16, bS, wU k hk, bS, ek, ex]
      by_cases e : daP v k = pl k
      · rw [if_pos (by rw [e]), if_neg (fun q => q e)]
      · rw [if_neg (by rw [hinj]; exact e), if_pos e]
    · rw [pl_X6_changedByAllocation_26, b3, bS, w1, bS, if_pos (nle_t (by omega) (by omega) (by omega))]
  · have hF0 := hF.g9 (c := nN 0)
    obtain ⟨T9, e9, -⟩ := e_allocates (B := B) (m := z + 180) (g := upd g 9 (nN 0)) (a := up2 a 3 (cpF (enc v pl) (a 3) 0 0 764)) hI
    have e9 : p_X7_allocates (z + 180) (ovl B (z + 180) (upd g 9 (nN 0)) (up2 (up2 a 3 (cpF (enc v pl) (a 3) 0 0 764)) 1 (enc v pl))) = some (nN (daR v 9), ovl B (z + 180) (upd g 9 (nN 0)) (up2 (up2 (up2 a 3 (cpF (enc v pl) (a 3) 0 0 764)) 8 T9) 1 (enc (daR v) (daP v)))) := e9
    refine ⟨upd g 9 (nN 0), up2 (up2 a 3 (cpF (enc v pl) (a 3) 0 0 764)) 8 T9, ?_, (hF0.a_ (by omega)).a_ (by omega), pk_us⟩
    show p_X7_changedByAllocation _ _ = _
    unfold p_X7_changedByAllocation
    have ee := e_ends (B := B) (m := z + 180) (g := upd g 9 (nN 0)) (a := up2 (up2 a 3 (cpF (enc v pl) (a 3) 0 0 764)) 8 T9) (v := v) (pl := pl) (v' := daR v) (pl' := daP v) hZ (fun i hi => (d2 i (by omega)).trans (hZ i hi)) (fun i hi => by rw [up2_n (by decide), up2_s]; exact cpF_3 hi)
    simp only [jn_def]
    rw [show (0 : Int32) = nN 0 from rfl, op_9, bS, oc, bS, e_begins, bS, oc, bS, e9, ob2_def]
    have rT : ∀ k, k < v 1 → aI 0 (ovl B (z + 180) (upd g 9 (nN 0)) (up2 (up2 (up2 a 3 (cpF (enc v pl) (a 3) 0 0 764)) 8 T9) 1 (enc (daR v) (daP v)))) (z + 180 + 1) (nN (484 + k)) = some (oN (daP v k)) := fun k hk => er_p (by omega)
    have rU : ∀ k, k < v 1 → aI 0 (ovl B (z + 180) (upd g 9 (nN 0)) (up2 (up2 (up2 a 3 (cpF (enc v pl) (a 3) 0 0 764)) 8 T9) 1 (enc (daR v) (daP v)))) (z + 180 + 3) (nN (484 + k)) = some (oN (pl k)) := fun k hk => by
      rw [od_3, up2_n (by decide), up2_n (by decide), up2_s, rd_nN (by omega) (by omega), cpF_3 (by omega), enc_p (by omega)]
    have r1 : aI 0 (ovl B (z + 180) (upd g 9 (nN 0)) (up2 (up2 (up2 a 3 (cpF (enc v pl) (a 3) 0 0 764)) 8 T9) 1 (enc (daR v) (daP v)))) (z + 180 + 1) (nN 1) = some (nN (v 1)) := by rw [er_v (by omega) (by omega), dv1]
    have rr0 : gR 6 0 (ovl B (z + 180) (upd g 9 (nN 0)) (up2 (up2 (up2 a 3 (cpF (enc v pl) (a 3) 0 0 764)) 8 T9) 1 (enc (daR v) (daP v)))) (z + 180) = some (z + 180 + 1) := or_0 _ _ _ _
    have rr2 : gR 6 2 (ovl B (z + 180) (upd g 9 (nN 0)) (up2 (up2 (up2 a 3 (cpF (enc v pl) (a 3) 0 0 764)) 8 T9) 1 (enc (daR v) (daP v)))) (z + 180) = some (z + 180 + 3) := or_2 _ _ _ _
    have roc : isC 6 (ovl B (z + 180) (upd g 9 (nN 0)) (up2 (up2 (up2 a 3 (cpF (enc v pl) (a 3) 0 0 764)) 8 T9) 1 (enc (daR v) (daP v)))) (z + 180) = some () := oc _ _ _ _
    generalize ovl B (z + 180) (upd g 9 (nN 0)) (up2 (up2 (up2 a 3 (cpF (enc v pl) (a 3) 0 0 764)) 8 T9) 1 (enc (daR v) (daP v))) = N at rT rU r1 rr0 rr2 roc ee ⊢
    have n9 := nN_neg0 (n := daR v 9) (by omega)
    have hFU : v 1 < FU := FU_pos (by omega)
    generalize FU = F at hFU ⊢
    refine loop_cnt (L := fun fu k x => pl_X7_changedByAllocation_18 (fun z22 => Option.bind (isC 6 N (z + 180)) fun _ => Option.bind (p_X7_ends (z + 180) N) fun M10 => some (z22, M10)) (z + 180) (nN (daR v 9)) N fu (nN x) (nN k)) (P := fun k => daP v k ≠ pl k) (fin := fun x => some (nN x, ovl B (z + 180) (upd g 9 (nN 0)) (up2 (up2 (up2 a 3 (cpF (enc v pl) (a 3) 0 0 764)) 8 T9) 1 (enc v pl)))) (n := v 1) (fun fu k x hk hx => ?_) (fun fu x hx => ?_) F hFU
    · have ek : nN k + (1 : Int32) = nN (k + 1) := nN_add k 1
      have ex : nN x + (1 : Int32) = nN (x + 1) := nN_add x 1
      have ex0 : nN x + (0 : Int32) = nN x := nN_add x 0
      rw [pl_X7_changedByAllocation_18, rr0, bS, show (1 : Int32) = nN 1 from rfl, r1, bS, if_neg (nle_f (by omega) (by omega) (by omega)), if_neg n9, bS, show (484 : Int32) + nN k = nN (484 + k) from nN_add 484 k, rT k hk, bS, rr2, bS, rU k hk, bS, jn_def]
      by_cases e : daP v k = pl k
      · rw [if_pos (by rw [e]), if_neg (fun q => q e)]
        show pl_X7_changedByAllocation_18 _ _ _ _ fu (nN x + (0 : Int32)) (nN k + (1 : Int32)) = _
        rw [ex0, ek]
      · rw [if_neg (by rw [hinj]; exact e), if_pos e]
        show pl_X7_changedByAllocation_18 _ _ _ _ fu (nN x + (1 : Int32)) (nN k + (1 : Int32)) = _
        rw [ex, ek]
    · rw [pl_X7_changedByAllocation_18, rr0, bS, show (1 : Int32) = nN 1 from rfl, r1, bS, if_pos (nle_t (by omega) (by omega) (by omega)), roc, bS, ee, bS]
end CA
section KCA
variable {L : Nat} {xs : Nat → Int32} {i0 : Int32} {x : Nat → Int32} {z : Nat} {M : Mem}
theorem k_48 (hO : OFF z M) (hx : xIs L xs i0 x) : ∃ M', pk_48 L xs z (z + 180) (z + 194) (z + 195) i0 M = some M' ∧ OFF z M' := by
  obtain ⟨v, pl, nm, H, n, sv, S, inp, len, ec, eo, out, ol, hP, hC, hX, hX6, hV, hE⟩ := off_w hO
  obtain ⟨val, M1, e6, hv⟩ := ch_changed hP hC
  obtain ⟨⟨f0, hod⟩, hq⟩ := hV _ M1 _ hv
  obtain ⟨o1, M2, o2, o3, o4, o5, o6⟩ := hq f0
  rw [upM_same hod] at o1 o2
  refine ⟨M2, ?_, o3⟩
  unfold pk_48
  rw [hX, bS, e6, ob2_def, o1, bS, o2, ob2_def, if_pos rfl]
end KCA
