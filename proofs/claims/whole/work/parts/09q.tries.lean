/-! triesOf -/
section HT
variable {B : Mem} {r b t tb : Nat} {g : Nat → Int32} {h : Nat → Int64} {ar : Nat → Nat → Int32} {u : Nat → Int32} {ta : Nat → Nat → Int32} {v : Nat → Nat} {pl : Nat → Option Nat} {cd : Nat → Nat}
theorem c_hasTried (B : Mem) (hG : GE r b t tb) (hR : RG g h ar v pl) (hT : TG u ta v cd) (hI : Inv v pl) {c s : Nat} (hc : c < v 1) (hs : s < 8) : p_X2_hasTried r (nN c) (nN s) (ofc B r b t tb g h ar u ta) = some (bI (v (404 + c) = 0 ∧ (pl c = some s ∨ prfB v pl c s = true))) := by
  have hb := hI.hb; have h0 := hI.h0; have h1 := hI.h1; have h2 := hI.h2; have h7 := hI.h7; have h8 := hI.h8
  have hch := hI.chi c (by omega)
  have e1 := c_prefers B hG hR hT hI hc (s := s) (by omega)
  unfold p_X2_hasTried
  rw [fv_9, bS, hR.h9, c_isIn h1 hc, bS]
  by_cases g0 : v (404 + c) = 1
  · rw [if_neg (by rw [← bI_t g0]; decide)]
    rw [← bI_f (show ¬ (v (404 + c) = 0 ∧ (pl c = some s ∨ prfB v pl c s = true)) by intro q; omega)]
    rfl
  · rw [if_pos (by rw [← bI_f g0]; rfl), fv_16, bS, fd_5 hG, rd_nN (by omega) (by omega), hR.a5 hc, bS]
    have hg : v (404 + c) = 0 := by omega
    by_cases e : pl c = some s
    · rw [if_pos (show oN (pl c) = nN s by rw [e]; rfl), ← bI_t (⟨hg, Or.inl e⟩ : v (404 + c) = 0 ∧ (pl c = some s ∨ prfB v pl c s = true))]
      rfl
    · rw [if_neg (by rw [oN_eq (hI.plb c) (by omega)]; exact e), fv_isC, bS, e1, bS]
      by_cases p : prfB v pl c s = true
      · rw [if_neg (by rw [← bI_t p]; decide), ← bI_t (⟨hg, Or.inr p⟩ : v (404 + c) = 0 ∧ (pl c = some s ∨ prfB v pl c s = true))]
        rfl
      · rw [if_pos (by rw [← bI_f p]; rfl), ← bI_f (show ¬ (v (404 + c) = 0 ∧ (pl c = some s ∨ prfB v pl c s = true)) by intro q; rcases q.2 with q | q; exact e q; exact p q)]
        rfl
end HT
section TO
variable {z : Nat} {M : Mem} {v : Nat → Nat} {pl : Nat → Option Nat} {nm : Nat → Nat} {H : Nat → rowT} {n sv : Nat} {S : rowT} {inp : Nat → Nat} {len ec : Nat} {eo : Int32} {out : Nat → Nat} {ol : Nat}
def trB (v : Nat → Nat) (s c : Nat) : Bool := decide (v (404 + c) = 0 ∧ (daP v c = some s ∨ prfB v (daP v) c s = true))
theorem trB_iff {s c : Nat} : trB v s c = true ↔ (v (404 + c) = 0 ∧ (daP v c = some s ∨ prfB v (daP v) c s = true)) := decide_eq_true_iff
theorem ch_triesOf (hP : PUR v pl nm H n sv S inp len out ol) (hC : CL0 z (rst M z) v pl nm H n sv S inp len ec eo out ol) {s : Nat} (hs : s < v 0) : ∃ val M1, p_X6_triesOf z (nN s) M = some (.inl (val, M1)) ∧ CGv z M v pl nm H n sv S inp len ec eo out ol val M1 (fun M => p_X7_triesOf (z + 180) (nN s) M) := by
  have hI : Inv v pl := hP.1.1
  have hZ : ∀ i, 764 ≤ i → v i = 0 := hP.1.2.1
  have hb := hI.hb; have h0 := hI.h0; have h1 := hI.h1; have h2 := hI.h2; have h7 := hI.h7; have h8 := hI.h8
  have hX := (cl_now hC).1
  obtain ⟨-, -, ns, -⟩ := in_cc hI hC
  obtain ⟨d1, d2, d3, dJ, -, -⟩ := da_all hI
  have d9 : daR v 9 ≤ 160 := d1.1.2.2.2.2.2.2
  have dv1 : daR v 1 = v 1 := d2 1 (by omega)
  obtain ⟨rn, bn, tn, tbn, g, h, ar, u, ta, M2, g0, h0', ar0, e3, r3, r4, i2, hG, hR, hT, hQ, R0, ⟨T, hTq⟩, hA⟩ := cl_tri hI hC
  rw [hTq] at e3
  obtain ⟨g1, h1', ar1, T1, q1, R1, -⟩ := c_run M2 hG hR hT hI hQ (T := T)
  obtain ⟨b3, b4, b1, b5, bR, bC, bO⟩ := hA g1 h1' ar1 T1
  have hT2 : TG u ta (daR v) (cdS nm) := hT.same d2.T h0 (fun s hs => (hI.sch s hs).2.2.2.1)
  refine ⟨nN (cnt (fun c => (trB v s c = true)) (v 1)), _, ?_, cgv_t hP hC bC bO (fun B g a hF => ?_)⟩
  · have w1 : gI 2 1 (ofc (ovq M2 (z + 24) T1) (z + 49) (z + 50) tn tbn g1 h1' ar1 u ta) (z + 49) = some (nN (v 1)) := by rw [fv_1, R1.g1]; show some (nN (daR v 1)) = _; rw [dv1]
    have wH : ∀ k, k < v 1 → p_X2_hasTried (z + 49) (nN k) (nN s) (ofc (ovq M2 (z + 24) T1) (z + 49) (z + 50) tn tbn g1 h1' ar1 u ta) = some (bI ((trB v s k = true))) := fun k hk => by
      have e := c_hasTried (ovq M2 (z + 24) T1) hG R1 hT2 d1 (c := k) (s := s) (by show k < daR v 1; omega) (by omega)
      refine e.trans (congrArg some (bI_c ?_))
      show (daR v (404 + k) = 0 ∧ (daP v k = some s ∨ prfB (daR v) (daP v) k s = true)) ↔ (trB v s k = true)
      rw [trB_iff]
      rw [d2 (404 + k) (by omega), q_prf d2 hI (by omega)]
    have wC : isC 2 (ofc (ovq M2 (z + 24) T1) (z + 49) (z + 50) tn tbn g1 h1' ar1 u ta) (z + 49) = some () := fv_isC
    unfold p_X6_triesOf
    rw [hX, bS, ns s hs, obx_l, r4, bS, r3, bS, i2, bS, e3, bS, (hA g h ar T).2.2.1, bS, (hA g h ar T).2.1, bS, q_C hQ, bS, q1, bS]
    generalize ofc (ovq M2 (z + 24) T1) (z + 49) (z + 50) tn tbn g1 h1' ar1 u ta = N at b4 w1 wH wC ⊢
    have hFU : v 1 < FU := FU_pos (by omega)
    generalize FU = F at hFU ⊢
    refine loop_cnt (L := fun fu k x => pl_X6_triesOf_31 (fun z19 => some (.inl (z19, N))) z (nN s) N fu (nN x) (nN k)) (P := fun k => (trB v s k = true)) (fin := fun x => some (.inl (nN x, N))) (n := v 1) (fun fu k x hk hx => ?_) (fun fu x hx => ?_) F hFU
    · have ek : nN k + (1 : Int32) = nN (k + 1) := nN_add k 1
      have ex : nN x + (1 : Int32) = nN (x + 1) := nN_add x 1
      rw [pl_X6_triesOf_31, b4, bS, w1, bS, if_neg (nle_f (by omega) (by omega) (by omega)), bS, wC, bS, wH k hk, bS, ek, ex]
      by_cases e : (trB v s k = true)
      · rw [if_neg (by rw [← bI_t e]; decide), if_pos e]
      · rw [if_pos (by rw [← bI_f e]; rfl), if_neg e]
    · rw [pl_X6_triesOf_31, b4, bS, w1, bS, if_pos (nle_t (by omega) (by omega) (by omega))]
  · have hF0 := hF.g9 (c := nN 0)
    obtain ⟨T9, e9, t9⟩ := e_allocates (B := B) (m := z + 180) (g := upd g 9 (nN 0)) (a := up2 a 3 (cpF (enc v pl) (a 3) 0 0 764)) hI
    have e9 : p_X7_allocates (z + 180) (ovl B (z + 180) (upd g 9 (nN 0)) (up2 (up2 a 3 (cpF (enc v pl) (a 3) 0 0 764)) 1 (enc v pl))) = some (nN (daR v 9), ovl B (z + 180) (upd g 9 (nN 0)) (up2 (up2 (up2 a 3 (cpF (enc v pl) (a 3) 0 0 764)) 8 T9) 1 (enc (daR v) (daP v)))) := e9
    have t9 : ∀ c, c < v 1 → T9 c = nN (daX v c) := t9
    refine ⟨upd g 9 (nN 0), up2 (up2 a 3 (cpF (enc v pl) (a 3) 0 0 764)) 8 T9, ?_, (hF0.a_ (by omega)).a_ (by omega), pk_us⟩
    show p_X7_triesOf _ _ _ = _
    unfold p_X7_triesOf
    have ee := e_ends (B := B) (m := z + 180) (g := upd g 9 (nN 0)) (a := up2 (up2 a 3 (cpF (enc v pl) (a 3) 0 0 764)) 8 T9) (v := v) (pl := pl) (v' := daR v) (pl' := daP v) hZ (fun i hi => (d2 i (by omega)).trans (hZ i hi)) (fun i hi => by rw [up2_n (by decide), up2_s]; exact cpF_3 hi)
    simp only [jn_def]
    rw [oc, bS, e_ns hI hs, ob2_def, if_pos (by rfl), oc, bS, e_begins, bS, oc, bS, e9, ob2_def]
    have rW : ∀ k, k < v 1 → p_X7_wishOf (z + 180) (nN k) (nN s) (ovl B (z + 180) (upd g 9 (nN 0)) (up2 (up2 (up2 a 3 (cpF (enc v pl) (a 3) 0 0 764)) 8 T9) 1 (enc (daR v) (daP v)))) = some (oN (wisO v k s)) := fun k hk => by
      rw [e_wishOf up2_s d1 (by show k < daR v 1; omega) (by omega), q_wis d2 hI (by omega)]
    have r8 : ∀ k, k < v 1 → aI 0 (ovl B (z + 180) (upd g 9 (nN 0)) (up2 (up2 (up2 a 3 (cpF (enc v pl) (a 3) 0 0 764)) 8 T9) 1 (enc (daR v) (daP v)))) (z + 180 + 8) (nN k) = some (nN (daX v k)) := fun k hk => by
      rw [od_8, up2_n (by decide), up2_s, rd_nN (by omega) (by omega), t9 k hk]
    have r1 : aI 0 (ovl B (z + 180) (upd g 9 (nN 0)) (up2 (up2 (up2 a 3 (cpF (enc v pl) (a 3) 0 0 764)) 8 T9) 1 (enc (daR v) (daP v)))) (z + 180 + 1) (nN 1) = some (nN (v 1)) := by rw [er_v (by omega) (by omega), dv1]
    have rr0 : gR 6 0 (ovl B (z + 180) (upd g 9 (nN 0)) (up2 (up2 (up2 a 3 (cpF (enc v pl) (a 3) 0 0 764)) 8 T9) 1 (enc (daR v) (daP v)))) (z + 180) = some (z + 180 + 1) := or_0 _ _ _ _
    have rr2 : gR 6 10 (ovl B (z + 180) (upd g 9 (nN 0)) (up2 (up2 (up2 a 3 (cpF (enc v pl) (a 3) 0 0 764)) 8 T9) 1 (enc (daR v) (daP v)))) (z + 180) = some (z + 180 + 8) := by unfold gR gV; rw [ovl_m]; rfl
    have roc : isC 6 (ovl B (z + 180) (upd g 9 (nN 0)) (up2 (up2 (up2 a 3 (cpF (enc v pl) (a 3) 0 0 764)) 8 T9) 1 (enc (daR v) (daP v)))) (z + 180) = some () := oc _ _ _ _
    generalize ovl B (z + 180) (upd g 9 (nN 0)) (up2 (up2 (up2 a 3 (cpF (enc v pl) (a 3) 0 0 764)) 8 T9) 1 (enc (daR v) (daP v))) = N at rW r8 r1 rr0 rr2 roc ee ⊢
    have n9 := nN_neg0 (n := daR v 9) (by omega)
    have hx4 : ∀ k, k < v 1 → daX v k < 2147483648 := fun k hk => by
      obtain ⟨-, j2, -, -, -⟩ := dJ
      have := j2 k hk
      have := hI.chi k (by omega)
      omega
    have hFU : v 1 < FU := FU_pos (by omega)
    generalize FU = F at hFU ⊢
    refine loop_cnt (L := fun fu k x => pl_X7_triesOf_24 (fun z26 => Option.bind (isC 6 N (z + 180)) fun _ => Option.bind (p_X7_ends (z + 180) N) fun M13 => some (z26, M13)) (z + 180) (nN s) (nN (daR v 9)) N fu (nN x) (nN k)) (P := fun k => (trB v s k = true)) (fin := fun x => some (nN x, ovl B (z + 180) (upd g 9 (nN 0)) (up2 (up2 (up2 a 3 (cpF (enc v pl) (a 3) 0 0 764)) 8 T9) 1 (enc v pl)))) (n := v 1) (fun fu k x hk hx => ?_) (fun fu x hx => ?_) F hFU
    · have ek : nN k + (1 : Int32) = nN (k + 1) := nN_add k 1
      have ex : nN x + (1 : Int32) = nN (x + 1) := nN_add x 1
      have ex0 : nN x + (0 : Int32) = nN x := nN_add x 0
      have dt := da_tried hI (s := s) hk
      have ri : p_X7_inRange (oN (wisO v k s)) (0 : Int32) (nN (daX v k) - (1 : Int32)) N = some (bI ((trB v s k = true))) := by
        cases hw : wisO v k s with
        | none =>
          have : ¬ (trB v s k = true) := fun q => by
            obtain ⟨i, hi, _⟩ := dt.mpr (trB_iff.mp q)
            rw [hw] at hi; cases hi
          rw [← bI_f this]
          exact rng_out (hx4 k hk) (Or.inl (by decide))
        | some i =>
          have i4 := wis_4 hI (show k < 40 by omega) hw
          by_cases hi : i < daX v k
          · rw [← bI_t (show (trB v s k = true) from trB_iff.mpr (dt.mp ⟨i, hw, hi⟩))]
            exact rng_in hi (hx4 k hk)
          · have : ¬ (trB v s k = true) := fun q => by
              obtain ⟨j, hj, hj2⟩ := dt.mpr (trB_iff.mp q)
              rw [hw] at hj; cases hj; omega
            rw [← bI_f this]
            exact rng_out (hx4 k hk) (Or.inr (nle_t (by omega) (by omega) (by omega)))
      rw [pl_X7_triesOf_24, rr0, bS, show (1 : Int32) = nN 1 from rfl, r1, bS, if_neg (nle_f (by omega) (by omega) (by omega)), if_neg n9, roc, bS, rW k hk, bS, rr2, bS, r8 k hk, bS]
      rw [show nN 1 = (1 : Int32) from rfl, ri, bS, jn_def]
      by_cases e : (trB v s k = true)
      · rw [if_neg (by rw [← bI_t e]; decide), if_pos e]
        show pl_X7_triesOf_24 _ _ _ _ _ fu (nN x + (1 : Int32)) (nN k + (1 : Int32)) = _
        rw [ex, ek]
      · rw [if_pos (by rw [← bI_f e]; rfl), if_neg e]
        show pl_X7_triesOf_24 _ _ _ _ _ fu (nN x + (0 : Int32)) (nN k + (1 : Int32)) = _
        rw [ex0, ek]
    · rw [pl_X7_triesOf_24, rr0, bS, show (1 : Int32) = nN 1 from rfl, r1, bS, if_pos (nle_t (by omega) (by omega) (by omega)), roc, bS, ee, bS]
end TO
section KTO
variable {L : Nat} {xs : Nat → Int32} {i0 : Int32} {x : Nat → Int32} {z : Nat} {M : Mem}
theorem k_44 (hO : OFF z M) (hx : xIs L xs i0 x) : ∃ M', pk_44 L xs z (z + 180) (z + 194) (z + 195) i0 M = some M' ∧ OFF z M' := by
  obtain ⟨-, hx1, hx2, hx3, hx4, hx5⟩ := hx
  obtain ⟨v, pl, nm, H, n, sv, S, inp, len, ec, eo, out, ol, hP, hC, hX, hX6, hV, hE2⟩ := off_w2 hO
  have hI : Inv v pl := hP.1.1
  have h0 := hI.h0
  obtain ⟨-, -, -, nso⟩ := in_cc hI hC
  have outc : (x 1 < 0 ∨ nN (v 0) ≤ x 1) → ∃ M', pk_44 L xs z (z + 180) (z + 194) (z + 195) i0 M = some M' ∧ OFF z M' := fun ho => by
    have e6 : p_X6_triesOf z (x 1) M = some (.inr "java/lang/IndexOutOfBoundsException") := by
      unfold p_X6_triesOf; rw [hX, bS, nso _ ho, obx_r]
    obtain ⟨M2, o2, o3, o4, o5⟩ := hE2 1 0 (fun M => p_X7_triesOf (z + 180) (x 1) M) (fun B g a hF => by
      show p_X7_triesOf _ _ _ = _
      unfold p_X7_triesOf
      rw [oc, bS, e_ns_o hI ho, ob2_def, if_neg (by decide)])
    refine ⟨M2, ?_, o3⟩
    have el : p_L_triesOf z (x 1) (z + 194) M = some (nN 1, M) := by
      unfold p_L_triesOf
      rw [hX, bS, e6, ctc2_r, if_pos rfl]
      rfl
    unfold pk_44
    simp only [hx1, bS, el, ob2_def, hX6, o2, o4, o5, eq_self, if_true]
    rw [if_neg (by decide)]
  rcases ixN (x 1) (n := v 0) (by omega) with ho | ho | ⟨c, hc, hxc⟩
  · exact outc (Or.inl ho)
  · exact outc (Or.inr ho)
  clear outc
  obtain ⟨val, M1, e6, hv⟩ := ch_triesOf hP hC hc
  rw [← hxc] at e6 hv
  obtain ⟨⟨f0, hod⟩, hq⟩ := hV _ M1 _ hv
  obtain ⟨o1, M2, o2, o3, o4, o5, o6⟩ := hq (vp_updL f0 0 (Int32.toInt64 val))
  refine ⟨M2, ?_, o3⟩
  have el : p_L_triesOf z (x 1) (z + 194) M = some (0, upM M1 (z + 194) (.inl (2, 1, .inr (.inl (vp_updL f0 0 (Int32.toInt64 val)))))) := by
    unfold p_L_triesOf
    rw [hX, bS, e6, ctc2_l, aLs_od hod, bS]
  unfold pk_44
  have eL := aL_od o6
  simp only [hx1, bS, el, ob2_def, o1, o2, o4, o5, eq_self, if_true, eL, lgc_self]
end KTO
