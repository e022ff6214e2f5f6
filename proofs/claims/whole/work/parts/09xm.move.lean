/-! moveHome -/
section MH1
theorem cnt_cut {Q : Nat → Prop} [DecidablePred Q] {m : Nat} : ∀ d, cnt (fun i => i < m ∧ Q i) (m + d) = cnt Q m := by
  intro d
  induction d with
  | zero => exact cnt_c (fun k hk => ⟨fun h => h.2, fun h => ⟨hk, h⟩⟩)
  | succ d ih =>
    show cnt (fun i => i < m ∧ Q i) (m + d) + (if (m + d < m ∧ Q (m + d)) then 1 else 0) = _
    rw [if_neg (fun h => by omega), ih, Nat.add_zero]
theorem ofc_k {M : Mem} {r b t tb : Nat} {g : Nat → Int32} {h : Nat → Int64} {ar : Nat → Nat → Int32} {u : Nat → Int32} {ta : Nat → Nat → Int32} {g' : Nat → Int32} {h' : Nat → Int64} {ar' : Nat → Nat → Int32} {x : Nat} (hM : M = ofc M r b t tb g h ar u ta) (hx : oR r b x) : ofc M r b t tb g' h' ar' u ta x = M x := by
  have e : ofc M r b t tb g h ar u ta x = M x := by rw [← hM]
  refine Eq.trans ?_ e
  unfold ofc
  rw [ovr_o _ _ _ _ _ _ _ hx, ovr_o _ _ _ _ _ _ _ hx]
variable {z : Nat} {M : Mem} {v : Nat → Nat} {pl : Nat → Option Nat} {nm : Nat → Nat} {H : Nat → rowT} {n sv : Nat} {S : rowT} {inp : Nat → Nat} {len ec : Nat} {eo : Int32} {out : Nat → Nat} {ol : Nat}
theorem cl_loc (hC : CL0 z (rst M z) v pl nm H n sv S inp len ec eo out ol) {r b : Nat} (h1 : gR 5 3 M z = some r) (h2 : gR 2 11 M r = some b) : (z < r ∧ r < z + 49) ∧ (z < b ∧ b + 9 ≤ z + 49) := by
  obtain ⟨rn, bn, tn, tbn, rr, br, tr, tbr, hn', hW, hX, ⟨g, h, ar, u, ta, q1, -⟩, -⟩ := hC
  have hXM : M z = some (.inr (5, flX z rn sv hn' n)) := by rw [← rst_in (M := M) (z := z) (a := z) (by omega)]; exact hX
  have hl : (z ≤ rn ∧ rn < z + 180) ∧ (z ≤ bn ∧ bn + 9 ≤ z + 180) := by
    unfold WHR at hW
    rcases hW with hW | hW <;> omega
  have q1M := q1.up (M := M) (z := z) hl.1 hl.2
  have e1 : gR 5 3 M z = some rn := by unfold gR gV; rw [hXM]; rfl
  have er : rn = r := Option.some.inj (e1.symm.trans h1)
  subst er
  have e2 : gR 2 11 M rn = some bn := by unfold gR gV; rw [q1M.1]; rfl
  have eb : bn = b := Option.some.inj (e2.symm.trans h2)
  subst eb
  unfold WHR at hW
  rcases hW with hW | hW <;> omega
end MH1
section MH2
variable {B : Mem} {m : Nat} {g : Nat → Int32} {A : Nat → Nat → Int32} {v : Nat → Nat} {pl : Nat → Option Nat}
theorem e_mv50 (hI : Inv v pl) {c : Nat} (hc : c < v 1) (k1 : Mem → Option (Int32 × Mem)) (f2 f3 : Int32) : ∀ d k fu (G : Nat → Int32), k + d = v (324 + c) → d < fu → (∀ i, i < k → G i = nN (clsS v c (wsh v c i))) → ∃ G', pl_X7_moveHome_50 k1 m (nN c) f2 f3 fu (nN k) (ovl B m g (up2 (up2 A 10 G) 1 (enc v pl))) = k1 (ovl B m g (up2 (up2 A 10 G') 1 (enc v pl))) ∧ ∀ i, i < v (324 + c) → G' i = nN (clsS v c (wsh v c i)) := by
  have h0 := hI.h0
  have h1 := hI.h1
  have h4 := (hI.chi c (by omega)).2.2.2.2.2.1
  have e3 : (324 : Int32) + nN c = nN (324 + c) := nN_add 324 c
  intro d
  induction d with
  | zero =>
    intro k fu G hk hf hG
    obtain ⟨f, rfl⟩ : ∃ f, fu = f + 1 := ⟨fu - 1, by omega⟩
    refine ⟨G, ?_, fun i hi => hG i (by omega)⟩
    rw [pl_X7_moveHome_50, or_0, bS, e3, er_v (by omega) (by omega), bS, if_pos (nle_t (by omega) (by omega) (by omega))]
  | succ d ih =>
    intro k fu G hk hf hG
    obtain ⟨f, rfl⟩ : ∃ f, fu = f + 1 := ⟨fu - 1, by omega⟩
    have ew : ∀ y, aIs (ovl B m g (up2 (up2 A 10 G) 1 (enc v pl))) (m + 10) (nN k) y = some (ovl B m g (up2 (up2 A 10 (upd G k y)) 1 (enc v pl))) := fun y => by
      rw [ow_10, up2_n (by decide), up2_s, wr_nN (by omega) (by omega), Option.map_some, up2_sw (i := 1) (j := 10) (by decide), up2_up2]
    have ek : nN k + (1 : Int32) = nN (k + 1) := nN_add k 1
    have ei : ((564 : Int32) + (4 : Int32) * nN c) + nN k = nN (564 + 4 * c + k) := by
      rw [show (4 : Int32) = nN 4 from rfl, nN_mul, show (564 : Int32) = nN 564 from rfl, nN_add, nN_add]
    have hw8 : v (564 + 4 * c + k) < v 0 := hI.wis c hc k (by omega)
    obtain ⟨G', q1, q2⟩ := ih (k + 1) f (upd G k (nN (clsS v c (wsh v c k)))) (by omega) (by omega) (fun i hi => by
      unfold upd
      by_cases e : i = k
      · rw [if_pos e, e]
      · rw [if_neg e]; exact hG i (by omega))
    refine ⟨G', ?_, q2⟩
    rw [pl_X7_moveHome_50, or_0, bS, e3, er_v (by omega) (by omega), bS, if_neg (nle_f (by omega) (by omega) (by omega)), or_22, bS, bS, ei, er_v (by omega) (by omega), bS, oc, bS, e_classAt up2_s hI (by omega) (by omega), bS, ew, bS, ek]
    exact q1
theorem e_mv125 {w : Nat → Nat} (hI : Inv w pl) {c : Nat} (hc : c < w 1) {G : Nat → Int32} {K : Nat → Nat} (hK : ∀ i, i < w (324 + c) → G i = nN (K i) ∧ K i < 2147483648) (k1 : Int32 → Option (Int32 × Mem)) : pl_X7_moveHome_125 k1 m (nN c) (ovl B m g (up2 (up2 A 10 G) 1 (enc w pl))) FU (0 : Int32) (0 : Int32) = k1 (nN (cnt (fun i => clsS w c (wsh w c i) ≠ K i) (w (324 + c)))) := by
  have h0 := hI.h0
  have h1 := hI.h1
  have h4 := (hI.chi c (by omega)).2.2.2.2.2.1
  have e3 : (324 : Int32) + nN c = nN (324 + c) := nN_add 324 c
  have r3 : aI 0 (ovl B m g (up2 (up2 A 10 G) 1 (enc w pl))) (m + 1) (nN (324 + c)) = some (nN (w (324 + c))) := er_v (by omega) (by omega)
  have rw' : ∀ k, k < 4 → aI 0 (ovl B m g (up2 (up2 A 10 G) 1 (enc w pl))) (m + 1) (nN (564 + 4 * c + k)) = some (nN (w (564 + 4 * c + k))) := fun k hk => er_v (by omega) (by omega)
  have r10 : ∀ k, k < w (324 + c) → aI 0 (ovl B m g (up2 (up2 A 10 G) 1 (enc w pl))) (m + 10) (nN k) = some (nN (K k)) := fun k hk => by
    rw [od_10, up2_n (by decide), up2_s, rd_nN (by omega) (by omega), (hK k hk).1]
  have rc : ∀ k, k < w (324 + c) → p_X7_classAt m (nN c) (nN (w (564 + 4 * c + k))) (ovl B m g (up2 (up2 A 10 G) 1 (enc w pl))) = some (nN (clsS w c (wsh w c k))) := fun k hk => by
    have hw8 : w (564 + 4 * c + k) < w 0 := hI.wis c hc k (by omega)
    exact e_classAt up2_s hI (by omega) (by omega)
  have rr0 : gR 6 0 (ovl B m g (up2 (up2 A 10 G) 1 (enc w pl))) m = some (m + 1) := or_0 _ _ _ _
  have rr22 : gR 6 22 (ovl B m g (up2 (up2 A 10 G) 1 (enc w pl))) m = some (m + 10) := or_22 _ _ _ _
  have roc : isC 6 (ovl B m g (up2 (up2 A 10 G) 1 (enc w pl))) m = some () := oc _ _ _ _
  generalize ovl B m g (up2 (up2 A 10 G) 1 (enc w pl)) = N at r3 rw' r10 rc rr0 rr22 roc ⊢
  have hcl : ∀ k, k < w (324 + c) → clsS w c (wsh w c k) < 2147483648 := fun k hk => by
    have hw8 : w (564 + 4 * c + k) < w 0 := hI.wis c hc k (by omega)
    have := cls_le hI (c := c) (s := wsh w c k) (by show w (564 + 4 * c + k) < 8; omega)
    omega
  have hFU : w (324 + c) < FU := FU_pos (by omega)
  generalize FU = F at hFU ⊢
  refine loop_cnt (L := fun fu k x => pl_X7_moveHome_125 k1 m (nN c) N fu (nN x) (nN k)) (P := fun k => clsS w c (wsh w c k) ≠ K k) (fin := fun x => k1 (nN x)) (n := w (324 + c)) (fun fu k x hk hx => ?_) (fun fu x hx => ?_) F hFU
  · have ek : nN k + (1 : Int32) = nN (k + 1) := nN_add k 1
    have ex : nN x + (1 : Int32) = nN (x + 1) := nN_add x 1
    have ex0 : nN x + (0 : Int32) = nN x := nN_add x 0
    have ei : ((564 : Int32) + (4 : Int32) * nN c) + nN k = nN (564 + 4 * c + k) := by
      rw [show (4 : Int32) = nN 4 from rfl, nN_mul, show (564 : Int32) = nN 564 from rfl, nN_add, nN_add]
    rw [pl_X7_moveHome_125, rr0, bS, e3, r3, bS, if_neg (nle_f (by omega) (by omega) (by omega)), rr22, bS, r10 k hk, bS, bS, ei, rw' k (by omega), bS, roc, bS, rc k hk, bS, jn_def]
    by_cases e : clsS w c (wsh w c k) = K k
    · rw [if_pos (show nN (K k) = nN (clsS w c (wsh w c k)) from by rw [e]), if_neg (fun q => q e)]
      show pl_X7_moveHome_125 _ _ _ _ fu (nN x + (0 : Int32)) (nN k + (1 : Int32)) = _
      rw [ex0, ek]
    · rw [if_neg (show ¬ nN (K k) = nN (clsS w c (wsh w c k)) from neq_f (hK k hk).2 (hcl k hk) (fun q => e q.symm)), if_pos e]
      show pl_X7_moveHome_125 _ _ _ _ fu (nN x + (1 : Int32)) (nN k + (1 : Int32)) = _
      rw [ex, ek]
  · rw [pl_X7_moveHome_125, rr0, bS, e3, r3, bS, if_pos (nle_t (by omega) (by omega) (by omega))]
end MH2
section MH3
variable {z : Nat} {M : Mem} {v : Nat → Nat} {pl : Nat → Option Nat} {nm : Nat → Nat} {H : Nat → rowT} {n sv : Nat} {S : rowT} {inp : Nat → Nat} {len ec : Nat} {eo : Int32} {out : Nat → Nat} {ol : Nat}
def mvV (v : Nat → Nat) (c XX YY : Nat) : Nat → Nat := updN (updN v (124 + c) XX) (164 + c) YY
def mvN (v : Nat → Nat) (c XX YY : Nat) : Nat := cnt (fun i => clsS (mvV v c XX YY) c (wsh v c i) ≠ clsS v c (wsh v c i)) (v (324 + c))
theorem ch_moveHome (hP : PUR v pl nm H n sv S inp len out ol) (hC : CL0 z (rst M z) v pl nm H n sv S inp len ec eo out ol) (x1 x2 x3 : Int32) : CG z M v pl nm H n sv S inp len ec eo out ol "java/lang/IndexOutOfBoundsException" "java/lang/IllegalArgumentException" (p_X6_moveHome z x1 x2 x3 M) (fun M => p_X7_moveHome (z + 180) x1 x2 x3 M) := by
  have hI : Inv v pl := hP.1.1
  obtain ⟨nc, nco, -, -⟩ := in_cc hI hC
  have hX := (cl_now hC).1
  have hb := hI.hb; have h0 := hI.h0; have h1 := hI.h1; have h2 := hI.h2; have h7 := hI.h7; have h8 := hI.h8
  have n10 : ¬ nN 1 = (0 : Int32) := by decide
  have key : ∀ XX : Int32, (XX < 0 ∨ nN (v 1) ≤ XX) → CG z M v pl nm H n sv S inp len ec eo out ol "java/lang/IndexOutOfBoundsException" "java/lang/IllegalArgumentException" (p_X6_moveHome z XX x2 x3 M) (fun M => p_X7_moveHome (z + 180) XX x2 x3 M) := fun XX ho => by
    refine Or.inr (Or.inl ⟨?_, fun B g a => ⟨0, ?_⟩⟩)
    · unfold p_X6_moveHome; rw [hX, bS, nco XX ho, obx_r]
    · show p_X7_moveHome _ _ _ _ _ = _
      unfold p_X7_moveHome
      rw [oc, bS, e_nc_o hI ho, ob2_def, if_neg (by decide)]
  rcases ixN x1 (n := v 1) (by omega) with ho | ho | ⟨c, hc, rfl⟩
  · exact key _ (Or.inl ho)
  · exact key _ (Or.inr ho)
  clear key
  have hch := hI.chi c (by omega)
  rcases r99 x2 with ⟨k1, k2⟩ | ⟨XX, hx, rfl⟩
  · refine Or.inr (Or.inr ⟨?_, fun B g a => ⟨0, ?_⟩⟩)
    · unfold p_X6_moveHome; rw [hX, bS, nc c hc, obx_l, nh_x k2, obx_r]
    · show p_X7_moveHome _ _ _ _ _ = _
      unfold p_X7_moveHome
      rw [oc, bS, e_nc hI hc, ob2_def, if_pos (by rfl), k1, bS, jn_def, if_pos (by rfl)]
      show Option.bind (isC 6 _ _) _ = _
      rw [oc, bS, fa1, ob2_def, if_neg (by decide), upd_2]
      rfl
  have i1 : ∀ N, p_X7_inRange (nN XX) (0 : Int32) (99 : Int32) N = some (nN 1) := fun N => r99i hx
  rcases r99 x3 with ⟨k1, k2⟩ | ⟨YY, hy, rfl⟩
  · refine Or.inr (Or.inr ⟨?_, fun B g a => ⟨0, ?_⟩⟩)
    · unfold p_X6_moveHome; rw [hX, bS, nc c hc, obx_l, nh_y hx k2, obx_r]
    · show p_X7_moveHome _ _ _ _ _ = _
      unfold p_X7_moveHome
      rw [oc, bS, e_nc hI hc, ob2_def, if_pos (by rfl), i1, bS, jn_def, if_neg n10, k1, bS, if_pos (by rfl)]
      show Option.bind (isC 6 _ _) _ = _
      rw [oc, bS, fa1, ob2_def, if_neg (by decide), upd_2]
      rfl
  have i2 : ∀ N, p_X7_inRange (nN YY) (0 : Int32) (99 : Int32) N = some (nN 1) := fun N => r99i hy
  have hI1 : Inv (mvV v c XX YY) pl := (hI.w (i := 124 + c) (x := XX) (by unfold okW; omega)).w (i := 164 + c) (x := YY) (by unfold okW; omega)
  have hT1 : sameT v (mvV v c XX YY) := (sameT.w (by omega)).t (sameT.w (by omega))
  have m0 : mvV v c XX YY 0 = v 0 := by unfold mvV; rw [updN_n (by omega), updN_n (by omega)]
  have m1 : mvV v c XX YY 1 = v 1 := by unfold mvV; rw [updN_n (by omega), updN_n (by omega)]
  have m3 : mvV v c XX YY (324 + c) = v (324 + c) := by unfold mvV; rw [updN_n (by omega), updN_n (by omega)]
  have mw : ∀ i, i < 4 → wsh (mvV v c XX YY) c i = wsh v c i := fun i hi => by
    show mvV v c XX YY (564 + 4 * c + i) = v (564 + 4 * c + i)
    unfold mvV; rw [updN_n (by omega), updN_n (by omega)]
  have hwb : ∀ i, i < v (324 + c) → wsh v c i < v 0 := fun i hi => hI.wis c hc i hi
  obtain ⟨M2, e, hC2, ho⟩ := c_remember hI hP.2.1 hC
  obtain ⟨rn, bn, tn, tbn, g, h, ar, u, ta, M3, g0, h0', ar0, e3, r3, r4, i2', hG, hR, hT, hQ, R0, ⟨T, hTq⟩, hA⟩ := cl_tri hI hC2
  rw [hTq] at e3
  obtain ⟨b3, b4, b1, b5, bR, bC, bO⟩ := hA g h ar T
  clear hA
  have wK : ∀ s, s < v 0 → p_X2_rankClass (z + 49) (nN c) (nN s) (ofc (ovq M3 (z + 24) T) (z + 49) (z + 50) tn tbn g h ar u ta) = some (nN (clsS v c s)) := fun s hs => c_rankClass (ovq M3 (z + 24) T) hG hR hT hI hc hs
  have wRC : RC (ofc (ovq M3 (z + 24) T) (z + 49) (z + 50) tn tbn g h ar u ta) (z + 49) (z + 50) tn g h ar := RC.mk1 (by omega)
  have wTC : TC (ofc (ovq M3 (z + 24) T) (z + 49) (z + 50) tn tbn g h ar u ta) tn tbn u ta := TC.mk1 hG
  have e3' : p_X2_copyFrom (z + 49) rn M2 = some (ofc (ovq M3 (z + 24) T) (z + 49) (z + 50) tn tbn g h ar u ta) := e3
  generalize ofc (ovq M3 (z + 24) T) (z + 49) (z + 50) tn tbn g h ar u ta = M4 at e3' b3 b4 b1 b5 bR bC bO wK wRC wTC
  obtain ⟨-, -, -, r, b, t, tb, g4, h4', ar4, u4, ta4, hM4, hg, hG4, hR4, hT4, -, put1, -, -, hout⟩ := cl_now bC
  have hr0 : gR 5 3 M4 z = some r := by rw [hM4]; exact (hg g4 h4' ar4).1
  have hb0 : gR 2 11 M4 r = some b := by rw [hM4]; exact fv_11
  have ht0 : gR 2 0 M4 r = some t := by rw [hM4]; exact fv_0
  have htb0 : gR 4 3 M4 t = some tb := by rw [hM4]; exact ft_3 hG4
  obtain ⟨l1, l2⟩ := cl_loc bC hr0 hb0
  have ern : rn = r := Option.some.inj (b3.symm.trans hr0)
  subst ern
  have etn : tn = t := Option.some.inj ((show gR 2 0 M4 rn = some tn from by unfold gR gV; rw [bR.1]; rfl).symm.trans ht0)
  subst etn
  have etb : tbn = tb := Option.some.inj ((show gR 4 3 M4 tn = some tbn from by unfold gR gV; rw [wTC.1]; rfl).symm.trans htb0)
  subst etb
  suffices hcg : ∃ M1, (p_X6_moveHome z (nN c) (nN XX) (nN YY) M = some (.inl (nN (mvN v c XX YY), M1))) ∧ CGv z M v pl nm H n sv S inp len ec eo out ol (nN (mvN v c XX YY)) M1 (fun M => p_X7_moveHome (z + 180) (nN c) (nN XX) (nN YY) M) by
    obtain ⟨M1, hX1, hV⟩ := hcg
    exact Or.inl ⟨_, _, hX1, hV⟩
  have R5 : RG g4 h4' (up2 ar4 0 (upd (ar4 0) c (nN XX))) (updN v (124 + c) XX) pl := hR4.ax h0 h1 (by omega)
  have R6 := R5.ay (by rw [updN_n (by omega)]; exact h0) (by rw [updN_n (by omega)]; exact h1) (c := c) (x := YY) (by omega)
  have R6 : RG g4 h4' (up2 (up2 ar4 0 (upd (ar4 0) c (nN XX))) 1 (upd (up2 ar4 0 (upd (ar4 0) c (nN XX)) 1) c (nN YY))) (mvV v c XX YY) pl := R6
  have hsch := hI.sch
  have T6 : TG u4 ta4 (mvV v c XX YY) (cdS nm) := hT4.same hT1 h0 (fun s hs => (hsch s hs).2.2.2.1)
  obtain ⟨g7, h7', ar7, f7, R7⟩ := c_fillPlaces M4 hG4 R6 T6 hI1
  have hQ2 := (fit_Q 160 (x := (mvV v c XX YY, pl)) hI1).1
  have hT2 : sameT v (fit 160 (mvV v c XX YY, pl)).1 := hT1.t hQ2.T
  have T7 : TG u4 ta4 (fit 160 (mvV v c XX YY, pl)).1 (cdS nm) := hT4.same hT2 h0 (fun s hs => (hsch s hs).2.2.2.1)
  refine ⟨_, ?_, (fit 160 (mvV v c XX YY, pl)).1, (fit 160 (mvV v c XX YY, pl)).2, hpush H n (v, pl), hlen n, sv, S, ?_, put1 g7 h7' ar7 _ _ R7 T7, fun XX hx => ((hout g7 h7' ar7 (fun _ => 0) XX hx).1.trans (bO XX hx)).trans (ho XX hx), ?_⟩
  rotate_left
  · exact pur_chg hP (fit_Inv 160 (x := (mvV v c XX YY, pl)) hI1) (fun i hi => (hQ2 i (by omega)).trans (by show mvV v c XX YY i = 0; unfold mvV; rw [updN_n (by omega), updN_n (by omega)]; exact hP.1.2.1 i hi)) (fit_done 160 (x := (mvV v c XX YY, pl)) hI1 (Phi_le hI1)) hT2
  · intro B g a hF
    obtain ⟨g', a', q1, q2, q3⟩ := e_remembers (v := v) (pl := pl) (B := B) (m := z + 180) (hF.g9 (c := nN 0)) hP.2.1
    have kS : (∀ i, i < mvV v c XX YY (324 + c) → (nN (clsS v c (wsh v c i)) : Int32) = nN (clsS v c (wsh v c i)) ∧ clsS v c (wsh v c i) < 2147483648) := fun i hi => ⟨rfl, by
      have := hwb i (by omega)
      have := cls_le hI (c := c) (s := wsh v c i) (by omega)
      omega⟩
    obtain ⟨G, s1, s2⟩ := e_mv50 (B := B) (m := z + 180) (g := g') (A := a') (pl := pl) hI hc (fun M23 => Option.bind (gR 6 0 M23 (z + 180)) fun v24 => Option.bind (aIs M23 v24 ((124 : Int32) + nN c) (nN XX)) fun M25 => Option.bind (gR 6 0 M25 (z + 180)) fun v26 => Option.bind (aIs M25 v26 ((164 : Int32) + nN c) (nN YY)) fun M27 => pl_X7_moveHome_125 (fun z40 => Option.bind (isC 6 M27 (z + 180)) fun _ => Option.bind (p_X7_fills (z + 180) M27) fun M42 => some (z40, M42)) (z + 180) (nN c) M27 FU (0 : Int32) (0 : Int32)) (nN XX) (nN YY) (v (324 + c)) 0 FU (a' 10) (by omega) (FU_pos (by omega)) (fun i hi => by omega)
    rw [up2_id] at s1
    have s3 := e_mv125 (B := B) (m := z + 180) (g := g') (A := a') hI1 (c := c) (by omega) (G := G) (K := fun i => clsS v c (wsh v c i)) (fun i hi => ⟨s2 i (by omega), (kS i hi).2⟩) (fun z40 => Option.bind (isC 6 (ovl B (z + 180) g' (up2 (up2 a' 10 G) 1 (enc (mvV v c XX YY) pl))) (z + 180)) fun _ => Option.bind (p_X7_fills (z + 180) (ovl B (z + 180) g' (up2 (up2 a' 10 G) 1 (enc (mvV v c XX YY) pl)))) fun M42 => some (z40, M42))
    have en : cnt (fun i => clsS (mvV v c XX YY) c (wsh (mvV v c XX YY) c i) ≠ clsS v c (wsh v c i)) (mvV v c XX YY (324 + c)) = mvN v c XX YY := by
      rw [m3]
      exact cnt_c (fun k hk => by rw [mw k (by omega)])
    refine ⟨g', up2 a' 10 G, ?_, q2.a_ (by omega), by rw [q3]; exact pk_us⟩
    show p_X7_moveHome _ _ _ _ _ = _
    unfold p_X7_moveHome
    rw [oc, bS, e_nc hI hc, ob2_def, if_pos (by rfl), i1, bS, jn_def, if_neg n10, i2, bS, if_neg n10]
    show Option.bind (isC 6 _ _) _ = _
    rw [oc, bS, fa0, ob2_def, if_pos rfl, oc, bS, q1, bS]
    refine Eq.trans s1 ?_
    show Option.bind (gR 6 0 _ (z + 180)) _ = _
    rw [or_0, bS, show (124 : Int32) + nN c = nN (124 + c) from nN_add 124 c, ew_v (by omega) (by omega), bS, or_0, bS, show (164 : Int32) + nN c = nN (164 + c) from nN_add 164 c, ew_v (by omega) (by omega), bS]
    refine Eq.trans s3 ?_
    show Option.bind (isC 6 _ (z + 180)) _ = _
    rw [oc, bS, e_fills hI1, bS, en]
  -- the class
  have oz : ∀ x', oR rn b x' → ∀ g' h' ar', ofc M4 rn b tn tbn g' h' ar' u4 ta4 x' = M4 x' := fun x' hx' g' h' ar' => ofc_k hM4 hx'
  have n0 : p_X6_needHome (nN XX) (nN YY) M = some (.inl ()) := nh_ok hx hy
  have w11 : gR 2 11 M4 rn = some b := hb0
  have p1 : aIs M4 b (nN c) (nN XX) = some (ofc M4 rn b tn tbn g4 h4' (up2 ar4 0 (upd (ar4 0) c (nN XX))) u4 ta4) := by
    conv => lhs; rw [hM4]
    rw [fe_0 hG4, wr_nN (by omega) (by omega), Option.map_some]
  have p2 : ∀ q, aIs (ofc M4 rn b tn tbn g4 h4' (up2 ar4 0 q) u4 ta4) (b + 1) (nN c) (nN YY) = some (ofc M4 rn b tn tbn g4 h4' (up2 (up2 ar4 0 q) 1 (upd (up2 ar4 0 q 1) c (nN YY))) u4 ta4) := fun q => by
    rw [fe_1 hG4, wr_nN (by omega) (by omega), Option.map_some]
  have xs3 : ∀ g' h' ar', gR 5 3 (ofc M4 rn b tn tbn g' h' ar' u4 ta4) z = some rn := fun g' h' ar' => (hg g' h' ar').1
  have xs4 : ∀ g' h' ar', gR 5 4 (ofc M4 rn b tn tbn g' h' ar' u4 ta4) z = some (z + 49) := fun g' h' ar' => (q_gR (oz z (by unfold oR; omega) g' h' ar')).trans b4
  have tR : ∀ g' h' ar', RC (ofc M4 rn b tn tbn g' h' ar' u4 ta4) (z + 49) (z + 50) tn g h ar := fun g' h' ar' => wRC.kp (fun x' hx' => oz x' (by unfold oR; omega) g' h' ar')
  have tT : ∀ g' h' ar', TC (ofc M4 rn b tn tbn g' h' ar' u4 ta4) tn tbn u ta := fun g' h' ar' => wTC.kp (fun x' hx' => oz x' (by unfold GE at hG4; unfold oR; omega) g' h' ar')
  have tK : ∀ g' h' ar' s, s < v 0 → p_X2_rankClass (z + 49) (nN c) (nN s) (ofc M4 rn b tn tbn g' h' ar' u4 ta4) = some (nN (clsS v c s)) := fun g' h' ar' s hs => by
    have hh := (tR g' h' ar').toF (tT g' h' ar')
    rw [hh]
    exact c_rankClass (ofc M4 rn b tn tbn g' h' ar' u4 ta4) hG hR hT hI hc hs
  have tC : ∀ g' h' ar', isC 2 (ofc M4 rn b tn tbn g' h' ar' u4 ta4) (z + 49) = some () := fun g' h' ar' => by unfold isC; rw [(tR g' h' ar').1]; rfl
  have nK : ∀ s, s < v 0 → p_X2_rankClass rn (nN c) (nN s) (ofc M4 rn b tn tbn g4 h4' (up2 (up2 ar4 0 (upd (ar4 0) c (nN XX))) 1 (upd (up2 ar4 0 (upd (ar4 0) c (nN XX)) 1) c (nN YY))) u4 ta4) = some (nN (clsS (mvV v c XX YY) c s)) := fun s hs => c_rankClass M4 hG4 R6 T6 hI1 (by omega) (by omega)
  have a4 := R6.a4 (c := c) (by omega)
  have nW : aI 0 (ofc M4 rn b tn tbn g4 h4' (up2 (up2 ar4 0 (upd (ar4 0) c (nN XX))) 1 (upd (up2 ar4 0 (upd (ar4 0) c (nN XX)) 1) c (nN YY))) u4 ta4) (b + 4) (nN c) = some (nN (rwN (fun i => wsh (mvV v c XX YY) c i) (v (324 + c)))) := by
    rw [fd_4 hG4, rd_nN (by omega) (by omega), a4, m3]
    rfl
  have nWe : rwN (fun i => wsh (mvV v c XX YY) c i) (v (324 + c)) = rwN (fun i => wsh v c i) (v (324 + c)) := rwN_c (fun i hi => mw i (by omega))
  rw [nWe] at nW
  have n15 : gR 2 15 (ofc M4 rn b tn tbn g4 h4' (up2 (up2 ar4 0 (upd (ar4 0) c (nN XX))) 1 (upd (up2 ar4 0 (upd (ar4 0) c (nN XX)) 1) c (nN YY))) u4 ta4) rn = some (b + 4) := fv_15
  have nC : isC 2 (ofc M4 rn b tn tbn g4 h4' (up2 (up2 ar4 0 (upd (ar4 0) c (nN XX))) 1 (upd (up2 ar4 0 (upd (ar4 0) c (nN XX)) 1) c (nN YY))) u4 ta4) rn = some () := fv_isC
  have n53 := xs3 g4 h4' (up2 (up2 ar4 0 (upd (ar4 0) c (nN XX))) 1 (upd (up2 ar4 0 (upd (ar4 0) c (nN XX)) 1) c (nN YY)))
  have n54 := xs4 g4 h4' (up2 (up2 ar4 0 (upd (ar4 0) c (nN XX))) 1 (upd (up2 ar4 0 (upd (ar4 0) c (nN XX)) 1) c (nN YY)))
  have nTK := tK g4 h4' (up2 (up2 ar4 0 (upd (ar4 0) c (nN XX))) 1 (upd (up2 ar4 0 (upd (ar4 0) c (nN XX)) 1) c (nN YY)))
  have nTC := tC g4 h4' (up2 (up2 ar4 0 (upd (ar4 0) c (nN XX))) 1 (upd (up2 ar4 0 (upd (ar4 0) c (nN XX)) 1) c (nN YY)))
  unfold p_X6_moveHome
  rw [hX, bS, nc c hc, obx_l, n0, obx_l, bS, e, bS, r4, bS, r3, bS, i2', bS, e3', bS, b3, bS, w11, bS, p1, bS, xs3, bS, fv_12, bS, p2, bS]
  generalize ofc M4 rn b tn tbn g4 h4' (up2 (up2 ar4 0 (upd (ar4 0) c (nN XX))) 1 (upd (up2 ar4 0 (upd (ar4 0) c (nN XX)) 1) c (nN YY))) u4 ta4 = N at f7 nK nW n15 nC n53 n54 nTK nTC ⊢
  have hcl : ∀ w p0, Inv w p0 → ∀ s, s < 8 → clsS w c s < 2147483648 := fun w p0 hw s hs => by
    have := cls_le hw (c := c) (s := s) hs
    omega
  have hcut : cnt (fun i => i < v (324 + c) ∧ clsS (mvV v c XX YY) c (wsh v c i) ≠ clsS v c (wsh v c i)) 4 = mvN v c XX YY := by
    have := cnt_cut (Q := fun i => clsS (mvV v c XX YY) c (wsh v c i) ≠ clsS v c (wsh v c i)) (m := v (324 + c)) (4 - v (324 + c))
    rw [show v (324 + c) + (4 - v (324 + c)) = 4 by omega] at this
    exact this
  rw [← hcut]
  have hFU : 4 < FU := FU_pos (by omega)
  generalize FU = F at hFU ⊢
  refine loop_cnt (L := fun fu k x => pl_X6_moveHome_51 (fun z32 => Option.bind (gR 5 3 N z) fun v33 => Option.bind (isC 2 N v33) fun _ => Option.bind (p_X2_fillPlaces v33 N) fun M35 => some (.inl (z32, M35))) z (nN c) N fu (nN x) (nN k)) (P := fun k => (k < v (324 + c) ∧ clsS (mvV v c XX YY) c (wsh v c k) ≠ clsS v c (wsh v c k))) (fin := fun x => some (.inl (nN x, ofc M4 rn b tn tbn g7 h7' ar7 u4 ta4))) (n := 4) (fun fu k x hk hx => ?_) (fun fu x hx => ?_) F hFU
  · have ek : nN k + (1 : Int32) = nN (k + 1) := nN_add k 1
    have ex : nN x + (1 : Int32) = nN (x + 1) := nN_add x 1
    have er := c_rowEntry (w := fun i => wsh v c i) (n := v (324 + c)) (i := k) (M := N) (by omega) (fun i hi => by have := hwb i hi; show wsh v c i < 15; omega) hk
    rw [pl_X6_moveHome_51, if_neg (show ¬ (4 : Int32) ≤ nN k from nle_f (a := 4) (by omega) (by omega) (by omega)), n53, bS, n15, bS, nW, bS, er, bS]
    by_cases c1 : k < v (324 + c)
    · have hw8 := hwb k c1
      rw [if_pos c1, if_neg (show ¬ oN (some (wsh v c k)) = (-1 : Int32) from nNm (by omega)), bS, nC, bS, show oN (some (wsh v c k)) = nN (wsh v c k) from rfl, nK _ hw8, bS, n54, bS, nTC, bS, nTK _ hw8, bS, ek, ex]
      by_cases e5 : clsS (mvV v c XX YY) c (wsh v c k) = clsS v c (wsh v c k)
      · rw [if_pos (by rw [e5]), if_neg (fun q => q.2 e5)]
      · rw [if_neg (neq_f (hcl _ _ hI1 _ (by omega)) (hcl _ _ hI _ (by omega)) e5), if_pos ⟨c1, e5⟩]
    · rw [if_neg c1, if_pos (show oN none = (-1 : Int32) from rfl), if_neg (fun q => c1 q.1), ek]
  · rw [pl_X6_moveHome_51, if_pos (show (4 : Int32) ≤ nN 4 from nle_t (a := 4) (by omega) (by omega) (by omega)), n53, bS, nC, bS, f7, bS]
end MH3
section KC
variable {L : Nat} {xs : Nat → Int32} {i0 : Int32} {x : Nat → Int32} {z : Nat} {M : Mem}
theorem k_26 (hO : OFF z M) (hx : xIs L xs i0 x) : ∃ M', pk_26 L xs z (z + 180) (z + 194) (z + 195) i0 M = some M' ∧ OFF z M' := by
  obtain ⟨-, hx1, hx2, hx3, hx4, hx5⟩ := hx
  obtain ⟨v, pl, nm, H, n, sv, S, inp, len, ec, eo, out, ol, hP, hC, hX, hX6, hV, hE⟩ := off_w hO
  rcases ch_moveHome hP hC (x 1) (x 2) (x 3) with ⟨val, M1, e6, hv⟩ | ⟨e6, hv⟩ | ⟨e6, hv⟩
  · obtain ⟨⟨f0, hod⟩, hq⟩ := hV val M1 _ hv
    obtain ⟨o1, M2, o2, o3, o4, o5, o6⟩ := hq (vp_updL f0 0 (Int32.toInt64 val))
    refine ⟨M2, ?_, o3⟩
    have el : p_L_moveHome z (x 1) (x 2) (x 3) (z + 194) M = some (0, upM M1 (z + 194) (.inl (2, 1, .inr (.inl (vp_updL f0 0 (Int32.toInt64 val)))))) := by
      unfold p_L_moveHome
      rw [hX, bS, e6, ctc2_l, aLs_od hod, bS]
    unfold pk_26
    have eL := aL_od o6
    simp only [hx1, hx2, hx3, bS, el, ob2_def, o1, o2, o4, o5, eq_self, if_true, eL, lgc_self]
  · obtain ⟨y, M2, o2, o3, o4, o5⟩ := hE 1 _ hv
    refine ⟨M2, ?_, o3⟩
    have el : p_L_moveHome z (x 1) (x 2) (x 3) (z + 194) M = some (nN 1, M) := by
      unfold p_L_moveHome
      rw [hX, bS, e6, ctc2_r, if_pos rfl]
      rfl
    unfold pk_26
    simp only [hx1, hx2, hx3, bS, el, ob2_def, hX6, o2, o4, o5, eq_self, if_true]
    rw [if_neg (by decide)]
  · obtain ⟨y, M2, o2, o3, o4, o5⟩ := hE 2 _ hv
    refine ⟨M2, ?_, o3⟩
    have el : p_L_moveHome z (x 1) (x 2) (x 3) (z + 194) M = some (nN 2, M) := by
      unfold p_L_moveHome
      rw [hX, bS, e6, ctc2_r, if_neg (by decide), if_pos rfl]
      rfl
    unfold pk_26
    simp only [hx1, hx2, hx3, bS, el, ob2_def, hX6, o2, o4, o5, eq_self, if_true]
    rw [if_neg (by decide)]
end KC