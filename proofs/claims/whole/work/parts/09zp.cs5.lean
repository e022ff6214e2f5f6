/-! the setup text: the class's children; the whole text -/
section CS5
variable {Z : gZ} {f : Nat → Nat} {n : Nat} {B : Mem} {rr br tr tb a t2 : Nat} {g : Nat → Int32} {h : Nat → Int64} {ar : Nat → Nat → Int32} {u : Nat → Int32} {ta : Nat → Nat → Int32} {er eo b5 b6 b7 : Int32} {q : Nat}
variable {v nm : Nat → Nat} {o : Nat}
def WR (Z : gZ) (f : Nat → Nat) (n : Nat) (B : Mem) (rr br tr tb a t2 : Nat) (g : Nat → Int32) (h : Nat → Int64) (ar : Nat → Nat → Int32) (u : Nat → Int32) (ta : Nat → Nat → Int32) (er eo b5 b6 b7 : Int32) (c : Nat) (x : Sum (Nat × Nat) ((Nat → Nat) × Nat × Nat)) (r : Option (Int32 × Mem)) : Prop := match x with
  | .inr Y => r = some (nN (rwN (fun i => Y.1 (564 + 4 * c + i)) Y.2.1), (CS Z f n B rr br tr tb a t2 g h ar u ta er eo b5 b6 b7 Y.2.2))
  | .inl e => r = some ((-1 : Int32), (CS Z f n B rr br tr tb a t2 g h ar u ta (nN e.1) (nN e.2) b5 b6 b7 e.2)) ∨ (e.1 = 1 ∧ kdN f n e.2 = 1 ∧ e.2 ≤ n ∧ ∃ row, row < 65536 ∧ r = some (nN row, (CS Z f n B rr br tr tb a t2 g h ar u ta er eo b5 b6 b7 e.2)))
theorem cs_wsh (hC : CH Z f n B rr br tr tb a t2) (hR : CR g h ar u ta v nm) (h0 : v 0 ≤ 8) (hN : NMS nm (v 0)) {c : Nat} (hc : c < 40) : ∀ d k V q fu, k + d = 4 → d < fu → (∀ i, i < k → V (564 + 4 * c + i) < 8) → (k = 0 ∨ kdN f n q = 1) → q ≤ n → WR Z f n B rr br tr tb a t2 g h ar u ta er eo b5 b6 b7 c (wshV f n nm (v 0) c d V k q) (pl_X3_readWishes_4 Z (fun M17 => some ((-1 : Int32), M17)) (fun M18 => Option.bind (isC 3 M18 a) fun _ => Option.bind (p_X3_fail a (3 : Int32) M18) fun M20 => some ((-1 : Int32), M20)) (fun z21 M22 => some (z21, M22)) a fu (nN (rwN (fun i => V (564 + 4 * c + i)) k)) (nN k) (CS Z f n B rr br tr tb a t2 g h ar u ta er eo b5 b6 b7 q)) := by
  intro d
  induction d with
  | zero =>
    intro k V q fu hk hf hv hkk hq
    obtain ⟨F, rfl⟩ : ∃ F, fu = F + 1 := ⟨fu - 1, by omega⟩
    have e4 : k = 4 := by omega
    subst e4
    rw [pl_X3_readWishes_4, if_pos (show (4 : Int32) ≤ nN 4 by decide)]
    exact Or.inr ⟨rfl, hkk.resolve_left (by omega), hq, _, rw4 (by omega) (fun i hi => by have := hv i hi; show V (564 + 4 * c + i) < 15; omega), rfl⟩
  | succ d ih =>
    intro k V q fu hk hf hv hkk hq
    obtain ⟨F, rfl⟩ : ∃ F, fu = F + 1 := ⟨fu - 1, by omega⟩
    have ek : nN k + (1 : Int32) = nN (k + 1) := nN_add k 1
    have hx := (nxt_b (f := f) hq).2.1
    have h4 := kdN_4 (f := f) (n := n) (st := nxt f n q)
    have hb : pl_X3_readWishes_4 Z (fun M17 => some ((-1 : Int32), M17)) (fun M18 => Option.bind (isC 3 M18 a) fun _ => Option.bind (p_X3_fail a (3 : Int32) M18) fun M20 => some ((-1 : Int32), M20)) (fun z21 M22 => some (z21, M22)) a (F + 1) (nN (rwN (fun i => V (564 + 4 * c + i)) k)) (nN k) (CS Z f n B rr br tr tb a t2 g h ar u ta er eo b5 b6 b7 q) = ob2 (p_X3_toldSchoolHere a (CS Z f n B rr br tr tb a t2 g h ar u ta er eo b5 b6 b7 q)) (fun v7 M8 => if v7 = (-1 : Int32) then some ((-1 : Int32), M8) else Option.bind (p_X6_rowIndex (nN (rwN (fun i => V (564 + 4 * c + i)) k)) v7 M8) fun v10 => if v10 = (-1 : Int32) then (Option.bind (isC 3 M8 a) fun _ => Option.bind (p_X3_advance Z a M8) fun M13 => pl_X3_readWishes_4 Z (fun M17 => some ((-1 : Int32), M17)) (fun M18 => Option.bind (isC 3 M18 a) fun _ => Option.bind (p_X3_fail a (3 : Int32) M18) fun M20 => some ((-1 : Int32), M20)) (fun z21 M22 => some (z21, M22)) a F (nN (rwN (fun i => V (564 + 4 * c + i)) k) ||| ((v7 + (1 : Int32)) <<< (((4 : Int32) * nN k) &&& 31))) (nN k + (1 : Int32)) M13) else (Option.bind (isC 3 M8 a) fun _ => Option.bind (p_X3_fail a (3 : Int32) M8) fun M20 => some ((-1 : Int32), M20))) := by
      rw [pl_X3_readWishes_4, if_neg (show ¬ (4 : Int32) ≤ nN k from nle_f (a := 4) (by omega) (by omega) (by omega)), jn_def]
      by_cases k0 : k = 0
      · rw [if_pos (show nN k = (0 : Int32) by rw [k0]; rfl), cs_b]
      · rw [if_neg (show ¬ nN k = (0 : Int32) from neq_f (b := 0) (by omega) (by omega) k0), cs_8, bS, if_pos (show nN (kdN f n q) = (1 : Int32) by rw [hkk.resolve_left k0]; rfl), cs_b]
    rw [hb, cs_told hC hR h0 hN hq]
    unfold wshV
    by_cases cn : nmB f n q = true
    · rw [if_pos cn, if_pos cn]
      cases hf2 : fdN nm (v 0) f n q with
      | none =>
        show WR Z f n B rr br tr tb a t2 g h ar u ta er eo b5 b6 b7 c (.inl (3, q)) (ob2 (some _) _)
        rw [ob2_def, if_pos rfl]
        exact Or.inl rfl
      | some s =>
        have hs := (fnd_some hf2).2.1
        show WR Z f n B rr br tr tb a t2 g h ar u ta er eo b5 b6 b7 c (if fnd (fun i => V (564 + 4 * c + i) = s) 0 k = none then (if kdN f n (nxt f n q) = 1 then wshV f n nm (v 0) c d (updN (updN V (564 + 4 * c + k) s) (324 + c) (k + 1)) (k + 1) (nxt f n q) else .inr (updN (updN V (564 + 4 * c + k) s) (324 + c) (k + 1), k + 1, nxt f n q)) else .inl (3, q)) (ob2 (some _) _)
        rw [ob2_def, if_neg (show ¬ nN s = (-1 : Int32) from nNm (by omega)), c_rowIndex (w := fun i => V (564 + 4 * c + i)) (by omega) (fun i hi => by have := hv i hi; show V (564 + 4 * c + i) < 15; omega) (by omega), bS]
        cases hj : fnd (fun i => V (564 + 4 * c + i) = s) 0 k with
        | some j =>
          have := (fnd_some hj).2.1
          rw [if_neg (show ¬ oN (some j) = (-1 : Int32) from nNm (by omega)), if_neg (Option.some_ne_none _), cs_b, cs_fail, bS]
          exact Or.inl rfl
        | none =>
          have ew : (fun i => updN (updN V (564 + 4 * c + k) s) (324 + c) (k + 1) (564 + 4 * c + i)) = updN (fun i => V (564 + 4 * c + i)) k s := funext fun i => by
            show (if 564 + 4 * c + i = 324 + c then _ else if 564 + 4 * c + i = 564 + 4 * c + k then s else V (564 + 4 * c + i)) = (if i = k then s else V (564 + 4 * c + i))
            rw [if_neg (by omega)]
            by_cases e : i = k
            · rw [if_pos (by omega), if_pos e]
            · rw [if_neg (by omega), if_neg e]
          have hv2 : ∀ i, i < k + 1 → updN (updN V (564 + 4 * c + k) s) (324 + c) (k + 1) (564 + 4 * c + i) < 8 := fun i hi => by
            have e := congrFun ew i
            have e : updN (updN V (564 + 4 * c + k) s) (324 + c) (k + 1) (564 + 4 * c + i) = if i = k then s else V (564 + 4 * c + i) := e
            rw [e]
            by_cases e2 : i = k
            · rw [if_pos e2]; omega
            · rw [if_neg e2]; exact hv i (by omega)
          rw [if_pos (show oN none = (-1 : Int32) from rfl), if_pos rfl, cs_b, cs_adv hC hq, bS, row_s (w := fun i => V (564 + 4 * c + i)) (by omega) (fun i hi => by have := hv i hi; show V (564 + 4 * c + i) < 15; omega) (by omega), ek, ← ew]
          by_cases ck : kdN f n (nxt f n q) = 1
          · rw [if_pos ck]
            exact ih (k + 1) (updN (updN V (564 + 4 * c + k) s) (324 + c) (k + 1)) (nxt f n q) F (by omega) (by omega) hv2 (Or.inr ck) hx
          · rw [if_neg ck]
            obtain ⟨F, rfl⟩ : ∃ F2, F = F2 + 1 := ⟨F - 1, by omega⟩
            show _ = some _
            rw [pl_X3_readWishes_4]
            by_cases k4 : (4 : Int32) ≤ nN (k + 1)
            · rw [if_pos k4]
            · rw [if_neg k4, jn_def, if_neg (show ¬ nN (k + 1) = (0 : Int32) from neq_f (b := 0) (by omega) (by omega) (by omega)), cs_8, bS, if_neg (show ¬ nN (kdN f n (nxt f n q)) = (1 : Int32) from neq_f (b := 1) (by omega) (by omega) ck)]
    · rw [if_neg cn, if_neg cn, ob2_def, if_pos rfl]
      exact Or.inl rfl
def kcC (Z : gZ) (a : Nat) (v7 s9 v14 s19 : Int32) (M20 : Mem) : Option Mem := Option.bind (isC 3 M20 a) fun _ => ob2 (p_X3_passWord Z a (some (Z.2.2.1 10)) M20) fun v24 M25 => if v24 = 0 then (Option.bind (isC 3 M25 a) fun _ => Option.bind (p_X3_fail a (1 : Int32) M25) fun M40 => some M40) else (Option.bind (isC 3 M25 a) fun _ => ob2 (p_X3_readWishes Z a M25) fun v28 M29 => if v28 = (-1 : Int32) then some M29 else (Option.bind (isC 3 M29 a) fun _ => ob2 (p_X3_passSemicolon Z a M29) fun v32 M33 => if v32 = 0 then some M33 else (Option.bind (gR 3 4 M33 a) fun v35 => Option.bind (isC 2 M33 v35) fun _ => ob2 (p_X2_enrol v35 v7 s9 s19 v14 v28 M33) fun v37 M38 => some M38)))
theorem cs_chiP {q0 : Nat} (hC : CH Z f n B rr br tr tb a t2) (hS : SI f n v nm o q0) (hR : CR g h ar u ta v nm) {c x y fm cr : Nat} {V : Nat → Nat} (hc : v 1 = c) (hc2 : c < 40) (hV : CHV v V c x y fm cr) (hx : x ≤ 99) (hy : y ≤ 99) (hfm : fm ≤ 99) (hcr : cr ≤ 1) (hq : q ≤ n) : PC Z f n B rr br tr tb a t2 eo (semS f n (chiP f n nm o c V q)) (kcC Z a (nN x) (nN y) (nN cr) (nN fm) (CS Z f n B rr br tr tb a t2 g h ar u ta 0 eo (bO 1 o) (bO 2 o) (bO 4 o) q)) := by
  have h0 := hS.inv.h0
  have hn := (nxt_b (f := f) hq).2.1
  have z0 := hS.zc c (by omega) hc2
  have hV0 : V 0 = v 0 := hV.2 0 (by omega) (by omega) (by omega) (by omega)
  have hV3 : V (324 + c) = 0 := (hV.2 _ (by omega) (by omega) (by omega) (by omega)).trans z0.2.2.1
  unfold kcC chiP
  rw [cs_b, cs_pw hC hq (by decide)]
  by_cases cw : wdN f n q = some 10
  · rw [if_pos cw, if_pos cw, ob2_def, if_neg i10, cs_b, hV0]
    have hw : WR Z f n B rr br tr tb a t2 g h ar u ta 0 eo (bO 1 o) (bO 2 o) (bO 4 o) c (wshV f n nm (v 0) c 4 V 0 (nxt f n q)) (p_X3_readWishes Z a (CS Z f n B rr br tr tb a t2 g h ar u ta 0 eo (bO 1 o) (bO 2 o) (bO 4 o) (nxt f n q))) := by
      unfold p_X3_readWishes
      rw [jn_def]
      exact cs_wsh hC hR h0 hS.nms hc2 4 0 V (nxt f n q) FU (by omega) (FU_pos (by omega)) (fun i hi => by omega) (Or.inl rfl) hn
    cases hW : wshV f n nm (v 0) c 4 V 0 (nxt f n q) with
    | inl e =>
      rw [hW] at hw
      show PC Z f n B rr br tr tb a t2 eo (.inl e) _
      rcases hw with hw | ⟨w1, w2, w3, row, w4, w5⟩
      · rw [hw, ob2_def, if_pos rfl]
        exact ⟨g, h, ar, u, ta, _, _, _, rfl⟩
      · rw [w5, ob2_def, if_neg (show ¬ nN row = (-1 : Int32) from nNm (by omega)), cs_b]
        have e1 : e = (1, e.2) := Prod.ext w1 rfl
        rw [e1]
        exact pc_sem1 hC w3 (fun M => if_pos rfl) w2
    | inr Y =>
      rw [hW] at hw
      have hP := wsh_P (v := V) hc2 4 V 0 _ (by omega) ⟨fun i _ _ => rfl, hV3, by omega, fun i hi => by omega, fun i j _ hj => by omega⟩ hn hW
      have e := chi_eq (c := c) hc2 hc hV hP.1 hS.z8 ⟨z0.2.2.2.1, z0.2.2.2.2.1, z0.2.2.2.2.2.1, z0.2.2.2.2.2.2⟩
      have hr := rw4 (w := fun i => Y.1 (564 + 4 * c + i)) hP.1.2.2.1 (fun i hi => by have := hP.1.2.2.2.1 i hi; show Y.1 (564 + 4 * c + i) < 15; omega)
      have hw : p_X3_readWishes Z a (CS Z f n B rr br tr tb a t2 g h ar u ta 0 eo (bO 1 o) (bO 2 o) (bO 4 o) (nxt f n q)) = some (nN (rwN (fun i => Y.1 (564 + 4 * c + i)) Y.2.1), (CS Z f n B rr br tr tb a t2 g h ar u ta 0 eo (bO 1 o) (bO 2 o) (bO 4 o) Y.2.2)) := hw
      show PC Z f n B rr br tr tb a t2 eo (semS f n (.inr (updN (drwV Y.1 c) 1 (c + 1), nm, o, Y.2.2))) _
      rw [hw, ob2_def, if_neg (show ¬ nN (rwN (fun i => Y.1 (564 + 4 * c + i)) Y.2.1) = (-1 : Int32) from nNm (by omega)), cs_b]
      refine pc_sem hC hP.2.2 (fun M => if_pos rfl) ?_
      show PC Z f n B rr br tr tb a t2 eo _ (if (1 : Int32) = 0 then _ else _)
      obtain ⟨g', h', ar', e1, e2, e3⟩ := c_enrol2 (T3 Z f n B a t2 0 eo rr (bO 1 o) (bO 2 o) (bO 4 o) (nxt f n Y.2.2)) hC.1 hR.1 hR.2.1 hS.inv (x := x) (y := y) (f := fm) (cr := cr) (w := fun i => Y.1 (564 + 4 * c + i)) (m := Y.2.1) (by omega) hcr hP.1.2.2.1
      rw [if_neg i10, cs_4, bS, cs_2_C hC, bS, cs_sw hC, e1, ob2_def, ← cs_sw hC]
      refine ⟨_, _, _, _, _, rfl, ?_⟩
      show CR g' h' ar' u ta (updN (drwV Y.1 c) 1 (c + 1)) nm
      rw [e]
      refine ⟨e2, hR.2.1.same (enr_T v x y fm cr _ Y.2.1 (by omega) hP.1.2.2.1) h0 (fun s hs => (hS.inv.2.1 s hs).2.2.2.1), fun s h1 h2 => ?_⟩
      rw [enr_n (by unfold okE; omega)] at h1
      rw [e3]; exact hR.2.2 s h1 h2
  · rw [if_neg cw, if_neg cw, ob2_def, if_pos rfl, cs_b, cs_fail, bS]
    exact pc_f rfl
theorem cs_child (hC : CH Z f n B rr br tr tb a t2) (hS : SI f n v nm o q) (hR : CR g h ar u ta v nm) : PC Z f n B rr br tr tb a t2 eo (semS f n (childS f n v nm o q)) (p_X3_readChild Z a (CS Z f n B rr br tr tb a t2 g h ar u ta 0 eo (bO 1 o) (bO 2 o) (bO 4 o) q)) := by
  have hI := hS.inv
  have h1 := hI.h1
  have hx := (nxt_b (f := f) hS.qn).2.1
  unfold p_X3_readChild childS
  rw [cs_4, bS, cs_2_1 hC, bS, hR.1.g1]
  by_cases c : 40 ≤ v 1
  · rw [if_neg (show ¬ nN (v 1) < (40 : Int32) from nlt_f (b := 40) (by omega) (by omega) (by omega)), if_pos c, cs_b, cs_fail, bS]
    exact pc_f rfl
  · have hc2 : v 1 < 40 := by omega
    rw [if_pos (show nN (v 1) < (40 : Int32) from nlt_t (b := 40) (by omega) (by omega) (by omega)), if_neg c, cs_b, cs_adv hC hS.qn, bS, cs_b]
    refine pc_num (lo := 0) (hi := 99) hC hx (by decide) (by decide) (fun M => rfl) (fun c1 c2 c3 => ?_)
    generalize vlN f n (nxt f n q) = x at c2 ⊢
    generalize nxt f n (nxt f n q) = q3 at c3 ⊢
    show PC Z f n B rr br tr tb a t2 eo _ (jn _ _)
    rw [jn_def, if_neg (show ¬ nN x = (-1 : Int32) from nNm (by omega)), cs_b]
    refine pc_num (lo := 0) (hi := 99) hC c3 (by decide) (by decide) (fun M => rfl) (fun c4 c5 c6 => ?_)
    generalize vlN f n q3 = y at c5 ⊢
    generalize nxt f n q3 = q4 at c6 ⊢
    show PC Z f n B rr br tr tb a t2 eo _ (if _ then _ else _)
    rw [if_neg (show ¬ nN y = (-1 : Int32) from nNm (by omega)), cs_b]
    have zz := hS.zc (v 1) (Nat.le_refl _) hc2
    have hV : CHV v (updN (updN v (124 + v 1) x) (164 + v 1) y) (v 1) x y 0 0 := ⟨⟨(if_neg (by omega)).trans (if_pos rfl), if_pos rfl, ((if_neg (by omega)).trans (if_neg (by omega))).trans zz.1, ((if_neg (by omega)).trans (if_neg (by omega))).trans zz.2.1⟩, fun i a b _ _ => (if_neg b).trans (if_neg a)⟩
    generalize updN (updN v (124 + v 1) x) (164 + v 1) y = V at hV ⊢
    have fin : ∀ V cr q5, CHV v V (v 1) x y 0 cr → cr ≤ 1 → q5 ≤ n → PC Z f n B rr br tr tb a t2 eo (semS f n (chiF f n nm o (v 1) V q5)) (ob2 (p_X3_passWord Z a (some (Z.2.2.1 9)) (CS Z f n B rr br tr tb a t2 g h ar u ta 0 eo (bO 1 o) (bO 2 o) (bO 4 o) q5)) (fun v17 M18 => if v17 = 0 then (if (0 : Int32) = (-1 : Int32) then some M18 else kcC Z a (nN x) (nN y) (nN cr) 0 M18) else (Option.bind (isC 3 M18 a) fun _ => ob2 (p_X3_readNumber Z a (1 : Int32) (99 : Int32) M18) fun v43 M44 => if v43 = (-1 : Int32) then some M44 else kcC Z a (nN x) (nN y) (nN cr) v43 M44))) := by
      intro V cr q5 hV hcr hq5
      have hx5 := (nxt_b (f := f) hq5).2.1
      rw [cs_pw hC hq5 (by decide)]
      unfold chiF
      by_cases cw : wdN f n q5 = some 9
      · rw [if_pos cw, if_pos cw, ob2_def, if_neg i10, cs_b]
        refine pc_num (lo := 1) (hi := 99) hC hx5 (by decide) (by decide) (fun M => if_pos rfl) (fun c7 c8 c9 => ?_)
        generalize vlN f n (nxt f n q5) = fm at c8 ⊢
        show PC Z f n B rr br tr tb a t2 eo _ (if _ then _ else _)
        rw [if_neg (show ¬ nN fm = (-1 : Int32) from nNm (by omega))]
        have hV2 : CHV v (updN V (204 + v 1) fm) (v 1) x y fm cr := ⟨⟨(if_neg (by omega)).trans hV.1.1, (if_neg (by omega)).trans hV.1.2.1, if_pos rfl, (if_neg (by omega)).trans hV.1.2.2.2⟩, fun i a1 b1 c1 d1 => (if_neg c1).trans (hV.2 i a1 b1 c1 d1)⟩
        exact cs_chiP hC hS hR rfl hc2 hV2 (by omega) (by omega) (by omega) hcr c9
      · rw [if_neg cw, if_neg cw, ob2_def, if_pos rfl, if_neg (by decide)]
        exact cs_chiP (fm := 0) hC hS hR rfl hc2 hV (by omega) (by omega) (by omega) hcr hq5
    unfold chiC
    rw [cs_pw hC c6 (by decide)]
    by_cases cw : wdN f n q4 = some 7
    · have hV3 : CHV v (updN V (244 + v 1) 1) (v 1) x y 0 1 := ⟨⟨(if_neg (by omega)).trans hV.1.1, (if_neg (by omega)).trans hV.1.2.1, (if_neg (by omega)).trans hV.1.2.2.1, if_pos rfl⟩, fun i a1 b1 c1 d1 => (if_neg d1).trans (hV.2 i a1 b1 c1 d1)⟩
      rw [if_pos cw, if_pos cw, ob2_def, cs_b]
      exact fin _ 1 _ hV3 (by omega) (nxt_b c6).2.1
    · rw [if_neg cw, if_neg cw, ob2_def, cs_b]
      exact fin _ 0 _ hV (by omega) c6
end CS5
section ECS
variable {f : Nat → Nat} {n : Nat}
def EC (x : QS) : Prop := ∀ e, x = .inl e → 1 ≤ e.1 ∧ e.1 ≤ 4
theorem ec_i {c q : Nat} (h : 1 ≤ c ∧ c ≤ 4) : EC (.inl (c, q)) := fun e he => by
  have := Sum.inl.inj he
  rw [← this]; exact h
theorem ec_r {y} : EC (.inr y) := fun e he => by cases he
theorem ec_if {P : Prop} [Decidable P] {x y : QS} (hx : EC x) (hy : EC y) : EC (if P then x else y) := by
  by_cases c : P
  · rw [if_pos c]; exact hx
  · rw [if_neg c]; exact hy
theorem ec_num {lo hi q : Nat} {k : Nat → Nat → QS} (h : ∀ x q, EC (k x q)) : EC (numS f n lo hi q k) := ec_if (ec_if (h _ _) (ec_i (by omega))) (ec_i (by omega))
theorem ec_chP {nm : Nat → Nat} {o c : Nat} {v : Nat → Nat} {q : Nat} : EC (chiP f n nm o c v q) := by
  unfold chiP
  refine ec_if ?_ (ec_i (by omega))
  have key : ∀ d V k q e, wshV f n nm (v 0) c d V k q = .inl e → 1 ≤ e.1 ∧ e.1 ≤ 4 := by
    intro d
    induction d with
    | zero => intro V k q e h; have := Sum.inl.inj h; rw [← this]; exact ⟨Nat.le_refl _, by show 1 ≤ 4; omega⟩
    | succ d ih =>
      intro V k q e h
      unfold wshV at h
      by_cases cn : nmB f n q = true
      · rw [if_pos cn] at h
        cases hf : fdN nm (v 0) f n q with
        | none => rw [hf] at h; have := Sum.inl.inj h; rw [← this]; exact ⟨by show 1 ≤ 3; omega, by show 3 ≤ 4; omega⟩
        | some s =>
          rw [hf] at h
          have h : (if fnd (fun i => V (564 + 4 * c + i) = s) 0 k = none then (if kdN f n (nxt f n q) = 1 then wshV f n nm (v 0) c d (updN (updN V (564 + 4 * c + k) s) (324 + c) (k + 1)) (k + 1) (nxt f n q) else .inr (updN (updN V (564 + 4 * c + k) s) (324 + c) (k + 1), k + 1, nxt f n q)) else .inl (3, q)) = Sum.inl e := h
          by_cases c2 : fnd (fun i => V (564 + 4 * c + i) = s) 0 k = none
          · rw [if_pos c2] at h
            by_cases c3 : kdN f n (nxt f n q) = 1
            · rw [if_pos c3] at h; exact ih _ _ _ _ h
            · rw [if_neg c3] at h; cases h
          · rw [if_neg c2] at h; have := Sum.inl.inj h; rw [← this]; exact ⟨by show 1 ≤ 3; omega, by show 3 ≤ 4; omega⟩
      · rw [if_neg cn] at h; have := Sum.inl.inj h; rw [← this]; exact ⟨Nat.le_refl _, by show 1 ≤ 4; omega⟩
  cases hW : wshV f n nm (v 0) c 4 v 0 (nxt f n q) with
  | inl e => exact fun e2 h2 => by have := Sum.inl.inj h2; rw [← this]; exact key _ _ _ _ _ hW
  | inr y => exact ec_r
theorem ec_st {v nm : Nat → Nat} {o q : Nat} : EC (stS' f n v nm o q) := by
  have hset : ∀ i hi o', EC (setS f n i hi v nm o' q) := fun i hi o' => ec_num (fun _ _ => ec_r)
  have hF : ∀ V q, EC (chiF f n nm o (v 1) V q) := fun V q => ec_if (ec_num (fun _ _ => ec_chP)) ec_chP
  refine ec_if ?_ (ec_if ?_ (ec_if ?_ (ec_if ?_ (ec_if ?_ (ec_if ?_ (ec_if ?_ (ec_i (by omega))))))))
  · refine ec_if (ec_i (by omega)) (ec_if ?_ (ec_i (by omega)))
    cases fdN nm (v 0) f n (nxt f n q) with
    | some s => exact ec_i (by omega)
    | none => exact ec_num (fun _ _ => ec_num (fun _ _ => ec_num (fun _ _ => ec_if ec_r (ec_i (by omega)))))
  · refine ec_if ?_ (ec_i (by omega))
    cases fdN nm (v 0) f n (nxt f n q) with
    | none => exact ec_i (by omega)
    | some s => exact ec_if (ec_i (by omega)) (ec_num (fun _ _ => ec_num (fun _ _ => ec_num (fun _ _ => ec_num (fun _ _ => ec_r)))))
  · refine ec_if (ec_i (by omega)) (ec_num (fun x q2 => ?_))
    unfold schS
    refine ec_if ?_ (ec_i (by omega))
    cases fdN nm (v 0) f n q2 with
    | none => exact ec_i (by omega)
    | some s => exact ec_r
  · exact ec_if (ec_i (by omega)) (ec_num (fun _ _ => ec_num (fun _ _ => ec_if (hF _ _) (hF _ _))))
  · exact ec_if (hset _ _ _) (ec_i (by omega))
  · exact ec_if (hset _ _ _) (ec_i (by omega))
  · exact ec_if (hset _ _ _) (ec_i (by omega))
theorem ec_sem {v nm : Nat → Nat} {o q : Nat} : EC (semS f n (stS' f n v nm o q)) := by
  have h := ec_st (f := f) (n := n) (v := v) (nm := nm) (o := o) (q := q)
  cases hx : stS' f n v nm o q with
  | inl e => rw [hx] at h; exact h
  | inr y => exact ec_if ec_r (ec_i (by omega))
end ECS
