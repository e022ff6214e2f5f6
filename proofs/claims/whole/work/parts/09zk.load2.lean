/-! the setup text: the reference reads the whole text -/
section TXR
variable {f : Nat → Nat} {n : Nat} {v nm : Nat → Nat} {o q : Nat}
theorem chiP_inv {V : Nat → Nat} {c x z a cr : Nat} {y} (hS : SI f n v nm o q) (hc : v 1 = c) (hc2 : c < 40) (hV : CHV v V c x z a cr) {q0 : Nat} (hq : q0 ≤ n) (h : chiP f n nm o c V q0 = .inr y) : ∃ w k, k ≤ 4 ∧ (∀ i, i < k → w i < v 0) ∧ (∀ i j, i < k → j < k → w i = w j → i = j) ∧ y.1 = enrV v x z a cr w k ∧ y.2.1 = nm ∧ y.2.2.1 = o ∧ q0 ≤ y.2.2.2 ∧ y.2.2.2 ≤ n := by
  have hx := nxt_b (f := f) hq
  have z0 := hS.zc c (by omega) hc2
  have hV0 : V 0 = v 0 := hV.2 0 (by omega) (by omega) (by omega) (by omega)
  have hV3 : V (324 + c) = 0 := (hV.2 _ (by omega) (by omega) (by omega) (by omega)).trans z0.2.2.1
  unfold chiP at h
  by_cases cw : wdN f n q0 = some 10
  · rw [if_pos cw] at h
    cases hW : wshV f n nm (V 0) c 4 V 0 (nxt f n q0) with
    | inl e => rw [hW] at h; cases h
    | inr Y =>
      rw [hW] at h
      have h := Sum.inr.inj h
      have hP := wsh_P (v := V) hc2 4 V 0 _ (by omega) ⟨fun i _ _ => rfl, hV3, by omega, fun i hi => by omega, fun i j _ hj => by omega⟩ hx.2.1 hW
      have e := chi_eq (c := c) hc2 hc hV hP.1 hS.z8 ⟨z0.2.2.2.1, z0.2.2.2.2.1, z0.2.2.2.2.2.1, z0.2.2.2.2.2.2⟩
      subst h
      refine ⟨_, Y.2.1, hP.1.2.2.1, fun i hi => ?_, fun i j hi hj hij => ?_, e, rfl, rfl, Nat.le_trans hx.1 hP.2.1, hP.2.2⟩
      · have := hP.1.2.2.2.1 i hi
        rw [hV0] at this; exact this
      · rcases Nat.lt_trichotomy i j with l | l | l
        · exact absurd hij (hP.1.2.2.2.2 i j l hj)
        · exact l
        · exact absurd hij.symm (hP.1.2.2.2.2 j i l hi)
  · rw [if_neg cw] at h; cases h
theorem ch_inv (hS : SI f n v nm o q) {y} (h : childS f n v nm o q = .inr y) : v 1 < 40 ∧ ∃ x z a cr w k, x ≤ 99 ∧ z ≤ 99 ∧ a ≤ 99 ∧ cr ≤ 1 ∧ k ≤ 4 ∧ (∀ i, i < k → w i < v 0) ∧ (∀ i j, i < k → j < k → w i = w j → i = j) ∧ y.1 = enrV v x z a cr w k ∧ y.2.1 = nm ∧ y.2.2.1 = o ∧ q ≤ y.2.2.2 ∧ y.2.2.2 ≤ n := by
  have hx := nxt_b (f := f) hS.qn
  unfold childS at h
  by_cases c : 40 ≤ v 1
  · rw [if_pos c] at h; cases h
  · rw [if_neg c] at h
    refine ⟨by omega, ?_⟩
    obtain ⟨x, q2, -, x2, x3, x4, h⟩ := num_inv h hx.2.1
    obtain ⟨z, q3, -, z2, z3, z4, h⟩ := num_inv h x4
    have zz := hS.zc (v 1) (Nat.le_refl _) (by omega)
    have hV : CHV v (updN (updN v (124 + v 1) x) (164 + v 1) z) (v 1) x z 0 0 := ⟨⟨(if_neg (by omega)).trans (if_pos rfl), if_pos rfl, ((if_neg (by omega)).trans (if_neg (by omega))).trans zz.1, ((if_neg (by omega)).trans (if_neg (by omega))).trans zz.2.1⟩, fun i a b _ _ => (if_neg b).trans (if_neg a)⟩
    generalize updN (updN v (124 + v 1) x) (164 + v 1) z = V at h hV
    have fin : ∀ V cr q4, CHV v V (v 1) x z 0 cr → cr ≤ 1 → q4 ≤ n → q ≤ q4 → chiF f n nm o (v 1) V q4 = .inr y → ∃ x z a cr w k, x ≤ 99 ∧ z ≤ 99 ∧ a ≤ 99 ∧ cr ≤ 1 ∧ k ≤ 4 ∧ (∀ i, i < k → w i < v 0) ∧ (∀ i j, i < k → j < k → w i = w j → i = j) ∧ y.1 = enrV v x z a cr w k ∧ y.2.1 = nm ∧ y.2.2.1 = o ∧ q ≤ y.2.2.2 ∧ y.2.2.2 ≤ n := by
      intro V cr q4 hV hcr hq4 hqq h
      have hx4 := nxt_b (f := f) hq4
      unfold chiF at h
      by_cases cw : wdN f n q4 = some 9
      · rw [if_pos cw] at h
        obtain ⟨a, q5, -, a2, a3, a4, h⟩ := num_inv h hx4.2.1
        have hV2 : CHV v (updN V (204 + v 1) a) (v 1) x z a cr := ⟨⟨(if_neg (by omega)).trans hV.1.1, (if_neg (by omega)).trans hV.1.2.1, if_pos rfl, (if_neg (by omega)).trans hV.1.2.2.2⟩, fun i a1 b1 c1 d1 => (if_neg c1).trans (hV.2 i a1 b1 c1 d1)⟩
        obtain ⟨w, k, w1, w2, w3, w4, w5, w6, w7, w8⟩ := chiP_inv hS rfl (by omega) hV2 a4 h
        exact ⟨x, z, a, cr, w, k, x2, z2, a2, hcr, w1, w2, w3, w4, w5, w6, by omega, w8⟩
      · rw [if_neg cw] at h
        obtain ⟨w, k, w1, w2, w3, w4, w5, w6, w7, w8⟩ := chiP_inv hS rfl (by omega) hV hq4 h
        exact ⟨x, z, 0, cr, w, k, x2, z2, by omega, hcr, w1, w2, w3, w4, w5, w6, by omega, w8⟩
    unfold chiC at h
    have hx3 := nxt_b (f := f) z4
    by_cases cw : wdN f n q3 = some 7
    · rw [if_pos cw] at h
      have hV3 : CHV v (updN V (244 + v 1) 1) (v 1) x z 0 1 := ⟨⟨(if_neg (by omega)).trans hV.1.1, (if_neg (by omega)).trans hV.1.2.1, (if_neg (by omega)).trans hV.1.2.2.1, if_pos rfl⟩, fun i a1 b1 c1 d1 => (if_neg d1).trans (hV.2 i a1 b1 c1 d1)⟩
      exact fin _ 1 _ hV3 (by omega) hx3.2.1 (by omega) h
    · rw [if_neg cw] at h
      exact fin _ 0 _ hV (by omega) z4 (by omega) h
theorem ch_SI (hS : SI f n v nm o q) {y} (h : childS f n v nm o q = .inr y) : SI f n y.1 y.2.1 y.2.2.1 y.2.2.2 ∧ q ≤ y.2.2.2 := by
  obtain ⟨hn, x, z, a, cr, w, k, h1, h2, h3, h4, h5, h6, h7, e1, e2, e3, h8, h9⟩ := ch_inv hS h
  rw [e1, e2, e3]
  have hI := hS.inv
  have h0 := hI.h0
  have u : ∀ i, okE v k i → enrV v x z a cr w k i = v i := fun i hi => enr_n hi
  have u0 := u 0 (by unfold okE; omega)
  have u2 := u 2 (by unfold okE; omega)
  refine ⟨⟨enr_Inv hI hn h1 h2 h3 h4 h5 h6 h7, fun i hi => ?_, by rw [u0]; exact hS.nms, hS.o8, h9, fun s b1 b2 => ?_, fun c b1 b2 => ?_, ?_, fun j hj => ?_⟩, h8⟩
  · rw [u i (by unfold okE; omega)]; exact hS.big i hi
  · rw [u0] at b1
    rw [u (44 + s) (by unfold okE; omega), u (52 + s) (by unfold okE; omega), u (60 + s) (by unfold okE; omega)]
    exact hS.zs s b1 b2
  · rw [enr_1] at b1
    rw [u (204 + c) (by unfold okE; omega), u (244 + c) (by unfold okE; omega), u (324 + c) (by unfold okE; omega), u (364 + c) (by unfold okE; omega), u (404 + c) (by unfold okE; omega), u (444 + c) (by unfold okE; omega), u (524 + c) (by unfold okE; omega)]
    exact hS.zc c (by omega) b2
  · rw [u 8 (by unfold okE; omega)]; exact hS.z8
  · rw [u2] at hj
    have := hI.h2
    rw [u (724 + 2 * j + 1) (by unfold okE; omega), u0]
    exact hS.pu j hj
theorem orb : ∀ x : Fin 8, x.val ||| 1 < 8 ∧ x.val ||| 2 < 8 ∧ x.val ||| 4 < 8 := by decide
theorem st_SI (hS : SI f n v nm o q) {y} (h : stS' f n v nm o q = .inr y) : SI f n y.1 y.2.1 y.2.2.1 y.2.2.2 ∧ q ≤ y.2.2.2 := by
  have ho := orb ⟨o, hS.o8⟩
  unfold stS' at h
  by_cases c0 : wdN f n q = some 0
  · rw [if_pos c0] at h; exact sc_SI hS h
  rw [if_neg c0] at h
  by_cases c1 : wdN f n q = some 1
  · rw [if_pos c1] at h; exact zo_SI hS h
  rw [if_neg c1] at h
  by_cases c2 : wdN f n q = some 2
  · rw [if_pos c2] at h; exact pu_SI hS h
  rw [if_neg c2] at h
  by_cases c3 : wdN f n q = some 3
  · rw [if_pos c3] at h; exact ch_SI hS h
  rw [if_neg c3] at h
  by_cases c4 : wdN f n q = some 4
  · rw [if_pos c4] at h
    unfold seedS at h
    by_cases cc : o &&& 1 = 0 ∧ v 1 = 0
    · rw [if_pos cc] at h; exact set_SI hS ho.1 (Or.inr (Or.inr ⟨rfl, by omega⟩)) h
    · rw [if_neg cc] at h; cases h
  rw [if_neg c4] at h
  by_cases c5 : wdN f n q = some 5
  · rw [if_pos c5] at h
    unfold appeS at h
    by_cases cc : o &&& 2 = 0
    · rw [if_pos cc] at h; exact set_SI hS ho.2.1 (Or.inl ⟨rfl, by omega⟩) h
    · rw [if_neg cc] at h; cases h
  rw [if_neg c5] at h
  by_cases c6 : wdN f n q = some 6
  · rw [if_pos c6] at h
    unfold lateS at h
    by_cases cc : o &&& 4 = 0
    · rw [if_pos cc] at h; exact set_SI hS ho.2.2 (Or.inr (Or.inl ⟨rfl, by omega⟩)) h
    · rw [if_neg cc] at h; cases h
  rw [if_neg c6] at h
  cases h
def semS (f : Nat → Nat) (n : Nat) (x : QS) : QS := match x with
  | .inl e => .inl e
  | .inr y => if kdN f n y.2.2.2 = 3 then .inr (y.1, y.2.1, y.2.2.1, nxt f n y.2.2.2) else .inl (1, y.2.2.2)
def txtS (f : Nat → Nat) (n : Nat) : Nat → (Nat → Nat) → (Nat → Nat) → Nat → Nat → QS
  | 0, v, nm, o, q => .inr (v, nm, o, q)
  | d + 1, v, nm, o, q => if kdN f n q = 0 then .inr (v, nm, o, q) else match semS f n (stS' f n v nm o q) with
    | .inl e => .inl e
    | .inr y => txtS f n d y.1 y.2.1 y.2.2.1 y.2.2.2
theorem sem_SI (hS : SI f n v nm o q) {y} (h : semS f n (stS' f n v nm o q) = .inr y) : SI f n y.1 y.2.1 y.2.2.1 y.2.2.2 ∧ q < y.2.2.2 := by
  cases hx : stS' f n v nm o q with
  | inl e => rw [hx] at h; cases h
  | inr Y =>
    rw [hx] at h
    have h : (if kdN f n Y.2.2.2 = 3 then .inr (Y.1, Y.2.1, Y.2.2.1, nxt f n Y.2.2.2) else .inl (1, Y.2.2.2) : QS) = .inr y := h
    obtain ⟨hY, hq⟩ := st_SI hS hx
    by_cases c : kdN f n Y.2.2.2 = 3
    · rw [if_pos c] at h
      have h := Sum.inr.inj h
      subst h
      have hb := nxt_b (f := f) hY.qn
      have h3 := hb.2.2 (by omega)
      exact ⟨⟨hY.inv, hY.big, hY.nms, hY.o8, hb.2.1, hY.zs, hY.zc, hY.z8, hY.pu⟩, by show q < nxt f n Y.2.2.2; omega⟩
    · rw [if_neg c] at h; cases h
theorem txt_SI : ∀ d v nm o q, SI f n v nm o q → n - q ≤ d → ∀ y, txtS f n d v nm o q = .inr y → SI f n y.1 y.2.1 y.2.2.1 y.2.2.2 := by
  intro d
  induction d with
  | zero =>
    intro v nm o q hS _ y h
    have h := Sum.inr.inj h
    subst h; exact hS
  | succ d ih =>
    intro v nm o q hS hd y h
    unfold txtS at h
    by_cases c : kdN f n q = 0
    · rw [if_pos c] at h
      have h := Sum.inr.inj h
      subst h; exact hS
    · rw [if_neg c] at h
      cases hx : semS f n (stS' f n v nm o q) with
      | inl e => rw [hx] at h; cases h
      | inr Y =>
        rw [hx] at h
        have := sem_SI hS hx
        exact ih Y.1 Y.2.1 Y.2.2.1 Y.2.2.2 this.1 (by omega) y h
end TXR
section TXR2
variable {B : Mem} {m : Nat} {g : Nat → Int32} {f : Nat → Nat} {n : Nat} {A : Nat → Nat → Int32} {v nm : Nat → Nat} {q : Nat}
theorem r_stS (h : TXE g A n f) (h15 : g 15 = 0) {o : Nat} (ho : g 21 = nN o) (hS : SI f n v nm o q) : PE B m g f n A (stS' f n v nm o q) (p_X7_readStatement m (RS B m g f n A v nm q)) := by
  have hq := hS.qn
  have hI := hS.inv
  have h0 := hI.h0
  unfold p_X7_readStatement stS'
  rw [RS_b, r_word h hq (by decide), bS]
  by_cases c0 : wdN f n q = some 0
  · rw [← bI_t c0, if_neg n1z, RS_b, if_pos c0]
    exact (r_schoolS h hq h15 ho h0 hS.nms (fun hs => (hS.zs (v 0) (Nat.le_refl _) hs).1)).wr
  rw [← bI_f c0, if_pos z00, RS_b, r_word h hq (by decide), bS, if_neg c0]
  by_cases c1 : wdN f n q = some 1
  · rw [← bI_t c1, if_neg n1z, RS_b, if_pos c1]
    exact (r_zoneS h hq h15 ho h0 hS.nms (fun s hs => by have := (hI.2.1 s hs).2.2.2.2; omega)).wr
  rw [← bI_f c1, if_pos z00, RS_b, r_word h hq (by decide), bS, if_neg c1]
  by_cases c2 : wdN f n q = some 2
  · rw [← bI_t c2, if_neg n1z, RS_b, if_pos c2]
    exact (r_pupil h hq h15 ho h0 hI.h2 hS.nms).wr
  rw [← bI_f c2, if_pos z00, RS_b, r_word h hq (by decide), bS, if_neg c2]
  by_cases c3 : wdN f n q = some 3
  · rw [← bI_t c3, if_neg n1z, RS_b, if_pos c3]
    exact (r_childS h hq h15 ho h0 hI.h1 hS.nms (fun hs => (hS.zc (v 1) (Nat.le_refl _) hs).2.2.1)).wr
  rw [← bI_f c3, if_pos z00, RS_b, r_word h hq (by decide), bS, if_neg c3]
  by_cases c4 : wdN f n q = some 4
  · rw [← bI_t c4, if_neg n1z, RS_b, if_pos c4]
    exact (r_seed h hq h15 ho hS.o8 hI.h1).wr
  rw [← bI_f c4, if_pos z00, RS_b, r_word h hq (by decide), bS, if_neg c4]
  by_cases c5 : wdN f n q = some 5
  · rw [← bI_t c5, if_neg n1z, RS_b, if_pos c5]
    exact r_once (a := 2) (i := 6) (hi := 9) h hq h15 ho hS.o8 (by omega) (by decide) (by decide) (by decide)
  rw [← bI_f c5, if_pos z00, RS_b, r_word h hq (by decide), bS, if_neg c5]
  by_cases c6 : wdN f n q = some 6
  · rw [← bI_t c6, if_neg n1z, RS_b, if_pos c6]
    exact r_once (a := 4) (i := 7) (hi := 1) h hq h15 ho hS.o8 (by omega) (by decide) (by decide) (by decide)
  rw [← bI_f c6, if_pos z00, RS_b, r_f2 h15, if_neg c6]
  exact pe_f rfl
theorem PE.tr {g' : Nat → Int32} (hg : ∀ i, i ≠ 21 → g' i = g i) {x : QS} {r : Option (Int32 × Mem)} (h : PE B m g' f n A x r) : PE B m g f n A x r := by
  cases x with
  | inl e =>
    obtain ⟨g2, v', nm', h1, h2, h3, h4⟩ := h
    exact ⟨g2, v', nm', h1, h2, h3, fun i a b c => (h4 i a b c).trans (hg i c)⟩
  | inr e =>
    obtain ⟨g2, h1, h2, h3⟩ := h
    exact ⟨g2, h1, h2, fun i a => (h3 i a).trans (hg i a)⟩
theorem r_txt : ∀ d g v nm o q fu, TXE g A n f → g 15 = 0 → g 21 = nN o → SI f n v nm o q → n - q ≤ d → d < fu → PE B m g f n A (txtS f n d v nm o q) (pl_X7_readText_0 (fun M11 => some ((0 : Int32), M11)) (fun M12 => Option.bind (isC 6 M12 m) fun _ => ob2 (p_X7_failsAt m (1 : Int32) M12) fun v14 M15 => if v14 = 0 ∨ v14 = 1 then some (v14, M15) else none) (fun M16 => some ((1 : Int32), M16)) m fu (RS B m g f n A v nm q)) := by
  intro d
  induction d with
  | zero =>
    intro g v nm o q fu h h15 ho hS hd hf
    obtain ⟨F, rfl⟩ : ∃ F, fu = F + 1 := ⟨fu - 1, by omega⟩
    have hk : kdN f n q = 0 := kdN_0.mpr (by omega)
    rw [pl_X7_readText_0, RS_20, bS, hk, if_pos z00]
    exact pe_ok ho
  | succ d ih =>
    intro g v nm o q fu h h15 ho hS hd hf
    obtain ⟨F, rfl⟩ : ∃ F, fu = F + 1 := ⟨fu - 1, by omega⟩
    have h4 := kdN_4 (f := f) (n := n) (st := q)
    rw [pl_X7_readText_0, RS_20, bS]
    unfold txtS
    by_cases c : kdN f n q = 0
    · rw [if_pos c, c, if_pos z00]
      exact pe_ok ho
    · rw [if_neg c, if_neg (show ¬ nN (kdN f n q) = (0 : Int32) from neq_f (b := 0) (by omega) (by omega) c), RS_b]
      have hr := r_stS (B := B) (m := m) h h15 ho hS
      cases hx : stS' f n v nm o q with
      | inl e =>
        rw [hx] at hr
        obtain ⟨g', v', nm', w1, w2⟩ := hr
        rw [w1, ob2_def, if_pos rfl]
        exact ⟨g', v', nm', rfl, w2⟩
      | inr Y =>
        rw [hx] at hr
        obtain ⟨g', w1, w2, w3⟩ := hr
        obtain ⟨hY, hqY⟩ := st_SI hS hx
        have hk4 := kdN_4 (f := f) (n := n) (st := Y.2.2.2)
        have h' : TXE g' A n f := ⟨(w3 12 (by omega)).trans h.1, h.2⟩
        have h15' : g' 15 = 0 := (w3 15 (by omega)).trans h15
        refine PE.tr w3 ?_
        rw [w1]
        show PE B m g' f n A (match (if kdN f n Y.2.2.2 = 3 then .inr (Y.1, Y.2.1, Y.2.2.1, nxt f n Y.2.2.2) else .inl (1, Y.2.2.2) : QS) with | .inl e => .inl e | .inr y => txtS f n d y.1 y.2.1 y.2.2.1 y.2.2.2) (ob2 (some ((1 : Int32), RS B m g' f n A Y.1 Y.2.1 Y.2.2.2)) _)
        rw [ob2_def, if_neg i10, RS_20, bS]
        by_cases c3 : kdN f n Y.2.2.2 = 3
        · have hb := nxt_b (f := f) hY.qn
          have hlt := hb.2.2 (by omega)
          rw [if_pos c3, if_pos (show nN (kdN f n Y.2.2.2) = (3 : Int32) by rw [c3]; rfl), RS_b, RS_adv h' hY.qn, bS]
          exact ih g' Y.1 Y.2.1 Y.2.2.1 (nxt f n Y.2.2.2) F h' h15' w2 ⟨hY.inv, hY.big, hY.nms, hY.o8, hb.2.1, hY.zs, hY.zc, hY.z8, hY.pu⟩ (by omega) (by omega)
        · rw [if_neg c3, if_neg (show ¬ nN (kdN f n Y.2.2.2) = (3 : Int32) from neq_f (b := 3) (by omega) (by omega) c3), RS_b, r_f2 h15']
          exact pe_f rfl
end TXR2
