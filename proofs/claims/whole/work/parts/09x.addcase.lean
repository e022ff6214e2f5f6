/-! addChild: the case -/
section AX1
theorem r99 (x : Int32) : ((∀ N, p_X7_inRange x (0 : Int32) (99 : Int32) N = some (nN 0)) ∧ (x < 0 ∨ (¬ x < 0 ∧ (99 : Int32) < x ∧ ¬ x ≤ (99 : Int32)))) ∨ ∃ j, j < 100 ∧ x = nN j := by
  have h99 : (99 : Int32).toInt = 99 := rfl
  have h100 : (nN 100).toInt = 100 := rfl
  have h0 : (0 : Int32).toInt = 0 := rfl
  rcases ixN x (n := 100) (by omega) with h | h | ⟨j, hj, hx⟩
  · exact Or.inl ⟨fun N => rng_out2 (n := 99) (by omega) (Or.inl h), Or.inl h⟩
  · refine Or.inl ⟨fun N => rng_out2 (n := 99) (by omega) (Or.inr h), Or.inr ?_⟩
    rw [i_le] at h
    rw [i_lt, i_lt, i_le, h99, h0]
    omega
  · exact Or.inr ⟨j, hj, hx⟩
theorem r99i {j : Nat} (hj : j < 100) {N : Mem} : p_X7_inRange (nN j) (0 : Int32) (99 : Int32) N = some (nN 1) := rng_in2 (n := 99) (by omega) (by omega)
theorem nh_ok {x y : Nat} {M : Mem} (hx : x < 100) (hy : y < 100) : p_X6_needHome (nN x) (nN y) M = some (.inl ()) := by
  unfold p_X6_needHome
  rw [if_neg (nN_neg0 (by omega)), if_neg (show ¬ (99 : Int32) < nN x from nlt_f (a := 99) (by omega) (by omega) (by omega)), if_neg (nN_neg0 (by omega)), if_pos (show nN y ≤ (99 : Int32) from nle_t (b := 99) (by omega) (by omega) (by omega))]
theorem nh_x {x y : Int32} {M : Mem} (hx : x < 0 ∨ (¬ x < 0 ∧ (99 : Int32) < x ∧ ¬ x ≤ (99 : Int32))) : p_X6_needHome x y M = some (.inr "java/lang/IllegalArgumentException") := by
  unfold p_X6_needHome
  rcases hx with h | ⟨h1, h2, -⟩
  · rw [if_pos h]
  · rw [if_neg h1, if_pos h2]
theorem nh_y {x : Nat} {y : Int32} {M : Mem} (hx : x < 100) (hy : y < 0 ∨ (¬ y < 0 ∧ (99 : Int32) < y ∧ ¬ y ≤ (99 : Int32))) : p_X6_needHome (nN x) y M = some (.inr "java/lang/IllegalArgumentException") := by
  unfold p_X6_needHome
  rw [if_neg (nN_neg0 (by omega)), if_neg (show ¬ (99 : Int32) < nN x from nlt_f (a := 99) (by omega) (by omega) (by omega))]
  rcases hy with h | ⟨h1, -, h3⟩
  · rw [if_pos h]
  · rw [if_neg h1, if_neg h3]
theorem r9999 (x : Int32) : (x < (1 : Int32) ∨ (¬ x < (1 : Int32) ∧ ¬ x ≤ (9999 : Int32))) ∨ ∃ D, (1 ≤ D ∧ D ≤ 9999) ∧ x = nN D := by
  have h1 : (1 : Int32).toInt = 1 := rfl
  have h0 : (0 : Int32).toInt = 0 := rfl
  have h9 : (9999 : Int32).toInt = 9999 := rfl
  have h10 : (nN 10000).toInt = 10000 := rfl
  rcases ixN x (n := 10000) (by omega) with h | h | ⟨j, hj, hx⟩
  · refine Or.inl (Or.inl ?_)
    rw [i_lt] at h ⊢
    omega
  · refine Or.inl (Or.inr ⟨?_, ?_⟩)
    · rw [i_le] at h; rw [i_lt]; omega
    · rw [i_le] at h; rw [i_le]; omega
  · by_cases e : j = 0
    · subst e; subst hx; exact Or.inl (Or.inl (by decide))
    · exact Or.inr ⟨j, ⟨by omega, by omega⟩, hx⟩
variable {B : Mem} {m : Nat} {g : Nat → Int32} {a : Nat → Nat → Int32}
theorem e_add_x {x1 x2 x3 x4 x5 : Int32} (h : ((∀ N, p_X7_inRange x1 (0 : Int32) (99 : Int32) N = some (nN 0)) ∨ ((∀ N, p_X7_inRange x1 (0 : Int32) (99 : Int32) N = some (nN 1)) ∧ ((∀ N, p_X7_inRange x2 (0 : Int32) (99 : Int32) N = some (nN 0)) ∨ ((∀ N, p_X7_inRange x2 (0 : Int32) (99 : Int32) N = some (nN 1)) ∧ ((∀ N, p_X7_inRange x3 (0 : Int32) (99 : Int32) N = some (nN 0)) ∨ ((∀ N, p_X7_inRange x3 (0 : Int32) (99 : Int32) N = some (nN 1)) ∧ p_X7_areWishes m x5 (ovl B m (upd g 9 (nN 0)) a) = some (0 : Int32)))))))) : ∃ y, p_X7_addChild m x1 x2 x3 x4 x5 (ovl B m g a) = some (y, ovl B m (upd g 9 (nN 1)) a) := by
  refine ⟨0, ?_⟩
  unfold p_X7_addChild
  have n10 : ¬ nN 1 = (0 : Int32) := by decide
  have n00 : nN 0 = (0 : Int32) := rfl
  rcases h with h | ⟨h1, h | ⟨h2, h | ⟨h3, h⟩⟩⟩
  · rw [op_9, bS, h, bS, jn_def, if_pos n00]
    show jn _ _ = _
    rw [jn_def, if_pos rfl]
    show Option.bind (isC 6 _ _) _ = _
    rw [oc, bS, fa1, ob2_def, if_neg (by decide), upd_2]
    rfl
  · rw [op_9, bS, h1, bS, jn_def, if_neg n10, h, bS, if_pos n00]
    show jn _ _ = _
    rw [jn_def, if_pos rfl]
    show Option.bind (isC 6 _ _) _ = _
    rw [oc, bS, fa1, ob2_def, if_neg (by decide), upd_2]
    rfl
  · rw [op_9, bS, h1, bS, jn_def, if_neg n10, h2, bS, if_neg n10, h, bS, if_pos n00]
    show jn _ _ = _
    rw [jn_def, if_pos rfl]
    show Option.bind (isC 6 _ _) _ = _
    rw [oc, bS, fa1, ob2_def, if_neg (by decide), upd_2]
    rfl
  · rw [op_9, bS, h1, bS, jn_def, if_neg n10, h2, bS, if_neg n10, h3, bS, if_neg n10, oc, bS]
    rw [show p_X7_areWishes m x5 (ovl B m (upd g 9 (0 : Int32)) a) = some (0 : Int32) from h, bS, if_pos rfl]
    show jn _ _ = _
    rw [jn_def, if_pos rfl]
    show Option.bind (some ()) _ = _
    rw [bS, fa1, ob2_def, if_neg (by decide), upd_2]
    rfl
end AX1
section AX2
variable {z : Nat} {M : Mem} {v : Nat → Nat} {pl : Nat → Option Nat} {nm : Nat → Nat} {H : Nat → rowT} {n sv : Nat} {S : rowT} {inp : Nat → Nat} {len ec : Nat} {eo : Int32} {out : Nat → Nat} {ol : Nat}
theorem ch_addChild (hP : PUR v pl nm H n sv S inp len out ol) (hC : CL0 z (rst M z) v pl nm H n sv S inp len ec eo out ol) (x1 x2 x3 x5 : Int32) {cr : Nat} (hcr : cr ≤ 1) : CG z M v pl nm H n sv S inp len ec eo out ol "java/lang/IllegalArgumentException" "java/lang/IllegalStateException" (p_X6_addChild z x1 x2 x3 (nN cr) x5 M) (fun M => p_X7_addChild (z + 180) x1 x2 x3 (nN cr) x5 M) := by
  have hI : Inv v pl := hP.1.1
  obtain ⟨hX, r, b, t, tb, g, h, ar, u, ta, hM, hr, hG, hR, hT, -⟩ := cl_qry hI hC
  have hb := hI.hb; have h0 := hI.h0; have h1 := hI.h1; have h2 := hI.h2; have h7 := hI.h7; have h8 := hI.h8
  have f0 : gR 2 0 M r = some t := by rw [hM]; exact fv_0
  have f1 : gI 2 1 M r = some (nN (v 1)) := by rw [hM, fv_1, hR.g1]
  have f4 : gI 4 0 M t = some (nN (v 0)) := by rw [hM, ft_0 hG, hT.u0]
  rcases r99 x1 with ⟨k1, k2⟩ | ⟨x, hx, rfl⟩
  · refine Or.inr (Or.inl ⟨?_, fun B g a => e_add_x (Or.inl k1)⟩)
    unfold p_X6_addChild; rw [nh_x k2, obx_r]
  have i1 : ∀ N, p_X7_inRange (nN x) (0 : Int32) (99 : Int32) N = some (nN 1) := fun N => r99i hx
  rcases r99 x2 with ⟨k1, k2⟩ | ⟨y, hy, rfl⟩
  · refine Or.inr (Or.inl ⟨?_, fun B g a => e_add_x (Or.inr ⟨i1, Or.inl k1⟩)⟩)
    unfold p_X6_addChild; rw [nh_y hx k2, obx_r]
  have i2 : ∀ N, p_X7_inRange (nN y) (0 : Int32) (99 : Int32) N = some (nN 1) := fun N => r99i hy
  rcases r99 x3 with ⟨k1, k2⟩ | ⟨f, hf, rfl⟩
  · refine Or.inr (Or.inl ⟨?_, fun B g a => e_add_x (Or.inr ⟨i1, Or.inr ⟨i2, Or.inl k1⟩⟩)⟩)
    unfold p_X6_addChild
    rw [nh_ok hx hy, obx_l]
    rcases k2 with h | ⟨h1, -, h3⟩
    · rw [if_pos h]
    · rw [if_neg h1, if_neg h3]
  have i3 : ∀ N, p_X7_inRange (nN f) (0 : Int32) (99 : Int32) N = some (nN 1) := fun N => r99i hf
  have n3 : ¬ nN f < (0 : Int32) := nN_neg0 (by omega)
  have n4 : nN f ≤ (99 : Int32) := nle_t (b := 99) (by omega) (by omega) (by omega)
  rcases r9999 x5 with k | ⟨D, hD, rfl⟩
  · refine Or.inr (Or.inl ⟨?_, fun B g a => e_add_x (Or.inr ⟨i1, Or.inr ⟨i2, Or.inr ⟨i3, e_areWishes_o k⟩⟩⟩)⟩)
    unfold p_X6_addChild
    rw [nh_ok hx hy, obx_l, if_neg n3, if_pos n4, hX, bS, c_wishRow_o k, bS, if_pos rfl]
  obtain ⟨w1, w2⟩ := c_wishRow hr f0 f4 h0 hD
  by_cases hok : okK (v 0) D (dgs D)
  rotate_left
  · refine Or.inr (Or.inl ⟨?_, fun B g a => e_add_x (Or.inr ⟨i1, Or.inr ⟨i2, Or.inr ⟨i3, (e_areWishes hI hD).2 hok⟩⟩⟩)⟩)
    unfold p_X6_addChild
    rw [nh_ok hx hy, obx_l, if_neg n3, if_pos n4, hX, bS, w2 hok, bS, if_pos rfl]
  have hm := dgs_r D
  have hdw : ∀ i, i < dgs D → dw D i < v 0 := fun i hi => by
    have := (hok (dgs D - 1 - i) (by omega)).1
    unfold dw
    omega
  have hdj : ∀ i j, i < dgs D → j < dgs D → dw D i = dw D j → i = j := fun i j hi hj hij => by
    unfold dw at hij
    have q1 := (hok (dgs D - 1 - i) (by omega)).1
    have q2 := (hok (dgs D - 1 - j) (by omega)).1
    have e : dlo D (dgs D - 1 - i) = dlo D (dgs D - 1 - j) := by omega
    rcases Nat.lt_trichotomy (dgs D - 1 - i) (dgs D - 1 - j) with c | c | c
    · exact absurd e ((hok (dgs D - 1 - j) (by omega)).2 _ c)
    · omega
    · exact absurd e.symm ((hok (dgs D - 1 - i) (by omega)).2 _ c)
  have hrow : rwN (dw D) (dgs D) < 65536 := rw4 hm.2 (fun i hi => by have := hdw i hi; omega)
  have hnr : ¬ nN (rwN (dw D) (dgs D)) = (-1 : Int32) := nNm (by omega)
  by_cases h40 : v 1 = 40
  · refine Or.inr (Or.inr ⟨?_, fun B g a => ⟨0, ?_⟩⟩)
    · unfold p_X6_addChild
      rw [nh_ok hx hy, obx_l, if_neg n3, if_pos n4, hX, bS, w1 hok, bS, if_neg hnr, hr, bS, f1, bS, if_neg (show ¬ nN (v 1) < (40 : Int32) from nlt_f (b := 40) (by omega) (by omega) (by omega))]
    · show p_X7_addChild _ _ _ _ _ _ _ = _
      unfold p_X7_addChild
      have n10 : ¬ nN 1 = (0 : Int32) := by decide
      have eA : p_X7_areWishes (z + 180) (nN D) (ovl B (z + 180) (upd g 9 (0 : Int32)) (up2 a 1 (enc v pl))) = some (1 : Int32) := (e_areWishes hI hD).1 hok
      have e1 : aI 0 (ovl B (z + 180) (upd g 9 (0 : Int32)) (up2 a 1 (enc v pl))) (z + 180 + 1) (1 : Int32) = some (nN (v 1)) := er_v (i := 1) (by omega) (by omega)
      rw [op_9, bS, i1, bS, jn_def, if_neg n10, i2, bS, if_neg n10, i3, bS, if_neg n10, oc, bS, eA, bS, if_neg (by decide)]
      show jn _ _ = _
      rw [jn_def, if_neg (by decide)]
      show Option.bind (some ()) _ = _
      rw [bS, fa0, ob2_def, if_pos rfl, or_0, bS, e1, bS, jn_def, if_pos (show nN (v 1) = (40 : Int32) from by rw [h40]; rfl)]
      show Option.bind (isC 6 _ _) _ = _
      rw [oc, bS, fa1, ob2_def, if_neg (by decide), upd_2]
      rfl
  have hn : v 1 < 40 := by omega
  suffices hcg : ∃ M1, (p_X6_addChild z (nN x) (nN y) (nN f) (nN cr) (nN D) M = some (.inl (nN (v 1), M1))) ∧ CGv z M v pl nm H n sv S inp len ec eo out ol (nN (v 1)) M1 (fun M => p_X7_addChild (z + 180) (nN x) (nN y) (nN f) (nN cr) (nN D) M) by
    obtain ⟨M1, hX1, hV⟩ := hcg
    exact Or.inl ⟨_, _, hX1, hV⟩
  refine cg_in hP hC (v1 := enrV v x y f cr (dw D) (dgs D)) (pl1 := pl) (X := fun M4 => p_X6_addChild z (nN x) (nN y) (nN f) (nN cr) (nN D) M = some (.inl (nN (v 1), M4))) ?_ ?_ ?_ ?_ ?_
  · exact enr_Inv hI hn (by omega) (by omega) (by omega) hcr hm.2 hdw hdj
  · intro i hi; rw [enr_n (by unfold okE; omega)]; exact hP.1.2.1 i hi
  · exact enr_T v x y f cr (dw D) (dgs D) hn hm.2
  · intro M2 r2 b2 t2 tb2 g2 h2' ar2 u2 ta2 hg hG2 hR2 hT2 e
    obtain ⟨g', h', ar', q1, R1⟩ := c_enrol M2 hG2 hR2 hT2 hI (x := x) (y := y) (f := f) (cr := cr) (w := dw D) (m := dgs D) hn hcr hm.2
    refine ⟨g', h', ar', R1, fun M4 f4' => ?_⟩
    unfold p_X6_addChild
    rw [nh_ok hx hy, obx_l, if_neg n3, if_pos n4, hX, bS, w1 hok, bS, if_neg hnr, hr, bS, f1, bS, if_pos (show nN (v 1) < (40 : Int32) from nlt_t (b := 40) (by omega) (by omega) (by omega)), bS, e, bS, (hg _ _ _).1, bS, fv_isC, bS, q1, ob2_def, (hg _ _ _).1, bS, fv_isC, bS, f4', bS]
  · intro B g a g2 a2 e
    refine ⟨g2, a2, fun h => h, rfl, fun M4 f4' => ?_⟩
    show p_X7_addChild _ _ _ _ _ _ _ = _
    unfold p_X7_addChild
    have n10 : ¬ nN 1 = (0 : Int32) := by decide
    have eA : p_X7_areWishes (z + 180) (nN D) (ovl B (z + 180) (upd g 9 (0 : Int32)) (up2 a 1 (enc v pl))) = some (1 : Int32) := (e_areWishes hI hD).1 hok
    have e1 : aI 0 (ovl B (z + 180) (upd g 9 (0 : Int32)) (up2 a 1 (enc v pl))) (z + 180 + 1) (1 : Int32) = some (nN (v 1)) := er_v (i := 1) (by omega) (by omega)
    have e : p_X7_remembers (z + 180) (ovl B (z + 180) (upd g 9 (0 : Int32)) (up2 a 1 (enc v pl))) = some (ovl B (z + 180) g2 (up2 a2 1 (enc v pl))) := e
    have R : ∀ (w : Nat → Nat) i, i < 764 → ¬ (484 ≤ i ∧ i < 524) → aI 0 (ovl B (z + 180) g2 (up2 a2 1 (enc w pl))) (z + 180 + 1) (nN i) = some (nN (w i)) := fun w i h1 h2 => er_v h1 h2
    have W : ∀ (w : Nat → Nat) i (x : Nat), i < 764 → ¬ (484 ≤ i ∧ i < 524) → aIs (ovl B (z + 180) g2 (up2 a2 1 (enc w pl))) (z + 180 + 1) (nN i) (nN x) = some (ovl B (z + 180) g2 (up2 a2 1 (enc (updN w i x) pl))) := fun w i x h1 h2 => ew_v h1 h2
    have pn : pl (v 1) = none := by
      cases hp : pl (v 1) with
      | none => rfl
      | some s => have := (hI.plc _ _ hp).1; omega
    have pu : updO pl (v 1) none = pl := by
      funext k; unfold updO
      by_cases c : k = v 1
      · rw [if_pos c, c, pn]
      · rw [if_neg c]
    have eP : p_X7_puts (z + 180) (nN (v 1)) (-1 : Int32) (0 : Int32) (ovl B (z + 180) g2 (up2 a2 1 (enc (updN (updN (updN (updN (updN (updN (updN v (124 + v 1) x) (164 + v 1) y) (204 + v 1) f) (244 + v 1) cr) (364 + v 1) (v 8)) (404 + v 1) 0) (524 + v 1) 0) pl))) = some (ovl B (z + 180) g2 (up2 a2 1 (enc (vAd v x y f cr) pl))) := by
      have q := e_puts (B := B) (m := z + 180) (g := g2) (a := a2) (v := updN (updN (updN (updN (updN (updN (updN v (124 + v 1) x) (164 + v 1) y) (204 + v 1) f) (244 + v 1) cr) (364 + v 1) (v 8)) (404 + v 1) 0) (524 + v 1) 0) (pl := pl) (c := v 1) (x := 0) (p := none) (by omega)
      rw [pu] at q
      exact q
    have dr := e_draws (B := B) (m := z + 180) (g := g2) (a := a2) (v := wKp (vAd v x y f cr) (v 1) (dw D) (dgs D)) (pl := pl) (c := v 1) hn
    have w11 : wKp (vAd v x y f cr) (v 1) (dw D) (dgs D) 11 = v 11 := by
      unfold wKp vAd
      rw [if_neg (by omega), if_neg (by omega), updN_n (by omega), updN_n (by omega), updN_n (by omega), updN_n (by omega), updN_n (by omega), updN_n (by omega), updN_n (by omega), updN_n (by omega)]
    rw [w11] at dr
    have w1' : updN (updN (wKp (vAd v x y f cr) (v 1) (dw D) (dgs D)) 11 ((v 11 * 1103515245 + 12345) % 2147483648)) (284 + v 1) ((v 11 * 1103515245 + 12345) % 2147483648 / 65536 % 10000) 1 = v 1 := by
      rw [updN_n (by omega), updN_n (by omega)]
      unfold wKp vAd
      rw [if_neg (by omega), if_neg (by omega), updN_n (by omega), updN_n (by omega), updN_n (by omega), updN_n (by omega), updN_n (by omega), updN_n (by omega), updN_n (by omega), updN_n (by omega)]
    have q216 := e216 (m := z + 180) hD (fun z44 => Option.bind (gR 6 0 (ovl B (z + 180) g2 (up2 a2 1 (enc (vAd v x y f cr) pl))) (z + 180)) fun v45 => Option.bind (aIs (ovl B (z + 180) g2 (up2 a2 1 (enc (vAd v x y f cr) pl))) v45 ((324 : Int32) + nN (v 1)) (0 : Int32)) fun M46 => pl_X7_addChild_248 (fun M55 => Option.bind (isC 6 M55 (z + 180)) fun _ => Option.bind (p_X7_draws (z + 180) (nN (v 1)) M55) fun M57 => Option.bind (gR 6 0 M57 (z + 180)) fun v58 => Option.bind (aI 0 M57 v58 (1 : Int32)) fun v59 => Option.bind (aIs M57 v58 (1 : Int32) (v59 + (1 : Int32))) fun M60 => Option.bind (isC 6 M60 (z + 180)) fun _ => Option.bind (p_X7_fills (z + 180) M60) fun M62 => some (nN (v 1), M62)) (z + 180) (nN D) (nN (v 1)) FU z44 M46) (nN (v 1)) (ovl B (z + 180) g2 (up2 a2 1 (enc (vAd v x y f cr) pl))) (dgs D - 1) 0 FU (by omega) (FU_pos (by omega))
    have q248 := e248 (B := B) (m := z + 180) (g := g2) (a := a2) (pl := pl) (c := v 1) (vB := vAd v x y f cr) hD (fun i hi => (hok i hi).1.1) hn (fun M55 => Option.bind (isC 6 M55 (z + 180)) fun _ => Option.bind (p_X7_draws (z + 180) (nN (v 1)) M55) fun M57 => Option.bind (gR 6 0 M57 (z + 180)) fun v58 => Option.bind (aI 0 M57 v58 (1 : Int32)) fun v59 => Option.bind (aIs M57 v58 (1 : Int32) (v59 + (1 : Int32))) fun M60 => Option.bind (isC 6 M60 (z + 180)) fun _ => Option.bind (p_X7_fills (z + 180) M60) fun M62 => some (nN (v 1), M62)) (dgs D) 0 FU (by omega) (FU_pos (by omega))
    rw [if_pos (by omega), Nat.sub_zero, ← wKp_0] at q248
    have k1 : ∀ w : Nat → Nat, aIs (ovl B (z + 180) g2 (up2 a2 1 (enc w pl))) (z + 180 + 1) ((324 : Int32) + nN (v 1)) (0 : Int32) = some (ovl B (z + 180) g2 (up2 a2 1 (enc (updN w (324 + v 1) 0) pl))) := fun w => by
      rw [show (324 : Int32) + nN (v 1) = nN (324 + v 1) from nN_add 324 _]
      exact W w (324 + v 1) 0 (by omega) (by omega)
    have s1 : aI 0 (ovl B (z + 180) g2 (up2 a2 1 (enc v pl))) (z + 180 + 1) (1 : Int32) = some (nN (v 1)) := R v 1 (by omega) (by omega)
    have s8 : aI 0 (ovl B (z + 180) g2 (up2 a2 1 (enc (updN (updN (updN (updN v (124 + v 1) x) (164 + v 1) y) (204 + v 1) f) (244 + v 1) cr) pl))) (z + 180 + 1) (8 : Int32) = some (nN (v 8)) := (R _ 8 (by omega) (by omega)).trans (by rw [updN_n (by omega), updN_n (by omega), updN_n (by omega), updN_n (by omega)])
    have s4 : ∀ w : Nat → Nat, aIs (ovl B (z + 180) g2 (up2 a2 1 (enc w pl))) (z + 180 + 1) (nN (404 + v 1)) (0 : Int32) = some (ovl B (z + 180) g2 (up2 a2 1 (enc (updN w (404 + v 1) 0) pl))) := fun w => W w _ 0 (by omega) (by omega)
    have s5 : ∀ w : Nat → Nat, aIs (ovl B (z + 180) g2 (up2 a2 1 (enc w pl))) (z + 180 + 1) (nN (524 + v 1)) (0 : Int32) = some (ovl B (z + 180) g2 (up2 a2 1 (enc (updN w (524 + v 1) 0) pl))) := fun w => W w _ 0 (by omega) (by omega)
    have scr : (if nN cr = (0 : Int32) then (0 : Int32) else 1) = nN cr := by
      rcases Nat.le_one_iff_eq_zero_or_eq_one.mp hcr with e | e
      · subst e; rfl
      · subst e; rfl
    have fin : Option.bind (gR 6 0 (ovl B (z + 180) g2 (up2 a2 1 (enc (vAd v x y f cr) pl))) (z + 180)) (fun v45 => Option.bind (aIs (ovl B (z + 180) g2 (up2 a2 1 (enc (vAd v x y f cr) pl))) v45 ((324 : Int32) + nN (v 1)) (0 : Int32)) fun M46 => pl_X7_addChild_248 (fun M55 => Option.bind (isC 6 M55 (z + 180)) fun _ => Option.bind (p_X7_draws (z + 180) (nN (v 1)) M55) fun M57 => Option.bind (gR 6 0 M57 (z + 180)) fun v58 => Option.bind (aI 0 M57 v58 (1 : Int32)) fun v59 => Option.bind (aIs M57 v58 (1 : Int32) (v59 + (1 : Int32))) fun M60 => Option.bind (isC 6 M60 (z + 180)) fun _ => Option.bind (p_X7_fills (z + 180) M60) fun M62 => some (nN (v 1), M62)) (z + 180) (nN D) (nN (v 1)) FU (nN (10 ^ (dgs D - 1))) M46) = some (nN (v 1), M4) := by
      rw [or_0, bS, k1, bS]
      refine q248.trans ?_
      show Option.bind (isC 6 _ (z + 180)) _ = _
      rw [oc, bS, dr, bS, or_0, bS]
      have t1 : ∀ w : Nat → Nat, w 1 = v 1 → aI 0 (ovl B (z + 180) g2 (up2 a2 1 (enc w pl))) (z + 180 + 1) (1 : Int32) = some (nN (v 1)) := fun w hw => (R w 1 (by omega) (by omega)).trans (by rw [hw])
      have t2 : ∀ w : Nat → Nat, aIs (ovl B (z + 180) g2 (up2 a2 1 (enc w pl))) (z + 180 + 1) (1 : Int32) (nN (v 1 + 1)) = some (ovl B (z + 180) g2 (up2 a2 1 (enc (updN w 1 (v 1 + 1)) pl))) := fun w => W w 1 _ (by omega) (by omega)
      rw [t1 _ w1', bS, show nN (v 1) + (1 : Int32) = nN (v 1 + 1) from nN_add _ 1, t2, bS, oc, bS, enr_eq hn hm.2, f4', bS]
    rw [op_9, bS, i1, bS, jn_def, if_neg n10, i2, bS, if_neg n10, i3, bS, if_neg n10, oc, bS, eA, bS, if_neg (by decide)]
    show jn _ _ = _
    rw [jn_def, if_neg (by decide)]
    show Option.bind (some ()) _ = _
    rw [bS, fa0, ob2_def, if_pos rfl, or_0, bS, e1, bS, jn_def, if_neg (show ¬ nN (v 1) = (40 : Int32) from neq_f (b := 40) (by omega) (by omega) h40)]
    show Option.bind (isC 6 _ _) _ = _
    rw [oc, bS, fa0, ob2_def, if_pos rfl, oc, bS, e, bS, or_0, bS, s1, bS, bS]
    rw [show (124 : Int32) + nN (v 1) = nN (124 + v 1) from nN_add 124 _, W _ _ _ (by omega) (by omega), bS, or_0, bS, show (164 : Int32) + nN (v 1) = nN (164 + v 1) from nN_add 164 _, W _ _ _ (by omega) (by omega), bS, or_0, bS, show (204 : Int32) + nN (v 1) = nN (204 + v 1) from nN_add 204 _, W _ _ _ (by omega) (by omega), bS, or_0, bS, jn_def]
    have tail : ∀ s30 : Int32, s30 = nN cr → (Option.bind (aIs (ovl B (z + 180) g2 (up2 a2 1 (enc (updN (updN (updN v (124 + v 1) x) (164 + v 1) y) (204 + v 1) f) pl))) (z + 180 + 1) ((244 : Int32) + nN (v 1)) s30) fun M32 => Option.bind (gR 6 0 M32 (z + 180)) fun v33 => Option.bind (gR 6 0 M32 (z + 180)) fun v34 => Option.bind (aI 0 M32 v34 (8 : Int32)) fun v35 => Option.bind (aIs M32 v33 ((364 : Int32) + nN (v 1)) v35) fun M36 => Option.bind (gR 6 0 M36 (z + 180)) fun v37 => Option.bind (aIs M36 v37 ((404 : Int32) + nN (v 1)) (0 : Int32)) fun M38 => Option.bind (gR 6 0 M38 (z + 180)) fun v39 => Option.bind (aIs M38 v39 ((524 : Int32) + nN (v 1)) (0 : Int32)) fun M40 => Option.bind (isC 6 M40 (z + 180)) fun _ => Option.bind (p_X7_puts (z + 180) (nN (v 1)) (-1 : Int32) (0 : Int32) M40) fun M42 => pl_X7_addChild_216 (fun z44 => Option.bind (gR 6 0 M42 (z + 180)) fun v45 => Option.bind (aIs M42 v45 ((324 : Int32) + nN (v 1)) (0 : Int32)) fun M46 => pl_X7_addChild_248 (fun M55 => Option.bind (isC 6 M55 (z + 180)) fun _ => Option.bind (p_X7_draws (z + 180) (nN (v 1)) M55) fun M57 => Option.bind (gR 6 0 M57 (z + 180)) fun v58 => Option.bind (aI 0 M57 v58 (1 : Int32)) fun v59 => Option.bind (aIs M57 v58 (1 : Int32) (v59 + (1 : Int32))) fun M60 => Option.bind (isC 6 M60 (z + 180)) fun _ => Option.bind (p_X7_fills (z + 180) M60) fun M62 => some (nN (v 1), M62)) (z + 180) (nN D) (nN (v 1)) FU z44 M46) (z + 180) (nN D) (nN (v 1)) M42 FU (1 : Int32)) = some (nN (v 1), M4) := fun s30 hs => by
      rw [hs, show (244 : Int32) + nN (v 1) = nN (244 + v 1) from nN_add 244 _, W _ _ _ (by omega) (by omega), bS, or_0, bS, bS, s8, bS, show (364 : Int32) + nN (v 1) = nN (364 + v 1) from nN_add 364 _, W _ _ _ (by omega) (by omega), bS, or_0, bS, show (404 : Int32) + nN (v 1) = nN (404 + v 1) from nN_add 404 _, s4, bS, or_0, bS, show (524 : Int32) + nN (v 1) = nN (524 + v 1) from nN_add 524 _, s5, bS, oc, bS, eP, bS]
      exact q216.trans fin
    by_cases c0 : cr = 0
    · rw [if_pos (show nN cr = (0 : Int32) from by rw [c0]; rfl)]
      exact tail 0 (by rw [c0]; rfl)
    · rw [if_neg (show ¬ nN cr = (0 : Int32) from neq_f (b := 0) (by omega) (by omega) c0)]
      exact tail 1 (by rw [show cr = 1 by omega]; rfl)
end AX2
section KAX
variable {L : Nat} {xs : Nat → Int32} {i0 : Int32} {x : Nat → Int32} {z : Nat} {M : Mem}
theorem k_23 (hO : OFF z M) (hx : xIs L xs i0 x) : ∃ M', pk_23 L xs z (z + 180) (z + 194) (z + 195) i0 M = some M' ∧ OFF z M' := by
  obtain ⟨-, hx1, hx2, hx3, hx4, hx5⟩ := hx
  obtain ⟨v, pl, nm, H, n, sv, S, inp, len, ec, eo, out, ol, hP, hC, hX, hX6, hV, hE⟩ := off_w hO
  have key : ∀ s : Int32, (s = 0 ∨ s = 1) → ∃ M', (ob2 (p_L_addChild z (x 1) (x 2) (x 3) s (x 5) (z + 194) M) fun v8 M9 => Option.bind (isC 6 M9 (z + 180)) fun _ => ob2 (p_X7_addChild (z + 180) (x 1) (x 2) (x 3) s (x 5) M9) fun v18 M19 => Option.bind (isC 6 M19 (z + 180)) fun _ => Option.bind (p_X7_thrown (z + 180) M19) fun v21 => if v21 = v8 then (if v8 = 0 then (Option.bind (aL M19 (z + 194) (0 : Int32)) fun v24 => if (lg_cmp v24 (Int32.toInt64 v18)) = 0 then some M19 else none) else some M19) else none) = some M' ∧ OFF z M' := fun s hs => by
    obtain ⟨cr, hcr, es⟩ : ∃ cr, cr ≤ 1 ∧ s = nN cr := by
      rcases hs with h | h
      · exact ⟨0, by omega, h⟩
      · exact ⟨1, by omega, h⟩
    rw [es]
    rcases ch_addChild hP hC (x 1) (x 2) (x 3) (x 5) hcr with ⟨val, M1, e6, hv⟩ | ⟨e6, hv⟩ | ⟨e6, hv⟩
    · obtain ⟨⟨f0, hod⟩, hq⟩ := hV val M1 _ hv
      obtain ⟨o1, M2, o2, o3, o4, o5, o6⟩ := hq (vp_updL f0 0 (Int32.toInt64 val))
      refine ⟨M2, ?_, o3⟩
      have el : p_L_addChild z (x 1) (x 2) (x 3) (nN cr) (x 5) (z + 194) M = some (0, upM M1 (z + 194) (.inl (2, 1, .inr (.inl (vp_updL f0 0 (Int32.toInt64 val)))))) := by
        unfold p_L_addChild
        rw [hX, bS, e6, ctc2_l, aLs_od hod, bS]
      have eL := aL_od o6
      simp only [bS, el, ob2_def, o1, o2, o4, o5, eq_self, if_true, eL, lgc_self]
    · obtain ⟨y, M2, o2, o3, o4, o5⟩ := hE 1 _ hv
      refine ⟨M2, ?_, o3⟩
      have el : p_L_addChild z (x 1) (x 2) (x 3) (nN cr) (x 5) (z + 194) M = some (nN 1, M) := by
        unfold p_L_addChild
        rw [hX, bS, e6, ctc2_r, if_pos rfl]
        rfl
      simp only [bS, el, ob2_def, hX6, o2, o4, o5, eq_self, if_true]
      rw [if_neg (by decide)]
    · obtain ⟨y, M2, o2, o3, o4, o5⟩ := hE 2 _ hv
      refine ⟨M2, ?_, o3⟩
      have el : p_L_addChild z (x 1) (x 2) (x 3) (nN cr) (x 5) (z + 194) M = some (nN 2, M) := by
        unfold p_L_addChild
        rw [hX, bS, e6, ctc2_r, if_neg (by decide), if_pos rfl]
        rfl
      simp only [bS, el, ob2_def, hX6, o2, o4, o5, eq_self, if_true]
      rw [if_neg (by decide)]
  unfold pk_23
  simp only [hx1, hx2, hx3, hx4, hx5, bS, jn_def]
  by_cases c : x 4 = 0
  · simp only [if_pos c]
    exact key 0 (Or.inl rfl)
  · simp only [if_neg c]
    exact key 1 (Or.inr rfl)
end KAX
