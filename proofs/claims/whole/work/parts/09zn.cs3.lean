/-! the setup text: the class's zones, pupils and schools -/
section UPU
variable {ta : Nat → Nat → Int32} {j s j' i : Nat} {x : Int32} {F : Nat → Int32}
def uU (ta : Nat → Nat → Int32) (j s : Nat) (x : Int32) : Nat → Nat → Int32 := up2 ta j (upd (ta j) s x)
theorem uu_o (hi : i ≠ s) : uU ta j s x j' i = ta j' i := by
  unfold uU up2
  by_cases c : j' = j
  · rw [if_pos c, c]; exact if_neg hi
  · rw [if_neg c]
theorem uu_s : uU ta j s x j s = x := by
  unfold uU up2
  rw [if_pos rfl]; exact if_pos rfl
theorem uu_n (h : j' ≠ j) : uU ta j s x j' i = ta j' i := by
  unfold uU up2; rw [if_neg h]
theorem hasP_i {v : Nat → Nat} {f s : Nat} : hasP v f s = true ↔ ∃ k, k < v 2 ∧ v (724 + 2 * k) = f ∧ v (724 + 2 * k + 1) = s := by
  unfold hasP
  cases h : fnd (fun k => v (724 + 2 * k) = f ∧ v (724 + 2 * k + 1) = s) 0 (v 2) with
  | none => exact ⟨fun w => (by cases w), fun ⟨k, k1, k2⟩ => absurd k2 (fnd_none h k (Nat.zero_le _) (by omega))⟩
  | some k =>
    obtain ⟨_, b, c, _⟩ := fnd_some h
    exact ⟨fun _ => ⟨k, by omega, c⟩, fun _ => rfl⟩
theorem shl8 : ∀ s : Fin 8, (1 : Int32) <<< (nN s.val &&& 31) = nN (2 ^ s.val) := by decide +kernel
end UPU
section CS3
variable {Z : gZ} {f : Nat → Nat} {n : Nat} {B : Mem} {rr br tr tb a t2 : Nat} {g : Nat → Int32} {h : Nat → Int64} {ar : Nat → Nat → Int32} {u : Nat → Int32} {ta : Nat → Nat → Int32} {er eo b5 b6 b7 : Int32} {q : Nat}
theorem cs_isZ (hC : CH Z f n B rr br tr tb a t2) {s : Nat} (hs : s < 8) : p_X4_isZoned tr (nN s) (CS Z f n B rr br tr tb a t2 g h ar u ta er eo b5 b6 b7 q) = some (if ta 7 s = -1 then 0 else 1) := by
  unfold p_X4_isZoned
  rw [cs_sw hC, ft_10 hC.1, bS, fp_7 hC.1, rd_nN hs (by decide), bS]
  by_cases c : ta 7 s = -1
  · rw [if_pos c, if_pos c]
  · rw [if_neg c, if_neg c]
theorem cs_tZ (hC : CH Z f n B rr br tr tb a t2) {s : Nat} (hs : s < 8) (x y z w : Int32) : ∃ ta', p_X4_tellZone tr (nN s) x y z w (CS Z f n B rr br tr tb a t2 g h ar u ta er eo b5 b6 b7 q) = some (CS Z f n B rr br tr tb a t2 g h ar u ta' er eo b5 b6 b7 q) ∧ (ta' 5 s = x ∧ ta' 6 s = y ∧ ta' 7 s = z ∧ ta' 8 s = w) ∧ (∀ j i, i ≠ s → ta' j i = ta j i) ∧ (∀ j i, j < 5 → ta' j i = ta j i) ∧ ∀ i, ta' 9 i = ta 9 i := by
  refine ⟨uU (uU (uU (uU ta 5 s x) 6 s y) 7 s z) 8 s w, ?_, ⟨?_, ?_, ?_, ?_⟩, fun j i hi => ?_, fun j i hj => ?_, fun i => ?_⟩
  · unfold p_X4_tellZone
    rw [cs_sw hC, ft_8 hC.1, bS, fq_5 hC.1, wr_nN hs (by decide), Option.map_some, bS, ft_9 hC.1, bS, fq_6 hC.1, wr_nN hs (by decide), Option.map_some, bS, ft_10 hC.1, bS, fq_7 hC.1, wr_nN hs (by decide), Option.map_some, bS, ft_11 hC.1, bS, fq_8 hC.1, wr_nN hs (by decide), Option.map_some, bS]
    exact congrArg some (cs_sw hC).symm
  · rw [uu_n (by decide), uu_n (by decide), uu_n (by decide), uu_s]
  · rw [uu_n (by decide), uu_n (by decide), uu_s]
  · rw [uu_n (by decide), uu_s]
  · rw [uu_s]
  · rw [uu_o hi, uu_o hi, uu_o hi, uu_o hi]
  · rw [uu_n (by omega), uu_n (by omega), uu_n (by omega), uu_n (by omega)]
  · rw [uu_n (by decide), uu_n (by decide), uu_n (by decide), uu_n (by decide)]
theorem cs_tP (hC : CH Z f n B rr br tr tb a t2) {s F : Nat} (hs : s < 8) (hF : F < 100) {p c N : Nat} (hp : u 1 = nN p) (hc : ta 4 s = nN c) (hN : ta 9 F = nN N) : ∃ ta', p_X4_tellPupil tr (nN F) (nN s) (CS Z f n B rr br tr tb a t2 g h ar u ta er eo b5 b6 b7 q) = some (CS Z f n B rr br tr tb a t2 g h ar (upd u 1 (nN (p + 1))) ta' er eo b5 b6 b7 q) ∧ ta' 4 s = nN (c + 1) ∧ ta' 9 F = nN (N ||| 2 ^ s) ∧ (∀ j i, j ≠ 4 → j ≠ 9 → ta' j i = ta j i) ∧ (∀ i, i ≠ s → ta' 4 i = ta 4 i) ∧ ∀ i, i ≠ F → ta' 9 i = ta 9 i := by
  have e1 : nN p + (1 : Int32) = nN (p + 1) := nN_add p 1
  have e2 : nN c + (1 : Int32) = nN (c + 1) := nN_add c 1
  have e3 : nN N ||| (1 : Int32) <<< (nN s &&& 31) = nN (N ||| 2 ^ s) := by rw [shl8 ⟨s, hs⟩, orI]
  refine ⟨uU (uU ta 4 s (nN (c + 1))) 9 F (nN (N ||| 2 ^ s)), ?_, ?_, ?_, fun j i hj hj2 => ?_, fun i hi => ?_, fun i hi => ?_⟩
  · have h9 : up2 ta 4 (upd (ta 4) s (nN (c + 1))) 9 F = nN N := hN
    unfold p_X4_tellPupil
    rw [cs_sw hC, ft_1 hC.1, bS, hp, e1, fx_1 hC.1, bS, ft_7 hC.1, bS, fp_4 hC.1, rd_nN hs (by decide), bS, hc, e2, fq_4 hC.1, wr_nN hs (by decide), Option.map_some, bS, ft_12 hC.1, bS, fp_9 hC.1, rd_nN hF (by decide), bS, h9, e3, fq_9 hC.1, wr_nN hF (by decide), Option.map_some, bS]
    exact congrArg some (cs_sw hC).symm
  · rw [uu_n (by decide), uu_s]
  · rw [uu_s]
  · rw [uu_n hj2, uu_n hj]
  · rw [uu_n (by decide), uu_o hi]
  · rw [uu_o hi, uu_n (by decide)]
variable {v nm : Nat → Nat} {o : Nat}
theorem cs_zone (hC : CH Z f n B rr br tr tb a t2) (hS : SI f n v nm o q) (hR : CR g h ar u ta v nm) : PC Z f n B rr br tr tb a t2 eo (semS f n (zoneS f n v nm o q)) (p_X3_readZone Z a (CS Z f n B rr br tr tb a t2 g h ar u ta 0 eo (bO 1 o) (bO 2 o) (bO 4 o) q)) := by
  have hI := hS.inv
  have h0 := hI.h0
  have hx := (nxt_b (f := f) hS.qn).2.1
  have hxx := (nxt_b (f := f) hx).2.1
  unfold p_X3_readZone zoneS
  rw [cs_b, cs_adv hC hS.qn, bS, cs_b]
  refine pc_tld hC hR h0 hS.nms hx (fun M => if_pos rfl) (fun s hs => ?_)
  have hs0 := (fnd_some hs).2.1
  have hs8 : s < 8 := by omega
  have hT := hR.2.1.2.1 s (by omega)
  have hB := hI.2.2.2.2.2.2.2
  rw [if_neg (show ¬ nN s = (-1 : Int32) from nNm (by omega)), cs_4, bS, cs_2_0 hC, bS, cs_4_C hC, bS, cs_isZ hC hs8, bS]
  by_cases c52 : v (52 + s) = 1
  · have e7 := (hT.2.2.2.2.2.1 c52).2.2.1
    have hb2 := hB (92 + 4 * s + 2) (by omega)
    rw [if_pos c52, if_neg (show ¬ (if ta 7 s = -1 then (0 : Int32) else 1) = 0 by rw [if_neg (show ¬ ta 7 s = -1 by rw [e7]; exact nNm (by omega))]; decide), cs_b, cs_fail, bS]
    exact pc_f rfl
  · have e7 := (hT.2.2.2.2.2.2 c52).1
    rw [if_neg c52, if_pos (show (if ta 7 s = -1 then (0 : Int32) else 1) = 0 from if_pos e7), cs_b, cs_adv hC hx, bS, cs_b]
    refine pc_num (lo := 0) (hi := 99) hC hxx (by decide) (by decide) (fun M => rfl) (fun c1 c2 c3 => ?_)
    generalize vlN f n (nxt f n (nxt f n q)) = xa at c2 ⊢
    show PC Z f n B rr br tr tb a t2 eo _ (jn _ _)
    rw [jn_def, if_neg (show ¬ nN xa = (-1 : Int32) from nNm (by omega)), cs_b]
    refine pc_num (lo := 0) (hi := 99) hC c3 (by decide) (by decide) (fun M => rfl) (fun c4 c5 c6 => ?_)
    generalize vlN f n (nxt f n (nxt f n (nxt f n q))) = xb at c5 ⊢
    show PC Z f n B rr br tr tb a t2 eo _ (jn _ _)
    rw [jn_def, if_neg (show ¬ nN xb = (-1 : Int32) from nNm (by omega)), cs_b]
    refine pc_num (hi := 99) hC c6 (by omega) (by decide) (fun M => rfl) (fun c7 c8 c9 => ?_)
    generalize vlN f n (nxt f n (nxt f n (nxt f n (nxt f n q)))) = xc at c8 ⊢
    show PC Z f n B rr br tr tb a t2 eo _ (jn _ _)
    rw [jn_def, if_neg (show ¬ nN xc = (-1 : Int32) from nNm (by omega)), cs_b]
    refine pc_num (hi := 99) hC c9 (by omega) (by decide) (fun M => rfl) (fun c10 c11 c12 => ?_)
    generalize vlN f n (nxt f n (nxt f n (nxt f n (nxt f n (nxt f n q))))) = xd at c11 ⊢
    show PC Z f n B rr br tr tb a t2 eo _ (if _ then _ else _)
    rw [if_neg (show ¬ nN xd = (-1 : Int32) from nNm (by omega)), cs_b]
    refine pc_sem hC c12 (fun M => if_pos rfl) ?_
    obtain ⟨ta', t1, ⟨t5, t6, t7, t8⟩, t9, t10, t11⟩ := cs_tZ (g := g) (h := h) (ar := ar) (u := u) (ta := ta) (er := 0) (eo := eo) (b5 := bO 1 o) (b6 := bO 2 o) (b7 := bO 4 o) (q := nxt f n (nxt f n (nxt f n (nxt f n (nxt f n (nxt f n (nxt f n q))))))) hC hs8 (nN xa) (nN xb) (nN xc) (nN xd)
    show PC Z f n B rr br tr tb a t2 eo _ (if (1 : Int32) = 0 then _ else _)
    rw [if_neg i10, cs_4, bS, cs_2_0 hC, bS, cs_4_C hC, bS, t1, bS]
    refine ⟨_, _, _, _, _, rfl, ?_⟩
    have w : ∀ i, ¬ (i = 52 + s ∨ (92 + 4 * s ≤ i ∧ i < 92 + 4 * s + 4)) → updN (updN (updN (updN (updN v (52 + s) 1) (92 + 4 * s) xa) (92 + 4 * s + 1) xb) (92 + 4 * s + 2) xc) (92 + 4 * s + 3) xd i = v i := fun i h1 => (if_neg (by omega)).trans ((if_neg (by omega)).trans ((if_neg (by omega)).trans ((if_neg (by omega)).trans (if_neg (by omega)))))
    have w52 : updN (updN (updN (updN (updN v (52 + s) 1) (92 + 4 * s) xa) (92 + 4 * s + 1) xb) (92 + 4 * s + 2) xc) (92 + 4 * s + 3) xd (52 + s) = 1 := (if_neg (by omega)).trans ((if_neg (by omega)).trans ((if_neg (by omega)).trans ((if_neg (by omega)).trans (if_pos rfl))))
    have wa : updN (updN (updN (updN (updN v (52 + s) 1) (92 + 4 * s) xa) (92 + 4 * s + 1) xb) (92 + 4 * s + 2) xc) (92 + 4 * s + 3) xd (92 + 4 * s) = xa := (if_neg (by omega)).trans ((if_neg (by omega)).trans ((if_neg (by omega)).trans (if_pos rfl)))
    have wb : updN (updN (updN (updN (updN v (52 + s) 1) (92 + 4 * s) xa) (92 + 4 * s + 1) xb) (92 + 4 * s + 2) xc) (92 + 4 * s + 3) xd (92 + 4 * s + 1) = xb := (if_neg (by omega)).trans ((if_neg (by omega)).trans (if_pos rfl))
    have wc : updN (updN (updN (updN (updN v (52 + s) 1) (92 + 4 * s) xa) (92 + 4 * s + 1) xb) (92 + 4 * s + 2) xc) (92 + 4 * s + 3) xd (92 + 4 * s + 2) = xc := (if_neg (by omega)).trans (if_pos rfl)
    have wd : updN (updN (updN (updN (updN v (52 + s) 1) (92 + 4 * s) xa) (92 + 4 * s + 1) xb) (92 + 4 * s + 2) xc) (92 + 4 * s + 3) xd (92 + 4 * s + 3) = xd := if_pos rfl
    show CR g h ar u ta' (updN (updN (updN (updN (updN v (52 + s) 1) (92 + 4 * s) xa) (92 + 4 * s + 1) xb) (92 + 4 * s + 2) xc) (92 + 4 * s + 3) xd) nm
    generalize updN (updN (updN (updN (updN v (52 + s) 1) (92 + 4 * s) xa) (92 + 4 * s + 1) xb) (92 + 4 * s + 2) xc) (92 + 4 * s + 3) xd = V at w w52 wa wb wc wd ⊢
    have g1 := hR.1.1
    refine ⟨hR.1.tw (w 1 (by omega)) (by rw [w 1 (by omega), w 11 (by omega), w 7 (by omega), w 8 (by omega), w 9 (by omega), w 10 (by omega)]; exact g1) (fun i h1 h2 => w i (by omega)) (fun j _ => rfl) hI.h1 (fun c hc => (hI.2.2.2.1 c (by have := hI.h1; omega)).2.2.2.2.2.1) (fun s2 hs2 => ?_), ⟨?_, fun s2 hs2 => ?_, fun F hF => ?_⟩, fun s2 h1 h2 => hR.2.2 s2 (by rw [w 0 (by omega)] at h1; exact h1) h2⟩
    · rw [w 0 (by omega)] at hs2
      rw [w (20 + s2) (by omega), w (60 + s2) (by omega)]
      exact hR.1.2.2.2 s2 hs2
    · rw [w 0 (by omega), w 2 (by omega), w 6 (by omega)]; exact hR.2.1.1
    · rw [w 0 (by omega)] at hs2
      have hT2 : TS ta v (cdS nm) s2 := hR.2.1.2.1 s2 hs2
      have h44 := (hI.2.1 s2 (by omega)).2.2.2.1
      have hp2 := hI.h2
      by_cases e : s2 = s
      · subst e
        obtain ⟨z0, z1, z2, z3, z4, z5, z6⟩ := hT2
        show TS ta' V (cdS nm) s2
        refine ⟨(t10 0 _ (by omega)).trans z0, ((t10 1 _ (by omega)).trans z1).trans (by rw [w (28 + s2) (by omega)]), ((t10 2 _ (by omega)).trans z2).trans (by rw [w (36 + s2) (by omega)]), ((t10 3 _ (by omega)).trans z3).trans ?_, ((t10 4 _ (by omega)).trans z4).trans ?_, fun _ => ⟨by rw [wa]; exact t5, by rw [wb]; exact t6, by rw [wc]; exact t7, by rw [wd]; exact t8⟩, fun hne => absurd w52 hne⟩
        · rw [w (44 + s2) (by omega)]
          exact congrArg nN (rwN_c (fun i hi => (w (68 + 3 * s2 + i) (by omega)).symm))
        · rw [w 2 (by omega)]
          exact congrArg nN (cnt_c (fun k hk => by rw [w (724 + 2 * k + 1) (by omega)]))
      · exact ts_c hT2 h44 (fun j hj => t9 j s2 e) (fun i hi => w i (by omega)) (w 2 (by omega)) (fun k hk => w _ (by omega)) rfl
    · obtain ⟨N, n1, n2, n3⟩ := hR.2.1.2.2 F hF
      exact ⟨N, n1, (t11 F).trans n2, fun s2 hs2 => by rw [hp_c (w 2 (by omega)) (fun k _ => ⟨w _ (by omega), w _ (by omega)⟩)]; exact n3 s2 hs2⟩
theorem cs_pup (hC : CH Z f n B rr br tr tb a t2) (hS : SI f n v nm o q) (hR : CR g h ar u ta v nm) : PC Z f n B rr br tr tb a t2 eo (semS f n (pupilS f n v nm o q)) (p_X3_readPupil Z a (CS Z f n B rr br tr tb a t2 g h ar u ta 0 eo (bO 1 o) (bO 2 o) (bO 4 o) q)) := by
  have hI := hS.inv
  have h0 := hI.h0
  have h2 := hI.h2
  have hx := (nxt_b (f := f) hS.qn).2.1
  unfold p_X3_readPupil pupilS
  rw [cs_4, bS, cs_2_0 hC, bS, cs_4_1 hC, bS, hR.2.1.u1]
  by_cases c : 20 ≤ v 2
  · rw [if_neg (show ¬ nN (v 2) < (20 : Int32) from nlt_f (b := 20) (by omega) (by omega) (by omega)), if_pos c, cs_b, cs_fail, bS]
    exact pc_f rfl
  · rw [if_pos (show nN (v 2) < (20 : Int32) from nlt_t (b := 20) (by omega) (by omega) (by omega)), if_neg c, cs_b, cs_adv hC hS.qn, bS, cs_b]
    refine pc_num (lo := 1) (hi := 99) hC hx (by decide) (by decide) (fun M => rfl) (fun c1 c2 c3 => ?_)
    generalize vlN f n (nxt f n q) = F at c2 ⊢
    show PC Z f n B rr br tr tb a t2 eo _ (jn _ _)
    rw [jn_def, if_neg (show ¬ nN F = (-1 : Int32) from nNm (by omega)), cs_b]
    unfold schS
    refine pc_tld hC hR h0 hS.nms c3 (fun M => rfl) (fun s hs => ?_)
    have hs0 := (fnd_some hs).2.1
    have hs8 : s < 8 := by omega
    show PC Z f n B rr br tr tb a t2 eo _ (if _ then _ else _)
    rw [if_neg (show ¬ nN s = (-1 : Int32) from nNm (by omega)), cs_b, cs_adv hC c3, bS, cs_b]
    refine pc_sem hC (nxt_b c3).2.1 (fun M => if_pos rfl) ?_
    obtain ⟨N, n1, n2, n3⟩ := hR.2.1.2.2 F (by omega)
    have hT : TS ta v (cdS nm) s := hR.2.1.2.1 s (by omega)
    obtain ⟨ta', t1, t4, t9, tj, t4o, t9o⟩ := cs_tP (g := g) (h := h) (ar := ar) (u := u) (ta := ta) (er := 0) (eo := eo) (b5 := bO 1 o) (b6 := bO 2 o) (b7 := bO 4 o) (q := nxt f n (nxt f n (nxt f n (nxt f n q)))) hC hs8 (show F < 100 by omega) hR.2.1.u1 hT.2.2.2.2.1 n2
    show PC Z f n B rr br tr tb a t2 eo _ (if (1 : Int32) = 0 then _ else _)
    rw [if_neg i10, cs_4, bS, cs_2_0 hC, bS, cs_4_C hC, bS, t1, bS]
    refine ⟨_, _, _, _, _, rfl, ?_⟩
    have w : ∀ i, ¬ (i = 2 ∨ i = 724 + 2 * v 2 ∨ i = 724 + 2 * v 2 + 1) → updN (updN (updN v (724 + 2 * v 2) F) (724 + 2 * v 2 + 1) s) 2 (v 2 + 1) i = v i := fun i h1 => (if_neg (by omega)).trans ((if_neg (by omega)).trans (if_neg (by omega)))
    have w2 : updN (updN (updN v (724 + 2 * v 2) F) (724 + 2 * v 2 + 1) s) 2 (v 2 + 1) 2 = v 2 + 1 := if_pos rfl
    have wa : updN (updN (updN v (724 + 2 * v 2) F) (724 + 2 * v 2 + 1) s) 2 (v 2 + 1) (724 + 2 * v 2) = F := (if_neg (by omega)).trans ((if_neg (by omega)).trans (if_pos rfl))
    have wb : updN (updN (updN v (724 + 2 * v 2) F) (724 + 2 * v 2 + 1) s) 2 (v 2 + 1) (724 + 2 * v 2 + 1) = s := (if_neg (by omega)).trans (if_pos rfl)
    show CR g h ar (upd u 1 (nN (v 2 + 1))) ta' (updN (updN (updN v (724 + 2 * v 2) F) (724 + 2 * v 2 + 1) s) 2 (v 2 + 1)) nm
    generalize updN (updN (updN v (724 + 2 * v 2) F) (724 + 2 * v 2 + 1) s) 2 (v 2 + 1) = V at w w2 wa wb ⊢
    have g1 := hR.1.1
    have ct : ∀ s2, cnt (fun k => V (724 + 2 * k + 1) = s2) (V 2) = cnt (fun k => v (724 + 2 * k + 1) = s2) (v 2) + (if s = s2 then 1 else 0) := fun s2 => by
      rw [w2]
      show cnt _ (v 2) + (if V (724 + 2 * v 2 + 1) = s2 then 1 else 0) = _
      rw [wb, cnt_c (Q := fun k => v (724 + 2 * k + 1) = s2) (fun k hk => by rw [w (724 + 2 * k + 1) (by omega)])]
    have hpV : ∀ F2 s2, hasP V F2 s2 = (hasP v F2 s2 || decide (F = F2 ∧ s = s2)) := fun F2 s2 => by
      rw [Bool.eq_iff_iff, Bool.or_eq_true, hasP_i, hasP_i, decide_eq_true_iff, w2]
      constructor
      · rintro ⟨k, k1, k2, k3⟩
        by_cases e : k = v 2
        · rw [e, wa] at k2; rw [e, wb] at k3; exact Or.inr ⟨k2, k3⟩
        · rw [w _ (by omega)] at k2 k3; exact Or.inl ⟨k, by omega, k2, k3⟩
      · rintro (⟨k, k1, k2, k3⟩ | ⟨k2, k3⟩)
        · exact ⟨k, by omega, by rw [w _ (by omega)]; exact k2, by rw [w _ (by omega)]; exact k3⟩
        · exact ⟨v 2, by omega, by rw [wa]; exact k2, by rw [wb]; exact k3⟩
    refine ⟨hR.1.tw (w 1 (by omega)) (by rw [w 1 (by omega), w 11 (by omega), w 7 (by omega), w 8 (by omega), w 9 (by omega), w 10 (by omega)]; exact g1) (fun i h1 h2 => w i (by omega)) (fun j _ => rfl) hI.h1 (fun c hc => (hI.2.2.2.1 c (by have := hI.h1; omega)).2.2.2.2.2.1) (fun s2 hs2 => ?_), ⟨?_, fun s2 hs2 => ?_, fun F2 hF2 => ?_⟩, fun s2 h1 h2 => hR.2.2 s2 (by rw [w 0 (by omega)] at h1; exact h1) h2⟩
    · rw [w 0 (by omega)] at hs2
      rw [w (20 + s2) (by omega), w (60 + s2) (by omega)]
      exact hR.1.2.2.2 s2 hs2
    · rw [w 0 (by omega), w2, w 6 (by omega)]; exact ⟨hR.2.1.1.1, rfl, hR.2.1.1.2.2⟩
    · rw [w 0 (by omega)] at hs2
      obtain ⟨z0, z1, z2, z3, z4, z5, z6⟩ := (hR.2.1.2.1 s2 hs2 : TS ta v (cdS nm) s2)
      have h44 := (hI.2.1 s2 (by omega)).2.2.2.1
      show TS ta' V (cdS nm) s2
      refine ⟨(tj 0 _ (by omega) (by omega)).trans z0, ((tj 1 _ (by omega) (by omega)).trans z1).trans (by rw [w (28 + s2) (by omega)]), ((tj 2 _ (by omega) (by omega)).trans z2).trans (by rw [w (36 + s2) (by omega)]), ((tj 3 _ (by omega) (by omega)).trans z3).trans ?_, ?_, fun hy => ?_, fun hy => ?_⟩
      · rw [w (44 + s2) (by omega)]
        exact congrArg nN (rwN_c (fun i hi => (w (68 + 3 * s2 + i) (by omega)).symm))
      · rw [ct]
        by_cases e : s = s2
        · subst e; rw [if_pos rfl]; exact t4
        · rw [if_neg e, Nat.add_zero, t4o s2 (fun w => e w.symm)]; exact z4
      · rw [w (52 + s2) (by omega)] at hy
        rw [w _ (by omega), w _ (by omega), w _ (by omega), w _ (by omega), tj 5 _ (by omega) (by omega), tj 6 _ (by omega) (by omega), tj 7 _ (by omega) (by omega), tj 8 _ (by omega) (by omega)]
        exact z5 hy
      · rw [w (52 + s2) (by omega)] at hy
        rw [tj 7 _ (by omega) (by omega), tj 8 _ (by omega) (by omega)]
        exact z6 hy
    · by_cases e : F2 = F
      · subst e
        have l8 : N ||| 2 ^ s < 2 ^ 8 := Nat.or_lt_two_pow (by omega) (Nat.pow_lt_pow_right (by decide) hs8)
        refine ⟨N ||| 2 ^ s, by have e8 : (2 : Nat) ^ 8 = 256 := by decide
                                omega, t9, fun s2 hs2 => ?_⟩
        rw [Nat.testBit_or, n3 s2 hs2, Nat.testBit_two_pow, hpV]
        congr 1
        exact decide_eq_decide.mpr ⟨fun w => ⟨rfl, w⟩, fun w => w.2⟩
      · obtain ⟨N2, m1, m2, m3⟩ := hR.2.1.2.2 F2 hF2
        refine ⟨N2, m1, (t9o F2 e).trans m2, fun s2 hs2 => ?_⟩
        rw [m3 s2 hs2, hpV, decide_eq_false (fun w => e w.1.symm), Bool.or_false]
end CS3
