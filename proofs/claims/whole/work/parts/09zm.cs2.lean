/-! the setup text: the class's settings, pupils and zones -/
section CTN
variable {g : Nat → Int32} {h : Nat → Int64} {ar : Nat → Nat → Int32} {u : Nat → Int32} {ta : Nat → Nat → Int32} {v : Nat → Nat} {pl : Nat → Option Nat} {cd : Nat → Nat}
theorem RG.tw (hR : RG g h ar v pl) {v' : Nat → Nat} {g' : Nat → Int32} {ar' : Nat → Nat → Int32} (h1 : v' 1 = v 1) (hg : g' 1 = nN (v' 1) ∧ g' 2 = nN (v' 11) ∧ g' 3 = nN (v' 7) ∧ g' 4 = nN (v' 8) ∧ g' 5 = nN (v' 9) ∧ g' 6 = nN (v' 10)) (he : ∀ i, 124 ≤ i → i < 724 → v' i = v i) (ha : ∀ j, j < 7 → ar' j = ar j) (h40 : v 1 ≤ 40) (hm : ∀ c, c < v 1 → v (324 + c) ≤ 4) (hs : ∀ s, s < v' 0 → ar' 7 s = nN (v' (20 + s)) ∧ ar' 8 s = nN (v' (60 + s))) : RG g' h ar' v' pl := by
  obtain ⟨_, hh, hc, _⟩ := hR
  refine ⟨hg, ?_, fun c hc1 => ?_, hs⟩
  · rw [h1]
    exact ⟨hh.1.trans (mk_c (fun k hk => by rw [he (244 + k) (by omega) (by omega)])), hh.2.1.trans (mk_c (fun k hk => by rw [he (364 + k) (by omega) (by omega)])), hh.2.2.1.trans (mk_c (fun k hk => by rw [he (404 + k) (by omega) (by omega)])), hh.2.2.2.trans (mk_c (fun k hk => by rw [he (444 + k) (by omega) (by omega)]))⟩
  · rw [h1] at hc1
    have m4 := hm c hc1
    rw [ha 0 (by omega), ha 1 (by omega), ha 2 (by omega), ha 3 (by omega), ha 4 (by omega), ha 5 (by omega), ha 6 (by omega), he (124 + c) (by omega) (by omega), he (164 + c) (by omega) (by omega), he (204 + c) (by omega) (by omega), he (284 + c) (by omega) (by omega), he (324 + c) (by omega) (by omega), he (524 + c) (by omega) (by omega), rwN_c (w := fun i => v' (564 + 4 * c + i)) (u := fun i => v (564 + 4 * c + i)) (fun i hi => he (564 + 4 * c + i) (by omega) (by omega))]
    exact hc c hc1
def TS (ta : Nat → Nat → Int32) (v : Nat → Nat) (cd : Nat → Nat) (s : Nat) : Prop := ta 0 s = nN (cd s) ∧ ta 1 s = nN (v (28 + s)) ∧ ta 2 s = nN (v (36 + s)) ∧ ta 3 s = nN (rwN (fun i => v (68 + 3 * s + i)) (v (44 + s))) ∧ ta 4 s = nN (cnt (fun k => v (724 + 2 * k + 1) = s) (v 2)) ∧
    (v (52 + s) = 1 → ta 5 s = nN (v (92 + 4 * s)) ∧ ta 6 s = nN (v (92 + 4 * s + 1)) ∧ ta 7 s = nN (v (92 + 4 * s + 2)) ∧ ta 8 s = nN (v (92 + 4 * s + 3))) ∧
    (v (52 + s) ≠ 1 → ta 7 s = mI ∧ ta 8 s = mI)
theorem ts_c {v' : Nat → Nat} {ta' : Nat → Nat → Int32} {cd' : Nat → Nat} {s : Nat} (hT : TS ta v cd s) (h3 : v (44 + s) ≤ 3) (ht : ∀ j, j < 9 → ta' j s = ta j s) (hv : ∀ i, (i = 28 + s ∨ i = 36 + s ∨ i = 44 + s ∨ i = 52 + s ∨ (68 + 3 * s ≤ i ∧ i < 68 + 3 * s + 3) ∨ (92 + 4 * s ≤ i ∧ i < 92 + 4 * s + 4)) → v' i = v i) (h2 : v' 2 = v 2) (hp : ∀ k, k < v 2 → v' (724 + 2 * k + 1) = v (724 + 2 * k + 1)) (hc : cd' s = cd s) : TS ta' v' cd' s := by
  unfold TS
  rw [ht 0 (by omega), ht 1 (by omega), ht 2 (by omega), ht 3 (by omega), ht 4 (by omega), ht 5 (by omega), ht 6 (by omega), ht 7 (by omega), ht 8 (by omega), hc, h2, hv (28 + s) (by omega), hv (36 + s) (by omega), hv (44 + s) (by omega), hv (52 + s) (by omega), hv (92 + 4 * s) (by omega), hv (92 + 4 * s + 1) (by omega), hv (92 + 4 * s + 2) (by omega), hv (92 + 4 * s + 3) (by omega), rwN_c (w := fun i => v' (68 + 3 * s + i)) (u := fun i => v (68 + 3 * s + i)) (fun i hi => hv (68 + 3 * s + i) (by omega)), cnt_c (P := fun k => v' (724 + 2 * k + 1) = s) (Q := fun k => v (724 + 2 * k + 1) = s) (fun k hk => by rw [hp k hk])]
  exact hT
theorem hp_c {v' : Nat → Nat} (h2 : v' 2 = v 2) (he : ∀ k, k < v 2 → v' (724 + 2 * k) = v (724 + 2 * k) ∧ v' (724 + 2 * k + 1) = v (724 + 2 * k + 1)) (f s : Nat) : hasP v' f s = hasP v f s := by
  unfold hasP
  rw [h2]
  exact congrArg Option.isSome (fnd_c (fun k _ hk => by rw [(he k (by omega)).1, (he k (by omega)).2]))
theorem CR.set {nm : Nat → Nat} (hR : CR g h ar u ta v nm) (hI : Inv v (fun _ => none)) {x : Nat} : CR (upd g 2 (nN x)) h ar u ta (updN v 11 x) nm ∧ CR (upd g 3 (nN x)) h ar u ta (updN v 7 x) nm ∧ CR g h ar (upd u 2 (nN x)) ta (updN v 6 x) nm := by
  obtain ⟨h1, h2, h3⟩ := hR
  have e : ∀ i j, j ≠ i → updN v i x j = v j := fun i j hj => if_neg hj
  have h40 := hI.h1
  have hm : ∀ c, c < v 1 → v (324 + c) ≤ 4 := fun c hc => (hI.2.2.2.1 c (by omega)).2.2.2.2.2.1
  have z : ∀ i, i < 20 → i ≠ 0 → ∀ s, updN v i x 0 ≤ s → s < 8 → ar 8 s = 0 := fun i hi h0 s a b => h3 s (by rw [e i 0 (by omega)] at a; exact a) b
  have sc : ∀ i, i < 20 → i ≠ 0 → ∀ s, s < updN v i x 0 → ar 7 s = nN (updN v i x (20 + s)) ∧ ar 8 s = nN (updN v i x (60 + s)) := fun i hi h0 s hs => by
    rw [e i 0 (by omega)] at hs
    rw [e i (20 + s) (by omega), e i (60 + s) (by omega)]
    exact h1.2.2.2 s hs
  have g1 := h1.1
  refine ⟨⟨h1.tw (e 11 1 (by omega)) ⟨g1.1, rfl, g1.2.2.1, g1.2.2.2.1, g1.2.2.2.2.1, g1.2.2.2.2.2⟩ (fun i a b => e 11 i (by omega)) (fun j _ => rfl) h40 hm (sc 11 (by omega) (by omega)), h2.same (sameT.w (by omega)) hI.h0 (fun s hs => (hI.2.1 s hs).2.2.2.1), z 11 (by omega) (by omega)⟩, ⟨h1.tw (e 7 1 (by omega)) ⟨g1.1, g1.2.1, rfl, g1.2.2.2.1, g1.2.2.2.2.1, g1.2.2.2.2.2⟩ (fun i a b => e 7 i (by omega)) (fun j _ => rfl) h40 hm (sc 7 (by omega) (by omega)), h2.same (sameT.w (by omega)) hI.h0 (fun s hs => (hI.2.1 s hs).2.2.2.1), z 7 (by omega) (by omega)⟩, ⟨h1.tw (e 6 1 (by omega)) g1 (fun i a b => e 6 i (by omega)) (fun j _ => rfl) h40 hm (sc 6 (by omega) (by omega)), ⟨⟨h2.1.1, h2.1.2.1, rfl⟩, fun s hs => ?_, fun F hF => ?_⟩, z 6 (by omega) (by omega)⟩⟩
  · have h0 := hI.h0
    rw [e 6 0 (by omega)] at hs
    exact ts_c (h2.2.1 s hs) (hI.2.1 s (by omega)).2.2.2.1 (fun j _ => rfl) (fun i hi => e 6 i (by omega)) (e 6 2 (by omega)) (fun k _ => e 6 _ (by omega)) rfl
  · obtain ⟨N, n1, n2, n3⟩ := h2.2.2 F hF
    exact ⟨N, n1, n2, fun s hs => by rw [hp_c (e 6 2 (by omega)) (fun k _ => ⟨e 6 _ (by omega), e 6 _ (by omega)⟩)]; exact n3 s hs⟩
end CTN
section CS2
variable {Z : gZ} {f : Nat → Nat} {n : Nat} {B : Mem} {rr br tr tb a t2 : Nat} {g : Nat → Int32} {h : Nat → Int64} {ar : Nat → Nat → Int32} {u : Nat → Int32} {ta : Nat → Nat → Int32} {er eo b5 b6 b7 : Int32} {q : Nat}
theorem cs_s5 : sZ 3 5 (CS Z f n B rr br tr tb a t2 g h ar u ta er eo b5 b6 b7 q) a (1 : Int32) = some (CS Z f n B rr br tr tb a t2 g h ar u ta er eo 1 b6 b7 q) := by unfold sZ; rw [if_pos (Or.inr rfl)]; exact rs_5 1
theorem cs_s6 : sZ 3 6 (CS Z f n B rr br tr tb a t2 g h ar u ta er eo b5 b6 b7 q) a (1 : Int32) = some (CS Z f n B rr br tr tb a t2 g h ar u ta er eo b5 1 b7 q) := by unfold sZ; rw [if_pos (Or.inr rfl)]; exact rs_6 1
theorem cs_s7 : sZ 3 7 (CS Z f n B rr br tr tb a t2 g h ar u ta er eo b5 b6 b7 q) a (1 : Int32) = some (CS Z f n B rr br tr tb a t2 g h ar u ta er eo b5 b6 1 q) := by unfold sZ; rw [if_pos (Or.inr rfl)]; exact rs_7 1
theorem cs_w2 (hC : CH Z f n B rr br tr tb a t2) (x : Int32) : sV 2 2 (CS Z f n B rr br tr tb a t2 g h ar u ta er eo b5 b6 b7 q) rr (.int x) = some (CS Z f n B rr br tr tb a t2 (upd g 2 x) h ar u ta er eo b5 b6 b7 q) := by rw [cs_sw hC, cs_sw hC]; exact fw_2 x
theorem cs_w3 (hC : CH Z f n B rr br tr tb a t2) (x : Int32) (hx : x = 0 ∨ x = 1) : sZ 2 3 (CS Z f n B rr br tr tb a t2 g h ar u ta er eo b5 b6 b7 q) rr x = some (CS Z f n B rr br tr tb a t2 (upd g 3 x) h ar u ta er eo b5 b6 b7 q) := by rw [cs_sw hC, cs_sw hC]; exact fz_3 x hx
theorem cs_w42 (hC : CH Z f n B rr br tr tb a t2) (x : Int32) : sV 4 2 (CS Z f n B rr br tr tb a t2 g h ar u ta er eo b5 b6 b7 q) tr (.int x) = some (CS Z f n B rr br tr tb a t2 g h ar (upd u 2 x) ta er eo b5 b6 b7 q) := by rw [cs_sw hC, cs_sw hC]; exact fx_2 hC.1 x
theorem pc_set (hC : CH Z f n B rr br tr tb a t2) (hq : q ≤ n) {hi : Nat} (hhi : hi < 1000) {eo' : Int32} {v nm : Nat → Nat} {i o' : Nat} {K : Int32 → Mem → Option Mem} (hK : ∀ er' eo2 q', ∃ g' h' ar' u' ta', K (-1) (CS Z f n B rr br tr tb a t2 g h ar u ta er' eo2 b5 b6 b7 q') = some (CS Z f n B rr br tr tb a t2 g' h' ar' u' ta' er' eo2 b5 b6 b7 q')) (H : ∀ x q', x ≤ hi → PC Z f n B rr br tr tb a t2 eo' (.inr (updN v i x, nm, o', q')) (K (nN x) (CS Z f n B rr br tr tb a t2 g h ar u ta er eo b5 b6 b7 q'))) : PC Z f n B rr br tr tb a t2 eo' (semS f n (setS f n i hi v nm o' q)) (ob2 (p_X3_readSetting Z a (nN hi) (CS Z f n B rr br tr tb a t2 g h ar u ta er eo b5 b6 b7 q)) K) := by
  have hx := (nxt_b (f := f) hq).2.1
  have bad : ∀ c q', PC Z f n B rr br tr tb a t2 eo' (.inl (c, q')) (K (-1) (CS Z f n B rr br tr tb a t2 g h ar u ta (nN c) (nN q') b5 b6 b7 q')) := fun c q' => by
    obtain ⟨g', h', ar', u', ta', e⟩ := hK (nN c) (nN q') q'
    rw [e]
    exact ⟨g', h', ar', u', ta', b5, b6, b7, rfl⟩
  have en := cs_num (g := g) (h := h) (ar := ar) (u := u) (ta := ta) (er := er) (eo := eo) (b5 := b5) (b6 := b6) (b7 := b7) hC hx (lo := 0) (hi := hi) (by decide) hhi
  have en : p_X3_readNumber Z a (0 : Int32) (nN hi) (CS Z f n B rr br tr tb a t2 g h ar u ta er eo b5 b6 b7 (nxt f n q)) = _ := en
  unfold p_X3_readSetting setS numS
  rw [cs_b, cs_adv hC hq, bS, cs_b, en]
  by_cases c : nuB f n (nxt f n q) = true
  · rw [if_pos c, if_pos c]
    by_cases c2 : raB f n (nxt f n q) 0 hi = true
    · have hv := (of_decide_eq_true c2).2
      rw [if_pos c2, if_pos c2, ob2_def, if_neg (show ¬ nN (vlN f n (nxt f n q)) = (-1 : Int32) from nNm (by omega)), cs_b, cs_sem hC (nxt_b hx).2.1]
      show PC Z f n B rr br tr tb a t2 eo' (if kdN f n (nxt f n (nxt f n q)) = 3 then .inr (_, nm, o', nxt f n (nxt f n (nxt f n q))) else .inl (1, nxt f n (nxt f n q))) _
      by_cases c3 : kdN f n (nxt f n (nxt f n q)) = 3
      · rw [if_pos c3, if_pos c3, ob2_def, if_neg i10, ob2_def]
        exact H _ _ hv
      · rw [if_neg c3, if_neg c3, ob2_def, if_pos rfl, ob2_def]
        exact bad 1 _
    · rw [if_neg c2, if_neg c2, ob2_def, if_pos rfl, ob2_def]
      exact bad 2 _
  · rw [if_neg c, if_neg c, ob2_def, if_pos rfl, ob2_def]
    exact bad 1 _
theorem bO_or : ∀ o : Fin 8, (o.val &&& 1 = 0 → bO 1 (o.val ||| 1) = 1 ∧ bO 2 (o.val ||| 1) = bO 2 o.val ∧ bO 4 (o.val ||| 1) = bO 4 o.val) ∧ (o.val &&& 2 = 0 → bO 1 (o.val ||| 2) = bO 1 o.val ∧ bO 2 (o.val ||| 2) = 1 ∧ bO 4 (o.val ||| 2) = bO 4 o.val) ∧ (o.val &&& 4 = 0 → bO 1 (o.val ||| 4) = bO 1 o.val ∧ bO 2 (o.val ||| 4) = bO 2 o.val ∧ bO 4 (o.val ||| 4) = 1) := by decide +kernel
theorem bO_z {k o : Nat} (h : o &&& k = 0) : bO k o = 0 := if_pos h
theorem bO_n {k o : Nat} (h : ¬ o &&& k = 0) : ¬ bO k o = 0 := by unfold bO; rw [if_neg h]; decide
variable {v nm : Nat → Nat} {o : Nat}
theorem cs_seed (hC : CH Z f n B rr br tr tb a t2) (hS : SI f n v nm o q) (hR : CR g h ar u ta v nm) : PC Z f n B rr br tr tb a t2 eo (semS f n (seedS f n v nm o q)) (p_X3_readSeed Z a (CS Z f n B rr br tr tb a t2 g h ar u ta 0 eo (bO 1 o) (bO 2 o) (bO 4 o) q)) := by
  have hb := (bO_or ⟨o, hS.o8⟩).1
  have h1 := hS.inv.h1
  unfold p_X3_readSeed seedS
  rw [cs_5, bS, jn_def, cs_4]
  have bad : PC Z f n B rr br tr tb a t2 eo (.inl (4, q)) (Option.bind (isC 3 (CS Z f n B rr br tr tb a t2 g h ar u ta 0 eo (bO 1 o) (bO 2 o) (bO 4 o) q) a) fun _ => Option.bind (p_X3_fail a (4 : Int32) (CS Z f n B rr br tr tb a t2 g h ar u ta 0 eo (bO 1 o) (bO 2 o) (bO 4 o) q)) fun M4 => some M4) := by
    rw [cs_b, cs_fail, bS]; exact pc_f rfl
  by_cases c : o &&& 1 = 0
  · rw [if_pos (bO_z c), bS, cs_2_1 hC, bS, hR.1.g1]
    by_cases c2 : v 1 = 0
    · rw [if_pos (show nN (v 1) ≤ (0 : Int32) by rw [c2]; decide), if_pos ⟨c, c2⟩, cs_s5, bS, cs_4, bS, cs_b]
      refine pc_set (hi := 999) hC hS.qn (by decide) (fun er' eo2 q' => ⟨_, _, _, _, _, by rw [cs_w2 hC, bS]⟩) (fun x q' hx => ?_)
      rw [cs_w2 hC, bS]
      refine ⟨_, _, _, _, _, ?_, (hR.set hS.inv).1⟩
      rw [(hb c).1, (hb c).2.1, (hb c).2.2]
    · rw [if_neg (show ¬ nN (v 1) ≤ (0 : Int32) from nle_f (b := 0) (by omega) (by omega) (by omega)), if_neg (fun w => c2 w.2)]
      exact bad
  · rw [if_neg (bO_n c), if_neg (fun w => c w.1)]
    exact bad
theorem cs_appe (hC : CH Z f n B rr br tr tb a t2) (hS : SI f n v nm o q) (hR : CR g h ar u ta v nm) : PC Z f n B rr br tr tb a t2 eo (semS f n (appeS f n v nm o q)) (p_X3_readAppeals Z a (CS Z f n B rr br tr tb a t2 g h ar u ta 0 eo (bO 1 o) (bO 2 o) (bO 4 o) q)) := by
  have hb := (bO_or ⟨o, hS.o8⟩).2.1
  unfold p_X3_readAppeals appeS
  rw [cs_6, bS]
  by_cases c : o &&& 2 = 0
  · rw [if_pos (bO_z c), if_pos c, cs_s6, bS, cs_4, bS, cs_2_0 hC, bS, cs_b]
    refine pc_set (hi := 9) hC hS.qn (by decide) (fun er' eo2 q' => ⟨_, _, _, _, _, by rw [cs_w42 hC, bS]⟩) (fun x q' hx => ?_)
    rw [cs_w42 hC, bS]
    refine ⟨_, _, _, _, _, ?_, (hR.set hS.inv).2.2⟩
    rw [(hb c).1, (hb c).2.1, (hb c).2.2]
  · rw [if_neg (bO_n c), if_neg c, cs_b, cs_fail, bS]
    exact pc_f rfl
theorem cs_late (hC : CH Z f n B rr br tr tb a t2) (hS : SI f n v nm o q) (hR : CR g h ar u ta v nm) : PC Z f n B rr br tr tb a t2 eo (semS f n (lateS f n v nm o q)) (p_X3_readLate Z a (CS Z f n B rr br tr tb a t2 g h ar u ta 0 eo (bO 1 o) (bO 2 o) (bO 4 o) q)) := by
  have hb := (bO_or ⟨o, hS.o8⟩).2.2
  unfold p_X3_readLate lateS
  rw [cs_7, bS]
  by_cases c : o &&& 4 = 0
  · rw [if_pos (bO_z c), if_pos c, cs_s7, bS, cs_4, bS, cs_b]
    refine pc_set (hi := 1) hC hS.qn (by decide) (fun er' eo2 q' => ⟨_, _, _, _, _, by rw [if_neg (by decide), cs_w3 hC _ (Or.inl rfl), bS]⟩) (fun x q' hx => ?_)
    have hh := fun x => (hR.set hS.inv (x := x)).2.1
    by_cases cx : x = 1
    · subst cx
      rw [if_pos (show nN 1 = (1 : Int32) from rfl), cs_w3 hC _ (Or.inr rfl), bS]
      refine ⟨_, _, _, _, _, ?_, hh 1⟩
      rw [(hb c).1, (hb c).2.1, (hb c).2.2]
      rfl
    · have cx : x = 0 := by omega
      subst cx
      rw [if_neg (show ¬ nN 0 = (1 : Int32) by decide), cs_w3 hC _ (Or.inl rfl), bS]
      refine ⟨_, _, _, _, _, ?_, hh 0⟩
      rw [(hb c).1, (hb c).2.1, (hb c).2.2]
      rfl
  · rw [if_neg (bO_n c), if_neg c, cs_b, cs_fail, bS]
    exact pc_f rfl
end CS2
