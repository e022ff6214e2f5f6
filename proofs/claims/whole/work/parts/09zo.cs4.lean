/-! the setup text: the class's schools -/
section EN2
variable {B : Mem} {r b t tb : Nat} {g : Nat → Int32} {h : Nat → Int64} {ar : Nat → Nat → Int32} {u : Nat → Int32} {ta : Nat → Nat → Int32} {v : Nat → Nat} {pl : Nat → Option Nat} {cd : Nat → Nat}
theorem c_enrol2 (B : Mem) (hG : GE r b t tb) (hR : RG g h ar v pl) (hT : TG u ta v cd) (hI : Inv v pl) {x y f cr : Nat} {w : Nat → Nat} {m : Nat} (hn : v 1 < 40) (hc : cr ≤ 1) (hm : m ≤ 4) : ∃ g' h' ar', p_X2_enrol r (nN x) (nN y) (nN f) (nN cr) (nN (rwN w m)) (ofc B r b t tb g h ar u ta) = some (nN (v 1), ofc B r b t tb g' h' ar' u ta) ∧ RG g' h' ar' (enrV v x y f cr w m) pl ∧ ∀ s, ar' 8 s = ar 8 s := by
  have hb := hI.hb; have h0 := hI.h0; have h1 := hI.h1; have h2 := hI.h2; have h7 := hI.h7; have h8 := hI.h8
  have n : ∀ i, okE v m i → enrV v x y f cr w m i = v i := fun i hi => enr_n hi
  have hl : (v 11 * 1103515245 + 12345) % 2147483648 < 2147483648 := Nat.mod_lt _ (by decide)
  have pn : pl (v 1) = none := by
    cases hp : pl (v 1) with
    | none => rfl
    | some s => have := (hI.plc _ _ hp).1; omega
  have ek : nN (v 1) + (1 : Int32) = nN (v 1 + 1) := nN_add _ 1
  have b11 := hb 11 (by omega)
  have hlt := lot_eq (v 11)
  have hdr := lot_dr hl
  refine ⟨upd (upd g 1 (nN (v 1 + 1))) 2 (nN ((v 11 * 1103515245 + 12345) % 2147483648)), if v 8 = 0 then (if cr = 0 then h else vp_updL h 7 (h 7 ||| ((1 : Int64) <<< (Int32.toInt64 (nN (v 1)) &&& 63)))) else vp_updL (if cr = 0 then h else vp_updL h 7 (h 7 ||| ((1 : Int64) <<< (Int32.toInt64 (nN (v 1)) &&& 63)))) 8 (h 8 ||| ((1 : Int64) <<< (Int32.toInt64 (nN (v 1)) &&& 63))), up2 (up2 (up2 (up2 (up2 (up2 (up2 ar 0 (upd (ar 0) (v 1) (nN x))) 1 (upd (ar 1) (v 1) (nN y))) 2 (upd (ar 2) (v 1) (nN f))) 3 (upd (ar 3) (v 1) (nN ((v 11 * 1103515245 + 12345) % 2147483648 / 65536 % 10000)))) 4 (upd (ar 4) (v 1) (nN (rwN w m)))) 5 (upd (ar 5) (v 1) mI)) 6 (upd (ar 6) (v 1) (nN 0)), ?_, ?_, fun s => rfl⟩
  · unfold p_X2_enrol
    have e0 : (0 : Int32) = nN 0 := rfl
    have em : (-1 : Int32) = mI := rfl
    have g41 : (upd (upd g 1 (nN (v 1 + 1))) 2 (nN ((v 11 * 1103515245 + 12345) % 2147483648))) 4 = nN (v 8) := by rw [pk_un (by decide), pk_un (by decide)]; exact hR.g4
    simp (disch := omega) only [fv_1, fv_2, fv_11, fv_12, fv_13, fv_14, fv_15, fv_16, fv_17, bS, hR.g1, ek, fw_1, fw_2, pk_us, pk_un, hR.g2, hlt, fe_0 hG, fe_1 hG, fe_2 hG, fe_3 hG, fe_4 hG, fe_5 hG, fe_6 hG, wr_nN, Option.map_some, up2_n, hdr, jn_def, em]
    rcases Nat.lt_or_ge cr 1 with c1 | c1
    · have c0 : cr = 0 := by omega
      subst c0
      rw [if_pos (by rfl), if_pos rfl, fv_4, bS, g41]
      rcases Nat.lt_or_ge (v 8) 1 with c2 | c2
      · rw [if_pos (by rw [show v 8 = 0 by omega]; rfl), if_pos (by omega)]; rfl
      · rw [if_neg (by rw [show v 8 = 1 by omega]; decide), if_neg (by omega), fv_8, bS, fw_8, bS]; rfl
    · have c0 : cr = 1 := by omega
      subst c0
      rw [if_neg (show ¬ nN 1 = 0 by decide), if_neg (show ¬ (1 : Nat) = 0 by decide), fv_7, bS, fw_7, bS, fv_4, bS, g41]
      rcases Nat.lt_or_ge (v 8) 1 with c2 | c2
      · rw [if_pos (by rw [show v 8 = 0 by omega]; rfl), if_pos (by omega)]; rfl
      · rw [if_neg (by rw [show v 8 = 1 by omega]; decide), if_neg (by omega), fv_8, bS, fw_8, bS]; rfl
  · obtain ⟨⟨a1, a2, a3, a4, a5, a6⟩, ⟨b7, b8, b9, b10⟩, hC, hS⟩ := hR
    have k7 : mkL (fun c => enrV v x y f cr w m (244 + c) = 1) (v 1 + 1) = if cr = 0 then h 7 else h 7 ||| ((1 : Int64) <<< (Int32.toInt64 (nN (v 1)) &&& 63)) := by
      by_cases c : cr = 0
      · rw [if_pos c, b7, ← mk_skip (by rw [enr_244 hn]; omega)]
        exact mk_c (fun k hk => by rw [n (244 + k) (by unfold okE; omega)])
      · rw [if_neg c, b7]
        exact (mk_new (by omega) (fun k hk => by rw [n (244 + k) (by unfold okE; omega)]) (by rw [enr_244 hn]; omega)).symm
    have k8 : mkL (fun c => enrV v x y f cr w m (364 + c) = 1) (v 1 + 1) = if v 8 = 0 then h 8 else h 8 ||| ((1 : Int64) <<< (Int32.toInt64 (nN (v 1)) &&& 63)) := by
      by_cases c : v 8 = 0
      · rw [if_pos c, b8, ← mk_skip (by rw [enr_364 hn]; omega)]
        exact mk_c (fun k hk => by rw [n (364 + k) (by unfold okE; omega)])
      · rw [if_neg c, b8]
        exact (mk_new (by omega) (fun k hk => by rw [n (364 + k) (by unfold okE; omega)]) (by rw [enr_364 hn]; omega)).symm
    refine ⟨⟨by rw [enr_1]; rfl, by rw [enr_11]; rfl, by rw [n 7 (by unfold okE; omega)]; exact a3, by rw [n 8 (by unfold okE; omega)]; exact a4, by rw [n 9 (by unfold okE; omega)]; exact a5, by rw [n 10 (by unfold okE; omega)]; exact a6⟩, ⟨?_, ?_, ?_, ?_⟩, fun k hk => ?_, fun s hs => ?_⟩
    · rw [enr_1, k7]; split <;> split <;> rfl
    · rw [enr_1, k8]; split <;> (try split) <;> rfl
    · have : (if v 8 = 0 then (if cr = 0 then h else vp_updL h 7 (h 7 ||| ((1 : Int64) <<< (Int32.toInt64 (nN (v 1)) &&& 63)))) else vp_updL (if cr = 0 then h else vp_updL h 7 (h 7 ||| ((1 : Int64) <<< (Int32.toInt64 (nN (v 1)) &&& 63)))) 8 (h 8 ||| ((1 : Int64) <<< (Int32.toInt64 (nN (v 1)) &&& 63)))) 9 = h 9 := by split <;> split <;> rfl
      rw [this, b9, enr_1, ← mk_skip (by rw [enr_404 hn]; omega)]
      exact mk_c (fun k hk => by rw [n (404 + k) (by unfold okE; omega)])
    · have : (if v 8 = 0 then (if cr = 0 then h else vp_updL h 7 (h 7 ||| ((1 : Int64) <<< (Int32.toInt64 (nN (v 1)) &&& 63)))) else vp_updL (if cr = 0 then h else vp_updL h 7 (h 7 ||| ((1 : Int64) <<< (Int32.toInt64 (nN (v 1)) &&& 63)))) 8 (h 8 ||| ((1 : Int64) <<< (Int32.toInt64 (nN (v 1)) &&& 63)))) 10 = h 10 := by split <;> split <;> rfl
      rw [this, b10, enr_1, ← mk_skip (by rw [enr_444 hn]; omega)]
      exact mk_c (fun k hk => by rw [n (444 + k) (by unfold okE; omega)])
    · rw [enr_1] at hk
      by_cases e : k = v 1
      · subst e
        refine ⟨by rw [enr_124 hn]; exact pk_us, by rw [enr_164 hn]; exact pk_us, by rw [enr_204 hn]; exact pk_us, by rw [enr_284 hn]; exact pk_us, ?_, by rw [pn]; exact pk_us, by rw [enr_524 hn]; exact pk_us⟩
        rw [enr_324 hn]
        refine Eq.trans (pk_us (f := ar 4)) ?_
        congr 1
        exact rwN_c (fun i hi => (enr_w hn hi).symm)
      · obtain ⟨c0, c1, c2, c3, c4, c5, c6⟩ := hC k (by omega)
        refine ⟨?_, ?_, ?_, ?_, ?_, ?_, ?_⟩
        · rw [n (124 + k) (by unfold okE; omega)]; exact (pk_un (f := ar 0) e).trans c0
        · rw [n (164 + k) (by unfold okE; omega)]; exact (pk_un (f := ar 1) e).trans c1
        · rw [n (204 + k) (by unfold okE; omega)]; exact (pk_un (f := ar 2) e).trans c2
        · rw [n (284 + k) (by unfold okE; omega)]; exact (pk_un (f := ar 3) e).trans c3
        · have m4 := (hI.chi k (by omega)).2.2.2.2.2.1
          rw [n (324 + k) (by unfold okE; omega)]
          refine (pk_un (f := ar 4) e).trans (c4.trans ?_)
          congr 1
          exact rwN_c (fun i hi => (n (564 + 4 * k + i) (by unfold okE; omega)).symm)
        · exact (pk_un (f := ar 5) e).trans c5
        · rw [n (524 + k) (by unfold okE; omega)]; exact (pk_un (f := ar 6) e).trans c6
    · rw [n 0 (by unfold okE; omega)] at hs
      obtain ⟨d7, d8⟩ := hS s hs
      exact ⟨by rw [n (20 + s) (by unfold okE; omega)]; exact d7, by rw [n (60 + s) (by unfold okE; omega)]; exact d8⟩
end EN2
section CS4
variable {Z : gZ} {f : Nat → Nat} {n : Nat} {B : Mem} {rr br tr tb a t2 : Nat} {g : Nat → Int32} {h : Nat → Int64} {ar : Nat → Nat → Int32} {u : Nat → Int32} {ta : Nat → Nat → Int32} {er eo b5 b6 b7 : Int32} {q : Nat}
theorem cs_18 (hC : CH Z f n B rr br tr tb a t2) : gR 2 18 (CS Z f n B rr br tr tb a t2 g h ar u ta er eo b5 b6 b7 q) rr = some (br + 7) := by rw [cs_sw hC]; exact fv_18
theorem cs_w7 (hC : CH Z f n B rr br tr tb a t2) {s : Nat} (hs : s < 8) (x : Int32) : aIs (CS Z f n B rr br tr tb a t2 g h ar u ta er eo b5 b6 b7 q) (br + 7) (nN s) x = some (CS Z f n B rr br tr tb a t2 g h (uU ar 7 s x) u ta er eo b5 b6 b7 q) := by
  rw [cs_sw hC, fe_7 hC.1, wr_nN hs (by decide), Option.map_some]
  exact congrArg some (cs_sw hC).symm
theorem cs_tS (hC : CH Z f n B rr br tr tb a t2) {s : Nat} (hs : s < 8) (hu : u 0 = nN s) (c x y w : Int32) : p_X4_tellSchool tr c x y w (CS Z f n B rr br tr tb a t2 g h ar u ta er eo b5 b6 b7 q) = some (CS Z f n B rr br tr tb a t2 g h ar (upd u 0 (nN (s + 1))) (uU (uU (uU (uU (uU (uU (uU ta 0 s c) 1 s x) 2 s y) 3 s w) 4 s 0) 7 s (-1)) 8 s (-1)) er eo b5 b6 b7 q) := by
  have e1 : nN s + (1 : Int32) = nN (s + 1) := nN_add s 1
  unfold p_X4_tellSchool
  rw [cs_sw hC, ft_3 hC.1, bS, ft_0 hC.1, bS, hu, fq_0 hC.1, wr_nN hs (by decide), Option.map_some, bS, ft_4 hC.1, bS, ft_0 hC.1, bS, hu, fq_1 hC.1, wr_nN hs (by decide), Option.map_some, bS, ft_5 hC.1, bS, ft_0 hC.1, bS, hu, fq_2 hC.1, wr_nN hs (by decide), Option.map_some, bS, ft_6 hC.1, bS, ft_0 hC.1, bS, hu, fq_3 hC.1, wr_nN hs (by decide), Option.map_some, bS, ft_7 hC.1, bS, ft_0 hC.1, bS, hu, fq_4 hC.1, wr_nN hs (by decide), Option.map_some, bS, ft_10 hC.1, bS, ft_0 hC.1, bS, hu, fq_7 hC.1, wr_nN hs (by decide), Option.map_some, bS, ft_11 hC.1, bS, ft_0 hC.1, bS, hu, fq_8 hC.1, wr_nN hs (by decide), Option.map_some, bS, ft_0 hC.1, bS, hu, e1, fx_0 hC.1, bS]
  exact congrArg some (cs_sw hC).symm
theorem codeN_c {F G : Nat → Nat} : ∀ k, (∀ i, i < k → F i = G i) → codeN F k = codeN G k := by
  intro k
  induction k with
  | zero => intro _; rfl
  | succ k ih =>
    intro hk
    show (if F k = 0 then codeN F k else codeN F k * 32 + (F k - 96)) = (if G k = 0 then codeN G k else codeN G k * 32 + (G k - 96))
    rw [hk k (by omega), ih (fun i hi => hk i (by omega))]
variable {v nm : Nat → Nat} {o : Nat}
theorem nmW_i {s i : Nat} (hi : i < 6) : nmW nm f n q s 6 (6 * s + i) = ltr f n q i := by
  unfold nmW
  rw [if_pos (by omega), show 6 * s + i - 6 * s = i by omega]
theorem nmW_o {s s2 i : Nat} (hs : s2 ≠ s) (hi : i < 6) : nmW nm f n q s 6 (6 * s2 + i) = nm (6 * s2 + i) := by
  unfold nmW
  rw [if_neg (by omega)]
theorem nms_new {s : Nat} (hN : NMS nm s) (cn : nmB f n q = true) (hq : q ≤ n) : NMS (nmW nm f n q s 6) (s + 1) := by
  intro s2 hs2
  by_cases e : s2 = s
  · subst e
    obtain ⟨b1, b2⟩ := nm_ltr cn hq
    refine ⟨_, b1.1, b1.2, fun i hi => ?_, fun i h1 h2 => ?_⟩
    · rw [nmW_i (by omega)]; unfold ltr; rw [if_pos hi]; exact b2 i hi
    · rw [nmW_i h2]; unfold ltr; rw [if_neg (by omega)]
  · obtain ⟨l, l1, l2, l3, l4⟩ := hN s2 (by omega)
    refine ⟨l, l1, l2, fun i hi => ?_, fun i h1 h2 => ?_⟩
    · rw [nmW_o e (by omega)]; exact l3 i hi
    · rw [nmW_o e h2]; exact l4 i h1 h2
theorem cs_sch (hC : CH Z f n B rr br tr tb a t2) (hS : SI f n v nm o q) (hR : CR g h ar u ta v nm) : PC Z f n B rr br tr tb a t2 eo (semS f n (schoolS f n v nm o q)) (p_X3_readSchool Z a (CS Z f n B rr br tr tb a t2 g h ar u ta 0 eo (bO 1 o) (bO 2 o) (bO 4 o) q)) := by
  have hI := hS.inv
  have h0 := hI.h0
  have hx := (nxt_b (f := f) hS.qn).2.1
  have hxx := (nxt_b (f := f) hx).2.1
  unfold p_X3_readSchool schoolS
  rw [cs_4, bS, cs_2_0 hC, bS, cs_4_0 hC, bS, hR.2.1.u0]
  by_cases c : 8 ≤ v 0
  · rw [if_neg (show ¬ nN (v 0) < (8 : Int32) from nlt_f (b := 8) (by omega) (by omega) (by omega)), if_pos c, cs_b, cs_fail, bS]
    exact pc_f rfl
  · have hs : v 0 < 8 := by omega
    rw [if_pos (show nN (v 0) < (8 : Int32) from nlt_t (b := 8) (by omega) (by omega) (by omega)), if_neg c, cs_b, cs_adv hC hS.qn, bS, cs_b, cs_nm hC hx]
    by_cases cn : nmB f n (nxt f n q) = true
    · obtain ⟨a1, a2⟩ := nm_ltr cn hx
      have hl := code_lt (f := fun i => f (nxt f n q + i)) (enN f n (nxt f n q) - nxt f n q) (fun i hi => (a2 i hi).2)
      have hp : (32 : Nat) ^ (enN f n (nxt f n q) - nxt f n q) ≤ 32 ^ 6 := Nat.pow_le_pow_right (by decide) (by omega)
      have e6 : (32 : Nat) ^ 6 = 1073741824 := by decide
      rw [if_pos cn, if_pos cn, ob2_def, if_neg (show ¬ nN (codeN (fun i => f (nxt f n q + i)) (enN f n (nxt f n q) - nxt f n q)) = (-1 : Int32) from nNm (by omega)), cs_4, bS, cs_2_0 hC, bS, cs_4_C hC, bS, cs_find hC hR h0 hS.nms hx cn, bS]
      cases hf : fdN nm (v 0) f n (nxt f n q) with
      | some s =>
        have := (fnd_some hf).2.1
        rw [if_neg (show ¬ oN (some s) = (-1 : Int32) from nNm (by omega)), cs_b, cs_fail, bS]
        exact pc_f rfl
      | none =>
        have hcd := (cd_eq (nms_new (s := v 0) hS.nms cn hx) (by omega : v 0 < v 0 + 1) cn hx).mpr (decide_eq_true (fun i hi => nmW_i hi))
        generalize codeN (fun i => f (nxt f n q + i)) (enN f n (nxt f n q) - nxt f n q) = cod at hcd ⊢
        rw [if_pos (show oN none = (-1 : Int32) from rfl), cs_b, cs_adv hC hx, bS, cs_b]
        refine pc_num (lo := 0) (hi := 40) hC hxx (by decide) (by decide) (fun M => rfl) (fun c1 c2 c3 => ?_)
        generalize vlN f n (nxt f n (nxt f n q)) = p at c2 ⊢
        generalize nxt f n (nxt f n (nxt f n q)) = q3 at c3 ⊢
        show PC Z f n B rr br tr tb a t2 eo _ (jn _ _)
        rw [jn_def, if_neg (show ¬ nN p = (-1 : Int32) from nNm (by omega)), cs_b]
        refine pc_num (lo := 0) (hi := 99) hC c3 (by decide) (by decide) (fun M => rfl) (fun c4 c5 c6 => ?_)
        generalize vlN f n q3 = x at c5 ⊢
        generalize nxt f n q3 = q4 at c6 ⊢
        show PC Z f n B rr br tr tb a t2 eo _ (jn _ _)
        rw [jn_def, if_neg (show ¬ nN x = (-1 : Int32) from nNm (by omega)), cs_b]
        refine pc_num (lo := 0) (hi := 99) hC c6 (by decide) (by decide) (fun M => rfl) (fun c7 c8 c9 => ?_)
        generalize vlN f n q4 = y at c8 ⊢
        generalize nxt f n q4 = q5 at c9 ⊢
        show PC Z f n B rr br tr tb a t2 eo _ (if _ then _ else _)
        have zz := hS.zs (v 0) (Nat.le_refl _) hs
        have e : ∀ i, ¬ (i = 20 + v 0 ∨ i = 28 + v 0 ∨ i = 36 + v 0) → updN (updN (updN v (20 + v 0) p) (28 + v 0) x) (36 + v 0) y i = v i := fun i hi => (if_neg (by omega)).trans ((if_neg (by omega)).trans (if_neg (by omega)))
        have e20 : updN (updN (updN v (20 + v 0) p) (28 + v 0) x) (36 + v 0) y (20 + v 0) = p := (if_neg (by omega)).trans ((if_neg (by omega)).trans (if_pos rfl))
        have e28 : updN (updN (updN v (20 + v 0) p) (28 + v 0) x) (36 + v 0) y (28 + v 0) = x := (if_neg (by omega)).trans (if_pos rfl)
        have e36 : updN (updN (updN v (20 + v 0) p) (28 + v 0) x) (36 + v 0) y (36 + v 0) = y := if_pos rfl
        generalize updN (updN (updN v (20 + v 0) p) (28 + v 0) x) (36 + v 0) y = V at e e20 e28 e36 ⊢
        rw [if_neg (show ¬ nN y = (-1 : Int32) from nNm (by omega)), cs_b, cs_rules hC hs (v := V) c9, ob2_def, cs_b]
        unfold schE
        have hP := rlV_P (f := f) (n := n) hs 3 V 0 q5 (by omega) ((e _ (by omega)).trans zz.1) (fun i hi => by omega)
        have hB := rlV_b (f := f) (n := n) (s := v 0) 3 V 0 q5 c9
        have hO := fun i hi => rlV_o (f := f) (n := n) (s := v 0) (i := i) hi 3 V 0 q5 (by omega)
        generalize rlV f n (v 0) 3 V 0 q5 = R at hP hB hO ⊢
        cases cr : rlN f n R.2.2 with
        | some r =>
          rw [if_neg (Option.some_ne_none _)]
          exact pc_sem1 hC hB.1 (fun M => if_pos rfl) (rlN_lt cr).2
        | none =>
          rw [if_pos rfl]
          refine pc_sem hC hB.1 (fun M => if_pos rfl) ?_
          show PC Z f n B rr br tr tb a t2 eo _ (if (1 : Int32) = 0 then _ else _)
          rw [if_neg i10, cs_4, bS, cs_18 hC, bS, bS, cs_2_0 hC, bS, cs_4_0 hC, bS, hR.2.1.u0, cs_w7 hC hs, bS, cs_4, bS, cs_2_0 hC, bS, cs_4_C hC, bS, cs_tS hC hs hR.2.1.u0, bS]
          refine ⟨_, _, _, _, _, rfl, ?_⟩
          have a : ∀ i, ¬ (i = 0 ∨ i = 20 + v 0 ∨ i = 28 + v 0 ∨ i = 36 + v 0 ∨ i = 44 + v 0 ∨ (68 + 3 * v 0 ≤ i ∧ i < 68 + 3 * v 0 + 3)) → updN R.1 0 (v 0 + 1) i = v i := fun i hn => (if_neg (by omega)).trans ((hO i ⟨by omega, by omega⟩).trans (e i (by omega)))
          have w0 : updN R.1 0 (v 0 + 1) 0 = v 0 + 1 := if_pos rfl
          have a20 : updN R.1 0 (v 0 + 1) (20 + v 0) = p := (if_neg (by omega)).trans ((hO _ ⟨by omega, by omega⟩).trans e20)
          have a28 : updN R.1 0 (v 0 + 1) (28 + v 0) = x := (if_neg (by omega)).trans ((hO _ ⟨by omega, by omega⟩).trans e28)
          have a36 : updN R.1 0 (v 0 + 1) (36 + v 0) = y := (if_neg (by omega)).trans ((hO _ ⟨by omega, by omega⟩).trans e36)
          have a44 : updN R.1 0 (v 0 + 1) (44 + v 0) = R.2.1 := (if_neg (by omega)).trans hP.1
          have a68 : ∀ i, updN R.1 0 (v 0 + 1) (68 + 3 * v 0 + i) = R.1 (68 + 3 * v 0 + i) := fun i => if_neg (by omega)
          show CR g h (uU ar 7 (v 0) (nN p)) (upd u 0 (nN (v 0 + 1))) (uU (uU (uU (uU (uU (uU (uU ta 0 (v 0) (nN cod)) 1 (v 0) (nN x)) 2 (v 0) (nN y)) 3 (v 0) _) 4 (v 0) 0) 7 (v 0) (-1)) 8 (v 0) (-1)) (updN R.1 0 (v 0 + 1)) (nmW nm f n (nxt f n q) (v 0) 6)
          generalize updN R.1 0 (v 0 + 1) = W at w0 a a20 a28 a36 a44 a68 ⊢
          clear hO e hB e20 e28 e36
          have g1 := hR.1.1
          refine ⟨hR.1.tw (a 1 (by omega)) (by rw [a 1 (by omega), a 11 (by omega), a 7 (by omega), a 8 (by omega), a 9 (by omega), a 10 (by omega)]; exact g1) (fun i h1 h2 => a i (by omega)) (fun j hj => funext fun i => uu_n (by omega)) hI.h1 (fun c hc => (hI.2.2.2.1 c (by have := hI.h1; omega)).2.2.2.2.2.1) (fun s2 hs2 => ?_), ⟨?_, fun s2 hs2 => ?_, fun F hF => ?_⟩, fun s2 h1 h2 => ?_⟩
          · rw [w0] at hs2
            by_cases e : s2 = v 0
            · subst e
              rw [a20, a (60 + v 0) (by omega), zz.2.2, uu_s, uu_n (by decide)]
              exact ⟨rfl, hR.2.2 (v 0) (Nat.le_refl _) hs⟩
            · rw [a (20 + s2) (by omega), a (60 + s2) (by omega), uu_o e, uu_o e]
              exact hR.1.2.2.2 s2 (by omega)
          · rw [w0, a 2 (by omega), a 6 (by omega)]; exact ⟨rfl, hR.2.1.1.2⟩
          · rw [w0] at hs2
            have hp2 := hI.h2
            by_cases e : s2 = v 0
            · subst e
              show TS _ W _ (v 0)
              refine ⟨?_, ?_, ?_, ?_, ?_, fun hy => ?_, fun hy => ?_⟩
              · rw [uu_n (by decide), uu_n (by decide), uu_n (by decide), uu_n (by decide), uu_n (by decide), uu_n (by decide), uu_s, hcd]
              · rw [uu_n (by decide), uu_n (by decide), uu_n (by decide), uu_n (by decide), uu_n (by decide), uu_s, a28]
              · rw [uu_n (by decide), uu_n (by decide), uu_n (by decide), uu_n (by decide), uu_s, a36]
              · rw [uu_n (by decide), uu_n (by decide), uu_n (by decide), uu_s, a44]
                exact congrArg nN (rwN_c (fun i _ => (a68 i).symm))
              · rw [uu_n (by decide), uu_n (by decide), uu_s, cnt_zero.mpr (fun k hk => ?_)]
                · rfl
                · rw [a 2 (by omega)] at hk
                  have := hS.pu k hk
                  rw [a (724 + 2 * k + 1) (by omega)]; omega
              · rw [a (52 + v 0) (by omega), zz.2.1] at hy; omega
              · rw [uu_n (by decide), uu_s, uu_s]; exact ⟨rfl, rfl⟩
            · refine ts_c (hR.2.1.2.1 s2 (by omega)) (hI.2.1 s2 (by omega)).2.2.2.1 (fun j hj => ?_) (fun i hi => a i (by omega)) (a 2 (by omega)) (fun k hk => a _ (by omega)) ?_
              · rw [uu_o e, uu_o e, uu_o e, uu_o e, uu_o e, uu_o e, uu_o e]
              · exact codeN_c 6 (fun i hi => nmW_o e hi)
          · obtain ⟨N, n1, n2, n3⟩ := hR.2.1.2.2 F hF
            refine ⟨N, n1, ?_, fun s2 hs2 => by rw [hp_c (a 2 (by omega)) (fun k _ => ⟨a _ (by omega), a _ (by omega)⟩)]; exact n3 s2 hs2⟩
            rw [uu_n (by decide), uu_n (by decide), uu_n (by decide), uu_n (by decide), uu_n (by decide), uu_n (by decide), uu_n (by decide)]
            exact n2
          · rw [w0] at h1
            rw [uu_n (by decide)]
            exact hR.2.2 s2 (by omega) h2
    · rw [if_neg cn, if_neg cn, ob2_def, if_pos rfl]
      exact pc_f rfl
end CS4
