section CF
variable {B : Mem} {r b t tb : Nat} {g : Nat → Int32} {h : Nat → Int64} {ar : Nat → Nat → Int32} {u : Nat → Int32} {ta : Nat → Nat → Int32} {v : Nat → Nat} {pl : Nat → Option Nat} {cd : Nat → Nat}
theorem c_fillOne (B : Mem) (hG : GE r b t tb) (hR : RG g h ar v pl) (hT : TG u ta v cd) (hI : Inv v pl) : ∃ g' h' ar', p_X2_fillOne r (ofc B r b t tb g h ar u ta) = some (bI ((fstO v pl).isSome = true), ofc B r b t tb g' h' ar' u ta) ∧ (match fstO v pl with
    | none => RG g' h' ar' v pl
    | some (s, c) => RG g' h' ar' (updN v (444 + c) 0) (updO pl c (some s))) := by
  have hb := hI.hb; have h0 := hI.h0; have h1 := hI.h1; have h2 := hI.h2; have h7 := hI.h7; have h8 := hI.h8
  have lp : ∀ (k1 : Int32 → Int32 → Option (Int32 × Mem)) (k2 : Unit → Option (Int32 × Mem)) d k fu, k + d = v 0 → d < fu → pl_X2_fillOne_2 k1 k2 r (ofc B r b t tb g h ar u ta) fu (nN k) = (match fnd (fun s => hldN v pl s < v (20 + s) ∧ 0 < wtgN v pl s) k d with
      | none => k2 ()
      | some s => k1 (nN s) (oN (mnO (fun k => waiB v pl k s = true) (stS v s) (v 1)))) := by
    intro k1 k2 d
    induction d with
    | zero =>
      intro k fu hk hf
      obtain ⟨f, rfl⟩ : ∃ f, fu = f + 1 := ⟨fu - 1, by omega⟩
      rw [pl_X2_fillOne_2]
      simp (disch := first | omega | (apply hb; omega)) only [fv_isC, fv_0, fv_1, fv_2, fv_3, fv_4, fv_5, fv_6, fv_7, fv_8, fv_9, fv_10, fv_11, fv_12, fv_13, fv_14, fv_15, fv_16, fv_17, fv_18, fv_19, fd_0 hG, fd_1 hG, fd_2 hG, fd_3 hG, fd_4 hG, fd_5 hG, fd_6 hG, fd_7 hG, fd_8 hG, ft_C hG, ft_0 hG, ft_1 hG, ft_2 hG, ft_3 hG, ft_4 hG, ft_5 hG, ft_6 hG, ft_7 hG, ft_8 hG, ft_9 hG, ft_10 hG, ft_11 hG, ft_12 hG, fp_0 hG, fp_1 hG, fp_2 hG, fp_3 hG, fp_4 hG, fp_5 hG, fp_6 hG, fp_7 hG, fp_8 hG, fp_9 hG, hR.g1, hR.g2, hR.g3, hR.g4, hR.g5, hR.g6, hR.h7, hR.h8, hR.h9, hR.h10, hR.a0, hR.a1, hR.a2, hR.a3, hR.a4, hR.a5, hR.a6, hR.a7, hR.a8, hT.u0, hT.u1, hT.u2, hT.a0, hT.a1, hT.a2, hT.a3, hT.a4, bS, rd_nN, nN_lit, nN_add, nN_mul, nN_le, nN_lt, nN_eq, jn_def, mI_lit, bI_0, bI_1, n01, n10, if_true, if_false, ite_not, nP_P]
      rw [if_pos (by omega)]
      rfl
    | succ d ih =>
      intro k fu hk hf
      obtain ⟨f, rfl⟩ : ∃ f, fu = f + 1 := ⟨fu - 1, by omega⟩
      have ih := ih (k + 1) f (by omega) (by omega)
      rw [pl_X2_fillOne_2]
      have e1 := c_holdersOf B hG hR hT hI (s := k) (by omega)
      have e2 : p_J13_bitCount_95d88 (mkL (fun c => pl c = some k) (v 1)) (ofc B r b t tb g h ar u ta) = some (nN (hldN v pl k)) := c_bitc (by omega)
      have e3 := c_waitersOf B hG hR hT hI (s := k) (by omega)
      have e4 := c_firstOf B hG hR hT hI (P := fun c => waiB v pl c k = true) (s := k) (by omega)
      have l1 : hldN v pl k ≤ v 1 := cnt_le _ _
      simp (disch := first | omega | (apply hb; omega)) only [fv_isC, fv_0, fv_1, fv_2, fv_3, fv_4, fv_5, fv_6, fv_7, fv_8, fv_9, fv_10, fv_11, fv_12, fv_13, fv_14, fv_15, fv_16, fv_17, fv_18, fv_19, fd_0 hG, fd_1 hG, fd_2 hG, fd_3 hG, fd_4 hG, fd_5 hG, fd_6 hG, fd_7 hG, fd_8 hG, ft_C hG, ft_0 hG, ft_1 hG, ft_2 hG, ft_3 hG, ft_4 hG, ft_5 hG, ft_6 hG, ft_7 hG, ft_8 hG, ft_9 hG, ft_10 hG, ft_11 hG, ft_12 hG, fp_0 hG, fp_1 hG, fp_2 hG, fp_3 hG, fp_4 hG, fp_5 hG, fp_6 hG, fp_7 hG, fp_8 hG, fp_9 hG, hR.g1, hR.g2, hR.g3, hR.g4, hR.g5, hR.g6, hR.h7, hR.h8, hR.h9, hR.h10, hR.a0, hR.a1, hR.a2, hR.a3, hR.a4, hR.a5, hR.a6, hR.a7, hR.a8, hT.u0, hT.u1, hT.u2, hT.a0, hT.a1, hT.a2, hT.a3, hT.a4, bS, rd_nN, nN_lit, nN_add, nN_mul, nN_le, nN_lt, nN_eq, jn_def, mI_lit, bI_0, bI_1, n01, n10, if_true, if_false, ite_not, nP_P, e1, e2, e3, e4]
      rw [if_neg (by omega), ih, fnd]
      by_cases c1 : hldN v pl k < v (20 + k)
      · rw [if_neg (by omega)]
        cases hm : mnO (fun c => waiB v pl c k = true) (stS v k) (v 1) with
        | none =>
          have c2 : ¬ 0 < wtgN v pl k := fun z => by
            obtain ⟨x, hx, hp⟩ := cnt_pos.mp z
            exact mnO_none.mp hm x hx hp
          show (if mI = mI then _ else _) = _
          rw [if_pos rfl, if_neg (fun z => c2 z.2)]
        | some c =>
          have hc := mnO_lt hm
          have c2 : 0 < wtgN v pl k := cnt_pos.mpr ⟨c, hc.1, hc.2⟩
          rw [if_neg (by show ¬ nN c = mI; exact nNm (by omega)), if_pos ⟨c1, c2⟩]
          show _ = k1 (nN k) (oN (mnO (fun c => waiB v pl c k = true) (stS v k) (v 1)))
          rw [hm]
      · rw [if_pos (by omega), if_neg (fun z => c1 z.1)]
  unfold p_X2_fillOne
  have l0 := lp (fun z15 z16 => Option.bind (isC 2 (ofc B r b t tb g h ar u ta) r) fun _ => Option.bind (p_X2_leave r z16 (ofc B r b t tb g h ar u ta)) fun M18 => Option.bind (gR 2 16 M18 r) fun v19 => Option.bind (aIs M18 v19 z16 z15) fun M20 => some ((1 : Int32), M20)) (fun _ => some ((0 : Int32), (ofc B r b t tb g h ar u ta))) (v 0) 0 FU (by omega) (FU_pos (by omega))
  have e0 : (0 : Int32) = nN 0 := rfl
  rw [e0] at l0 ⊢
  rw [l0]
  cases hf : fstO v pl with
  | none =>
    have hn := fst_none hf
    unfold filO at hn
    rw [hn]
    exact ⟨g, h, ar, rfl, hR⟩
  | some sc =>
    obtain ⟨s, c⟩ := sc
    obtain ⟨h1', h2', h3', h4', h5'⟩ := fst_some hf
    have hn := h1'
    unfold filO at hn
    rw [hn]
    obtain ⟨g1, h1'', ar1, q1, R1⟩ := c_leave (B := B) (u := u) (ta := ta) hG hR h0 h1 h4'
    refine ⟨g1, h1'', up2 ar1 5 (upd (ar1 5) c (oN (some s))), ?_, ?_⟩
    · show Option.bind (isC 2 (ofc B r b t tb g h ar u ta) r) _ = _
      rw [h2']
      simp (disch := omega) only [fv_isC, bS, oN, q1, fv_16, fe_5 hG, wr_nN, Option.map_some]
      rfl
    · have := R1.place (c := c) (p := some s)
      rw [updO_2] at this
      exact this
theorem c_fillPlaces (B : Mem) (hG : GE r b t tb) (hR : RG g h ar v pl) (hT : TG u ta v cd) (hI : Inv v pl) : ∃ g' h' ar', p_X2_fillPlaces r (ofc B r b t tb g h ar u ta) = some (ofc B r b t tb g' h' ar' u ta) ∧ RG g' h' ar' (fit 160 (v, pl)).1 (fit 160 (v, pl)).2 := by
  have lp : ∀ (k1 k2 : Mem → Option Mem), (∀ M, k1 M = some M) → (∀ M, k2 M = some M) → ∀ d k fu (g : Nat → Int32) (h : Nat → Int64) (ar : Nat → Nat → Int32) (v : Nat → Nat) (pl : Nat → Option Nat), RG g h ar v pl → TG u ta v cd → Inv v pl → k + d = 160 → d < fu → ∃ g' h' ar', pl_X2_fillPlaces_2 k1 k2 r fu (nN k) (ofc B r b t tb g h ar u ta) = some (ofc B r b t tb g' h' ar' u ta) ∧ RG g' h' ar' (fit d (v, pl)).1 (fit d (v, pl)).2 := by
    intro k1 k2 hk1 hk2 d
    induction d with
    | zero =>
      intro k fu g h ar v pl hR hT hI hk hf
      obtain ⟨f, rfl⟩ : ∃ f, fu = f + 1 := ⟨fu - 1, by omega⟩
      refine ⟨g, h, ar, ?_, hR⟩
      rw [pl_X2_fillPlaces_2, if_pos (show (160 : Int32) ≤ nN k from nle_t (a := 160) (by omega) (by omega) (by omega)), hk2]
    | succ d ih =>
      intro k fu g h ar v pl hR hT hI hk hf
      obtain ⟨f, rfl⟩ : ∃ f, fu = f + 1 := ⟨fu - 1, by omega⟩
      have h0 := hI.h0; have h1 := hI.h1
      obtain ⟨g1, h1', ar1, q1, R1⟩ := c_fillOne B hG hR hT hI
      rw [pl_X2_fillPlaces_2, if_neg (show ¬ (160 : Int32) ≤ nN k from nle_f (a := 160) (by omega) (by omega) (by omega)), fv_isC, bS, q1, ob2_def]
      cases hf2 : fstO v pl with
      | none =>
        rw [hf2] at R1
        refine ⟨g1, h1', ar1, ?_, ?_⟩
        · rw [if_pos (by rfl), hk1]
        · show RG g1 h1' ar1 (fit (d + 1) (v, pl)).1 (fit (d + 1) (v, pl)).2
          unfold fit
          rw [hf2]
          exact R1
      | some sc =>
        obtain ⟨s, c⟩ := sc
        rw [hf2] at R1
        have R1 : RG g1 h1' ar1 (updN v (444 + c) 0) (updO pl c (some s)) := R1
        have z10 : updN v (444 + c) 0 10 = v 10 := updN_n (by omega)
        have z0 : updN v (444 + c) 0 0 = v 0 := updN_n (by omega)
        have z1 : updN v (444 + c) 0 1 = v 1 := updN_n (by omega)
        obtain ⟨_, _, _, hc, _⟩ := fst_some hf2
        have R2 := R1.filled (by omega) (by omega) (x := v 10 + 1)
        have I2 := hI.fst hf2
        have T2 : TG u ta (updN (updN v (444 + c) 0) 10 (v 10 + 1)) cd := hT.same ((sameT.w (by omega)).t (sameT.w (by omega))) h0 (fun s hs => (hI.sch s hs).2.2.2.1)
        have e6 : nN (v 10) + (1 : Int32) = nN (v 10 + 1) := nN_add _ 1
        have ek : nN k + (1 : Int32) = nN (k + 1) := nN_add k 1
        obtain ⟨g3, h3', ar3, q3, R3⟩ := ih (k + 1) f _ _ _ _ _ R2 T2 I2 (by omega) (by omega)
        refine ⟨g3, h3', ar3, ?_, ?_⟩
        · rw [if_neg (by show ¬ nN 1 = 0; decide), fv_6, bS, R1.g6, z10, e6, fw_6, bS, ek, q3]
        · show RG g3 h3' ar3 (fit (d + 1) (v, pl)).1 (fit (d + 1) (v, pl)).2
          unfold fit
          rw [hf2]
          exact R3
  unfold p_X2_fillPlaces
  exact lp (fun M => some M) (fun M => some M) (fun _ => rfl) (fun _ => rfl) 160 0 FU g h ar v pl hR hT hI (by omega) (FU_pos (by omega))
theorem j_fill {M : Mem} {a n : Nat} {f : Nat → Int32} {x : Int32} (hM : M a = some (.inl (0, n, .inl f))) (hn : n < 100000) : p_J7_fill_53178 a x M = some (upM M a (.inl (0, n, .inl (fun k => if k < n then x else f k)))) := by
  unfold p_J7_fill_53178
  have e0 : aN 0 M a = some (nN n) := by unfold aN; rw [hM]; rfl
  rw [e0, bS]
  have key : ∀ d k fu, k + d = n → d < fu → ∀ M', M' = upM M a (.inl (0, n, .inl (fun j => if j < k then x else f j))) → pl_J7_fill_53178_5 (fun M4 => some M4) a x (nN n) fu (nN k) M' = some (upM M a (.inl (0, n, .inl (fun k => if k < n then x else f k)))) := by
    intro d
    induction d with
    | zero =>
      intro k fu hk hf M' hM'
      obtain ⟨f', rfl⟩ : ∃ f', fu = f' + 1 := ⟨fu - 1, by omega⟩
      rw [pl_J7_fill_53178_5, if_pos (nle_t (by omega) (by omega) (by omega)), hM', show k = n by omega]
    | succ d ih =>
      intro k fu hk hf M' hM'
      obtain ⟨f', rfl⟩ : ∃ f', fu = f' + 1 := ⟨fu - 1, by omega⟩
      have ek : nN k + (1 : Int32) = nN (k + 1) := nN_add k 1
      have ea : M' a = some (.inl (0, n, .inl (fun j => if j < k then x else f j))) := by rw [hM']; unfold upM; rw [if_pos rfl]
      have es : aIs M' a (nN k) x = some (upM M a (.inl (0, n, .inl (fun j => if j < k + 1 then x else f j)))) := by
        unfold aIs
        rw [ea]
        have n1 := nN_neg0 (n := k) (by omega)
        have n2 := nN_clamp (n := k) (by omega)
        simp only [n2]
        rw [if_pos ⟨trivial, fun z => by rcases z with z | z; exact n1 z; omega⟩, hM']
        congr 1
        funext q
        unfold upM
        by_cases hq : q = a
        · rw [if_pos hq, if_pos hq]
          congr 3
          congr 2
          funext j
          unfold upd
          by_cases c1 : j = k
          · rw [if_pos c1, if_pos (by omega)]
          · rw [if_neg c1]
            show (if j < k then x else f j) = _
            by_cases c2 : j < k
            · rw [if_pos c2, if_pos (by omega)]
            · rw [if_neg c2, if_neg (by omega)]
        · rw [if_neg hq, if_neg hq, if_neg hq]
      rw [pl_J7_fill_53178_5, if_neg (nle_f (by omega) (by omega) (by omega)), es, bS, ek]
      exact ih (k + 1) f' (by omega) (by omega) _ rfl
  refine key n 0 FU (by omega) (FU_pos hn) M ?_
  funext q
  unfold upM
  by_cases hq : q = a
  · rw [if_pos hq, hq, hM]
    congr 4
  · rw [if_neg hq]
def fil (n : Nat) (x : Int32) (f : Nat → Int32) : Nat → Int32 := fun k => if k < n then x else f k
theorem c_fill (hG : GE r b t tb) {j : Nat} (hj : j < 9) {x : Int32} : p_J7_fill_53178 (b + j) x (ofc B r b t tb g h ar u ta) = some (ofc B r b t tb g h (up2 ar j (fil (lnR j) x (ar j))) u ta) := by
  have hl : lnR j < 100000 := by unfold lnR; split <;> decide
  have e := j_fill (M := (ofc B r b t tb g h ar u ta)) (x := x) (ovr_a (ovt B t tb u ta) r b t g h ar hG.1 hj) hl
  exact e.trans (congrArg some (ovr_ua (ovt B t tb u ta) r b t g h ar hG.1 hj _))
/-- all places back -/
def tbS (v : Nat → Nat) : Nat → Nat := fun i => if i = 8 then 1 else if i = 9 ∨ i = 10 ∨ (60 ≤ i ∧ i < 68) ∨ (444 ≤ i ∧ i < 484) ∨ (524 ≤ i ∧ i < 564) then 0 else v i
theorem tbS_Q (v : Nat → Nat) : sameQ v (tbS v) := fun i hi => by unfold tbS; rw [if_neg (by omega), if_neg (by omega)]
theorem tbS_0 {i : Nat} (h : i = 9 ∨ i = 10 ∨ (60 ≤ i ∧ i < 68) ∨ (444 ≤ i ∧ i < 484) ∨ (524 ≤ i ∧ i < 564)) : tbS v i = 0 := by unfold tbS; rw [if_neg (by omega), if_pos h]
theorem tbS_8 : tbS v 8 = 1 := rfl
theorem tbS_Inv (hI : Inv v pl) : Inv (tbS v) (fun _ => none) := by
  have q := tbS_Q v
  obtain ⟨⟨a0, a1, a2, a6, a7, a8, a9⟩, hS, hU, hC, hW, hJ, hP, hB⟩ := hI
  refine ⟨⟨by rw [q 0 (by omega)]; exact a0, by rw [q 1 (by omega)]; exact a1, by rw [q 2 (by omega)]; exact a2, by rw [q 6 (by omega)]; exact a6, by rw [q 7 (by omega)]; exact a7, by rw [tbS_8]; exact Nat.le_refl _, by rw [tbS_0 (by omega)]; exact Nat.zero_le _⟩, fun s hs => ?_, fun s hs k hk => by rw [q (68 + 3 * s + k) (by omega)]; exact hU s hs k hk, fun c hc => ?_, fun c hc k hk => ?_, fun c hc k l hk hl hkl => ?_, fun c s hp => (by cases hp), fun k hk => ?_⟩
  · rw [q (20 + s) (by omega), q (28 + s) (by omega), q (36 + s) (by omega), q (44 + s) (by omega), q (52 + s) (by omega)]; exact hS s hs
  · have hc' := hC c hc
    rw [q (124 + c) (by omega), q (164 + c) (by omega), q (204 + c) (by omega), q (244 + c) (by omega), q (284 + c) (by omega), q (324 + c) (by omega), q (364 + c) (by omega), q (404 + c) (by omega), tbS_0 (i := 444 + c) (by omega)]
    exact ⟨hc'.1, hc'.2.1, hc'.2.2.1, hc'.2.2.2.1, hc'.2.2.2.2.1, hc'.2.2.2.2.2.1, hc'.2.2.2.2.2.2.1, hc'.2.2.2.2.2.2.2.1, Nat.zero_le _⟩
  · rw [q 1 (by omega)] at hc
    rw [q (324 + c) (by omega)] at hk
    rw [q 0 (by omega), q (564 + 4 * c + k) (by omega)]
    exact hW c hc k hk
  · rw [q 1 (by omega)] at hc
    rw [q (324 + c) (by omega)] at hk hl
    rw [q (564 + 4 * c + k) (by omega), q (564 + 4 * c + l) (by omega)] at hkl
    exact hJ c hc k l hk hl hkl
  · unfold tbS
    split
    · decide
    · split
      · decide
      · exact hB k hk
theorem c_takeAllBack (hG : GE r b t tb) (hR : RG g h ar v pl) (h0 : v 0 ≤ 8) (h1 : v 1 ≤ 40) : ∃ g' h' ar', p_X2_takeAllBack r (ofc B r b t tb g h ar u ta) = some (ofc B r b t tb g' h' ar' u ta) ∧ RG g' h' ar' (tbS v) (fun _ => none) := by
  have q := tbS_Q v
  refine ⟨upd (upd (upd g 4 1) 5 0) 6 0, vp_updL h 10 0, up2 (up2 (up2 ar 5 (fil 40 mI (ar 5))) 6 (fil 40 0 (ar 6))) 8 (fil 8 0 (ar 8)), ?_, ?_⟩
  · unfold p_X2_takeAllBack
    have f5 := c_fill (B := B) (g := g) (h := h) (ar := ar) (u := u) (ta := ta) hG (j := 5) (by decide) (x := mI)
    have f6 := c_fill (B := B) (g := g) (h := h) (ar := up2 ar 5 (fil 40 mI (ar 5))) (u := u) (ta := ta) hG (j := 6) (by decide) (x := 0)
    have f8 := c_fill (B := B) (g := g) (h := h) (ar := up2 (up2 ar 5 (fil 40 mI (ar 5))) 6 (fil 40 0 (ar 6))) (u := u) (ta := ta) hG (j := 8) (by decide) (x := 0)
    have l5 : lnR 5 = 40 := rfl
    have l6 : lnR 6 = 40 := rfl
    have l8 : lnR 8 = 8 := rfl
    rw [l5] at f5
    rw [l6, up2_n (by decide)] at f6
    rw [l8, up2_n (by decide), up2_n (by decide)] at f8
    have m1 : (-1 : Int32) = mI := rfl
    rw [fv_16, bS, m1, f5, bS]
    show Option.bind (gR 2 17 (ofc B r b t tb g h (up2 ar 5 (fil 40 mI (ar 5))) u ta) r) _ = _
    rw [fv_17, bS, f6, bS]
    show Option.bind (gR 2 19 (ofc B r b t tb g h (up2 (up2 ar 5 (fil 40 mI (ar 5))) 6 (fil 40 0 (ar 6))) u ta) r) _ = _
    rw [fv_19, bS, f8, bS]
    show Option.bind (sV 2 10 (ofc B r b t tb g h (up2 (up2 (up2 ar 5 (fil 40 mI (ar 5))) 6 (fil 40 0 (ar 6))) 8 (fil 8 0 (ar 8))) u ta) r _) _ = _
    rw [fw_10, bS, fz_4 _ (Or.inr rfl), bS, fw_5, bS, fw_6, bS]
  · obtain ⟨⟨a1, a2, a3, a4, a5, a6⟩, ⟨b7, b8, b9, b10⟩, hC, hS⟩ := hR
    refine ⟨⟨by rw [q 1 (by omega)]; exact a1, by rw [q 11 (by omega)]; exact a2, by rw [q 7 (by omega)]; exact a3, rfl, rfl, rfl⟩, ⟨?_, ?_, ?_, ?_⟩, fun k hk => ?_, fun s hs => ?_⟩
    · show h 7 = _; rw [q 1 (by omega), b7]; exact mk_c (fun k hk => by rw [q (244 + k) (by omega)])
    · show h 8 = _; rw [q 1 (by omega), b8]; exact mk_c (fun k hk => by rw [q (364 + k) (by omega)])
    · show h 9 = _; rw [q 1 (by omega), b9]; exact mk_c (fun k hk => by rw [q (404 + k) (by omega)])
    · rw [q 1 (by omega)]; exact mk_none (fun k hk z => by rw [tbS_0 (by omega)] at z; cases z)
    · rw [q 1 (by omega)] at hk
      obtain ⟨c0, c1, c2, c3, c4, c5, c6⟩ := hC k hk
      refine ⟨by rw [q (124 + k) (by omega)]; exact c0, by rw [q (164 + k) (by omega)]; exact c1, by rw [q (204 + k) (by omega)]; exact c2, by rw [q (284 + k) (by omega)]; exact c3, ?_, ?_, ?_⟩
      · show ar 4 k = _
        rw [q (324 + k) (by omega), c4]; congr 1
        by_cases c40 : 564 + 4 * k < 564 + 4 * 40
        · exact rwN_c (fun i hi => (q (564 + 4 * k + i) (by omega)).symm)
        · omega
      · exact if_pos (show k < 40 by omega)
      · rw [tbS_0 (by omega)]; exact if_pos (show k < 40 by omega)
    · rw [q 0 (by omega)] at hs
      obtain ⟨d7, d8⟩ := hS s hs
      refine ⟨by rw [q (20 + s) (by omega)]; exact d7, ?_⟩
      rw [tbS_0 (by omega)]; exact if_pos (show s < 8 by omega)
end CF
