theorem loop_mk {R : Type} {L : Nat → Int64 → Nat → Option R} {fin : Int64 → Option R} {n : Nat} {P : Nat → Prop} [DecidablePred P] (hn : n ≤ 63) (hstep : ∀ fu x k, k < n → L (fu + 1) x k = if P k then L fu (x ||| ((1 : Int64) <<< (Int32.toInt64 (nN k) &&& 63))) (k + 1) else L fu x (k + 1)) (hend : ∀ fu x, L (fu + 1) x n = fin x) : ∀ fu, n < fu → L fu 0 0 = fin (mkL P n) := by
  have key : ∀ d k fu, k + d = n → d < fu → L fu (mkL P k) k = fin (mkL P n) := by
    intro d
    induction d with
    | zero =>
      intro k fu hk hf
      obtain ⟨f, rfl⟩ : ∃ f, fu = f + 1 := ⟨fu - 1, by omega⟩
      have hk : k = n := by omega
      rw [hk, hend f _]
    | succ d ih =>
      intro k fu hk hf
      obtain ⟨f, rfl⟩ : ∃ f, fu = f + 1 := ⟨fu - 1, by omega⟩
      rw [hstep f _ k (by omega), ← ih (k + 1) f (by omega) (by omega)]
      by_cases h : P k
      · rw [if_pos h, mk_add (by omega) h]
      · rw [if_neg h, ← mk_skip h]
  intro fu hf
  exact key n 0 fu (by omega) hf
theorem n_bit {N s : Nat} (hN : N < 2147483648) (hs : s < 31) : ((nN N >>> (nN s &&& nN 31)) &&& nN 1 = nN 0) = ¬ (N.testBit s = true) := by
  have e : (nN N >>> (nN s &&& nN 31)) &&& nN 1 = nN (N / 2 ^ s % 2) := by
    have e0 : nN N >>> (nN s &&& nN 31) = nI (N / 2 ^ s) := pk_shrN (n := N) (by omega) _ s (s_l s (by omega))
    rw [e0]
    exact fa_mask _ 1
  have h2 : N / 2 ^ s % 2 < 2 := Nat.mod_lt _ (by decide)
  rw [e, nN_eq (by omega) (by omega), Nat.testBit_eq_decide_div_mod_eq, decide_eq_true_eq]
  exact propext ⟨fun h => by omega, fun h => by omega⟩
theorem b_dec (b : Bool) : bI (b = true) = if b = true then nN 1 else nN 0 := rfl
section CR
variable {B : Mem} {r b t tb : Nat} {g : Nat → Int32} {h : Nat → Int64} {ar : Nat → Nat → Int32} {u : Nat → Int32} {ta : Nat → Nat → Int32} {v : Nat → Nat} {pl : Nat → Option Nat} {cd : Nat → Nat}
theorem c_fits (B : Mem) (hG : GE r b t tb) (hR : RG g h ar v pl) (hT : TG u ta v cd) (hI : Inv v pl) {c s k : Nat} (hc : c < v 1) (hs : s < v 0) (hk : k < 2147483648) : p_X2_fits r (nN c) (nN s) (nN k) (ofc B r b t tb g h ar u ta) = some (bI (meeB v c s k = true)) := by
  have hb := hI.hb; have h0 := hI.h0; have h1 := hI.h1; have h2 := hI.h2; have h7 := hI.h7; have h8 := hI.h8
  have hch := hI.chi c (by omega)
  unfold p_X2_fits meeB
  by_cases k0 : k = 0
  · subst k0
    have hm := mk_in (P := fun c => v (244 + c) = 1) (n := v 1) (c := c) (by omega) (by omega)
    simp only [nN_lit] at hm
    simp (disch := first | omega | (apply hb; omega)) only [fv_isC, fv_0, fv_1, fv_2, fv_3, fv_4, fv_5, fv_6, fv_7, fv_8, fv_9, fv_10, fv_11, fv_12, fv_13, fv_14, fv_15, fv_16, fv_17, fv_18, fv_19, fd_0 hG, fd_1 hG, fd_2 hG, fd_3 hG, fd_4 hG, fd_5 hG, fd_6 hG, fd_7 hG, fd_8 hG, ft_C hG, ft_0 hG, ft_1 hG, ft_2 hG, ft_3 hG, ft_4 hG, ft_5 hG, ft_6 hG, ft_7 hG, ft_8 hG, ft_9 hG, ft_10 hG, ft_11 hG, ft_12 hG, fp_0 hG, fp_1 hG, fp_2 hG, fp_3 hG, fp_4 hG, fp_5 hG, fp_6 hG, fp_7 hG, fp_8 hG, fp_9 hG, hR.g1, hR.g2, hR.g3, hR.g4, hR.g5, hR.g6, hR.h7, hR.h8, hR.h9, hR.h10, hR.a0, hR.a1, hR.a2, hR.a3, hR.a4, hR.a5, hR.a6, hR.a7, hR.a8, hT.u0, hT.u1, hT.u2, hT.a0, hT.a1, hT.a2, hT.a3, hT.a4, bS, rd_nN, nN_lit, nN_add, nN_mul, nN_le, nN_lt, nN_eq, jn_def, mI_lit, bI_0, bI_1, n01, n10, if_true, if_false, ite_not, nP_P, hm]
    show _ = some (bI (decide (v (244 + c) = 1) = true))
    (simp only [bI, decide_eq_true_eq]; repeat' split) <;> first | rfl | (exfalso; omega) | (exfalso; simp_all; done) | (exfalso; simp_all; omega)
  · by_cases k1 : k = 1
    · subst k1
      obtain ⟨N, hN, e9, tb9⟩ := hT.ps (f := v (204 + c)) (by omega)
      simp (disch := first | omega | (apply hb; omega)) only [fv_isC, fv_0, fv_1, fv_2, fv_3, fv_4, fv_5, fv_6, fv_7, fv_8, fv_9, fv_10, fv_11, fv_12, fv_13, fv_14, fv_15, fv_16, fv_17, fv_18, fv_19, fd_0 hG, fd_1 hG, fd_2 hG, fd_3 hG, fd_4 hG, fd_5 hG, fd_6 hG, fd_7 hG, fd_8 hG, ft_C hG, ft_0 hG, ft_1 hG, ft_2 hG, ft_3 hG, ft_4 hG, ft_5 hG, ft_6 hG, ft_7 hG, ft_8 hG, ft_9 hG, ft_10 hG, ft_11 hG, ft_12 hG, fp_0 hG, fp_1 hG, fp_2 hG, fp_3 hG, fp_4 hG, fp_5 hG, fp_6 hG, fp_7 hG, fp_8 hG, fp_9 hG, hR.g1, hR.g2, hR.g3, hR.g4, hR.g5, hR.g6, hR.h7, hR.h8, hR.h9, hR.h10, hR.a0, hR.a1, hR.a2, hR.a3, hR.a4, hR.a5, hR.a6, hR.a7, hR.a8, hT.u0, hT.u1, hT.u2, hT.a0, hT.a1, hT.a2, hT.a3, hT.a4, bS, rd_nN, nN_lit, nN_add, nN_mul, nN_le, nN_lt, nN_eq, jn_def, mI_lit, bI_0, bI_1, n01, n10, if_true, if_false, ite_not, nP_P, e9, n_bit, k0, tb9 s (by omega)]
      by_cases c1 : v (204 + c) = 0
      · simp [c1, bI]
      · by_cases c2 : hasP v (v (204 + c)) s = true
        · simp [c1, c2, bI]
        · simp [c1, c2, bI]
    · by_cases hz : v (52 + s) = 1
      · obtain ⟨z5, z6, z7, z8⟩ := hT.zy hs hz
        unfold zonB
        simp (disch := first | omega | (apply hb; omega)) only [fv_isC, fv_0, fv_1, fv_2, fv_3, fv_4, fv_5, fv_6, fv_7, fv_8, fv_9, fv_10, fv_11, fv_12, fv_13, fv_14, fv_15, fv_16, fv_17, fv_18, fv_19, fd_0 hG, fd_1 hG, fd_2 hG, fd_3 hG, fd_4 hG, fd_5 hG, fd_6 hG, fd_7 hG, fd_8 hG, ft_C hG, ft_0 hG, ft_1 hG, ft_2 hG, ft_3 hG, ft_4 hG, ft_5 hG, ft_6 hG, ft_7 hG, ft_8 hG, ft_9 hG, ft_10 hG, ft_11 hG, ft_12 hG, fp_0 hG, fp_1 hG, fp_2 hG, fp_3 hG, fp_4 hG, fp_5 hG, fp_6 hG, fp_7 hG, fp_8 hG, fp_9 hG, hR.g1, hR.g2, hR.g3, hR.g4, hR.g5, hR.g6, hR.h7, hR.h8, hR.h9, hR.h10, hR.a0, hR.a1, hR.a2, hR.a3, hR.a4, hR.a5, hR.a6, hR.a7, hR.a8, hT.u0, hT.u1, hT.u2, hT.a0, hT.a1, hT.a2, hT.a3, hT.a4, bS, rd_nN, nN_lit, nN_add, nN_mul, nN_le, nN_lt, nN_eq, jn_def, mI_lit, bI_0, bI_1, n01, n10, if_true, if_false, ite_not, nP_P, k0, k1, z5, z6, z7, z8]
        (simp only [bI, decide_eq_true_eq]; repeat' split) <;> first | rfl | (exfalso; omega) | (exfalso; simp_all; done) | (exfalso; simp_all; omega)
      · obtain ⟨z7, z8⟩ := hT.zn hs hz
        have e : zonB v c s = false := by unfold zonB; simp [hz]
        simp (disch := first | omega | (apply hb; omega)) only [fv_isC, fv_0, fv_1, fv_2, fv_3, fv_4, fv_5, fv_6, fv_7, fv_8, fv_9, fv_10, fv_11, fv_12, fv_13, fv_14, fv_15, fv_16, fv_17, fv_18, fv_19, fd_0 hG, fd_1 hG, fd_2 hG, fd_3 hG, fd_4 hG, fd_5 hG, fd_6 hG, fd_7 hG, fd_8 hG, ft_C hG, ft_0 hG, ft_1 hG, ft_2 hG, ft_3 hG, ft_4 hG, ft_5 hG, ft_6 hG, ft_7 hG, ft_8 hG, ft_9 hG, ft_10 hG, ft_11 hG, ft_12 hG, fp_0 hG, fp_1 hG, fp_2 hG, fp_3 hG, fp_4 hG, fp_5 hG, fp_6 hG, fp_7 hG, fp_8 hG, fp_9 hG, hR.g1, hR.g2, hR.g3, hR.g4, hR.g5, hR.g6, hR.h7, hR.h8, hR.h9, hR.h10, hR.a0, hR.a1, hR.a2, hR.a3, hR.a4, hR.a5, hR.a6, hR.a7, hR.a8, hT.u0, hT.u1, hT.u2, hT.a0, hT.a1, hT.a2, hT.a3, hT.a4, bS, rd_nN, nN_lit, nN_add, nN_mul, nN_le, nN_lt, nN_eq, jn_def, mI_lit, bI_0, bI_1, n01, n10, if_true, if_false, ite_not, nP_P, k0, k1, z7, mI_lt]
        rw [e]
        split <;> rfl
theorem c_squareWay (B : Mem) (hG : GE r b t tb) (hR : RG g h ar v pl) (hT : TG u ta v cd) (hI : Inv v pl) {c s : Nat} (hc : c < v 1) (hs : s < v 0) : p_X2_squareWay r (nN c) (nN s) (ofc B r b t tb g h ar u ta) = some (nN (farS v c s)) := by
  have hb := hI.hb; have h0 := hI.h0; have h1 := hI.h1; have h2 := hI.h2; have h7 := hI.h7; have h8 := hI.h8
  have hch := hI.chi c (by omega); have hsc := hI.sch s (by omega)
  have q1 := sq_le hch.1 hsc.2.1
  have q2 := sq_le hch.2.1 hsc.2.2.1
  unfold p_X2_squareWay farS
  simp (disch := first | omega | (apply hb; omega)) only [fv_isC, fv_0, fv_1, fv_2, fv_3, fv_4, fv_5, fv_6, fv_7, fv_8, fv_9, fv_10, fv_11, fv_12, fv_13, fv_14, fv_15, fv_16, fv_17, fv_18, fv_19, fd_0 hG, fd_1 hG, fd_2 hG, fd_3 hG, fd_4 hG, fd_5 hG, fd_6 hG, fd_7 hG, fd_8 hG, ft_C hG, ft_0 hG, ft_1 hG, ft_2 hG, ft_3 hG, ft_4 hG, ft_5 hG, ft_6 hG, ft_7 hG, ft_8 hG, ft_9 hG, ft_10 hG, ft_11 hG, ft_12 hG, fp_0 hG, fp_1 hG, fp_2 hG, fp_3 hG, fp_4 hG, fp_5 hG, fp_6 hG, fp_7 hG, fp_8 hG, fp_9 hG, hR.g1, hR.g2, hR.g3, hR.g4, hR.g5, hR.g6, hR.h7, hR.h8, hR.h9, hR.h10, hR.a0, hR.a1, hR.a2, hR.a3, hR.a4, hR.a5, hR.a6, hR.a7, hR.a8, hT.u0, hT.u1, hT.u2, hT.a0, hT.a1, hT.a2, hT.a3, hT.a4, bS, rd_nN, nN_lit, nN_add, nN_mul, nN_le, nN_lt, nN_eq, jn_def, mI_lit, bI_0, bI_1, n01, n10, if_true, if_false, ite_not, nP_P, nN_sub, iI_mul, iI_add]
  rw [nN_iI]
  congr 2
  omega
theorem c_rankClass (B : Mem) (hG : GE r b t tb) (hR : RG g h ar v pl) (hT : TG u ta v cd) (hI : Inv v pl) {c s : Nat} (hc : c < v 1) (hs : s < v 0) : p_X2_rankClass r (nN c) (nN s) (ofc B r b t tb g h ar u ta) = some (nN (clsS v c s)) := by
  have hb := hI.hb; have h0 := hI.h0; have h1 := hI.h1; have h2 := hI.h2; have h7 := hI.h7; have h8 := hI.h8
  have hsc := hI.sch s (by omega)
  have hru := hI.rul s (by omega)
  have hrl : ∀ i, i < v (44 + s) → v (68 + 3 * s + i) < 15 := fun i hi => by have := hru i (by omega); omega
  unfold p_X2_rankClass clsS
  simp only [jn_def]
  have key : ∀ d k fu, k + d = 3 → k ≤ v (44 + s) → d < fu → pl_X2_rankClass_5 (fun z => some z) (fun z => some z) r (nN c) (nN s) (ofc B r b t tb g h ar u ta) fu (nN k) (nN k) = some (nN ((fnd (fun k => meeB v c s (v (68 + 3 * s + k)) = true) k (v (44 + s) - k)).getD (v (44 + s)))) := by
    intro d
    induction d with
    | zero =>
      intro k fu hk hk2 hf
      obtain ⟨f, rfl⟩ : ∃ f, fu = f + 1 := ⟨fu - 1, by omega⟩
      rw [pl_X2_rankClass_5]
      simp (disch := first | omega | (apply hb; omega)) only [fv_isC, fv_0, fv_1, fv_2, fv_3, fv_4, fv_5, fv_6, fv_7, fv_8, fv_9, fv_10, fv_11, fv_12, fv_13, fv_14, fv_15, fv_16, fv_17, fv_18, fv_19, fd_0 hG, fd_1 hG, fd_2 hG, fd_3 hG, fd_4 hG, fd_5 hG, fd_6 hG, fd_7 hG, fd_8 hG, ft_C hG, ft_0 hG, ft_1 hG, ft_2 hG, ft_3 hG, ft_4 hG, ft_5 hG, ft_6 hG, ft_7 hG, ft_8 hG, ft_9 hG, ft_10 hG, ft_11 hG, ft_12 hG, fp_0 hG, fp_1 hG, fp_2 hG, fp_3 hG, fp_4 hG, fp_5 hG, fp_6 hG, fp_7 hG, fp_8 hG, fp_9 hG, hR.g1, hR.g2, hR.g3, hR.g4, hR.g5, hR.g6, hR.h7, hR.h8, hR.h9, hR.h10, hR.a0, hR.a1, hR.a2, hR.a3, hR.a4, hR.a5, hR.a6, hR.a7, hR.a8, hT.u0, hT.u1, hT.u2, hT.a0, hT.a1, hT.a2, hT.a3, hT.a4, bS, rd_nN, nN_lit, nN_add, nN_mul, nN_le, nN_lt, nN_eq, jn_def, mI_lit, bI_0, bI_1, n01, n10, if_true, if_false, ite_not, nP_P]
      rw [if_pos (by omega), show v (44 + s) - k = 0 by omega]
      show _ = some (nN (v (44 + s)))
      rw [show k = v (44 + s) by omega]
    | succ d ih =>
      intro k fu hk hk2 hf
      obtain ⟨f, rfl⟩ : ∃ f, fu = f + 1 := ⟨fu - 1, by omega⟩
      rw [pl_X2_rankClass_5]
      have e1 := c_rowEntry (M := (ofc B r b t tb g h ar u ta)) (w := fun i => v (68 + 3 * s + i)) (n := v (44 + s)) (i := k) (by omega) hrl (by omega)
      simp (disch := first | omega | (apply hb; omega)) only [fv_isC, fv_0, fv_1, fv_2, fv_3, fv_4, fv_5, fv_6, fv_7, fv_8, fv_9, fv_10, fv_11, fv_12, fv_13, fv_14, fv_15, fv_16, fv_17, fv_18, fv_19, fd_0 hG, fd_1 hG, fd_2 hG, fd_3 hG, fd_4 hG, fd_5 hG, fd_6 hG, fd_7 hG, fd_8 hG, ft_C hG, ft_0 hG, ft_1 hG, ft_2 hG, ft_3 hG, ft_4 hG, ft_5 hG, ft_6 hG, ft_7 hG, ft_8 hG, ft_9 hG, ft_10 hG, ft_11 hG, ft_12 hG, fp_0 hG, fp_1 hG, fp_2 hG, fp_3 hG, fp_4 hG, fp_5 hG, fp_6 hG, fp_7 hG, fp_8 hG, fp_9 hG, hR.g1, hR.g2, hR.g3, hR.g4, hR.g5, hR.g6, hR.h7, hR.h8, hR.h9, hR.h10, hR.a0, hR.a1, hR.a2, hR.a3, hR.a4, hR.a5, hR.a6, hR.a7, hR.a8, hT.u0, hT.u1, hT.u2, hT.a0, hT.a1, hT.a2, hT.a3, hT.a4, bS, rd_nN, nN_lit, nN_add, nN_mul, nN_le, nN_lt, nN_eq, jn_def, mI_lit, bI_0, bI_1, n01, n10, if_true, if_false, ite_not, nP_P, e1]
      rw [if_neg (by omega)]
      by_cases c1 : k < v (44 + s)
      · have e2 := c_fits B hG hR hT hI hc hs (k := v (68 + 3 * s + k)) (hb _ (by omega))
        have i2 := ih (k + 1) f (by omega) (by omega) (by omega)
        rw [if_pos c1, show v (44 + s) - k = (v (44 + s) - (k + 1)) + 1 by omega, fnd]
        show (if nN (v (68 + 3 * s + k)) = mI then _ else Option.bind (p_X2_fits r (nN c) (nN s) (nN (v (68 + 3 * s + k))) (ofc B r b t tb g h ar u ta)) _) = _
        rw [if_neg (nNm (hb _ (by omega))), e2, bS]
        by_cases c2 : meeB v c s (v (68 + 3 * s + k)) = true
        · rw [← bI_t c2, if_neg (by decide), if_pos c2]; rfl
        · rw [← bI_f c2, if_pos rfl, if_neg c2, i2]
      · rw [if_neg c1, show v (44 + s) - k = 0 by omega]
        show (if mI = mI then _ else _) = _
        rw [if_pos rfl]
        show some (nN k) = some (nN (v (44 + s)))
        rw [show k = v (44 + s) by omega]
  exact key 3 0 FU (by omega) (by omega) (FU_pos (by omega))
theorem st_build {l k f o c : Nat} (hl : l < 2) (hk : k < 4) (hf : f < 32768) (ho : o < 16384) (hc : c < 64) : ((((((((lN l <<< (Int32.toInt64 (2 : Int32) &&& 63)) ||| (Int32.toInt64 (nN k))) <<< (Int32.toInt64 (15 : Int32) &&& 63)) ||| (Int32.toInt64 (nN f))) <<< (Int32.toInt64 (14 : Int32) &&& 63)) ||| (Int32.toInt64 (nN o))) <<< (Int32.toInt64 (6 : Int32) &&& 63)) ||| (Int32.toInt64 (nN c))) = lN ((((l * 4 + k) * 32768 + f) * 16384 + o) * 64 + c) := by
  have a1 : ∀ x, lN x <<< (Int32.toInt64 (2 : Int32) &&& 63) = lN (2 ^ 2 * x) := fun x => by have := wb_shl x (k := 2) (by decide); rw [Nat.mul_comm] at this; exact this
  have a2 : ∀ x, lN x <<< (Int32.toInt64 (15 : Int32) &&& 63) = lN (2 ^ 15 * x) := fun x => by have := wb_shl x (k := 15) (by decide); rw [Nat.mul_comm] at this; exact this
  have a3 : ∀ x, lN x <<< (Int32.toInt64 (14 : Int32) &&& 63) = lN (2 ^ 14 * x) := fun x => by have := wb_shl x (k := 14) (by decide); rw [Nat.mul_comm] at this; exact this
  have a4 : ∀ x, lN x <<< (Int32.toInt64 (6 : Int32) &&& 63) = lN (2 ^ 6 * x) := fun x => by have := wb_shl x (k := 6) (by decide); rw [Nat.mul_comm] at this; exact this
  have w : ∀ x, x < 2 ^ 31 → Int32.toInt64 (nN x) = lN x := fun x hx => nI_l hx
  rw [w k (by omega), w f (by omega), w o (by omega), w c (by omega), a1, fb_or_sumL _ (by omega), a2, fb_or_sumL _ (by omega), a3, fb_or_sumL _ (by omega), a4, fb_or_sumL _ (by omega)]
  congr 1
  omega
theorem st_lt (hI : Inv v pl) {c s : Nat} (hc : c < 40) (hs : s < 8) : stS v s c < 2 ^ 40 := by
  have := cls_le hI (c := c) hs; have := far_le hI hc hs; have := (hI.chi c hc).2.2.2.2.1
  unfold stS latS
  split <;> omega
theorem c_standing (B : Mem) (hG : GE r b t tb) (hR : RG g h ar v pl) (hT : TG u ta v cd) (hI : Inv v pl) {c s : Nat} (hc : c < v 1) (hs : s < v 0) : p_X2_standing r (nN c) (nN s) (ofc B r b t tb g h ar u ta) = some (lN (stS v s c)) := by
  have hb := hI.hb; have h0 := hI.h0; have h1 := hI.h1; have h2 := hI.h2; have h7 := hI.h7; have h8 := hI.h8
  have hch := hI.chi c (by omega)
  have e1 := c_rankClass B hG hR hT hI hc hs
  have e2 := c_squareWay B hG hR hT hI hc hs
  have e3 : p_X6_isIn (mkL (fun c => v (364 + c) = 1) (v 1)) (nN c) (ofc B r b t tb g h ar u ta) = some (bI (v (364 + c) = 1)) := c_isIn (by omega) hc
  have b1 := cls_le hI (c := c) (s := s) (by omega); have b2 := far_le hI (c := c) (s := s) (by omega) (by omega)
  have hz : (0 : Int64) = lN 0 := rfl
  have ho : (1 : Int64) = lN 1 := rfl
  have f0 := st_build (l := 0) (k := clsS v c s) (f := farS v c s) (o := v (284 + c)) (c := c) (by omega) (by omega) (by omega) (by omega) (by omega)
  have f1 := st_build (l := 1) (k := clsS v c s) (f := farS v c s) (o := v (284 + c)) (c := c) (by omega) (by omega) (by omega) (by omega) (by omega)
  unfold p_X2_standing stS latS
  simp (disch := first | omega | (apply hb; omega)) only [jn_def, fv_isC, fv_3, fv_8, fv_14, fd_3 hG, hR.g3, hR.h8, hR.a3, bS, rd_nN, e1, e2, e3, hz, ho, f0, f1]
  by_cases c1 : v 7 = 1
  · by_cases c2 : v (364 + c) = 1
    · rw [← bI_t c2, c1, if_neg (by decide), if_neg (by decide), if_pos ⟨rfl, c2⟩]
    · rw [← bI_f c2, c1, if_neg (by decide), if_pos (by rfl), if_neg (fun z => c2 z.2)]
  · rw [show v 7 = 0 by omega, if_pos (by rfl), if_neg (fun z => by omega)]
end CR
/-- the least by a key of those that are so -/
def mnO (P : Nat → Prop) [DecidablePred P] (key : Nat → Nat) : Nat → Option Nat
  | 0 => none
  | n + 1 => if P n ∧ ((mnO P key n).all (fun l => decide (key n < key l))) = true then some n else mnO P key n
theorem mnO_lt {P : Nat → Prop} [DecidablePred P] {key : Nat → Nat} : ∀ {n i : Nat}, mnO P key n = some i → i < n ∧ P i := by
  intro n
  induction n with
  | zero => intro i h; cases h
  | succ n ih =>
    intro i h
    unfold mnO at h
    split at h
    · rename_i hc; cases h; exact ⟨by omega, hc.1⟩
    · have := ih h; exact ⟨by omega, this.2⟩
def kyO (key : Nat → Nat) (o : Option Nat) : Nat := match o with
  | none => 0
  | some l => key l
def clmB (v : Nat → Nat) (pl : Nat → Option Nat) (c s : Nat) : Bool := waiB v pl c s && (match mxO (fun k => pl k = some s ∧ ¬ v (444 + k) = 1) (stS v s) (v 1) with
  | none => false
  | some l => decide (stS v s c < stS v s l))
def trdB (v : Nat → Nat) (pl : Nat → Option Nat) (c d : Nat) : Bool := match pl c, pl d with
  | some s, some t => prfB v pl c t && prfB v pl d s
  | _, _ => false
section CR
variable {B : Mem} {r b t tb : Nat} {g : Nat → Int32} {h : Nat → Int64} {ar : Nat → Nat → Int32} {u : Nat → Int32} {ta : Nat → Nat → Int32} {v : Nat → Nat} {pl : Nat → Option Nat} {cd : Nat → Nat}
theorem c_lastOf (B : Mem) (hG : GE r b t tb) (hR : RG g h ar v pl) (hT : TG u ta v cd) (hI : Inv v pl) {P : Nat → Prop} [DecidablePred P] {s : Nat} (hs : s < v 0) : p_X2_lastOf r (mkL P (v 1)) (nN s) (ofc B r b t tb g h ar u ta) = some (oN (mxO P (stS v s) (v 1))) := by
  have hb := hI.hb; have h0 := hI.h0; have h1 := hI.h1; have h2 := hI.h2; have h7 := hI.h7; have h8 := hI.h8
  unfold p_X2_lastOf
  have key : ∀ d k fu, k + d = v 1 → d < fu → pl_X2_lastOf_9 (fun z => some z) r (mkL P (v 1)) (nN s) (ofc B r b t tb g h ar u ta) fu (oN (mxO P (stS v s) k)) (lN (kyO (stS v s) (mxO P (stS v s) k))) (nN k) = some (oN (mxO P (stS v s) (v 1))) := by
    intro d
    induction d with
    | zero =>
      intro k fu hk hf
      obtain ⟨f, rfl⟩ : ∃ f, fu = f + 1 := ⟨fu - 1, by omega⟩
      rw [pl_X2_lastOf_9]
      simp (disch := first | omega | (apply hb; omega)) only [fv_isC, fv_0, fv_1, fv_2, fv_3, fv_4, fv_5, fv_6, fv_7, fv_8, fv_9, fv_10, fv_11, fv_12, fv_13, fv_14, fv_15, fv_16, fv_17, fv_18, fv_19, fd_0 hG, fd_1 hG, fd_2 hG, fd_3 hG, fd_4 hG, fd_5 hG, fd_6 hG, fd_7 hG, fd_8 hG, ft_C hG, ft_0 hG, ft_1 hG, ft_2 hG, ft_3 hG, ft_4 hG, ft_5 hG, ft_6 hG, ft_7 hG, ft_8 hG, ft_9 hG, ft_10 hG, ft_11 hG, ft_12 hG, fp_0 hG, fp_1 hG, fp_2 hG, fp_3 hG, fp_4 hG, fp_5 hG, fp_6 hG, fp_7 hG, fp_8 hG, fp_9 hG, hR.g1, hR.g2, hR.g3, hR.g4, hR.g5, hR.g6, hR.h7, hR.h8, hR.h9, hR.h10, hR.a0, hR.a1, hR.a2, hR.a3, hR.a4, hR.a5, hR.a6, hR.a7, hR.a8, hT.u0, hT.u1, hT.u2, hT.a0, hT.a1, hT.a2, hT.a3, hT.a4, bS, rd_nN, nN_lit, nN_add, nN_mul, nN_le, nN_lt, nN_eq, jn_def, mI_lit, bI_0, bI_1, n01, n10, if_true, if_false, ite_not, nP_P]
      rw [if_pos (by omega), show k = v 1 by omega]
    | succ d ih =>
      intro k fu hk hf
      obtain ⟨f, rfl⟩ : ∃ f, fu = f + 1 := ⟨fu - 1, by omega⟩
      have ih := ih (k + 1) f (by omega) (by omega)
      rw [pl_X2_lastOf_9]
      have e1 : p_X6_isIn (mkL P (v 1)) (nN k) (ofc B r b t tb g h ar u ta) = some (bI (P k)) := c_isIn (by omega) (by omega)
      have e2 := c_standing B hG hR hT hI (c := k) (s := s) (by omega) hs
      have l1 := st_lt hI (c := k) (s := s) (by omega) (by omega)
      simp (disch := first | omega | (apply hb; omega)) only [fv_isC, fv_0, fv_1, fv_2, fv_3, fv_4, fv_5, fv_6, fv_7, fv_8, fv_9, fv_10, fv_11, fv_12, fv_13, fv_14, fv_15, fv_16, fv_17, fv_18, fv_19, fd_0 hG, fd_1 hG, fd_2 hG, fd_3 hG, fd_4 hG, fd_5 hG, fd_6 hG, fd_7 hG, fd_8 hG, ft_C hG, ft_0 hG, ft_1 hG, ft_2 hG, ft_3 hG, ft_4 hG, ft_5 hG, ft_6 hG, ft_7 hG, ft_8 hG, ft_9 hG, ft_10 hG, ft_11 hG, ft_12 hG, fp_0 hG, fp_1 hG, fp_2 hG, fp_3 hG, fp_4 hG, fp_5 hG, fp_6 hG, fp_7 hG, fp_8 hG, fp_9 hG, hR.g1, hR.g2, hR.g3, hR.g4, hR.g5, hR.g6, hR.h7, hR.h8, hR.h9, hR.h10, hR.a0, hR.a1, hR.a2, hR.a3, hR.a4, hR.a5, hR.a6, hR.a7, hR.a8, hT.u0, hT.u1, hT.u2, hT.a0, hT.a1, hT.a2, hT.a3, hT.a4, bS, rd_nN, nN_lit, nN_add, nN_mul, nN_le, nN_lt, nN_eq, jn_def, mI_lit, bI_0, bI_1, n01, n10, if_true, if_false, ite_not, nP_P, e1, e2]
      rw [if_neg (by omega), ← ih]
      show _ = pl_X2_lastOf_9 _ _ _ _ _ _ (oN (if _ then _ else _)) (lN (kyO _ (if _ then _ else _))) _
      by_cases c1 : P k
      · rw [if_pos c1]
        cases hl : mxO P (stS v s) k with
        | none =>
          show (if mI = mI then _ else _) = _
          rw [if_pos rfl, if_pos ⟨c1, rfl⟩]; rfl
        | some l =>
          have hlk := mxO_lt hl
          have l2 := st_lt hI (c := l) (s := s) (by omega) (by omega)
          rw [if_neg (by show ¬ nN l = mI; rw [nN_mI (by omega)]; exact id)]
          show (if lg_cmp (lN (stS v s k)) (lN (stS v s l)) ≤ 0 then _ else _) = _
          simp only [lgc_le (show stS v s k < 2 ^ 63 by omega) (show stS v s l < 2 ^ 63 by omega)]
          by_cases c3 : stS v s l < stS v s k
          · rw [if_neg (by omega), if_pos ⟨c1, by simp [c3]⟩]; rfl
          · rw [if_pos (by omega), if_neg (fun h => by simp [c3] at h)]
      · rw [if_neg c1, if_neg (fun h => c1 h.1)]
  exact key (v 1) 0 FU (by omega) (FU_pos (by omega))
theorem c_firstOf (B : Mem) (hG : GE r b t tb) (hR : RG g h ar v pl) (hT : TG u ta v cd) (hI : Inv v pl) {P : Nat → Prop} [DecidablePred P] {s : Nat} (hs : s < v 0) : p_X2_firstOf r (mkL P (v 1)) (nN s) (ofc B r b t tb g h ar u ta) = some (oN (mnO P (stS v s) (v 1))) := by
  have hb := hI.hb; have h0 := hI.h0; have h1 := hI.h1; have h2 := hI.h2; have h7 := hI.h7; have h8 := hI.h8
  unfold p_X2_firstOf
  have key : ∀ d k fu, k + d = v 1 → d < fu → pl_X2_firstOf_9 (fun z => some z) r (mkL P (v 1)) (nN s) (ofc B r b t tb g h ar u ta) fu (oN (mnO P (stS v s) k)) (lN (kyO (stS v s) (mnO P (stS v s) k))) (nN k) = some (oN (mnO P (stS v s) (v 1))) := by
    intro d
    induction d with
    | zero =>
      intro k fu hk hf
      obtain ⟨f, rfl⟩ : ∃ f, fu = f + 1 := ⟨fu - 1, by omega⟩
      rw [pl_X2_firstOf_9]
      simp (disch := first | omega | (apply hb; omega)) only [fv_isC, fv_0, fv_1, fv_2, fv_3, fv_4, fv_5, fv_6, fv_7, fv_8, fv_9, fv_10, fv_11, fv_12, fv_13, fv_14, fv_15, fv_16, fv_17, fv_18, fv_19, fd_0 hG, fd_1 hG, fd_2 hG, fd_3 hG, fd_4 hG, fd_5 hG, fd_6 hG, fd_7 hG, fd_8 hG, ft_C hG, ft_0 hG, ft_1 hG, ft_2 hG, ft_3 hG, ft_4 hG, ft_5 hG, ft_6 hG, ft_7 hG, ft_8 hG, ft_9 hG, ft_10 hG, ft_11 hG, ft_12 hG, fp_0 hG, fp_1 hG, fp_2 hG, fp_3 hG, fp_4 hG, fp_5 hG, fp_6 hG, fp_7 hG, fp_8 hG, fp_9 hG, hR.g1, hR.g2, hR.g3, hR.g4, hR.g5, hR.g6, hR.h7, hR.h8, hR.h9, hR.h10, hR.a0, hR.a1, hR.a2, hR.a3, hR.a4, hR.a5, hR.a6, hR.a7, hR.a8, hT.u0, hT.u1, hT.u2, hT.a0, hT.a1, hT.a2, hT.a3, hT.a4, bS, rd_nN, nN_lit, nN_add, nN_mul, nN_le, nN_lt, nN_eq, jn_def, mI_lit, bI_0, bI_1, n01, n10, if_true, if_false, ite_not, nP_P]
      rw [if_pos (by omega), show k = v 1 by omega]
    | succ d ih =>
      intro k fu hk hf
      obtain ⟨f, rfl⟩ : ∃ f, fu = f + 1 := ⟨fu - 1, by omega⟩
      have ih := ih (k + 1) f (by omega) (by omega)
      rw [pl_X2_firstOf_9]
      have e1 : p_X6_isIn (mkL P (v 1)) (nN k) (ofc B r b t tb g h ar u ta) = some (bI (P k)) := c_isIn (by omega) (by omega)
      have e2 := c_standing B hG hR hT hI (c := k) (s := s) (by omega) hs
      have l1 := st_lt hI (c := k) (s := s) (by omega) (by omega)
      simp (disch := first | omega | (apply hb; omega)) only [fv_isC, fv_0, fv_1, fv_2, fv_3, fv_4, fv_5, fv_6, fv_7, fv_8, fv_9, fv_10, fv_11, fv_12, fv_13, fv_14, fv_15, fv_16, fv_17, fv_18, fv_19, fd_0 hG, fd_1 hG, fd_2 hG, fd_3 hG, fd_4 hG, fd_5 hG, fd_6 hG, fd_7 hG, fd_8 hG, ft_C hG, ft_0 hG, ft_1 hG, ft_2 hG, ft_3 hG, ft_4 hG, ft_5 hG, ft_6 hG, ft_7 hG, ft_8 hG, ft_9 hG, ft_10 hG, ft_11 hG, ft_12 hG, fp_0 hG, fp_1 hG, fp_2 hG, fp_3 hG, fp_4 hG, fp_5 hG, fp_6 hG, fp_7 hG, fp_8 hG, fp_9 hG, hR.g1, hR.g2, hR.g3, hR.g4, hR.g5, hR.g6, hR.h7, hR.h8, hR.h9, hR.h10, hR.a0, hR.a1, hR.a2, hR.a3, hR.a4, hR.a5, hR.a6, hR.a7, hR.a8, hT.u0, hT.u1, hT.u2, hT.a0, hT.a1, hT.a2, hT.a3, hT.a4, bS, rd_nN, nN_lit, nN_add, nN_mul, nN_le, nN_lt, nN_eq, jn_def, mI_lit, bI_0, bI_1, n01, n10, if_true, if_false, ite_not, nP_P, e1, e2]
      rw [if_neg (by omega), ← ih]
      show _ = pl_X2_firstOf_9 _ _ _ _ _ _ (oN (if _ then _ else _)) (lN (kyO _ (if _ then _ else _))) _
      by_cases c1 : P k
      · rw [if_pos c1]
        cases hl : mnO P (stS v s) k with
        | none =>
          show (if mI = mI then _ else _) = _
          rw [if_pos rfl, if_pos ⟨c1, rfl⟩]; rfl
        | some l =>
          have hlk := mnO_lt hl
          have l2 := st_lt hI (c := l) (s := s) (by omega) (by omega)
          rw [if_neg (by show ¬ nN l = mI; rw [nN_mI (by omega)]; exact id)]
          have hge := lgc_ge (a := stS v s k) (b := stS v s l) (by omega) (by omega)
          simp only [nN_lit] at hge
          show (if nN 0 ≤ lg_cmp (lN (stS v s k)) (lN (stS v s l)) then _ else _) = _
          simp only [hge]
          by_cases c3 : stS v s k < stS v s l
          · rw [if_neg (by omega), if_pos ⟨c1, by simp [c3]⟩]; rfl
          · rw [if_pos (by omega), if_neg (fun h => by simp [c3] at h)]
      · rw [if_neg c1, if_neg (fun h => c1 h.1)]
  exact key (v 1) 0 FU (by omega) (FU_pos (by omega))
theorem c_aheadOf (B : Mem) (hG : GE r b t tb) (hR : RG g h ar v pl) (hT : TG u ta v cd) (hI : Inv v pl) {P : Nat → Prop} [DecidablePred P] {c s : Nat} (hc : c < v 1) (hs : s < v 0) : p_X2_aheadOf r (nN c) (mkL P (v 1)) (nN s) (ofc B r b t tb g h ar u ta) = some (nN (cnt (fun k => P k ∧ stS v s k < stS v s c) (v 1))) := by
  have hb := hI.hb; have h0 := hI.h0; have h1 := hI.h1; have h2 := hI.h2; have h7 := hI.h7; have h8 := hI.h8
  have e0 := c_standing B hG hR hT hI hc hs
  have l0 := st_lt hI (c := c) (s := s) (by omega) (by omega)
  unfold p_X2_aheadOf
  simp only [fv_isC, bS, e0]
  have hFU : v 1 < FU := FU_pos (by omega)
  generalize FU = F at hFU ⊢
  refine loop_cnt (L := fun fu k x => pl_X2_aheadOf_15 (fun z => some z) r (mkL P (v 1)) (nN s) (lN (stS v s c)) (ofc B r b t tb g h ar u ta) fu (nN x) (nN k)) (P := fun k => P k ∧ stS v s k < stS v s c) (fin := fun x => some (nN x)) (n := v 1) (fun fu k x hk hx => ?_) (fun fu x hx => ?_) F hFU
  · rw [pl_X2_aheadOf_15]
    have e1 : p_X6_isIn (mkL P (v 1)) (nN k) (ofc B r b t tb g h ar u ta) = some (bI (P k)) := c_isIn (by omega) (by omega)
    have e2 := c_standing B hG hR hT hI (c := k) (s := s) (by omega) hs
    have l1 := st_lt hI (c := k) (s := s) (by omega) (by omega)
    have hge := lgc_ge (a := stS v s k) (b := stS v s c) (by omega) (by omega)
    simp only [nN_lit] at hge
    simp (disch := first | omega | (apply hb; omega)) only [fv_isC, fv_0, fv_1, fv_2, fv_3, fv_4, fv_5, fv_6, fv_7, fv_8, fv_9, fv_10, fv_11, fv_12, fv_13, fv_14, fv_15, fv_16, fv_17, fv_18, fv_19, fd_0 hG, fd_1 hG, fd_2 hG, fd_3 hG, fd_4 hG, fd_5 hG, fd_6 hG, fd_7 hG, fd_8 hG, ft_C hG, ft_0 hG, ft_1 hG, ft_2 hG, ft_3 hG, ft_4 hG, ft_5 hG, ft_6 hG, ft_7 hG, ft_8 hG, ft_9 hG, ft_10 hG, ft_11 hG, ft_12 hG, fp_0 hG, fp_1 hG, fp_2 hG, fp_3 hG, fp_4 hG, fp_5 hG, fp_6 hG, fp_7 hG, fp_8 hG, fp_9 hG, hR.g1, hR.g2, hR.g3, hR.g4, hR.g5, hR.g6, hR.h7, hR.h8, hR.h9, hR.h10, hR.a0, hR.a1, hR.a2, hR.a3, hR.a4, hR.a5, hR.a6, hR.a7, hR.a8, hT.u0, hT.u1, hT.u2, hT.a0, hT.a1, hT.a2, hT.a3, hT.a4, bS, rd_nN, nN_lit, nN_add, nN_mul, nN_le, nN_lt, nN_eq, jn_def, mI_lit, bI_0, bI_1, n01, n10, if_true, if_false, ite_not, nP_P, e1, e2, hge]
    rw [if_neg (by omega)]
    by_cases c1 : P k
    · by_cases c2 : stS v s k < stS v s c
      · rw [if_pos c1, if_neg (by omega), if_pos ⟨c1, c2⟩]
      · rw [if_pos c1, if_pos (by omega), if_neg (fun z => c2 z.2)]
    · rw [if_neg c1, if_neg (fun z => c1 z.1)]
  · rw [pl_X2_aheadOf_15]
    simp (disch := first | omega | (apply hb; omega)) only [fv_isC, fv_0, fv_1, fv_2, fv_3, fv_4, fv_5, fv_6, fv_7, fv_8, fv_9, fv_10, fv_11, fv_12, fv_13, fv_14, fv_15, fv_16, fv_17, fv_18, fv_19, fd_0 hG, fd_1 hG, fd_2 hG, fd_3 hG, fd_4 hG, fd_5 hG, fd_6 hG, fd_7 hG, fd_8 hG, ft_C hG, ft_0 hG, ft_1 hG, ft_2 hG, ft_3 hG, ft_4 hG, ft_5 hG, ft_6 hG, ft_7 hG, ft_8 hG, ft_9 hG, ft_10 hG, ft_11 hG, ft_12 hG, fp_0 hG, fp_1 hG, fp_2 hG, fp_3 hG, fp_4 hG, fp_5 hG, fp_6 hG, fp_7 hG, fp_8 hG, fp_9 hG, hR.g1, hR.g2, hR.g3, hR.g4, hR.g5, hR.g6, hR.h7, hR.h8, hR.h9, hR.h10, hR.a0, hR.a1, hR.a2, hR.a3, hR.a4, hR.a5, hR.a6, hR.a7, hR.a8, hT.u0, hT.u1, hT.u2, hT.a0, hT.a1, hT.a2, hT.a3, hT.a4, bS, rd_nN, nN_lit, nN_add, nN_mul, nN_le, nN_lt, nN_eq, jn_def, mI_lit, bI_0, bI_1, n01, n10, if_true, if_false, ite_not, nP_P]
    rw [if_pos (by omega)]
theorem c_orderedOf (B : Mem) (hG : GE r b t tb) (hR : RG g h ar v pl) (hT : TG u ta v cd) (hI : Inv v pl) {P : Nat → Prop} [DecidablePred P] {s : Nat} (hs : s < v 0) (i : Int32) : p_X2_orderedOf r (mkL P (v 1)) (nN s) i (ofc B r b t tb g h ar u ta) = some (oN (fnd (fun k => P k ∧ nN (cnt (fun l => P l ∧ stS v s l < stS v s k) (v 1)) = i) 0 (v 1))) := by
  have hb := hI.hb; have h0 := hI.h0; have h1 := hI.h1; have h2 := hI.h2; have h7 := hI.h7; have h8 := hI.h8
  unfold p_X2_orderedOf
  have hFU : v 1 < FU := FU_pos (by omega)
  generalize FU = F at hFU ⊢
  refine loop_fnd (L := fun fu k => pl_X2_orderedOf_3 (fun z => some z) (fun _ => some (-1 : Int32)) r (mkL P (v 1)) (nN s) i (ofc B r b t tb g h ar u ta) fu (nN k)) (P := fun k => P k ∧ nN (cnt (fun l => P l ∧ stS v s l < stS v s k) (v 1)) = i) (fin := fun o => some (oN o)) (n := v 1) (fun fu k hk => ?_) (fun fu => ?_) (v 1) 0 F (by omega) hFU
  · rw [pl_X2_orderedOf_3]
    have e1 : p_X6_isIn (mkL P (v 1)) (nN k) (ofc B r b t tb g h ar u ta) = some (bI (P k)) := c_isIn (by omega) (by omega)
    have e2 := c_aheadOf B hG hR hT hI (P := P) (c := k) (s := s) (by omega) hs
    simp (disch := first | omega | (apply hb; omega)) only [fv_isC, fv_0, fv_1, fv_2, fv_3, fv_4, fv_5, fv_6, fv_7, fv_8, fv_9, fv_10, fv_11, fv_12, fv_13, fv_14, fv_15, fv_16, fv_17, fv_18, fv_19, fd_0 hG, fd_1 hG, fd_2 hG, fd_3 hG, fd_4 hG, fd_5 hG, fd_6 hG, fd_7 hG, fd_8 hG, ft_C hG, ft_0 hG, ft_1 hG, ft_2 hG, ft_3 hG, ft_4 hG, ft_5 hG, ft_6 hG, ft_7 hG, ft_8 hG, ft_9 hG, ft_10 hG, ft_11 hG, ft_12 hG, fp_0 hG, fp_1 hG, fp_2 hG, fp_3 hG, fp_4 hG, fp_5 hG, fp_6 hG, fp_7 hG, fp_8 hG, fp_9 hG, hR.g1, hR.g2, hR.g3, hR.g4, hR.g5, hR.g6, hR.h7, hR.h8, hR.h9, hR.h10, hR.a0, hR.a1, hR.a2, hR.a3, hR.a4, hR.a5, hR.a6, hR.a7, hR.a8, hT.u0, hT.u1, hT.u2, hT.a0, hT.a1, hT.a2, hT.a3, hT.a4, bS, rd_nN, nN_lit, nN_add, nN_mul, nN_le, nN_lt, nN_eq, jn_def, mI_lit, bI_0, bI_1, n01, n10, if_true, if_false, ite_not, nP_P, e1, e2]
    rw [if_neg (by omega)]
    by_cases c1 : P k
    · by_cases c2 : nN (cnt (fun l => P l ∧ stS v s l < stS v s k) (v 1)) = i
      · rw [if_pos c1, if_pos c2, if_pos ⟨c1, c2⟩]; rfl
      · rw [if_pos c1, if_neg c2, if_neg (fun z => c2 z.2)]
    · rw [if_neg c1, if_neg (fun z => c1 z.1)]
  · rw [pl_X2_orderedOf_3]
    simp (disch := first | omega | (apply hb; omega)) only [fv_isC, fv_0, fv_1, fv_2, fv_3, fv_4, fv_5, fv_6, fv_7, fv_8, fv_9, fv_10, fv_11, fv_12, fv_13, fv_14, fv_15, fv_16, fv_17, fv_18, fv_19, fd_0 hG, fd_1 hG, fd_2 hG, fd_3 hG, fd_4 hG, fd_5 hG, fd_6 hG, fd_7 hG, fd_8 hG, ft_C hG, ft_0 hG, ft_1 hG, ft_2 hG, ft_3 hG, ft_4 hG, ft_5 hG, ft_6 hG, ft_7 hG, ft_8 hG, ft_9 hG, ft_10 hG, ft_11 hG, ft_12 hG, fp_0 hG, fp_1 hG, fp_2 hG, fp_3 hG, fp_4 hG, fp_5 hG, fp_6 hG, fp_7 hG, fp_8 hG, fp_9 hG, hR.g1, hR.g2, hR.g3, hR.g4, hR.g5, hR.g6, hR.h7, hR.h8, hR.h9, hR.h10, hR.a0, hR.a1, hR.a2, hR.a3, hR.a4, hR.a5, hR.a6, hR.a7, hR.a8, hT.u0, hT.u1, hT.u2, hT.a0, hT.a1, hT.a2, hT.a3, hT.a4, bS, rd_nN, nN_lit, nN_add, nN_mul, nN_le, nN_lt, nN_eq, jn_def, mI_lit, bI_0, bI_1, n01, n10, if_true, if_false, ite_not, nP_P]
    rw [if_pos (by omega)]
    rfl
theorem c_holdersOf (B : Mem) (hG : GE r b t tb) (hR : RG g h ar v pl) (hT : TG u ta v cd) (hI : Inv v pl) {s : Nat} (hs : s < 15) : p_X2_holdersOf r (nN s) (ofc B r b t tb g h ar u ta) = some (mkL (fun k => pl k = some s) (v 1)) := by
  have hb := hI.hb; have h0 := hI.h0; have h1 := hI.h1; have h2 := hI.h2; have h7 := hI.h7; have h8 := hI.h8
  have hpe : ∀ k, (oN (pl k) = nN s) = (pl k = some s) := fun k => oN_eq (hI.plb k) (by omega)
  unfold p_X2_holdersOf
  have hFU : v 1 < FU := FU_pos (by omega)
  generalize FU = F at hFU ⊢
  refine loop_mk (L := fun fu x k => pl_X2_holdersOf_5 (fun z => some z) r (nN s) (ofc B r b t tb g h ar u ta) fu x (nN k)) (P := fun k => pl k = some s) (fin := fun x => some x) (n := v 1) (by omega) (fun fu x k hk => ?_) (fun fu x => ?_) F hFU
  · rw [pl_X2_holdersOf_5]
    simp (disch := first | omega | (apply hb; omega)) only [fv_isC, fv_0, fv_1, fv_2, fv_3, fv_4, fv_5, fv_6, fv_7, fv_8, fv_9, fv_10, fv_11, fv_12, fv_13, fv_14, fv_15, fv_16, fv_17, fv_18, fv_19, fd_0 hG, fd_1 hG, fd_2 hG, fd_3 hG, fd_4 hG, fd_5 hG, fd_6 hG, fd_7 hG, fd_8 hG, ft_C hG, ft_0 hG, ft_1 hG, ft_2 hG, ft_3 hG, ft_4 hG, ft_5 hG, ft_6 hG, ft_7 hG, ft_8 hG, ft_9 hG, ft_10 hG, ft_11 hG, ft_12 hG, fp_0 hG, fp_1 hG, fp_2 hG, fp_3 hG, fp_4 hG, fp_5 hG, fp_6 hG, fp_7 hG, fp_8 hG, fp_9 hG, hR.g1, hR.g2, hR.g3, hR.g4, hR.g5, hR.g6, hR.h7, hR.h8, hR.h9, hR.h10, hR.a0, hR.a1, hR.a2, hR.a3, hR.a4, hR.a5, hR.a6, hR.a7, hR.a8, hT.u0, hT.u1, hT.u2, hT.a0, hT.a1, hT.a2, hT.a3, hT.a4, bS, rd_nN, nN_lit, nN_add, nN_mul, nN_le, nN_lt, nN_eq, jn_def, mI_lit, bI_0, bI_1, n01, n10, if_true, if_false, ite_not, nP_P, hpe]
    rw [if_neg (by omega)]
  · rw [pl_X2_holdersOf_5]
    simp (disch := first | omega | (apply hb; omega)) only [fv_isC, fv_0, fv_1, fv_2, fv_3, fv_4, fv_5, fv_6, fv_7, fv_8, fv_9, fv_10, fv_11, fv_12, fv_13, fv_14, fv_15, fv_16, fv_17, fv_18, fv_19, fd_0 hG, fd_1 hG, fd_2 hG, fd_3 hG, fd_4 hG, fd_5 hG, fd_6 hG, fd_7 hG, fd_8 hG, ft_C hG, ft_0 hG, ft_1 hG, ft_2 hG, ft_3 hG, ft_4 hG, ft_5 hG, ft_6 hG, ft_7 hG, ft_8 hG, ft_9 hG, ft_10 hG, ft_11 hG, ft_12 hG, fp_0 hG, fp_1 hG, fp_2 hG, fp_3 hG, fp_4 hG, fp_5 hG, fp_6 hG, fp_7 hG, fp_8 hG, fp_9 hG, hR.g1, hR.g2, hR.g3, hR.g4, hR.g5, hR.g6, hR.h7, hR.h8, hR.h9, hR.h10, hR.a0, hR.a1, hR.a2, hR.a3, hR.a4, hR.a5, hR.a6, hR.a7, hR.a8, hT.u0, hT.u1, hT.u2, hT.a0, hT.a1, hT.a2, hT.a3, hT.a4, bS, rd_nN, nN_lit, nN_add, nN_mul, nN_le, nN_lt, nN_eq, jn_def, mI_lit, bI_0, bI_1, n01, n10, if_true, if_false, ite_not, nP_P]
    rw [if_pos (by omega)]
theorem c_placedOnes (B : Mem) (hG : GE r b t tb) (hR : RG g h ar v pl) (hT : TG u ta v cd) (hI : Inv v pl) : p_X2_placedOnes r (ofc B r b t tb g h ar u ta) = some (mkL (fun k => pl k ≠ none) (v 1)) := by
  have hb := hI.hb; have h0 := hI.h0; have h1 := hI.h1; have h2 := hI.h2; have h7 := hI.h7; have h8 := hI.h8
  have hpe : ∀ k, (oN (pl k) = mI) = (pl k = none) := fun k => oN_mI (hI.plb k)
  unfold p_X2_placedOnes
  have hFU : v 1 < FU := FU_pos (by omega)
  generalize FU = F at hFU ⊢
  refine loop_mk (L := fun fu x k => pl_X2_placedOnes_4 (fun z => some z) r (ofc B r b t tb g h ar u ta) fu x (nN k)) (P := fun k => pl k ≠ none) (fin := fun x => some x) (n := v 1) (by omega) (fun fu x k hk => ?_) (fun fu x => ?_) F hFU
  · rw [pl_X2_placedOnes_4]
    simp (disch := first | omega | (apply hb; omega)) only [fv_isC, fv_0, fv_1, fv_2, fv_3, fv_4, fv_5, fv_6, fv_7, fv_8, fv_9, fv_10, fv_11, fv_12, fv_13, fv_14, fv_15, fv_16, fv_17, fv_18, fv_19, fd_0 hG, fd_1 hG, fd_2 hG, fd_3 hG, fd_4 hG, fd_5 hG, fd_6 hG, fd_7 hG, fd_8 hG, ft_C hG, ft_0 hG, ft_1 hG, ft_2 hG, ft_3 hG, ft_4 hG, ft_5 hG, ft_6 hG, ft_7 hG, ft_8 hG, ft_9 hG, ft_10 hG, ft_11 hG, ft_12 hG, fp_0 hG, fp_1 hG, fp_2 hG, fp_3 hG, fp_4 hG, fp_5 hG, fp_6 hG, fp_7 hG, fp_8 hG, fp_9 hG, hR.g1, hR.g2, hR.g3, hR.g4, hR.g5, hR.g6, hR.h7, hR.h8, hR.h9, hR.h10, hR.a0, hR.a1, hR.a2, hR.a3, hR.a4, hR.a5, hR.a6, hR.a7, hR.a8, hT.u0, hT.u1, hT.u2, hT.a0, hT.a1, hT.a2, hT.a3, hT.a4, bS, rd_nN, nN_lit, nN_add, nN_mul, nN_le, nN_lt, nN_eq, jn_def, mI_lit, bI_0, bI_1, n01, n10, if_true, if_false, ite_not, nP_P, hpe]
    rw [if_neg (by omega)]
  · rw [pl_X2_placedOnes_4]
    simp (disch := first | omega | (apply hb; omega)) only [fv_isC, fv_0, fv_1, fv_2, fv_3, fv_4, fv_5, fv_6, fv_7, fv_8, fv_9, fv_10, fv_11, fv_12, fv_13, fv_14, fv_15, fv_16, fv_17, fv_18, fv_19, fd_0 hG, fd_1 hG, fd_2 hG, fd_3 hG, fd_4 hG, fd_5 hG, fd_6 hG, fd_7 hG, fd_8 hG, ft_C hG, ft_0 hG, ft_1 hG, ft_2 hG, ft_3 hG, ft_4 hG, ft_5 hG, ft_6 hG, ft_7 hG, ft_8 hG, ft_9 hG, ft_10 hG, ft_11 hG, ft_12 hG, fp_0 hG, fp_1 hG, fp_2 hG, fp_3 hG, fp_4 hG, fp_5 hG, fp_6 hG, fp_7 hG, fp_8 hG, fp_9 hG, hR.g1, hR.g2, hR.g3, hR.g4, hR.g5, hR.g6, hR.h7, hR.h8, hR.h9, hR.h10, hR.a0, hR.a1, hR.a2, hR.a3, hR.a4, hR.a5, hR.a6, hR.a7, hR.a8, hT.u0, hT.u1, hT.u2, hT.a0, hT.a1, hT.a2, hT.a3, hT.a4, bS, rd_nN, nN_lit, nN_add, nN_mul, nN_le, nN_lt, nN_eq, jn_def, mI_lit, bI_0, bI_1, n01, n10, if_true, if_false, ite_not, nP_P]
    rw [if_pos (by omega)]
theorem wis15 (hI : Inv v pl) {c : Nat} (hc : c < v 1) : ∀ i, i < v (324 + c) → v (564 + 4 * c + i) < 15 := fun i hi => by have := hI.wis c hc i hi; have := hI.h0; omega
theorem c_rix (hI : Inv v pl) {c s : Nat} {M : Mem} (hc : c < v 1) (hs : s < 15) : p_X6_rowIndex (nN (rwN (fun i => v (564 + 4 * c + i)) (v (324 + c)))) (nN s) M = some (oN (wisO v c s)) := by
  have h1 := hI.h1
  exact c_rowIndex (by have := hI.chi c (by omega); omega) (wis15 hI hc) hs
theorem c_gix (hI : Inv v pl) {c : Nat} {M : Mem} (hc : c < v 1) : p_X6_rowIndex (nN (rwN (fun i => v (564 + 4 * c + i)) (v (324 + c)))) (oN (pl c)) M = some (oN (gotO v pl c)) := by
  have h0 := hI.h0
  unfold gotO
  cases hp : pl c with
  | none => exact c_rowIndex_mI
  | some s => exact c_rix hI hc (by have := hI.pl8 c s hp; omega)
theorem c_gotWish (B : Mem) (hG : GE r b t tb) (hR : RG g h ar v pl) (hT : TG u ta v cd) (hI : Inv v pl) {c : Nat} (hc : c < v 1) : p_X2_gotWish r (nN c) (ofc B r b t tb g h ar u ta) = some (oN (gotO v pl c)) := by
  have hb := hI.hb; have h0 := hI.h0; have h1 := hI.h1; have h2 := hI.h2; have h7 := hI.h7; have h8 := hI.h8
  unfold p_X2_gotWish
  have e1 := c_gix (M := (ofc B r b t tb g h ar u ta)) hI hc
  simp (disch := first | omega | (apply hb; omega)) only [fv_isC, fv_0, fv_1, fv_2, fv_3, fv_4, fv_5, fv_6, fv_7, fv_8, fv_9, fv_10, fv_11, fv_12, fv_13, fv_14, fv_15, fv_16, fv_17, fv_18, fv_19, fd_0 hG, fd_1 hG, fd_2 hG, fd_3 hG, fd_4 hG, fd_5 hG, fd_6 hG, fd_7 hG, fd_8 hG, ft_C hG, ft_0 hG, ft_1 hG, ft_2 hG, ft_3 hG, ft_4 hG, ft_5 hG, ft_6 hG, ft_7 hG, ft_8 hG, ft_9 hG, ft_10 hG, ft_11 hG, ft_12 hG, fp_0 hG, fp_1 hG, fp_2 hG, fp_3 hG, fp_4 hG, fp_5 hG, fp_6 hG, fp_7 hG, fp_8 hG, fp_9 hG, hR.g1, hR.g2, hR.g3, hR.g4, hR.g5, hR.g6, hR.h7, hR.h8, hR.h9, hR.h10, hR.a0, hR.a1, hR.a2, hR.a3, hR.a4, hR.a5, hR.a6, hR.a7, hR.a8, hT.u0, hT.u1, hT.u2, hT.a0, hT.a1, hT.a2, hT.a3, hT.a4, bS, rd_nN, nN_lit, nN_add, nN_mul, nN_le, nN_lt, nN_eq, jn_def, mI_lit, bI_0, bI_1, n01, n10, if_true, if_false, ite_not, nP_P, e1]
theorem oN_mw {o : Option Nat} (h : ∀ i, o = some i → i < 2147483648) : (oN o = mI) = (o = none) := oN_mI h
theorem got_b (hI : Inv v pl) {c i : Nat} (hc : c < v 1) (h : gotO v pl c = some i) : i < 4 := by
  have h1 := hI.h1
  unfold gotO at h
  cases hp : pl c with
  | none => rw [hp] at h; cases h
  | some s => rw [hp] at h; exact wis_4 hI (by omega) h
theorem c_prefers (B : Mem) (hG : GE r b t tb) (hR : RG g h ar v pl) (hT : TG u ta v cd) (hI : Inv v pl) {c s : Nat} (hc : c < v 1) (hs : s < 15) : p_X2_prefers r (nN c) (nN s) (ofc B r b t tb g h ar u ta) = some (bI (prfB v pl c s = true)) := by
  have hb := hI.hb; have h0 := hI.h0; have h1 := hI.h1; have h2 := hI.h2; have h7 := hI.h7; have h8 := hI.h8
  unfold p_X2_prefers
  have e1 := c_gix (M := (ofc B r b t tb g h ar u ta)) hI hc
  have e2 := c_rix (M := (ofc B r b t tb g h ar u ta)) hI hc hs
  simp (disch := first | omega | (apply hb; omega)) only [fv_isC, fv_0, fv_1, fv_2, fv_3, fv_4, fv_5, fv_6, fv_7, fv_8, fv_9, fv_10, fv_11, fv_12, fv_13, fv_14, fv_15, fv_16, fv_17, fv_18, fv_19, fd_0 hG, fd_1 hG, fd_2 hG, fd_3 hG, fd_4 hG, fd_5 hG, fd_6 hG, fd_7 hG, fd_8 hG, ft_C hG, ft_0 hG, ft_1 hG, ft_2 hG, ft_3 hG, ft_4 hG, ft_5 hG, ft_6 hG, ft_7 hG, ft_8 hG, ft_9 hG, ft_10 hG, ft_11 hG, ft_12 hG, fp_0 hG, fp_1 hG, fp_2 hG, fp_3 hG, fp_4 hG, fp_5 hG, fp_6 hG, fp_7 hG, fp_8 hG, fp_9 hG, hR.g1, hR.g2, hR.g3, hR.g4, hR.g5, hR.g6, hR.h7, hR.h8, hR.h9, hR.h10, hR.a0, hR.a1, hR.a2, hR.a3, hR.a4, hR.a5, hR.a6, hR.a7, hR.a8, hT.u0, hT.u1, hT.u2, hT.a0, hT.a1, hT.a2, hT.a3, hT.a4, bS, rd_nN, nN_lit, nN_add, nN_mul, nN_le, nN_lt, nN_eq, jn_def, mI_lit, bI_0, bI_1, n01, n10, if_true, if_false, ite_not, nP_P, e1, e2]
  unfold prfB
  cases hw : wisO v c s with
  | none => show (if mI = mI then _ else _) = _; rw [if_pos rfl]; rfl
  | some i =>
    have hi := wis_4 hI (by omega) hw
    show (if nN i = mI then _ else _) = _
    rw [if_neg (nNm (by omega))]
    cases hg : gotO v pl c with
    | none => show (if mI = mI then _ else _) = _; rw [if_pos rfl]; rfl
    | some j =>
      have hj := got_b hI hc hg
      show (if nN j = mI then _ else if nN j ≤ nN i then _ else _) = some (bI (decide (i < j) = true))
      rw [if_neg (nNm (by omega))]
      by_cases c1 : i < j
      · rw [if_neg (nle_f (by omega) (by omega) (by omega)), ← bI_t (by simp [c1])]
      · rw [if_pos (nle_t (by omega) (by omega) (by omega)), ← bI_f (by simp [c1])]
theorem c_waits (B : Mem) (hG : GE r b t tb) (hR : RG g h ar v pl) (hT : TG u ta v cd) (hI : Inv v pl) {c s : Nat} (hc : c < v 1) (hs : s < 15) : p_X2_waits r (nN c) (nN s) (ofc B r b t tb g h ar u ta) = some (bI (waiB v pl c s = true)) := by
  have hb := hI.hb; have h0 := hI.h0; have h1 := hI.h1; have h2 := hI.h2; have h7 := hI.h7; have h8 := hI.h8
  have hch := hI.chi c (by omega)
  unfold p_X2_waits waiB
  have e1 := c_prefers B hG hR hT hI hc hs
  have e3 : p_X6_isIn (mkL (fun c => v (404 + c) = 1) (v 1)) (nN c) (ofc B r b t tb g h ar u ta) = some (bI (v (404 + c) = 1)) := c_isIn (by omega) hc
  simp (disch := first | omega | (apply hb; omega)) only [fv_isC, fv_0, fv_1, fv_2, fv_3, fv_4, fv_5, fv_6, fv_7, fv_8, fv_9, fv_10, fv_11, fv_12, fv_13, fv_14, fv_15, fv_16, fv_17, fv_18, fv_19, fd_0 hG, fd_1 hG, fd_2 hG, fd_3 hG, fd_4 hG, fd_5 hG, fd_6 hG, fd_7 hG, fd_8 hG, ft_C hG, ft_0 hG, ft_1 hG, ft_2 hG, ft_3 hG, ft_4 hG, ft_5 hG, ft_6 hG, ft_7 hG, ft_8 hG, ft_9 hG, ft_10 hG, ft_11 hG, ft_12 hG, fp_0 hG, fp_1 hG, fp_2 hG, fp_3 hG, fp_4 hG, fp_5 hG, fp_6 hG, fp_7 hG, fp_8 hG, fp_9 hG, hR.g1, hR.g2, hR.g3, hR.g4, hR.g5, hR.g6, hR.h7, hR.h8, hR.h9, hR.h10, hR.a0, hR.a1, hR.a2, hR.a3, hR.a4, hR.a5, hR.a6, hR.a7, hR.a8, hT.u0, hT.u1, hT.u2, hT.a0, hT.a1, hT.a2, hT.a3, hT.a4, bS, rd_nN, nN_lit, nN_add, nN_mul, nN_le, nN_lt, nN_eq, jn_def, mI_lit, bI_0, bI_1, n01, n10, if_true, if_false, ite_not, nP_P, e1, e3]
  by_cases c1 : v 8 = 1
  · by_cases c2 : v (404 + c) = 0
    · by_cases c3 : prfB v pl c s = true
      · rw [if_neg (by omega), if_neg (by omega), if_pos c3, ← bI_t (by simp [c1, c2, c3])]
      · rw [if_neg (by omega), if_neg (by omega), if_neg c3, ← bI_f (by simp [c3])]
    · rw [if_neg (by omega), if_pos (by omega), ← bI_f (by simp [c2])]
  · rw [if_pos (by omega), ← bI_f (by simp [c1])]
theorem c_waitersOf (B : Mem) (hG : GE r b t tb) (hR : RG g h ar v pl) (hT : TG u ta v cd) (hI : Inv v pl) {s : Nat} (hs : s < 15) : p_X2_waitersOf r (nN s) (ofc B r b t tb g h ar u ta) = some (mkL (fun k => waiB v pl k s = true) (v 1)) := by
  have hb := hI.hb; have h0 := hI.h0; have h1 := hI.h1; have h2 := hI.h2; have h7 := hI.h7; have h8 := hI.h8
  unfold p_X2_waitersOf
  have hFU : v 1 < FU := FU_pos (by omega)
  generalize FU = F at hFU ⊢
  refine loop_mk (L := fun fu x k => pl_X2_waitersOf_5 (fun z => some z) r (nN s) (ofc B r b t tb g h ar u ta) fu x (nN k)) (P := fun k => waiB v pl k s = true) (fin := fun x => some x) (n := v 1) (by omega) (fun fu x k hk => ?_) (fun fu x => ?_) F hFU
  · rw [pl_X2_waitersOf_5]
    have e1 := c_waits B hG hR hT hI hk hs
    simp (disch := first | omega | (apply hb; omega)) only [fv_isC, fv_0, fv_1, fv_2, fv_3, fv_4, fv_5, fv_6, fv_7, fv_8, fv_9, fv_10, fv_11, fv_12, fv_13, fv_14, fv_15, fv_16, fv_17, fv_18, fv_19, fd_0 hG, fd_1 hG, fd_2 hG, fd_3 hG, fd_4 hG, fd_5 hG, fd_6 hG, fd_7 hG, fd_8 hG, ft_C hG, ft_0 hG, ft_1 hG, ft_2 hG, ft_3 hG, ft_4 hG, ft_5 hG, ft_6 hG, ft_7 hG, ft_8 hG, ft_9 hG, ft_10 hG, ft_11 hG, ft_12 hG, fp_0 hG, fp_1 hG, fp_2 hG, fp_3 hG, fp_4 hG, fp_5 hG, fp_6 hG, fp_7 hG, fp_8 hG, fp_9 hG, hR.g1, hR.g2, hR.g3, hR.g4, hR.g5, hR.g6, hR.h7, hR.h8, hR.h9, hR.h10, hR.a0, hR.a1, hR.a2, hR.a3, hR.a4, hR.a5, hR.a6, hR.a7, hR.a8, hT.u0, hT.u1, hT.u2, hT.a0, hT.a1, hT.a2, hT.a3, hT.a4, bS, rd_nN, nN_lit, nN_add, nN_mul, nN_le, nN_lt, nN_eq, jn_def, mI_lit, bI_0, bI_1, n01, n10, if_true, if_false, ite_not, nP_P, e1]
    rw [if_neg (by omega)]
  · rw [pl_X2_waitersOf_5]
    simp (disch := first | omega | (apply hb; omega)) only [fv_isC, fv_0, fv_1, fv_2, fv_3, fv_4, fv_5, fv_6, fv_7, fv_8, fv_9, fv_10, fv_11, fv_12, fv_13, fv_14, fv_15, fv_16, fv_17, fv_18, fv_19, fd_0 hG, fd_1 hG, fd_2 hG, fd_3 hG, fd_4 hG, fd_5 hG, fd_6 hG, fd_7 hG, fd_8 hG, ft_C hG, ft_0 hG, ft_1 hG, ft_2 hG, ft_3 hG, ft_4 hG, ft_5 hG, ft_6 hG, ft_7 hG, ft_8 hG, ft_9 hG, ft_10 hG, ft_11 hG, ft_12 hG, fp_0 hG, fp_1 hG, fp_2 hG, fp_3 hG, fp_4 hG, fp_5 hG, fp_6 hG, fp_7 hG, fp_8 hG, fp_9 hG, hR.g1, hR.g2, hR.g3, hR.g4, hR.g5, hR.g6, hR.h7, hR.h8, hR.h9, hR.h10, hR.a0, hR.a1, hR.a2, hR.a3, hR.a4, hR.a5, hR.a6, hR.a7, hR.a8, hT.u0, hT.u1, hT.u2, hT.a0, hT.a1, hT.a2, hT.a3, hT.a4, bS, rd_nN, nN_lit, nN_add, nN_mul, nN_le, nN_lt, nN_eq, jn_def, mI_lit, bI_0, bI_1, n01, n10, if_true, if_false, ite_not, nP_P]
    rw [if_pos (by omega)]
theorem c_claimStands (B : Mem) (hG : GE r b t tb) (hR : RG g h ar v pl) (hT : TG u ta v cd) (hI : Inv v pl) {c s : Nat} (hc : c < v 1) (hs : s < v 0) : p_X2_claimStands r (nN c) (nN s) (ofc B r b t tb g h ar u ta) = some (bI (clmB v pl c s = true)) := by
  have hb := hI.hb; have h0 := hI.h0; have h1 := hI.h1; have h2 := hI.h2; have h7 := hI.h7; have h8 := hI.h8
  unfold p_X2_claimStands clmB
  have e1 := c_waits B hG hR hT hI hc (s := s) (by omega)
  have e2 := c_holdersOf B hG hR hT hI (s := s) (by omega)
  have e3 := c_lastOf B hG hR hT hI (P := fun k => pl k = some s ∧ ¬ v (444 + k) = 1) hs
  have e4 := c_standing B hG hR hT hI hc hs
  simp (disch := first | omega | (apply hb; omega)) only [fv_isC, fv_0, fv_1, fv_2, fv_3, fv_4, fv_5, fv_6, fv_7, fv_8, fv_9, fv_10, fv_11, fv_12, fv_13, fv_14, fv_15, fv_16, fv_17, fv_18, fv_19, fd_0 hG, fd_1 hG, fd_2 hG, fd_3 hG, fd_4 hG, fd_5 hG, fd_6 hG, fd_7 hG, fd_8 hG, ft_C hG, ft_0 hG, ft_1 hG, ft_2 hG, ft_3 hG, ft_4 hG, ft_5 hG, ft_6 hG, ft_7 hG, ft_8 hG, ft_9 hG, ft_10 hG, ft_11 hG, ft_12 hG, fp_0 hG, fp_1 hG, fp_2 hG, fp_3 hG, fp_4 hG, fp_5 hG, fp_6 hG, fp_7 hG, fp_8 hG, fp_9 hG, hR.g1, hR.g2, hR.g3, hR.g4, hR.g5, hR.g6, hR.h7, hR.h8, hR.h9, hR.h10, hR.a0, hR.a1, hR.a2, hR.a3, hR.a4, hR.a5, hR.a6, hR.a7, hR.a8, hT.u0, hT.u1, hT.u2, hT.a0, hT.a1, hT.a2, hT.a3, hT.a4, bS, rd_nN, nN_lit, nN_add, nN_mul, nN_le, nN_lt, nN_eq, jn_def, mI_lit, bI_0, bI_1, n01, n10, if_true, if_false, ite_not, nP_P, e1, e2, mk_andnot, e3, e4]
  by_cases c1 : waiB v pl c s = true
  · rw [if_pos c1]
    cases hl : mxO (fun k => pl k = some s ∧ ¬ v (444 + k) = 1) (stS v s) (v 1) with
    | none => show (if mI = mI then _ else _) = _; rw [if_pos rfl, ← bI_f (by simp)]
    | some l =>
      have hlk := mxO_lt hl
      have e5 := c_standing B hG hR hT hI (c := l) (s := s) (by omega) hs
      have l1 := st_lt hI (c := c) (s := s) (by omega) (by omega)
      have l2 := st_lt hI (c := l) (s := s) (by omega) (by omega)
      show (if nN l = mI then _ else Option.bind (p_X2_standing r (nN l) (nN s) (ofc B r b t tb g h ar u ta)) _) = _
      rw [if_neg (nNm (by omega)), e5, bS]
      have hge := lgc_ge (a := stS v s c) (b := stS v s l) (by omega) (by omega)
      simp only [nN_lit] at hge
      simp only [hge]
      by_cases c3 : stS v s c < stS v s l
      · rw [if_neg (by omega), ← bI_t (by simp [c1, c3])]
      · rw [if_pos (by omega), ← bI_f (by simp [c3])]
  · rw [if_neg c1, ← bI_f (by simp [c1])]
theorem c_wouldTrade (B : Mem) (hG : GE r b t tb) (hR : RG g h ar v pl) (hT : TG u ta v cd) (hI : Inv v pl) {c d : Nat} (hc : c < v 1) (hd : d < v 1) : p_X2_wouldTrade r (nN c) (nN d) (ofc B r b t tb g h ar u ta) = some (bI (trdB v pl c d = true)) := by
  have hb := hI.hb; have h0 := hI.h0; have h1 := hI.h1; have h2 := hI.h2; have h7 := hI.h7; have h8 := hI.h8
  have hpc : (oN (pl c) = mI) = (pl c = none) := oN_mI (hI.plb c)
  have hpd : (oN (pl d) = mI) = (pl d = none) := oN_mI (hI.plb d)
  unfold p_X2_wouldTrade trdB
  simp (disch := first | omega | (apply hb; omega)) only [fv_isC, fv_0, fv_1, fv_2, fv_3, fv_4, fv_5, fv_6, fv_7, fv_8, fv_9, fv_10, fv_11, fv_12, fv_13, fv_14, fv_15, fv_16, fv_17, fv_18, fv_19, fd_0 hG, fd_1 hG, fd_2 hG, fd_3 hG, fd_4 hG, fd_5 hG, fd_6 hG, fd_7 hG, fd_8 hG, ft_C hG, ft_0 hG, ft_1 hG, ft_2 hG, ft_3 hG, ft_4 hG, ft_5 hG, ft_6 hG, ft_7 hG, ft_8 hG, ft_9 hG, ft_10 hG, ft_11 hG, ft_12 hG, fp_0 hG, fp_1 hG, fp_2 hG, fp_3 hG, fp_4 hG, fp_5 hG, fp_6 hG, fp_7 hG, fp_8 hG, fp_9 hG, hR.g1, hR.g2, hR.g3, hR.g4, hR.g5, hR.g6, hR.h7, hR.h8, hR.h9, hR.h10, hR.a0, hR.a1, hR.a2, hR.a3, hR.a4, hR.a5, hR.a6, hR.a7, hR.a8, hT.u0, hT.u1, hT.u2, hT.a0, hT.a1, hT.a2, hT.a3, hT.a4, bS, rd_nN, nN_lit, nN_add, nN_mul, nN_le, nN_lt, nN_eq, jn_def, mI_lit, bI_0, bI_1, n01, n10, if_true, if_false, ite_not, nP_P, hpc, hpd]
  cases h1c : pl c with
  | none => rw [if_pos rfl]; rfl
  | some s =>
    rw [if_neg (by simp)]
    cases h1d : pl d with
    | none => rw [if_pos rfl]; rfl
    | some q =>
      rw [if_neg (by simp)]
      have e1 := c_prefers B hG hR hT hI hc (s := q) (by have := hI.pl8 d q h1d; omega)
      have e2 := c_prefers B hG hR hT hI hd (s := s) (by have := hI.pl8 c s h1c; omega)
      show Option.bind (p_X2_prefers r (nN c) (nN q) (ofc B r b t tb g h ar u ta)) _ = _
      rw [e1, bS]
      show (if bI (prfB v pl c q = true) = nN 0 then _ else Option.bind (p_X2_prefers r (nN d) (nN s) (ofc B r b t tb g h ar u ta)) _) = _
      simp only [e2, bS, bI_0]
      by_cases c1 : prfB v pl c q = true
      · by_cases c2 : prfB v pl d s = true
        · rw [if_neg (fun z => z c1), if_neg (fun z => z c2), ← bI_t (by simp [c1, c2])]
        · rw [if_neg (fun z => z c1), if_pos c2, ← bI_f (by simp [c2])]
      · rw [if_pos c1, ← bI_f (by simp [c1])]
end CR
