theorem row_no {R x : Int32} {M : Mem} (h : x < 0 ∨ nN 4 ≤ x) : p_X6_rowEntry R x M = some mI := by
  rcases h with h | h
  · exact c_rowEntry_no (Or.inl (by rw [i_lt] at h; exact h))
  · exact c_rowEntry_no (Or.inr (by rw [i_le, nN_toInt (by omega)] at h; omega))
theorem ii {α : Type} {A B : Prop} [Decidable A] [Decidable B] {X Y : α} : (if A then (if B then X else Y) else Y) = if A ∧ B then X else Y := by
  by_cases a : A <;> by_cases b : B <;> simp [a, b]
theorem ij {α : Type} {A B : Prop} [Decidable A] [Decidable B] {X Y : α} : (if A then Y else (if B then X else Y)) = if ¬ A ∧ B then X else Y := by
  by_cases a : A <;> by_cases b : B <;> simp [a, b]
theorem ik {α : Type} {A B : Prop} [Decidable A] [Decidable B] {X Y : α} (h : A ↔ B) : (if A then X else Y) = if B then X else Y := by
  by_cases a : A
  · rw [if_pos a, if_pos (h.mp a)]
  · rw [if_neg a, if_neg (fun z => a (h.mpr z))]
section QR
variable {B : Mem} {m : Nat} {g : Nat → Int32} {a : Nat → Nat → Int32} {v : Nat → Nat} {pl : Nat → Option Nat}
theorem e_pupilsAt (hw : a 1 = enc v pl) (hI : Inv v pl) {s : Nat} (hs : s < 8) : p_X7_pupilsAt m (nN s) (ovl B m g a) = some (nN (cnt (fun k => v (724 + 2 * k + 1) = s) (v 2))) := by
  have hb := hI.hb; have h2 := hI.h2
  unfold p_X7_pupilsAt
  have hFU : v 2 < FU := FU_pos (by omega)
  generalize FU = F at hFU ⊢
  refine loop_cnt (L := fun fu k x => pl_X7_pupilsAt_4 (fun z => some z) m (nN s) (ovl B m g a) fu (nN x) (nN k)) (P := fun k => v (724 + 2 * k + 1) = s) (fin := fun x => some (nN x)) (n := v 2) (fun fu k x hk hx => ?_) (fun fu x hx => ?_) F hFU
  · rw [pl_X7_pupilsAt_4]
    simp (disch := first | omega | (apply hb; omega)) only [oc, or_0, or_1, or_2, or_3, or_4, oi_5, oi_6, or_7, or_8, oi_9, or_10, or_11, oi_12, oi_13, oi_14, oi_15, oi_16, oi_17, oi_18, oi_19, oi_20, oi_21, or_22, or_23, or_24, oi_25, or_26, oi_27, od_1, od_2, od_3, od_4, od_5, od_6, od_7, od_8, od_9, od_10, od_11, od_12, od_13, bS, rd_nN, nN_lit, nN_add, nN_mul, hw, enc_v, enc_p, nN_le, nN_lt, nN_eq, jn_def, mI_lit, bI_0, bI_1, e_inRange, n01, n10, if_true, if_false, ite_not, nP_P]
    rw [if_neg (by omega)]
    rfl
  · rw [pl_X7_pupilsAt_4]
    simp (disch := first | omega | (apply hb; omega)) only [oc, or_0, or_1, or_2, or_3, or_4, oi_5, oi_6, or_7, or_8, oi_9, or_10, or_11, oi_12, oi_13, oi_14, oi_15, oi_16, oi_17, oi_18, oi_19, oi_20, oi_21, or_22, or_23, or_24, oi_25, or_26, oi_27, od_1, od_2, od_3, od_4, od_5, od_6, od_7, od_8, od_9, od_10, od_11, od_12, od_13, bS, rd_nN, nN_lit, nN_add, nN_mul, hw, enc_v, enc_p, nN_le, nN_lt, nN_eq, jn_def, mI_lit, bI_0, bI_1, e_inRange, n01, n10, if_true, if_false, ite_not, nP_P]
    rw [if_pos (by omega)]
theorem e_childrenWith (hw : a 1 = enc v pl) (hI : Inv v pl) {f : Nat} (hf : f = 364 ∨ f = 404) : p_X7_childrenWith m (nN f) (nN 1) (ovl B m g a) = some (nN (cnt (fun k => v (f + k) = 1) (v 1))) := by
  have hb := hI.hb; have h1 := hI.h1
  unfold p_X7_childrenWith
  have hFU : v 1 < FU := FU_pos (by omega)
  generalize FU = F at hFU ⊢
  refine loop_cnt (L := fun fu k x => pl_X7_childrenWith_5 (fun z => some z) m (nN f) (nN 1) (ovl B m g a) fu (nN x) (nN k)) (P := fun k => v (f + k) = 1) (fin := fun x => some (nN x)) (n := v 1) (fun fu k x hk hx => ?_) (fun fu x hx => ?_) F hFU
  · rw [pl_X7_childrenWith_5]
    simp (disch := first | omega | (apply hb; omega)) only [oc, or_0, or_1, or_2, or_3, or_4, oi_5, oi_6, or_7, or_8, oi_9, or_10, or_11, oi_12, oi_13, oi_14, oi_15, oi_16, oi_17, oi_18, oi_19, oi_20, oi_21, or_22, or_23, or_24, oi_25, or_26, oi_27, od_1, od_2, od_3, od_4, od_5, od_6, od_7, od_8, od_9, od_10, od_11, od_12, od_13, bS, rd_nN, nN_lit, nN_add, nN_mul, hw, enc_v, enc_p, nN_le, nN_lt, nN_eq, jn_def, mI_lit, bI_0, bI_1, e_inRange, n01, n10, if_true, if_false, ite_not, nP_P]
    rw [if_neg (by omega)]
    rfl
  · rw [pl_X7_childrenWith_5]
    simp (disch := first | omega | (apply hb; omega)) only [oc, or_0, or_1, or_2, or_3, or_4, oi_5, oi_6, or_7, or_8, oi_9, or_10, or_11, oi_12, oi_13, oi_14, oi_15, oi_16, oi_17, oi_18, oi_19, oi_20, oi_21, or_22, or_23, or_24, oi_25, or_26, oi_27, od_1, od_2, od_3, od_4, od_5, od_6, od_7, od_8, od_9, od_10, od_11, od_12, od_13, bS, rd_nN, nN_lit, nN_add, nN_mul, hw, enc_v, enc_p, nN_le, nN_lt, nN_eq, jn_def, mI_lit, bI_0, bI_1, e_inRange, n01, n10, if_true, if_false, ite_not, nP_P]
    rw [if_pos (by omega)]
theorem e_childrenFree (hw : a 1 = enc v pl) (hI : Inv v pl) : p_X7_childrenWith m (nN 484) mI (ovl B m g a) = some (nN (cnt (fun k => pl k = none) (v 1))) := by
  have hb := hI.hb; have h1 := hI.h1
  have hpe : ∀ k, (oN (pl k) = mI) = (pl k = none) := fun k => oN_mI (hI.plb k)
  unfold p_X7_childrenWith
  have hFU : v 1 < FU := FU_pos (by omega)
  generalize FU = F at hFU ⊢
  refine loop_cnt (L := fun fu k x => pl_X7_childrenWith_5 (fun z => some z) m (nN 484) mI (ovl B m g a) fu (nN x) (nN k)) (P := fun k => pl k = none) (fin := fun x => some (nN x)) (n := v 1) (fun fu k x hk hx => ?_) (fun fu x hx => ?_) F hFU
  · rw [pl_X7_childrenWith_5]
    simp (disch := first | omega | (apply hb; omega)) only [oc, or_0, or_1, or_2, or_3, or_4, oi_5, oi_6, or_7, or_8, oi_9, or_10, or_11, oi_12, oi_13, oi_14, oi_15, oi_16, oi_17, oi_18, oi_19, oi_20, oi_21, or_22, or_23, or_24, oi_25, or_26, oi_27, od_1, od_2, od_3, od_4, od_5, od_6, od_7, od_8, od_9, od_10, od_11, od_12, od_13, bS, rd_nN, nN_lit, nN_add, nN_mul, hw, enc_v, enc_p, nN_le, nN_lt, nN_eq, jn_def, mI_lit, bI_0, bI_1, e_inRange, n01, n10, if_true, if_false, ite_not, nP_P, hpe]
    rw [if_neg (by omega)]
    rfl
  · rw [pl_X7_childrenWith_5]
    simp (disch := first | omega | (apply hb; omega)) only [oc, or_0, or_1, or_2, or_3, or_4, oi_5, oi_6, or_7, or_8, oi_9, or_10, or_11, oi_12, oi_13, oi_14, oi_15, oi_16, oi_17, oi_18, oi_19, oi_20, oi_21, or_22, or_23, or_24, oi_25, or_26, oi_27, od_1, od_2, od_3, od_4, od_5, od_6, od_7, od_8, od_9, od_10, od_11, od_12, od_13, bS, rd_nN, nN_lit, nN_add, nN_mul, hw, enc_v, enc_p, nN_le, nN_lt, nN_eq, jn_def, mI_lit, bI_0, bI_1, e_inRange, n01, n10, if_true, if_false, ite_not, nP_P]
    rw [if_pos (by omega)]
theorem e_claims (hw : a 1 = enc v pl) (hI : Inv v pl) {c s : Nat} (hc : c < v 1) (hs : s < 8) : p_X7_claims m (nN c) (nN s) (ovl B m g a) = some (bI (clmB v pl c s = true)) := by
  have hb := hI.hb; have h1 := hI.h1
  have hpe : ∀ k, (oN (pl k) = nN s) = (pl k = some s) := fun k => oN_eq (hI.plb k) (by omega)
  have e0 := e_waits (B := B) (m := m) (g := g) hw hI hc hs
  have hl : ∀ F, v 1 < F → pl_X7_claims_13 (fun _ => some (1 : Int32)) (fun _ => some (0 : Int32)) m (nN c) (nN s) (ovl B m g a) F (nN 0) = some (bI ((fnd (fun k => pl k = some s ∧ v (444 + k) = 0 ∧ stS v s c < stS v s k) 0 (v 1)).isSome = true)) := by
    intro F hF
    refine loop_fnd (L := fun fu k => pl_X7_claims_13 (fun _ => some (1 : Int32)) (fun _ => some (0 : Int32)) m (nN c) (nN s) (ovl B m g a) fu (nN k)) (P := fun k => pl k = some s ∧ v (444 + k) = 0 ∧ stS v s c < stS v s k) (fin := fun o => some (bI (o.isSome = true))) (n := v 1) (fun fu k hk => ?_) (fun fu => ?_) (v 1) 0 F (by omega) hF
    · rw [pl_X7_claims_13]
      have e1 := e_isAhead (B := B) (m := m) (g := g) hw hI (c := c) (d := k) (s := s) (by omega) (by omega) hs
      simp (disch := first | omega | (apply hb; omega)) only [oc, or_0, or_1, or_2, or_3, or_4, oi_5, oi_6, or_7, or_8, oi_9, or_10, or_11, oi_12, oi_13, oi_14, oi_15, oi_16, oi_17, oi_18, oi_19, oi_20, oi_21, or_22, or_23, or_24, oi_25, or_26, oi_27, od_1, od_2, od_3, od_4, od_5, od_6, od_7, od_8, od_9, od_10, od_11, od_12, od_13, bS, rd_nN, nN_lit, nN_add, nN_mul, hw, enc_v, enc_p, nN_le, nN_lt, nN_eq, jn_def, mI_lit, bI_0, bI_1, e_inRange, n01, n10, if_true, if_false, ite_not, nP_P, hpe, e1]
      rw [if_neg (by omega)]
      by_cases c1 : pl k = some s
      · by_cases c2 : v (444 + k) = 0
        · by_cases c3 : stS v s c < stS v s k
          · simp only [c1, c2, c3, and_self, if_true]; rfl
          · simp only [c1, c2, c3, and_false, if_true, if_false]
        · simp only [c1, c2, false_and, and_false, if_true, if_false]
      · simp only [c1, false_and, if_false]
    · rw [pl_X7_claims_13]
      simp (disch := first | omega | (apply hb; omega)) only [oc, or_0, or_1, or_2, or_3, or_4, oi_5, oi_6, or_7, or_8, oi_9, or_10, or_11, oi_12, oi_13, oi_14, oi_15, oi_16, oi_17, oi_18, oi_19, oi_20, oi_21, or_22, or_23, or_24, oi_25, or_26, oi_27, od_1, od_2, od_3, od_4, od_5, od_6, od_7, od_8, od_9, od_10, od_11, od_12, od_13, bS, rd_nN, nN_lit, nN_add, nN_mul, hw, enc_v, enc_p, nN_le, nN_lt, nN_eq, jn_def, mI_lit, bI_0, bI_1, e_inRange, n01, n10, if_true, if_false, ite_not, nP_P]
      rw [if_pos (by omega)]
      rfl
  unfold p_X7_claims clmB
  rw [oc, bS, e0, bS]
  by_cases cw : waiB v pl c s = true
  · rw [← bI_t cw, if_neg (by decide)]
    refine (hl FU (FU_pos (by omega))).trans (congrArg some (bI_c ?_))
    rw [cw]
    cases hm : mxO (fun k => pl k = some s ∧ ¬ v (444 + k) = 1) (stS v s) (v 1) with
    | none =>
      have hn := mxO_none.mp hm
      have : fnd (fun k => pl k = some s ∧ v (444 + k) = 0 ∧ stS v s c < stS v s k) 0 (v 1) = none := fnd_no (fun j hj h => hn j hj ⟨h.1, by omega⟩)
      rw [this]; simp
    | some l =>
      have hl2 := mxO_lt hm
      have hmx := mxO_max hm
      have a1 := (hI.chi l (by omega)).2.2.2.2.2.2.2.2
      by_cases cl : stS v s c < stS v s l
      · have : (fnd (fun k => pl k = some s ∧ v (444 + k) = 0 ∧ stS v s c < stS v s k) 0 (v 1)).isSome = true := by
          cases hf : fnd (fun k => pl k = some s ∧ v (444 + k) = 0 ∧ stS v s c < stS v s k) 0 (v 1) with
          | none => exact absurd ⟨hl2.2.1, by have := hl2.2.2; omega, cl⟩ (fnd_none hf l (by omega) (by omega))
          | some i => rfl
        simp [this, cl]
      · have : fnd (fun k => pl k = some s ∧ v (444 + k) = 0 ∧ stS v s c < stS v s k) 0 (v 1) = none := fnd_no (fun j hj h => by
          have := hmx j hj ⟨h.1, by omega⟩
          omega)
        simp [this, cl]
  · rw [← bI_f cw, if_pos (by rfl), ← bI_f (by simp [cw])]; rfl
theorem e_prefers (hw : a 1 = enc v pl) (hI : Inv v pl) {c s j : Nat} (hc : c < v 1) (hs : s < 8) (hg : gotO v pl c = some j) : p_X7_prefers m (nN c) (nN s) (ovl B m g a) = some (bI (prfB v pl c s = true)) := by
  have h1 := hI.h1
  have e1 := e_wishOf (B := B) (m := m) (g := g) hw hI hc hs
  have e2 := e_gotOf (B := B) (m := m) (g := g) hw hI hc
  have hj := got_b hI hc hg
  unfold p_X7_prefers prfB
  rw [oc, bS, e1, bS, hg]
  cases hw2 : wisO v c s with
  | none => rfl
  | some i =>
    have hi := wis_4 hI (by omega) hw2
    rw [if_neg (show ¬ oN (some i) = -1 from nNm (by omega)), bS, e2, bS, hg]
    show (if nN j ≤ nN i then _ else _) = some (bI (decide (i < j) = true))
    by_cases c1 : i < j
    · rw [if_neg (nle_f (by omega) (by omega) (by omega)), ← bI_t (by simp [c1])]; rfl
    · rw [if_pos (nle_t (by omega) (by omega) (by omega)), ← bI_f (by simp [c1])]; rfl
theorem got_ex (hI : Inv v pl) {c s : Nat} (h : pl c = some s) : ∃ j, gotO v pl c = some j := by
  cases hg : gotO v pl c with
  | none => have := (got_pl hI).mp hg; rw [this] at h; cases h
  | some j => exact ⟨j, rfl⟩
theorem e_trade (hw : a 1 = enc v pl) (hI : Inv v pl) {c d : Nat} (hc : c < v 1) (hd : d < v 1) : p_X7_trade m (nN c) (nN d) (ovl B m g a) = some (bI (trdB v pl c d = true)) := by
  have hb := hI.hb; have h1 := hI.h1; have h0 := hI.h0
  have hpc : (oN (pl c) = mI) = (pl c = none) := oN_mI (hI.plb c)
  have hpd : (oN (pl d) = mI) = (pl d = none) := oN_mI (hI.plb d)
  unfold p_X7_trade trdB
  simp (disch := first | omega | (apply hb; omega)) only [oc, or_0, or_1, or_2, or_3, or_4, oi_5, oi_6, or_7, or_8, oi_9, or_10, or_11, oi_12, oi_13, oi_14, oi_15, oi_16, oi_17, oi_18, oi_19, oi_20, oi_21, or_22, or_23, or_24, oi_25, or_26, oi_27, od_1, od_2, od_3, od_4, od_5, od_6, od_7, od_8, od_9, od_10, od_11, od_12, od_13, bS, rd_nN, nN_lit, nN_add, nN_mul, hw, enc_v, enc_p, nN_le, nN_lt, nN_eq, jn_def, mI_lit, bI_0, bI_1, e_inRange, n01, n10, if_true, if_false, ite_not, nP_P, hpc, hpd]
  cases h1c : pl c with
  | none => rw [if_pos rfl]; rfl
  | some s =>
    rw [if_neg (by simp)]
    cases h1d : pl d with
    | none => rw [if_pos rfl]; rfl
    | some q =>
      rw [if_neg (by simp)]
      obtain ⟨j1, g1⟩ := got_ex hI h1c
      obtain ⟨j2, g2⟩ := got_ex hI h1d
      have e1 := e_prefers (B := B) (m := m) (g := g) hw hI hc (s := q) (by have := hI.pl8 d q h1d; omega) g1
      have e2 := e_prefers (B := B) (m := m) (g := g) hw hI hd (s := s) (by have := hI.pl8 c s h1c; omega) g2
      show Option.bind (p_X7_prefers m (nN c) (nN q) (ovl B m g a)) _ = _
      rw [e1, bS]
      show (if bI (prfB v pl c q = true) = nN 0 then _ else Option.bind (p_X7_prefers m (nN d) (nN s) (ovl B m g a)) _) = _
      simp only [e2, bS, bI_0]
      by_cases c1 : prfB v pl c q = true
      · by_cases c2 : prfB v pl d s = true
        · rw [if_neg (fun z => z c1), if_neg (fun z => z c2), ← bI_t (by simp [c1, c2])]
        · rw [if_neg (fun z => z c1), if_pos c2, ← bI_f (by simp [c2])]
      · rw [if_pos c1, ← bI_f (by simp [c1])]
end QR
section QS
variable {B : Mem} {r b t tb : Nat} {g : Nat → Int32} {h : Nat → Int64} {ar : Nat → Nat → Int32} {u : Nat → Int32} {ta : Nat → Nat → Int32} {v : Nat → Nat} {pl : Nat → Option Nat} {cd : Nat → Nat}
variable {z m : Nat}
theorem b_hasClaim (B : Mem) (hG : GE r b t tb) (hR : RG g h ar v pl) (hT : TG u ta v cd) (hI : Inv v pl) (hX : isC 5 (ofc B r b t tb g h ar u ta) z = some ()) (hr : gR 5 3 (ofc B r b t tb g h ar u ta) z = some r) (x0 x1 : Int32) : BQ1 m v pl (fun x y => x = y) (p_X6_hasClaim z x0 x1 (ofc B r b t tb g h ar u ta)) (fun M => p_X7_hasClaim m x0 x1 M) := by
  have hb := hI.hb; have h0 := hI.h0; have h1 := hI.h1; have h2 := hI.h2; have h7 := hI.h7; have h8 := hI.h8
  rcases ixN x0 (n := v 1) (by omega) with ho | ho | ⟨c0, hc0, rfl⟩
  · refine Or.inr (Or.inl ⟨?_, fun B g a => ?_⟩)
    · unfold p_X6_hasClaim; simp only [hX, bS, n_ch_o B hG hR hT hI hr (Or.inl ho), obx_r]
    · refine ⟨0, ?_⟩; show p_X7_hasClaim m _ _  _ = _; unfold p_X7_hasClaim; simp only [oc, bS, e_no_o hI (Or.inl ho), ob2_def]; rw [if_neg (by decide)]
  · refine Or.inr (Or.inl ⟨?_, fun B g a => ?_⟩)
    · unfold p_X6_hasClaim; simp only [hX, bS, n_ch_o B hG hR hT hI hr (Or.inr ho), obx_r]
    · refine ⟨0, ?_⟩; show p_X7_hasClaim m _ _  _ = _; unfold p_X7_hasClaim; simp only [oc, bS, e_no_o hI (Or.inr ho), ob2_def]; rw [if_neg (by decide)]
  rcases ixN x1 (n := v 0) (by omega) with ho | ho | ⟨s1, hs1, rfl⟩
  · refine Or.inr (Or.inl ⟨?_, fun B g a => ?_⟩)
    · unfold p_X6_hasClaim; simp only [hX, bS, n_ch B hG hR hT hI hr hc0, obx_l, hX, bS, n_sc_o B hG hR hT hI hr (Or.inl ho), obx_r]
    · refine ⟨0, ?_⟩; show p_X7_hasClaim m _ _  _ = _; unfold p_X7_hasClaim; simp only [oc, bS, e_no_p hI hc0 (Or.inl ho), ob2_def]; rw [if_neg (by decide)]
  · refine Or.inr (Or.inl ⟨?_, fun B g a => ?_⟩)
    · unfold p_X6_hasClaim; simp only [hX, bS, n_ch B hG hR hT hI hr hc0, obx_l, hX, bS, n_sc_o B hG hR hT hI hr (Or.inr ho), obx_r]
    · refine ⟨0, ?_⟩; show p_X7_hasClaim m _ _  _ = _; unfold p_X7_hasClaim; simp only [oc, bS, e_no_p hI hc0 (Or.inr ho), ob2_def]; rw [if_neg (by decide)]
  refine Or.inl ⟨bI (clmB v pl c0 s1 = true), bI (clmB v pl c0 s1 = true), ?_, rfl, fun B' g' a' => ?_⟩
  · unfold p_X6_hasClaim; simp only [hX, bS, n_ch B hG hR hT hI hr hc0, obx_l, hX, bS, n_sc B hG hR hT hI hr hs1, obx_l, hX, bS]
    simp only [hr, bS, fv_isC, c_claimStands B hG hR hT hI hc0 hs1]; rw [if_pos bI01]
  · show p_X7_hasClaim m (nN c0) (nN s1)  _ = _
    unfold p_X7_hasClaim
    have hw : up2 a' 1 (enc v pl) 1 = enc v pl := up2_s
    rw [oc, bS, e_no hI hc0 hs1, ob2_def, if_pos (by rfl)]
    have ee := e_claims (B := B') (m := m) (g := upd g' 9 (nN 0)) (a := up2 a' 1 (enc v pl)) hw hI hc0 (s := s1) (by omega)
    rw [oc, bS, ee, bS, bIr]

theorem b_holdersOfClass (B : Mem) (hG : GE r b t tb) (hR : RG g h ar v pl) (hT : TG u ta v cd) (hI : Inv v pl) (hX : isC 5 (ofc B r b t tb g h ar u ta) z = some ()) (hr : gR 5 3 (ofc B r b t tb g h ar u ta) z = some r) (x0 x1 : Int32) : BQ1 m v pl (fun x y => x = y) (p_X6_holdersOfClass z x0 x1 (ofc B r b t tb g h ar u ta)) (fun M => p_X7_holdersOfClass m x0 x1 M) := by
  have hb := hI.hb; have h0 := hI.h0; have h1 := hI.h1; have h2 := hI.h2; have h7 := hI.h7; have h8 := hI.h8
  rcases ixN x0 (n := v 0) (by omega) with ho | ho | ⟨s0, hs0, rfl⟩
  · refine Or.inr (Or.inl ⟨?_, fun B g a => ?_⟩)
    · unfold p_X6_holdersOfClass; simp only [hX, bS, n_sc_o B hG hR hT hI hr (Or.inl ho), obx_r]
    · refine ⟨0, ?_⟩; show p_X7_holdersOfClass m _ x1 _ = _; unfold p_X7_holdersOfClass
      rw [oc, bS, e_ns_o hI (Or.inl ho), ob2_def, if_neg (by decide)]
  · refine Or.inr (Or.inl ⟨?_, fun B g a => ?_⟩)
    · unfold p_X6_holdersOfClass; simp only [hX, bS, n_sc_o B hG hR hT hI hr (Or.inr ho), obx_r]
    · refine ⟨0, ?_⟩; show p_X7_holdersOfClass m _ x1 _ = _; unfold p_X7_holdersOfClass
      rw [oc, bS, e_ns_o hI (Or.inr ho), ob2_def, if_neg (by decide)]
  refine Or.inl ⟨nN (cnt (fun k => pl k = some s0 ∧ nN (clsS v k s0) = x1) (v 1)), nN (cnt (fun k => pl k = some s0 ∧ nN (clsS v k s0) = x1) (v 1)), ?_, rfl, fun B' g' a' => ?_⟩
  · unfold p_X6_holdersOfClass; simp only [hX, bS, n_sc B hG hR hT hI hr hs0, obx_l, hX, bS]
    have hFU : v 1 < FU := FU_pos (by omega)
    generalize FU = F at hFU ⊢
    refine loop_cnt (L := fun fu k x => pl_X6_holdersOfClass_10 (fun z => some (.inl z)) z (nN s0) x1 (ofc B r b t tb g h ar u ta) fu (nN x) (nN k)) (P := fun k => pl k = some s0 ∧ nN (clsS v k s0) = x1) (fin := fun x => some (.inl (nN x))) (n := v 1) (fun fu k x hk hx => ?_) (fun fu x hx => ?_) F hFU
    · rw [pl_X6_holdersOfClass_10]
      have e1 := c_rankClass B hG hR hT hI hk hs0
      have hpe : (oN (pl k) = nN s0) = (pl k = some s0) := oN_eq (hI.plb k) (by omega)
      simp (disch := first | omega | (apply hb; omega)) only [fv_isC, fv_0, fv_1, fv_2, fv_3, fv_4, fv_5, fv_6, fv_7, fv_8, fv_9, fv_10, fv_11, fv_12, fv_13, fv_14, fv_15, fv_16, fv_17, fv_18, fv_19, fd_0 hG, fd_1 hG, fd_2 hG, fd_3 hG, fd_4 hG, fd_5 hG, fd_6 hG, fd_7 hG, fd_8 hG, ft_C hG, ft_0 hG, ft_1 hG, ft_2 hG, ft_3 hG, ft_4 hG, ft_5 hG, ft_6 hG, ft_7 hG, ft_8 hG, ft_9 hG, ft_10 hG, ft_11 hG, ft_12 hG, fp_0 hG, fp_1 hG, fp_2 hG, fp_3 hG, fp_4 hG, fp_5 hG, fp_6 hG, fp_7 hG, fp_8 hG, fp_9 hG, hR.g1, hR.g2, hR.g3, hR.g4, hR.g5, hR.g6, hR.h7, hR.h8, hR.h9, hR.h10, hR.a0, hR.a1, hR.a2, hR.a3, hR.a4, hR.a5, hR.a6, hR.a7, hR.a8, hT.u0, hT.u1, hT.u2, hT.a0, hT.a1, hT.a2, hT.a3, hT.a4, bS, rd_nN, nN_lit, nN_add, nN_mul, nN_le, nN_lt, nN_eq, jn_def, mI_lit, bI_0, bI_1, n01, n10, if_true, if_false, ite_not, nP_P, hr, e1, hpe]
      rw [if_neg (by omega)]
      exact ii
    · rw [pl_X6_holdersOfClass_10]
      simp (disch := first | omega | (apply hb; omega)) only [fv_isC, fv_0, fv_1, fv_2, fv_3, fv_4, fv_5, fv_6, fv_7, fv_8, fv_9, fv_10, fv_11, fv_12, fv_13, fv_14, fv_15, fv_16, fv_17, fv_18, fv_19, fd_0 hG, fd_1 hG, fd_2 hG, fd_3 hG, fd_4 hG, fd_5 hG, fd_6 hG, fd_7 hG, fd_8 hG, ft_C hG, ft_0 hG, ft_1 hG, ft_2 hG, ft_3 hG, ft_4 hG, ft_5 hG, ft_6 hG, ft_7 hG, ft_8 hG, ft_9 hG, ft_10 hG, ft_11 hG, ft_12 hG, fp_0 hG, fp_1 hG, fp_2 hG, fp_3 hG, fp_4 hG, fp_5 hG, fp_6 hG, fp_7 hG, fp_8 hG, fp_9 hG, hR.g1, hR.g2, hR.g3, hR.g4, hR.g5, hR.g6, hR.h7, hR.h8, hR.h9, hR.h10, hR.a0, hR.a1, hR.a2, hR.a3, hR.a4, hR.a5, hR.a6, hR.a7, hR.a8, hT.u0, hT.u1, hT.u2, hT.a0, hT.a1, hT.a2, hT.a3, hT.a4, bS, rd_nN, nN_lit, nN_add, nN_mul, nN_le, nN_lt, nN_eq, jn_def, mI_lit, bI_0, bI_1, n01, n10, if_true, if_false, ite_not, nP_P, hr]
      rw [if_pos (by omega)]
  · show p_X7_holdersOfClass m (nN s0) x1 _ = _
    unfold p_X7_holdersOfClass
    have hw : up2 a' 1 (enc v pl) 1 = enc v pl := up2_s
    rw [oc, bS, e_ns hI hs0, ob2_def, if_pos (by rfl)]
    have hFU : v 1 < FU := FU_pos (by omega)
    generalize FU = F at hFU ⊢
    refine loop_cnt (L := fun fu k x => pl_X7_holdersOfClass_15 (fun z => some (z, (ovl B' m (upd g' 9 (nN 0)) (up2 a' 1 (enc v pl))))) m (nN s0) x1 (ovl B' m (upd g' 9 (nN 0)) (up2 a' 1 (enc v pl))) fu (nN x) (nN k)) (P := fun k => pl k = some s0 ∧ nN (clsS v k s0) = x1) (fin := fun x => some (nN x, (ovl B' m (upd g' 9 (nN 0)) (up2 a' 1 (enc v pl))))) (n := v 1) (fun fu k x hk hx => ?_) (fun fu x hx => ?_) F hFU
    · rw [pl_X7_holdersOfClass_15]
      have e1 := e_classAt (B := B') (m := m) (g := upd g' 9 (nN 0)) (a := up2 a' 1 (enc v pl)) hw hI (c := k) (s := s0) (by omega) (by omega)
      have hpe : (oN (pl k) = nN s0) = (pl k = some s0) := oN_eq (hI.plb k) (by omega)
      simp (disch := first | omega | (apply hb; omega)) only [oc, or_0, or_1, or_2, or_3, or_4, oi_5, oi_6, or_7, or_8, oi_9, or_10, or_11, oi_12, oi_13, oi_14, oi_15, oi_16, oi_17, oi_18, oi_19, oi_20, oi_21, or_22, or_23, or_24, oi_25, or_26, oi_27, od_1, od_2, od_3, od_4, od_5, od_6, od_7, od_8, od_9, od_10, od_11, od_12, od_13, bS, rd_nN, nN_lit, nN_add, nN_mul, hw, enc_v, enc_p, nN_le, nN_lt, nN_eq, jn_def, mI_lit, bI_0, bI_1, e_inRange, n01, n10, if_true, if_false, ite_not, nP_P, e1, hpe]
      rw [if_neg (by omega)]
      exact ii
    · rw [pl_X7_holdersOfClass_15]
      simp (disch := first | omega | (apply hb; omega)) only [oc, or_0, or_1, or_2, or_3, or_4, oi_5, oi_6, or_7, or_8, oi_9, or_10, or_11, oi_12, oi_13, oi_14, oi_15, oi_16, oi_17, oi_18, oi_19, oi_20, oi_21, or_22, or_23, or_24, oi_25, or_26, oi_27, od_1, od_2, od_3, od_4, od_5, od_6, od_7, od_8, od_9, od_10, od_11, od_12, od_13, bS, rd_nN, nN_lit, nN_add, nN_mul, hw, enc_v, enc_p, nN_le, nN_lt, nN_eq, jn_def, mI_lit, bI_0, bI_1, e_inRange, n01, n10, if_true, if_false, ite_not, nP_P]
      rw [if_pos (by omega)]

theorem b_inZone (B : Mem) (hG : GE r b t tb) (hR : RG g h ar v pl) (hT : TG u ta v cd) (hI : Inv v pl) (hX : isC 5 (ofc B r b t tb g h ar u ta) z = some ()) (hr : gR 5 3 (ofc B r b t tb g h ar u ta) z = some r) (x0 : Int32) : BQ1 m v pl (fun x y => x = y) (p_X6_inZone z x0 (ofc B r b t tb g h ar u ta)) (fun M => p_X7_inZone m x0 M) := by
  have hb := hI.hb; have h0 := hI.h0; have h1 := hI.h1; have h2 := hI.h2; have h7 := hI.h7; have h8 := hI.h8
  rcases ixN x0 (n := v 0) (by omega) with ho | ho | ⟨s0, hs0, rfl⟩
  · refine Or.inr (Or.inl ⟨?_, fun B g a => ?_⟩)
    · unfold p_X6_inZone; simp only [hX, bS, n_sc_o B hG hR hT hI hr (Or.inl ho), obx_r]
    · refine ⟨0, ?_⟩; show p_X7_inZone m _  _ = _; unfold p_X7_inZone
      rw [oc, bS, e_ns_o hI (Or.inl ho), ob2_def, if_neg (by decide)]
  · refine Or.inr (Or.inl ⟨?_, fun B g a => ?_⟩)
    · unfold p_X6_inZone; simp only [hX, bS, n_sc_o B hG hR hT hI hr (Or.inr ho), obx_r]
    · refine ⟨0, ?_⟩; show p_X7_inZone m _  _ = _; unfold p_X7_inZone
      rw [oc, bS, e_ns_o hI (Or.inr ho), ob2_def, if_neg (by decide)]
  refine Or.inl ⟨nN (cnt (fun k => v (404 + k) = 0 ∧ zonB v k s0 = true) (v 1)), nN (cnt (fun k => v (404 + k) = 0 ∧ zonB v k s0 = true) (v 1)), ?_, rfl, fun B' g' a' => ?_⟩
  · unfold p_X6_inZone; simp only [hX, bS, n_sc B hG hR hT hI hr hs0, obx_l, hX, bS]
    have hFU : v 1 < FU := FU_pos (by omega)
    generalize FU = F at hFU ⊢
    refine loop_cnt (L := fun fu k x => pl_X6_inZone_9 (fun z => some (.inl z)) z (nN s0) (ofc B r b t tb g h ar u ta) fu (nN x) (nN k)) (P := fun k => v (404 + k) = 0 ∧ zonB v k s0 = true) (fin := fun x => some (.inl (nN x))) (n := v 1) (fun fu k x hk hx => ?_) (fun fu x hx => ?_) F hFU
    · rw [pl_X6_inZone_9]
      have e1 := c_fits B hG hR hT hI hk hs0 (k := 2) (by omega)
      have e2 : p_X6_isIn (mkL (fun c => v (404 + c) = 1) (v 1)) (nN k) (ofc B r b t tb g h ar u ta) = some (bI (v (404 + k) = 1)) := c_isIn (by omega) hk
      have hch := hI.chi k (by omega)
      simp (disch := first | omega | (apply hb; omega)) only [fv_isC, fv_0, fv_1, fv_2, fv_3, fv_4, fv_5, fv_6, fv_7, fv_8, fv_9, fv_10, fv_11, fv_12, fv_13, fv_14, fv_15, fv_16, fv_17, fv_18, fv_19, fd_0 hG, fd_1 hG, fd_2 hG, fd_3 hG, fd_4 hG, fd_5 hG, fd_6 hG, fd_7 hG, fd_8 hG, ft_C hG, ft_0 hG, ft_1 hG, ft_2 hG, ft_3 hG, ft_4 hG, ft_5 hG, ft_6 hG, ft_7 hG, ft_8 hG, ft_9 hG, ft_10 hG, ft_11 hG, ft_12 hG, fp_0 hG, fp_1 hG, fp_2 hG, fp_3 hG, fp_4 hG, fp_5 hG, fp_6 hG, fp_7 hG, fp_8 hG, fp_9 hG, hR.g1, hR.g2, hR.g3, hR.g4, hR.g5, hR.g6, hR.h7, hR.h8, hR.h9, hR.h10, hR.a0, hR.a1, hR.a2, hR.a3, hR.a4, hR.a5, hR.a6, hR.a7, hR.a8, hT.u0, hT.u1, hT.u2, hT.a0, hT.a1, hT.a2, hT.a3, hT.a4, bS, rd_nN, nN_lit, nN_add, nN_mul, nN_le, nN_lt, nN_eq, jn_def, mI_lit, bI_0, bI_1, n01, n10, if_true, if_false, ite_not, nP_P, hr, e1, e2]
      rw [if_neg (by omega)]
      refine Eq.trans ij (ik ?_)
      show (¬ v (404 + k) = 1 ∧ zonB v k s0 = true) ↔ _
      constructor
      · rintro ⟨p1, p2⟩; exact ⟨by omega, p2⟩
      · rintro ⟨p1, p2⟩; exact ⟨by omega, p2⟩
    · rw [pl_X6_inZone_9]
      simp (disch := first | omega | (apply hb; omega)) only [fv_isC, fv_0, fv_1, fv_2, fv_3, fv_4, fv_5, fv_6, fv_7, fv_8, fv_9, fv_10, fv_11, fv_12, fv_13, fv_14, fv_15, fv_16, fv_17, fv_18, fv_19, fd_0 hG, fd_1 hG, fd_2 hG, fd_3 hG, fd_4 hG, fd_5 hG, fd_6 hG, fd_7 hG, fd_8 hG, ft_C hG, ft_0 hG, ft_1 hG, ft_2 hG, ft_3 hG, ft_4 hG, ft_5 hG, ft_6 hG, ft_7 hG, ft_8 hG, ft_9 hG, ft_10 hG, ft_11 hG, ft_12 hG, fp_0 hG, fp_1 hG, fp_2 hG, fp_3 hG, fp_4 hG, fp_5 hG, fp_6 hG, fp_7 hG, fp_8 hG, fp_9 hG, hR.g1, hR.g2, hR.g3, hR.g4, hR.g5, hR.g6, hR.h7, hR.h8, hR.h9, hR.h10, hR.a0, hR.a1, hR.a2, hR.a3, hR.a4, hR.a5, hR.a6, hR.a7, hR.a8, hT.u0, hT.u1, hT.u2, hT.a0, hT.a1, hT.a2, hT.a3, hT.a4, bS, rd_nN, nN_lit, nN_add, nN_mul, nN_le, nN_lt, nN_eq, jn_def, mI_lit, bI_0, bI_1, n01, n10, if_true, if_false, ite_not, nP_P, hr]
      rw [if_pos (by omega)]
  · show p_X7_inZone m (nN s0)  _ = _
    unfold p_X7_inZone
    have hw : up2 a' 1 (enc v pl) 1 = enc v pl := up2_s
    rw [oc, bS, e_ns hI hs0, ob2_def, if_pos (by rfl)]
    have hFU : v 1 < FU := FU_pos (by omega)
    generalize FU = F at hFU ⊢
    refine loop_cnt (L := fun fu k x => pl_X7_inZone_14 (fun z => some (z, (ovl B' m (upd g' 9 (nN 0)) (up2 a' 1 (enc v pl))))) m (nN s0) (ovl B' m (upd g' 9 (nN 0)) (up2 a' 1 (enc v pl))) fu (nN x) (nN k)) (P := fun k => v (404 + k) = 0 ∧ zonB v k s0 = true) (fin := fun x => some (nN x, (ovl B' m (upd g' 9 (nN 0)) (up2 a' 1 (enc v pl))))) (n := v 1) (fun fu k x hk hx => ?_) (fun fu x hx => ?_) F hFU
    · rw [pl_X7_inZone_14]
      have e1 := e_isHere (B := B') (m := m) (g := upd g' 9 (nN 0)) (a := up2 a' 1 (enc v pl)) hw hI (c := k) (by omega)
      have e2 := e_isInZone (B := B') (m := m) (g := upd g' 9 (nN 0)) (a := up2 a' 1 (enc v pl)) hw hI (c := k) (s := s0) (by omega) (by omega)
      simp (disch := first | omega | (apply hb; omega)) only [oc, or_0, or_1, or_2, or_3, or_4, oi_5, oi_6, or_7, or_8, oi_9, or_10, or_11, oi_12, oi_13, oi_14, oi_15, oi_16, oi_17, oi_18, oi_19, oi_20, oi_21, or_22, or_23, or_24, oi_25, or_26, oi_27, od_1, od_2, od_3, od_4, od_5, od_6, od_7, od_8, od_9, od_10, od_11, od_12, od_13, bS, rd_nN, nN_lit, nN_add, nN_mul, hw, enc_v, enc_p, nN_le, nN_lt, nN_eq, jn_def, mI_lit, bI_0, bI_1, e_inRange, n01, n10, if_true, if_false, ite_not, nP_P, e1, e2]
      rw [if_neg (by omega)]
      exact ii
    · rw [pl_X7_inZone_14]
      simp (disch := first | omega | (apply hb; omega)) only [oc, or_0, or_1, or_2, or_3, or_4, oi_5, oi_6, or_7, or_8, oi_9, or_10, or_11, oi_12, oi_13, oi_14, oi_15, oi_16, oi_17, oi_18, oi_19, oi_20, oi_21, or_22, or_23, or_24, oi_25, or_26, oi_27, od_1, od_2, od_3, od_4, od_5, od_6, od_7, od_8, od_9, od_10, od_11, od_12, od_13, bS, rd_nN, nN_lit, nN_add, nN_mul, hw, enc_v, enc_p, nN_le, nN_lt, nN_eq, jn_def, mI_lit, bI_0, bI_1, e_inRange, n01, n10, if_true, if_false, ite_not, nP_P]
      rw [if_pos (by omega)]

theorem b_tradePartner (B : Mem) (hG : GE r b t tb) (hR : RG g h ar v pl) (hT : TG u ta v cd) (hI : Inv v pl) (hX : isC 5 (ofc B r b t tb g h ar u ta) z = some ()) (hr : gR 5 3 (ofc B r b t tb g h ar u ta) z = some r) (x0 : Int32) : BQ1 m v pl (fun x y => x = y) (p_X6_tradePartner z x0 (ofc B r b t tb g h ar u ta)) (fun M => p_X7_tradePartner m x0 M) := by
  have hb := hI.hb; have h0 := hI.h0; have h1 := hI.h1; have h2 := hI.h2; have h7 := hI.h7; have h8 := hI.h8
  rcases ixN x0 (n := v 1) (by omega) with ho | ho | ⟨c0, hc0, rfl⟩
  · refine Or.inr (Or.inl ⟨?_, fun B g a => ?_⟩)
    · unfold p_X6_tradePartner; simp only [hX, bS, n_ch_o B hG hR hT hI hr (Or.inl ho), obx_r]
    · refine ⟨0, ?_⟩; show p_X7_tradePartner m _  _ = _; unfold p_X7_tradePartner
      rw [oc, bS, e_nc_o hI (Or.inl ho), ob2_def, if_neg (by decide)]
  · refine Or.inr (Or.inl ⟨?_, fun B g a => ?_⟩)
    · unfold p_X6_tradePartner; simp only [hX, bS, n_ch_o B hG hR hT hI hr (Or.inr ho), obx_r]
    · refine ⟨0, ?_⟩; show p_X7_tradePartner m _  _ = _; unfold p_X7_tradePartner
      rw [oc, bS, e_nc_o hI (Or.inr ho), ob2_def, if_neg (by decide)]
  refine Or.inl ⟨oN (fnd (fun k => trdB v pl c0 k = true) 0 (v 1)), oN (fnd (fun k => trdB v pl c0 k = true) 0 (v 1)), ?_, rfl, fun B' g' a' => ?_⟩
  · unfold p_X6_tradePartner; simp only [hX, bS, n_ch B hG hR hT hI hr hc0, obx_l, hX, bS]
    have hFU : v 1 < FU := FU_pos (by omega)
    generalize FU = F at hFU ⊢
    refine loop_fnd (L := fun fu k => pl_X6_tradePartner_7 (fun z => some (.inl z)) (fun _ => some (.inl (-1 : Int32))) z (nN c0) (ofc B r b t tb g h ar u ta) fu (nN k)) (P := fun k => trdB v pl c0 k = true) (fin := fun o => some (.inl (oN o))) (n := v 1) (fun fu k hk => ?_) (fun fu => ?_) (v 1) 0 F (by omega) hFU
    · rw [pl_X6_tradePartner_7]
      have e1 := c_wouldTrade B hG hR hT hI hc0 hk
      simp (disch := first | omega | (apply hb; omega)) only [fv_isC, fv_0, fv_1, fv_2, fv_3, fv_4, fv_5, fv_6, fv_7, fv_8, fv_9, fv_10, fv_11, fv_12, fv_13, fv_14, fv_15, fv_16, fv_17, fv_18, fv_19, fd_0 hG, fd_1 hG, fd_2 hG, fd_3 hG, fd_4 hG, fd_5 hG, fd_6 hG, fd_7 hG, fd_8 hG, ft_C hG, ft_0 hG, ft_1 hG, ft_2 hG, ft_3 hG, ft_4 hG, ft_5 hG, ft_6 hG, ft_7 hG, ft_8 hG, ft_9 hG, ft_10 hG, ft_11 hG, ft_12 hG, fp_0 hG, fp_1 hG, fp_2 hG, fp_3 hG, fp_4 hG, fp_5 hG, fp_6 hG, fp_7 hG, fp_8 hG, fp_9 hG, hR.g1, hR.g2, hR.g3, hR.g4, hR.g5, hR.g6, hR.h7, hR.h8, hR.h9, hR.h10, hR.a0, hR.a1, hR.a2, hR.a3, hR.a4, hR.a5, hR.a6, hR.a7, hR.a8, hT.u0, hT.u1, hT.u2, hT.a0, hT.a1, hT.a2, hT.a3, hT.a4, bS, rd_nN, nN_lit, nN_add, nN_mul, nN_le, nN_lt, nN_eq, jn_def, mI_lit, bI_0, bI_1, n01, n10, if_true, if_false, ite_not, nP_P, hr, e1]
      rw [if_neg (by omega)]
      rfl
    · rw [pl_X6_tradePartner_7]
      simp (disch := first | omega | (apply hb; omega)) only [fv_isC, fv_0, fv_1, fv_2, fv_3, fv_4, fv_5, fv_6, fv_7, fv_8, fv_9, fv_10, fv_11, fv_12, fv_13, fv_14, fv_15, fv_16, fv_17, fv_18, fv_19, fd_0 hG, fd_1 hG, fd_2 hG, fd_3 hG, fd_4 hG, fd_5 hG, fd_6 hG, fd_7 hG, fd_8 hG, ft_C hG, ft_0 hG, ft_1 hG, ft_2 hG, ft_3 hG, ft_4 hG, ft_5 hG, ft_6 hG, ft_7 hG, ft_8 hG, ft_9 hG, ft_10 hG, ft_11 hG, ft_12 hG, fp_0 hG, fp_1 hG, fp_2 hG, fp_3 hG, fp_4 hG, fp_5 hG, fp_6 hG, fp_7 hG, fp_8 hG, fp_9 hG, hR.g1, hR.g2, hR.g3, hR.g4, hR.g5, hR.g6, hR.h7, hR.h8, hR.h9, hR.h10, hR.a0, hR.a1, hR.a2, hR.a3, hR.a4, hR.a5, hR.a6, hR.a7, hR.a8, hT.u0, hT.u1, hT.u2, hT.a0, hT.a1, hT.a2, hT.a3, hT.a4, bS, rd_nN, nN_lit, nN_add, nN_mul, nN_le, nN_lt, nN_eq, jn_def, mI_lit, bI_0, bI_1, n01, n10, if_true, if_false, ite_not, nP_P, hr]
      rw [if_pos (by omega)]
      rfl
  · show p_X7_tradePartner m (nN c0)  _ = _
    unfold p_X7_tradePartner
    have hw : up2 a' 1 (enc v pl) 1 = enc v pl := up2_s
    rw [oc, bS, e_nc hI hc0, ob2_def, if_pos (by rfl)]
    rw [jn_def]
    have hFU : v 1 < FU := FU_pos (by omega)
    generalize FU = F at hFU ⊢
    refine loop_fnd (L := fun fu k => pl_X7_tradePartner_12 (fun z16 => Option.bind (gR 6 0 (ovl B' m (upd g' 9 (nN 0)) (up2 a' 1 (enc v pl))) m) fun v7 => Option.bind (aI 0 (ovl B' m (upd g' 9 (nN 0)) (up2 a' 1 (enc v pl))) v7 (1 : Int32)) fun v8 => if z16 = v8 then some ((-1 : Int32), (ovl B' m (upd g' 9 (nN 0)) (up2 a' 1 (enc v pl)))) else some (z16, (ovl B' m (upd g' 9 (nN 0)) (up2 a' 1 (enc v pl))))) m (nN c0) (ovl B' m (upd g' 9 (nN 0)) (up2 a' 1 (enc v pl))) fu (nN k)) (P := fun k => trdB v pl c0 k = true) (fin := fun o => some (oN o, (ovl B' m (upd g' 9 (nN 0)) (up2 a' 1 (enc v pl))))) (n := v 1) (fun fu k hk => ?_) (fun fu => ?_) (v 1) 0 F (by omega) hFU
    · rw [pl_X7_tradePartner_12]
      have e1 := e_trade (B := B') (m := m) (g := upd g' 9 (nN 0)) (a := up2 a' 1 (enc v pl)) hw hI hc0 hk
      simp (disch := first | omega | (apply hb; omega)) only [oc, or_0, or_1, or_2, or_3, or_4, oi_5, oi_6, or_7, or_8, oi_9, or_10, or_11, oi_12, oi_13, oi_14, oi_15, oi_16, oi_17, oi_18, oi_19, oi_20, oi_21, or_22, or_23, or_24, oi_25, or_26, oi_27, od_1, od_2, od_3, od_4, od_5, od_6, od_7, od_8, od_9, od_10, od_11, od_12, od_13, bS, rd_nN, nN_lit, nN_add, nN_mul, hw, enc_v, enc_p, nN_le, nN_lt, nN_eq, jn_def, mI_lit, bI_0, bI_1, e_inRange, n01, n10, if_true, if_false, ite_not, nP_P, e1]
      rw [if_neg (by omega)]
      by_cases ct : trdB v pl c0 k = true
      · rw [if_pos ct, if_pos ct, if_neg (by omega)]; rfl
      · rw [if_neg ct, if_neg ct]
    · rw [pl_X7_tradePartner_12]
      simp (disch := first | omega | (apply hb; omega)) only [oc, or_0, or_1, or_2, or_3, or_4, oi_5, oi_6, or_7, or_8, oi_9, or_10, or_11, oi_12, oi_13, oi_14, oi_15, oi_16, oi_17, oi_18, oi_19, oi_20, oi_21, or_22, or_23, or_24, oi_25, or_26, oi_27, od_1, od_2, od_3, od_4, od_5, od_6, od_7, od_8, od_9, od_10, od_11, od_12, od_13, bS, rd_nN, nN_lit, nN_add, nN_mul, hw, enc_v, enc_p, nN_le, nN_lt, nN_eq, jn_def, mI_lit, bI_0, bI_1, e_inRange, n01, n10, if_true, if_false, ite_not, nP_P]
      rw [if_pos (by omega)]
      rfl

theorem b_cutoff (B : Mem) (hG : GE r b t tb) (hR : RG g h ar v pl) (hT : TG u ta v cd) (hI : Inv v pl) (hX : isC 5 (ofc B r b t tb g h ar u ta) z = some ()) (hr : gR 5 3 (ofc B r b t tb g h ar u ta) z = some r) (x0 x1 : Int32) : BQ m v pl "java/lang/IllegalArgumentException" (fun x y => x = y) (p_X6_cutoff z x0 x1 (ofc B r b t tb g h ar u ta)) (fun M => p_X7_cutoff m x0 x1 M) := by
  have hb := hI.hb; have h0 := hI.h0; have h1 := hI.h1; have h2 := hI.h2; have h7 := hI.h7; have h8 := hI.h8
  rcases ixN x0 (n := v 0) (by omega) with ho | ho | ⟨s0, hs0, rfl⟩
  · refine Or.inr (Or.inl ⟨?_, fun B g a => ?_⟩)
    · unfold p_X6_cutoff; simp only [hX, bS, n_sc_o B hG hR hT hI hr (Or.inl ho), obx_r]
    · refine ⟨0, ?_⟩; show p_X7_cutoff m _ x1 _ = _; unfold p_X7_cutoff
      rw [oc, bS, e_ns_o hI (Or.inl ho), ob2_def, if_neg (by decide)]
  · refine Or.inr (Or.inl ⟨?_, fun B g a => ?_⟩)
    · unfold p_X6_cutoff; simp only [hX, bS, n_sc_o B hG hR hT hI hr (Or.inr ho), obx_r]
    · refine ⟨0, ?_⟩; show p_X7_cutoff m _ x1 _ = _; unfold p_X7_cutoff
      rw [oc, bS, e_ns_o hI (Or.inr ho), ob2_def, if_neg (by decide)]
  rcases ixN x1 (n := 3) (by omega) with ho | ho | ⟨w, hw3, rfl⟩
  · refine Or.inr (Or.inr ⟨?_, fun B' g' a' => ⟨0, ?_⟩⟩)
    · unfold p_X6_cutoff; simp only [hX, bS, n_sc B hG hR hT hI hr hs0, obx_l, hX, bS]
      rw [if_pos ho]
    · show p_X7_cutoff m (nN s0) x1 _ = _
      unfold p_X7_cutoff
      rw [oc, bS, e_ns hI hs0, ob2_def, if_pos (by rfl)]
      show Option.bind (p_X7_inRange x1 (nN 0) (nN 2) _) _ = _
      rw [rng_out2 (by omega) (Or.inl ho), bS, jn_def, if_pos (by rfl)]
      simp only [oc, bS]
      show ob2 (p_X7_fails m (nN 1) _ _) _ = _
      rw [fa_1, ob2_def, if_neg (by decide), upd_2]
      rfl
  · refine Or.inr (Or.inr ⟨?_, fun B' g' a' => ⟨0, ?_⟩⟩)
    · unfold p_X6_cutoff; simp only [hX, bS, n_sc B hG hR hT hI hr hs0, obx_l, hX, bS]
      rw [if_neg (by rw [i_lt]; rw [i_le, nN_toInt (by omega)] at ho; show ¬ x1.toInt < (0 : Int); omega), if_neg (by rw [i_le]; rw [i_le, nN_toInt (by omega)] at ho; show ¬ x1.toInt ≤ (2 : Int); omega)]
    · show p_X7_cutoff m (nN s0) x1 _ = _
      unfold p_X7_cutoff
      rw [oc, bS, e_ns hI hs0, ob2_def, if_pos (by rfl)]
      show Option.bind (p_X7_inRange x1 (nN 0) (nN 2) _) _ = _
      rw [rng_out2 (by omega) (Or.inr ho), bS, jn_def, if_pos (by rfl)]
      simp only [oc, bS]
      show ob2 (p_X7_fails m (nN 1) _ _) _ = _
      rw [fa_1, ob2_def, if_neg (by decide), upd_2]
      rfl
  · have el := c_lastOf B hG hR hT hI (P := fun k => pl k = some s0) hs0
    have eh := c_holdersOf B hG hR hT hI (s := s0) (by omega)
    cases hl : lstO v pl s0 with
    | none =>
      have hl2 : mxO (fun k => pl k = some s0) (stS v s0) (v 1) = none := hl
      refine Or.inl ⟨mI, mI, ?_, rfl, fun B' g' a' => ?_⟩
      · unfold p_X6_cutoff; simp only [hX, bS, n_sc B hG hR hT hI hr hs0, obx_l, hX, bS]
        rw [if_neg (nN_neg0 (by omega)), if_pos (show nN w ≤ (2 : Int32) from nle_t (b := 2) (by omega) (by omega) (by omega))]
        simp only [hr, bS, fv_isC, eh, el, hl2]
        rfl
      · show p_X7_cutoff m (nN s0) (nN w) _ = _
        unfold p_X7_cutoff
        have hw : up2 a' 1 (enc v pl) 1 = enc v pl := up2_s
        have e1 := e_lastOf (B := B') (m := m) (g := upd g' 9 (nN 0)) (a := up2 a' 1 (enc v pl)) hw hI (s := s0) (by omega)
        rw [oc, bS, e_ns hI hs0, ob2_def, if_pos (by rfl)]
        show Option.bind (p_X7_inRange (nN w) (nN 0) (nN 2) _) _ = _
        rw [rng_in2 (by omega) (by omega), bS, jn_def, if_neg (by decide)]
        simp only [oc, bS]
        show ob2 (p_X7_fails m (nN 0) _ _) _ = _
        rw [fa_0, ob2_def, if_pos (by rfl), oc, bS, e1, bS, hl]
        rfl
    | some l =>
      have hlk := lst_some hl
      have hl2 : mxO (fun k => pl k = some s0) (stS v s0) (v 1) = some l := hl
      have ec := c_rankClass B hG hR hT hI hlk.1 hs0
      have ef := c_squareWay B hG hR hT hI hlk.1 hs0
      refine Or.inl ⟨if w = 0 then nN (clsS v l s0) else if w = 1 then nN (farS v l s0) else nN (v (284 + l)), if w = 0 then nN (clsS v l s0) else if w = 1 then nN (farS v l s0) else nN (v (284 + l)), ?_, rfl, fun B' g' a' => ?_⟩
      · unfold p_X6_cutoff; simp only [hX, bS, n_sc B hG hR hT hI hr hs0, obx_l, hX, bS]
        rw [if_neg (nN_neg0 (by omega)), if_pos (show nN w ≤ (2 : Int32) from nle_t (b := 2) (by omega) (by omega) (by omega))]
        simp (disch := omega) only [hr, bS, fv_isC, eh, el, hl2, oN, ec, ef, fv_14, fd_3 hG, rd_nN, hR.a3]
        rw [if_neg (show ¬ nN l = -1 from nNm (by omega))]
        have hw' : w = 0 ∨ w = 1 ∨ w = 2 := by omega
        rcases hw' with rfl | rfl | rfl <;> rfl
      · show p_X7_cutoff m (nN s0) (nN w) _ = _
        unfold p_X7_cutoff
        have hw : up2 a' 1 (enc v pl) 1 = enc v pl := up2_s
        have e1 := e_lastOf (B := B') (m := m) (g := upd g' 9 (nN 0)) (a := up2 a' 1 (enc v pl)) hw hI (s := s0) (by omega)
        have e2 := e_classAt (B := B') (m := m) (g := upd g' 9 (nN 0)) (a := up2 a' 1 (enc v pl)) hw hI (c := l) (s := s0) (by omega) (by omega)
        have e3 := e_far (B := B') (m := m) (g := upd g' 9 (nN 0)) (a := up2 a' 1 (enc v pl)) hw hI (c := l) (s := s0) (by omega) (by omega)
        have e4 := er_v (B := B') (m := m) (g := upd g' 9 (nN 0)) (a := a') (v := v) (pl := pl) (i := 284 + l) (by omega) (by omega)
        have ei : (284 : Int32) + nN l = nN (284 + l) := nN_add 284 l
        rw [oc, bS, e_ns hI hs0, ob2_def, if_pos (by rfl)]
        show Option.bind (p_X7_inRange (nN w) (nN 0) (nN 2) _) _ = _
        rw [rng_in2 (by omega) (by omega), bS, jn_def, if_neg (by decide)]
        simp only [oc, bS]
        show ob2 (p_X7_fails m (nN 0) _ _) _ = _
        rw [fa_0, ob2_def, if_pos (by rfl), oc, bS, e1, bS, hl]
        show (if nN l = -1 then _ else _) = _
        rw [if_neg (show ¬ nN l = -1 from nNm (by omega))]
        simp only [show oN (some l) = nN l from rfl, oc, bS, e2, e3, or_0, ei, e4]
        have hw' : w = 0 ∨ w = 1 ∨ w = 2 := by omega
        rcases hw' with rfl | rfl | rfl <;> rfl

theorem b_nearest (B : Mem) (hG : GE r b t tb) (hR : RG g h ar v pl) (hT : TG u ta v cd) (hI : Inv v pl) (hX : isC 5 (ofc B r b t tb g h ar u ta) z = some ()) (hr : gR 5 3 (ofc B r b t tb g h ar u ta) z = some r) (x0 : Int32) : BQ1 m v pl (fun x y => x = y) (p_X6_nearest z x0 (ofc B r b t tb g h ar u ta)) (fun M => p_X7_nearest m x0 M) := by
  have hb := hI.hb; have h0 := hI.h0; have h1 := hI.h1; have h2 := hI.h2; have h7 := hI.h7; have h8 := hI.h8
  rcases ixN x0 (n := v 1) (by omega) with ho | ho | ⟨c0, hc0, rfl⟩
  · refine Or.inr (Or.inl ⟨?_, fun B g a => ?_⟩)
    · unfold p_X6_nearest; simp only [hX, bS, n_ch_o B hG hR hT hI hr (Or.inl ho), obx_r]
    · refine ⟨0, ?_⟩; show p_X7_nearest m _  _ = _; unfold p_X7_nearest
      rw [oc, bS, e_nc_o hI (Or.inl ho), ob2_def, if_neg (by decide)]
  · refine Or.inr (Or.inl ⟨?_, fun B g a => ?_⟩)
    · unfold p_X6_nearest; simp only [hX, bS, n_ch_o B hG hR hT hI hr (Or.inr ho), obx_r]
    · refine ⟨0, ?_⟩; show p_X7_nearest m _  _ = _; unfold p_X7_nearest
      rw [oc, bS, e_nc_o hI (Or.inr ho), ob2_def, if_neg (by decide)]
  refine Or.inl ⟨oN (mnO (fun _ => True) (farS v c0) (v 0)), oN (mnO (fun _ => True) (farS v c0) (v 0)), ?_, rfl, fun B' g' a' => ?_⟩
  · unfold p_X6_nearest; simp only [hX, bS, n_ch B hG hR hT hI hr hc0, obx_l, hX, bS]
    have key : ∀ d k fu, k + d = v 0 → d < fu → pl_X6_nearest_9 (fun z => some (.inl z)) z (nN c0) (ofc B r b t tb g h ar u ta) fu (oN (mnO (fun _ => True) (farS v c0) k)) (nN k) = some (.inl (oN (mnO (fun _ => True) (farS v c0) (v 0)))) := by
      intro d
      induction d with
      | zero =>
        intro k fu hk hf
        obtain ⟨f, rfl⟩ : ∃ f, fu = f + 1 := ⟨fu - 1, by omega⟩
        rw [pl_X6_nearest_9]
        simp (disch := first | omega | (apply hb; omega)) only [fv_isC, fv_0, fv_1, fv_2, fv_3, fv_4, fv_5, fv_6, fv_7, fv_8, fv_9, fv_10, fv_11, fv_12, fv_13, fv_14, fv_15, fv_16, fv_17, fv_18, fv_19, fd_0 hG, fd_1 hG, fd_2 hG, fd_3 hG, fd_4 hG, fd_5 hG, fd_6 hG, fd_7 hG, fd_8 hG, ft_C hG, ft_0 hG, ft_1 hG, ft_2 hG, ft_3 hG, ft_4 hG, ft_5 hG, ft_6 hG, ft_7 hG, ft_8 hG, ft_9 hG, ft_10 hG, ft_11 hG, ft_12 hG, fp_0 hG, fp_1 hG, fp_2 hG, fp_3 hG, fp_4 hG, fp_5 hG, fp_6 hG, fp_7 hG, fp_8 hG, fp_9 hG, hR.g1, hR.g2, hR.g3, hR.g4, hR.g5, hR.g6, hR.h7, hR.h8, hR.h9, hR.h10, hR.a0, hR.a1, hR.a2, hR.a3, hR.a4, hR.a5, hR.a6, hR.a7, hR.a8, hT.u0, hT.u1, hT.u2, hT.a0, hT.a1, hT.a2, hT.a3, hT.a4, bS, rd_nN, nN_lit, nN_add, nN_mul, nN_le, nN_lt, nN_eq, jn_def, mI_lit, bI_0, bI_1, n01, n10, if_true, if_false, ite_not, nP_P, hr]
        rw [if_pos (by omega), show k = v 0 by omega]
      | succ d ih =>
        intro k fu hk hf
        obtain ⟨f, rfl⟩ : ∃ f, fu = f + 1 := ⟨fu - 1, by omega⟩
        have ih := ih (k + 1) f (by omega) (by omega)
        rw [pl_X6_nearest_9]
        have e1 := c_squareWay B hG hR hT hI hc0 (s := k) (by omega)
        have fl := far_le hI (c := c0) (s := k) (by omega) (by omega)
        simp (disch := first | omega | (apply hb; omega)) only [fv_isC, fv_0, fv_1, fv_2, fv_3, fv_4, fv_5, fv_6, fv_7, fv_8, fv_9, fv_10, fv_11, fv_12, fv_13, fv_14, fv_15, fv_16, fv_17, fv_18, fv_19, fd_0 hG, fd_1 hG, fd_2 hG, fd_3 hG, fd_4 hG, fd_5 hG, fd_6 hG, fd_7 hG, fd_8 hG, ft_C hG, ft_0 hG, ft_1 hG, ft_2 hG, ft_3 hG, ft_4 hG, ft_5 hG, ft_6 hG, ft_7 hG, ft_8 hG, ft_9 hG, ft_10 hG, ft_11 hG, ft_12 hG, fp_0 hG, fp_1 hG, fp_2 hG, fp_3 hG, fp_4 hG, fp_5 hG, fp_6 hG, fp_7 hG, fp_8 hG, fp_9 hG, hR.g1, hR.g2, hR.g3, hR.g4, hR.g5, hR.g6, hR.h7, hR.h8, hR.h9, hR.h10, hR.a0, hR.a1, hR.a2, hR.a3, hR.a4, hR.a5, hR.a6, hR.a7, hR.a8, hT.u0, hT.u1, hT.u2, hT.a0, hT.a1, hT.a2, hT.a3, hT.a4, bS, rd_nN, nN_lit, nN_add, nN_mul, nN_le, nN_lt, nN_eq, jn_def, mI_lit, bI_0, bI_1, n01, n10, if_true, if_false, ite_not, nP_P, hr, e1]
        rw [if_neg (by omega), ← ih]
        show _ = pl_X6_nearest_9 _ _ _ _ _ (oN (if _ then _ else _)) _
        cases hl : mnO (fun _ => True) (farS v c0) k with
        | none =>
          show (if mI = mI then _ else _) = _
          rw [if_pos rfl, if_pos ⟨trivial, rfl⟩]; rfl
        | some l =>
          have hlk := mnO_lt hl
          have fl2 := far_le hI (c := c0) (s := l) (by omega) (by omega)
          have e2 := c_squareWay B hG hR hT hI hc0 (s := l) (by omega)
          rw [if_neg (show ¬ oN (some l) = mI from nNm (by omega))]
          show Option.bind (p_X2_squareWay r (nN c0) (nN l) (ofc B r b t tb g h ar u ta)) _ = _
          rw [e2, bS]
          by_cases c3 : farS v c0 k < farS v c0 l
          · rw [if_neg (nle_f (by omega) (by omega) (by omega)), if_pos ⟨trivial, by simp [c3]⟩]; rfl
          · rw [if_pos (nle_t (by omega) (by omega) (by omega)), if_neg (fun h => by simp [c3] at h)]
    exact key (v 0) 0 FU (by omega) (FU_pos (by omega))

  · show p_X7_nearest m (nN c0)  _ = _
    unfold p_X7_nearest
    have hw : up2 a' 1 (enc v pl) 1 = enc v pl := up2_s
    rw [oc, bS, e_nc hI hc0, ob2_def, if_pos (by rfl)]
    have key : ∀ d k fu, k + d = v 0 → d < fu → pl_X7_nearest_14 (fun z => some (z, (ovl B' m (upd g' 9 (nN 0)) (up2 a' 1 (enc v pl))))) m (nN c0) (ovl B' m (upd g' 9 (nN 0)) (up2 a' 1 (enc v pl))) fu (oN (mnO (fun _ => True) (farS v c0) k)) (nN k) = some (oN (mnO (fun _ => True) (farS v c0) (v 0)), (ovl B' m (upd g' 9 (nN 0)) (up2 a' 1 (enc v pl)))) := by
      intro d
      induction d with
      | zero =>
        intro k fu hk hf
        obtain ⟨f, rfl⟩ : ∃ f, fu = f + 1 := ⟨fu - 1, by omega⟩
        rw [pl_X7_nearest_14]
        simp (disch := first | omega | (apply hb; omega)) only [oc, or_0, or_1, or_2, or_3, or_4, oi_5, oi_6, or_7, or_8, oi_9, or_10, or_11, oi_12, oi_13, oi_14, oi_15, oi_16, oi_17, oi_18, oi_19, oi_20, oi_21, or_22, or_23, or_24, oi_25, or_26, oi_27, od_1, od_2, od_3, od_4, od_5, od_6, od_7, od_8, od_9, od_10, od_11, od_12, od_13, bS, rd_nN, nN_lit, nN_add, nN_mul, hw, enc_v, enc_p, nN_le, nN_lt, nN_eq, jn_def, mI_lit, bI_0, bI_1, e_inRange, n01, n10, if_true, if_false, ite_not, nP_P]
        rw [if_pos (by omega), show k = v 0 by omega]
      | succ d ih =>
        intro k fu hk hf
        obtain ⟨f, rfl⟩ : ∃ f, fu = f + 1 := ⟨fu - 1, by omega⟩
        have ih := ih (k + 1) f (by omega) (by omega)
        rw [pl_X7_nearest_14]
        have e1 := e_far (B := B') (m := m) (g := upd g' 9 (nN 0)) (a := up2 a' 1 (enc v pl)) hw hI (c := c0) (s := k) (by omega) (by omega)
        have fl := far_le hI (c := c0) (s := k) (by omega) (by omega)
        simp (disch := first | omega | (apply hb; omega)) only [oc, or_0, or_1, or_2, or_3, or_4, oi_5, oi_6, or_7, or_8, oi_9, or_10, or_11, oi_12, oi_13, oi_14, oi_15, oi_16, oi_17, oi_18, oi_19, oi_20, oi_21, or_22, or_23, or_24, oi_25, or_26, oi_27, od_1, od_2, od_3, od_4, od_5, od_6, od_7, od_8, od_9, od_10, od_11, od_12, od_13, bS, rd_nN, nN_lit, nN_add, nN_mul, hw, enc_v, enc_p, nN_le, nN_lt, nN_eq, jn_def, mI_lit, bI_0, bI_1, e_inRange, n01, n10, if_true, if_false, ite_not, nP_P, e1]
        rw [if_neg (by omega), ← ih]
        show _ = pl_X7_nearest_14 _ _ _ _ _ (oN (if _ then _ else _)) _
        cases hl : mnO (fun _ => True) (farS v c0) k with
        | none =>
          show (if mI = mI then _ else _) = _
          rw [if_pos rfl, if_pos ⟨trivial, rfl⟩]; rfl
        | some l =>
          have hlk := mnO_lt hl
          have fl2 := far_le hI (c := c0) (s := l) (by omega) (by omega)
          have e2 := e_far (B := B') (m := m) (g := upd g' 9 (nN 0)) (a := up2 a' 1 (enc v pl)) hw hI (c := c0) (s := l) (by omega) (by omega)
          rw [if_neg (show ¬ oN (some l) = mI from nNm (by omega))]
          show Option.bind (p_X7_far m (nN c0) (nN l) (ovl B' m (upd g' 9 (nN 0)) (up2 a' 1 (enc v pl)))) _ = _
          rw [e2, bS]
          by_cases c3 : farS v c0 k < farS v c0 l
          · rw [if_neg (nle_f (by omega) (by omega) (by omega)), if_pos ⟨trivial, by simp [c3]⟩]; rfl
          · rw [if_pos (nle_t (by omega) (by omega) (by omega)), if_neg (fun h => by simp [c3] at h)]
    exact key (v 0) 0 FU (by omega) (FU_pos (by omega))

theorem b_wanted (B : Mem) (hG : GE r b t tb) (hR : RG g h ar v pl) (hT : TG u ta v cd) (hI : Inv v pl) (hX : isC 5 (ofc B r b t tb g h ar u ta) z = some ()) (hr : gR 5 3 (ofc B r b t tb g h ar u ta) z = some r) (x0 x1 : Int32) : BQ1 m v pl (fun x y => x = y) (p_X6_wanted z x0 x1 (ofc B r b t tb g h ar u ta)) (fun M => p_X7_wanted m x0 x1 M) := by
  have hb := hI.hb; have h0 := hI.h0; have h1 := hI.h1; have h2 := hI.h2; have h7 := hI.h7; have h8 := hI.h8
  rcases ixN x0 (n := v 0) (by omega) with ho | ho | ⟨s0, hs0, rfl⟩
  · refine Or.inr (Or.inl ⟨?_, fun B g a => ?_⟩)
    · unfold p_X6_wanted; simp only [hX, bS, n_sc_o B hG hR hT hI hr (Or.inl ho), obx_r]
    · refine ⟨0, ?_⟩; show p_X7_wanted m _ x1 _ = _; unfold p_X7_wanted
      rw [oc, bS, e_ns_o hI (Or.inl ho), ob2_def, if_neg (by decide)]
  · refine Or.inr (Or.inl ⟨?_, fun B g a => ?_⟩)
    · unfold p_X6_wanted; simp only [hX, bS, n_sc_o B hG hR hT hI hr (Or.inr ho), obx_r]
    · refine ⟨0, ?_⟩; show p_X7_wanted m _ x1 _ = _; unfold p_X7_wanted
      rw [oc, bS, e_ns_o hI (Or.inr ho), ob2_def, if_neg (by decide)]
  rcases ixN x1 (n := 4) (by omega) with ho | ho | ⟨j, hj, rfl⟩
  · refine Or.inl ⟨nN (cnt (fun _ => False) (v 1)), nN 0, ?_, by rw [show cnt (fun _ => False) (v 1) = 0 from cnt_zero.mpr (fun k hk z => z)], fun B' g' a' => ?_⟩
    · unfold p_X6_wanted; simp only [hX, bS, n_sc B hG hR hT hI hr hs0, obx_l, hX, bS]
      have hFU : v 1 < FU := FU_pos (by omega)
      generalize FU = F at hFU ⊢
      refine loop_cnt (L := fun fu k x => pl_X6_wanted_10 (fun z => some (.inl z)) z (nN s0) x1 (ofc B r b t tb g h ar u ta) fu (nN x) (nN k)) (P := fun k => False) (fin := fun x => some (.inl (nN x))) (n := v 1) (fun fu k x hk hx => ?_) (fun fu x hx => ?_) F hFU
      · rw [pl_X6_wanted_10]
        have e2 : p_X6_isIn (mkL (fun c => v (404 + c) = 1) (v 1)) (nN k) (ofc B r b t tb g h ar u ta) = some (bI (v (404 + k) = 1)) := c_isIn (by omega) hk
        have e3 : ∀ R, p_X6_rowEntry R x1 (ofc B r b t tb g h ar u ta) = some mI := fun R => row_no (Or.inl ho)
        have e4 : (mI = nN s0) = False := mI_nN (by omega)
        simp (disch := first | omega | (apply hb; omega)) only [fv_isC, fv_0, fv_1, fv_2, fv_3, fv_4, fv_5, fv_6, fv_7, fv_8, fv_9, fv_10, fv_11, fv_12, fv_13, fv_14, fv_15, fv_16, fv_17, fv_18, fv_19, fd_0 hG, fd_1 hG, fd_2 hG, fd_3 hG, fd_4 hG, fd_5 hG, fd_6 hG, fd_7 hG, fd_8 hG, ft_C hG, ft_0 hG, ft_1 hG, ft_2 hG, ft_3 hG, ft_4 hG, ft_5 hG, ft_6 hG, ft_7 hG, ft_8 hG, ft_9 hG, ft_10 hG, ft_11 hG, ft_12 hG, fp_0 hG, fp_1 hG, fp_2 hG, fp_3 hG, fp_4 hG, fp_5 hG, fp_6 hG, fp_7 hG, fp_8 hG, fp_9 hG, hR.g1, hR.g2, hR.g3, hR.g4, hR.g5, hR.g6, hR.h7, hR.h8, hR.h9, hR.h10, hR.a0, hR.a1, hR.a2, hR.a3, hR.a4, hR.a5, hR.a6, hR.a7, hR.a8, hT.u0, hT.u1, hT.u2, hT.a0, hT.a1, hT.a2, hT.a3, hT.a4, bS, rd_nN, nN_lit, nN_add, nN_mul, nN_le, nN_lt, nN_eq, jn_def, mI_lit, bI_0, bI_1, n01, n10, if_true, if_false, ite_not, nP_P, hr, e2, e3, e4]
        rw [if_neg (by omega)]
        split <;> rfl
      · rw [pl_X6_wanted_10]
        simp (disch := first | omega | (apply hb; omega)) only [fv_isC, fv_0, fv_1, fv_2, fv_3, fv_4, fv_5, fv_6, fv_7, fv_8, fv_9, fv_10, fv_11, fv_12, fv_13, fv_14, fv_15, fv_16, fv_17, fv_18, fv_19, fd_0 hG, fd_1 hG, fd_2 hG, fd_3 hG, fd_4 hG, fd_5 hG, fd_6 hG, fd_7 hG, fd_8 hG, ft_C hG, ft_0 hG, ft_1 hG, ft_2 hG, ft_3 hG, ft_4 hG, ft_5 hG, ft_6 hG, ft_7 hG, ft_8 hG, ft_9 hG, ft_10 hG, ft_11 hG, ft_12 hG, fp_0 hG, fp_1 hG, fp_2 hG, fp_3 hG, fp_4 hG, fp_5 hG, fp_6 hG, fp_7 hG, fp_8 hG, fp_9 hG, hR.g1, hR.g2, hR.g3, hR.g4, hR.g5, hR.g6, hR.h7, hR.h8, hR.h9, hR.h10, hR.a0, hR.a1, hR.a2, hR.a3, hR.a4, hR.a5, hR.a6, hR.a7, hR.a8, hT.u0, hT.u1, hT.u2, hT.a0, hT.a1, hT.a2, hT.a3, hT.a4, bS, rd_nN, nN_lit, nN_add, nN_mul, nN_le, nN_lt, nN_eq, jn_def, mI_lit, bI_0, bI_1, n01, n10, if_true, if_false, ite_not, nP_P, hr]
        rw [if_pos (by omega)]
    · show p_X7_wanted m (nN s0) x1 _ = _
      unfold p_X7_wanted
      rw [oc, bS, e_ns hI hs0, ob2_def, if_pos (by rfl)]
      show Option.bind (p_X7_inRange x1 (nN 0) (nN 3) _) _ = _
      rw [rng_out2 (by omega) (Or.inl ho), bS, if_pos (by rfl)]
      rfl
  · refine Or.inl ⟨nN (cnt (fun _ => False) (v 1)), nN 0, ?_, by rw [show cnt (fun _ => False) (v 1) = 0 from cnt_zero.mpr (fun k hk z => z)], fun B' g' a' => ?_⟩
    · unfold p_X6_wanted; simp only [hX, bS, n_sc B hG hR hT hI hr hs0, obx_l, hX, bS]
      have hFU : v 1 < FU := FU_pos (by omega)
      generalize FU = F at hFU ⊢
      refine loop_cnt (L := fun fu k x => pl_X6_wanted_10 (fun z => some (.inl z)) z (nN s0) x1 (ofc B r b t tb g h ar u ta) fu (nN x) (nN k)) (P := fun k => False) (fin := fun x => some (.inl (nN x))) (n := v 1) (fun fu k x hk hx => ?_) (fun fu x hx => ?_) F hFU
      · rw [pl_X6_wanted_10]
        have e2 : p_X6_isIn (mkL (fun c => v (404 + c) = 1) (v 1)) (nN k) (ofc B r b t tb g h ar u ta) = some (bI (v (404 + k) = 1)) := c_isIn (by omega) hk
        have e3 : ∀ R, p_X6_rowEntry R x1 (ofc B r b t tb g h ar u ta) = some mI := fun R => row_no (Or.inr ho)
        have e4 : (mI = nN s0) = False := mI_nN (by omega)
        simp (disch := first | omega | (apply hb; omega)) only [fv_isC, fv_0, fv_1, fv_2, fv_3, fv_4, fv_5, fv_6, fv_7, fv_8, fv_9, fv_10, fv_11, fv_12, fv_13, fv_14, fv_15, fv_16, fv_17, fv_18, fv_19, fd_0 hG, fd_1 hG, fd_2 hG, fd_3 hG, fd_4 hG, fd_5 hG, fd_6 hG, fd_7 hG, fd_8 hG, ft_C hG, ft_0 hG, ft_1 hG, ft_2 hG, ft_3 hG, ft_4 hG, ft_5 hG, ft_6 hG, ft_7 hG, ft_8 hG, ft_9 hG, ft_10 hG, ft_11 hG, ft_12 hG, fp_0 hG, fp_1 hG, fp_2 hG, fp_3 hG, fp_4 hG, fp_5 hG, fp_6 hG, fp_7 hG, fp_8 hG, fp_9 hG, hR.g1, hR.g2, hR.g3, hR.g4, hR.g5, hR.g6, hR.h7, hR.h8, hR.h9, hR.h10, hR.a0, hR.a1, hR.a2, hR.a3, hR.a4, hR.a5, hR.a6, hR.a7, hR.a8, hT.u0, hT.u1, hT.u2, hT.a0, hT.a1, hT.a2, hT.a3, hT.a4, bS, rd_nN, nN_lit, nN_add, nN_mul, nN_le, nN_lt, nN_eq, jn_def, mI_lit, bI_0, bI_1, n01, n10, if_true, if_false, ite_not, nP_P, hr, e2, e3, e4]
        rw [if_neg (by omega)]
        split <;> rfl
      · rw [pl_X6_wanted_10]
        simp (disch := first | omega | (apply hb; omega)) only [fv_isC, fv_0, fv_1, fv_2, fv_3, fv_4, fv_5, fv_6, fv_7, fv_8, fv_9, fv_10, fv_11, fv_12, fv_13, fv_14, fv_15, fv_16, fv_17, fv_18, fv_19, fd_0 hG, fd_1 hG, fd_2 hG, fd_3 hG, fd_4 hG, fd_5 hG, fd_6 hG, fd_7 hG, fd_8 hG, ft_C hG, ft_0 hG, ft_1 hG, ft_2 hG, ft_3 hG, ft_4 hG, ft_5 hG, ft_6 hG, ft_7 hG, ft_8 hG, ft_9 hG, ft_10 hG, ft_11 hG, ft_12 hG, fp_0 hG, fp_1 hG, fp_2 hG, fp_3 hG, fp_4 hG, fp_5 hG, fp_6 hG, fp_7 hG, fp_8 hG, fp_9 hG, hR.g1, hR.g2, hR.g3, hR.g4, hR.g5, hR.g6, hR.h7, hR.h8, hR.h9, hR.h10, hR.a0, hR.a1, hR.a2, hR.a3, hR.a4, hR.a5, hR.a6, hR.a7, hR.a8, hT.u0, hT.u1, hT.u2, hT.a0, hT.a1, hT.a2, hT.a3, hT.a4, bS, rd_nN, nN_lit, nN_add, nN_mul, nN_le, nN_lt, nN_eq, jn_def, mI_lit, bI_0, bI_1, n01, n10, if_true, if_false, ite_not, nP_P, hr]
        rw [if_pos (by omega)]
    · show p_X7_wanted m (nN s0) x1 _ = _
      unfold p_X7_wanted
      rw [oc, bS, e_ns hI hs0, ob2_def, if_pos (by rfl)]
      show Option.bind (p_X7_inRange x1 (nN 0) (nN 3) _) _ = _
      rw [rng_out2 (by omega) (Or.inr ho), bS, if_pos (by rfl)]
      rfl
  · refine Or.inl ⟨nN (cnt (fun k => v (404 + k) = 0 ∧ wisO v k s0 = some j) (v 1)), nN (cnt (fun k => v (404 + k) = 0 ∧ wisO v k s0 = some j) (v 1)), ?_, rfl, fun B' g' a' => ?_⟩
    · unfold p_X6_wanted; simp only [hX, bS, n_sc B hG hR hT hI hr hs0, obx_l, hX, bS]
      have hFU : v 1 < FU := FU_pos (by omega)
      generalize FU = F at hFU ⊢
      refine loop_cnt (L := fun fu k x => pl_X6_wanted_10 (fun z => some (.inl z)) z (nN s0) (nN j) (ofc B r b t tb g h ar u ta) fu (nN x) (nN k)) (P := fun k => v (404 + k) = 0 ∧ wisO v k s0 = some j) (fin := fun x => some (.inl (nN x))) (n := v 1) (fun fu k x hk hx => ?_) (fun fu x hx => ?_) F hFU
      · rw [pl_X6_wanted_10]
        have hch := hI.chi k (by omega)
        have e2 : p_X6_isIn (mkL (fun c => v (404 + c) = 1) (v 1)) (nN k) (ofc B r b t tb g h ar u ta) = some (bI (v (404 + k) = 1)) := c_isIn (by omega) hk
        have e3 := c_rowEntry (M := (ofc B r b t tb g h ar u ta)) (w := fun i => v (564 + 4 * k + i)) (n := v (324 + k)) (i := j) (by omega) (wis15 hI hk) hj
        simp (disch := first | omega | (apply hb; omega)) only [fv_isC, fv_0, fv_1, fv_2, fv_3, fv_4, fv_5, fv_6, fv_7, fv_8, fv_9, fv_10, fv_11, fv_12, fv_13, fv_14, fv_15, fv_16, fv_17, fv_18, fv_19, fd_0 hG, fd_1 hG, fd_2 hG, fd_3 hG, fd_4 hG, fd_5 hG, fd_6 hG, fd_7 hG, fd_8 hG, ft_C hG, ft_0 hG, ft_1 hG, ft_2 hG, ft_3 hG, ft_4 hG, ft_5 hG, ft_6 hG, ft_7 hG, ft_8 hG, ft_9 hG, ft_10 hG, ft_11 hG, ft_12 hG, fp_0 hG, fp_1 hG, fp_2 hG, fp_3 hG, fp_4 hG, fp_5 hG, fp_6 hG, fp_7 hG, fp_8 hG, fp_9 hG, hR.g1, hR.g2, hR.g3, hR.g4, hR.g5, hR.g6, hR.h7, hR.h8, hR.h9, hR.h10, hR.a0, hR.a1, hR.a2, hR.a3, hR.a4, hR.a5, hR.a6, hR.a7, hR.a8, hT.u0, hT.u1, hT.u2, hT.a0, hT.a1, hT.a2, hT.a3, hT.a4, bS, rd_nN, nN_lit, nN_add, nN_mul, nN_le, nN_lt, nN_eq, jn_def, mI_lit, bI_0, bI_1, n01, n10, if_true, if_false, ite_not, nP_P, hr, e2, e3]
        rw [if_neg (by omega)]
        refine Eq.trans ij (ik ?_)
        show (¬ v (404 + k) = 1 ∧ oN (if j < v (324 + k) then some (v (564 + 4 * k + j)) else none) = nN s0) ↔ _
        have key : oN (if j < v (324 + k) then some (v (564 + 4 * k + j)) else none) = nN s0 ↔ wisO v k s0 = some j := by
          by_cases cj : j < v (324 + k)
          · have w8 := hI.wis k hk j cj
            rw [if_pos cj]
            show nN (v (564 + 4 * k + j)) = nN s0 ↔ _
            rw [nN_eq (by omega) (by omega)]
            constructor
            · intro e
              exact fnd_eq cj e (fun i hi e2 => by have := hI.inj k hk i j (by omega) cj (by rw [e2, e]); omega)
            · intro e; exact (fnd_some e).2.2.1
          · rw [if_neg cj]
            constructor
            · intro e; exact absurd e (by show ¬ mI = nN s0; rw [mI_nN (by omega)]; exact id)
            · intro e; have := wis_lt e; omega
        rw [key]
        constructor
        · rintro ⟨p1, p2⟩; exact ⟨by omega, p2⟩
        · rintro ⟨p1, p2⟩; exact ⟨by omega, p2⟩
      · rw [pl_X6_wanted_10]
        simp (disch := first | omega | (apply hb; omega)) only [fv_isC, fv_0, fv_1, fv_2, fv_3, fv_4, fv_5, fv_6, fv_7, fv_8, fv_9, fv_10, fv_11, fv_12, fv_13, fv_14, fv_15, fv_16, fv_17, fv_18, fv_19, fd_0 hG, fd_1 hG, fd_2 hG, fd_3 hG, fd_4 hG, fd_5 hG, fd_6 hG, fd_7 hG, fd_8 hG, ft_C hG, ft_0 hG, ft_1 hG, ft_2 hG, ft_3 hG, ft_4 hG, ft_5 hG, ft_6 hG, ft_7 hG, ft_8 hG, ft_9 hG, ft_10 hG, ft_11 hG, ft_12 hG, fp_0 hG, fp_1 hG, fp_2 hG, fp_3 hG, fp_4 hG, fp_5 hG, fp_6 hG, fp_7 hG, fp_8 hG, fp_9 hG, hR.g1, hR.g2, hR.g3, hR.g4, hR.g5, hR.g6, hR.h7, hR.h8, hR.h9, hR.h10, hR.a0, hR.a1, hR.a2, hR.a3, hR.a4, hR.a5, hR.a6, hR.a7, hR.a8, hT.u0, hT.u1, hT.u2, hT.a0, hT.a1, hT.a2, hT.a3, hT.a4, bS, rd_nN, nN_lit, nN_add, nN_mul, nN_le, nN_lt, nN_eq, jn_def, mI_lit, bI_0, bI_1, n01, n10, if_true, if_false, ite_not, nP_P, hr]
        rw [if_pos (by omega)]
    · show p_X7_wanted m (nN s0) (nN j) _ = _
      unfold p_X7_wanted
      have hw : up2 a' 1 (enc v pl) 1 = enc v pl := up2_s
      rw [oc, bS, e_ns hI hs0, ob2_def, if_pos (by rfl)]
      show Option.bind (p_X7_inRange (nN j) (nN 0) (nN 3) _) _ = _
      rw [rng_in2 (by omega) (by omega), bS, if_neg (by decide)]
      have hFU : v 1 < FU := FU_pos (by omega)
      generalize FU = F at hFU ⊢
      refine loop_cnt (L := fun fu k x => pl_X7_wanted_24 (fun z => some (z, (ovl B' m (upd g' 9 (nN 0)) (up2 a' 1 (enc v pl))))) m (nN s0) (nN j) (ovl B' m (upd g' 9 (nN 0)) (up2 a' 1 (enc v pl))) fu (nN x) (nN k)) (P := fun k => v (404 + k) = 0 ∧ wisO v k s0 = some j) (fin := fun x => some (nN x, (ovl B' m (upd g' 9 (nN 0)) (up2 a' 1 (enc v pl))))) (n := v 1) (fun fu k x hk hx => ?_) (fun fu x hx => ?_) F hFU
      · rw [pl_X7_wanted_24]
        have e1 := e_isHere (B := B') (m := m) (g := upd g' 9 (nN 0)) (a := up2 a' 1 (enc v pl)) hw hI (c := k) (by omega)
        have e2 := e_wishOf (B := B') (m := m) (g := upd g' 9 (nN 0)) (a := up2 a' 1 (enc v pl)) hw hI hk (s := s0) (by omega)
        have e5 : (oN (wisO v k s0) = nN j) = (wisO v k s0 = some j) := oN_eq (fun t ht => by have := wis_4 hI (by omega) ht; omega) (by omega)
        simp (disch := first | omega | (apply hb; omega)) only [oc, or_0, or_1, or_2, or_3, or_4, oi_5, oi_6, or_7, or_8, oi_9, or_10, or_11, oi_12, oi_13, oi_14, oi_15, oi_16, oi_17, oi_18, oi_19, oi_20, oi_21, or_22, or_23, or_24, oi_25, or_26, oi_27, od_1, od_2, od_3, od_4, od_5, od_6, od_7, od_8, od_9, od_10, od_11, od_12, od_13, bS, rd_nN, nN_lit, nN_add, nN_mul, hw, enc_v, enc_p, nN_le, nN_lt, nN_eq, jn_def, mI_lit, bI_0, bI_1, e_inRange, n01, n10, if_true, if_false, ite_not, nP_P, e1, e2, e5]
        rw [if_neg (by omega)]
        exact ii
      · rw [pl_X7_wanted_24]
        simp (disch := first | omega | (apply hb; omega)) only [oc, or_0, or_1, or_2, or_3, or_4, oi_5, oi_6, or_7, or_8, oi_9, or_10, or_11, oi_12, oi_13, oi_14, oi_15, oi_16, oi_17, oi_18, oi_19, oi_20, oi_21, or_22, or_23, or_24, oi_25, or_26, oi_27, od_1, od_2, od_3, od_4, od_5, od_6, od_7, od_8, od_9, od_10, od_11, od_12, od_13, bS, rd_nN, nN_lit, nN_add, nN_mul, hw, enc_v, enc_p, nN_le, nN_lt, nN_eq, jn_def, mI_lit, bI_0, bI_1, e_inRange, n01, n10, if_true, if_false, ite_not, nP_P]
        rw [if_pos (by omega)]

end QS
