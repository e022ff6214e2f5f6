/-! questions: the class's answer and the reference's -/
theorem obx_l {α β : Type} {v : α} {f : α → Option (β ⊕ String)} : obx (some (.inl v)) f = f v := Eq.symm (Eq.symm rfl)
theorem obx_r {α β : Type} {E : String} {f : α → Option (β ⊕ String)} : obx (some (.inr E)) f = some (.inr E) := Eq.symm (Eq.symm rfl)
theorem ixN (x : Int32) {n : Nat} (hn : n < 2147483648) : x < 0 ∨ nN n ≤ x ∨ ∃ j : Nat, j < n ∧ x = nN j := pk_ix x hn
theorem upd_2 {g : Nat → Int32} {i : Nat} {x y : Int32} : upd (upd g i x) i y = upd g i y := fa_upd_twice g i x y
section QF
variable {B : Mem} {m : Nat} {g : Nat → Int32} {a : Nat → Nat → Int32} {v : Nat → Nat} {pl : Nat → Option Nat}
theorem fa_0 {k : Int32} : p_X7_fails m (nN 0) k (ovl B m g a) = some (nN 0, ovl B m g a) := by
  unfold p_X7_fails; rw [if_pos (by rfl), if_pos (Or.inl (by rfl))]
theorem fa_1 {k : Int32} : p_X7_fails m (nN 1) k (ovl B m g a) = some (nN 1, ovl B m (upd g 9 k) a) := by
  unfold p_X7_fails; rw [if_neg (by decide), op_9, bS, if_pos (Or.inr (by rfl))]
theorem rng_in {c n : Nat} {M : Mem} (hc : c < n) (hn : n < 2147483648) : p_X7_inRange (nN c) (nN 0) (nN n - nN 1) M = some (nN 1) := by
  rw [e_inRange, ← bI_t]
  constructor
  · rw [nN_le (by omega) (by omega)]; omega
  · rw [nN_subN (by omega), nN_le (by omega) (by omega)]; omega
theorem rng_out {x : Int32} {n : Nat} {M : Mem} (hn : n < 2147483648) (h : x < 0 ∨ nN n ≤ x) : p_X7_inRange x (nN 0) (nN n - nN 1) M = some (nN 0) := by
  rw [e_inRange, ← bI_f]
  rintro ⟨h1, h2⟩
  rw [i_le, nN_toInt (by omega)] at h1
  rw [nN_sub, i_le, iI_toInt (by omega)] at h2
  rcases h with h | h
  · rw [i_lt] at h
    have : (0 : Int32).toInt = 0 := rfl
    omega
  · rw [i_le, nN_toInt hn] at h
    omega
theorem rng_in2 {c n : Nat} {M : Mem} (hc : c ≤ n) (hn : n < 2147483648) : p_X7_inRange (nN c) (nN 0) (nN n) M = some (nN 1) := by
  rw [e_inRange, ← bI_t]
  constructor
  · rw [nN_le (by omega) (by omega)]; omega
  · rw [nN_le (by omega) (by omega)]; omega
theorem rng_out2 {x : Int32} {n : Nat} {M : Mem} (hn : n < 2147483647) (h : x < 0 ∨ nN (n + 1) ≤ x) : p_X7_inRange x (nN 0) (nN n) M = some (nN 0) := by
  rw [e_inRange, ← bI_f]
  rintro ⟨h1, h2⟩
  rw [i_le, nN_toInt (by omega)] at h1
  rw [i_le, nN_toInt (by omega)] at h2
  rcases h with h | h
  · rw [i_lt] at h
    have : (0 : Int32).toInt = 0 := rfl
    omega
  · rw [i_le, nN_toInt (by omega)] at h
    omega
theorem fa_of_nlt_le {x y : Int32} (h : y ≤ x) : ¬ x < y := by rw [i_lt]; rw [i_le] at h; omega
theorem e_nc (hI : Inv v pl) {c : Nat} (hc : c < v 1) : p_X7_noChild m (nN c) (ovl B m g (up2 a 1 (enc v pl))) = some (nN 0, ovl B m (upd g 9 (nN 0)) (up2 a 1 (enc v pl))) := by
  have hh := hI.h1
  unfold p_X7_noChild
  simp only [nN_lit]
  rw [op_9, bS, or_0, bS, er_v (by omega) (by omega), bS, rng_in hc (by omega), bS]
  simp only [n01, if_false, oc, bS, fa_0, ob2_def, eq_self, true_or, if_true]
theorem e_nc_o (hI : Inv v pl) {x : Int32} (h : x < 0 ∨ nN (v 1) ≤ x) : p_X7_noChild m x (ovl B m g (up2 a 1 (enc v pl))) = some (nN 1, ovl B m (upd g 9 (nN 1)) (up2 a 1 (enc v pl))) := by
  have hh := hI.h1
  unfold p_X7_noChild
  simp only [nN_lit]
  rw [op_9, bS, or_0, bS, er_v (by omega) (by omega), bS, rng_out (by omega) h, bS]
  simp only [eq_self, if_true, oc, bS, fa_1, ob2_def, or_true, if_true, upd_2]
theorem e_ns (hI : Inv v pl) {c : Nat} (hc : c < v 0) : p_X7_noSchool m (nN c) (ovl B m g (up2 a 1 (enc v pl))) = some (nN 0, ovl B m (upd g 9 (nN 0)) (up2 a 1 (enc v pl))) := by
  have hh := hI.h0
  unfold p_X7_noSchool
  simp only [nN_lit]
  rw [op_9, bS, or_0, bS, er_v (by omega) (by omega), bS, rng_in hc (by omega), bS]
  simp only [n01, if_false, oc, bS, fa_0, ob2_def, eq_self, true_or, if_true]
theorem e_ns_o (hI : Inv v pl) {x : Int32} (h : x < 0 ∨ nN (v 0) ≤ x) : p_X7_noSchool m x (ovl B m g (up2 a 1 (enc v pl))) = some (nN 1, ovl B m (upd g 9 (nN 1)) (up2 a 1 (enc v pl))) := by
  have hh := hI.h0
  unfold p_X7_noSchool
  simp only [nN_lit]
  rw [op_9, bS, or_0, bS, er_v (by omega) (by omega), bS, rng_out (by omega) h, bS]
  simp only [eq_self, if_true, oc, bS, fa_1, ob2_def, or_true, if_true, upd_2]
theorem e_no (hI : Inv v pl) {c s : Nat} (hc : c < v 1) (hs : s < v 0) : p_X7_noneOf m (nN c) (nN s) (ovl B m g (up2 a 1 (enc v pl))) = some (nN 0, ovl B m (upd g 9 (nN 0)) (up2 a 1 (enc v pl))) := by
  unfold p_X7_noneOf
  rw [oc, bS, e_nc hI hc, ob2_def, if_pos (by rfl), oc, bS, e_ns hI hs, ob2_def, if_pos (by rfl), upd_2]
  rfl
theorem e_no_o (hI : Inv v pl) {x y : Int32} (h : x < 0 ∨ nN (v 1) ≤ x) : p_X7_noneOf m x y (ovl B m g (up2 a 1 (enc v pl))) = some (nN 1, ovl B m (upd g 9 (nN 1)) (up2 a 1 (enc v pl))) := by
  unfold p_X7_noneOf
  rw [oc, bS, e_nc_o hI h, ob2_def, if_neg (by decide)]
  rfl
theorem e_no_p (hI : Inv v pl) {c : Nat} {y : Int32} (hc : c < v 1) (h : y < 0 ∨ nN (v 0) ≤ y) : p_X7_noneOf m (nN c) y (ovl B m g (up2 a 1 (enc v pl))) = some (nN 1, ovl B m (upd g 9 (nN 1)) (up2 a 1 (enc v pl))) := by
  unfold p_X7_noneOf
  rw [oc, bS, e_nc hI hc, ob2_def, if_pos (by rfl), oc, bS, e_ns_o hI h, ob2_def, if_neg (by decide), upd_2]
  rfl
end QF
/-- a question's two answers: the same, or the same exception -/
def BQ {α β : Type} (m : Nat) (v : Nat → Nat) (pl : Nat → Option Nat) (E2 : String) (R : α → β → Prop) (c6 : Option (α ⊕ String)) (c7 : Mem → Option (β × Mem)) : Prop :=
  (∃ x y, c6 = some (.inl x) ∧ R x y ∧ ∀ (B : Mem) (g : Nat → Int32) (a : Nat → Nat → Int32), c7 (ovl B m g (up2 a 1 (enc v pl))) = some (y, ovl B m (upd g 9 (nN 0)) (up2 a 1 (enc v pl)))) ∨
  (c6 = some (.inr "java/lang/IndexOutOfBoundsException") ∧ ∀ (B : Mem) (g : Nat → Int32) (a : Nat → Nat → Int32), ∃ y, c7 (ovl B m g (up2 a 1 (enc v pl))) = some (y, ovl B m (upd g 9 (nN 1)) (up2 a 1 (enc v pl)))) ∨
  (c6 = some (.inr E2) ∧ ∀ (B : Mem) (g : Nat → Int32) (a : Nat → Nat → Int32), ∃ y, c7 (ovl B m g (up2 a 1 (enc v pl))) = some (y, ovl B m (upd g 9 (nN 2)) (up2 a 1 (enc v pl))))
/-- of one exception alone -/
def BQ1 {α β : Type} (m : Nat) (v : Nat → Nat) (pl : Nat → Option Nat) (R : α → β → Prop) (c6 : Option (α ⊕ String)) (c7 : Mem → Option (β × Mem)) : Prop :=
  (∃ x y, c6 = some (.inl x) ∧ R x y ∧ ∀ (B : Mem) (g : Nat → Int32) (a : Nat → Nat → Int32), c7 (ovl B m g (up2 a 1 (enc v pl))) = some (y, ovl B m (upd g 9 (nN 0)) (up2 a 1 (enc v pl)))) ∨
  (c6 = some (.inr "java/lang/IndexOutOfBoundsException") ∧ ∀ (B : Mem) (g : Nat → Int32) (a : Nat → Nat → Int32), ∃ y, c7 (ovl B m g (up2 a 1 (enc v pl))) = some (y, ovl B m (upd g 9 (nN 1)) (up2 a 1 (enc v pl)))) ∨ False
section QC
variable {B : Mem} {r b t tb : Nat} {g : Nat → Int32} {h : Nat → Int64} {ar : Nat → Nat → Int32} {u : Nat → Int32} {ta : Nat → Nat → Int32} {v : Nat → Nat} {pl : Nat → Option Nat} {cd : Nat → Nat}
variable {z m : Nat}
theorem n_ch (B : Mem) (hG : GE r b t tb) (hR : RG g h ar v pl) (hT : TG u ta v cd) (hI : Inv v pl) (hr : gR 5 3 (ofc B r b t tb g h ar u ta) z = some r) {c : Nat} (hc : c < v 1) : p_X6_needChild z (nN c) (ofc B r b t tb g h ar u ta) = some (.inl ()) := by
  have hb := hI.hb; have h0 := hI.h0; have h1 := hI.h1; have h2 := hI.h2; have h7 := hI.h7; have h8 := hI.h8
  unfold p_X6_needChild
  rw [if_neg (nN_neg0 (by omega)), hr, bS, fv_1, bS, hR.g1, if_pos (nlt_t (by omega) (by omega) hc)]
theorem n_ch_o (B : Mem) (hG : GE r b t tb) (hR : RG g h ar v pl) (hT : TG u ta v cd) (hI : Inv v pl) (hr : gR 5 3 (ofc B r b t tb g h ar u ta) z = some r) {x : Int32} (ho : x < 0 ∨ nN (v 1) ≤ x) : p_X6_needChild z x (ofc B r b t tb g h ar u ta) = some (.inr "java/lang/IndexOutOfBoundsException") := by
  have hb := hI.hb; have h0 := hI.h0; have h1 := hI.h1; have h2 := hI.h2; have h7 := hI.h7; have h8 := hI.h8
  unfold p_X6_needChild
  by_cases c : x < 0
  · rw [if_pos c]
  · rw [if_neg c, hr, bS, fv_1, bS, hR.g1, if_neg (fa_of_nlt_le (ho.resolve_left c))]
theorem n_sc (B : Mem) (hG : GE r b t tb) (hR : RG g h ar v pl) (hT : TG u ta v cd) (hI : Inv v pl) (hr : gR 5 3 (ofc B r b t tb g h ar u ta) z = some r) {s : Nat} (hs : s < v 0) : p_X6_needSchool z (nN s) (ofc B r b t tb g h ar u ta) = some (.inl ()) := by
  have hb := hI.hb; have h0 := hI.h0; have h1 := hI.h1; have h2 := hI.h2; have h7 := hI.h7; have h8 := hI.h8
  unfold p_X6_needSchool
  rw [if_neg (nN_neg0 (by omega)), hr, bS, fv_0, bS, ft_0 hG, bS, hT.u0, if_pos (nlt_t (by omega) (by omega) hs)]
theorem n_sc_o (B : Mem) (hG : GE r b t tb) (hR : RG g h ar v pl) (hT : TG u ta v cd) (hI : Inv v pl) (hr : gR 5 3 (ofc B r b t tb g h ar u ta) z = some r) {x : Int32} (ho : x < 0 ∨ nN (v 0) ≤ x) : p_X6_needSchool z x (ofc B r b t tb g h ar u ta) = some (.inr "java/lang/IndexOutOfBoundsException") := by
  have hb := hI.hb; have h0 := hI.h0; have h1 := hI.h1; have h2 := hI.h2; have h7 := hI.h7; have h8 := hI.h8
  unfold p_X6_needSchool
  by_cases c : x < 0
  · rw [if_pos c]
  · rw [if_neg c, hr, bS, fv_0, bS, ft_0 hG, bS, hT.u0, if_neg (fa_of_nlt_le (ho.resolve_left c))]
theorem b_placeOf (B : Mem) (hG : GE r b t tb) (hR : RG g h ar v pl) (hT : TG u ta v cd) (hI : Inv v pl) (hX : isC 5 (ofc B r b t tb g h ar u ta) z = some ()) (hr : gR 5 3 (ofc B r b t tb g h ar u ta) z = some r) (x0 : Int32) : BQ1 m v pl (fun x y => x = y) (p_X6_placeOf z x0 (ofc B r b t tb g h ar u ta)) (fun M => p_X7_placeOf m x0 M) := by
  have hb := hI.hb; have h0 := hI.h0; have h1 := hI.h1; have h2 := hI.h2; have h7 := hI.h7; have h8 := hI.h8
  rcases ixN x0 (n := v 1) (by omega) with ho | ho | ⟨c0, hc0, rfl⟩
  · refine Or.inr (Or.inl ⟨?_, fun B g a => ?_⟩)
    · unfold p_X6_placeOf; simp only [hX, bS, n_ch_o B hG hR hT hI hr (Or.inl ho), obx_r]
    · refine ⟨0, ?_⟩; show p_X7_placeOf m _  _ = _; unfold p_X7_placeOf
      rw [oc, bS, e_nc_o hI (Or.inl ho), ob2_def, if_neg (by decide)]
  · refine Or.inr (Or.inl ⟨?_, fun B g a => ?_⟩)
    · unfold p_X6_placeOf; simp only [hX, bS, n_ch_o B hG hR hT hI hr (Or.inr ho), obx_r]
    · refine ⟨0, ?_⟩; show p_X7_placeOf m _  _ = _; unfold p_X7_placeOf
      rw [oc, bS, e_nc_o hI (Or.inr ho), ob2_def, if_neg (by decide)]
  refine Or.inl ⟨oN (pl c0), oN (pl c0), ?_, rfl, fun B' g' a' => ?_⟩
  · unfold p_X6_placeOf; simp (disch := omega) only [hX, bS, n_ch B hG hR hT hI hr hc0, obx_l, hX, bS, hr, fv_isC, fv_16, fd_5 hG, rd_nN, hR.a5]
  · show p_X7_placeOf m (nN c0)  _ = _
    unfold p_X7_placeOf
    rw [oc, bS, e_nc hI hc0, ob2_def, if_pos (by rfl)]
    simp (disch := omega) only [oc, bS, or_0, nN_lit, nN_add, nN_mul, er_v, er_p, upd_2]

theorem b_roundOf (B : Mem) (hG : GE r b t tb) (hR : RG g h ar v pl) (hT : TG u ta v cd) (hI : Inv v pl) (hX : isC 5 (ofc B r b t tb g h ar u ta) z = some ()) (hr : gR 5 3 (ofc B r b t tb g h ar u ta) z = some r) (x0 : Int32) : BQ1 m v pl (fun x y => x = y) (p_X6_roundOf z x0 (ofc B r b t tb g h ar u ta)) (fun M => p_X7_roundOf m x0 M) := by
  have hb := hI.hb; have h0 := hI.h0; have h1 := hI.h1; have h2 := hI.h2; have h7 := hI.h7; have h8 := hI.h8
  rcases ixN x0 (n := v 1) (by omega) with ho | ho | ⟨c0, hc0, rfl⟩
  · refine Or.inr (Or.inl ⟨?_, fun B g a => ?_⟩)
    · unfold p_X6_roundOf; simp only [hX, bS, n_ch_o B hG hR hT hI hr (Or.inl ho), obx_r]
    · refine ⟨0, ?_⟩; show p_X7_roundOf m _  _ = _; unfold p_X7_roundOf
      rw [oc, bS, e_nc_o hI (Or.inl ho), ob2_def, if_neg (by decide)]
  · refine Or.inr (Or.inl ⟨?_, fun B g a => ?_⟩)
    · unfold p_X6_roundOf; simp only [hX, bS, n_ch_o B hG hR hT hI hr (Or.inr ho), obx_r]
    · refine ⟨0, ?_⟩; show p_X7_roundOf m _  _ = _; unfold p_X7_roundOf
      rw [oc, bS, e_nc_o hI (Or.inr ho), ob2_def, if_neg (by decide)]
  refine Or.inl ⟨nN (v (524 + c0)), nN (v (524 + c0)), ?_, rfl, fun B' g' a' => ?_⟩
  · unfold p_X6_roundOf; simp (disch := omega) only [hX, bS, n_ch B hG hR hT hI hr hc0, obx_l, hX, bS, hr, fv_isC, fv_17, fd_6 hG, rd_nN, hR.a6]
  · show p_X7_roundOf m (nN c0)  _ = _
    unfold p_X7_roundOf
    rw [oc, bS, e_nc hI hc0, ob2_def, if_pos (by rfl)]
    simp (disch := omega) only [oc, bS, or_0, nN_lit, nN_add, nN_mul, er_v, er_p, upd_2]

theorem b_gotPreference (B : Mem) (hG : GE r b t tb) (hR : RG g h ar v pl) (hT : TG u ta v cd) (hI : Inv v pl) (hX : isC 5 (ofc B r b t tb g h ar u ta) z = some ()) (hr : gR 5 3 (ofc B r b t tb g h ar u ta) z = some r) (x0 : Int32) : BQ1 m v pl (fun x y => x = y) (p_X6_gotPreference z x0 (ofc B r b t tb g h ar u ta)) (fun M => p_X7_gotPreference m x0 M) := by
  have hb := hI.hb; have h0 := hI.h0; have h1 := hI.h1; have h2 := hI.h2; have h7 := hI.h7; have h8 := hI.h8
  rcases ixN x0 (n := v 1) (by omega) with ho | ho | ⟨c0, hc0, rfl⟩
  · refine Or.inr (Or.inl ⟨?_, fun B g a => ?_⟩)
    · unfold p_X6_gotPreference; simp only [hX, bS, n_ch_o B hG hR hT hI hr (Or.inl ho), obx_r]
    · refine ⟨0, ?_⟩; show p_X7_gotPreference m _  _ = _; unfold p_X7_gotPreference
      rw [oc, bS, e_nc_o hI (Or.inl ho), ob2_def, if_neg (by decide)]
  · refine Or.inr (Or.inl ⟨?_, fun B g a => ?_⟩)
    · unfold p_X6_gotPreference; simp only [hX, bS, n_ch_o B hG hR hT hI hr (Or.inr ho), obx_r]
    · refine ⟨0, ?_⟩; show p_X7_gotPreference m _  _ = _; unfold p_X7_gotPreference
      rw [oc, bS, e_nc_o hI (Or.inr ho), ob2_def, if_neg (by decide)]
  refine Or.inl ⟨oN (gotO v pl c0), oN (gotO v pl c0), ?_, rfl, fun B' g' a' => ?_⟩
  · unfold p_X6_gotPreference; simp (disch := omega) only [hX, bS, n_ch B hG hR hT hI hr hc0, obx_l, hX, bS, hr, fv_isC, c_gotWish B hG hR hT hI hc0]
  · show p_X7_gotPreference m (nN c0)  _ = _
    unfold p_X7_gotPreference
    rw [oc, bS, e_nc hI hc0, ob2_def, if_pos (by rfl)]
    have ee := fun B g a => e_gotOf (B := B) (m := m) (g := g) (a := up2 a 1 (enc v pl)) up2_s hI hc0
    rw [oc, bS, ee, bS]

theorem b_classOf (B : Mem) (hG : GE r b t tb) (hR : RG g h ar v pl) (hT : TG u ta v cd) (hI : Inv v pl) (hX : isC 5 (ofc B r b t tb g h ar u ta) z = some ()) (hr : gR 5 3 (ofc B r b t tb g h ar u ta) z = some r) (x0 x1 : Int32) : BQ1 m v pl (fun x y => x = y) (p_X6_classOf z x0 x1 (ofc B r b t tb g h ar u ta)) (fun M => p_X7_classOf m x0 x1 M) := by
  have hb := hI.hb; have h0 := hI.h0; have h1 := hI.h1; have h2 := hI.h2; have h7 := hI.h7; have h8 := hI.h8
  rcases ixN x0 (n := v 1) (by omega) with ho | ho | ⟨c0, hc0, rfl⟩
  · refine Or.inr (Or.inl ⟨?_, fun B g a => ?_⟩)
    · unfold p_X6_classOf; simp only [hX, bS, n_ch_o B hG hR hT hI hr (Or.inl ho), obx_r]
    · refine ⟨0, ?_⟩; show p_X7_classOf m _ _  _ = _; unfold p_X7_classOf; simp only [oc, bS, e_no_o hI (Or.inl ho), ob2_def]; rw [if_neg (by decide)]
  · refine Or.inr (Or.inl ⟨?_, fun B g a => ?_⟩)
    · unfold p_X6_classOf; simp only [hX, bS, n_ch_o B hG hR hT hI hr (Or.inr ho), obx_r]
    · refine ⟨0, ?_⟩; show p_X7_classOf m _ _  _ = _; unfold p_X7_classOf; simp only [oc, bS, e_no_o hI (Or.inr ho), ob2_def]; rw [if_neg (by decide)]
  rcases ixN x1 (n := v 0) (by omega) with ho | ho | ⟨s1, hs1, rfl⟩
  · refine Or.inr (Or.inl ⟨?_, fun B g a => ?_⟩)
    · unfold p_X6_classOf; simp only [hX, bS, n_ch B hG hR hT hI hr hc0, obx_l, hX, bS, n_sc_o B hG hR hT hI hr (Or.inl ho), obx_r]
    · refine ⟨0, ?_⟩; show p_X7_classOf m _ _  _ = _; unfold p_X7_classOf; simp only [oc, bS, e_no_p hI hc0 (Or.inl ho), ob2_def]; rw [if_neg (by decide)]
  · refine Or.inr (Or.inl ⟨?_, fun B g a => ?_⟩)
    · unfold p_X6_classOf; simp only [hX, bS, n_ch B hG hR hT hI hr hc0, obx_l, hX, bS, n_sc_o B hG hR hT hI hr (Or.inr ho), obx_r]
    · refine ⟨0, ?_⟩; show p_X7_classOf m _ _  _ = _; unfold p_X7_classOf; simp only [oc, bS, e_no_p hI hc0 (Or.inr ho), ob2_def]; rw [if_neg (by decide)]
  refine Or.inl ⟨nN (clsS v c0 s1), nN (clsS v c0 s1), ?_, rfl, fun B' g' a' => ?_⟩
  · unfold p_X6_classOf; simp (disch := omega) only [hX, bS, n_ch B hG hR hT hI hr hc0, obx_l, hX, bS, n_sc B hG hR hT hI hr hs1, obx_l, hX, bS, hr, fv_isC, c_rankClass B hG hR hT hI hc0 hs1]
  · show p_X7_classOf m (nN c0) (nN s1)  _ = _
    unfold p_X7_classOf
    rw [oc, bS, e_no hI hc0 hs1, ob2_def, if_pos (by rfl)]
    have ee := fun B g a => e_classAt (B := B) (m := m) (g := g) (a := up2 a 1 (enc v pl)) up2_s hI (c := c0) (s := s1) (by omega) (by omega)
    rw [oc, bS, ee, bS]

theorem b_distance (B : Mem) (hG : GE r b t tb) (hR : RG g h ar v pl) (hT : TG u ta v cd) (hI : Inv v pl) (hX : isC 5 (ofc B r b t tb g h ar u ta) z = some ()) (hr : gR 5 3 (ofc B r b t tb g h ar u ta) z = some r) (x0 x1 : Int32) : BQ1 m v pl (fun x y => x = y) (p_X6_distance z x0 x1 (ofc B r b t tb g h ar u ta)) (fun M => p_X7_distance m x0 x1 M) := by
  have hb := hI.hb; have h0 := hI.h0; have h1 := hI.h1; have h2 := hI.h2; have h7 := hI.h7; have h8 := hI.h8
  rcases ixN x0 (n := v 1) (by omega) with ho | ho | ⟨c0, hc0, rfl⟩
  · refine Or.inr (Or.inl ⟨?_, fun B g a => ?_⟩)
    · unfold p_X6_distance; simp only [hX, bS, n_ch_o B hG hR hT hI hr (Or.inl ho), obx_r]
    · refine ⟨0, ?_⟩; show p_X7_distance m _ _  _ = _; unfold p_X7_distance; simp only [oc, bS, e_no_o hI (Or.inl ho), ob2_def]; rw [if_neg (by decide)]
  · refine Or.inr (Or.inl ⟨?_, fun B g a => ?_⟩)
    · unfold p_X6_distance; simp only [hX, bS, n_ch_o B hG hR hT hI hr (Or.inr ho), obx_r]
    · refine ⟨0, ?_⟩; show p_X7_distance m _ _  _ = _; unfold p_X7_distance; simp only [oc, bS, e_no_o hI (Or.inr ho), ob2_def]; rw [if_neg (by decide)]
  rcases ixN x1 (n := v 0) (by omega) with ho | ho | ⟨s1, hs1, rfl⟩
  · refine Or.inr (Or.inl ⟨?_, fun B g a => ?_⟩)
    · unfold p_X6_distance; simp only [hX, bS, n_ch B hG hR hT hI hr hc0, obx_l, hX, bS, n_sc_o B hG hR hT hI hr (Or.inl ho), obx_r]
    · refine ⟨0, ?_⟩; show p_X7_distance m _ _  _ = _; unfold p_X7_distance; simp only [oc, bS, e_no_p hI hc0 (Or.inl ho), ob2_def]; rw [if_neg (by decide)]
  · refine Or.inr (Or.inl ⟨?_, fun B g a => ?_⟩)
    · unfold p_X6_distance; simp only [hX, bS, n_ch B hG hR hT hI hr hc0, obx_l, hX, bS, n_sc_o B hG hR hT hI hr (Or.inr ho), obx_r]
    · refine ⟨0, ?_⟩; show p_X7_distance m _ _  _ = _; unfold p_X7_distance; simp only [oc, bS, e_no_p hI hc0 (Or.inr ho), ob2_def]; rw [if_neg (by decide)]
  refine Or.inl ⟨nN (farS v c0 s1), nN (farS v c0 s1), ?_, rfl, fun B' g' a' => ?_⟩
  · unfold p_X6_distance; simp (disch := omega) only [hX, bS, n_ch B hG hR hT hI hr hc0, obx_l, hX, bS, n_sc B hG hR hT hI hr hs1, obx_l, hX, bS, hr, fv_isC, c_squareWay B hG hR hT hI hc0 hs1]
  · show p_X7_distance m (nN c0) (nN s1)  _ = _
    unfold p_X7_distance
    rw [oc, bS, e_no hI hc0 hs1, ob2_def, if_pos (by rfl)]
    have ee := fun B g a => e_far (B := B) (m := m) (g := g) (a := up2 a 1 (enc v pl)) up2_s hI (c := c0) (s := s1) (by omega) (by omega)
    rw [oc, bS, ee, bS]

theorem b_lastHolder (B : Mem) (hG : GE r b t tb) (hR : RG g h ar v pl) (hT : TG u ta v cd) (hI : Inv v pl) (hX : isC 5 (ofc B r b t tb g h ar u ta) z = some ()) (hr : gR 5 3 (ofc B r b t tb g h ar u ta) z = some r) (x0 : Int32) : BQ1 m v pl (fun x y => x = y) (p_X6_lastHolder z x0 (ofc B r b t tb g h ar u ta)) (fun M => p_X7_lastHolder m x0 M) := by
  have hb := hI.hb; have h0 := hI.h0; have h1 := hI.h1; have h2 := hI.h2; have h7 := hI.h7; have h8 := hI.h8
  rcases ixN x0 (n := v 0) (by omega) with ho | ho | ⟨s0, hs0, rfl⟩
  · refine Or.inr (Or.inl ⟨?_, fun B g a => ?_⟩)
    · unfold p_X6_lastHolder; simp only [hX, bS, n_sc_o B hG hR hT hI hr (Or.inl ho), obx_r]
    · refine ⟨0, ?_⟩; show p_X7_lastHolder m _  _ = _; unfold p_X7_lastHolder
      rw [oc, bS, e_ns_o hI (Or.inl ho), ob2_def, if_neg (by decide)]
  · refine Or.inr (Or.inl ⟨?_, fun B g a => ?_⟩)
    · unfold p_X6_lastHolder; simp only [hX, bS, n_sc_o B hG hR hT hI hr (Or.inr ho), obx_r]
    · refine ⟨0, ?_⟩; show p_X7_lastHolder m _  _ = _; unfold p_X7_lastHolder
      rw [oc, bS, e_ns_o hI (Or.inr ho), ob2_def, if_neg (by decide)]
  refine Or.inl ⟨oN (lstO v pl s0), oN (lstO v pl s0), ?_, rfl, fun B' g' a' => ?_⟩
  · unfold p_X6_lastHolder; simp (disch := omega) only [hX, bS, n_sc B hG hR hT hI hr hs0, obx_l, hX, bS, hr, fv_isC, c_holdersOf B hG hR hT hI (s := s0) (by omega), c_lastOf B hG hR hT hI (P := fun k => pl k = some s0) hs0, show mxO (fun k => pl k = some s0) (stS v s0) (v 1) = lstO v pl s0 from rfl]
  · show p_X7_lastHolder m (nN s0)  _ = _
    unfold p_X7_lastHolder
    rw [oc, bS, e_ns hI hs0, ob2_def, if_pos (by rfl)]
    have ee := fun B g a => e_lastOf (B := B) (m := m) (g := g) (a := up2 a 1 (enc v pl)) up2_s hI (s := s0) (by omega)
    rw [oc, bS, ee, bS]

end QC
