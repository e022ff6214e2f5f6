/-! the setup text: the class reads the whole text -/
section CS6
variable {Z : gZ} {f : Nat → Nat} {n : Nat} {B : Mem} {rr br tr tb a t2 : Nat} {eo : Int32}
theorem mone {l : Nat} (h : 1 ≤ l) : nN l + (-1 : Int32) = nN (l - 1) := (Int32.sub_eq_add_neg (nN l) 1).symm.trans (nN_subN (a := l) (b := 1) h)
theorem cs_txt (hC : CH Z f n B rr br tr tb a t2) : ∀ d v nm o q g h ar u ta fu l, SI f n v nm o q → CR g h ar u ta v nm → n - q ≤ d → d ≤ l → l ≤ 900 → d + 1 < fu → PC Z f n B rr br tr tb a t2 eo (txtS f n d v nm o q) (pl_X3_readSetup_56 Z (fun M54 => some M54) a fu (nN l) (CS Z f n B rr br tr tb a t2 g h ar u ta 0 eo (bO 1 o) (bO 2 o) (bO 4 o) q)) := by
  intro d
  have out0 : ∀ (o q : Nat) g h ar u ta F l, kdN f n q = 0 → l ≤ 900 → pl_X3_readSetup_56 Z (fun M54 => some M54) a (F + 1) (nN l) (CS Z f n B rr br tr tb a t2 g h ar u ta 0 eo (bO 1 o) (bO 2 o) (bO 4 o) q) = some (CS Z f n B rr br tr tb a t2 g h ar u ta 0 eo (bO 1 o) (bO 2 o) (bO 4 o) q) := by
    intro o q g h ar u ta F l hk hl
    rw [pl_X3_readSetup_56]
    by_cases c : nN l ≤ (0 : Int32)
    · rw [if_pos c]
    · rw [if_neg c, cs_8, bS, if_pos (show nN (kdN f n q) = (0 : Int32) by rw [hk]; rfl)]
  induction d with
  | zero =>
    intro v nm o q g h ar u ta fu l hS hR hd hl h9 hf
    obtain ⟨F, rfl⟩ : ∃ F, fu = F + 1 := ⟨fu - 1, by omega⟩
    rw [out0 o q g h ar u ta F l (kdN_0.mpr (by omega)) h9]
    exact ⟨_, _, _, _, _, rfl, hR⟩
  | succ d ih =>
    intro v nm o q g h ar u ta fu l hS hR hd hl h9 hf
    obtain ⟨F, rfl⟩ : ∃ F, fu = F + 1 := ⟨fu - 1, by omega⟩
    have h4 := kdN_4 (f := f) (n := n) (st := q)
    unfold txtS
    by_cases c : kdN f n q = 0
    · rw [if_pos c, out0 o q g h ar u ta F l c h9]
      exact ⟨_, _, _, _, _, rfl, hR⟩
    · rw [if_neg c]
      have hl1 : 1 ≤ l := by omega
      have stp : ∀ r, PC Z f n B rr br tr tb a t2 eo (semS f n (stS' f n v nm o q)) r → PC Z f n B rr br tr tb a t2 eo (match semS f n (stS' f n v nm o q) with | .inl e => .inl e | .inr y => txtS f n d y.1 y.2.1 y.2.2.1 y.2.2.2) (Option.bind r fun M53 => pl_X3_readSetup_56 Z (fun M54 => some M54) a F (nN l + (-1 : Int32)) M53) := by
        intro r hr
        have hE := ec_sem (f := f) (n := n) (v := v) (nm := nm) (o := o) (q := q)
        have hSI := fun y h => sem_SI hS (y := y) h
        rw [mone hl1]
        generalize semS f n (stS' f n v nm o q) = x at hr hE hSI ⊢
        cases x with
        | inl e =>
          obtain ⟨g1, h1, ar1, u1, ta1, b5, b6, b7, hr⟩ := hr
          have he := hE e rfl
          obtain ⟨F, rfl⟩ : ∃ F2, F = F2 + 1 := ⟨F - 1, by omega⟩
          refine ⟨g1, h1, ar1, u1, ta1, b5, b6, b7, ?_⟩
          rw [hr, bS, pl_X3_readSetup_56]
          by_cases c1 : nN (l - 1) ≤ (0 : Int32)
          · rw [if_pos c1]
          · rw [if_neg c1, cs_8, bS]
            by_cases c2 : nN (kdN f n e.2) = (0 : Int32)
            · rw [if_pos c2]
            · rw [if_neg c2, cs_2, bS, if_neg (show ¬ nN e.1 = (0 : Int32) from neq_f (b := 0) (by omega) (by omega) (by omega))]
        | inr y =>
          obtain ⟨g1, h1, ar1, u1, ta1, hr, hR1⟩ := hr
          have hy := hSI y rfl
          rw [hr, bS]
          exact ih y.1 y.2.1 y.2.2.1 y.2.2.2 g1 h1 ar1 u1 ta1 F (l - 1) hy.1 hR1 (by omega) (by omega) (by omega) (by omega)
      have hZ := hC.2.2.2.2.2
      have wt : ∀ i, i < 11 → wdN f n q = some i → (wdN f n q).map Z.2.2.1 = some (Z.2.2.1 i) := fun i hi w => by rw [wd_is hZ hi]; exact w
      have wf : ∀ i, i < 11 → ¬ wdN f n q = some i → ¬ (wdN f n q).map Z.2.2.1 = some (Z.2.2.1 i) := fun i hi w => by rw [wd_is hZ hi]; exact w
      rw [pl_X3_readSetup_56, if_neg (show ¬ nN l ≤ (0 : Int32) from nle_f (b := 0) (by omega) (by omega) (by omega)), cs_8, bS, if_neg (show ¬ nN (kdN f n q) = (0 : Int32) from neq_f (b := 0) (by omega) (by omega) c), cs_2, bS, if_pos (show (0 : Int32) = 0 from rfl), cs_11]
      by_cases c0 : wdN f n q = some 0
      · have e : stS' f n v nm o q = schoolS f n v nm o q := by unfold stS'; rw [if_pos c0]
        rw [bS, if_pos (wt 0 (by decide) c0), cs_b]
        exact stp _ (by rw [e]; exact cs_sch hC hS hR)
      rw [bS, if_neg (wf 0 (by decide) c0)]
      by_cases c1 : wdN f n q = some 1
      · have e : stS' f n v nm o q = zoneS f n v nm o q := by unfold stS'; rw [if_neg c0, if_pos c1]
        rw [bS, if_pos (wt 1 (by decide) c1), cs_b]
        exact stp _ (by rw [e]; exact cs_zone hC hS hR)
      rw [bS, if_neg (wf 1 (by decide) c1)]
      by_cases c2 : wdN f n q = some 2
      · have e : stS' f n v nm o q = pupilS f n v nm o q := by unfold stS'; rw [if_neg c0, if_neg c1, if_pos c2]
        rw [bS, if_pos (wt 2 (by decide) c2), cs_b]
        exact stp _ (by rw [e]; exact cs_pup hC hS hR)
      rw [bS, if_neg (wf 2 (by decide) c2)]
      by_cases c3 : wdN f n q = some 3
      · have e : stS' f n v nm o q = childS f n v nm o q := by unfold stS'; rw [if_neg c0, if_neg c1, if_neg c2, if_pos c3]
        rw [bS, if_pos (wt 3 (by decide) c3), cs_b]
        exact stp _ (by rw [e]; exact cs_child hC hS hR)
      rw [bS, if_neg (wf 3 (by decide) c3)]
      by_cases c4 : wdN f n q = some 4
      · have e : stS' f n v nm o q = seedS f n v nm o q := by unfold stS'; rw [if_neg c0, if_neg c1, if_neg c2, if_neg c3, if_pos c4]
        rw [bS, if_pos (wt 4 (by decide) c4), cs_b]
        exact stp _ (by rw [e]; exact cs_seed hC hS hR)
      rw [bS, if_neg (wf 4 (by decide) c4)]
      by_cases c5 : wdN f n q = some 5
      · have e : stS' f n v nm o q = appeS f n v nm o q := by unfold stS'; rw [if_neg c0, if_neg c1, if_neg c2, if_neg c3, if_neg c4, if_pos c5]
        rw [bS, if_pos (wt 5 (by decide) c5), cs_b]
        exact stp _ (by rw [e]; exact cs_appe hC hS hR)
      rw [bS, if_neg (wf 5 (by decide) c5)]
      by_cases c6 : wdN f n q = some 6
      · have e : stS' f n v nm o q = lateS f n v nm o q := by unfold stS'; rw [if_neg c0, if_neg c1, if_neg c2, if_neg c3, if_neg c4, if_neg c5, if_pos c6]
        rw [bS, if_pos (wt 6 (by decide) c6), cs_b]
        exact stp _ (by rw [e]; exact cs_late hC hS hR)
      have e : stS' f n v nm o q = .inl (1, q) := by unfold stS'; rw [if_neg c0, if_neg c1, if_neg c2, if_neg c3, if_neg c4, if_neg c5, if_neg c6]
      rw [bS, if_neg (wf 6 (by decide) c6), cs_b]
      exact stp _ (by rw [e, cs_fail]; exact pc_f rfl)
end CS6
section CS7
variable {Z : gZ} {f : Nat → Nat} {n : Nat} {B : Mem} {rr br tr tb a t2 : Nat} {g : Nat → Int32} {h : Nat → Int64} {ar : Nat → Nat → Int32} {u : Nat → Int32} {ta : Nat → Nat → Int32}
theorem t_fill (hG : GE rr br tr tb) {x : Int32} : p_J7_fill_53178 (tb + 9) x (ofc B rr br tr tb g h ar u ta) = some (ofc B rr br tr tb g h ar u (up2 ta 9 (fun k => if k < 100 then x else ta 9 k))) := by
  rw [j_fill (fs_9 hG) (by omega)]
  have e := ovr_up (ovt B tr tb u ta) rr br tr g h ar (hG.oa (j := 9) (by decide)) (.inl (0, 100, .inl (fun k => if k < 100 then x else ta 9 k)))
  have e2 := ovt_ua B tr tb u ta hG.2.1 (j := 9) (by decide) (fun k => if k < 100 then x else ta 9 k)
  exact congrArg some (e.trans (congrArg (fun Q => ovr Q rr br tr g h ar) e2))
theorem t_clr (hG : GE rr br tr tb) : ∃ u' ta', p_X4_clear tr (ofc B rr br tr tb g h ar u ta) = some (ofc B rr br tr tb g h ar u' ta') ∧ (u' 0 = 0 ∧ u' 1 = 0 ∧ u' 2 = 0) ∧ ∀ k, k < 100 → ta' 9 k = 0 := by
  refine ⟨upd (upd (upd u 0 0) 1 0) 2 0, up2 ta 9 (fun k => if k < 100 then 0 else ta 9 k), ?_, ⟨rfl, rfl, rfl⟩, fun k hk => ?_⟩
  · unfold p_X4_clear
    rw [fx_0 hG, bS, fx_1 hG, bS, fx_2 hG, bS, ft_12 hG, bS, t_fill hG, bS]
  · show (if k < 100 then (0 : Int32) else ta 9 k) = 0
    rw [if_pos hk]
theorem r_clr (hG : GE rr br tr tb) : ∃ g' h' ar', p_X2_clear rr (ofc B rr br tr tb g h ar u ta) = some (ofc B rr br tr tb g' h' ar' u ta) ∧ (∀ i, 1 ≤ i → i ≤ 6 → g' i = 0) ∧ (∀ i, 7 ≤ i → i ≤ 10 → h' i = 0) ∧ ∀ s, s < 8 → ar' 8 s = 0 := by
  refine ⟨upd (upd (upd (upd (upd (upd g 1 0) 2 0) 3 0) 4 0) 5 0) 6 0, vp_updL (vp_updL (vp_updL (vp_updL h 7 0) 8 0) 9 0) 10 0, up2 ar 8 (fil (lnR 8) 0 (ar 8)), ?_, fun i h1 h2 => ?_, fun i h1 h2 => ?_, fun s hs => ?_⟩
  · unfold p_X2_clear
    rw [fw_1, bS, fw_2, bS, fz_3 _ (Or.inl rfl), bS, fz_4 _ (Or.inl rfl), bS, fw_5, bS, fw_6, bS, fw_7, bS, fw_8, bS, fw_9, bS, fw_10, bS, fv_19, bS, c_fill hG (by decide), bS]
  · have : i = 1 ∨ i = 2 ∨ i = 3 ∨ i = 4 ∨ i = 5 ∨ i = 6 := by omega
    rcases this with e | e | e | e | e | e <;> subst e <;> rfl
  · have : i = 7 ∨ i = 8 ∨ i = 9 ∨ i = 10 := by omega
    rcases this with e | e | e | e <;> subst e <;> rfl
  · show (if s < lnR 8 then (0 : Int32) else ar 8 s) = 0
    rw [if_pos (show s < lnR 8 by show s < 8; exact hs)]
end CS7
