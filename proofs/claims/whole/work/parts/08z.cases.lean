/-! the law's cases: questions -/
theorem w_b {x y : Int32} (h : x = y) : (if x = 0 then (0 : Int64) else 1) = (if y = 0 then (0 : Int64) else 1) := by rw [h]
/-- the script's ints of one call -/
def xIs (L : Nat) (xs : Nat → Int32) (i0 : Int32) (x : Nat → Int32) : Prop := xI L xs i0 = some (x 0) ∧ xI L xs (i0 + (1 : Int32)) = some (x 1) ∧ xI L xs (i0 + (2 : Int32)) = some (x 2) ∧ xI L xs (i0 + (3 : Int32)) = some (x 3) ∧ xI L xs (i0 + (4 : Int32)) = some (x 4) ∧ xI L xs (i0 + (5 : Int32)) = some (x 5)
section KQ
variable {L : Nat} {xs : Nat → Int32} {i0 : Int32} {x : Nat → Int32} {z : Nat} {M : Mem}
theorem k_6 (hO : OFF z M) (hx : xIs L xs i0 x) : ∃ M', pk_6 L xs z (z + 180) (z + 194) (z + 195) i0 M = some M' ∧ OFF z M' := by
  obtain ⟨-, hx1, hx2, hx3, -, -⟩ := hx
  obtain ⟨v, pl, cd, ⟨hX, r, b, t, tb, g, h, ar, u, ta, hM, hr, hG, hR, hT, hI⟩, ⟨f0, hod⟩, hF⟩ := off_q hO
  have hb := b_school (z := z) (m := z + 180) M hG hR hT hI (by rw [← hM]; exact hX) (by rw [← hM]; exact hr) (x 1) (x 2)
  rw [← hM] at hb
  rcases hb with ⟨val, y, e6, hv, e7⟩ | ⟨e6, e7⟩ | e8
  · subst hv
    obtain ⟨B1, g1, a1, e1, hc⟩ := hF (vp_updL f0 0 (Int32.toInt64 val))
    obtain ⟨hO2, hod2⟩ := hc (nN 0)
    refine ⟨_, ?_, hO2⟩
    have el : p_L_school z (x 1) (x 2) (z + 194) M = some (0, ovl B1 (z + 180) g1 (up2 a1 1 (enc v pl))) := by
      unfold p_L_school
      rw [hX, bS, e6, ctc_l]
      rw [aLs_od hod, bS, e1]
    unfold pk_6
    have e7 := e7 B1 g1 a1
    have eL := aL_od hod2
    simp only [show nN 0 = (0 : Int32) from rfl] at eL
    simp only [hx1, hx2, bS, el, ob2_def, oc, e7, thr_9, show nN 0 = (0 : Int32) from rfl, eq_self, if_true, eL, lgc_self]
  · skip
    obtain ⟨B1, g1, a1, e1, hc⟩ := hF f0
    rw [upM_same hod] at e1
    obtain ⟨hO2, hod2⟩ := hc (nN 1)
    refine ⟨_, ?_, hO2⟩
    have el : p_L_school z (x 1) (x 2) (z + 194) M = some (nN 1, ovl B1 (z + 180) g1 (up2 a1 1 (enc v pl))) := by
      unfold p_L_school
      rw [hX, bS, e6, ctc_r, if_pos rfl, e1]
      rfl
    unfold pk_6
    obtain ⟨y, e7⟩ := e7 B1 g1 a1
    simp only [hx1, hx2, bS, el, ob2_def, oc, e7, thr_9, eq_self, if_true]
    rw [if_neg (by decide)]
  · obtain ⟨e6, e7⟩ := e8
    obtain ⟨B1, g1, a1, e1, hc⟩ := hF f0
    rw [upM_same hod] at e1
    obtain ⟨hO2, hod2⟩ := hc (nN 2)
    refine ⟨_, ?_, hO2⟩
    have el : p_L_school z (x 1) (x 2) (z + 194) M = some (nN 2, ovl B1 (z + 180) g1 (up2 a1 1 (enc v pl))) := by
      unfold p_L_school
      rw [hX, bS, e6, ctc_r, if_neg (by decide), if_pos rfl, e1]
      rfl
    unfold pk_6
    obtain ⟨y, e7⟩ := e7 B1 g1 a1
    simp only [hx1, hx2, bS, el, ob2_def, oc, e7, thr_9, eq_self, if_true]
    rw [if_neg (by decide)]
theorem k_7 (hO : OFF z M) (hx : xIs L xs i0 x) : ∃ M', pk_7 L xs z (z + 180) (z + 194) (z + 195) i0 M = some M' ∧ OFF z M' := by
  obtain ⟨-, hx1, hx2, hx3, -, -⟩ := hx
  obtain ⟨v, pl, cd, ⟨hX, r, b, t, tb, g, h, ar, u, ta, hM, hr, hG, hR, hT, hI⟩, ⟨f0, hod⟩, hF⟩ := off_q hO
  have hb := b_rule (z := z) (m := z + 180) M hG hR hT hI (by rw [← hM]; exact hX) (by rw [← hM]; exact hr) (x 1) (x 2)
  rw [← hM] at hb
  rcases hb with ⟨val, y, e6, hv, e7⟩ | ⟨e6, e7⟩ | e8
  · subst hv
    obtain ⟨B1, g1, a1, e1, hc⟩ := hF (vp_updL f0 0 (Int32.toInt64 val))
    obtain ⟨hO2, hod2⟩ := hc (nN 0)
    refine ⟨_, ?_, hO2⟩
    have el : p_L_rule z (x 1) (x 2) (z + 194) M = some (0, ovl B1 (z + 180) g1 (up2 a1 1 (enc v pl))) := by
      unfold p_L_rule
      rw [hX, bS, e6, ctc_l]
      rw [aLs_od hod, bS, e1]
    unfold pk_7
    have e7 := e7 B1 g1 a1
    have eL := aL_od hod2
    simp only [show nN 0 = (0 : Int32) from rfl] at eL
    simp only [hx1, hx2, bS, el, ob2_def, oc, e7, thr_9, show nN 0 = (0 : Int32) from rfl, eq_self, if_true, eL, lgc_self]
  · skip
    obtain ⟨B1, g1, a1, e1, hc⟩ := hF f0
    rw [upM_same hod] at e1
    obtain ⟨hO2, hod2⟩ := hc (nN 1)
    refine ⟨_, ?_, hO2⟩
    have el : p_L_rule z (x 1) (x 2) (z + 194) M = some (nN 1, ovl B1 (z + 180) g1 (up2 a1 1 (enc v pl))) := by
      unfold p_L_rule
      rw [hX, bS, e6, ctc_r, if_pos rfl, e1]
      rfl
    unfold pk_7
    obtain ⟨y, e7⟩ := e7 B1 g1 a1
    simp only [hx1, hx2, bS, el, ob2_def, oc, e7, thr_9, eq_self, if_true]
    rw [if_neg (by decide)]
  · obtain ⟨e6, e7⟩ := e8
    obtain ⟨B1, g1, a1, e1, hc⟩ := hF f0
    rw [upM_same hod] at e1
    obtain ⟨hO2, hod2⟩ := hc (nN 2)
    refine ⟨_, ?_, hO2⟩
    have el : p_L_rule z (x 1) (x 2) (z + 194) M = some (nN 2, ovl B1 (z + 180) g1 (up2 a1 1 (enc v pl))) := by
      unfold p_L_rule
      rw [hX, bS, e6, ctc_r, if_neg (by decide), if_pos rfl, e1]
      rfl
    unfold pk_7
    obtain ⟨y, e7⟩ := e7 B1 g1 a1
    simp only [hx1, hx2, bS, el, ob2_def, oc, e7, thr_9, eq_self, if_true]
    rw [if_neg (by decide)]
theorem k_8 (hO : OFF z M) (hx : xIs L xs i0 x) : ∃ M', pk_8 L xs z (z + 180) (z + 194) (z + 195) i0 M = some M' ∧ OFF z M' := by
  obtain ⟨-, hx1, hx2, hx3, -, -⟩ := hx
  obtain ⟨v, pl, cd, ⟨hX, r, b, t, tb, g, h, ar, u, ta, hM, hr, hG, hR, hT, hI⟩, ⟨f0, hod⟩, hF⟩ := off_q hO
  have hb := b_child (z := z) (m := z + 180) M hG hR hT hI (by rw [← hM]; exact hX) (by rw [← hM]; exact hr) (x 1) (x 2)
  rw [← hM] at hb
  rcases hb with ⟨val, y, e6, hv, e7⟩ | ⟨e6, e7⟩ | e8
  · subst hv
    obtain ⟨B1, g1, a1, e1, hc⟩ := hF (vp_updL f0 0 (Int32.toInt64 val))
    obtain ⟨hO2, hod2⟩ := hc (nN 0)
    refine ⟨_, ?_, hO2⟩
    have el : p_L_child z (x 1) (x 2) (z + 194) M = some (0, ovl B1 (z + 180) g1 (up2 a1 1 (enc v pl))) := by
      unfold p_L_child
      rw [hX, bS, e6, ctc_l]
      rw [aLs_od hod, bS, e1]
    unfold pk_8
    have e7 := e7 B1 g1 a1
    have eL := aL_od hod2
    simp only [show nN 0 = (0 : Int32) from rfl] at eL
    simp only [hx1, hx2, bS, el, ob2_def, oc, e7, thr_9, show nN 0 = (0 : Int32) from rfl, eq_self, if_true, eL, lgc_self]
  · skip
    obtain ⟨B1, g1, a1, e1, hc⟩ := hF f0
    rw [upM_same hod] at e1
    obtain ⟨hO2, hod2⟩ := hc (nN 1)
    refine ⟨_, ?_, hO2⟩
    have el : p_L_child z (x 1) (x 2) (z + 194) M = some (nN 1, ovl B1 (z + 180) g1 (up2 a1 1 (enc v pl))) := by
      unfold p_L_child
      rw [hX, bS, e6, ctc_r, if_pos rfl, e1]
      rfl
    unfold pk_8
    obtain ⟨y, e7⟩ := e7 B1 g1 a1
    simp only [hx1, hx2, bS, el, ob2_def, oc, e7, thr_9, eq_self, if_true]
    rw [if_neg (by decide)]
  · obtain ⟨e6, e7⟩ := e8
    obtain ⟨B1, g1, a1, e1, hc⟩ := hF f0
    rw [upM_same hod] at e1
    obtain ⟨hO2, hod2⟩ := hc (nN 2)
    refine ⟨_, ?_, hO2⟩
    have el : p_L_child z (x 1) (x 2) (z + 194) M = some (nN 2, ovl B1 (z + 180) g1 (up2 a1 1 (enc v pl))) := by
      unfold p_L_child
      rw [hX, bS, e6, ctc_r, if_neg (by decide), if_pos rfl, e1]
      rfl
    unfold pk_8
    obtain ⟨y, e7⟩ := e7 B1 g1 a1
    simp only [hx1, hx2, bS, el, ob2_def, oc, e7, thr_9, eq_self, if_true]
    rw [if_neg (by decide)]
theorem k_9 (hO : OFF z M) (hx : xIs L xs i0 x) : ∃ M', pk_9 L xs z (z + 180) (z + 194) (z + 195) i0 M = some M' ∧ OFF z M' := by
  obtain ⟨-, hx1, hx2, hx3, -, -⟩ := hx
  obtain ⟨v, pl, cd, ⟨hX, r, b, t, tb, g, h, ar, u, ta, hM, hr, hG, hR, hT, hI⟩, ⟨f0, hod⟩, hF⟩ := off_q hO
  have hb := b_preference (z := z) (m := z + 180) M hG hR hT hI (by rw [← hM]; exact hX) (by rw [← hM]; exact hr) (x 1) (x 2)
  rw [← hM] at hb
  rcases hb with ⟨val, y, e6, hv, e7⟩ | ⟨e6, e7⟩ | e8
  · subst hv
    obtain ⟨B1, g1, a1, e1, hc⟩ := hF (vp_updL f0 0 (Int32.toInt64 val))
    obtain ⟨hO2, hod2⟩ := hc (nN 0)
    refine ⟨_, ?_, hO2⟩
    have el : p_L_preference z (x 1) (x 2) (z + 194) M = some (0, ovl B1 (z + 180) g1 (up2 a1 1 (enc v pl))) := by
      unfold p_L_preference
      rw [hX, bS, e6, ctc_l]
      rw [aLs_od hod, bS, e1]
    unfold pk_9
    have e7 := e7 B1 g1 a1
    have eL := aL_od hod2
    simp only [show nN 0 = (0 : Int32) from rfl] at eL
    simp only [hx1, hx2, bS, el, ob2_def, oc, e7, thr_9, show nN 0 = (0 : Int32) from rfl, eq_self, if_true, eL, lgc_self]
  · skip
    obtain ⟨B1, g1, a1, e1, hc⟩ := hF f0
    rw [upM_same hod] at e1
    obtain ⟨hO2, hod2⟩ := hc (nN 1)
    refine ⟨_, ?_, hO2⟩
    have el : p_L_preference z (x 1) (x 2) (z + 194) M = some (nN 1, ovl B1 (z + 180) g1 (up2 a1 1 (enc v pl))) := by
      unfold p_L_preference
      rw [hX, bS, e6, ctc_r, if_pos rfl, e1]
      rfl
    unfold pk_9
    obtain ⟨y, e7⟩ := e7 B1 g1 a1
    simp only [hx1, hx2, bS, el, ob2_def, oc, e7, thr_9, eq_self, if_true]
    rw [if_neg (by decide)]
  · obtain ⟨e6, e7⟩ := e8
    obtain ⟨B1, g1, a1, e1, hc⟩ := hF f0
    rw [upM_same hod] at e1
    obtain ⟨hO2, hod2⟩ := hc (nN 2)
    refine ⟨_, ?_, hO2⟩
    have el : p_L_preference z (x 1) (x 2) (z + 194) M = some (nN 2, ovl B1 (z + 180) g1 (up2 a1 1 (enc v pl))) := by
      unfold p_L_preference
      rw [hX, bS, e6, ctc_r, if_neg (by decide), if_pos rfl, e1]
      rfl
    unfold pk_9
    obtain ⟨y, e7⟩ := e7 B1 g1 a1
    simp only [hx1, hx2, bS, el, ob2_def, oc, e7, thr_9, eq_self, if_true]
    rw [if_neg (by decide)]
theorem k_10 (hO : OFF z M) (hx : xIs L xs i0 x) : ∃ M', pk_10 L xs z (z + 180) (z + 194) (z + 195) i0 M = some M' ∧ OFF z M' := by
  obtain ⟨-, hx1, hx2, hx3, -, -⟩ := hx
  obtain ⟨v, pl, cd, ⟨hX, r, b, t, tb, g, h, ar, u, ta, hM, hr, hG, hR, hT, hI⟩, ⟨f0, hod⟩, hF⟩ := off_q hO
  have hb := b_placeOf (z := z) (m := z + 180) M hG hR hT hI (by rw [← hM]; exact hX) (by rw [← hM]; exact hr) (x 1)
  rw [← hM] at hb
  rcases hb with ⟨val, y, e6, hv, e7⟩ | ⟨e6, e7⟩ | e8
  · subst hv
    obtain ⟨B1, g1, a1, e1, hc⟩ := hF (vp_updL f0 0 (Int32.toInt64 val))
    obtain ⟨hO2, hod2⟩ := hc (nN 0)
    refine ⟨_, ?_, hO2⟩
    have el : p_L_placeOf z (x 1) (z + 194) M = some (0, ovl B1 (z + 180) g1 (up2 a1 1 (enc v pl))) := by
      unfold p_L_placeOf
      rw [hX, bS, e6, ctc_l]
      rw [aLs_od hod, bS, e1]
    unfold pk_10
    have e7 := e7 B1 g1 a1
    have eL := aL_od hod2
    simp only [show nN 0 = (0 : Int32) from rfl] at eL
    simp only [hx1, bS, el, ob2_def, oc, e7, thr_9, show nN 0 = (0 : Int32) from rfl, eq_self, if_true, eL, lgc_self]
  · skip
    obtain ⟨B1, g1, a1, e1, hc⟩ := hF f0
    rw [upM_same hod] at e1
    obtain ⟨hO2, hod2⟩ := hc (nN 1)
    refine ⟨_, ?_, hO2⟩
    have el : p_L_placeOf z (x 1) (z + 194) M = some (nN 1, ovl B1 (z + 180) g1 (up2 a1 1 (enc v pl))) := by
      unfold p_L_placeOf
      rw [hX, bS, e6, ctc_r, if_pos rfl, e1]
      rfl
    unfold pk_10
    obtain ⟨y, e7⟩ := e7 B1 g1 a1
    simp only [hx1, bS, el, ob2_def, oc, e7, thr_9, eq_self, if_true]
    rw [if_neg (by decide)]
  · exact e8.elim
theorem k_11 (hO : OFF z M) (hx : xIs L xs i0 x) : ∃ M', pk_11 L xs z (z + 180) (z + 194) (z + 195) i0 M = some M' ∧ OFF z M' := by
  obtain ⟨-, hx1, hx2, hx3, -, -⟩ := hx
  obtain ⟨v, pl, cd, ⟨hX, r, b, t, tb, g, h, ar, u, ta, hM, hr, hG, hR, hT, hI⟩, ⟨f0, hod⟩, hF⟩ := off_q hO
  have hb := b_gotPreference (z := z) (m := z + 180) M hG hR hT hI (by rw [← hM]; exact hX) (by rw [← hM]; exact hr) (x 1)
  rw [← hM] at hb
  rcases hb with ⟨val, y, e6, hv, e7⟩ | ⟨e6, e7⟩ | e8
  · subst hv
    obtain ⟨B1, g1, a1, e1, hc⟩ := hF (vp_updL f0 0 (Int32.toInt64 val))
    obtain ⟨hO2, hod2⟩ := hc (nN 0)
    refine ⟨_, ?_, hO2⟩
    have el : p_L_gotPreference z (x 1) (z + 194) M = some (0, ovl B1 (z + 180) g1 (up2 a1 1 (enc v pl))) := by
      unfold p_L_gotPreference
      rw [hX, bS, e6, ctc_l]
      rw [aLs_od hod, bS, e1]
    unfold pk_11
    have e7 := e7 B1 g1 a1
    have eL := aL_od hod2
    simp only [show nN 0 = (0 : Int32) from rfl] at eL
    simp only [hx1, bS, el, ob2_def, oc, e7, thr_9, show nN 0 = (0 : Int32) from rfl, eq_self, if_true, eL, lgc_self]
  · skip
    obtain ⟨B1, g1, a1, e1, hc⟩ := hF f0
    rw [upM_same hod] at e1
    obtain ⟨hO2, hod2⟩ := hc (nN 1)
    refine ⟨_, ?_, hO2⟩
    have el : p_L_gotPreference z (x 1) (z + 194) M = some (nN 1, ovl B1 (z + 180) g1 (up2 a1 1 (enc v pl))) := by
      unfold p_L_gotPreference
      rw [hX, bS, e6, ctc_r, if_pos rfl, e1]
      rfl
    unfold pk_11
    obtain ⟨y, e7⟩ := e7 B1 g1 a1
    simp only [hx1, bS, el, ob2_def, oc, e7, thr_9, eq_self, if_true]
    rw [if_neg (by decide)]
  · exact e8.elim
theorem k_12 (hO : OFF z M) (hx : xIs L xs i0 x) : ∃ M', pk_12 L xs z (z + 180) (z + 194) (z + 195) i0 M = some M' ∧ OFF z M' := by
  obtain ⟨-, hx1, hx2, hx3, -, -⟩ := hx
  obtain ⟨v, pl, cd, ⟨hX, r, b, t, tb, g, h, ar, u, ta, hM, hr, hG, hR, hT, hI⟩, ⟨f0, hod⟩, hF⟩ := off_q hO
  have hb := b_meets (z := z) (m := z + 180) M hG hR hT hI (by rw [← hM]; exact hX) (by rw [← hM]; exact hr) (x 1) (x 2) (x 3)
  rw [← hM] at hb
  rcases hb with ⟨val, y, e6, hv, e7⟩ | ⟨e6, e7⟩ | e8
  · subst hv
    obtain ⟨B1, g1, a1, e1, hc⟩ := hF (vp_updL f0 0 ((if val = 0 then (0 : Int64) else 1)))
    obtain ⟨hO2, hod2⟩ := hc (nN 0)
    refine ⟨_, ?_, hO2⟩
    have el : p_L_meets z (x 1) (x 2) (x 3) (z + 194) M = some (0, ovl B1 (z + 180) g1 (up2 a1 1 (enc v pl))) := by
      unfold p_L_meets
      rw [hX, bS, e6, ctc_l]
      by_cases cv : val = 0
      · simp only [cv, jn_def, if_true]
        rw [aLs_od hod, bS, ← e1, cv]; rfl
      · simp only [cv, jn_def, if_false]
        rw [aLs_od hod, bS, ← e1, if_neg cv]
    unfold pk_12
    have e7 := e7 B1 g1 a1
    have eL := aL_od hod2
    simp only [show nN 0 = (0 : Int32) from rfl] at eL
    simp only [hx1, hx2, hx3, bS, el, ob2_def, oc, e7, thr_9, show nN 0 = (0 : Int32) from rfl, eq_self, if_true, eL, lgc_self]
    by_cases cv : val = 0
    · simp only [cv, jn_def, if_true, lgc_self]
    · simp only [cv, jn_def, if_false, lgc_self, if_true]
  · skip
    obtain ⟨B1, g1, a1, e1, hc⟩ := hF f0
    rw [upM_same hod] at e1
    obtain ⟨hO2, hod2⟩ := hc (nN 1)
    refine ⟨_, ?_, hO2⟩
    have el : p_L_meets z (x 1) (x 2) (x 3) (z + 194) M = some (nN 1, ovl B1 (z + 180) g1 (up2 a1 1 (enc v pl))) := by
      unfold p_L_meets
      rw [hX, bS, e6, ctc_r, if_pos rfl, e1]
      rfl
    unfold pk_12
    obtain ⟨y, e7⟩ := e7 B1 g1 a1
    simp only [hx1, hx2, hx3, bS, el, ob2_def, oc, e7, thr_9, eq_self, if_true]
    rw [if_neg (by decide)]
  · obtain ⟨e6, e7⟩ := e8
    obtain ⟨B1, g1, a1, e1, hc⟩ := hF f0
    rw [upM_same hod] at e1
    obtain ⟨hO2, hod2⟩ := hc (nN 2)
    refine ⟨_, ?_, hO2⟩
    have el : p_L_meets z (x 1) (x 2) (x 3) (z + 194) M = some (nN 2, ovl B1 (z + 180) g1 (up2 a1 1 (enc v pl))) := by
      unfold p_L_meets
      rw [hX, bS, e6, ctc_r, if_neg (by decide), if_pos rfl, e1]
      rfl
    unfold pk_12
    obtain ⟨y, e7⟩ := e7 B1 g1 a1
    simp only [hx1, hx2, hx3, bS, el, ob2_def, oc, e7, thr_9, eq_self, if_true]
    rw [if_neg (by decide)]
theorem k_13 (hO : OFF z M) (hx : xIs L xs i0 x) : ∃ M', pk_13 L xs z (z + 180) (z + 194) (z + 195) i0 M = some M' ∧ OFF z M' := by
  obtain ⟨-, hx1, hx2, hx3, -, -⟩ := hx
  obtain ⟨v, pl, cd, ⟨hX, r, b, t, tb, g, h, ar, u, ta, hM, hr, hG, hR, hT, hI⟩, ⟨f0, hod⟩, hF⟩ := off_q hO
  have hb := b_classOf (z := z) (m := z + 180) M hG hR hT hI (by rw [← hM]; exact hX) (by rw [← hM]; exact hr) (x 1) (x 2)
  rw [← hM] at hb
  rcases hb with ⟨val, y, e6, hv, e7⟩ | ⟨e6, e7⟩ | e8
  · subst hv
    obtain ⟨B1, g1, a1, e1, hc⟩ := hF (vp_updL f0 0 (Int32.toInt64 val))
    obtain ⟨hO2, hod2⟩ := hc (nN 0)
    refine ⟨_, ?_, hO2⟩
    have el : p_L_classOf z (x 1) (x 2) (z + 194) M = some (0, ovl B1 (z + 180) g1 (up2 a1 1 (enc v pl))) := by
      unfold p_L_classOf
      rw [hX, bS, e6, ctc_l]
      rw [aLs_od hod, bS, e1]
    unfold pk_13
    have e7 := e7 B1 g1 a1
    have eL := aL_od hod2
    simp only [show nN 0 = (0 : Int32) from rfl] at eL
    simp only [hx1, hx2, bS, el, ob2_def, oc, e7, thr_9, show nN 0 = (0 : Int32) from rfl, eq_self, if_true, eL, lgc_self]
  · skip
    obtain ⟨B1, g1, a1, e1, hc⟩ := hF f0
    rw [upM_same hod] at e1
    obtain ⟨hO2, hod2⟩ := hc (nN 1)
    refine ⟨_, ?_, hO2⟩
    have el : p_L_classOf z (x 1) (x 2) (z + 194) M = some (nN 1, ovl B1 (z + 180) g1 (up2 a1 1 (enc v pl))) := by
      unfold p_L_classOf
      rw [hX, bS, e6, ctc_r, if_pos rfl, e1]
      rfl
    unfold pk_13
    obtain ⟨y, e7⟩ := e7 B1 g1 a1
    simp only [hx1, hx2, bS, el, ob2_def, oc, e7, thr_9, eq_self, if_true]
    rw [if_neg (by decide)]
  · exact e8.elim
theorem k_14 (hO : OFF z M) (hx : xIs L xs i0 x) : ∃ M', pk_14 L xs z (z + 180) (z + 194) (z + 195) i0 M = some M' ∧ OFF z M' := by
  obtain ⟨-, hx1, hx2, hx3, -, -⟩ := hx
  obtain ⟨v, pl, cd, ⟨hX, r, b, t, tb, g, h, ar, u, ta, hM, hr, hG, hR, hT, hI⟩, ⟨f0, hod⟩, hF⟩ := off_q hO
  have hb := b_distance (z := z) (m := z + 180) M hG hR hT hI (by rw [← hM]; exact hX) (by rw [← hM]; exact hr) (x 1) (x 2)
  rw [← hM] at hb
  rcases hb with ⟨val, y, e6, hv, e7⟩ | ⟨e6, e7⟩ | e8
  · subst hv
    obtain ⟨B1, g1, a1, e1, hc⟩ := hF (vp_updL f0 0 (Int32.toInt64 val))
    obtain ⟨hO2, hod2⟩ := hc (nN 0)
    refine ⟨_, ?_, hO2⟩
    have el : p_L_distance z (x 1) (x 2) (z + 194) M = some (0, ovl B1 (z + 180) g1 (up2 a1 1 (enc v pl))) := by
      unfold p_L_distance
      rw [hX, bS, e6, ctc_l]
      rw [aLs_od hod, bS, e1]
    unfold pk_14
    have e7 := e7 B1 g1 a1
    have eL := aL_od hod2
    simp only [show nN 0 = (0 : Int32) from rfl] at eL
    simp only [hx1, hx2, bS, el, ob2_def, oc, e7, thr_9, show nN 0 = (0 : Int32) from rfl, eq_self, if_true, eL, lgc_self]
  · skip
    obtain ⟨B1, g1, a1, e1, hc⟩ := hF f0
    rw [upM_same hod] at e1
    obtain ⟨hO2, hod2⟩ := hc (nN 1)
    refine ⟨_, ?_, hO2⟩
    have el : p_L_distance z (x 1) (x 2) (z + 194) M = some (nN 1, ovl B1 (z + 180) g1 (up2 a1 1 (enc v pl))) := by
      unfold p_L_distance
      rw [hX, bS, e6, ctc_r, if_pos rfl, e1]
      rfl
    unfold pk_14
    obtain ⟨y, e7⟩ := e7 B1 g1 a1
    simp only [hx1, hx2, bS, el, ob2_def, oc, e7, thr_9, eq_self, if_true]
    rw [if_neg (by decide)]
  · exact e8.elim
theorem k_15 (hO : OFF z M) (hx : xIs L xs i0 x) : ∃ M', pk_15 L xs z (z + 180) (z + 194) (z + 195) i0 M = some M' ∧ OFF z M' := by
  obtain ⟨-, hx1, hx2, hx3, -, -⟩ := hx
  obtain ⟨v, pl, cd, ⟨hX, r, b, t, tb, g, h, ar, u, ta, hM, hr, hG, hR, hT, hI⟩, ⟨f0, hod⟩, hF⟩ := off_q hO
  have hb := b_comesFirst (z := z) (m := z + 180) M hG hR hT hI (by rw [← hM]; exact hX) (by rw [← hM]; exact hr) (x 1) (x 2) (x 3)
  rw [← hM] at hb
  rcases hb with ⟨val, y, e6, hv, e7⟩ | ⟨e6, e7⟩ | e8
  · subst hv
    obtain ⟨B1, g1, a1, e1, hc⟩ := hF (vp_updL f0 0 ((if val = 0 then (0 : Int64) else 1)))
    obtain ⟨hO2, hod2⟩ := hc (nN 0)
    refine ⟨_, ?_, hO2⟩
    have el : p_L_comesFirst z (x 1) (x 2) (x 3) (z + 194) M = some (0, ovl B1 (z + 180) g1 (up2 a1 1 (enc v pl))) := by
      unfold p_L_comesFirst
      rw [hX, bS, e6, ctc_l]
      by_cases cv : val = 0
      · simp only [cv, jn_def, if_true]
        rw [aLs_od hod, bS, ← e1, cv]; rfl
      · simp only [cv, jn_def, if_false]
        rw [aLs_od hod, bS, ← e1, if_neg cv]
    unfold pk_15
    have e7 := e7 B1 g1 a1
    have eL := aL_od hod2
    simp only [show nN 0 = (0 : Int32) from rfl] at eL
    simp only [hx1, hx2, hx3, bS, el, ob2_def, oc, e7, thr_9, show nN 0 = (0 : Int32) from rfl, eq_self, if_true, eL, lgc_self]
    by_cases cv : val = 0
    · simp only [cv, jn_def, if_true, lgc_self]
    · simp only [cv, jn_def, if_false, lgc_self, if_true]
  · skip
    obtain ⟨B1, g1, a1, e1, hc⟩ := hF f0
    rw [upM_same hod] at e1
    obtain ⟨hO2, hod2⟩ := hc (nN 1)
    refine ⟨_, ?_, hO2⟩
    have el : p_L_comesFirst z (x 1) (x 2) (x 3) (z + 194) M = some (nN 1, ovl B1 (z + 180) g1 (up2 a1 1 (enc v pl))) := by
      unfold p_L_comesFirst
      rw [hX, bS, e6, ctc_r, if_pos rfl, e1]
      rfl
    unfold pk_15
    obtain ⟨y, e7⟩ := e7 B1 g1 a1
    simp only [hx1, hx2, hx3, bS, el, ob2_def, oc, e7, thr_9, eq_self, if_true]
    rw [if_neg (by decide)]
  · exact e8.elim
theorem k_16 (hO : OFF z M) (hx : xIs L xs i0 x) : ∃ M', pk_16 L xs z (z + 180) (z + 194) (z + 195) i0 M = some M' ∧ OFF z M' := by
  obtain ⟨-, hx1, hx2, hx3, -, -⟩ := hx
  obtain ⟨v, pl, cd, ⟨hX, r, b, t, tb, g, h, ar, u, ta, hM, hr, hG, hR, hT, hI⟩, ⟨f0, hod⟩, hF⟩ := off_q hO
  have hb := b_holder (z := z) (m := z + 180) M hG hR hT hI (by rw [← hM]; exact hX) (by rw [← hM]; exact hr) (x 1) (x 2)
  rw [← hM] at hb
  rcases hb with ⟨val, y, e6, hv, e7⟩ | ⟨e6, e7⟩ | e8
  · subst hv
    obtain ⟨B1, g1, a1, e1, hc⟩ := hF (vp_updL f0 0 (Int32.toInt64 val))
    obtain ⟨hO2, hod2⟩ := hc (nN 0)
    refine ⟨_, ?_, hO2⟩
    have el : p_L_holder z (x 1) (x 2) (z + 194) M = some (0, ovl B1 (z + 180) g1 (up2 a1 1 (enc v pl))) := by
      unfold p_L_holder
      rw [hX, bS, e6, ctc_l]
      rw [aLs_od hod, bS, e1]
    unfold pk_16
    have e7 := e7 B1 g1 a1
    have eL := aL_od hod2
    simp only [show nN 0 = (0 : Int32) from rfl] at eL
    simp only [hx1, hx2, bS, el, ob2_def, oc, e7, thr_9, show nN 0 = (0 : Int32) from rfl, eq_self, if_true, eL, lgc_self]
  · skip
    obtain ⟨B1, g1, a1, e1, hc⟩ := hF f0
    rw [upM_same hod] at e1
    obtain ⟨hO2, hod2⟩ := hc (nN 1)
    refine ⟨_, ?_, hO2⟩
    have el : p_L_holder z (x 1) (x 2) (z + 194) M = some (nN 1, ovl B1 (z + 180) g1 (up2 a1 1 (enc v pl))) := by
      unfold p_L_holder
      rw [hX, bS, e6, ctc_r, if_pos rfl, e1]
      rfl
    unfold pk_16
    obtain ⟨y, e7⟩ := e7 B1 g1 a1
    simp only [hx1, hx2, bS, el, ob2_def, oc, e7, thr_9, eq_self, if_true]
    rw [if_neg (by decide)]
  · obtain ⟨e6, e7⟩ := e8
    obtain ⟨B1, g1, a1, e1, hc⟩ := hF f0
    rw [upM_same hod] at e1
    obtain ⟨hO2, hod2⟩ := hc (nN 2)
    refine ⟨_, ?_, hO2⟩
    have el : p_L_holder z (x 1) (x 2) (z + 194) M = some (nN 2, ovl B1 (z + 180) g1 (up2 a1 1 (enc v pl))) := by
      unfold p_L_holder
      rw [hX, bS, e6, ctc_r, if_neg (by decide), if_pos rfl, e1]
      rfl
    unfold pk_16
    obtain ⟨y, e7⟩ := e7 B1 g1 a1
    simp only [hx1, hx2, bS, el, ob2_def, oc, e7, thr_9, eq_self, if_true]
    rw [if_neg (by decide)]
theorem k_17 (hO : OFF z M) (hx : xIs L xs i0 x) : ∃ M', pk_17 L xs z (z + 180) (z + 194) (z + 195) i0 M = some M' ∧ OFF z M' := by
  obtain ⟨-, hx1, hx2, hx3, -, -⟩ := hx
  obtain ⟨v, pl, cd, ⟨hX, r, b, t, tb, g, h, ar, u, ta, hM, hr, hG, hR, hT, hI⟩, ⟨f0, hod⟩, hF⟩ := off_q hO
  have hb := b_waiting (z := z) (m := z + 180) M hG hR hT hI (by rw [← hM]; exact hX) (by rw [← hM]; exact hr) (x 1) (x 2)
  rw [← hM] at hb
  rcases hb with ⟨val, y, e6, hv, e7⟩ | ⟨e6, e7⟩ | e8
  · subst hv
    obtain ⟨B1, g1, a1, e1, hc⟩ := hF (vp_updL f0 0 (Int32.toInt64 val))
    obtain ⟨hO2, hod2⟩ := hc (nN 0)
    refine ⟨_, ?_, hO2⟩
    have el : p_L_waiting z (x 1) (x 2) (z + 194) M = some (0, ovl B1 (z + 180) g1 (up2 a1 1 (enc v pl))) := by
      unfold p_L_waiting
      rw [hX, bS, e6, ctc_l]
      rw [aLs_od hod, bS, e1]
    unfold pk_17
    have e7 := e7 B1 g1 a1
    have eL := aL_od hod2
    simp only [show nN 0 = (0 : Int32) from rfl] at eL
    simp only [hx1, hx2, bS, el, ob2_def, oc, e7, thr_9, show nN 0 = (0 : Int32) from rfl, eq_self, if_true, eL, lgc_self]
  · skip
    obtain ⟨B1, g1, a1, e1, hc⟩ := hF f0
    rw [upM_same hod] at e1
    obtain ⟨hO2, hod2⟩ := hc (nN 1)
    refine ⟨_, ?_, hO2⟩
    have el : p_L_waiting z (x 1) (x 2) (z + 194) M = some (nN 1, ovl B1 (z + 180) g1 (up2 a1 1 (enc v pl))) := by
      unfold p_L_waiting
      rw [hX, bS, e6, ctc_r, if_pos rfl, e1]
      rfl
    unfold pk_17
    obtain ⟨y, e7⟩ := e7 B1 g1 a1
    simp only [hx1, hx2, bS, el, ob2_def, oc, e7, thr_9, eq_self, if_true]
    rw [if_neg (by decide)]
  · obtain ⟨e6, e7⟩ := e8
    obtain ⟨B1, g1, a1, e1, hc⟩ := hF f0
    rw [upM_same hod] at e1
    obtain ⟨hO2, hod2⟩ := hc (nN 2)
    refine ⟨_, ?_, hO2⟩
    have el : p_L_waiting z (x 1) (x 2) (z + 194) M = some (nN 2, ovl B1 (z + 180) g1 (up2 a1 1 (enc v pl))) := by
      unfold p_L_waiting
      rw [hX, bS, e6, ctc_r, if_neg (by decide), if_pos rfl, e1]
      rfl
    unfold pk_17
    obtain ⟨y, e7⟩ := e7 B1 g1 a1
    simp only [hx1, hx2, bS, el, ob2_def, oc, e7, thr_9, eq_self, if_true]
    rw [if_neg (by decide)]
theorem k_18 (hO : OFF z M) (hx : xIs L xs i0 x) : ∃ M', pk_18 L xs z (z + 180) (z + 194) (z + 195) i0 M = some M' ∧ OFF z M' := by
  obtain ⟨-, hx1, hx2, hx3, -, -⟩ := hx
  obtain ⟨v, pl, cd, ⟨hX, r, b, t, tb, g, h, ar, u, ta, hM, hr, hG, hR, hT, hI⟩, ⟨f0, hod⟩, hF⟩ := off_q hO
  have hb := b_waitingPlace (z := z) (m := z + 180) M hG hR hT hI (by rw [← hM]; exact hX) (by rw [← hM]; exact hr) (x 1) (x 2)
  rw [← hM] at hb
  rcases hb with ⟨val, y, e6, hv, e7⟩ | ⟨e6, e7⟩ | e8
  · subst hv
    obtain ⟨B1, g1, a1, e1, hc⟩ := hF (vp_updL f0 0 (Int32.toInt64 val))
    obtain ⟨hO2, hod2⟩ := hc (nN 0)
    refine ⟨_, ?_, hO2⟩
    have el : p_L_waitingPlace z (x 1) (x 2) (z + 194) M = some (0, ovl B1 (z + 180) g1 (up2 a1 1 (enc v pl))) := by
      unfold p_L_waitingPlace
      rw [hX, bS, e6, ctc_l]
      rw [aLs_od hod, bS, e1]
    unfold pk_18
    have e7 := e7 B1 g1 a1
    have eL := aL_od hod2
    simp only [show nN 0 = (0 : Int32) from rfl] at eL
    simp only [hx1, hx2, bS, el, ob2_def, oc, e7, thr_9, show nN 0 = (0 : Int32) from rfl, eq_self, if_true, eL, lgc_self]
  · skip
    obtain ⟨B1, g1, a1, e1, hc⟩ := hF f0
    rw [upM_same hod] at e1
    obtain ⟨hO2, hod2⟩ := hc (nN 1)
    refine ⟨_, ?_, hO2⟩
    have el : p_L_waitingPlace z (x 1) (x 2) (z + 194) M = some (nN 1, ovl B1 (z + 180) g1 (up2 a1 1 (enc v pl))) := by
      unfold p_L_waitingPlace
      rw [hX, bS, e6, ctc_r, if_pos rfl, e1]
      rfl
    unfold pk_18
    obtain ⟨y, e7⟩ := e7 B1 g1 a1
    simp only [hx1, hx2, bS, el, ob2_def, oc, e7, thr_9, eq_self, if_true]
    rw [if_neg (by decide)]
  · exact e8.elim
theorem k_19 (hO : OFF z M) (hx : xIs L xs i0 x) : ∃ M', pk_19 L xs z (z + 180) (z + 194) (z + 195) i0 M = some M' ∧ OFF z M' := by
  obtain ⟨-, hx1, hx2, hx3, -, -⟩ := hx
  obtain ⟨v, pl, cd, ⟨hX, r, b, t, tb, g, h, ar, u, ta, hM, hr, hG, hR, hT, hI⟩, ⟨f0, hod⟩, hF⟩ := off_q hO
  have hb := b_hasClaim (z := z) (m := z + 180) M hG hR hT hI (by rw [← hM]; exact hX) (by rw [← hM]; exact hr) (x 1) (x 2)
  rw [← hM] at hb
  rcases hb with ⟨val, y, e6, hv, e7⟩ | ⟨e6, e7⟩ | e8
  · subst hv
    obtain ⟨B1, g1, a1, e1, hc⟩ := hF (vp_updL f0 0 ((if val = 0 then (0 : Int64) else 1)))
    obtain ⟨hO2, hod2⟩ := hc (nN 0)
    refine ⟨_, ?_, hO2⟩
    have el : p_L_hasClaim z (x 1) (x 2) (z + 194) M = some (0, ovl B1 (z + 180) g1 (up2 a1 1 (enc v pl))) := by
      unfold p_L_hasClaim
      rw [hX, bS, e6, ctc_l]
      by_cases cv : val = 0
      · simp only [cv, jn_def, if_true]
        rw [aLs_od hod, bS, ← e1, cv]; rfl
      · simp only [cv, jn_def, if_false]
        rw [aLs_od hod, bS, ← e1, if_neg cv]
    unfold pk_19
    have e7 := e7 B1 g1 a1
    have eL := aL_od hod2
    simp only [show nN 0 = (0 : Int32) from rfl] at eL
    simp only [hx1, hx2, bS, el, ob2_def, oc, e7, thr_9, show nN 0 = (0 : Int32) from rfl, eq_self, if_true, eL, lgc_self]
    by_cases cv : val = 0
    · simp only [cv, jn_def, if_true, lgc_self]
    · simp only [cv, jn_def, if_false, lgc_self, if_true]
  · skip
    obtain ⟨B1, g1, a1, e1, hc⟩ := hF f0
    rw [upM_same hod] at e1
    obtain ⟨hO2, hod2⟩ := hc (nN 1)
    refine ⟨_, ?_, hO2⟩
    have el : p_L_hasClaim z (x 1) (x 2) (z + 194) M = some (nN 1, ovl B1 (z + 180) g1 (up2 a1 1 (enc v pl))) := by
      unfold p_L_hasClaim
      rw [hX, bS, e6, ctc_r, if_pos rfl, e1]
      rfl
    unfold pk_19
    obtain ⟨y, e7⟩ := e7 B1 g1 a1
    simp only [hx1, hx2, bS, el, ob2_def, oc, e7, thr_9, eq_self, if_true]
    rw [if_neg (by decide)]
  · exact e8.elim
theorem k_22 (hO : OFF z M) (hx : xIs L xs i0 x) : ∃ M', pk_22 L xs z (z + 180) (z + 194) (z + 195) i0 M = some M' ∧ OFF z M' := by
  obtain ⟨-, hx1, hx2, hx3, -, -⟩ := hx
  obtain ⟨v, pl, cd, ⟨hX, r, b, t, tb, g, h, ar, u, ta, hM, hr, hG, hR, hT, hI⟩, ⟨f0, hod⟩, hF⟩ := off_q hO
  have hb := b_roundOf (z := z) (m := z + 180) M hG hR hT hI (by rw [← hM]; exact hX) (by rw [← hM]; exact hr) (x 1)
  rw [← hM] at hb
  rcases hb with ⟨val, y, e6, hv, e7⟩ | ⟨e6, e7⟩ | e8
  · subst hv
    obtain ⟨B1, g1, a1, e1, hc⟩ := hF (vp_updL f0 0 (Int32.toInt64 val))
    obtain ⟨hO2, hod2⟩ := hc (nN 0)
    refine ⟨_, ?_, hO2⟩
    have el : p_L_roundOf z (x 1) (z + 194) M = some (0, ovl B1 (z + 180) g1 (up2 a1 1 (enc v pl))) := by
      unfold p_L_roundOf
      rw [hX, bS, e6, ctc_l]
      rw [aLs_od hod, bS, e1]
    unfold pk_22
    have e7 := e7 B1 g1 a1
    have eL := aL_od hod2
    simp only [show nN 0 = (0 : Int32) from rfl] at eL
    simp only [hx1, bS, el, ob2_def, oc, e7, thr_9, show nN 0 = (0 : Int32) from rfl, eq_self, if_true, eL, lgc_self]
  · skip
    obtain ⟨B1, g1, a1, e1, hc⟩ := hF f0
    rw [upM_same hod] at e1
    obtain ⟨hO2, hod2⟩ := hc (nN 1)
    refine ⟨_, ?_, hO2⟩
    have el : p_L_roundOf z (x 1) (z + 194) M = some (nN 1, ovl B1 (z + 180) g1 (up2 a1 1 (enc v pl))) := by
      unfold p_L_roundOf
      rw [hX, bS, e6, ctc_r, if_pos rfl, e1]
      rfl
    unfold pk_22
    obtain ⟨y, e7⟩ := e7 B1 g1 a1
    simp only [hx1, bS, el, ob2_def, oc, e7, thr_9, eq_self, if_true]
    rw [if_neg (by decide)]
  · exact e8.elim
theorem k_30 (hO : OFF z M) (hx : xIs L xs i0 x) : ∃ M', pk_30 L xs z (z + 180) (z + 194) (z + 195) i0 M = some M' ∧ OFF z M' := by
  obtain ⟨-, hx1, hx2, hx3, -, -⟩ := hx
  obtain ⟨v, pl, cd, ⟨hX, r, b, t, tb, g, h, ar, u, ta, hM, hr, hG, hR, hT, hI⟩, ⟨f0, hod⟩, hF⟩ := off_q hO
  have hb := b_lastHolder (z := z) (m := z + 180) M hG hR hT hI (by rw [← hM]; exact hX) (by rw [← hM]; exact hr) (x 1)
  rw [← hM] at hb
  rcases hb with ⟨val, y, e6, hv, e7⟩ | ⟨e6, e7⟩ | e8
  · subst hv
    obtain ⟨B1, g1, a1, e1, hc⟩ := hF (vp_updL f0 0 (Int32.toInt64 val))
    obtain ⟨hO2, hod2⟩ := hc (nN 0)
    refine ⟨_, ?_, hO2⟩
    have el : p_L_lastHolder z (x 1) (z + 194) M = some (0, ovl B1 (z + 180) g1 (up2 a1 1 (enc v pl))) := by
      unfold p_L_lastHolder
      rw [hX, bS, e6, ctc_l]
      rw [aLs_od hod, bS, e1]
    unfold pk_30
    have e7 := e7 B1 g1 a1
    have eL := aL_od hod2
    simp only [show nN 0 = (0 : Int32) from rfl] at eL
    simp only [hx1, bS, el, ob2_def, oc, e7, thr_9, show nN 0 = (0 : Int32) from rfl, eq_self, if_true, eL, lgc_self]
  · skip
    obtain ⟨B1, g1, a1, e1, hc⟩ := hF f0
    rw [upM_same hod] at e1
    obtain ⟨hO2, hod2⟩ := hc (nN 1)
    refine ⟨_, ?_, hO2⟩
    have el : p_L_lastHolder z (x 1) (z + 194) M = some (nN 1, ovl B1 (z + 180) g1 (up2 a1 1 (enc v pl))) := by
      unfold p_L_lastHolder
      rw [hX, bS, e6, ctc_r, if_pos rfl, e1]
      rfl
    unfold pk_30
    obtain ⟨y, e7⟩ := e7 B1 g1 a1
    simp only [hx1, bS, el, ob2_def, oc, e7, thr_9, eq_self, if_true]
    rw [if_neg (by decide)]
  · exact e8.elim
theorem k_34 (hO : OFF z M) (hx : xIs L xs i0 x) : ∃ M', pk_34 L xs z (z + 180) (z + 194) (z + 195) i0 M = some M' ∧ OFF z M' := by
  obtain ⟨-, hx1, hx2, hx3, -, -⟩ := hx
  obtain ⟨v, pl, cd, ⟨hX, r, b, t, tb, g, h, ar, u, ta, hM, hr, hG, hR, hT, hI⟩, ⟨f0, hod⟩, hF⟩ := off_q hO
  have hb := b_wanted (z := z) (m := z + 180) M hG hR hT hI (by rw [← hM]; exact hX) (by rw [← hM]; exact hr) (x 1) (x 2)
  rw [← hM] at hb
  rcases hb with ⟨val, y, e6, hv, e7⟩ | ⟨e6, e7⟩ | e8
  · subst hv
    obtain ⟨B1, g1, a1, e1, hc⟩ := hF (vp_updL f0 0 (Int32.toInt64 val))
    obtain ⟨hO2, hod2⟩ := hc (nN 0)
    refine ⟨_, ?_, hO2⟩
    have el : p_L_wanted z (x 1) (x 2) (z + 194) M = some (0, ovl B1 (z + 180) g1 (up2 a1 1 (enc v pl))) := by
      unfold p_L_wanted
      rw [hX, bS, e6, ctc_l]
      rw [aLs_od hod, bS, e1]
    unfold pk_34
    have e7 := e7 B1 g1 a1
    have eL := aL_od hod2
    simp only [show nN 0 = (0 : Int32) from rfl] at eL
    simp only [hx1, hx2, bS, el, ob2_def, oc, e7, thr_9, show nN 0 = (0 : Int32) from rfl, eq_self, if_true, eL, lgc_self]
  · skip
    obtain ⟨B1, g1, a1, e1, hc⟩ := hF f0
    rw [upM_same hod] at e1
    obtain ⟨hO2, hod2⟩ := hc (nN 1)
    refine ⟨_, ?_, hO2⟩
    have el : p_L_wanted z (x 1) (x 2) (z + 194) M = some (nN 1, ovl B1 (z + 180) g1 (up2 a1 1 (enc v pl))) := by
      unfold p_L_wanted
      rw [hX, bS, e6, ctc_r, if_pos rfl, e1]
      rfl
    unfold pk_34
    obtain ⟨y, e7⟩ := e7 B1 g1 a1
    simp only [hx1, hx2, bS, el, ob2_def, oc, e7, thr_9, eq_self, if_true]
    rw [if_neg (by decide)]
  · exact e8.elim
theorem k_35 (hO : OFF z M) (hx : xIs L xs i0 x) : ∃ M', pk_35 L xs z (z + 180) (z + 194) (z + 195) i0 M = some M' ∧ OFF z M' := by
  obtain ⟨-, hx1, hx2, hx3, -, -⟩ := hx
  obtain ⟨v, pl, cd, ⟨hX, r, b, t, tb, g, h, ar, u, ta, hM, hr, hG, hR, hT, hI⟩, ⟨f0, hod⟩, hF⟩ := off_q hO
  have hb := b_inZone (z := z) (m := z + 180) M hG hR hT hI (by rw [← hM]; exact hX) (by rw [← hM]; exact hr) (x 1)
  rw [← hM] at hb
  rcases hb with ⟨val, y, e6, hv, e7⟩ | ⟨e6, e7⟩ | e8
  · subst hv
    obtain ⟨B1, g1, a1, e1, hc⟩ := hF (vp_updL f0 0 (Int32.toInt64 val))
    obtain ⟨hO2, hod2⟩ := hc (nN 0)
    refine ⟨_, ?_, hO2⟩
    have el : p_L_inZone z (x 1) (z + 194) M = some (0, ovl B1 (z + 180) g1 (up2 a1 1 (enc v pl))) := by
      unfold p_L_inZone
      rw [hX, bS, e6, ctc_l]
      rw [aLs_od hod, bS, e1]
    unfold pk_35
    have e7 := e7 B1 g1 a1
    have eL := aL_od hod2
    simp only [show nN 0 = (0 : Int32) from rfl] at eL
    simp only [hx1, bS, el, ob2_def, oc, e7, thr_9, show nN 0 = (0 : Int32) from rfl, eq_self, if_true, eL, lgc_self]
  · skip
    obtain ⟨B1, g1, a1, e1, hc⟩ := hF f0
    rw [upM_same hod] at e1
    obtain ⟨hO2, hod2⟩ := hc (nN 1)
    refine ⟨_, ?_, hO2⟩
    have el : p_L_inZone z (x 1) (z + 194) M = some (nN 1, ovl B1 (z + 180) g1 (up2 a1 1 (enc v pl))) := by
      unfold p_L_inZone
      rw [hX, bS, e6, ctc_r, if_pos rfl, e1]
      rfl
    unfold pk_35
    obtain ⟨y, e7⟩ := e7 B1 g1 a1
    simp only [hx1, bS, el, ob2_def, oc, e7, thr_9, eq_self, if_true]
    rw [if_neg (by decide)]
  · exact e8.elim
theorem k_37 (hO : OFF z M) (hx : xIs L xs i0 x) : ∃ M', pk_37 L xs z (z + 180) (z + 194) (z + 195) i0 M = some M' ∧ OFF z M' := by
  obtain ⟨-, hx1, hx2, hx3, -, -⟩ := hx
  obtain ⟨v, pl, cd, ⟨hX, r, b, t, tb, g, h, ar, u, ta, hM, hr, hG, hR, hT, hI⟩, ⟨f0, hod⟩, hF⟩ := off_q hO
  have hb := b_cutoff (z := z) (m := z + 180) M hG hR hT hI (by rw [← hM]; exact hX) (by rw [← hM]; exact hr) (x 1) (x 2)
  rw [← hM] at hb
  rcases hb with ⟨val, y, e6, hv, e7⟩ | ⟨e6, e7⟩ | e8
  · subst hv
    obtain ⟨B1, g1, a1, e1, hc⟩ := hF (vp_updL f0 0 (Int32.toInt64 val))
    obtain ⟨hO2, hod2⟩ := hc (nN 0)
    refine ⟨_, ?_, hO2⟩
    have el : p_L_cutoff z (x 1) (x 2) (z + 194) M = some (0, ovl B1 (z + 180) g1 (up2 a1 1 (enc v pl))) := by
      unfold p_L_cutoff
      rw [hX, bS, e6, ctc_l]
      rw [aLs_od hod, bS, e1]
    unfold pk_37
    have e7 := e7 B1 g1 a1
    have eL := aL_od hod2
    simp only [show nN 0 = (0 : Int32) from rfl] at eL
    simp only [hx1, hx2, bS, el, ob2_def, oc, e7, thr_9, show nN 0 = (0 : Int32) from rfl, eq_self, if_true, eL, lgc_self]
  · skip
    obtain ⟨B1, g1, a1, e1, hc⟩ := hF f0
    rw [upM_same hod] at e1
    obtain ⟨hO2, hod2⟩ := hc (nN 1)
    refine ⟨_, ?_, hO2⟩
    have el : p_L_cutoff z (x 1) (x 2) (z + 194) M = some (nN 1, ovl B1 (z + 180) g1 (up2 a1 1 (enc v pl))) := by
      unfold p_L_cutoff
      rw [hX, bS, e6, ctc_r, if_pos rfl, e1]
      rfl
    unfold pk_37
    obtain ⟨y, e7⟩ := e7 B1 g1 a1
    simp only [hx1, hx2, bS, el, ob2_def, oc, e7, thr_9, eq_self, if_true]
    rw [if_neg (by decide)]
  · obtain ⟨e6, e7⟩ := e8
    obtain ⟨B1, g1, a1, e1, hc⟩ := hF f0
    rw [upM_same hod] at e1
    obtain ⟨hO2, hod2⟩ := hc (nN 2)
    refine ⟨_, ?_, hO2⟩
    have el : p_L_cutoff z (x 1) (x 2) (z + 194) M = some (nN 2, ovl B1 (z + 180) g1 (up2 a1 1 (enc v pl))) := by
      unfold p_L_cutoff
      rw [hX, bS, e6, ctc_r, if_neg (by decide), if_pos rfl, e1]
      rfl
    unfold pk_37
    obtain ⟨y, e7⟩ := e7 B1 g1 a1
    simp only [hx1, hx2, bS, el, ob2_def, oc, e7, thr_9, eq_self, if_true]
    rw [if_neg (by decide)]
theorem k_38 (hO : OFF z M) (hx : xIs L xs i0 x) : ∃ M', pk_38 L xs z (z + 180) (z + 194) (z + 195) i0 M = some M' ∧ OFF z M' := by
  obtain ⟨-, hx1, hx2, hx3, -, -⟩ := hx
  obtain ⟨v, pl, cd, ⟨hX, r, b, t, tb, g, h, ar, u, ta, hM, hr, hG, hR, hT, hI⟩, ⟨f0, hod⟩, hF⟩ := off_q hO
  have hb := b_nearest (z := z) (m := z + 180) M hG hR hT hI (by rw [← hM]; exact hX) (by rw [← hM]; exact hr) (x 1)
  rw [← hM] at hb
  rcases hb with ⟨val, y, e6, hv, e7⟩ | ⟨e6, e7⟩ | e8
  · subst hv
    obtain ⟨B1, g1, a1, e1, hc⟩ := hF (vp_updL f0 0 (Int32.toInt64 val))
    obtain ⟨hO2, hod2⟩ := hc (nN 0)
    refine ⟨_, ?_, hO2⟩
    have el : p_L_nearest z (x 1) (z + 194) M = some (0, ovl B1 (z + 180) g1 (up2 a1 1 (enc v pl))) := by
      unfold p_L_nearest
      rw [hX, bS, e6, ctc_l]
      rw [aLs_od hod, bS, e1]
    unfold pk_38
    have e7 := e7 B1 g1 a1
    have eL := aL_od hod2
    simp only [show nN 0 = (0 : Int32) from rfl] at eL
    simp only [hx1, bS, el, ob2_def, oc, e7, thr_9, show nN 0 = (0 : Int32) from rfl, eq_self, if_true, eL, lgc_self]
  · skip
    obtain ⟨B1, g1, a1, e1, hc⟩ := hF f0
    rw [upM_same hod] at e1
    obtain ⟨hO2, hod2⟩ := hc (nN 1)
    refine ⟨_, ?_, hO2⟩
    have el : p_L_nearest z (x 1) (z + 194) M = some (nN 1, ovl B1 (z + 180) g1 (up2 a1 1 (enc v pl))) := by
      unfold p_L_nearest
      rw [hX, bS, e6, ctc_r, if_pos rfl, e1]
      rfl
    unfold pk_38
    obtain ⟨y, e7⟩ := e7 B1 g1 a1
    simp only [hx1, bS, el, ob2_def, oc, e7, thr_9, eq_self, if_true]
    rw [if_neg (by decide)]
  · exact e8.elim
theorem k_41 (hO : OFF z M) (hx : xIs L xs i0 x) : ∃ M', pk_41 L xs z (z + 180) (z + 194) (z + 195) i0 M = some M' ∧ OFF z M' := by
  obtain ⟨-, hx1, hx2, hx3, -, -⟩ := hx
  obtain ⟨v, pl, cd, ⟨hX, r, b, t, tb, g, h, ar, u, ta, hM, hr, hG, hR, hT, hI⟩, ⟨f0, hod⟩, hF⟩ := off_q hO
  have hb := b_tradePartner (z := z) (m := z + 180) M hG hR hT hI (by rw [← hM]; exact hX) (by rw [← hM]; exact hr) (x 1)
  rw [← hM] at hb
  rcases hb with ⟨val, y, e6, hv, e7⟩ | ⟨e6, e7⟩ | e8
  · subst hv
    obtain ⟨B1, g1, a1, e1, hc⟩ := hF (vp_updL f0 0 (Int32.toInt64 val))
    obtain ⟨hO2, hod2⟩ := hc (nN 0)
    refine ⟨_, ?_, hO2⟩
    have el : p_L_tradePartner z (x 1) (z + 194) M = some (0, ovl B1 (z + 180) g1 (up2 a1 1 (enc v pl))) := by
      unfold p_L_tradePartner
      rw [hX, bS, e6, ctc_l]
      rw [aLs_od hod, bS, e1]
    unfold pk_41
    have e7 := e7 B1 g1 a1
    have eL := aL_od hod2
    simp only [show nN 0 = (0 : Int32) from rfl] at eL
    simp only [hx1, bS, el, ob2_def, oc, e7, thr_9, show nN 0 = (0 : Int32) from rfl, eq_self, if_true, eL, lgc_self]
  · skip
    obtain ⟨B1, g1, a1, e1, hc⟩ := hF f0
    rw [upM_same hod] at e1
    obtain ⟨hO2, hod2⟩ := hc (nN 1)
    refine ⟨_, ?_, hO2⟩
    have el : p_L_tradePartner z (x 1) (z + 194) M = some (nN 1, ovl B1 (z + 180) g1 (up2 a1 1 (enc v pl))) := by
      unfold p_L_tradePartner
      rw [hX, bS, e6, ctc_r, if_pos rfl, e1]
      rfl
    unfold pk_41
    obtain ⟨y, e7⟩ := e7 B1 g1 a1
    simp only [hx1, bS, el, ob2_def, oc, e7, thr_9, eq_self, if_true]
    rw [if_neg (by decide)]
  · exact e8.elim
theorem k_43 (hO : OFF z M) (hx : xIs L xs i0 x) : ∃ M', pk_43 L xs z (z + 180) (z + 194) (z + 195) i0 M = some M' ∧ OFF z M' := by
  obtain ⟨-, hx1, hx2, hx3, -, -⟩ := hx
  obtain ⟨v, pl, cd, ⟨hX, r, b, t, tb, g, h, ar, u, ta, hM, hr, hG, hR, hT, hI⟩, ⟨f0, hod⟩, hF⟩ := off_q hO
  have hb := b_holdersOfClass (z := z) (m := z + 180) M hG hR hT hI (by rw [← hM]; exact hX) (by rw [← hM]; exact hr) (x 1) (x 2)
  rw [← hM] at hb
  rcases hb with ⟨val, y, e6, hv, e7⟩ | ⟨e6, e7⟩ | e8
  · subst hv
    obtain ⟨B1, g1, a1, e1, hc⟩ := hF (vp_updL f0 0 (Int32.toInt64 val))
    obtain ⟨hO2, hod2⟩ := hc (nN 0)
    refine ⟨_, ?_, hO2⟩
    have el : p_L_holdersOfClass z (x 1) (x 2) (z + 194) M = some (0, ovl B1 (z + 180) g1 (up2 a1 1 (enc v pl))) := by
      unfold p_L_holdersOfClass
      rw [hX, bS, e6, ctc_l]
      rw [aLs_od hod, bS, e1]
    unfold pk_43
    have e7 := e7 B1 g1 a1
    have eL := aL_od hod2
    simp only [show nN 0 = (0 : Int32) from rfl] at eL
    simp only [hx1, hx2, bS, el, ob2_def, oc, e7, thr_9, show nN 0 = (0 : Int32) from rfl, eq_self, if_true, eL, lgc_self]
  · skip
    obtain ⟨B1, g1, a1, e1, hc⟩ := hF f0
    rw [upM_same hod] at e1
    obtain ⟨hO2, hod2⟩ := hc (nN 1)
    refine ⟨_, ?_, hO2⟩
    have el : p_L_holdersOfClass z (x 1) (x 2) (z + 194) M = some (nN 1, ovl B1 (z + 180) g1 (up2 a1 1 (enc v pl))) := by
      unfold p_L_holdersOfClass
      rw [hX, bS, e6, ctc_r, if_pos rfl, e1]
      rfl
    unfold pk_43
    obtain ⟨y, e7⟩ := e7 B1 g1 a1
    simp only [hx1, hx2, bS, el, ob2_def, oc, e7, thr_9, eq_self, if_true]
    rw [if_neg (by decide)]
  · exact e8.elim
theorem k_47 (hO : OFF z M) (hx : xIs L xs i0 x) : ∃ M', pk_47 L xs z (z + 180) (z + 194) (z + 195) i0 M = some M' ∧ OFF z M' := by
  obtain ⟨-, hx1, hx2, hx3, -, -⟩ := hx
  obtain ⟨v, pl, cd, ⟨hX, r, b, t, tb, g, h, ar, u, ta, hM, hr, hG, hR, hT, hI⟩, ⟨f0, hod⟩, hF⟩ := off_q hO
  have hb := b_siblings (z := z) (m := z + 180) M hG hR hT hI (by rw [← hM]; exact hX) (by rw [← hM]; exact hr) (x 1)
  rw [← hM] at hb
  rcases hb with ⟨val, y, e6, hv, e7⟩ | ⟨e6, e7⟩ | e8
  · subst hv
    obtain ⟨B1, g1, a1, e1, hc⟩ := hF (vp_updL f0 0 (val))
    obtain ⟨hO2, hod2⟩ := hc (nN 0)
    refine ⟨_, ?_, hO2⟩
    have el : p_L_siblings z (x 1) (z + 194) M = some (0, ovl B1 (z + 180) g1 (up2 a1 1 (enc v pl))) := by
      unfold p_L_siblings
      rw [hX, bS, e6, ctc_l]
      rw [aLs_od hod, bS, e1]
    unfold pk_47
    have e7 := e7 B1 g1 a1
    have eL := aL_od hod2
    simp only [show nN 0 = (0 : Int32) from rfl] at eL
    simp only [hx1, bS, el, ob2_def, oc, e7, thr_9, show nN 0 = (0 : Int32) from rfl, eq_self, if_true, eL, lgc_self]
  · skip
    obtain ⟨B1, g1, a1, e1, hc⟩ := hF f0
    rw [upM_same hod] at e1
    obtain ⟨hO2, hod2⟩ := hc (nN 1)
    refine ⟨_, ?_, hO2⟩
    have el : p_L_siblings z (x 1) (z + 194) M = some (nN 1, ovl B1 (z + 180) g1 (up2 a1 1 (enc v pl))) := by
      unfold p_L_siblings
      rw [hX, bS, e6, ctc_r, if_pos rfl, e1]
      rfl
    unfold pk_47
    obtain ⟨y, e7⟩ := e7 B1 g1 a1
    simp only [hx1, bS, el, ob2_def, oc, e7, thr_9, eq_self, if_true]
    rw [if_neg (by decide)]
  · exact e8.elim
end KQ
