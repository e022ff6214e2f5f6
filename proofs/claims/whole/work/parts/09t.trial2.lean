/-! the other trial roll -/
section TR2
variable {z : Nat} {M : Mem} {v : Nat → Nat} {pl : Nat → Option Nat} {nm : Nat → Nat} {H : Nat → rowT} {n sv : Nat} {S : rowT} {inp : Nat → Nat} {len ec : Nat} {eo : Int32} {out : Nat → Nat} {ol : Nat}
/-- the roll that is used, copied to the other trial roll -/
theorem cl_tri2 (hI : Inv v pl) (hC : CL0 z (rst M z) v pl nm H n sv S inp len ec eo out ol) : ∃ rn bn tn tbn g h ar u ta M2 g0 h0 ar0, p_X2_copyFrom (z + 59) rn M = some (ofc M2 (z + 59) (z + 60) tn tbn g h ar u ta) ∧ gR 5 3 M z = some rn ∧ gR 5 5 M z = some (z + 59) ∧ isC 2 M (z + 59) = some () ∧ GE (z + 59) (z + 60) tn tbn ∧ RG g h ar v pl ∧ TG u ta v (cdS nm) ∧ GQ (z + 24) (z + 59) (z + 60) tn tbn ∧ RG g0 h0 ar0 v pl ∧ (∃ T, M2 = ovq M2 (z + 24) T) ∧
    ∀ g h ar T, gR 5 3 (ofc (ovq M2 (z + 24) T) (z + 59) (z + 60) tn tbn g h ar u ta) z = some rn ∧ gR 5 5 (ofc (ovq M2 (z + 24) T) (z + 59) (z + 60) tn tbn g h ar u ta) z = some (z + 59) ∧ gR 5 1 (ofc (ovq M2 (z + 24) T) (z + 59) (z + 60) tn tbn g h ar u ta) z = some (z + 24) ∧ isC 5 (ofc (ovq M2 (z + 24) T) (z + 59) (z + 60) tn tbn g h ar u ta) z = some () ∧ RC (ofc (ovq M2 (z + 24) T) (z + 59) (z + 60) tn tbn g h ar u ta) rn bn tn g0 h0 ar0 ∧
      CL0 z (rst (ofc (ovq M2 (z + 24) T) (z + 59) (z + 60) tn tbn g h ar u ta) z) v pl nm H n sv S inp len ec eo out ol ∧ ∀ x, x ≠ z + 25 → ¬ (z + 59 ≤ x ∧ x < z + 69) → ofc (ovq M2 (z + 24) T) (z + 59) (z + 60) tn tbn g h ar u ta x = M x := by
  have hC0 := hC
  obtain ⟨rn, bn, tn, tbn, rr, br, tr, tbr, hn', hW, hX, ⟨g, h, ar, u, ta, q1, q2, q3, q4⟩, ⟨t6, g6, h6, a6, r6⟩, ⟨t5, g5, h5, a5, r5⟩, q7, q8, q11, ⟨T, q12a, q12b⟩, -, -, -⟩ := hC
  have hl : (z < rn ∧ rn < z + 49) ∧ (z < bn ∧ bn + 9 < z + 49 + 1) ∧ (z < tn ∧ tn < z + 49) ∧ (z < tbn ∧ tbn + 10 < z + 49) ∧ AP (z + 59) (z + 60) rn bn ∧ GE (z + 59) (z + 60) tn tbn ∧ GQ (z + 24) (z + 59) (z + 60) tn tbn ∧ (rn ≠ z + 25 ∧ rn ≠ z + 24 ∧ rn ≠ tn ∧ ¬ (tbn ≤ rn ∧ rn < tbn + 10)) ∧ (bn + 9 ≤ z + 24 ∨ z + 25 < bn) ∧ (tn < bn ∨ bn + 9 ≤ tn) ∧ (bn + 9 ≤ tbn ∨ tbn + 10 ≤ bn) := by
    unfold WHR at hW; unfold AP GE GQ oR oTw
    rcases hW with hW | hW <;> omega
  obtain ⟨l1, l2, l3, l4, l5, l6, l7, l8, l9, l10, l11⟩ := hl
  have hXM : M z = some (.inr (5, flX z rn sv hn' n)) := by rw [← rst_in (M := M) (z := z) (a := z) (by omega)]; exact hX
  have q1M := q1.up (M := M) (z := z) ⟨by omega, by omega⟩ ⟨by omega, by omega⟩
  have q2M := q2.up (M := M) (z := z) ⟨by omega, by omega⟩ ⟨by omega, by omega⟩
  have r5M := r5.up (M := M) (z := z) (by omega) (by omega)
  have r6M := r6.up (M := M) (z := z) (by omega) (by omega)
  have q12aM : M (z + 24) = some (.inr (0, [.ref (z + 25)])) := by rw [← rst_in (M := M) (z := z) (a := z + 24) (by omega)]; exact q12a
  have q12bM : M (z + 25) = some (.inl (0, 40, .inl T)) := by rw [← rst_in (M := M) (z := z) (a := z + 25) (by omega)]; exact q12b
  obtain ⟨g3, h3, ar3, e3, R3⟩ := c_copyFrom (t := t5) (g := g5) (h := h5) (ar := a5) l5 q1M q3 hI
  rw [← r5M.eq] at e3
  have hqe : M = ovq M (z + 24) T := by
    funext x; unfold ovq
    by_cases c : x = z + 24
    · rw [if_pos c, c]; exact q12aM
    · rw [if_neg c]
      by_cases c2 : x = z + 24 + 1
      · rw [if_pos c2, c2]; exact q12bM
      · rw [if_neg c2]
  -- the copied memory, as a roll over M
  have hof : ovr M (z + 59) (z + 60) tn g3 h3 ar3 = ofc M (z + 59) (z + 60) tn tbn g3 h3 ar3 u ta := by
    unfold ofc
    rw [← q2M.eq]
  have hk : ∀ g h ar T2 x, x ≠ z + 25 → ¬ (z + 59 ≤ x ∧ x < z + 69) → ofc (ovq M (z + 24) T2) (z + 59) (z + 60) tn tbn g h ar u ta x = M x := fun g h ar T2 x x1 x2 => by
    unfold ofc
    rw [ovr_o _ _ _ _ _ _ _ (by unfold oR; clear q11 q8 q7 hC0 q1 q2 r5 r6; omega)]
    have hT := q2M.eq
    have e1 : ovt (ovq M (z + 24) T2) tn tbn u ta x = ovt M tn tbn u ta x := by
      unfold ovt
      by_cases c1 : x = tn
      · rw [if_pos c1, if_pos c1]
      · rw [if_neg c1, if_neg c1]
        by_cases c2 : tbn ≤ x ∧ x < tbn + 10
        · rw [if_pos c2, if_pos c2]
        · rw [if_neg c2, if_neg c2]
          unfold ovq
          by_cases c3 : x = z + 24
          · rw [if_pos c3, c3]; exact q12aM.symm
          · rw [if_neg c3, if_neg x1]
    rw [e1, ← hT]
  refine ⟨rn, bn, tn, tbn, g3, h3, ar3, u, ta, M, g, h, ar, by rw [← hof]; exact e3, by unfold gR gV; rw [hXM]; rfl, by unfold gR gV; rw [hXM]; rfl, by unfold isC; rw [r5M.1]; rfl, l6, R3, q4, l7, q3, ⟨T, hqe⟩, fun g' h' ar' T2 => ?_⟩
  have hz := hk g' h' ar' T2 z (by omega) (by omega)
  have hrk : ∀ x, x ≠ z + 25 → ¬ (z + 59 ≤ x ∧ x < z + 69) → rst (ofc (ovq M (z + 24) T2) (z + 59) (z + 60) tn tbn g' h' ar' u ta) z x = rst M z x := fun x x1 x2 => by
    unfold rst
    by_cases c : z ≤ x ∧ x < z + 180
    · rw [if_pos c, if_pos c, hk g' h' ar' T2 x x1 x2]
    · rw [if_neg c, if_neg c]
  refine ⟨by unfold gR gV; rw [hz, hXM]; rfl, by unfold gR gV; rw [hz, hXM]; rfl, by unfold gR gV; rw [hz, hXM]; rfl, by unfold isC; rw [hz, hXM]; rfl, q1M.kp (fun x hx => hk g' h' ar' T2 x ?_ ?_), cl_tr hC0 (fun x hx => hrk x hx.2 ?_) ⟨t6, g6, h6, a6, r6.kp (fun x hx => hrk x ?_ ?_)⟩ ⟨tn, g', h', ar', ?_, fun j hj => ?_⟩ ⟨T2, ?_⟩, fun x x1 x2 => hk g' h' ar' T2 x x1 x2⟩
  · clear hk hrk q11 q8 q7 hC0; omega
  · clear hk hrk q11 q8 q7 hC0; omega
  · have := hx.1; omega
  · clear hk hrk q11 q8 q7 hC0; omega
  · clear hk hrk q11 q8 q7 hC0; omega
  · rw [rst_in (by omega)]; exact ovr_r _ _ _ _ _ _ _
  · rw [rst_in (by omega)]; exact ovr_a _ _ _ _ _ _ _ (by omega) hj
  · rw [rst_in (by omega)]; exact q_r l7
end TR2
