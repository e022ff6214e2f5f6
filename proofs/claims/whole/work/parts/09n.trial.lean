/-! the trial rolls -/
section TR
variable {z : Nat} {M : Mem} {v : Nat → Nat} {pl : Nat → Option Nat} {nm : Nat → Nat} {H : Nat → rowT} {n sv : Nat} {S : rowT} {inp : Nat → Nat} {len ec : Nat} {eo : Int32} {out : Nat → Nat} {ol : Nat}
/-- neither the trial rolls nor the queue's row -/
def kp3 (z x : Nat) : Prop := ¬ (z + 49 ≤ x ∧ x < z + 69) ∧ x ≠ z + 25
theorem kp3_all {rn bn tn tbn rr br tr tbr : Nat} (hW : WHR z rn bn tn tbn rr br tr tbr) : (∀ x, x = rr ∨ (br ≤ x ∧ x < br + 9) → kp3 z x) ∧ (∀ x, x = tr ∨ (tbr ≤ x ∧ x < tbr + 10) → kp3 z x) ∧ (∀ x, x = tn ∨ (tbn ≤ x ∧ x < tbn + 10) → kp3 z x) ∧ (∀ x, x = rn ∨ (bn ≤ x ∧ x < bn + 9) → kp3 z x) ∧ (∀ x, z + 69 ≤ x → kp3 z x) ∧ kp3 z z ∧ kp3 z (z + 1) ∧ kp3 z (z + 2) ∧ kp3 z (z + 24) ∧ kp3 z (z + 26) ∧ kp3 z (z + 27) := by
  unfold kp3
  unfold WHR at hW
  rcases hW with ⟨w1, w2, w3, w4, w5, w6, w7, w8⟩ | ⟨w1, w2, w3, w4, w5, w6, w7, w8⟩
  · subst w1 w2 w3 w4 w5 w6 w7 w8
    exact ⟨fun x hx => by omega, fun x hx => by omega, fun x hx => by omega, fun x hx => by omega, fun x hx => by omega, by omega, by omega, by omega, by omega, by omega, by omega⟩
  · subst w1 w2 w3 w4 w5 w6 w7 w8
    exact ⟨fun x hx => by omega, fun x hx => by omega, fun x hx => by omega, fun x hx => by omega, fun x hx => by omega, by omega, by omega, by omega, by omega, by omega, by omega⟩
theorem ge69 {x : Nat} (hx : x = z + 69 ∨ (z + 70 ≤ x ∧ x < z + 70 + 9)) : z + 69 ≤ x := by omega
theorem ge69k {x k : Nat} (hx : x = z + 80 + 10 * k ∨ (z + 81 + 10 * k ≤ x ∧ x < z + 81 + 10 * k + 9)) : z + 69 ≤ x := by omega
theorem cl_tr {N N' : Mem} (hC : CL0 z N v pl nm H n sv S inp len ec eo out ol) (hk : ∀ x, kp3 z x → N' x = N x) (h1 : ∃ t g h ar, RC N' (z + 49) (z + 50) t g h ar) (h2 : ∃ t g h ar, RC N' (z + 59) (z + 60) t g h ar) (h3 : ∃ T, N' (z + 25) = some (.inl (0, 40, .inl T))) : CL0 z N' v pl nm H n sv S inp len ec eo out ol := by
  obtain ⟨rn, bn, tn, tbn, rr, br, tr, tbr, hn', hW, hX, ⟨g, h, ar, u, ta, q1, q2, q3, q4⟩, -, -, ⟨t7, g7, h7, a7, r7, r7'⟩, ⟨q8, f, q9, q10⟩, q11, ⟨T, q12a, q12b⟩, ⟨bt, q13a, q13b, q13c⟩, ⟨qq, w, tx, q14a, q14b, q14c⟩, gg, hh2, aa, uu, tt, r15, r16⟩ := hC
  obtain ⟨T2, h3⟩ := h3
  obtain ⟨k1, k2, k3, k4, k5, k6, k7, k8, k9, k10, k11⟩ := kp3_all hW
  refine ⟨rn, bn, tn, tbn, rr, br, tr, tbr, hn', hW, (hk _ k6).trans hX, ⟨g, h, ar, u, ta, q1.kp (fun x hx => hk x (k4 x hx)), q2.kp (fun x hx => hk x (k3 x hx)), q3, q4⟩, h1, h2, ⟨t7, g7, h7, a7, r7.kp (fun x hx => hk x (k5 x (ge69 hx))), r7'⟩, ⟨q8, f, (hk _ (k5 _ (Nat.add_le_add_left (by decide) z))).trans q9, q10⟩, fun k hk10 => ?_, ⟨T2, (hk _ k9).trans q12a, h3⟩, ⟨bt, (hk _ k10).trans q13a, (hk _ k11).trans q13b, q13c⟩, ⟨qq, w, tx, (hk _ k7).trans q14a, (hk _ k8).trans q14b, q14c⟩, ⟨gg, hh2, aa, uu, tt, r15.kp (fun x hx => hk x (k1 x hx)), r16.kp (fun x hx => hk x (k2 x hx))⟩⟩
  obtain ⟨t1, g1, h1, a1, s1, s2⟩ := q11 k hk10
  exact ⟨t1, g1, h1, a1, s1.kp (fun x hx => hk x (k5 x (ge69k hx))), s2⟩
/-- the roll that is used, copied to the trial roll -/
theorem cl_tri (hI : Inv v pl) (hC : CL0 z (rst M z) v pl nm H n sv S inp len ec eo out ol) : ∃ rn bn tn tbn g h ar u ta M2 g0 h0 ar0, p_X2_copyFrom (z + 49) rn M = some (ofc M2 (z + 49) (z + 50) tn tbn g h ar u ta) ∧ gR 5 3 M z = some rn ∧ gR 5 4 M z = some (z + 49) ∧ isC 2 M (z + 49) = some () ∧ GE (z + 49) (z + 50) tn tbn ∧ RG g h ar v pl ∧ TG u ta v (cdS nm) ∧ GQ (z + 24) (z + 49) (z + 50) tn tbn ∧ RG g0 h0 ar0 v pl ∧ (∃ T, M2 = ovq M2 (z + 24) T) ∧
    ∀ g h ar T, gR 5 3 (ofc (ovq M2 (z + 24) T) (z + 49) (z + 50) tn tbn g h ar u ta) z = some rn ∧ gR 5 4 (ofc (ovq M2 (z + 24) T) (z + 49) (z + 50) tn tbn g h ar u ta) z = some (z + 49) ∧ gR 5 1 (ofc (ovq M2 (z + 24) T) (z + 49) (z + 50) tn tbn g h ar u ta) z = some (z + 24) ∧ isC 5 (ofc (ovq M2 (z + 24) T) (z + 49) (z + 50) tn tbn g h ar u ta) z = some () ∧ RC (ofc (ovq M2 (z + 24) T) (z + 49) (z + 50) tn tbn g h ar u ta) rn bn tn g0 h0 ar0 ∧
      CL0 z (rst (ofc (ovq M2 (z + 24) T) (z + 49) (z + 50) tn tbn g h ar u ta) z) v pl nm H n sv S inp len ec eo out ol ∧ ∀ x, ¬ (z ≤ x ∧ x < z + 180) → ofc (ovq M2 (z + 24) T) (z + 49) (z + 50) tn tbn g h ar u ta x = M x := by
  have hC0 := hC
  obtain ⟨rn, bn, tn, tbn, rr, br, tr, tbr, hn', hW, hX, ⟨g, h, ar, u, ta, q1, q2, q3, q4⟩, ⟨t5, g5, h5, a5, r5⟩, ⟨t6, g6, h6, a6, r6⟩, q7, q8, q11, ⟨T, q12a, q12b⟩, -, -, -⟩ := hC
  have hl : (z < rn ∧ rn < z + 49) ∧ (z < bn ∧ bn + 9 < z + 49 + 1) ∧ (z < tn ∧ tn < z + 49) ∧ (z < tbn ∧ tbn + 10 < z + 49) ∧ AP (z + 49) (z + 50) rn bn ∧ GE (z + 49) (z + 50) tn tbn ∧ GQ (z + 24) (z + 49) (z + 50) tn tbn ∧ (rn ≠ z + 25 ∧ rn ≠ z + 24 ∧ rn ≠ tn ∧ ¬ (tbn ≤ rn ∧ rn < tbn + 10)) ∧ (bn + 9 ≤ z + 24 ∨ z + 25 < bn) ∧ (tn < bn ∨ bn + 9 ≤ tn) ∧ (bn + 9 ≤ tbn ∨ tbn + 10 ≤ bn) := by
    unfold WHR at hW; unfold AP GE GQ oR oTw
    rcases hW with hW | hW <;> omega
  obtain ⟨l1, l2, l3, l4, l5, l6, l7, l8, l9, l10, l11⟩ := hl
  have hXM : M z = some (.inr (5, flX z rn sv hn' n)) := by rw [← rst_in (M := M) (z := z) (a := z) (by omega)]; exact hX
  have q1M := q1.up (M := M) (z := z) ⟨by omega, by omega⟩ ⟨by omega, by omega⟩
  have q2M := q2.up (M := M) (z := z) ⟨by omega, by omega⟩ ⟨by omega, by omega⟩
  have r5M := r5.up (M := M) (z := z) (by omega) (by omega)
  have r6M := r6.up (M := M) (z := z) (by omega) (by omega)
  have q12aM : M (z + 24) = some (.inr (0, [.ref (z + 25)])) := by rw [← rst_in (M := M) (z := z) (a := z + 24) (by omega)]; exact q12a
  have q12bM : M (z + 25) = some (.inl (0, 40, .inl T)) := by rw [← rst_in (M := M) (z := z) (a := z + 25) (by omega)]; exact q12b
  obtain ⟨g3, h3, ar3, e3, R3⟩ := c_copyFrom (t := t5) (g := g5) (h := h5) (ar := a5) l5 q1M q3 hI
  rw [← r5M.eq] at e3
  have hqe : M = ovq M (z + 24) T := by
    funext x; unfold ovq
    by_cases c : x = z + 24
    · rw [if_pos c, c]; exact q12aM
    · rw [if_neg c]
      by_cases c2 : x = z + 24 + 1
      · rw [if_pos c2, c2]; exact q12bM
      · rw [if_neg c2]
  -- the copied memory, as a roll over M
  have hof : ovr M (z + 49) (z + 50) tn g3 h3 ar3 = ofc M (z + 49) (z + 50) tn tbn g3 h3 ar3 u ta := by
    unfold ofc
    rw [← q2M.eq]
  have hk : ∀ g h ar T2 x, x ≠ z + 25 → ¬ (z + 49 ≤ x ∧ x < z + 59) → ofc (ovq M (z + 24) T2) (z + 49) (z + 50) tn tbn g h ar u ta x = M x := fun g h ar T2 x x1 x2 => by
    unfold ofc
    rw [ovr_o _ _ _ _ _ _ _ (by unfold oR; clear q11 q8 q7 hC0 q1 q2 r5 r6; omega)]
    have hT := q2M.eq
    have e1 : ovt (ovq M (z + 24) T2) tn tbn u ta x = ovt M tn tbn u ta x := by
      unfold ovt
      by_cases c1 : x = tn
      · rw [if_pos c1, if_pos c1]
      · rw [if_neg c1, if_neg c1]
        by_cases c2 : tbn ≤ x ∧ x < tbn + 10
        · rw [if_pos c2, if_pos c2]
        · rw [if_neg c2, if_neg c2]
          unfold ovq
          by_cases c3 : x = z + 24
          · rw [if_pos c3, c3]; exact q12aM.symm
          · rw [if_neg c3, if_neg x1]
    rw [e1, ← hT]
  refine ⟨rn, bn, tn, tbn, g3, h3, ar3, u, ta, M, g, h, ar, by rw [← hof]; exact e3, by unfold gR gV; rw [hXM]; rfl, by unfold gR gV; rw [hXM]; rfl, by unfold isC; rw [r5M.1]; rfl, l6, R3, q4, l7, q3, ⟨T, hqe⟩, fun g' h' ar' T2 => ?_⟩
  have hz := hk g' h' ar' T2 z (by omega) (by omega)
  have hrk : ∀ x, x ≠ z + 25 → ¬ (z + 49 ≤ x ∧ x < z + 59) → rst (ofc (ovq M (z + 24) T2) (z + 49) (z + 50) tn tbn g' h' ar' u ta) z x = rst M z x := fun x x1 x2 => by
    unfold rst
    by_cases c : z ≤ x ∧ x < z + 180
    · rw [if_pos c, if_pos c, hk g' h' ar' T2 x x1 x2]
    · rw [if_neg c, if_neg c]
  refine ⟨by unfold gR gV; rw [hz, hXM]; rfl, by unfold gR gV; rw [hz, hXM]; rfl, by unfold gR gV; rw [hz, hXM]; rfl, by unfold isC; rw [hz, hXM]; rfl, q1M.kp (fun x hx => hk g' h' ar' T2 x ?_ ?_), cl_tr hC0 (fun x hx => hrk x hx.2 ?_) ⟨tn, g', h', ar', ?_, fun j hj => ?_⟩ ⟨t6, g6, h6, a6, r6.kp (fun x hx => hrk x ?_ ?_)⟩ ⟨T2, ?_⟩, fun x hx => hk g' h' ar' T2 x (by omega) (by omega)⟩
  · clear hk hrk q11 q8 q7 hC0; omega
  · clear hk hrk q11 q8 q7 hC0; omega
  · have := hx.1; omega
  · rw [rst_in (by omega)]; exact ovr_r _ _ _ _ _ _ _
  · rw [rst_in (by omega)]; exact ovr_a _ _ _ _ _ _ _ (by omega) hj
  · clear hk hrk q11 q8 q7 hC0; omega
  · clear hk hrk q11 q8 q7 hC0; omega
  · rw [rst_in (by omega)]; exact q_r l7
end TR
