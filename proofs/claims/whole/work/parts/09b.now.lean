section NOW
variable {z : Nat} {M : Mem} {v : Nat → Nat} {pl : Nat → Option Nat} {nm : Nat → Nat} {H : Nat → rowT} {n sv : Nat} {S : rowT} {inp : Nat → Nat} {len ec : Nat} {eo : Int32} {out : Nat → Nat} {ol : Nat}
/-- the roll that is used, and what the office is when it alone has changed -/
theorem cl_now (hC : CL0 z (rst M z) v pl nm H n sv S inp len ec eo out ol) : isC 5 M z = some () ∧ gR 5 1 M z = some (z + 24) ∧ gR 5 4 M z = some (z + 49) ∧ ∃ r b t tb g h ar u ta, M = ofc M r b t tb g h ar u ta ∧ (∀ g h ar, gR 5 3 (ofc M r b t tb g h ar u ta) z = some r ∧ gR 5 1 (ofc M r b t tb g h ar u ta) z = some (z + 24) ∧ isC 5 (ofc M r b t tb g h ar u ta) z = some ()) ∧ GE r b t tb ∧ RG g h ar v pl ∧ TG u ta v (cdS nm) ∧ ((z < r ∧ r + 1 < z + 49) ∧ (z < b ∧ b + 9 < z + 79) ∧ GQ (z + 24) r b t tb) ∧
    (∀ g' h' ar' v' pl', RG g' h' ar' v' pl' → TG u ta v' (cdS nm) → CL0 z (rst (ofc M r b t tb g' h' ar' u ta) z) v' pl' nm H n sv S inp len ec eo out ol) ∧
    (∀ g' h' ar' T v' pl', RG g' h' ar' v' pl' → TG u ta v' (cdS nm) → CL0 z (rst (ofc (ovq M (z + 24) T) r b t tb g' h' ar' u ta) z) v' pl' nm H n sv S inp len ec eo out ol) ∧
    (∃ T, M = ovq M (z + 24) T) ∧ ∀ g' h' ar' T x, ¬ (z ≤ x ∧ x < z + 180) → ofc M r b t tb g' h' ar' u ta x = M x ∧ ofc (ovq M (z + 24) T) r b t tb g' h' ar' u ta x = M x := by
  obtain ⟨rn, bn, tn, tbn, rr, br, tr, tbr, hn', hW, hX, ⟨g, h, ar, u, ta, q1, q2, q3, q4⟩, q5, q6, q7, q8, q11, q12, q13, q14, q15⟩ := hC
  have hXM : M z = some (.inr (5, flX z rn sv hn' n)) := by rw [← rst_in (M := M) (z := z) (a := z) (by omega)]; exact hX
  have hl : (z ≤ rn ∧ rn < z + 180) ∧ (z ≤ bn ∧ bn + 9 ≤ z + 180) ∧ (z ≤ tn ∧ tn < z + 180) ∧ (z ≤ tbn ∧ tbn + 10 ≤ z + 180) ∧ GE rn bn tn tbn ∧ GQ (z + 24) rn bn tn tbn := by
    unfold WHR at hW
    unfold GE GQ oR oTw
    rcases hW with hW | hW <;> omega
  obtain ⟨l1, l2, l3, l4, l5, l6⟩ := hl
  have hM := (q1.up l1 l2).toF (q2.up l3 l4)
  have hWo : (rn + 1 < z + 49 ∧ z < rn) ∧ (bn + 9 < z + 79 ∧ z < bn) ∧ (tn < z + 79 ∧ z < tn) ∧ (tbn + 10 < z + 79 ∧ z < tbn) ∧ (rr < z + 79 ∧ z < rr) ∧ (br + 9 < z + 79 ∧ z < br) ∧ (tr < z + 79 ∧ z < tr) ∧ (tbr + 10 < z + 79 ∧ z < tbr) := by
    unfold WHR at hW; rcases hW with hW | hW <;> omega
  obtain ⟨T, q12a, q12b⟩ := q12
  have q12aM : M (z + 24) = some (.inr (0, [.ref (z + 25)])) := by rw [← rst_in (M := M) (z := z) (a := z + 24) (by omega)]; exact q12a
  have q12bM : M (z + 25) = some (.inl (0, 40, .inl T)) := by rw [← rst_in (M := M) (z := z) (a := z + 25) (by omega)]; exact q12b
  have hqe : M = ovq M (z + 24) T := by
    funext x; unfold ovq
    by_cases c : x = z + 24
    · rw [if_pos c, c]; exact q12aM
    · rw [if_neg c]
      by_cases c2 : x = z + 24 + 1
      · rw [if_pos c2, c2]; exact q12bM
      · rw [if_neg c2]
  -- a cell of the office that is neither the roll's nor the town's
  have off : ∀ (B : Mem) g' h' ar' x, ¬ (x = rn ∨ (bn ≤ x ∧ x < bn + 9)) → ¬ (x = tn ∨ (tbn ≤ x ∧ x < tbn + 10)) → ofc B rn bn tn tbn g' h' ar' u ta x = B x := fun B g' h' ar' x h1 h2 => ofc_o (by unfold oR; omega) (by unfold oTw; omega)
  have offZ : ∀ g' h' ar', ofc M rn bn tn tbn g' h' ar' u ta z = some (.inr (5, flX z rn sv hn' n)) := fun g' h' ar' => (off M g' h' ar' z (by omega) (by omega)).trans hXM
  refine ⟨by unfold isC; rw [hXM]; rfl, by unfold gR gV; rw [hXM]; rfl, by unfold gR gV; rw [hXM]; rfl, rn, bn, tn, tbn, g, h, ar, u, ta, hM, fun g h ar => ⟨by unfold gR gV; rw [offZ]; rfl, by unfold gR gV; rw [offZ]; rfl, by unfold isC; rw [offZ]; rfl⟩, l5, q3, q4, ⟨by omega, by omega, l6⟩, ?_, ?_, ⟨T, hqe⟩, ?_⟩
  · intro g' h' ar' v' pl' R' T'
    have hk : ∀ x, ¬ (x = rn ∨ (bn ≤ x ∧ x < bn + 9)) → rst (ofc M rn bn tn tbn g' h' ar' u ta) z x = rst M z x := fun x h1 => by
      unfold rst
      by_cases c : z ≤ x ∧ x < z + 180
      · rw [if_pos c, if_pos c]
        have : ofc M rn bn tn tbn g' h' ar' u ta x = ofc M rn bn tn tbn g h ar u ta x := by
          unfold ofc
          rw [ovr_o _ _ _ _ _ _ _ (by unfold oR; omega), ovr_o _ _ _ _ _ _ _ (by unfold oR; omega)]
        rw [this, ← hM]
      · rw [if_neg c, if_neg c]
    have hin : RC (rst (ofc M rn bn tn tbn g' h' ar' u ta) z) rn bn tn g' h' ar' := ⟨(rst_in (by omega)).trans (ovr_r _ _ _ _ _ _ _), fun j hj => (rst_in (by omega)).trans (ovr_a _ _ _ _ _ _ _ l5.1 hj)⟩
    generalize rst (ofc M rn bn tn tbn g' h' ar' u ta) z = N' at hk hin ⊢
    have l5' := l5
    unfold GE at l5'
    have hWo2 : rr ≠ rn ∧ ¬ (bn ≤ rr ∧ rr < bn + 9) ∧ ¬ (br ≤ rn ∧ rn < br + 9) ∧ (br + 9 ≤ bn ∨ bn + 9 ≤ br) ∧ tr ≠ rn ∧ ¬ (bn ≤ tr ∧ tr < bn + 9) ∧ ¬ (tbr ≤ rn ∧ rn < tbr + 10) ∧ (tbr + 10 ≤ bn ∨ bn + 9 ≤ tbr) ∧ rn ≠ z + 24 ∧ rn ≠ z + 25 ∧ rn ≠ z + 26 ∧ rn ≠ z + 27 ∧ rn ≠ z + 1 ∧ rn ≠ z + 2 ∧ ¬ (bn ≤ z + 2) ∧ (bn + 9 ≤ z + 24 ∨ z + 27 < bn) ∧ bn + 9 ≤ z + 49 := by
      unfold WHR at hW; rcases hW with hW | hW <;> omega
    obtain ⟨t5, g5, h5, a5, r5⟩ := q5
    obtain ⟨t6, g6, h6, a6, r6⟩ := q6
    obtain ⟨t7, g7, h7, a7, r7, r7'⟩ := q7
    obtain ⟨q8, f, q9, q10⟩ := q8
    obtain ⟨bt, q13a, q13b, q13c⟩ := q13
    obtain ⟨qq, w, tx, q14a, q14b, q14c⟩ := q14
    obtain ⟨gg, hh2, aa, uu, tt, r15, r16⟩ := q15
    exact ⟨rn, bn, tn, tbn, rr, br, tr, tbr, hn', hW, (hk _ (by omega)).trans hX, ⟨g', h', ar', u, ta, hin, q2.kp (fun x hx => hk x (by omega)), R', T'⟩, ⟨t5, g5, h5, a5, r5.kp (fun x hx => hk x (by omega))⟩, ⟨t6, g6, h6, a6, r6.kp (fun x hx => hk x (by omega))⟩, ⟨t7, g7, h7, a7, r7.kp (fun x hx => hk x (by omega)), r7'⟩, ⟨q8, f, (hk _ (by omega)).trans q9, q10⟩, fun k hk10 => (by
      obtain ⟨t1, g1, h1, a1, s1, s2⟩ := q11 k hk10
      exact ⟨t1, g1, h1, a1, s1.kp (fun x hx => hk x (by omega)), s2⟩), ⟨T, (hk _ (by omega)).trans q12a, (hk _ (by omega)).trans q12b⟩, ⟨bt, (hk _ (by omega)).trans q13a, (hk _ (by omega)).trans q13b, q13c⟩, ⟨qq, w, tx, (hk _ (by omega)).trans q14a, (hk _ (by omega)).trans q14b, q14c⟩, ⟨gg, hh2, aa, uu, tt, r15.kp (fun x hx => hk x (by omega)), r16.kp (fun x hx => hk x (by omega))⟩⟩
  · intro g' h' ar' T2 v' pl' R' T'
    have hk : ∀ x, x ≠ z + 25 → ¬ (x = rn ∨ (bn ≤ x ∧ x < bn + 9)) → rst (ofc (ovq M (z + 24) T2) rn bn tn tbn g' h' ar' u ta) z x = rst M z x := fun x h0 h1 => by
      unfold rst
      by_cases c : z ≤ x ∧ x < z + 180
      · rw [if_pos c, if_pos c]
        have : ofc (ovq M (z + 24) T2) rn bn tn tbn g' h' ar' u ta x = ofc M rn bn tn tbn g h ar u ta x := by
          unfold ofc
          rw [ovr_o _ _ _ _ _ _ _ (by unfold oR; omega), ovr_o _ _ _ _ _ _ _ (by unfold oR; omega)]
          unfold ovt
          by_cases c1 : x = tn
          · rw [if_pos c1, if_pos c1]
          · rw [if_neg c1, if_neg c1]
            by_cases c2 : tbn ≤ x ∧ x < tbn + 10
            · rw [if_pos c2, if_pos c2]
            · rw [if_neg c2, if_neg c2]
              unfold ovq
              by_cases c3 : x = z + 24
              · rw [if_pos c3, c3]; exact q12aM.symm
              · rw [if_neg c3, if_neg (by omega)]
        rw [this, ← hM]
      · rw [if_neg c, if_neg c]
    have hin : RC (rst (ofc (ovq M (z + 24) T2) rn bn tn tbn g' h' ar' u ta) z) rn bn tn g' h' ar' := ⟨(rst_in (by omega)).trans (ovr_r _ _ _ _ _ _ _), fun j hj => (rst_in (by omega)).trans (ovr_a _ _ _ _ _ _ _ l5.1 hj)⟩
    have h25 : rst (ofc (ovq M (z + 24) T2) rn bn tn tbn g' h' ar' u ta) z (z + 25) = some (.inl (0, 40, .inl T2)) := by
      rw [rst_in (by omega)]; exact q_r l6
    generalize rst (ofc (ovq M (z + 24) T2) rn bn tn tbn g' h' ar' u ta) z = N' at hk hin h25 ⊢
    have l5' := l5
    unfold GE at l5'
    have hWo2 : rr ≠ rn ∧ ¬ (bn ≤ rr ∧ rr < bn + 9) ∧ ¬ (br ≤ rn ∧ rn < br + 9) ∧ (br + 9 ≤ bn ∨ bn + 9 ≤ br) ∧ tr ≠ rn ∧ ¬ (bn ≤ tr ∧ tr < bn + 9) ∧ ¬ (tbr ≤ rn ∧ rn < tbr + 10) ∧ (tbr + 10 ≤ bn ∨ bn + 9 ≤ tbr) ∧ rn ≠ z + 24 ∧ rn ≠ z + 25 ∧ rn ≠ z + 26 ∧ rn ≠ z + 27 ∧ rn ≠ z + 1 ∧ rn ≠ z + 2 ∧ ¬ (bn ≤ z + 2) ∧ (bn + 9 ≤ z + 24 ∨ z + 27 < bn) ∧ bn + 9 ≤ z + 49 ∧ (rr < z + 25 ∨ z + 25 < rr) ∧ (br + 9 ≤ z + 25 ∨ z + 25 < br) ∧ (tr < z + 25 ∨ z + 25 < tr) ∧ (tbr + 10 ≤ z + 25 ∨ z + 25 < tbr) ∧ (tn < z + 25 ∨ z + 25 < tn) ∧ (tbn + 10 ≤ z + 25 ∨ z + 25 < tbn) := by
      unfold WHR at hW; rcases hW with hW | hW <;> omega
    obtain ⟨t5, g5, h5, a5, r5⟩ := q5
    obtain ⟨t6, g6, h6, a6, r6⟩ := q6
    obtain ⟨t7, g7, h7, a7, r7, r7'⟩ := q7
    obtain ⟨q8, f, q9, q10⟩ := q8
    obtain ⟨bt, q13a, q13b, q13c⟩ := q13
    obtain ⟨qq, w, tx, q14a, q14b, q14c⟩ := q14
    obtain ⟨gg, hh2, aa, uu, tt, r15, r16⟩ := q15
    exact ⟨rn, bn, tn, tbn, rr, br, tr, tbr, hn', hW, (hk _ (by omega) (by omega)).trans hX, ⟨g', h', ar', u, ta, hin, q2.kp (fun x hx => hk x (by omega) (by omega)), R', T'⟩, ⟨t5, g5, h5, a5, r5.kp (fun x hx => hk x (by omega) (by omega))⟩, ⟨t6, g6, h6, a6, r6.kp (fun x hx => hk x (by omega) (by omega))⟩, ⟨t7, g7, h7, a7, r7.kp (fun x hx => hk x (by omega) (by omega)), r7'⟩, ⟨q8, f, (hk _ (by omega) (by omega)).trans q9, q10⟩, fun k hk10 => (by
      obtain ⟨t1, g1, h1, a1, s1, s2⟩ := q11 k hk10
      exact ⟨t1, g1, h1, a1, s1.kp (fun x hx => hk x (by omega) (by omega)), s2⟩), ⟨T2, (hk _ (by omega) (by omega)).trans q12a, h25⟩, ⟨bt, (hk _ (by omega) (by omega)).trans q13a, (hk _ (by omega) (by omega)).trans q13b, q13c⟩, ⟨qq, w, tx, (hk _ (by omega) (by omega)).trans q14a, (hk _ (by omega) (by omega)).trans q14b, q14c⟩, ⟨gg, hh2, aa, uu, tt, r15.kp (fun x hx => hk x (by omega) (by omega)), r16.kp (fun x hx => hk x (by omega) (by omega))⟩⟩
  · intro g' h' ar' T2 x hx
    refine ⟨off M g' h' ar' x (by omega) (by omega), (off (ovq M (z + 24) T2) g' h' ar' x (by omega) (by omega)).trans ?_⟩
    unfold ovq
    rw [if_neg (by omega), if_neg (by omega)]
end NOW
