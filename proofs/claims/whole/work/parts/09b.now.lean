theorem nOR {x r b n : Nat} (h : ¬ (x = r ∨ (b ≤ x ∧ x < b + n))) : x ≠ r ∧ (x < b ∨ b + n ≤ x) := by omega
theorem ge49 {z x k : Nat} (hk : 49 ≤ k) (hx : x = z + k ∨ (z + (k + 1) ≤ x ∧ x < z + (k + 1) + 9)) : z + 49 ≤ x := by omega
theorem ge80 {z x k : Nat} (hx : x = z + 80 + 10 * k ∨ (z + 81 + 10 * k ≤ x ∧ x < z + 81 + 10 * k + 9)) : z + 49 ≤ x := by omega
theorem in180 {z b j : Nat} (h : z ≤ b ∧ b + 9 ≤ z + 180) (hj : j < 9) : z ≤ b + j ∧ b + j < z + 180 := by omega
theorem n25 {z r b t tb : Nat} (h : GQ (z + 24) r b t tb) : ¬ (z + 25 = r ∨ (b ≤ z + 25 ∧ z + 25 < b + 9)) := by
  unfold GQ oR oTw at h; omega
theorem n180 {z r b x : Nat} (hx : ¬ (z ≤ x ∧ x < z + 180)) (h1 : z ≤ r ∧ r < z + 180) (h2 : z ≤ b ∧ b + 9 ≤ z + 180) : ¬ (x = r ∨ (b ≤ x ∧ x < b + 9)) := by omega
theorem n180' {z x : Nat} (hx : ¬ (z ≤ x ∧ x < z + 180)) : x ≠ z + 25 := by omega
/-- the cells that a change of the roll leaves -/
def kpZ (z rn bn x : Nat) : Prop := x ≠ z + 25 ∧ ¬ (x = rn ∨ (bn ≤ x ∧ x < bn + 9))
theorem kp_all {z rn bn tn tbn rr br tr tbr : Nat} (hW : WHR z rn bn tn tbn rr br tr tbr) : (∀ x, x = rr ∨ (br ≤ x ∧ x < br + 9) → kpZ z rn bn x) ∧ (∀ x, x = tr ∨ (tbr ≤ x ∧ x < tbr + 10) → kpZ z rn bn x) ∧ (∀ x, x = tn ∨ (tbn ≤ x ∧ x < tbn + 10) → kpZ z rn bn x) ∧ (∀ x, z + 49 ≤ x → kpZ z rn bn x) ∧ kpZ z rn bn z ∧ kpZ z rn bn (z + 1) ∧ kpZ z rn bn (z + 2) ∧ kpZ z rn bn (z + 24) ∧ kpZ z rn bn (z + 26) ∧ kpZ z rn bn (z + 27) := by
  unfold kpZ
  unfold WHR at hW
  rcases hW with ⟨w1, w2, w3, w4, w5, w6, w7, w8⟩ | ⟨w1, w2, w3, w4, w5, w6, w7, w8⟩
  · subst w1 w2 w3 w4 w5 w6 w7 w8
    exact ⟨fun x hx => by omega, fun x hx => by omega, fun x hx => by omega, fun x hx => by omega, by omega, by omega, by omega, by omega, by omega, by omega⟩
  · subst w1 w2 w3 w4 w5 w6 w7 w8
    exact ⟨fun x hx => by omega, fun x hx => by omega, fun x hx => by omega, fun x hx => by omega, by omega, by omega, by omega, by omega, by omega, by omega⟩
section NOW
variable {z : Nat} {M : Mem} {v : Nat → Nat} {pl : Nat → Option Nat} {nm : Nat → Nat} {H : Nat → rowT} {n sv : Nat} {S : rowT} {inp : Nat → Nat} {len ec : Nat} {eo : Int32} {out : Nat → Nat} {ol : Nat}
/-- the office with another roll at its place -/
theorem cl_put {N : Mem} (hC : CL0 z N v pl nm H n sv S inp len ec eo out ol) : ∃ rn bn tn tbn rr br tr tbr hn', WHR z rn bn tn tbn rr br tr tbr ∧ N z = some (.inr (5, flX z rn sv hn' n)) ∧ (∃ T, N (z + 24) = some (.inr (0, [.ref (z + 25)])) ∧ N (z + 25) = some (.inl (0, 40, .inl T))) ∧ ∃ g h ar u ta, RC N rn bn tn g h ar ∧ TC N tn tbn u ta ∧ RG g h ar v pl ∧ TG u ta v (cdS nm) ∧
    ∀ N' g' h' ar' T2 v' pl', (∀ x, kpZ z rn bn x → N' x = N x) → RC N' rn bn tn g' h' ar' → N' (z + 25) = some (.inl (0, 40, .inl T2)) → RG g' h' ar' v' pl' → TG u ta v' (cdS nm) → CL0 z N' v' pl' nm H n sv S inp len ec eo out ol := by
  obtain ⟨rn, bn, tn, tbn, rr, br, tr, tbr, hn', hW, hX, ⟨g, h, ar, u, ta, q1, q2, q3, q4⟩, ⟨t5, g5, h5, a5, r5⟩, ⟨t6, g6, h6, a6, r6⟩, ⟨t7, g7, h7, a7, r7, r7'⟩, ⟨q8, f, q9, q10⟩, q11, ⟨T, q12a, q12b⟩, ⟨bt, q13a, q13b, q13c⟩, ⟨qq, w, tx, q14a, q14b, q14c⟩, gg, hh2, aa, uu, tt, r15, r16⟩ := hC
  refine ⟨rn, bn, tn, tbn, rr, br, tr, tbr, hn', hW, hX, ⟨T, q12a, q12b⟩, g, h, ar, u, ta, q1, q2, q3, q4, fun N' g' h' ar' T2 v' pl' hk hin h25 R' T' => ?_⟩
  obtain ⟨k1, k2, k3, k4, k5, k6, k7, k8, k9, k10⟩ := kp_all hW
  have c49 : ∀ x, (x = z + 49 ∨ (z + 50 ≤ x ∧ x < z + 50 + 9)) → N' x = N x := fun x hx => hk x (k4 x (ge49 (k := 49) (by decide) hx))
  have c59 : ∀ x, (x = z + 59 ∨ (z + 60 ≤ x ∧ x < z + 60 + 9)) → N' x = N x := fun x hx => hk x (k4 x (ge49 (k := 59) (by decide) hx))
  have c69 : ∀ x, (x = z + 69 ∨ (z + 70 ≤ x ∧ x < z + 70 + 9)) → N' x = N x := fun x hx => hk x (k4 x (ge49 (k := 69) (by decide) hx))
  refine ⟨rn, bn, tn, tbn, rr, br, tr, tbr, hn', hW, (hk _ k5).trans hX, ⟨g', h', ar', u, ta, hin, q2.kp (fun x hx => hk x (k3 x hx)), R', T'⟩, ⟨t5, g5, h5, a5, r5.kp c49⟩, ⟨t6, g6, h6, a6, r6.kp c59⟩, ⟨t7, g7, h7, a7, r7.kp c69, r7'⟩, ⟨q8, f, (hk _ (k4 _ (Nat.add_le_add_left (by decide) z))).trans q9, q10⟩, fun k hk10 => ?_, ⟨T2, (hk _ k8).trans q12a, h25⟩, ⟨bt, (hk _ k9).trans q13a, (hk _ k10).trans q13b, q13c⟩, ⟨qq, w, tx, (hk _ k6).trans q14a, (hk _ k7).trans q14b, q14c⟩, ⟨gg, hh2, aa, uu, tt, r15.kp (fun x hx => hk x (k1 x hx)), r16.kp (fun x hx => hk x (k2 x hx))⟩⟩
  obtain ⟨t1, g1, h1, a1, s1, s2⟩ := q11 k hk10
  exact ⟨t1, g1, h1, a1, s1.kp (fun x hx => hk x (k4 x (ge80 hx))), s2⟩
/-- the roll that is used, and what the office is when it alone has changed -/
theorem cl_now (hC : CL0 z (rst M z) v pl nm H n sv S inp len ec eo out ol) : isC 5 M z = some () ∧ gR 5 1 M z = some (z + 24) ∧ gR 5 4 M z = some (z + 49) ∧ ∃ r b t tb g h ar u ta, M = ofc M r b t tb g h ar u ta ∧ (∀ g h ar, gR 5 3 (ofc M r b t tb g h ar u ta) z = some r ∧ gR 5 1 (ofc M r b t tb g h ar u ta) z = some (z + 24) ∧ isC 5 (ofc M r b t tb g h ar u ta) z = some () ∧ ∀ T, gR 5 3 (ofc (ovq M (z + 24) T) r b t tb g h ar u ta) z = some r) ∧ GE r b t tb ∧ RG g h ar v pl ∧ TG u ta v (cdS nm) ∧ ((z < r ∧ r + 1 < z + 49) ∧ (z < b ∧ b + 9 < z + 79) ∧ GQ (z + 24) r b t tb) ∧
    (∀ g' h' ar' v' pl', RG g' h' ar' v' pl' → TG u ta v' (cdS nm) → CL0 z (rst (ofc M r b t tb g' h' ar' u ta) z) v' pl' nm H n sv S inp len ec eo out ol) ∧
    (∀ g' h' ar' T v' pl', RG g' h' ar' v' pl' → TG u ta v' (cdS nm) → CL0 z (rst (ofc (ovq M (z + 24) T) r b t tb g' h' ar' u ta) z) v' pl' nm H n sv S inp len ec eo out ol) ∧
    (∃ T, M = ovq M (z + 24) T) ∧ ∀ g' h' ar' T x, ¬ (z ≤ x ∧ x < z + 180) → ofc M r b t tb g' h' ar' u ta x = M x ∧ ofc (ovq M (z + 24) T) r b t tb g' h' ar' u ta x = M x := by
  obtain ⟨rn, bn, tn, tbn, rr, br, tr, tbr, hn', hW, hX, ⟨T, q12a, q12b⟩, g, h, ar, u, ta, q1, q2, q3, q4, put⟩ := cl_put hC
  have hXM : M z = some (.inr (5, flX z rn sv hn' n)) := by rw [← rst_in (M := M) (z := z) (a := z) (by omega)]; exact hX
  have hl : (z ≤ rn ∧ rn < z + 180) ∧ (z ≤ bn ∧ bn + 9 ≤ z + 180) ∧ (z ≤ tn ∧ tn < z + 180) ∧ (z ≤ tbn ∧ tbn + 10 ≤ z + 180) ∧ GE rn bn tn tbn ∧ GQ (z + 24) rn bn tn tbn ∧ (z < rn ∧ rn + 1 < z + 49) ∧ (z < bn ∧ bn + 9 < z + 79) ∧ (z < tn ∧ z < tbn) := by
    unfold WHR at hW
    unfold GE GQ oR oTw
    rcases hW with hW | hW <;> omega
  obtain ⟨l1, l2, l3, l4, l5, l6, l7, l8, l9⟩ := hl
  have hM := (q1.up l1 l2).toF (q2.up l3 l4)
  have q12aM : M (z + 24) = some (.inr (0, [.ref (z + 25)])) := by rw [← rst_in (M := M) (z := z) (a := z + 24) (by omega)]; exact q12a
  have q12bM : M (z + 25) = some (.inl (0, 40, .inl T)) := by rw [← rst_in (M := M) (z := z) (a := z + 25) (by omega)]; exact q12b
  have hqe : M = ovq M (z + 24) T := by
    funext x; unfold ovq
    by_cases c : x = z + 24
    · rw [if_pos c, c]; exact q12aM
    · rw [if_neg c]
      by_cases c2 : x = z + 24 + 1
      · rw [if_pos c2, c2]; exact q12bM
      · rw [if_neg c2]
  clear hW hC
  have off : ∀ (B : Mem) g' h' ar' x, ¬ (x = rn ∨ (bn ≤ x ∧ x < bn + 9)) → ¬ (x = tn ∨ (tbn ≤ x ∧ x < tbn + 10)) → ofc B rn bn tn tbn g' h' ar' u ta x = B x := fun B g' h' ar' x h1 h2 => ofc_o (by unfold oR; exact nOR h1) (by unfold oTw; exact nOR h2)
  have offZ : ∀ g' h' ar', ofc M rn bn tn tbn g' h' ar' u ta z = some (.inr (5, flX z rn sv hn' n)) := fun g' h' ar' => (off M g' h' ar' z (by omega) (by omega)).trans hXM
  -- the same cells outside the roll and the queue's row
  have hk1 : ∀ g' h' ar' x, ¬ (x = rn ∨ (bn ≤ x ∧ x < bn + 9)) → ofc M rn bn tn tbn g' h' ar' u ta x = M x := fun g' h' ar' x h1 => by
    have e1 : ofc M rn bn tn tbn g' h' ar' u ta x = ofc M rn bn tn tbn g h ar u ta x := by
      unfold ofc
      rw [ovr_o _ _ _ _ _ _ _ (by unfold oR; exact nOR h1), ovr_o _ _ _ _ _ _ _ (by unfold oR; exact nOR h1)]
    rw [e1, ← hM]
  have hk2 : ∀ g' h' ar' T2 x, x ≠ z + 25 → ¬ (x = rn ∨ (bn ≤ x ∧ x < bn + 9)) → ofc (ovq M (z + 24) T2) rn bn tn tbn g' h' ar' u ta x = M x := fun g' h' ar' T2 x h0 h1 => by
    rw [← hk1 g' h' ar' x h1]
    unfold ofc
    rw [ovr_o _ _ _ _ _ _ _ (by unfold oR; exact nOR h1), ovr_o _ _ _ _ _ _ _ (by unfold oR; exact nOR h1)]
    unfold ovt
    by_cases c1 : x = tn
    · rw [if_pos c1, if_pos c1]
    · rw [if_neg c1, if_neg c1]
      by_cases c2 : tbn ≤ x ∧ x < tbn + 10
      · rw [if_pos c2, if_pos c2]
      · rw [if_neg c2, if_neg c2]
        unfold ovq
        by_cases c3 : x = z + 24
        · rw [if_pos c3, c3]; exact q12aM.symm
        · rw [if_neg c3, if_neg h0]
  have rk : ∀ (A : Mem) x, A x = M x → rst A z x = rst M z x := fun A x e => by
    unfold rst
    by_cases c : z ≤ x ∧ x < z + 180
    · rw [if_pos c, if_pos c, e]
    · rw [if_neg c, if_neg c]
  have hin : ∀ (B : Mem) g' h' ar', RC (rst (ofc B rn bn tn tbn g' h' ar' u ta) z) rn bn tn g' h' ar' := fun B g' h' ar' => ⟨(rst_in l1).trans (ovr_r _ _ _ _ _ _ _), fun j hj => (rst_in (in180 l2 hj)).trans (ovr_a _ _ _ _ _ _ _ l5.1 hj)⟩
  refine ⟨by unfold isC; rw [hXM]; rfl, by unfold gR gV; rw [hXM]; rfl, by unfold gR gV; rw [hXM]; rfl, rn, bn, tn, tbn, g, h, ar, u, ta, hM, fun g h ar => ⟨by unfold gR gV; rw [offZ]; rfl, by unfold gR gV; rw [offZ]; rfl, by unfold isC; rw [offZ]; rfl, fun T2 => by unfold gR gV; rw [hk2 g h ar T2 z (by omega) (by omega), hXM]; rfl⟩, l5, q3, q4, ⟨l7, l8, l6⟩, ?_, ?_, ⟨T, hqe⟩, ?_⟩
  · intro g' h' ar' v' pl' R' T'
    refine put _ g' h' ar' T v' pl' (fun x hx => rk _ x (hk1 g' h' ar' x hx.2)) (hin M g' h' ar') ?_ R' T'
    rw [rk _ _ (hk1 g' h' ar' (z + 25) (n25 l6))]; exact q12b
  · intro g' h' ar' T2 v' pl' R' T'
    refine put _ g' h' ar' T2 v' pl' (fun x hx => rk _ x (hk2 g' h' ar' T2 x hx.1 hx.2)) (hin _ g' h' ar') ?_ R' T'
    rw [rst_in (by omega)]; exact q_r l6
  · intro g' h' ar' T2 x hx
    exact ⟨hk1 g' h' ar' x (n180 hx l1 l2), hk2 g' h' ar' T2 x (n180' hx) (n180 hx l1 l2)⟩
end NOW
