/-! loadOffice: the office stands -/
section K2
theorem k2_s (Z : gZ) (L : Nat) (xs : Nat → Int32) (i0 : Int32) (z : Nat) (M : Mem) (hZ : ZI Z) (hO : OFF z M) : ∃ M', pk_2 Z L xs z (z + 180) (z + 194) (z + 195) i0 M = some M' ∧ OFF z M' := by
  obtain ⟨v, pl, nm, H, n, sv, S, inp, len, ec, eo, out, ol, hP, hCL, ⟨B, g, A, hM, hR⟩, ⟨f194, hod1⟩, f195, hod2⟩ := hO
  obtain ⟨rn, bn, tn, tbn, rr, br, tr, tbr, hn, hW, hX, ⟨gn, hhn, arn, un, tan, N1, N2, N3, N4⟩, ⟨t49, g49, h49, a49, r49⟩, ⟨t59, g59, h59, a59, r59⟩, ⟨t69, g69, h69, a69, r69, r69'⟩, ⟨hn10, f79, q79, q79'⟩, r80, ⟨T24, q24, q25⟩, ⟨bt, q26, q27, q27'⟩, ⟨qq, w, tx, d1, d2, d3⟩, ⟨gr, hr, arr, ur, tar, R1, R2⟩⟩ := hCL
  obtain ⟨p1, p2, p3, p4, p5, p6, p7, p8, p9, p10⟩ := hP
  obtain ⟨⟨a1, a2, a3, a4, a5, a6⟩, b1, b2, b3, b4, b5⟩ := hR
  have hXM : M z = some (.inr (5, flX z rn sv hn n)) := (rst_in (M := M) (z := z) (a := z) (by omega)).symm.trans hX
  have d1M : M (z + 1) = some (rc3 (z + 2) (nN len) (nN ec) eo rr (qq 5) (qq 6) (qq 7) (qq 8) (qq 9) (qq 10) w) := (rst_in (M := M) (z := z) (a := z + 1) (by omega)).symm.trans d1
  have d2M : M (z + 2) = some (.inl (1, 900, .inl tx)) := (rst_in (M := M) (z := z) (a := z + 2) (by omega)).symm.trans d2
  have hl : (z + 3 ≤ rr ∧ rr < z + 49) ∧ (z + 3 ≤ br ∧ br + 9 ≤ z + 49) ∧ (z + 3 ≤ tr ∧ tr < z + 49) ∧ (z + 3 ≤ tbr ∧ tbr + 10 ≤ z + 49) ∧ GE rr br tr tbr := by
    unfold WHR at hW; unfold GE
    rcases hW with hW | hW <;> omega
  obtain ⟨l1, l2, l3, l4, hG⟩ := hl
  have hfar : ∀ x, (x < z + 3 ∨ z + 49 ≤ x ∨ (z + 24 ≤ x ∧ x < z + 28)) → oR rr br x ∧ oTw tr tbr x := fun x hx => by
    unfold WHR at hW; unfold oR oTw
    rcases hW with hW | hW <;> omega
  have hnow : ∀ x, ((x = rn ∨ (bn ≤ x ∧ x < bn + 9)) ∨ (x = tn ∨ (tbn ≤ x ∧ x < tbn + 10))) → (z + 3 ≤ x ∧ x < z + 49) ∧ oR rr br x ∧ oTw tr tbr x := fun x hx => by
    unfold WHR at hW; unfold oR oTw
    rcases hW with hW | hW <;> omega
  have R1M := R1.up (M := M) (z := z) ⟨by omega, by omega⟩ ⟨by omega, by omega⟩
  have R2M := R2.up (M := M) (z := z) ⟨by omega, by omega⟩ ⟨by omega, by omega⟩
  have hMo : M = ofc M rr br tr tbr gr hr arr ur tar := R1M.toF R2M
  have hCH : CH Z inp len M rr br tr tbr (z + 1) (z + 2) := ⟨hG, by omega, hfar _ (Or.inl (by omega)), hfar _ (Or.inl (by omega)), ⟨tx, d2M, d3, p6, p7⟩, hZ⟩
  have cl := c_load (nm := nmX (A 6) nm) hCH (hfar z (Or.inl (by omega))) hMo p6 hXM d1M
  have hSI := txt_SI (f := inp) (n := len) len (fun _ => 0) (nmX (A 6) nm) 0 (nxN inp len 0) (SI_0 (nxN_b (f := inp) (n := len) (p := 0) (Nat.zero_le _)).2) (by omega)
  have rl := fun N => r_load (B := N) (m := z + 180) (g := g) (A := A) (v := v) (nm := nm) (pl := pl) (f := inp) (n := len) p1.2.1 a3 b4 p6 p7 b3
  have e5 : isC 5 M z = some () := by unfold isC; rw [hXM]; rfl
  have hNo : ∀ N : Mem, (∀ y, y ≠ z → y ≠ z + 1 → oR rr br y → oTw tr tbr y → N y = M y) → N = ovl N (z + 180) g (up2 A 1 (enc v pl)) := fun N hN => ovl_re (B := B) (fun x x1 x2 => by
    have := hfar x (Or.inr (Or.inl (by omega)))
    rw [hN x (by omega) (by omega) this.1 this.2, hM])
  have hk : ∀ (N : Mem) (g' : Nat → Int32) (A' : Nat → Nat → Int32), (∀ y, y ≠ z → y ≠ z + 1 → oR rr br y → oTw tr tbr y → N y = M y) → ∀ x, z + 2 ≤ x → x < z + 180 → oR rr br x → oTw tr tbr x → rst (ovl N (z + 180) g' A') z x = rst M z x := fun N g' A' hN x x1 x2 x3 x4 => by
    rw [rst_in ⟨by omega, x2⟩, rst_in ⟨by omega, x2⟩, ovl_o _ _ _ _ (by omega)]
    exact hN x (by omega) (by omega) x3 x4
  have hkN : ∀ (N : Mem) (g' : Nat → Int32) (A' : Nat → Nat → Int32) x, z ≤ x → x < z + 180 → rst (ovl N (z + 180) g' A') z x = N x := fun N g' A' x x1 x2 => by
    rw [rst_in ⟨x1, x2⟩, ovl_o _ _ _ _ (by omega)]
  have hnw : ∀ x, (x = rr ∨ (br ≤ x ∧ x < br + 9)) ∨ (x = tr ∨ (tbr ≤ x ∧ x < tbr + 10)) → z ≤ x ∧ x < z + 180 := fun x hx => by omega
  unfold pk_2
  rw [e5, bS]
  generalize txtS inp len len (fun _ => 0) (nmX (A 6) nm) 0 (nxN inp len 0) = x at cl hSI rl
  cases x with
  | inl e =>
    obtain ⟨N, g2, h2, ar2, u2, ta2, b5', b6', b7', kd', st', en', w', c1, c2, c3, c4, c5, c6⟩ := cl
    obtain ⟨g', A', r1, ⟨k5, k6, k12, k13, k14, k27⟩, kA5, kA4, kA13, kA6⟩ := rl N
    rw [← hNo N c6] at r1
    have e6 : isC 6 N (z + 180) = some () := by rw [hNo N c6]; exact oc _ _ _ _
    have kk := hk N g' (up2 A' 1 (enc v pl)) c6
    have kn := hkN N g' (up2 A' 1 (enc v pl))
    have kf := fun x (h1 : z + 49 ≤ x) (h2 : x < z + 180) => kk x (by omega) h2 (hfar x (Or.inr (Or.inl h1))).1 (hfar x (Or.inr (Or.inl h1))).2
    have km := fun x (h1 : z + 24 ≤ x) (h2 : x < z + 28) => kk x (by omega) (by omega) (hfar x (Or.inr (Or.inr ⟨h1, h2⟩))).1 (hfar x (Or.inr (Or.inr ⟨h1, h2⟩))).2
    have kw := fun x hx => kk x (by have := (hnow x hx).1; omega) (by have := (hnow x hx).1; omega) (hnow x hx).2.1 (hnow x hx).2.2
    refine ⟨ovl N (z + 180) g' (up2 A' 1 (enc v pl)), ?_, v, pl, nm, H, n, sv, S, inp, 0, e.1, nN e.2, out, ol, ⟨p1, p2, p3, p4, p5, by omega, fun i hi => absurd hi (Nat.not_lt_zero _), p8, p9, p10⟩, ?_, ⟨N, g', A', rfl, ⟨k5.trans a1, k6.trans a2, k12, k13, k14, k27.trans a6⟩, fun k hk i hi => by rw [kA5]; exact b1 k hk i hi, fun hs i hi => by rw [kA4]; exact b2 hs i hi, kA6, fun i hi => absurd hi (Nat.not_lt_zero _), fun i hi => by rw [kA13]; exact b5 i hi⟩, ⟨f194, ?_⟩, f195, ?_⟩
    · rw [c1, ob2_def, e6, bS, r1, ob2_def, if_pos rfl]
    · refine ⟨rn, bn, tn, tbn, rr, br, tr, tbr, hn, hW, (kn z (by omega) (by omega)).trans (c5.trans hXM), ⟨gn, hhn, arn, un, tan, N1.kp (fun x hx => kw x (Or.inl hx)), N2.kp (fun x hx => kw x (Or.inr hx)), N3, N4⟩, ⟨t49, g49, h49, a49, r49.kp (fun x hx => kf x (by omega) (by omega))⟩, ⟨t59, g59, h59, a59, r59.kp (fun x hx => kf x (by omega) (by omega))⟩, ⟨t69, g69, h69, a69, r69.kp (fun x hx => kf x (by omega) (by omega)), r69'⟩, ⟨hn10, f79, (kf _ (by omega) (by omega)).trans q79, q79'⟩, fun k hk10 => ?_, ⟨T24, (km _ (by omega) (by omega)).trans q24, (km _ (by omega) (by omega)).trans q25⟩, ⟨bt, (km _ (by omega) (by omega)).trans q26, (km _ (by omega) (by omega)).trans q27, q27'⟩, ⟨fun i => if i = 5 then b5' else if i = 6 then b6' else if i = 7 then b7' else if i = 8 then kd' else if i = 9 then st' else en', w', tx, (kn (z + 1) (by omega) (by omega)).trans c4, (kk (z + 2) (by omega) (by omega) (hfar _ (Or.inl (by omega))).1 (hfar _ (Or.inl (by omega))).2).trans d2, fun i hi => absurd hi (Nat.not_lt_zero _)⟩, ⟨g2, h2, ar2, u2, ta2, c2.kp (fun x hx => kn x (by omega) (by omega)), c3.kp (fun x hx => kn x (by omega) (by omega))⟩⟩
      obtain ⟨t, g, h, ar, q1, q2⟩ := r80 k hk10
      exact ⟨t, g, h, ar, q1.kp (fun x hx => kf x (by omega) (by omega)), q2⟩
    · have := hfar (z + 194) (Or.inr (Or.inl (by omega)))
      rw [ovl_o _ _ _ _ (by omega), c6 _ (by omega) (by omega) this.1 this.2]; exact hod1
    · have := hfar (z + 195) (Or.inr (Or.inl (by omega)))
      rw [ovl_o _ _ _ _ (by omega), c6 _ (by omega) (by omega) this.1 this.2]; exact hod2
  | inr Y =>
    have hY := hSI Y rfl
    obtain ⟨N, g2, h2, ar2, u2, ta2, b5', b6', b7', kd', st', en', w', c1, c2, c3, cr, c4, c5, c6⟩ := cl
    obtain ⟨g', A', r1, ⟨k5, k6, k12, k13, k14, k27⟩, kA13, kA6⟩ := rl N
    rw [← hNo N c6] at r1
    have e6 : isC 6 N (z + 180) = some () := by rw [hNo N c6]; exact oc _ _ _ _
    have kk := hk N g' (up2 A' 1 (enc Y.1 (fun _ => none))) c6
    have kn := hkN N g' (up2 A' 1 (enc Y.1 (fun _ => none)))
    have kf := fun x (h1 : z + 49 ≤ x) (h2 : x < z + 180) => kk x (by omega) h2 (hfar x (Or.inr (Or.inl h1))).1 (hfar x (Or.inr (Or.inl h1))).2
    have km := fun x (h1 : z + 24 ≤ x) (h2 : x < z + 28) => kk x (by omega) (by omega) (hfar x (Or.inr (Or.inr ⟨h1, h2⟩))).1 (hfar x (Or.inr (Or.inr ⟨h1, h2⟩))).2
    have kw := fun x hx => kk x (by have := (hnow x hx).1; omega) (by have := (hnow x hx).1; omega) (hnow x hx).2.1 (hnow x hx).2.2
    refine ⟨ovl N (z + 180) g' (up2 A' 1 (enc Y.1 (fun _ => none))), ?_, Y.1, fun _ => none, Y.2.1, H, 0, 0, S, inp, 0, 0, -1, out, ol, ⟨⟨hY.inv, hY.big, fil_fst (fil_8 hY.z8), sameT.r _⟩, by omega, by omega, fun j hj => absurd hj (Nat.not_lt_zero _), fun e => absurd e (by decide), by omega, fun i hi => absurd hi (Nat.not_lt_zero _), p8, p9, hY.nms⟩, ?_, ⟨N, g', A', rfl, ⟨k5, k6, k12, k13, k14, k27.trans a6⟩, fun k hk => absurd hk (Nat.not_lt_zero _), fun e => absurd e (by decide), kA6, fun i hi => absurd hi (Nat.not_lt_zero _), fun i hi => by rw [kA13]; exact b5 i hi⟩, ⟨f194, ?_⟩, f195, ?_⟩
    · rw [c1, ob2_def, e6, bS, r1, ob2_def, if_pos rfl]
    · refine ⟨rr, br, tr, tbr, rn, bn, tn, tbn, hn, ?_, (kn z (by omega) (by omega)).trans c5, ⟨g2, h2, ar2, u2, ta2, c2.kp (fun x hx => kn x (by omega) (by omega)), c3.kp (fun x hx => kn x (by omega) (by omega)), cr.1, cr.2.1⟩, ⟨t49, g49, h49, a49, r49.kp (fun x hx => kf x (by omega) (by omega))⟩, ⟨t59, g59, h59, a59, r59.kp (fun x hx => kf x (by omega) (by omega))⟩, ⟨t69, g69, h69, a69, r69.kp (fun x hx => kf x (by omega) (by omega)), fun e => absurd e (by decide)⟩, ⟨hn10, f79, (kf _ (by omega) (by omega)).trans q79, q79'⟩, fun k hk10 => ?_, ⟨T24, (km _ (by omega) (by omega)).trans q24, (km _ (by omega) (by omega)).trans q25⟩, ⟨bt, (km _ (by omega) (by omega)).trans q26, (km _ (by omega) (by omega)).trans q27, q27'⟩, ⟨fun i => if i = 5 then b5' else if i = 6 then b6' else if i = 7 then b7' else if i = 8 then kd' else if i = 9 then st' else en', w', tx, (kn (z + 1) (by omega) (by omega)).trans c4, (kk (z + 2) (by omega) (by omega) (hfar _ (Or.inl (by omega))).1 (hfar _ (Or.inl (by omega))).2).trans d2, fun i hi => absurd hi (Nat.not_lt_zero _)⟩, ⟨gn, hhn, arn, un, tan, N1.kp (fun x hx => kw x (Or.inl hx)), N2.kp (fun x hx => kw x (Or.inr hx))⟩⟩
      · unfold WHR at hW ⊢
        rcases hW with hW | hW
        · exact Or.inr ⟨by omega, by omega, by omega, by omega, by omega, by omega, by omega, by omega⟩
        · exact Or.inl ⟨by omega, by omega, by omega, by omega, by omega, by omega, by omega, by omega⟩
      · obtain ⟨t, g, h, ar, q1, q2⟩ := r80 k hk10
        exact ⟨t, g, h, ar, q1.kp (fun x hx => kf x (by omega) (by omega)), fun j hj => absurd hj (Nat.not_lt_zero _)⟩
    · have := hfar (z + 194) (Or.inr (Or.inl (by omega)))
      rw [ovl_o _ _ _ _ (by omega), c6 _ (by omega) (by omega) this.1 this.2]; exact hod1
    · have := hfar (z + 195) (Or.inr (Or.inl (by omega)))
      rw [ovl_o _ _ _ _ (by omega), c6 _ (by omega) (by omega) this.1 this.2]; exact hod2
end K2
