/-! the law's step and its loop -/
section LP
variable {L : Nat} {xs : Nat → Int32} {i0 : Int32} {x : Nat → Int32} {z : Nat} {M : Mem}
def K2S : Prop := ∀ (Z : gZ) (L : Nat) (xs : Nat → Int32) (i0 : Int32) (z : Nat) (M : Mem), ZI Z → OFF z M → ∃ M', pk_2 Z L xs z (z + 180) (z + 194) (z + 195) i0 M = some M' ∧ OFF z M'

theorem w57 : ∀ k : Fin 58, nN k.val = (0 : Int32) ∨ nN k.val = (1 : Int32) ∨ nN k.val = (2 : Int32) ∨ nN k.val = (3 : Int32) ∨ nN k.val = (4 : Int32) ∨ nN k.val = (5 : Int32) ∨ nN k.val = (6 : Int32) ∨ nN k.val = (7 : Int32) ∨ nN k.val = (8 : Int32) ∨ nN k.val = (9 : Int32) ∨ nN k.val = (10 : Int32) ∨ nN k.val = (11 : Int32) ∨ nN k.val = (12 : Int32) ∨ nN k.val = (13 : Int32) ∨ nN k.val = (14 : Int32) ∨ nN k.val = (15 : Int32) ∨ nN k.val = (16 : Int32) ∨ nN k.val = (17 : Int32) ∨ nN k.val = (18 : Int32) ∨ nN k.val = (19 : Int32) ∨ nN k.val = (20 : Int32) ∨ nN k.val = (21 : Int32) ∨ nN k.val = (22 : Int32) ∨ nN k.val = (23 : Int32) ∨ nN k.val = (24 : Int32) ∨ nN k.val = (25 : Int32) ∨ nN k.val = (26 : Int32) ∨ nN k.val = (27 : Int32) ∨ nN k.val = (28 : Int32) ∨ nN k.val = (29 : Int32) ∨ nN k.val = (30 : Int32) ∨ nN k.val = (31 : Int32) ∨ nN k.val = (32 : Int32) ∨ nN k.val = (33 : Int32) ∨ nN k.val = (34 : Int32) ∨ nN k.val = (35 : Int32) ∨ nN k.val = (36 : Int32) ∨ nN k.val = (37 : Int32) ∨ nN k.val = (38 : Int32) ∨ nN k.val = (39 : Int32) ∨ nN k.val = (40 : Int32) ∨ nN k.val = (41 : Int32) ∨ nN k.val = (42 : Int32) ∨ nN k.val = (43 : Int32) ∨ nN k.val = (44 : Int32) ∨ nN k.val = (45 : Int32) ∨ nN k.val = (46 : Int32) ∨ nN k.val = (47 : Int32) ∨ nN k.val = (48 : Int32) ∨ nN k.val = (49 : Int32) ∨ nN k.val = (50 : Int32) ∨ nN k.val = (51 : Int32) ∨ nN k.val = (52 : Int32) ∨ nN k.val = (53 : Int32) ∨ nN k.val = (54 : Int32) ∨ nN k.val = (55 : Int32) ∨ nN k.val = (56 : Int32) ∨ nN k.val = (57 : Int32) := by decide
theorem s_all (hFL : FLT) (hK : K2S) {Z : gZ} (hZ : ZI Z) (hO : OFF z M) (hx : xIs L xs i0 x) : ∃ M', p_step Z L xs z (z + 180) (z + 194) (z + 195) i0 M = some M' ∧ OFF z M' := by
  have hx0 := hx.1
  unfold p_step
  rw [hx0, bS]
  by_cases hr : Int32.toInt (x 0 &&& (63 : Int32)) < 0 ∨ 57 < Int32.toInt (x 0 &&& (63 : Int32))
  · rw [if_pos hr]; exact ⟨M, rfl, hO⟩
  rw [if_neg hr]
  obtain ⟨k, hk, hw⟩ : ∃ k, k < 58 ∧ x 0 &&& (63 : Int32) = nN k := ⟨(Int32.toInt (x 0 &&& (63 : Int32))).toNat, by omega, nN_of (by omega)⟩
  rw [hw]
  clear hr
  by_cases h0 : nN k = (0 : Int32)
  · rw [if_pos h0]; exact k_0 hO hx
  rw [if_neg h0]
  by_cases h1 : nN k = (1 : Int32)
  · rw [if_pos h1]; exact k_1 hO hx
  rw [if_neg h1]
  by_cases h2 : nN k = (2 : Int32)
  · rw [if_pos h2]; exact hK Z L xs i0 z M hZ hO
  rw [if_neg h2]
  by_cases h3 : nN k = (3 : Int32)
  · rw [if_pos h3]; exact k_3 hO hx
  rw [if_neg h3]
  by_cases h4 : nN k = (4 : Int32)
  · rw [if_pos h4]; exact k_4 hO hx
  rw [if_neg h4]
  by_cases h5 : nN k = (5 : Int32)
  · rw [if_pos h5]; exact k_5 hO hx
  rw [if_neg h5]
  by_cases h6 : nN k = (6 : Int32)
  · rw [if_pos h6]; exact k_6 hO hx
  rw [if_neg h6]
  by_cases h7 : nN k = (7 : Int32)
  · rw [if_pos h7]; exact k_7 hO hx
  rw [if_neg h7]
  by_cases h8 : nN k = (8 : Int32)
  · rw [if_pos h8]; exact k_8 hO hx
  rw [if_neg h8]
  by_cases h9 : nN k = (9 : Int32)
  · rw [if_pos h9]; exact k_9 hO hx
  rw [if_neg h9]
  by_cases h10 : nN k = (10 : Int32)
  · rw [if_pos h10]; exact k_10 hO hx
  rw [if_neg h10]
  by_cases h11 : nN k = (11 : Int32)
  · rw [if_pos h11]; exact k_11 hO hx
  rw [if_neg h11]
  by_cases h12 : nN k = (12 : Int32)
  · rw [if_pos h12]; exact k_12 hO hx
  rw [if_neg h12]
  by_cases h13 : nN k = (13 : Int32)
  · rw [if_pos h13]; exact k_13 hO hx
  rw [if_neg h13]
  by_cases h14 : nN k = (14 : Int32)
  · rw [if_pos h14]; exact k_14 hO hx
  rw [if_neg h14]
  by_cases h15 : nN k = (15 : Int32)
  · rw [if_pos h15]; exact k_15 hO hx
  rw [if_neg h15]
  by_cases h16 : nN k = (16 : Int32)
  · rw [if_pos h16]; exact k_16 hO hx
  rw [if_neg h16]
  by_cases h17 : nN k = (17 : Int32)
  · rw [if_pos h17]; exact k_17 hO hx
  rw [if_neg h17]
  by_cases h18 : nN k = (18 : Int32)
  · rw [if_pos h18]; exact k_18 hO hx
  rw [if_neg h18]
  by_cases h19 : nN k = (19 : Int32)
  · rw [if_pos h19]; exact k_19 hO hx
  rw [if_neg h19]
  by_cases h20 : nN k = (20 : Int32)
  · rw [if_pos h20]; exact k_20 hO hx
  rw [if_neg h20]
  by_cases h21 : nN k = (21 : Int32)
  · rw [if_pos h21]; exact k_21 hO hx
  rw [if_neg h21]
  by_cases h22 : nN k = (22 : Int32)
  · rw [if_pos h22]; exact k_22 hO hx
  rw [if_neg h22]
  by_cases h23 : nN k = (23 : Int32)
  · rw [if_pos h23]; exact k_23 hO hx
  rw [if_neg h23]
  by_cases h24 : nN k = (24 : Int32)
  · rw [if_pos h24]; exact k_24 hO hx
  rw [if_neg h24]
  by_cases h25 : nN k = (25 : Int32)
  · rw [if_pos h25]; exact k_25 hO hx
  rw [if_neg h25]
  by_cases h26 : nN k = (26 : Int32)
  · rw [if_pos h26]; exact k_26 hO hx
  rw [if_neg h26]
  by_cases h27 : nN k = (27 : Int32)
  · rw [if_pos h27]; exact k_27 hO hx
  rw [if_neg h27]
  by_cases h28 : nN k = (28 : Int32)
  · rw [if_pos h28]; exact k_28 hO hx
  rw [if_neg h28]
  by_cases h29 : nN k = (29 : Int32)
  · rw [if_pos h29]; exact k_29 hO hx
  rw [if_neg h29]
  by_cases h30 : nN k = (30 : Int32)
  · rw [if_pos h30]; exact k_30 hO hx
  rw [if_neg h30]
  by_cases h31 : nN k = (31 : Int32)
  · rw [if_pos h31]; exact k_31 hFL hO hx
  rw [if_neg h31]
  by_cases h32 : nN k = (32 : Int32)
  · rw [if_pos h32]; exact k_32 hFL hO hx
  rw [if_neg h32]
  by_cases h33 : nN k = (33 : Int32)
  · rw [if_pos h33]; exact k_33 hFL hO hx
  rw [if_neg h33]
  by_cases h34 : nN k = (34 : Int32)
  · rw [if_pos h34]; exact k_34 hO hx
  rw [if_neg h34]
  by_cases h35 : nN k = (35 : Int32)
  · rw [if_pos h35]; exact k_35 hO hx
  rw [if_neg h35]
  by_cases h36 : nN k = (36 : Int32)
  · rw [if_pos h36]; exact k_36 hO hx
  rw [if_neg h36]
  by_cases h37 : nN k = (37 : Int32)
  · rw [if_pos h37]; exact k_37 hO hx
  rw [if_neg h37]
  by_cases h38 : nN k = (38 : Int32)
  · rw [if_pos h38]; exact k_38 hO hx
  rw [if_neg h38]
  by_cases h39 : nN k = (39 : Int32)
  · rw [if_pos h39]; exact k_39 hO hx
  rw [if_neg h39]
  by_cases h40 : nN k = (40 : Int32)
  · rw [if_pos h40]; exact k_40 hO hx
  rw [if_neg h40]
  by_cases h41 : nN k = (41 : Int32)
  · rw [if_pos h41]; exact k_41 hO hx
  rw [if_neg h41]
  by_cases h42 : nN k = (42 : Int32)
  · rw [if_pos h42]; exact k_42 hO hx
  rw [if_neg h42]
  by_cases h43 : nN k = (43 : Int32)
  · rw [if_pos h43]; exact k_43 hO hx
  rw [if_neg h43]
  by_cases h44 : nN k = (44 : Int32)
  · rw [if_pos h44]; exact k_44 hO hx
  rw [if_neg h44]
  by_cases h45 : nN k = (45 : Int32)
  · rw [if_pos h45]; exact k_45 hFL hO hx
  rw [if_neg h45]
  by_cases h46 : nN k = (46 : Int32)
  · rw [if_pos h46]; exact k_46 hO hx
  rw [if_neg h46]
  by_cases h47 : nN k = (47 : Int32)
  · rw [if_pos h47]; exact k_47 hO hx
  rw [if_neg h47]
  by_cases h48 : nN k = (48 : Int32)
  · rw [if_pos h48]; exact k_48 hO hx
  rw [if_neg h48]
  by_cases h49 : nN k = (49 : Int32)
  · rw [if_pos h49]; exact k_49 hO hx
  rw [if_neg h49]
  by_cases h50 : nN k = (50 : Int32)
  · rw [if_pos h50]; exact k_50 hO hx
  rw [if_neg h50]
  by_cases h51 : nN k = (51 : Int32)
  · rw [if_pos h51]; exact k_51 hO hx
  rw [if_neg h51]
  by_cases h52 : nN k = (52 : Int32)
  · rw [if_pos h52]; exact k_52 hO hx
  rw [if_neg h52]
  by_cases h53 : nN k = (53 : Int32)
  · rw [if_pos h53]; exact k_53 hO hx
  rw [if_neg h53]
  by_cases h54 : nN k = (54 : Int32)
  · rw [if_pos h54]; exact k_54 hO hx
  rw [if_neg h54]
  by_cases h55 : nN k = (55 : Int32)
  · rw [if_pos h55]; exact k_55 hO hx
  rw [if_neg h55]
  by_cases h56 : nN k = (56 : Int32)
  · rw [if_pos h56]; exact k_56 hO hx
  rw [if_neg h56]
  by_cases h57 : nN k = (57 : Int32)
  · rw [if_pos h57]; exact k_57 hO hx
  rw [if_neg h57]
  exfalso
  rcases w57 ⟨k, hk⟩ with h | h | h | h | h | h | h | h | h | h | h | h | h | h | h | h | h | h | h | h | h | h | h | h | h | h | h | h | h | h | h | h | h | h | h | h | h | h | h | h | h | h | h | h | h | h | h | h | h | h | h | h | h | h | h | h | h | h
  · exact h0 h
  · exact h1 h
  · exact h2 h
  · exact h3 h
  · exact h4 h
  · exact h5 h
  · exact h6 h
  · exact h7 h
  · exact h8 h
  · exact h9 h
  · exact h10 h
  · exact h11 h
  · exact h12 h
  · exact h13 h
  · exact h14 h
  · exact h15 h
  · exact h16 h
  · exact h17 h
  · exact h18 h
  · exact h19 h
  · exact h20 h
  · exact h21 h
  · exact h22 h
  · exact h23 h
  · exact h24 h
  · exact h25 h
  · exact h26 h
  · exact h27 h
  · exact h28 h
  · exact h29 h
  · exact h30 h
  · exact h31 h
  · exact h32 h
  · exact h33 h
  · exact h34 h
  · exact h35 h
  · exact h36 h
  · exact h37 h
  · exact h38 h
  · exact h39 h
  · exact h40 h
  · exact h41 h
  · exact h42 h
  · exact h43 h
  · exact h44 h
  · exact h45 h
  · exact h46 h
  · exact h47 h
  · exact h48 h
  · exact h49 h
  · exact h50 h
  · exact h51 h
  · exact h52 h
  · exact h53 h
  · exact h54 h
  · exact h55 h
  · exact h56 h
  · exact h57 h
theorem xI_n {a : Nat} (h : a < L) (hL : L ≤ 3072) : xI L xs (nN a) = some (xs a) := by
  unfold xI
  have h1 := nN_neg0 (n := a) (by omega)
  have h2 := nN_clamp (n := a) (by omega)
  rw [h2, if_pos]
  rintro (h3 | h3)
  · exact h1 h3
  · omega
theorem l_all (hFL : FLT) (hK : K2S) {Z : gZ} (hZ : ZI Z) (hL : L ≤ 3072) : ∀ n k (M : Mem), n + k = 514 → k ≤ 513 → OFF z M → p_law Z L xs z (z + 180) (z + 194) (z + 195) n (nN (6 * k)) M = some () := by
  intro n
  induction n with
  | zero => intro k M h1 h2' _; omega
  | succ n ih =>
    intro k M h1 h2' hO
    have hs : Int32.ofNat L - (6 : Int32) = iI ((L : Int) - 6) := nN_sub L 6
    show (if (Int32.ofNat L - (6 : Int32)) < nN (6 * k) then some () else Option.bind (p_step Z L xs z (z + 180) (z + 194) (z + 195) (nN (6 * k)) M) fun M' => p_law Z L xs z (z + 180) (z + 194) (z + 195) n (nN (6 * k) + (6 : Int32)) M') = some ()
    by_cases c : (Int32.ofNat L - (6 : Int32)) < nN (6 * k)
    · rw [if_pos c]
    · rw [if_neg c]
      rw [hs, i_lt, iI_toInt (by omega), nN_toInt (by omega)] at c
      have e1 : ∀ j, nN (6 * k) + nN j = nN (6 * k + j) := fun j => nN_add _ j
      have hx : xIs L xs (nN (6 * k)) (fun j => xs (6 * k + j)) := ⟨xI_n (by omega) hL, by rw [show nN (6 * k) + (1 : Int32) = nN (6 * k + 1) from e1 1]; exact xI_n (by omega) hL, by rw [show nN (6 * k) + (2 : Int32) = nN (6 * k + 2) from e1 2]; exact xI_n (by omega) hL, by rw [show nN (6 * k) + (3 : Int32) = nN (6 * k + 3) from e1 3]; exact xI_n (by omega) hL, by rw [show nN (6 * k) + (4 : Int32) = nN (6 * k + 4) from e1 4]; exact xI_n (by omega) hL, by rw [show nN (6 * k) + (5 : Int32) = nN (6 * k + 5) from e1 5]; exact xI_n (by omega) hL⟩
      obtain ⟨M', q1, q2⟩ := s_all hFL hK hZ hO hx
      rw [q1, bS, show nN (6 * k) + (6 : Int32) = nN (6 * (k + 1)) from e1 6]
      exact ih (k + 1) M' (by omega) (by omega) q2
end LP