/-! loadOffice: both, and the office stands -/
section LC
variable {Z : gZ} {z : Nat} {M : Mem} {rr br tr tb t2 : Nat} {g : Nat → Int32} {h : Nat → Int64} {ar : Nat → Nat → Int32} {u : Nat → Int32} {ta : Nat → Nat → Int32} {f : Nat → Nat} {n : Nat} {nm : Nat → Nat}
theorem CR_0 (h1 : ∀ i, 1 ≤ i → i ≤ 6 → g i = 0) (h2 : ∀ i, 7 ≤ i → i ≤ 10 → h i = 0) (h3 : ∀ s, s < 8 → ar 8 s = 0) (h4 : u 0 = 0 ∧ u 1 = 0 ∧ u 2 = 0) (h5 : ∀ k, k < 100 → ta 9 k = 0) : CR g h ar u ta (fun _ => 0) nm := by
  refine ⟨⟨⟨h1 1 (by omega) (by omega), h1 2 (by omega) (by omega), h1 3 (by omega) (by omega), h1 4 (by omega) (by omega), h1 5 (by omega) (by omega), h1 6 (by omega) (by omega)⟩, ⟨h2 7 (by omega) (by omega), h2 8 (by omega) (by omega), h2 9 (by omega) (by omega), h2 10 (by omega) (by omega)⟩, fun c hc => absurd hc (Nat.not_lt_zero _), fun s hs => absurd hs (Nat.not_lt_zero _)⟩, ⟨⟨h4.1, h4.2.1, h4.2.2⟩, fun s hs => absurd hs (Nat.not_lt_zero _), fun F hF => ⟨0, by omega, h5 F hF, fun s _ => (Nat.zero_testBit s).trans rfl⟩⟩, fun s _ hs => h3 s hs⟩
theorem c_setup (hC : CH Z f n M rr br tr tb (z + 1) t2) (hM : M = ofc M rr br tr tb g h ar u ta) (hn : n ≤ 900) {er eo b5 b6 b7 kd st en : Int32} {w : Value} (h1 : M (z + 1) = some (rc3 t2 (nN n) er eo rr b5 b6 b7 kd st en w)) : PC Z f n M rr br tr tb (z + 1) t2 (-1) (txtS f n n (fun _ => 0) nm 0 (nxN f n 0)) (p_X3_readSetup Z (z + 1) M) := by
  obtain ⟨u1, ta1, t1, t3, t4⟩ := t_clr (B := M) (g := g) (h := h) (ar := ar) (u := u) (ta := ta) hC.1
  obtain ⟨g1, h1', ar1, r1, r3, r4, r5⟩ := r_clr (B := M) (g := g) (h := h) (ar := ar) (u := u1) (ta := ta1) hC.1
  rw [← hM] at t1
  have e1 : gR 3 4 M (z + 1) = some rr := by unfold gR gV; rw [h1]; rfl
  have e2 : gR 2 0 M rr = some tr := by rw [hM]; exact fv_0
  have e3 : isC 4 M tr = some () := by rw [hM]; exact ft_C hC.1
  have c4 : ∀ g h ar u ta, ofc M rr br tr tb g h ar u ta (z + 1) = some (rc3 t2 (nN n) er eo rr b5 b6 b7 kd st en w) := fun g h ar u ta => (ofc_o hC.2.2.1.1 hC.2.2.1.2).trans h1
  have e4 : gR 3 4 (ofc M rr br tr tb g h ar u1 ta1) (z + 1) = some rr := by unfold gR gV; rw [c4]; rfl
  have e5 : isC 2 (ofc M rr br tr tb g h ar u1 ta1) rr = some () := fv_isC
  have e6 : ofc M rr br tr tb g1 h1' ar1 u1 ta1 = RW (ofc M rr br tr tb g1 h1' ar1 u1 ta1) (z + 1) t2 (nN n) er eo rr b5 b6 b7 kd st en w := (rw_id (c4 _ _ _ _ _)).symm
  have hq := (nxN_b (f := f) (n := n) (p := 0) (Nat.zero_le _)).2
  have s5 : ∀ (M' : Mem) (ln er eo b5 b6 b7 kd st en : Int32) (w : Value), sZ 3 5 (RW M' (z + 1) t2 ln er eo rr b5 b6 b7 kd st en w) (z + 1) (0 : Int32) = some (RW M' (z + 1) t2 ln er eo rr 0 b6 b7 kd st en w) := fun M' ln er eo b5 b6 b7 kd st en w => by unfold sZ; rw [if_pos (Or.inl rfl)]; exact rs_5 0
  have s6 : ∀ (M' : Mem) (ln er eo b5 b6 b7 kd st en : Int32) (w : Value), sZ 3 6 (RW M' (z + 1) t2 ln er eo rr b5 b6 b7 kd st en w) (z + 1) (0 : Int32) = some (RW M' (z + 1) t2 ln er eo rr b5 0 b7 kd st en w) := fun M' ln er eo b5 b6 b7 kd st en w => by unfold sZ; rw [if_pos (Or.inl rfl)]; exact rs_6 0
  have s7 : ∀ (M' : Mem) (ln er eo b5 b6 b7 kd st en : Int32) (w : Value), sZ 3 7 (RW M' (z + 1) t2 ln er eo rr b5 b6 b7 kd st en w) (z + 1) (0 : Int32) = some (RW M' (z + 1) t2 ln er eo rr b5 b6 0 kd st en w) := fun M' ln er eo b5 b6 b7 kd st en w => by unfold sZ; rw [if_pos (Or.inl rfl)]; exact rs_7 0
  have ea : p_X3_advance Z (z + 1) (RW (ofc M rr br tr tb g1 h1' ar1 u1 ta1) (z + 1) t2 (nN n) 0 (-1) rr 0 0 0 kd st (0 : Int32) w) = some (CS Z f n M rr br tr tb (z + 1) t2 g1 h1' ar1 u1 ta1 0 (-1) (bO 1 0) (bO 2 0) (bO 4 0) (nxN f n 0)) := c_adv (hC.tx) hC.2.1 (p := 0) (Nat.zero_le _)
  have g1' : ∀ q, gI 3 1 (CS Z f n M rr br tr tb (z + 1) t2 g1 h1' ar1 u1 ta1 0 (-1) (bO 1 0) (bO 2 0) (bO 4 0) q) (z + 1) = some (nN n) := fun q => rg_1
  unfold p_X3_readSetup
  rw [e1, bS, e2, bS, e3, bS, t1, bS, e4, bS, e5, bS, r1, bS, e6, rs_2, bS, rs_3, bS, s5, bS, s6, bS, s7, bS, rs_10, bS, rw_C, bS, ea, bS, g1', bS, jn_def]
  exact cs_txt hC n (fun _ => 0) nm 0 (nxN f n 0) g1 h1' ar1 u1 ta1 FU n (SI_0 hq) (CR_0 r3 r4 r5 t3 t4) (by omega) (Nat.le_refl _) hn (FU_pos (by omega))
/-- what the class's load leaves -/
def LDC (z : Nat) (M : Mem) (rn rr br tr tb t2 hn n0 : Nat) (x : QS) (r : Option (Int32 × Mem)) : Prop := match x with
  | .inl e => ∃ N g h ar u ta b5 b6 b7 kd st en w, r = some ((-1 : Int32), N) ∧ RC N rr br tr g h ar ∧ TC N tr tb u ta ∧ N (z + 1) = some (rc3 t2 0 (nN e.1) (nN e.2) rr b5 b6 b7 kd st en w) ∧ N z = M z ∧ ∀ y, y ≠ z → y ≠ z + 1 → oR rr br y → oTw tr tb y → N y = M y
  | .inr Y => ∃ N g h ar u ta b5 b6 b7 kd st en w, r = some (nN (Y.1 1), N) ∧ RC N rr br tr g h ar ∧ TC N tr tb u ta ∧ CR g h ar u ta Y.1 Y.2.1 ∧ N (z + 1) = some (rc3 t2 0 0 (-1) rn b5 b6 b7 kd st en w) ∧ N z = some (.inr (5, flX z rr 0 hn 0)) ∧ ∀ y, y ≠ z → y ≠ z + 1 → oR rr br y → oTw tr tb y → N y = M y
theorem rcu {N : Mem} {y : Nat} {e : mE} (hR : RC N rr br tr g h ar) (hy : oR rr br y) : RC (upM N y e) rr br tr g h ar := hR.kp (fun x hx => upM_o (by unfold oR at hy; omega))
theorem tcu {N : Mem} {y : Nat} {e : mE} (hT : TC N tr tb u ta) (hy : oTw tr tb y) : TC (upM N y e) tr tb u ta := hT.kp (fun x hx => upM_o (by unfold oTw at hy; omega))
theorem c_load (hC : CH Z f n M rr br tr tb (z + 1) t2) (hz : oR rr br z ∧ oTw tr tb z) (hM : M = ofc M rr br tr tb g h ar u ta) (hn : n ≤ 900) {rn sv hn0 n0 : Nat} (hX : M z = some (.inr (5, flX z rn sv hn0 n0))) {er eo b5 b6 b7 kd st en : Int32} {w : Value} (h1 : M (z + 1) = some (rc3 t2 (nN n) er eo rr b5 b6 b7 kd st en w)) : LDC z M rn rr br tr tb t2 hn0 n0 (txtS f n n (fun _ => 0) nm 0 (nxN f n 0)) (p_X6_loadOffice Z z M) := by
  have hp := c_setup (nm := nm) hC hM hn h1
  have hE : EC (txtS f n n (fun _ => 0) nm 0 (nxN f n 0)) := by
    have key : ∀ d v nm o q, EC (txtS f n d v nm o q) := by
      intro d
      induction d with
      | zero => intro v nm o q; exact ec_r
      | succ d ih =>
        intro v nm o q
        refine ec_if ec_r ?_
        have hs := ec_sem (f := f) (n := n) (v := v) (nm := nm) (o := o) (q := q)
        cases hx : semS f n (stS' f n v nm o q) with
        | inl e => rw [hx] at hs; exact hs
        | inr y => exact ih _ _ _ _
    exact key _ _ _ _ _
  have e1 : gR 5 0 M z = some (z + 1) := by unfold gR gV; rw [hX]; rfl
  have e2 : isC 3 M (z + 1) = some () := by unfold isC; rw [h1]; rfl
  have co : ∀ g h ar u ta er eo b5 b6 b7 q y, y ≠ z + 1 → oR rr br y → oTw tr tb y → CS Z f n M rr br tr tb (z + 1) t2 g h ar u ta er eo b5 b6 b7 q y = M y := fun g h ar u ta er eo b5 b6 b7 q y a b c => (t3_o a).trans (ofc_o b c)
  unfold p_X6_loadOffice
  rw [e1, bS, e2, bS]
  generalize txtS f n n (fun _ => 0) nm 0 (nxN f n 0) = x at hp hE ⊢
  cases x with
  | inl e =>
    obtain ⟨g', h', ar', u', ta', c5, c6, c7, hp⟩ := hp
    have he := hE e rfl
    have z0 : gR 5 0 (CS Z f n M rr br tr tb (z + 1) t2 g' h' ar' u' ta' (nN e.1) (nN e.2) c5 c6 c7 e.2) z = some (z + 1) := by unfold gR gV; rw [co _ _ _ _ _ _ _ _ _ _ _ _ (by omega) hz.1 hz.2, hX]; rfl
    have s1 : sV 3 1 (CS Z f n M rr br tr tb (z + 1) t2 g' h' ar' u' ta' (nN e.1) (nN e.2) c5 c6 c7 e.2) (z + 1) (.int (0 : Int32)) = some (RW (ofc M rr br tr tb g' h' ar' u' ta') (z + 1) t2 0 (nN e.1) (nN e.2) rr c5 c6 c7 (nN (kdN f n e.2)) (nN e.2) (nN (enN f n e.2)) (va_rf ((wdN f n e.2).map Z.2.2.1))) := rs_1 0
    have ro : ∀ y, y ≠ z + 1 → RW (ofc M rr br tr tb g' h' ar' u' ta') (z + 1) t2 0 (nN e.1) (nN e.2) rr c5 c6 c7 (nN (kdN f n e.2)) (nN e.2) (nN (enN f n e.2)) (va_rf ((wdN f n e.2).map Z.2.2.1)) y = ofc M rr br tr tb g' h' ar' u' ta' y := fun y hy => rw_o hy
    have z1 : gR 5 0 (RW (ofc M rr br tr tb g' h' ar' u' ta') (z + 1) t2 0 (nN e.1) (nN e.2) rr c5 c6 c7 (nN (kdN f n e.2)) (nN e.2) (nN (enN f n e.2)) (va_rf ((wdN f n e.2).map Z.2.2.1))) z = some (z + 1) := by unfold gR gV; rw [ro z (by omega), ofc_o hz.1 hz.2, hX]; rfl
    rw [hp, bS, z0, bS, s1, bS, z1, bS, rg_2, bS, if_neg (show ¬ nN e.1 = (0 : Int32) from neq_f (b := 0) (by omega) (by omega) (by omega))]
    have hTC := cs_TC (g := g') (h := h') (ar := ar') (u := u') (ta := ta') (er := nN e.1) (eo := nN e.2) (b5 := c5) (b6 := c6) (b7 := c7) (q := e.2) hC
    have hG := hC.1
    refine ⟨_, g', h', ar', u', ta', _, _, _, _, _, _, _, rfl, ⟨(ro rr (by have := hC.2.2.1.1; unfold oR at this; omega)).trans (ovr_r _ _ _ _ _ _ _), fun j hj => (ro (br + j) (by have := hC.2.2.1.1; unfold oR at this; omega)).trans (ovr_a _ _ _ _ _ _ _ hG.1 hj)⟩, hTC.kp (fun y hy => ?_), rw_at, (ro z (by omega)).trans (ofc_o hz.1 hz.2), fun y y1 y2 y3 y4 => (ro y y2).trans (ofc_o y3 y4)⟩
    have hy1 : y ≠ z + 1 := by have := hC.2.2.1.2; unfold oTw at this; omega
    rw [ro y hy1]
    exact (t3_o hy1).symm
  | inr Y =>
    obtain ⟨g', h', ar', u', ta', hp, hR⟩ := hp
    have z0 : gR 5 0 (CS Z f n M rr br tr tb (z + 1) t2 g' h' ar' u' ta' 0 (-1) (bO 1 Y.2.2.1) (bO 2 Y.2.2.1) (bO 4 Y.2.2.1) Y.2.2.2) z = some (z + 1) := by unfold gR gV; rw [co _ _ _ _ _ _ _ _ _ _ _ _ (by omega) hz.1 hz.2, hX]; rfl
    generalize hN5 : RW (ofc M rr br tr tb g' h' ar' u' ta') (z + 1) t2 0 0 (-1) rr (bO 1 Y.2.2.1) (bO 2 Y.2.2.1) (bO 4 Y.2.2.1) (nN (kdN f n Y.2.2.2)) (nN Y.2.2.2) (nN (enN f n Y.2.2.2)) (va_rf ((wdN f n Y.2.2.2).map Z.2.2.1)) = N5
    have s1 : sV 3 1 (CS Z f n M rr br tr tb (z + 1) t2 g' h' ar' u' ta' 0 (-1) (bO 1 Y.2.2.1) (bO 2 Y.2.2.1) (bO 4 Y.2.2.1) Y.2.2.2) (z + 1) (.int (0 : Int32)) = some N5 := by rw [← hN5]; exact rs_1 0
    have ro : ∀ y, y ≠ z + 1 → N5 y = ofc M rr br tr tb g' h' ar' u' ta' y := fun y hy => by rw [← hN5]; exact rw_o hy
    have n1 : N5 (z + 1) = some (rc3 t2 0 0 (-1) rr (bO 1 Y.2.2.1) (bO 2 Y.2.2.1) (bO 4 Y.2.2.1) (nN (kdN f n Y.2.2.2)) (nN Y.2.2.2) (nN (enN f n Y.2.2.2)) (va_rf ((wdN f n Y.2.2.2).map Z.2.2.1))) := by rw [← hN5]; exact rw_at
    clear hN5
    have nz : N5 z = some (.inr (5, flX z rn sv hn0 n0)) := (ro z (by omega)).trans ((ofc_o hz.1 hz.2).trans hX)
    have z1 : gR 5 0 N5 z = some (z + 1) := by unfold gR gV; rw [nz]; rfl
    have z2 : gI 3 2 N5 (z + 1) = some 0 := by unfold gI gV; rw [n1]; rfl
    have z3 : gR 5 3 N5 z = some rn := by unfold gR gV; rw [nz]; rfl
    have z4 : gR 3 4 N5 (z + 1) = some rr := by unfold gR gV; rw [n1]; rfl
    have p1 : sV 5 3 N5 z (.ref rr) = some (upM N5 z (.inr (5, flX z rr sv hn0 n0))) := sV_w nz (by show 3 < 11; decide)
    have z5 : gR 5 0 (upM N5 z (.inr (5, flX z rr sv hn0 n0))) z = some (z + 1) := by unfold gR gV; rw [upM_at]; rfl
    have p2 : sV 3 4 (upM N5 z (.inr (5, flX z rr sv hn0 n0))) (z + 1) (.ref rn) = some (upM (upM N5 z (.inr (5, flX z rr sv hn0 n0))) (z + 1) (rc3 t2 0 0 (-1) rn (bO 1 Y.2.2.1) (bO 2 Y.2.2.1) (bO 4 Y.2.2.1) (nN (kdN f n Y.2.2.2)) (nN Y.2.2.2) (nN (enN f n Y.2.2.2)) (va_rf ((wdN f n Y.2.2.2).map Z.2.2.1)))) := sV_w ((upM_o (by omega)).trans n1) (by show 4 < 12; decide)
    generalize hM14 : upM (upM N5 z (.inr (5, flX z rr sv hn0 n0))) (z + 1) (rc3 t2 0 0 (-1) rn (bO 1 Y.2.2.1) (bO 2 Y.2.2.1) (bO 4 Y.2.2.1) (nN (kdN f n Y.2.2.2)) (nN Y.2.2.2) (nN (enN f n Y.2.2.2)) (va_rf ((wdN f n Y.2.2.2).map Z.2.2.1))) = M14 at p2
    have m0 : M14 z = some (.inr (5, flX z rr sv hn0 n0)) := by rw [← hM14, upM_o (by omega)]; exact upM_at
    have m1 : M14 (z + 1) = some (rc3 t2 0 0 (-1) rn (bO 1 Y.2.2.1) (bO 2 Y.2.2.1) (bO 4 Y.2.2.1) (nN (kdN f n Y.2.2.2)) (nN Y.2.2.2) (nN (enN f n Y.2.2.2)) (va_rf ((wdN f n Y.2.2.2).map Z.2.2.1))) := by rw [← hM14]; exact upM_at
    have mo : ∀ y, y ≠ z → y ≠ z + 1 → M14 y = ofc M rr br tr tb g' h' ar' u' ta' y := fun y a b => by rw [← hM14, upM_o b, upM_o a]; exact ro y b
    clear hM14
    have p3 : sZ 5 7 M14 z (0 : Int32) = some (upM M14 z (.inr (5, flX z rr 0 hn0 n0))) := by unfold sZ; rw [if_pos (Or.inl rfl)]; exact sV_w m0 (by show 7 < 11; decide)
    have p4 : sV 5 10 (upM M14 z (.inr (5, flX z rr 0 hn0 n0))) z (.int (0 : Int32)) = some (upM (upM M14 z (.inr (5, flX z rr 0 hn0 n0))) z (.inr (5, flX z rr 0 hn0 0))) := sV_w upM_at (by show 10 < 11; decide)
    rw [upM_up] at p4
    have fo : ∀ y, y ≠ z → y ≠ z + 1 → upM M14 z (.inr (5, flX z rr 0 hn0 0)) y = ofc M rr br tr tb g' h' ar' u' ta' y := fun y a b => (upM_o a).trans (mo y a b)
    have z6 : gR 5 3 (upM M14 z (.inr (5, flX z rr 0 hn0 0))) z = some rr := by unfold gR gV; rw [upM_at]; rfl
    have hG := hC.1
    have b1 := hC.2.2.1
    have fr : upM M14 z (.inr (5, flX z rr 0 hn0 0)) rr = some (.inr (2, flR tr br g' h')) := (fo rr (by have := hz.1; unfold oR at this; omega) (by have := b1.1; unfold oR at this; omega)).trans (ovr_r _ _ _ _ _ _ _)
    have z7 : gI 2 1 (upM M14 z (.inr (5, flX z rr 0 hn0 0))) rr = some (nN (Y.1 1)) := by unfold gI gV; rw [fr, ← hR.1.g1]; rfl
    rw [hp, bS, z0, bS, s1, bS, z1, bS, z2, bS, if_pos rfl, z3, bS, bS, z4, bS, p1, bS, z5, bS, p2, bS, p3, bS, p4, bS, z6, bS, z7, bS]
    refine ⟨_, g', h', ar', u', ta', _, _, _, _, _, _, _, rfl, ⟨fr, fun j hj => (fo (br + j) (by have := hz.1; unfold oR at this; omega) (by have := b1.1; unfold oR at this; omega)).trans (ovr_a _ _ _ _ _ _ _ hG.1 hj)⟩, ⟨(fo tr (by have := hz.2; unfold oTw at this; omega) (by have := b1.2; unfold oTw at this; omega)).trans ((ovr_o _ _ _ _ _ _ _ hG.ot).trans (ovt_t _ _ _ _ _)), fun j hj => (fo (tb + j) (by have := hz.2; unfold oTw at this; omega) (by have := b1.2; unfold oTw at this; omega)).trans ((ovr_o _ _ _ _ _ _ _ (hG.oa hj)).trans (ovt_a _ _ _ _ _ hG.2.1 hj))⟩, hR, (upM_o (by omega)).trans m1, upM_at, fun y y1 y2 y3 y4 => (fo y y1 y2).trans (ofc_o y3 y4)⟩
end LC
