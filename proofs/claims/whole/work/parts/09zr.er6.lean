/-! loadOffice: the reference -/
section RL
def nmX (A6 : Nat → Int32) (nm : Nat → Nat) : Nat → Nat := fun i => if i < 48 then nm i else (A6 i).toBitVec.toNat
theorem nN_tb (x : Int32) : nN x.toBitVec.toNat = x := by
  apply Int32.toBitVec_inj.1
  show BitVec.ofNat 32 x.toBitVec.toNat = x.toBitVec
  rw [BitVec.ofNat_toNat, BitVec.setWidth_eq]
theorem nmX_e {A6 : Nat → Int32} {nm : Nat → Nat} (h : ∀ i, i < 48 → A6 i = nN (nm i)) : A6 = fun i => nN (nmX A6 nm i) := by
  funext i
  show A6 i = nN (if i < 48 then nm i else _)
  by_cases c : i < 48
  · rw [if_pos c]; exact h i c
  · rw [if_neg c, nN_tb]
theorem gTk_id {g : Nat → Int32} : gTk g (g 17) (g 18) (g 19) (g 20) = g := by
  funext i
  unfold gTk
  by_cases c1 : i = 17
  · rw [if_pos c1, c1]
  · rw [if_neg c1]
    by_cases c2 : i = 18
    · rw [if_pos c2, c2]
    · rw [if_neg c2]
      by_cases c3 : i = 19
      · rw [if_pos c3, c3]
      · rw [if_neg c3]
        by_cases c4 : i = 20
        · rw [if_pos c4, c4]
        · rw [if_neg c4]
theorem SI_0 {f : Nat → Nat} {n : Nat} {nm : Nat → Nat} {q : Nat} (hq : q ≤ n) : SI f n (fun _ => 0) nm 0 q := by
  refine ⟨⟨⟨by decide, by decide, by decide, by decide, by decide, by decide, by decide⟩, fun s _ => ⟨Nat.zero_le _, Nat.zero_le _, Nat.zero_le _, Nat.zero_le _, Nat.zero_le _⟩, fun s _ k _ => Nat.zero_le _, fun c _ => ⟨Nat.zero_le _, Nat.zero_le _, Nat.zero_le _, Nat.zero_le _, Nat.zero_lt_succ _, Nat.zero_le _, Nat.zero_le _, Nat.zero_le _, Nat.zero_le _⟩, fun c hc => absurd hc (Nat.not_lt_zero _), fun c hc => absurd hc (Nat.not_lt_zero _), fun c s h => (by cases h), fun i _ => Nat.zero_lt_succ _⟩, fun i _ => rfl, fun s hs => absurd hs (Nat.not_lt_zero _), by decide, hq, fun s _ _ => ⟨rfl, rfl, rfl⟩, fun c _ _ => ⟨rfl, rfl, rfl, rfl, rfl, rfl, rfl⟩, rfl, fun k hk => absurd hk (Nat.not_lt_zero _)⟩
variable {B : Mem} {m : Nat} {g : Nat → Int32} {A : Nat → Nat → Int32} {v nm : Nat → Nat} {pl : Nat → Option Nat} {f : Nat → Nat} {n : Nat}
def LD (B : Mem) (m : Nat) (g : Nat → Int32) (A : Nat → Nat → Int32) (v nm : Nat → Nat) (pl : Nat → Option Nat) (x : QS) (r : Option (Int32 × Mem)) : Prop := match x with
  | .inl e => ∃ g' A', r = some ((-1 : Int32), ovl B m g' (up2 A' 1 (enc v pl))) ∧ (g' 5 = g 5 ∧ g' 6 = g 6 ∧ g' 12 = 0 ∧ g' 13 = nN e.1 ∧ g' 14 = nN e.2 ∧ g' 27 = g 27) ∧ A' 5 = A 5 ∧ A' 4 = A 4 ∧ A' 13 = A 13 ∧ ∀ i, i < 48 → A' 6 i = nN (nm i)
  | .inr y => ∃ g' A', r = some (nN (y.1 1), ovl B m g' (up2 A' 1 (enc y.1 (fun _ => none)))) ∧ (g' 5 = 0 ∧ g' 6 = 0 ∧ g' 12 = 0 ∧ g' 13 = 0 ∧ g' 14 = mI ∧ g' 27 = g 27) ∧ A' 13 = A 13 ∧ ∀ i, i < 48 → A' 6 i = nN (y.2.1 i)
theorem ld_rest {e : Nat × Nat} {g1 G : Nat → Int32} {A3 A4 : Nat → Nat → Int32} {v' : Nat → Nat} (hv' : ∀ i, 764 ≤ i → v' i = 0) (hv : ∀ i, 764 ≤ i → v i = 0) (hG : G 5 = g 5 ∧ G 6 = g 6 ∧ G 12 = 0 ∧ G 13 = nN e.1 ∧ G 14 = nN e.2 ∧ G 27 = g 27) (h2 : ∀ i, i < 764 → A4 2 i = enc v pl i) (h7 : ∀ i, i < 48 → A4 7 i = nN (nm i)) (h5 : A4 5 = A 5 ∧ A4 4 = A 4 ∧ A4 13 = A 13) : LD B m g A v nm pl (.inl e) (Option.bind (gR 6 1 (ovl B m G (up2 A4 1 (enc v' (fun _ => none)))) m) fun v29 => Option.bind (gR 6 0 (ovl B m G (up2 A4 1 (enc v' (fun _ => none)))) m) fun v30 => Option.bind (p_X7_copies v29 (0 : Int32) v30 (0 : Int32) (764 : Int32) (ovl B m G (up2 A4 1 (enc v' (fun _ => none))))) fun M31 => Option.bind (gR 6 8 M31 m) fun v32 => Option.bind (gR 6 7 M31 m) fun v33 => Option.bind (p_X7_copies v32 (0 : Int32) v33 (0 : Int32) (48 : Int32) M31) fun M34 => some ((-1 : Int32), M34)) := by
  have c1 : p_X7_copies (m + 2) (0 : Int32) (m + 1) (0 : Int32) (764 : Int32) (ovl B m G (up2 A4 1 (enc v' (fun _ => none)))) = some (ovl B m G (up2 (up2 A4 1 (enc v' (fun _ => none))) 1 (cpF (A4 2) (enc v' (fun _ => none)) 0 0 764))) := e_copies (B := B) (m := m) (g := G) (a := up2 A4 1 (enc v' (fun _ => none))) (j0 := 2) (j1 := 1) (sp := 0) (dp := 0) (n := 764) (by decide) (by decide) (Or.inl (by decide)) (by decide) (by decide)
  have ec : cpF (A4 2) (enc v' (fun _ => none)) 0 0 764 = enc v pl := cpF_enc hv' hv (fun i hi => by rw [Nat.zero_add]; exact h2 i hi)
  have c2 : p_X7_copies (m + 7) (0 : Int32) (m + 6) (0 : Int32) (48 : Int32) (ovl B m G (up2 A4 1 (enc v pl))) = some (ovl B m G (up2 (up2 A4 1 (enc v pl)) 6 (cpF (A4 7) (A4 6) 0 0 48))) := e_copies (B := B) (m := m) (g := G) (a := up2 A4 1 (enc v pl)) (j0 := 7) (j1 := 6) (sp := 0) (dp := 0) (n := 48) (by decide) (by decide) (Or.inl (by decide)) (by decide) (by decide)
  rw [or_1, bS, or_0, bS, c1, bS, ec, up2_up2, or_8, bS, or_7, bS, c2, bS, up2_sw (by decide : (1 : Nat) ≠ 6)]
  refine ⟨G, _, rfl, hG, ?_, ?_, ?_, fun i hi => ?_⟩
  · rw [up2_n (by decide)]; exact h5.1
  · rw [up2_n (by decide)]; exact h5.2.1
  · rw [up2_n (by decide)]; exact h5.2.2
  · rw [up2_s]
    show (if 0 ≤ i ∧ i < 0 + 48 then A4 7 (0 + (i - 0)) else _) = _
    rw [if_pos (by omega), show 0 + (i - 0) = i by omega]
    exact h7 i hi
theorem r_load (hv : ∀ i, 764 ≤ i → v i = 0) (h12 : g 12 = nN n) (h9 : ∀ i, i < n → A 9 i = nN (f i)) (hn : n ≤ 900) (hf : ∀ i, i < n → f i < 256) (h6 : ∀ i, i < 48 → A 6 i = nN (nm i)) : LD B m g A v nm pl (txtS f n n (fun _ => 0) (nmX (A 6) nm) 0 (nxN f n 0)) (p_X7_loadOffice m (ovl B m g (up2 A 1 (enc v pl)))) := by
  have c1 : p_X7_copies (m + 1) (0 : Int32) (m + 2) (0 : Int32) (764 : Int32) (ovl B m (upd g 9 0) (up2 A 1 (enc v pl))) = some (ovl B m (upd g 9 0) (up2 (up2 A 1 (enc v pl)) 2 (cpF (enc v pl) (A 2) 0 0 764))) := e_copies (B := B) (m := m) (g := upd g 9 0) (a := up2 A 1 (enc v pl)) (j0 := 1) (j1 := 2) (sp := 0) (dp := 0) (n := 764) (by decide) (by decide) (Or.inl (by decide)) (by decide) (by decide)
  have c2 : p_X7_copies (m + 6) (0 : Int32) (m + 7) (0 : Int32) (48 : Int32) (ovl B m (upd g 9 0) (up2 (up2 A 2 (cpF (enc v pl) (A 2) 0 0 764)) 1 (enc v pl))) = some (ovl B m (upd g 9 0) (up2 (up2 (up2 A 2 (cpF (enc v pl) (A 2) 0 0 764)) 1 (enc v pl)) 7 (cpF (A 6) (A 7) 0 0 48))) := e_copies (B := B) (m := m) (g := upd g 9 0) (a := up2 (up2 A 2 (cpF (enc v pl) (A 2) 0 0 764)) 1 (enc v pl)) (j0 := 6) (j1 := 7) (sp := 0) (dp := 0) (n := 48) (by decide) (by decide) (Or.inl (by decide)) (by decide) (by decide)
  have k2 : ∀ i, i < 764 → cpF (enc v pl) (A 2) 0 0 764 i = enc v pl i := fun i hi => by
    show (if 0 ≤ i ∧ i < 0 + 764 then enc v pl (0 + (i - 0)) else _) = _
    rw [if_pos (by omega), show 0 + (i - 0) = i by omega]
  have k7 : ∀ i, i < 48 → cpF (A 6) (A 7) 0 0 48 i = nN (nm i) := fun i hi => by
    show (if 0 ≤ i ∧ i < 0 + 48 then A 6 (0 + (i - 0)) else _) = _
    rw [if_pos (by omega), show 0 + (i - 0) = i by omega]
    exact h6 i hi
  have hq := (nxN_b (f := f) (n := n) (p := 0) (Nat.zero_le _)).2
  unfold p_X7_loadOffice
  rw [op_9, bS, or_0, bS, or_1, bS, c1, bS, up2_sw (by decide : (1 : Nat) ≠ 2), or_7, bS, or_8, bS, c2, bS, up2_sw (by decide : (1 : Nat) ≠ 7), oc, bS]
  generalize cpF (enc v pl) (A 2) 0 0 764 = X at k2 ⊢
  generalize cpF (A 6) (A 7) 0 0 48 = Y at k7 ⊢
  have hz : ∀ i, 764 ≤ i → enc v pl i = nN 0 := fun i hi => by rw [enc_v (by omega), hv i hi]
  have hA6 : up2 (up2 A 2 X) 7 Y 6 = A 6 := by rw [up2_n (by decide), up2_n (by decide)]
  have hA9 : up2 (up2 A 2 X) 7 Y 9 = A 9 := by rw [up2_n (by decide), up2_n (by decide)]
  have hA2 : up2 (up2 A 2 X) 7 Y 2 = X := by rw [up2_n (by decide), up2_s]
  have hA7 : up2 (up2 A 2 X) 7 Y 7 = Y := up2_s
  have hA5 : up2 (up2 A 2 X) 7 Y 5 = A 5 := by rw [up2_n (by decide), up2_n (by decide)]
  have hA4 : up2 (up2 A 2 X) 7 Y 4 = A 4 := by rw [up2_n (by decide), up2_n (by decide)]
  have hA13 : up2 (up2 A 2 X) 7 Y 13 = A 13 := by rw [up2_n (by decide), up2_n (by decide)]
  generalize up2 (up2 A 2 X) 7 Y = A3 at hA6 hA9 hA2 hA7 hA5 hA4 hA13 ⊢
  rw [e_clear hz, bS, op_15, bS, op_16, bS, op_17, bS, op_21, bS, oc, bS]
  have g12 : upd (upd (upd (upd (upd g 9 0) 15 0) 16 (-1)) 17 0) 21 0 12 = nN n := h12
  have g5 : upd (upd (upd (upd (upd g 9 0) 15 0) 16 (-1)) 17 0) 21 0 5 = g 5 := rfl
  have g6 : upd (upd (upd (upd (upd g 9 0) 15 0) 16 (-1)) 17 0) 21 0 6 = g 6 := rfl
  have g27 : upd (upd (upd (upd (upd g 9 0) 15 0) 16 (-1)) 17 0) 21 0 27 = g 27 := rfl
  have g15 : upd (upd (upd (upd (upd g 9 0) 15 0) 16 (-1)) 17 0) 21 0 15 = 0 := rfl
  have g16 : upd (upd (upd (upd (upd g 9 0) 15 0) 16 (-1)) 17 0) 21 0 16 = mI := rfl
  have g17 : upd (upd (upd (upd (upd g 9 0) 15 0) 16 (-1)) 17 0) 21 0 17 = nN 0 := rfl
  have g21 : upd (upd (upd (upd (upd g 9 0) 15 0) 16 (-1)) 17 0) 21 0 21 = nN 0 := rfl
  generalize upd (upd (upd (upd (upd g 9 0) 15 0) 16 (-1)) 17 0) 21 0 = g2 at g12 g5 g6 g27 g15 g16 g17 g21 ⊢
  have hT : TXE g2 A3 n f := ⟨g12, fun i hi => by rw [hA9]; exact h9 i hi, hn, hf⟩
  have hc0 : cutV (fun _ => 0) = fun _ => 0 := cut_z (fun _ _ => rfl)
  have ea : p_X7_advanceToken m (ovl B m g2 (up2 A3 1 (enc (fun _ => 0) (fun _ => none)))) = some (RS B m g2 f n A3 (fun _ => 0) (nmX (A 6) nm) (nxN f n 0)) := by
    have e := e_adv (B := B) (m := m) (s := g2 18) (v := g2 19) (k := g2 20) (A := up2 A3 1 (enc (fun _ => 0) (fun _ => none))) (i := 0) (g := g2) (f := f) (n := n) ⟨g12, fun i hi => by rw [up2_n (by decide), hA9]; exact h9 i hi, hn, hf⟩ (Nat.zero_le _)
    rw [← g17, gTk_id] at e
    rw [e]
    unfold RS
    rw [hc0, ← nmX_e h6, ← hA6, up2_id]
  rw [ea, bS, RS_b]
  have hr := r_txt (B := B) (m := m) n g2 (fun _ => 0) (nmX (A 6) nm) 0 (nxN f n 0) FU hT g15 g21 (SI_0 hq) (by omega) (FU_pos (by omega))
  have hr : PE B m g2 f n A3 (txtS f n n (fun _ => 0) (nmX (A 6) nm) 0 (nxN f n 0)) (p_X7_readText m (RS B m g2 f n A3 (fun _ => 0) (nmX (A 6) nm) (nxN f n 0))) := hr
  have hSI := txt_SI (f := f) (n := n) n (fun _ => 0) (nmX (A 6) nm) 0 (nxN f n 0) (SI_0 hq) (by omega)
  generalize txtS f n n (fun _ => 0) (nmX (A 6) nm) 0 (nxN f n 0) = x at hr hSI ⊢
  cases x with
  | inl e =>
    obtain ⟨g', v', nm', w1, w2, w3, w4⟩ := hr
    rw [w1, ob2_def]
    unfold RS
    rw [op_12, bS, oi_15, bS, op_13, bS, oi_16, bS, op_14, bS, if_pos rfl]
    have f15 : upd (gTk g' (nN (enN f n e.2)) (nN e.2) (nN (vlN f n e.2)) (nN (kdN f n e.2))) 12 0 15 = nN e.1 := w2
    rw [f15]
    have f16 : upd (upd (gTk g' (nN (enN f n e.2)) (nN e.2) (nN (vlN f n e.2)) (nN (kdN f n e.2))) 12 0) 13 (nN e.1) 16 = nN e.2 := w3
    rw [f16]
    have k5 : upd (upd (upd (gTk g' (nN (enN f n e.2)) (nN e.2) (nN (vlN f n e.2)) (nN (kdN f n e.2))) 12 0) 13 (nN e.1)) 14 (nN e.2) 5 = g 5 := (w4 5 (by decide) (by decide) (by decide)).trans g5
    have k6 : upd (upd (upd (gTk g' (nN (enN f n e.2)) (nN e.2) (nN (vlN f n e.2)) (nN (kdN f n e.2))) 12 0) 13 (nN e.1)) 14 (nN e.2) 6 = g 6 := (w4 6 (by decide) (by decide) (by decide)).trans g6
    have k27 : upd (upd (upd (gTk g' (nN (enN f n e.2)) (nN e.2) (nN (vlN f n e.2)) (nN (kdN f n e.2))) 12 0) 13 (nN e.1)) 14 (nN e.2) 27 = g 27 := (w4 27 (by decide) (by decide) (by decide)).trans g27
    exact ld_rest (g1 := g) (A3 := A3) (fun i hi => if_neg (by omega)) hv ⟨k5, k6, rfl, rfl, rfl, k27⟩ (fun i hi => by rw [up2_n (by decide), hA2]; exact k2 i hi) (fun i hi => by rw [up2_n (by decide), hA7]; exact k7 i hi) ⟨by rw [up2_n (by decide)]; exact hA5, by rw [up2_n (by decide)]; exact hA4, by rw [up2_n (by decide)]; exact hA13⟩
  | inr y =>
    obtain ⟨g', w1, w2, w3⟩ := hr
    have hy := hSI y rfl
    rw [w1, ob2_def]
    unfold RS
    rw [cut_z hy.big, op_12, bS, oi_15, bS, op_13, bS, oi_16, bS, op_14, bS, if_neg i10]
    have f15 : upd (gTk g' (nN (enN f n y.2.2.2)) (nN y.2.2.2) (nN (vlN f n y.2.2.2)) (nN (kdN f n y.2.2.2))) 12 0 15 = 0 := (w3 15 (by decide)).trans g15
    rw [f15]
    have f16 : upd (upd (gTk g' (nN (enN f n y.2.2.2)) (nN y.2.2.2) (nN (vlN f n y.2.2.2)) (nN (kdN f n y.2.2.2))) 12 0) 13 0 16 = mI := (w3 16 (by decide)).trans g16
    rw [f16, op_5, bS]
    have e66 : ∀ G AA, sZ 6 6 (ovl B m G AA) m (0 : Int32) = some (ovl B m (upd G 6 0) AA) := fun G AA => by unfold sZ; rw [if_pos (Or.inl rfl), op_6]
    have r1 : ∀ G, aI 0 (ovl B m G (up2 (up2 A3 6 (fun i => nN (y.2.1 i))) 1 (enc y.1 (fun _ => none)))) (m + 1) (1 : Int32) = some (nN (y.1 1)) := fun G => er_v (i := 1) (by decide) (by decide)
    rw [e66, bS, or_0, bS, r1, bS]
    refine ⟨_, _, rfl, ⟨rfl, rfl, rfl, rfl, rfl, ?_⟩, ?_, fun i hi => by rw [up2_s]⟩
    · exact (w3 27 (by decide)).trans g27
    · rw [up2_n (by decide)]; exact hA13
end RL
