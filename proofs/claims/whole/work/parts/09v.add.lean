/-! addChild -/
section AD1
theorem orI (a b : Nat) : nN a ||| nN b = nN (a ||| b) := by
  apply Int32.toBitVec_inj.1
  show BitVec.ofNat 32 a ||| BitVec.ofNat 32 b = BitVec.ofNat 32 (a ||| b)
  apply BitVec.eq_of_getLsbD_eq
  intro i hi
  simp [hi]
def dgs (D : Nat) : Nat := if D < 10 then 1 else if D < 100 then 2 else if D < 1000 then 3 else 4
def dlo (D k : Nat) : Nat := D / 10 ^ k % 10
def dw (D i : Nat) : Nat := dlo D (dgs D - 1 - i) - 1
def okK (n0 D k : Nat) : Prop := ∀ i, i < k → (1 ≤ dlo D i ∧ dlo D i ≤ n0) ∧ ∀ j, j < i → dlo D j ≠ dlo D i
theorem dgs_r (D : Nat) : 1 ≤ dgs D ∧ dgs D ≤ 4 := by
  unfold dgs
  by_cases a : D < 10
  · rw [if_pos a]; omega
  · rw [if_neg a]
    by_cases b : D < 100
    · rw [if_pos b]; omega
    · rw [if_neg b]
      by_cases c : D < 1000
      · rw [if_pos c]; omega
      · rw [if_neg c]; omega
theorem dgs_c (D : Nat) (h : 1 ≤ D ∧ D ≤ 9999) : (dgs D = 1 ∧ D < 10) ∨ (dgs D = 2 ∧ 10 ≤ D ∧ D < 100) ∨ (dgs D = 3 ∧ 100 ≤ D ∧ D < 1000) ∨ (dgs D = 4 ∧ 1000 ≤ D ∧ D < 10000) := by
  unfold dgs
  by_cases a : D < 10
  · rw [if_pos a]; omega
  · rw [if_neg a]
    by_cases b : D < 100
    · rw [if_pos b]; omega
    · rw [if_neg b]
      by_cases c : D < 1000
      · rw [if_pos c]; omega
      · rw [if_neg c]; omega
theorem p10 : (10 ^ 0 = 1) ∧ (10 ^ 1 = 10) ∧ (10 ^ 2 = 100) ∧ (10 ^ 3 = 1000) ∧ (10 ^ 4 = 10000) := by decide
theorem dg_pos {D k : Nat} (h : 1 ≤ D ∧ D ≤ 9999) (hk : k < dgs D) : 0 < D / 10 ^ k := by
  have hc := dgs_c D h
  obtain ⟨a0, a1, a2, a3, a4⟩ := p10
  have hk4 : k = 0 ∨ k = 1 ∨ k = 2 ∨ k = 3 := by omega
  rcases hk4 with e | e | e | e
  · rw [e, a0]; omega
  · rw [e, a1]; omega
  · rw [e, a2]; omega
  · rw [e, a3]; omega
theorem dg_end {D : Nat} (h : 1 ≤ D ∧ D ≤ 9999) : D / 10 ^ dgs D = 0 := by
  have hc := dgs_c D h
  obtain ⟨a0, a1, a2, a3, a4⟩ := p10
  rcases hc with ⟨e, hc⟩ | ⟨e, hc⟩ | ⟨e, hc⟩ | ⟨e, hc⟩
  · rw [e, a1]; omega
  · rw [e, a2]; omega
  · rw [e, a3]; omega
  · rw [e, a4]; omega
theorem dg_big {D j : Nat} (h : 1 ≤ D ∧ D ≤ 9999) : (D / 10 ^ j ≤ 9) = (dgs D - 1 ≤ j) := by
  have hc := dgs_c D h
  obtain ⟨a0, a1, a2, a3, a4⟩ := p10
  by_cases hj : 4 ≤ j
  · have h1 : 10 ^ 4 ≤ 10 ^ j := Nat.pow_le_pow_right (by decide) hj
    rw [a4] at h1
    have h2 : D / 10 ^ j = 0 := Nat.div_eq_of_lt (by omega)
    rw [h2]
    exact propext ⟨fun _ => by omega, fun _ => by omega⟩
  · have hk4 : j = 0 ∨ j = 1 ∨ j = 2 ∨ j = 3 := by omega
    rcases hk4 with e | e | e | e
    · rw [e, a0]; exact propext ⟨fun _ => by omega, fun _ => by omega⟩
    · rw [e, a1]; exact propext ⟨fun _ => by omega, fun _ => by omega⟩
    · rw [e, a2]; exact propext ⟨fun _ => by omega, fun _ => by omega⟩
    · rw [e, a3]; exact propext ⟨fun _ => by omega, fun _ => by omega⟩
theorem p10_lt {k : Nat} (hk : k ≤ 4) : 0 < 10 ^ k ∧ 10 ^ k ≤ 10000 := ⟨Nat.pow_pos (by decide), by have := Nat.pow_le_pow_right (n := 10) (by decide) hk; rw [p10.2.2.2.2] at this; exact this⟩
theorem d_div {a : Nat} (ha : a < 2147483648) : nN a / (10 : Int32) = nN (a / 10) := pk_div (a := a) (d := 10) (by omega) (by decide) (by decide)
theorem d_rem {a : Nat} (ha : a < 2147483648) : nN a - nN a / (10 : Int32) * (10 : Int32) = nN (a % 10) := pk_rem (a := a) (d := 10) (by omega) (by decide) (by decide)
theorem d_nx {D k : Nat} : D / 10 ^ k / 10 = D / 10 ^ (k + 1) := by rw [Nat.div_div_eq_div_mul, Nat.pow_succ]
theorem rwN_cons {w : Nat → Nat} : ∀ k, rwN w (k + 1) = 16 * rwN (fun i => w (i + 1)) k + (w 0 + 1) := by
  intro k
  induction k with
  | zero => show 0 + (w 0 + 1) * 16 ^ 0 = 16 * 0 + (w 0 + 1); omega
  | succ k ih =>
    have e : (w (k + 1) + 1) * 16 ^ (k + 1) = 16 * ((w (k + 1) + 1) * 16 ^ k) := by rw [Nat.pow_succ, ← Nat.mul_assoc, Nat.mul_comm]
    show rwN w (k + 1) + (w (k + 1) + 1) * 16 ^ (k + 1) = 16 * (rwN (fun i => w (i + 1)) k + (w (k + 1) + 1) * 16 ^ k) + (w 0 + 1)
    rw [ih, e]
    omega
def rwK (D k : Nat) : Nat := rwN (fun i => dlo D (k - 1 - i) - 1) k
theorem dlo_lt (D k : Nat) : dlo D k < 10 := Nat.mod_lt _ (by decide)
theorem rwK_lt {D k : Nat} (hk : k ≤ 4) : rwK D k < 65536 := rw4 hk (fun i hi => by have := dlo_lt D (k - 1 - i); omega)
theorem rwK_s {D k : Nat} (h : 1 ≤ dlo D k) : rwK D (k + 1) = 16 * rwK D k + dlo D k := by
  unfold rwK
  rw [rwN_cons]
  have e1 : rwN (fun i => dlo D (k + 1 - 1 - (i + 1)) - 1) k = rwN (fun i => dlo D (k - 1 - i) - 1) k := rwN_c (fun i hi => by rw [show k + 1 - 1 - (i + 1) = k - 1 - i by omega])
  have e2 : dlo D (k + 1 - 1 - 0) - 1 + 1 = dlo D k := by rw [show k + 1 - 1 - 0 = k by omega]; omega
  show 16 * rwN (fun i => dlo D (k + 1 - 1 - (i + 1)) - 1) k + (dlo D (k + 1 - 1 - 0) - 1 + 1) = _
  rw [e1, e2]
theorem rwK_i {D k : Nat} (hk : k ≤ 4) (h : 1 ≤ dlo D k) : ((nN (rwK D k) <<< ((4 : Int32) &&& 31)) ||| (nN (dlo D k - 1) + (1 : Int32))) = nN (rwK D (k + 1)) := by
  have hl := rwK_lt (D := D) hk
  have e1 : nN (rwK D k) <<< ((4 : Int32) &&& 31) = nN (rwK D k * 2 ^ 4) := pk_shlN (n := rwK D k) ((4 : Int32) &&& 31) 4 (by decide) (by omega)
  have e2 : nN (dlo D k - 1) + (1 : Int32) = nN (dlo D k) := by rw [show nN (dlo D k - 1) + (1 : Int32) = nN (dlo D k - 1 + 1) from nN_add _ 1, show dlo D k - 1 + 1 = dlo D k by omega]
  have hd := dlo_lt D k
  rw [e1, e2, orI, rwK_s h, Nat.mul_comm (rwK D k), ← Nat.two_pow_add_eq_or_of_lt (show dlo D k < 2 ^ 4 by omega)]
theorem okK_le {n0 D k k' : Nat} (h : okK n0 D k') (hk : k ≤ k') : okK n0 D k := fun i hi => h i (by omega)
theorem okK_s {n0 D k : Nat} (h : okK n0 D k) (h1 : 1 ≤ dlo D k ∧ dlo D k ≤ n0) (h2 : ∀ j, j < k → dlo D j ≠ dlo D k) : okK n0 D (k + 1) := fun i hi => by
  by_cases e : i = k
  · subst e; exact ⟨h1, h2⟩
  · exact h i (by omega)
theorem c_wr {M : Mem} {z r t n0 : Nat} (h5 : gR 5 3 M z = some r) (h2 : gR 2 0 M r = some t) (h4 : gI 4 0 M t = some (nN n0)) (hn : n0 ≤ 8) {D : Nat} (hD : 1 ≤ D ∧ D ≤ 9999) (k1 : Unit → Option Int32) (k2 : Int32 → Option Int32) : ∀ d k fu, k + d = dgs D → d < fu → okK n0 D k → (okK n0 D (dgs D) → pl_X6_wishRow_18 k1 k2 z M fu (nN (rwK D k)) (nN (D / 10 ^ k)) = k2 (nN (rwK D (dgs D)))) ∧ (¬ okK n0 D (dgs D) → pl_X6_wishRow_18 k1 k2 z M fu (nN (rwK D k)) (nN (D / 10 ^ k)) = k1 ()) := by
  have hm := dgs_r D
  intro d
  induction d with
  | zero =>
    intro k fu hk hf ho
    obtain ⟨f, rfl⟩ : ∃ f, fu = f + 1 := ⟨fu - 1, by omega⟩
    have ek : k = dgs D := by omega
    subst ek
    refine ⟨fun _ => ?_, fun h => absurd ho h⟩
    rw [pl_X6_wishRow_18, dg_end hD, if_pos (show nN 0 ≤ (0 : Int32) by decide)]
  | succ d ih =>
    intro k fu hk hf ho
    obtain ⟨f, rfl⟩ : ∃ f, fu = f + 1 := ⟨fu - 1, by omega⟩
    have hp := dg_pos hD (k := k) (by omega)
    have hle : D / 10 ^ k ≤ D := Nat.div_le_self _ _
    have er : nN (D / 10 ^ k) - nN (D / 10 ^ k) / (10 : Int32) * (10 : Int32) = nN (dlo D k) := d_rem (by omega)
    have en : nN (D / 10 ^ k) / (10 : Int32) = nN (D / 10 ^ (k + 1)) := by rw [d_div (by omega), d_nx]
    have hd := dlo_lt D k
    have bad : ¬ okK n0 D (k + 1) → (pl_X6_wishRow_18 k1 k2 z M (f + 1) (nN (rwK D k)) (nN (D / 10 ^ k)) = k1 ()) → (okK n0 D (dgs D) → pl_X6_wishRow_18 k1 k2 z M (f + 1) (nN (rwK D k)) (nN (D / 10 ^ k)) = k2 (nN (rwK D (dgs D)))) ∧ (¬ okK n0 D (dgs D) → pl_X6_wishRow_18 k1 k2 z M (f + 1) (nN (rwK D k)) (nN (D / 10 ^ k)) = k1 ()) := fun h1 h2 => ⟨fun h => absurd (okK_le h (by omega)) h1, fun _ => h2⟩
    by_cases e0 : dlo D k = 0
    · refine bad (fun h => by have := (h k (by omega)).1.1; omega) ?_
      rw [pl_X6_wishRow_18, if_neg (show ¬ nN (D / 10 ^ k) ≤ (0 : Int32) from nle_f (b := 0) (by omega) (by omega) (by omega)), er, e0, if_pos (show nN 0 - (1 : Int32) < (0 : Int32) by decide)]
    · have es : nN (dlo D k) - (1 : Int32) = nN (dlo D k - 1) := nN_subN (a := dlo D k) (b := 1) (by omega)
      by_cases e1 : dlo D k ≤ n0
      · have hrow := c_rowIndex (w := fun i => dlo D (k - 1 - i) - 1) (n := k) (s := dlo D k - 1) (M := M) (by omega) (fun i hi => by have := dlo_lt D (k - 1 - i); show dlo D (k - 1 - i) - 1 < 15; omega) (by omega)
        have hrow : p_X6_rowIndex (nN (rwK D k)) (nN (dlo D k - 1)) M = some (oN (fnd (fun i => dlo D (k - 1 - i) - 1 = dlo D k - 1) 0 k)) := hrow
        cases hf2 : fnd (fun i => dlo D (k - 1 - i) - 1 = dlo D k - 1) 0 k with
        | some j =>
          obtain ⟨-, j2, j3, -⟩ := fnd_some hf2
          refine bad (fun h => ?_) ?_
          · have h3 := (h (k - 1 - j) (by omega)).1.1
            exact (h k (by omega)).2 (k - 1 - j) (by omega) (by omega)
          · rw [pl_X6_wishRow_18, if_neg (show ¬ nN (D / 10 ^ k) ≤ (0 : Int32) from nle_f (b := 0) (by omega) (by omega) (by omega)), er, es, if_neg (nN_neg0 (by omega)), h5, bS, h2, bS, h4, bS, if_neg (nle_f (by omega) (by omega) (by omega)), hrow, bS, hf2, if_neg (show ¬ oN (some j) = (-1 : Int32) from nNm (by omega))]
        | none =>
          have ok2 : okK n0 D (k + 1) := okK_s ho ⟨by omega, e1⟩ (fun j hj h => fnd_none hf2 (k - 1 - j) (Nat.zero_le _) (by omega) (by rw [show k - 1 - (k - 1 - j) = j by omega, h]))
          obtain ⟨i1, i2⟩ := ih (k + 1) f (by omega) (by omega) ok2
          have st : pl_X6_wishRow_18 k1 k2 z M (f + 1) (nN (rwK D k)) (nN (D / 10 ^ k)) = pl_X6_wishRow_18 k1 k2 z M f (nN (rwK D (k + 1))) (nN (D / 10 ^ (k + 1))) := by
            rw [pl_X6_wishRow_18, if_neg (show ¬ nN (D / 10 ^ k) ≤ (0 : Int32) from nle_f (b := 0) (by omega) (by omega) (by omega)), er, es, if_neg (nN_neg0 (by omega)), h5, bS, h2, bS, h4, bS, if_neg (nle_f (by omega) (by omega) (by omega)), hrow, bS, hf2, if_pos (show oN none = (-1 : Int32) from rfl), rwK_i (by omega) (by omega), en]
          exact ⟨fun h => st.trans (i1 h), fun h => st.trans (i2 h)⟩
      · refine bad (fun h => by have := (h k (by omega)).1.2; omega) ?_
        rw [pl_X6_wishRow_18, if_neg (show ¬ nN (D / 10 ^ k) ≤ (0 : Int32) from nle_f (b := 0) (by omega) (by omega) (by omega)), er, es, if_neg (nN_neg0 (by omega)), h5, bS, h2, bS, h4, bS, if_pos (nle_t (by omega) (by omega) (by omega))]
theorem c_wishRow {M : Mem} {z r t n0 : Nat} (h5 : gR 5 3 M z = some r) (h2 : gR 2 0 M r = some t) (h4 : gI 4 0 M t = some (nN n0)) (hn : n0 ≤ 8) {D : Nat} (hD : 1 ≤ D ∧ D ≤ 9999) : (okK n0 D (dgs D) → p_X6_wishRow z (nN D) M = some (nN (rwN (dw D) (dgs D)))) ∧ (¬ okK n0 D (dgs D) → p_X6_wishRow z (nN D) M = some (-1 : Int32)) := by
  obtain ⟨i1, i2⟩ := c_wr h5 h2 h4 hn hD (fun _ => some (-1 : Int32)) (fun z12 => some z12) (dgs D) 0 FU (by omega) (FU_pos (by have := dgs_r D; omega)) (fun i hi => by omega)
  rw [Nat.pow_zero, Nat.div_one] at i1 i2
  have e1 : ¬ nN D < (1 : Int32) := nlt_f (b := 1) (by omega) (by omega) (by omega)
  have e2 : nN D ≤ (9999 : Int32) := nle_t (b := 9999) (by omega) (by omega) (by omega)
  refine ⟨fun h => ?_, fun h => ?_⟩
  · unfold p_X6_wishRow
    rw [if_neg e1, if_pos e2, jn_def]
    exact i1 h
  · unfold p_X6_wishRow
    rw [if_neg e1, if_pos e2, jn_def]
    exact i2 h
theorem c_wishRow_o {M : Mem} {z : Nat} {x : Int32} (hx : x < (1 : Int32) ∨ (¬ x < (1 : Int32) ∧ ¬ x ≤ (9999 : Int32))) : p_X6_wishRow z x M = some (-1 : Int32) := by
  unfold p_X6_wishRow
  rcases hx with hx | ⟨h1, h2⟩
  · rw [if_pos hx]
  · rw [if_neg h1, if_neg h2]
theorem n_bit1 {N s : Nat} (hN : N < 2147483648) (hs : s < 31) : (((nN N >>> (nN s &&& 31)) &&& (1 : Int32)) = (1 : Int32)) = (N.testBit s = true) := by
  have e : (nN N >>> (nN s &&& 31)) &&& (1 : Int32) = nN (N / 2 ^ s % 2) := by
    have e0 : nN N >>> (nN s &&& 31) = nI (N / 2 ^ s) := pk_shrN (n := N) (by omega) _ s (s_l s (by omega))
    rw [e0]
    exact fa_mask _ 1
  have h2 : N / 2 ^ s % 2 < 2 := Nat.mod_lt _ (by decide)
  have e1 : (nN (N / 2 ^ s % 2) = (1 : Int32)) = (N / 2 ^ s % 2 = 1) := nN_eq (b := 1) (by omega) (by omega)
  rw [e, e1, Nat.testBit_eq_decide_div_mod_eq, decide_eq_true_eq]
theorem n_bor {N s : Nat} (hs : s < 31) : (nN N ||| ((1 : Int32) <<< (nN s &&& 31))) = nN (N ||| 2 ^ s) := by
  have hp : 2 ^ s < 2 ^ 31 := Nat.pow_lt_pow_right (by decide) hs
  have e0 : (1 : Int32) <<< (nN s &&& 31) = nN (1 * 2 ^ s) := pk_shlN (n := 1) _ s (s_l s (by omega)) (by omega)
  rw [e0, Nat.one_mul, orI]
end AD1
section AD2
variable {B : Mem} {m : Nat} {g : Nat → Int32} {a : Nat → Nat → Int32} {v : Nat → Nat} {pl : Nat → Option Nat}
theorem e_aw (hI : Inv v pl) {D : Nat} (hD : 1 ≤ D ∧ D ≤ 9999) (k1 : Unit → Option Int32) (k2 : Unit → Option Int32) : ∀ d k fu mk, k + d = dgs D → d < fu → okK (v 0) D k → mk < 256 → (∀ y, mk.testBit y = true ↔ ∃ i, i < k ∧ dlo D i = y + 1) → (okK (v 0) D (dgs D) → pl_X7_areWishes_17 k1 k2 m (ovl B m g (up2 a 1 (enc v pl))) fu (nN mk) (nN (D / 10 ^ k)) = k2 ()) ∧ (¬ okK (v 0) D (dgs D) → pl_X7_areWishes_17 k1 k2 m (ovl B m g (up2 a 1 (enc v pl))) fu (nN mk) (nN (D / 10 ^ k)) = k1 ()) := by
  have hm := dgs_r D
  have h0 := hI.h0
  intro d
  induction d with
  | zero =>
    intro k fu mk hk hf ho h256 hbt
    obtain ⟨f, rfl⟩ : ∃ f, fu = f + 1 := ⟨fu - 1, by omega⟩
    have ek : k = dgs D := by omega
    subst ek
    refine ⟨fun _ => ?_, fun h => absurd ho h⟩
    rw [pl_X7_areWishes_17, dg_end hD, if_pos (show nN 0 ≤ (0 : Int32) by decide)]
  | succ d ih =>
    intro k fu mk hk hf ho h256 hbt
    obtain ⟨f, rfl⟩ : ∃ f, fu = f + 1 := ⟨fu - 1, by omega⟩
    have hp := dg_pos hD (k := k) (by omega)
    have hle : D / 10 ^ k ≤ D := Nat.div_le_self _ _
    have er : nN (D / 10 ^ k) - nN (D / 10 ^ k) / (10 : Int32) * (10 : Int32) = nN (dlo D k) := d_rem (by omega)
    have en : nN (D / 10 ^ k) / (10 : Int32) = nN (D / 10 ^ (k + 1)) := by rw [d_div (by omega), d_nx]
    have hd := dlo_lt D k
    have r0 : aI 0 (ovl B m g (up2 a 1 (enc v pl))) (m + 1) (0 : Int32) = some (nN (v 0)) := er_v (i := 0) (by omega) (by omega)
    have bad : ¬ okK (v 0) D (k + 1) → (pl_X7_areWishes_17 k1 k2 m (ovl B m g (up2 a 1 (enc v pl))) (f + 1) (nN mk) (nN (D / 10 ^ k)) = k1 ()) → (okK (v 0) D (dgs D) → pl_X7_areWishes_17 k1 k2 m (ovl B m g (up2 a 1 (enc v pl))) (f + 1) (nN mk) (nN (D / 10 ^ k)) = k2 ()) ∧ (¬ okK (v 0) D (dgs D) → pl_X7_areWishes_17 k1 k2 m (ovl B m g (up2 a 1 (enc v pl))) (f + 1) (nN mk) (nN (D / 10 ^ k)) = k1 ()) := fun h1 h2 => ⟨fun h => absurd (okK_le h (by omega)) h1, fun _ => h2⟩
    by_cases e0 : dlo D k = 0
    · refine bad (fun h => by have := (h k (by omega)).1.1; omega) ?_
      have ri : p_X7_inRange (nN (dlo D k) - (1 : Int32)) (0 : Int32) (nN (v 0) - (1 : Int32)) (ovl B m g (up2 a 1 (enc v pl))) = some (nN 0) := rng_out (by omega) (Or.inl (by rw [e0]; decide))
      rw [pl_X7_areWishes_17, if_neg (show ¬ nN (D / 10 ^ k) ≤ (0 : Int32) from nle_f (b := 0) (by omega) (by omega) (by omega)), or_0, bS, r0, bS, er, ri, bS, if_pos (by rfl)]
    · have es : nN (dlo D k) - (1 : Int32) = nN (dlo D k - 1) := nN_subN (a := dlo D k) (b := 1) (by omega)
      by_cases e1 : dlo D k ≤ v 0
      · have ri : p_X7_inRange (nN (dlo D k - 1)) (0 : Int32) (nN (v 0) - (1 : Int32)) (ovl B m g (up2 a 1 (enc v pl))) = some (nN 1) := rng_in (by omega) (by omega)
        by_cases et : mk.testBit (dlo D k - 1) = true
        · obtain ⟨i, i1, i2⟩ := (hbt _).mp et
          refine bad (fun h => (h k (by omega)).2 i i1 (by omega)) ?_
          rw [pl_X7_areWishes_17, if_neg (show ¬ nN (D / 10 ^ k) ≤ (0 : Int32) from nle_f (b := 0) (by omega) (by omega) (by omega)), or_0, bS, r0, bS, er, es, ri, bS, if_neg (by decide), if_pos (by rw [n_bit1 (by omega) (by omega)]; exact et)]
        · have ok2 : okK (v 0) D (k + 1) := okK_s ho ⟨by omega, e1⟩ (fun j hj h => et ((hbt _).mpr ⟨j, hj, by omega⟩))
          have hp2 : 2 ^ (dlo D k - 1) < 2 ^ 8 := Nat.pow_lt_pow_right (by decide) (by omega)
          obtain ⟨i1, i2⟩ := ih (k + 1) f (mk ||| 2 ^ (dlo D k - 1)) (by omega) (by omega) ok2 (Nat.or_lt_two_pow (n := 8) (by omega) hp2) (fun y => by
            rw [Nat.testBit_or, Nat.testBit_two_pow, Bool.or_eq_true, decide_eq_true_eq, hbt y]
            constructor
            · rintro (⟨i, i1, i2⟩ | h)
              · exact ⟨i, by omega, i2⟩
              · exact ⟨k, by omega, by omega⟩
            · rintro ⟨i, i1, i2⟩
              by_cases e : i = k
              · subst e; exact Or.inr (by omega)
              · exact Or.inl ⟨i, by omega, i2⟩)
          have st : pl_X7_areWishes_17 k1 k2 m (ovl B m g (up2 a 1 (enc v pl))) (f + 1) (nN mk) (nN (D / 10 ^ k)) = pl_X7_areWishes_17 k1 k2 m (ovl B m g (up2 a 1 (enc v pl))) f (nN (mk ||| 2 ^ (dlo D k - 1))) (nN (D / 10 ^ (k + 1))) := by
            rw [pl_X7_areWishes_17, if_neg (show ¬ nN (D / 10 ^ k) ≤ (0 : Int32) from nle_f (b := 0) (by omega) (by omega) (by omega)), or_0, bS, r0, bS, er, es, ri, bS, if_neg (by decide), if_neg (by rw [n_bit1 (by omega) (by omega)]; exact et), n_bor (by omega), en]
          exact ⟨fun h => st.trans (i1 h), fun h => st.trans (i2 h)⟩
      · refine bad (fun h => by have := (h k (by omega)).1.2; omega) ?_
        have ri : p_X7_inRange (nN (dlo D k - 1)) (0 : Int32) (nN (v 0) - (1 : Int32)) (ovl B m g (up2 a 1 (enc v pl))) = some (nN 0) := rng_out (by omega) (Or.inr (nle_t (by omega) (by omega) (by omega)))
        rw [pl_X7_areWishes_17, if_neg (show ¬ nN (D / 10 ^ k) ≤ (0 : Int32) from nle_f (b := 0) (by omega) (by omega) (by omega)), or_0, bS, r0, bS, er, es, ri, bS, if_pos (by rfl)]
theorem e_areWishes (hI : Inv v pl) {D : Nat} (hD : 1 ≤ D ∧ D ≤ 9999) : (okK (v 0) D (dgs D) → p_X7_areWishes m (nN D) (ovl B m g (up2 a 1 (enc v pl))) = some (1 : Int32)) ∧ (¬ okK (v 0) D (dgs D) → p_X7_areWishes m (nN D) (ovl B m g (up2 a 1 (enc v pl))) = some (0 : Int32)) := by
  obtain ⟨i1, i2⟩ := e_aw (B := B) (m := m) (g := g) (a := a) hI hD (fun _ => some (0 : Int32)) (fun _ => some (1 : Int32)) (dgs D) 0 FU 0 (by omega) (FU_pos (by have := dgs_r D; omega)) (fun i hi => by omega) (by omega) (fun y => ⟨fun h => (by rw [Nat.zero_testBit] at h; cases h), fun ⟨i, hi, _⟩ => (by omega)⟩)
  rw [Nat.pow_zero, Nat.div_one] at i1 i2
  have ri : p_X7_inRange (nN D) (1 : Int32) (9999 : Int32) (ovl B m g (up2 a 1 (enc v pl))) = some (nN 1) := by
    rw [e_inRange, ← bI_t]
    exact ⟨nle_t (a := 1) (by omega) (by omega) (by omega), nle_t (b := 9999) (by omega) (by omega) (by omega)⟩
  refine ⟨fun h => ?_, fun h => ?_⟩
  · unfold p_X7_areWishes
    rw [ri, bS, if_neg (by decide), jn_def]
    exact i1 h
  · unfold p_X7_areWishes
    rw [ri, bS, if_neg (by decide), jn_def]
    exact i2 h
theorem e_areWishes_o {N : Mem} {x : Int32} (hx : x < (1 : Int32) ∨ (¬ x < (1 : Int32) ∧ ¬ x ≤ (9999 : Int32))) : p_X7_areWishes m x N = some (0 : Int32) := by
  have ri : p_X7_inRange x (1 : Int32) (9999 : Int32) N = some (nN 0) := by
    rw [e_inRange, ← bI_f]
    rintro ⟨h1, h2⟩
    rcases hx with hx | ⟨h3, h4⟩
    · rw [i_le] at h1; rw [i_lt] at hx; omega
    · exact h4 h2
  unfold p_X7_areWishes
  rw [ri, bS, if_pos (by rfl)]
theorem e216 {D : Nat} (hD : 1 ≤ D ∧ D ≤ 9999) (k1 : Int32 → Option (Int32 × Mem)) (f7 : Int32) (N : Mem) : ∀ d j fu, j + d = dgs D - 1 → d < fu → pl_X7_addChild_216 k1 m (nN D) f7 N fu (nN (10 ^ j)) = k1 (nN (10 ^ (dgs D - 1))) := by
  have hm := dgs_r D
  intro d
  induction d with
  | zero =>
    intro j fu hj hf
    obtain ⟨f, rfl⟩ : ∃ f, fu = f + 1 := ⟨fu - 1, by omega⟩
    have hp := p10_lt (k := j) (by omega)
    have ed : nN D / nN (10 ^ j) = nN (D / 10 ^ j) := pk_div (a := D) (d := 10 ^ j) (by omega) (by omega) (by omega)
    have hle : D / 10 ^ j ≤ D := Nat.div_le_self _ _
    have h9 : D / 10 ^ j ≤ 9 := by rw [dg_big hD]; omega
    rw [pl_X7_addChild_216, if_pos (show ¬ nN (10 ^ j) = (0 : Int32) from neq_f (b := 0) (by omega) (by omega) (by omega)), ed, if_pos (show nN (D / 10 ^ j) ≤ (9 : Int32) from nle_t (b := 9) (by omega) (by omega) h9), show j = dgs D - 1 by omega]
  | succ d ih =>
    intro j fu hj hf
    obtain ⟨f, rfl⟩ : ∃ f, fu = f + 1 := ⟨fu - 1, by omega⟩
    have hp := p10_lt (k := j) (by omega)
    have ed : nN D / nN (10 ^ j) = nN (D / 10 ^ j) := pk_div (a := D) (d := 10 ^ j) (by omega) (by omega) (by omega)
    have hle : D / 10 ^ j ≤ D := Nat.div_le_self _ _
    have h9 : ¬ D / 10 ^ j ≤ 9 := by rw [dg_big hD]; omega
    have em : nN (10 ^ j) * (10 : Int32) = nN (10 ^ (j + 1)) := by rw [Nat.pow_succ]; exact nN_mul _ 10
    rw [pl_X7_addChild_216, if_pos (show ¬ nN (10 ^ j) = (0 : Int32) from neq_f (b := 0) (by omega) (by omega) (by omega)), ed, if_neg (show ¬ nN (D / 10 ^ j) ≤ (9 : Int32) from nle_f (b := 9) (by omega) (by omega) (by omega)), em, ih (j + 1) f (by omega) (by omega)]
def wKp (vB : Nat → Nat) (c : Nat) (wd : Nat → Nat) (i : Nat) : Nat → Nat := fun j => if j = 324 + c then i else if 564 + 4 * c ≤ j ∧ j < 564 + 4 * c + i then wd (j - (564 + 4 * c)) else vB j
theorem wKp_s {vB : Nat → Nat} {c i : Nat} {wd : Nat → Nat} (hc : c < 40) : updN (updN (wKp vB c wd i) (564 + 4 * c + i) (wd i)) (324 + c) (i + 1) = wKp vB c wd (i + 1) := by
  funext j
  unfold updN wKp
  by_cases e1 : j = 324 + c
  · rw [if_pos e1, if_pos e1]
  · simp only [if_neg e1]
    by_cases e2 : j = 564 + 4 * c + i
    · rw [if_pos e2, if_pos (by omega), e2, show 564 + 4 * c + i - (564 + 4 * c) = i by omega]
    · rw [if_neg e2]
      by_cases e3 : 564 + 4 * c ≤ j ∧ j < 564 + 4 * c + i
      · rw [if_pos e3, if_pos (by omega)]
      · rw [if_neg e3, if_neg (by omega)]
theorem wKp_0 {vB : Nat → Nat} {c : Nat} {wd : Nat → Nat} : updN vB (324 + c) 0 = wKp vB c wd 0 := by
  funext j
  unfold updN wKp
  by_cases e1 : j = 324 + c
  · rw [if_pos e1, if_pos e1]
  · rw [if_neg e1, if_neg e1, if_neg (by omega)]
theorem e248 {D c : Nat} {vB : Nat → Nat} (hD : 1 ≤ D ∧ D ≤ 9999) (hok : ∀ i, i < dgs D → 1 ≤ dlo D i) (hc : c < 40) (k1 : Mem → Option (Int32 × Mem)) : ∀ d i fu, i + d = dgs D → d < fu → pl_X7_addChild_248 k1 m (nN D) (nN c) fu (nN (if i < dgs D then 10 ^ (dgs D - 1 - i) else 0)) (ovl B m g (up2 a 1 (enc (wKp vB c (dw D) i) pl))) = k1 (ovl B m g (up2 a 1 (enc (wKp vB c (dw D) (dgs D)) pl))) := by
  have hm := dgs_r D
  intro d
  induction d with
  | zero =>
    intro i fu hi hf
    obtain ⟨f, rfl⟩ : ∃ f, fu = f + 1 := ⟨fu - 1, by omega⟩
    rw [if_neg (by omega), pl_X7_addChild_248, if_pos (show nN 0 ≤ (0 : Int32) by decide), show i = dgs D by omega]
  | succ d ih =>
    intro i fu hi hf
    obtain ⟨f, rfl⟩ : ∃ f, fu = f + 1 := ⟨fu - 1, by omega⟩
    have hp := p10_lt (k := dgs D - 1 - i) (by omega)
    have ed : nN D / nN (10 ^ (dgs D - 1 - i)) = nN (D / 10 ^ (dgs D - 1 - i)) := pk_div (a := D) (d := 10 ^ (dgs D - 1 - i)) (by omega) (by omega) (by omega)
    have hle : D / 10 ^ (dgs D - 1 - i) ≤ D := Nat.div_le_self _ _
    have er : nN (D / 10 ^ (dgs D - 1 - i)) - nN (D / 10 ^ (dgs D - 1 - i)) / (10 : Int32) * (10 : Int32) = nN (dlo D (dgs D - 1 - i)) := d_rem (by omega)
    have h1 := hok (dgs D - 1 - i) (by omega)
    have es : nN (dlo D (dgs D - 1 - i)) - (1 : Int32) = nN (dw D i) := nN_subN (a := dlo D (dgs D - 1 - i)) (b := 1) h1
    have ey : nN (10 ^ (dgs D - 1 - i)) / (10 : Int32) = nN (if i + 1 < dgs D then 10 ^ (dgs D - 1 - (i + 1)) else 0) := by
      rw [d_div (by omega)]
      by_cases e : i + 1 < dgs D
      · rw [if_pos e, show dgs D - 1 - i = (dgs D - 1 - (i + 1)) + 1 by omega, Nat.pow_succ, Nat.mul_div_cancel _ (by decide)]
      · rw [if_neg e, show dgs D - 1 - i = 0 by omega]
    have ei : ((564 : Int32) + (4 : Int32) * nN c) + nN i = nN (564 + 4 * c + i) := by
      rw [show (4 : Int32) = nN 4 from rfl, nN_mul, show (564 : Int32) = nN 564 from rfl, nN_add, nN_add]
    have e3 : (324 : Int32) + nN c = nN (324 + c) := nN_add 324 c
    have ek : nN i + (1 : Int32) = nN (i + 1) := nN_add i 1
    have w3 : wKp vB c (dw D) i (324 + c) = i := if_pos rfl
    have w4 : updN (wKp vB c (dw D) i) (564 + 4 * c + i) (dw D i) (324 + c) = i := (updN_n (by omega)).trans w3
    rw [if_pos (by omega), pl_X7_addChild_248, if_neg (show ¬ nN (10 ^ (dgs D - 1 - i)) ≤ (0 : Int32) from nle_f (b := 0) (by omega) (by omega) (by omega)), or_0, bS, bS, e3, er_v (by omega) (by omega), bS, w3, if_pos (show ¬ nN (10 ^ (dgs D - 1 - i)) = (0 : Int32) from neq_f (b := 0) (by omega) (by omega) (by omega)), ei, ed, er, es, ew_v (by omega) (by omega), bS, or_0, bS, er_v (by omega) (by omega), bS, w4, ek, ew_v (by omega) (by omega), bS, wKp_s hc, ey, ih (i + 1) f (by omega) (by omega)]
theorem e_draws {c : Nat} (hc : c < 40) : p_X7_draws m (nN c) (ovl B m g (up2 a 1 (enc v pl))) = some (ovl B m g (up2 a 1 (enc (updN (updN v 11 ((v 11 * 1103515245 + 12345) % 2147483648)) (284 + c) ((v 11 * 1103515245 + 12345) % 2147483648 / 65536 % 10000)) pl))) := by
  unfold p_X7_draws
  have hl : (v 11 * 1103515245 + 12345) % 2147483648 < 2147483648 := Nat.mod_lt _ (by decide)
  have q1 : aI 0 (ovl B m g (up2 a 1 (enc v pl))) (m + 1) (11 : Int32) = some (nN (v 11)) := er_v (i := 11) (by omega) (by omega)
  have q2 : aIs (ovl B m g (up2 a 1 (enc v pl))) (m + 1) (11 : Int32) (nN ((v 11 * 1103515245 + 12345) % 2147483648)) = some (ovl B m g (up2 a 1 (enc (updN v 11 ((v 11 * 1103515245 + 12345) % 2147483648)) pl))) := ew_v (i := 11) (by omega) (by omega)
  have q3 : aI 0 (ovl B m g (up2 a 1 (enc (updN v 11 ((v 11 * 1103515245 + 12345) % 2147483648)) pl))) (m + 1) (11 : Int32) = some (nN ((v 11 * 1103515245 + 12345) % 2147483648)) := (er_v (i := 11) (by omega) (by omega)).trans (by rw [updN_s])
  rw [or_0, bS, bS, q1, bS, lot_eq, q2, bS, or_0, bS, bS, q3, bS, lot_dr hl, show (284 : Int32) + nN c = nN (284 + c) from nN_add 284 c, ew_v (by omega) (by omega), bS]
def vAd (v : Nat → Nat) (x y f cr : Nat) : Nat → Nat := updN (updN (updN (updN (updN (updN (updN (updN v (124 + v 1) x) (164 + v 1) y) (204 + v 1) f) (244 + v 1) cr) (364 + v 1) (v 8)) (404 + v 1) 0) (524 + v 1) 0) (444 + v 1) 0
theorem enr_eq {x y f cr : Nat} {w : Nat → Nat} {k : Nat} (hn : v 1 < 40) (hk : k ≤ 4) : updN (updN (updN (wKp (vAd v x y f cr) (v 1) w k) 11 ((v 11 * 1103515245 + 12345) % 2147483648)) (284 + v 1) ((v 11 * 1103515245 + 12345) % 2147483648 / 65536 % 10000)) 1 (v 1 + 1) = enrV v x y f cr w k := by
  funext i
  unfold enrV
  generalize (v 11 * 1103515245 + 12345) % 2147483648 = l
  by_cases c1 : i = 1
  · subst c1; rw [updN_s, if_pos rfl]
  rw [updN_n c1, if_neg c1]
  by_cases c2 : i = 11
  · subst c2; rw [updN_n (by omega), updN_s, if_pos rfl]
  rw [if_neg c2]
  by_cases c3 : i = 124 + v 1
  · subst c3
    rw [if_pos rfl, updN_n (by omega), updN_n (by omega)]
    unfold wKp vAd
    rw [if_neg (by omega), if_neg (by omega)]
    repeat rw [updN_n (by omega)]
    exact updN_s
  rw [if_neg c3]
  by_cases c4 : i = 164 + v 1
  · subst c4
    rw [if_pos rfl, updN_n (by omega), updN_n (by omega)]
    unfold wKp vAd
    rw [if_neg (by omega), if_neg (by omega), updN_n (by omega), updN_n (by omega), updN_n (by omega), updN_n (by omega), updN_n (by omega), updN_n (by omega), updN_s]
  rw [if_neg c4]
  by_cases c5 : i = 204 + v 1
  · subst c5
    rw [if_pos rfl, updN_n (by omega), updN_n (by omega)]
    unfold wKp vAd
    rw [if_neg (by omega), if_neg (by omega), updN_n (by omega), updN_n (by omega), updN_n (by omega), updN_n (by omega), updN_n (by omega), updN_s]
  rw [if_neg c5]
  by_cases c6 : i = 244 + v 1
  · subst c6
    rw [if_pos rfl, updN_n (by omega), updN_n (by omega)]
    unfold wKp vAd
    rw [if_neg (by omega), if_neg (by omega), updN_n (by omega), updN_n (by omega), updN_n (by omega), updN_n (by omega), updN_s]
  rw [if_neg c6]
  by_cases c7 : i = 284 + v 1
  · subst c7
    rw [if_pos rfl, updN_s]
  rw [if_neg c7, updN_n c7, updN_n c2]
  unfold wKp
  by_cases c8 : i = 324 + v 1
  · rw [if_pos c8, if_pos c8]
  rw [if_neg c8, if_neg c8]
  by_cases c9 : 564 + 4 * v 1 ≤ i ∧ i < 564 + 4 * v 1 + k
  · rw [if_pos c9, if_neg (by omega), if_neg (by omega), if_neg (by omega), if_neg (by omega), if_pos c9]
  rw [if_neg c9]
  unfold vAd
  by_cases d1 : i = 364 + v 1
  · subst d1
    rw [if_pos rfl, updN_n (by omega), updN_n (by omega), updN_n (by omega), updN_s]
  rw [if_neg d1]
  by_cases d2 : i = 404 + v 1
  · subst d2
    rw [if_pos rfl, updN_n (by omega), updN_n (by omega), updN_s]
  rw [if_neg d2]
  by_cases d3 : i = 444 + v 1
  · subst d3
    rw [if_pos rfl, updN_s]
  rw [if_neg d3]
  by_cases d4 : i = 524 + v 1
  · subst d4
    rw [if_pos rfl, updN_n (by omega), updN_s]
  rw [if_neg d4, if_neg c9, updN_n d3, updN_n d4, updN_n d2, updN_n d1, updN_n c6, updN_n c5, updN_n c4, updN_n c3]
end AD2
