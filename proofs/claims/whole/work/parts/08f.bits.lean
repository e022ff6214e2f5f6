/-! masks of children, rows of four bits, the count of bits -/
theorem nN_nI (n : Nat) : nN n = nI n := rfl
theorem nNm {a : Nat} (h : a < 2147483648) : ¬ (nN a = mI) := by rw [nN_mI h]; exact id
theorem nle_t {a b : Nat} (ha : a < 2147483648) (hb : b < 2147483648) (h : a ≤ b) : nN a ≤ nN b := by rw [nN_le ha hb]; exact h
theorem nle_f {a b : Nat} (ha : a < 2147483648) (hb : b < 2147483648) (h : ¬ a ≤ b) : ¬ nN a ≤ nN b := by rw [nN_le ha hb]; exact h
theorem nlt_t {a b : Nat} (ha : a < 2147483648) (hb : b < 2147483648) (h : a < b) : nN a < nN b := by rw [nN_lt ha hb]; exact h
theorem nlt_f {a b : Nat} (ha : a < 2147483648) (hb : b < 2147483648) (h : ¬ a < b) : ¬ nN a < nN b := by rw [nN_lt ha hb]; exact h
theorem neq_f {a b : Nat} (ha : a < 2147483648) (hb : b < 2147483648) (h : ¬ a = b) : ¬ nN a = nN b := by rw [nN_eq ha hb]; exact h
def mkN (P : Nat → Prop) [DecidablePred P] : Nat → Nat
  | 0 => 0
  | n + 1 => if P n then mkN P n ||| 2 ^ n else mkN P n
def mkL (P : Nat → Prop) [DecidablePred P] (n : Nat) : Int64 := lN (mkN P n)
theorem mkN_tb (P : Nat → Prop) [DecidablePred P] : ∀ n k, (mkN P n).testBit k = decide (k < n ∧ P k) := by
  intro n
  induction n with
  | zero => intro k; simp [mkN]
  | succ n ih =>
    intro k
    unfold mkN
    by_cases h : P n
    · rw [if_pos h, fb_bit_set, ih]
      by_cases hk : k = n
      · subst hk; simp [h]
      · simp only [hk, decide_false, Bool.or_false, decide_eq_decide]
        constructor
        · rintro ⟨h1, h2⟩; exact ⟨by omega, h2⟩
        · rintro ⟨h1, h2⟩; exact ⟨by omega, h2⟩
    · rw [if_neg h, ih]
      simp only [decide_eq_decide]
      constructor
      · rintro ⟨h1, h2⟩; exact ⟨by omega, h2⟩
      · rintro ⟨h1, h2⟩
        refine ⟨?_, h2⟩
        by_cases hk : k = n
        · subst hk; exact absurd h2 h
        · omega
theorem mkN_lt (P : Nat → Prop) [DecidablePred P] : ∀ n, mkN P n < 2 ^ n := by
  intro n
  apply Nat.lt_pow_two_of_testBit
  intro i hi
  rw [mkN_tb]
  simp only [decide_eq_false_iff_not]
  omega
theorem mkN_40 {P : Nat → Prop} [DecidablePred P] {n : Nat} (h : n ≤ 40) : mkN P n < 2 ^ 40 := Nat.lt_of_lt_of_le (mkN_lt P n) (Nat.pow_le_pow_right (by decide) h)
def lb (x : Int64) (i : Nat) : Bool := x.toBitVec.getLsbD i
theorem lb_ext {x y : Int64} (h : ∀ i, i < 64 → lb x i = lb y i) : x = y := Int64.toBitVec_inj.mp (BitVec.eq_of_getLsbD_eq (fun i hi => h i hi))
theorem lb_lN {N i : Nat} (hi : i < 64) : lb (lN N) i = N.testBit i := by
  unfold lb
  rw [lN_bv, BitVec.getLsbD_ofNat]
  simp [hi]
theorem lb_mk {P : Nat → Prop} [DecidablePred P] {n i : Nat} (hi : i < 64) : lb (mkL P n) i = decide (i < n ∧ P i) := by
  unfold mkL; rw [lb_lN hi, mkN_tb]
theorem lb_or (x y : Int64) (i : Nat) : lb (x ||| y) i = (lb x i || lb y i) := by unfold lb; rw [Int64.toBitVec_or, BitVec.getLsbD_or]
theorem lb_and (x y : Int64) (i : Nat) : lb (x &&& y) i = (lb x i && lb y i) := by unfold lb; rw [Int64.toBitVec_and, BitVec.getLsbD_and]
theorem lb_xor (x y : Int64) (i : Nat) : lb (x ^^^ y) i = (lb x i ^^ lb y i) := by unfold lb; rw [Int64.toBitVec_xor, BitVec.getLsbD_xor]
theorem lb_m1 : ∀ i, i < 64 → lb (-1) i = true := by decide +kernel
theorem lb_not (x : Int64) {i : Nat} (hi : i < 64) : lb (x ^^^ (-1 : Int64)) i = !(lb x i) := by rw [lb_xor, lb_m1 i hi]; cases lb x i <;> rfl
theorem one_shl {c : Nat} (hc : c < 63) : (1 : Int64) <<< (Int32.toInt64 (nN c) &&& 63) = lN (2 ^ c) := by
  have h := wb_shl 1 (k := c) (by omega)
  rw [Nat.one_mul] at h
  exact h
theorem lb_one {c i : Nat} (hc : c < 63) (hi : i < 64) : lb ((1 : Int64) <<< (Int32.toInt64 (nN c) &&& 63)) i = decide (i = c) := by
  rw [one_shl hc, lb_lN hi, Nat.testBit_two_pow]
  by_cases h : c = i
  · subst h; simp
  · have h2 : ¬ i = c := fun z => h z.symm
    simp [h, h2]
theorem mk_add {P : Nat → Prop} [DecidablePred P] {k : Nat} (hk : k < 63) (h : P k) : mkL P k ||| ((1 : Int64) <<< (Int32.toInt64 (nN k) &&& 63)) = mkL P (k + 1) := by
  refine lb_ext (fun i hi => ?_)
  rw [lb_or, lb_mk hi, lb_mk hi, lb_one hk hi]
  by_cases h1 : i = k
  · subst h1; simp [h]
  · have : (i < k ∧ P i) ↔ (i < k + 1 ∧ P i) := by constructor <;> (rintro ⟨h2, h3⟩; exact ⟨by omega, h3⟩)
    simp [h1, this]
theorem mk_skip {P : Nat → Prop} [DecidablePred P] {k : Nat} (h : ¬ P k) : mkL P k = mkL P (k + 1) := by
  unfold mkL
  rw [mkN, if_neg h]
theorem mk_0 {P : Nat → Prop} [DecidablePred P] : (0 : Int64) = mkL P 0 := rfl
theorem mk_c {P Q : Nat → Prop} [DecidablePred P] [DecidablePred Q] {n : Nat} (h : ∀ k, k < n → (P k ↔ Q k)) : mkL P n = mkL Q n := by
  refine lb_ext (fun i hi => ?_)
  rw [lb_mk hi, lb_mk hi]
  by_cases h1 : i < n
  · simp [h1, h i h1]
  · simp [h1]
theorem mk_none {P : Nat → Prop} [DecidablePred P] {n : Nat} (h : ∀ k, k < n → ¬ P k) : (0 : Int64) = mkL P n := by
  refine lb_ext (fun i hi => ?_)
  rw [lb_mk hi]
  show lb (lN 0) i = _
  rw [lb_lN hi]
  by_cases h1 : i < n
  · simp [h i h1]
  · simp [h1]
theorem mk_new {P Q : Nat → Prop} [DecidablePred P] [DecidablePred Q] {n : Nat} (hn : n < 63) (h : ∀ k, k < n → (P k ↔ Q k)) (h2 : Q n) : mkL P n ||| ((1 : Int64) <<< (Int32.toInt64 (nN n) &&& 63)) = mkL Q (n + 1) := by
  rw [mk_c h, mk_add hn h2]
theorem mk_set {P : Nat → Prop} [DecidablePred P] {n c : Nat} (hc : c < n) (hn : n ≤ 63) : mkL P n ||| ((1 : Int64) <<< (Int32.toInt64 (nN c) &&& 63)) = mkL (fun k => P k ∨ k = c) n := by
  refine lb_ext (fun i hi => ?_)
  rw [lb_or, lb_mk hi, lb_mk hi, lb_one (by omega) hi]
  by_cases h1 : i = c
  · subst h1; simp [hc]
  · simp [h1]
theorem mk_clr {P : Nat → Prop} [DecidablePred P] {n c : Nat} (hc : c < 63) : mkL P n &&& (((1 : Int64) <<< (Int32.toInt64 (nN c) &&& 63)) ^^^ (-1 : Int64)) = mkL (fun k => P k ∧ k ≠ c) n := by
  refine lb_ext (fun i hi => ?_)
  rw [lb_and, lb_not _ hi, lb_mk hi, lb_mk hi, lb_one hc hi]
  by_cases h1 : i = c
  · subst h1; simp
  · simp [h1]
theorem mk_andnot {P Q : Nat → Prop} [DecidablePred P] [DecidablePred Q] {n : Nat} : mkL P n &&& (mkL Q n ^^^ (-1 : Int64)) = mkL (fun k => P k ∧ ¬ Q k) n := by
  refine lb_ext (fun i hi => ?_)
  rw [lb_and, lb_not _ hi, lb_mk hi, lb_mk hi, lb_mk hi]
  by_cases h1 : i < n
  · simp [h1]
  · simp [h1]
theorem mk_and {P Q : Nat → Prop} [DecidablePred P] [DecidablePred Q] {n : Nat} : mkL P n &&& mkL Q n = mkL (fun k => P k ∧ Q k) n := by
  refine lb_ext (fun i hi => ?_)
  rw [lb_and, lb_mk hi, lb_mk hi, lb_mk hi]
  by_cases h1 : i < n
  · simp [h1]
  · simp [h1]
theorem lgc {a b : Nat} (ha : a < 2 ^ 63) (hb : b < 2 ^ 63) : lg_cmp (lN a) (lN b) = if b < a then 1 else if a = b then 0 else -1 := by
  unfold lg_cmp
  have h1 : (lN a > lN b) = (b < a) := by
    show (lN b < lN a) = _
    rw [fa_lt64, pf_lI ha, pf_lI hb]; exact propext Int.ofNat_lt
  have h2 : (lN a = lN b) = (a = b) := propext (fb_lN_inj ha hb)
  simp only [h1, h2]
theorem lgc_0 {a b : Nat} (ha : a < 2 ^ 63) (hb : b < 2 ^ 63) : (lg_cmp (lN a) (lN b) = 0) = (a = b) := by
  rw [lgc ha hb]
  by_cases h : b < a
  · rw [if_pos h]; exact propext ⟨fun h2 => absurd h2 (by decide), fun h2 => by omega⟩
  · rw [if_neg h]
    by_cases h2 : a = b
    · rw [if_pos h2]; exact propext ⟨fun _ => h2, fun _ => rfl⟩
    · rw [if_neg h2]; exact propext ⟨fun h3 => absurd h3 (by decide), fun h3 => absurd h3 h2⟩
theorem lgc_ge {a b : Nat} (ha : a < 2 ^ 63) (hb : b < 2 ^ 63) : (0 ≤ lg_cmp (lN a) (lN b)) = (b ≤ a) := by
  rw [lgc ha hb]
  by_cases h : b < a
  · rw [if_pos h]; exact propext ⟨fun _ => by omega, fun _ => by decide⟩
  · rw [if_neg h]
    by_cases h2 : a = b
    · rw [if_pos h2]; exact propext ⟨fun _ => by omega, fun _ => by decide⟩
    · rw [if_neg h2]; exact propext ⟨fun h3 => absurd h3 (by decide), fun h3 => by omega⟩
theorem lgc_le {a b : Nat} (ha : a < 2 ^ 63) (hb : b < 2 ^ 63) : (lg_cmp (lN a) (lN b) ≤ 0) = (a ≤ b) := by
  rw [lgc ha hb]
  by_cases h : b < a
  · rw [if_pos h]; exact propext ⟨fun h3 => absurd h3 (by decide), fun h3 => by omega⟩
  · rw [if_neg h]
    by_cases h2 : a = b
    · rw [if_pos h2]; exact propext ⟨fun _ => by omega, fun _ => by decide⟩
    · rw [if_neg h2]; exact propext ⟨fun h3 => by omega, fun h3 => by decide⟩
theorem lgc_self (x : Int64) : lg_cmp x x = 0 := by
  unfold lg_cmp
  rw [if_neg (by show ¬ x < x; rw [fa_lt64]; omega), if_pos rfl]
theorem ls_lN {N c : Nat} (hN : N < 2 ^ 62) (hc : c < 63) : (lN N >>> (Int32.toInt64 (nN c) &&& 63)) &&& (1 : Int64) = lN (N / 2 ^ c % 2) := by
  have e : Int32.toInt64 (nN c) &&& 63 = lN c := wb_c c (by omega)
  have hd : N / 2 ^ c ≤ N := Nat.div_le_self _ _
  rw [e, pf_shr (d := c) (by rw [lN_bv, wb_sm c (by omega), BitVec.toNat_ofNat, Nat.mod_eq_of_lt (by omega)]) hN, g_and1 (by omega)]
theorem in_lN {N c : Nat} (hN : N < 2 ^ 62) (hc : c < 63) : (lg_cmp ((lN N >>> (Int32.toInt64 (nN c) &&& 63)) &&& (1 : Int64)) (0 : Int64) = 0) = (N.testBit c = false) := by
  rw [ls_lN hN hc]
  have h2 : N / 2 ^ c % 2 < 2 := Nat.mod_lt _ (by decide)
  have h0 : (0 : Int64) = lN 0 := rfl
  rw [h0, lgc_0 (by omega) (by omega)]
  rw [Nat.testBit_eq_decide_div_mod_eq, decide_eq_false_iff_not]
  exact propext ⟨fun h => by omega, fun h => by omega⟩
theorem mk_in {P : Nat → Prop} [DecidablePred P] {n c : Nat} (hn : n ≤ 40) (hc : c < 63) : (lg_cmp ((mkL P n >>> (Int32.toInt64 (nN c) &&& 63)) &&& (1 : Int64)) (0 : Int64) = 0) = ¬ (c < n ∧ P c) := by
  have h := mkN_40 (P := P) hn
  unfold mkL
  rw [in_lN (by omega) hc, mkN_tb]
  simp
theorem c_isIn {P : Nat → Prop} [DecidablePred P] {n c : Nat} {M : Mem} (hn : n ≤ 40) (hc : c < n) : p_X6_isIn (mkL P n) (nN c) M = some (bI (P c)) := by
  unfold p_X6_isIn
  simp only [mk_in (P := P) hn (show c < 63 by omega)]
  by_cases h : P c
  · rw [if_neg (fun z => z ⟨hc, h⟩), ← bI_t h]; rfl
  · rw [if_pos (fun z => h z.2), ← bI_f h]; rfl
-- the count of bits
def bv (f : Nat → Nat) : Nat → Nat
  | 0 => 0
  | n + 1 => f 0 + 256 * bv (fun i => f (i + 1)) n
theorem b_split {a m A M : Nat} (ha : a < 256) (hm : m < 256) : (a + 256 * A) &&& (m + 256 * M) = (a &&& m) + 256 * (A &&& M) := by
  have h1 : a &&& m < 256 := Nat.and_lt_two_pow _ (show m < 2 ^ 8 from hm)
  apply Nat.eq_of_testBit_eq
  intro i
  have e : ∀ x X : Nat, x < 256 → (x + 256 * X).testBit i = if i < 8 then x.testBit i else X.testBit (i - 8) := by
    intro x X hx
    rw [Nat.add_comm]
    exact Nat.testBit_two_pow_mul_add X (i := 8) hx i
  rw [Nat.testBit_and, e _ _ ha, e _ _ hm, e _ _ h1, Nat.testBit_and, Nat.testBit_and]
  by_cases h : i < 8
  · rw [if_pos h, if_pos h, if_pos h]
  · rw [if_neg h, if_neg h, if_neg h]
def s1 (b : Nat) : Nat := b - ((b / 2) &&& 85)
def s2 (b : Nat) : Nat := (b &&& 51) + ((b / 4) &&& 51)
def s3 (b : Nat) : Nat := (b + b / 16) &&& 15
def bp (c : Nat) : Nat → Nat
  | 0 => 0
  | n + 1 => c + 256 * bp c n
theorem d1 : ∀ a, a < 256 → ∀ t, t < 2 → (a / 2 + 128 * t) &&& 85 = (a / 2) &&& 85 ∧ (a / 2) &&& 85 ≤ a ∧ a / 2 + 128 * t < 256 := by decide +kernel
theorem bc1 : ∀ n (f : Nat → Nat), (∀ i, f i < 256) → (bv f n / 2) &&& bp 85 n = bv (fun i => (f i / 2) &&& 85) n ∧ bv (fun i => (f i / 2) &&& 85) n ≤ bv f n ∧ bv f n - bv (fun i => (f i / 2) &&& 85) n = bv (fun i => s1 (f i)) n := by
  intro n
  induction n with
  | zero => intro f hf; simp [bv, bp]
  | succ n ih =>
    intro f hf
    obtain ⟨h1, h2, h3⟩ := ih (fun i => f (i + 1)) (fun i => hf (i + 1))
    have hd := d1 (f 0) (hf 0) (bv (fun i => f (i + 1)) n % 2) (Nat.mod_lt _ (by decide))
    show ((f 0 + 256 * bv (fun i => f (i + 1)) n) / 2) &&& (85 + 256 * bp 85 n) = ((f 0 / 2) &&& 85) + 256 * bv (fun i => (f (i + 1) / 2) &&& 85) n ∧ ((f 0 / 2) &&& 85) + 256 * bv (fun i => (f (i + 1) / 2) &&& 85) n ≤ f 0 + 256 * bv (fun i => f (i + 1)) n ∧ (f 0 + 256 * bv (fun i => f (i + 1)) n) - (((f 0 / 2) &&& 85) + 256 * bv (fun i => (f (i + 1) / 2) &&& 85) n) = s1 (f 0) + 256 * bv (fun i => s1 (f (i + 1))) n
    have e : (f 0 + 256 * bv (fun i => f (i + 1)) n) / 2 = (f 0 / 2 + 128 * (bv (fun i => f (i + 1)) n % 2)) + 256 * (bv (fun i => f (i + 1)) n / 2) := by omega
    refine ⟨?_, by omega, ?_⟩
    · rw [e, b_split hd.2.2 (by decide), hd.1, h1]
    · have := hd.2.1
      unfold s1
      have h4 : bv (fun i => s1 (f (i + 1))) n = bv (fun i => f (i + 1)) n - bv (fun i => (f (i + 1) / 2) &&& 85) n := h3.symm
      unfold s1 at h4
      rw [h4]
      omega
theorem d2 : ∀ a, a < 256 → ∀ t, t < 4 → (a / 4 + 64 * t) &&& 51 = (a / 4) &&& 51 ∧ a / 4 + 64 * t < 256 := by decide +kernel
theorem bc2 : ∀ n (f : Nat → Nat), (∀ i, f i < 256) → (bv f n &&& bp 51 n) + ((bv f n / 4) &&& bp 51 n) = bv (fun i => s2 (f i)) n := by
  intro n
  induction n with
  | zero => intro f hf; simp [bv, bp]
  | succ n ih =>
    intro f hf
    have h1 := ih (fun i => f (i + 1)) (fun i => hf (i + 1))
    have hd := d2 (f 0) (hf 0) (bv (fun i => f (i + 1)) n % 4) (Nat.mod_lt _ (by decide))
    show ((f 0 + 256 * bv (fun i => f (i + 1)) n) &&& (51 + 256 * bp 51 n)) + (((f 0 + 256 * bv (fun i => f (i + 1)) n) / 4) &&& (51 + 256 * bp 51 n)) = s2 (f 0) + 256 * bv (fun i => s2 (f (i + 1))) n
    have e : (f 0 + 256 * bv (fun i => f (i + 1)) n) / 4 = (f 0 / 4 + 64 * (bv (fun i => f (i + 1)) n % 4)) + 256 * (bv (fun i => f (i + 1)) n / 4) := by omega
    rw [e, b_split (hf 0) (by decide), b_split hd.2 (by decide), hd.1, ← h1]
    unfold s2
    omega
def ok3 (b : Nat) : Prop := b % 16 ≤ 4 ∧ b / 16 ≤ 4
theorem d3 : ∀ a, a < 69 → (a % 16 ≤ 4 ∧ a / 16 ≤ 4) → ∀ t, t < 5 → (a + (a / 16 + 16 * t)) &&& 15 = (a + a / 16) &&& 15 ∧ a + (a / 16 + 16 * t) < 256 := by decide +kernel
theorem bv_16 : ∀ n (f : Nat → Nat), (∀ i, ok3 (f i)) → bv f n % 16 ≤ 4 := by
  intro n f hf
  cases n with
  | zero => exact Nat.zero_le _
  | succ n =>
    show (f 0 + 256 * bv (fun i => f (i + 1)) n) % 16 ≤ 4
    have := (hf 0).1
    omega
theorem bc3 : ∀ n (f : Nat → Nat), (∀ i, ok3 (f i)) → (bv f n + bv f n / 16) &&& bp 15 n = bv (fun i => s3 (f i)) n := by
  intro n
  induction n with
  | zero => intro f hf; simp [bv, bp]
  | succ n ih =>
    intro f hf
    have h1 := ih (fun i => f (i + 1)) (fun i => hf (i + 1))
    have h16 := bv_16 n (fun i => f (i + 1)) (fun i => hf (i + 1))
    have ha : f 0 < 69 := by have := (hf 0).1; have := (hf 0).2; omega
    have hd := d3 (f 0) ha (hf 0) (bv (fun i => f (i + 1)) n % 16) (by omega)
    show ((f 0 + 256 * bv (fun i => f (i + 1)) n) + (f 0 + 256 * bv (fun i => f (i + 1)) n) / 16) &&& (15 + 256 * bp 15 n) = s3 (f 0) + 256 * bv (fun i => s3 (f (i + 1))) n
    have e : (f 0 + 256 * bv (fun i => f (i + 1)) n) + (f 0 + 256 * bv (fun i => f (i + 1)) n) / 16 = (f 0 + (f 0 / 16 + 16 * (bv (fun i => f (i + 1)) n % 16))) + 256 * (bv (fun i => f (i + 1)) n + bv (fun i => f (i + 1)) n / 16) := by omega
    rw [e, b_split hd.2 (by decide), hd.1, h1]
    rfl
theorem d4 : ∀ b, b < 256 → s1 b < 256 ∧ s2 (s1 b) < 256 ∧ (s2 (s1 b) % 16 ≤ 4 ∧ s2 (s1 b) / 16 ≤ 4) ∧ s3 (s2 (s1 b)) = (b % 2) + (b / 2 % 2) + (b / 4 % 2) + (b / 8 % 2) + (b / 16 % 2) + (b / 32 % 2) + (b / 64 % 2) + (b / 128 % 2) := by decide +kernel
theorem bp_85 : bp 85 8 = 6148914691236517205 := by decide +kernel
theorem bp_51 : bp 51 8 = 3689348814741910323 := by decide +kernel
theorem bp_15 : bp 15 8 = 1085102592571150095 := by decide +kernel
theorem bv_lt : ∀ n (f : Nat → Nat), (∀ i, f i < 256) → bv f n < 256 ^ n := by
  intro n
  induction n with
  | zero => intro f hf; simp [bv]
  | succ n ih =>
    intro f hf
    have h1 := ih (fun i => f (i + 1)) (fun i => hf (i + 1))
    have h0 := hf 0
    show f 0 + 256 * bv (fun i => f (i + 1)) n < 256 ^ (n + 1)
    rw [Nat.pow_succ]
    omega
theorem bv_of : ∀ n N, N < 256 ^ n → bv (fun i => N / 256 ^ i % 256) n = N := by
  intro n
  induction n with
  | zero => intro N h; show 0 = N; rw [Nat.pow_zero] at h; omega
  | succ n ih =>
    intro N h
    show N / 256 ^ 0 % 256 + 256 * bv (fun i => N / 256 ^ (i + 1) % 256) n = N
    have e : (fun i => N / 256 ^ (i + 1) % 256) = (fun i => N / 256 / 256 ^ i % 256) := by
      funext i
      rw [Nat.div_div_eq_div_mul, Nat.pow_succ, Nat.mul_comm]
    rw [e, ih (N / 256) (by rw [Nat.pow_succ] at h; omega)]
    rw [Nat.pow_zero, Nat.div_one]
    omega
theorem cnt_c {P Q : Nat → Prop} [DecidablePred P] [DecidablePred Q] : ∀ {n : Nat}, (∀ k, k < n → (P k ↔ Q k)) → cnt P n = cnt Q n := by
  intro n
  induction n with
  | zero => intro h; rfl
  | succ n ih =>
    intro h
    show cnt P n + (if P n then 1 else 0) = cnt Q n + (if Q n then 1 else 0)
    rw [ih (fun k hk => h k (by omega))]
    by_cases h2 : P n
    · rw [if_pos h2, if_pos ((h n (by omega)).mp h2)]
    · rw [if_neg h2, if_neg (fun z => h2 ((h n (by omega)).mpr z))]
theorem cnt_ext {P : Nat → Prop} [DecidablePred P] {n : Nat} : ∀ m, cnt (fun k => k < n ∧ P k) (n + m) = cnt P n := by
  intro m
  induction m with
  | zero => exact cnt_c (fun k hk => ⟨fun h => h.2, fun h => ⟨hk, h⟩⟩)
  | succ m ih =>
    show cnt (fun k => k < n ∧ P k) (n + m) + (if n + m < n ∧ P (n + m) then 1 else 0) = _
    rw [ih, if_neg (by omega)]
    omega
def bits8 (b : Nat) : Nat := (b % 2) + (b / 2 % 2) + (b / 4 % 2) + (b / 8 % 2) + (b / 16 % 2) + (b / 32 % 2) + (b / 64 % 2) + (b / 128 % 2)
theorem tb_if (N k X : Nat) (h : N / 2 ^ k % 2 = X) : (if N.testBit k = true then 1 else 0) = X := by
  rw [← h, Nat.testBit_eq_decide_div_mod_eq]
  have : N / 2 ^ k % 2 < 2 := Nat.mod_lt _ (by decide)
  by_cases c : N / 2 ^ k % 2 = 1
  · simp [c]
  · simp only [c, decide_false]; rw [if_neg (by decide)]; omega
theorem cb8 (N i : Nat) : cnt (fun k => N.testBit k = true) (8 * i + 8) = cnt (fun k => N.testBit k = true) (8 * i) + bits8 (N / 256 ^ i % 256) := by
  have e : ∀ j, N / 2 ^ (8 * i + j) = N / 256 ^ i / 2 ^ j := fun j => by
    rw [Nat.pow_add, Nat.pow_mul, ← Nat.div_div_eq_div_mul]
  have t0 := tb_if N (8 * i + 0) _ rfl
  have t1 := tb_if N (8 * i + 1) _ rfl
  have t2 := tb_if N (8 * i + 2) _ rfl
  have t3 := tb_if N (8 * i + 3) _ rfl
  have t4 := tb_if N (8 * i + 4) _ rfl
  have t5 := tb_if N (8 * i + 5) _ rfl
  have t6 := tb_if N (8 * i + 6) _ rfl
  have t7 := tb_if N (8 * i + 7) _ rfl
  rw [e] at t0 t1 t2 t3 t4 t5 t6 t7
  show cnt (fun k => N.testBit k = true) (8 * i) + (if N.testBit (8 * i + 0) = true then 1 else 0) + (if N.testBit (8 * i + 1) = true then 1 else 0) + (if N.testBit (8 * i + 2) = true then 1 else 0) + (if N.testBit (8 * i + 3) = true then 1 else 0) + (if N.testBit (8 * i + 4) = true then 1 else 0) + (if N.testBit (8 * i + 5) = true then 1 else 0) + (if N.testBit (8 * i + 6) = true then 1 else 0) + (if N.testBit (8 * i + 7) = true then 1 else 0) = _
  rw [t0, t1, t2, t3, t4, t5, t6, t7]
  unfold bits8
  generalize N / 256 ^ i = X
  have p0 : 2 ^ 0 = 1 := rfl
  have p1 : 2 ^ 1 = 2 := rfl
  have p2 : 2 ^ 2 = 4 := rfl
  have p3 : 2 ^ 3 = 8 := rfl
  have p4 : 2 ^ 4 = 16 := rfl
  have p5 : 2 ^ 5 = 32 := rfl
  have p6 : 2 ^ 6 = 64 := rfl
  have p7 : 2 ^ 7 = 128 := rfl
  rw [p0, p1, p2, p3, p4, p5, p6, p7]
  have m0 : X % 256 % 2 = X / 1 % 2 := by omega
  have m1 : X % 256 / 2 % 2 = X / 2 % 2 := by omega
  have m2 : X % 256 / 4 % 2 = X / 4 % 2 := by omega
  have m3 : X % 256 / 8 % 2 = X / 8 % 2 := by omega
  have m4 : X % 256 / 16 % 2 = X / 16 % 2 := by omega
  have m5 : X % 256 / 32 % 2 = X / 32 % 2 := by omega
  have m6 : X % 256 / 64 % 2 = X / 64 % 2 := by omega
  have m7 : X % 256 / 128 % 2 = X / 128 % 2 := by omega
  rw [m0, m1, m2, m3, m4, m5, m6, m7]
  simp only [Nat.add_assoc]
theorem bits8_lt (b : Nat) : bits8 b ≤ 8 := by unfold bits8; omega
theorem t32_lN (n : Nat) : Int64.toInt32 (lN n) = nN n := by
  apply Int32.toBitVec_inj.mp
  rw [Int64.toBitVec_toInt32]
  show (BitVec.ofNat 64 n).signExtend 32 = BitVec.ofNat 32 n
  rw [BitVec.signExtend_eq_setWidth_of_le _ (by decide)]
  apply BitVec.eq_of_toNat_eq
  simp [BitVec.toNat_setWidth, BitVec.toNat_ofNat]
theorem bitc_sum {d0 d1 d2 d3 d4 y z1 z2 z3 : Nat} (h0 : d0 ≤ 8) (h1 : d1 ≤ 8) (h2 : d2 ≤ 8) (h3 : d3 ≤ 8) (h4 : d4 ≤ 8) (hy : y = d0 + 256 * (d1 + 256 * (d2 + 256 * (d3 + 256 * d4)))) (e1 : z1 = y + y / 256) (e2 : z2 = z1 + z1 / 65536) (e3 : z3 = z2 + z2 / 4294967296) : z3 % 128 = d0 + d1 + d2 + d3 + d4 ∧ z3 < 2 ^ 40 := by
  have f1 : y / 256 = d1 + 256 * (d2 + 256 * (d3 + 256 * d4)) := by omega
  rw [f1] at e1
  have f2 : z1 / 65536 = (d2 + d3) + 256 * (d3 + d4) + 65536 * d4 := by omega
  rw [f2] at e2
  have f3 : z2 / 4294967296 = d4 := by omega
  rw [f3] at e3
  have f4 : z3 = (d0 + d1 + d2 + d3 + d4) + 128 * (2 * (d1 + d2 + d3 + d4) + 512 * (d2 + d3 + d4) + 131072 * (d3 + d4) + 33554432 * d4) := by omega
  omega
theorem bitc {N : Nat} {M : Mem} (hN : N < 2 ^ 40) : p_J13_bitCount_95d88 (lN N) M = some (nN (cnt (fun k => N.testBit k = true) 40)) := by
  have hN8 : N < 256 ^ 8 := by have : (256 : Nat) ^ 8 = 18446744073709551616 := by decide
                               omega
  have hf : ∀ i, N / 256 ^ i % 256 < 256 := fun i => Nat.mod_lt _ (by decide)
  have b0 : bv (fun i => N / 256 ^ i % 256) 8 = N := bv_of 8 N hN8
  have q1 := bc1 8 (fun i => N / 256 ^ i % 256) hf
  have q2 := bc2 8 (fun i => s1 (N / 256 ^ i % 256)) (fun i => (d4 _ (hf i)).1)
  have q3 := bc3 8 (fun i => s2 (s1 (N / 256 ^ i % 256))) (fun i => (d4 _ (hf i)).2.2.1)
  rw [b0] at q1
  rw [bp_85] at q1
  rw [bp_51] at q2
  rw [bp_15] at q3
  have l1 := bv_lt 8 (fun i => s1 (N / 256 ^ i % 256)) (fun i => (d4 _ (hf i)).1)
  have l2 := bv_lt 8 (fun i => s2 (s1 (N / 256 ^ i % 256))) (fun i => (d4 _ (hf i)).2.1)
  have x5 : N / 256 ^ 5 % 256 = 0 := by rw [Nat.div_eq_of_lt (Nat.lt_of_lt_of_le hN (by decide))]
  have x6 : N / 256 ^ 6 % 256 = 0 := by rw [Nat.div_eq_of_lt (Nat.lt_of_lt_of_le hN (by decide))]
  have x7 : N / 256 ^ 7 % 256 = 0 := by rw [Nat.div_eq_of_lt (Nat.lt_of_lt_of_le hN (by decide))]
  have d : ∀ i, s3 (s2 (s1 (N / 256 ^ i % 256))) = bits8 (N / 256 ^ i % 256) := fun i => (d4 _ (hf i)).2.2.2
  have y3 : bv (fun i => s3 (s2 (s1 (N / 256 ^ i % 256)))) 8 = bits8 (N / 256 ^ 0 % 256) + 256 * (bits8 (N / 256 ^ 1 % 256) + 256 * (bits8 (N / 256 ^ 2 % 256) + 256 * (bits8 (N / 256 ^ 3 % 256) + 256 * bits8 (N / 256 ^ 4 % 256)))) := by
    show s3 (s2 (s1 (N / 256 ^ 0 % 256))) + 256 * (s3 (s2 (s1 (N / 256 ^ 1 % 256))) + 256 * (s3 (s2 (s1 (N / 256 ^ 2 % 256))) + 256 * (s3 (s2 (s1 (N / 256 ^ 3 % 256))) + 256 * (s3 (s2 (s1 (N / 256 ^ 4 % 256))) + 256 * (s3 (s2 (s1 (N / 256 ^ 5 % 256))) + 256 * (s3 (s2 (s1 (N / 256 ^ 6 % 256))) + 256 * (s3 (s2 (s1 (N / 256 ^ 7 % 256))) + 256 * 0))))))) = _
    rw [d, d, d, d, d, d, d, d, x5, x6, x7]
    rfl
  have k : cnt (fun k => N.testBit k = true) 40 = bits8 (N / 256 ^ 0 % 256) + bits8 (N / 256 ^ 1 % 256) + bits8 (N / 256 ^ 2 % 256) + bits8 (N / 256 ^ 3 % 256) + bits8 (N / 256 ^ 4 % 256) := by
    have c0 := cb8 N 0
    have c1 := cb8 N 1
    have c2 := cb8 N 2
    have c3 := cb8 N 3
    have c4 := cb8 N 4
    have z : cnt (fun k => N.testBit k = true) (8 * 0) = 0 := rfl
    simp only [Nat.reduceMul, Nat.reduceAdd] at c0 c1 c2 c3 c4 z
    omega
  have o0 := bits8_lt (N / 256 ^ 0 % 256)
  have o1 := bits8_lt (N / 256 ^ 1 % 256)
  have o2 := bits8_lt (N / 256 ^ 2 % 256)
  have o3 := bits8_lt (N / 256 ^ 3 % 256)
  have o4 := bits8_lt (N / 256 ^ 4 % 256)
  generalize bits8 (N / 256 ^ 0 % 256) = r0 at *
  generalize bits8 (N / 256 ^ 1 % 256) = r1 at *
  generalize bits8 (N / 256 ^ 2 % 256) = r2 at *
  generalize bits8 (N / 256 ^ 3 % 256) = r3 at *
  generalize bits8 (N / 256 ^ 4 % 256) = r4 at *
  generalize hy1 : bv (fun i => s1 (N / 256 ^ i % 256)) 8 = y1 at *
  generalize hy2 : bv (fun i => s2 (s1 (N / 256 ^ i % 256))) 8 = y2 at *
  generalize hy3 : bv (fun i => s3 (s2 (s1 (N / 256 ^ i % 256)))) 8 = w3 at *
  generalize bv (fun i => N / 256 ^ i % 256 / 2 &&& 85) 8 = u1 at *
  have big : (256 : Nat) ^ 8 = 18446744073709551616 := by decide
  rw [big] at l1 l2
  have m5 : (6148914691236517205 : Int64) = lN 6148914691236517205 := rfl
  have m3 : (3689348814741910323 : Int64) = lN 3689348814741910323 := rfl
  have m0 : (1085102592571150095 : Int64) = lN 1085102592571150095 := rfl
  have e1 : (Int64.toUInt64 (lN N) >>> ((Int32.toInt64 (1 : Int32)).toUInt64 &&& Int64.toUInt64 63)).toInt64 = lN (N / 2) := g_ushr (k := 1) (by decide) (by decide) (by decide) (by omega)
  have e2 : (Int64.toUInt64 (lN y1) >>> ((Int32.toInt64 (2 : Int32)).toUInt64 &&& Int64.toUInt64 63)).toInt64 = lN (y1 / 4) := g_ushr (k := 2) (by decide) (by decide) (by decide) (by omega)
  have e3 : (Int64.toUInt64 (lN y2) >>> ((Int32.toInt64 (4 : Int32)).toUInt64 &&& Int64.toUInt64 63)).toInt64 = lN (y2 / 16) := g_ushr (k := 4) (by decide) (by decide) (by decide) (by omega)
  obtain ⟨hz, hzl⟩ := bitc_sum (y := w3) o0 o1 o2 o3 o4 y3 rfl rfl rfl
  have hw3 : w3 < 2 ^ 40 := by omega
  have e4 : (Int64.toUInt64 (lN w3) >>> ((Int32.toInt64 (8 : Int32)).toUInt64 &&& Int64.toUInt64 63)).toInt64 = lN (w3 / 256) := g_ushr (k := 8) (by decide) (by decide) (by decide) (by omega)
  have e5 : (Int64.toUInt64 (lN (w3 + w3 / 256)) >>> ((Int32.toInt64 (16 : Int32)).toUInt64 &&& Int64.toUInt64 63)).toInt64 = lN ((w3 + w3 / 256) / 65536) := g_ushr (k := 16) (by decide) (by decide) (by decide) (by omega)
  have e6 : (Int64.toUInt64 (lN (w3 + w3 / 256 + (w3 + w3 / 256) / 65536)) >>> ((Int32.toInt64 (32 : Int32)).toUInt64 &&& Int64.toUInt64 63)).toInt64 = lN ((w3 + w3 / 256 + (w3 + w3 / 256) / 65536) / 4294967296) := g_ushr (k := 32) (by decide) (by decide) (by decide) (by omega)
  unfold p_J13_bitCount_95d88
  rw [e1, m5, m3, m0, fb_andL, q1.1, lN_sub q1.2.1, q1.2.2, fb_andL, e2, fb_andL, lN_add, q2, e3, lN_add, fb_andL, q3, e4, lN_add, e5, lN_add, e6, lN_add, t32_lN, k]
  have ft : (127 : Int32) = nI (2 ^ 7 - 1) := rfl
  rw [nN_nI, ft, fa_mask, ← nN_nI]
  show some (nN (_ % 128)) = _
  rw [hz]
theorem c_bitc {P : Nat → Prop} [DecidablePred P] {n : Nat} {M : Mem} (hn : n ≤ 40) : p_J13_bitCount_95d88 (mkL P n) M = some (nN (cnt P n)) := by
  unfold mkL
  rw [bitc (mkN_40 hn)]
  congr 2
  rw [← cnt_ext (P := P) (n := n) (40 - n), show n + (40 - n) = 40 by omega]
  exact cnt_c (fun k hk => by rw [mkN_tb]; simp)
-- rows of four bits
def rwN (w : Nat → Nat) : Nat → Nat
  | 0 => 0
  | n + 1 => rwN w n + (w n + 1) * 16 ^ n
theorem rwN_lt {w : Nat → Nat} : ∀ {n : Nat}, (∀ i, i < n → w i < 15) → rwN w n < 16 ^ n := by
  intro n
  induction n with
  | zero => intro h; simp [rwN]
  | succ n ih =>
    intro h
    have h1 := ih (fun i hi => h i (by omega))
    have h2 : (w n + 1) * 16 ^ n ≤ 15 * 16 ^ n := Nat.mul_le_mul_right _ (by have := h n (by omega); omega)
    show rwN w n + (w n + 1) * 16 ^ n < 16 ^ (n + 1)
    rw [Nat.pow_succ]
    omega
theorem rwN_at {w : Nat → Nat} : ∀ {n i : Nat}, (∀ i, i < n → w i < 15) → rwN w n / 16 ^ i % 16 = if i < n then w i + 1 else 0 := by
  intro n
  induction n with
  | zero => intro i h; show 0 / 16 ^ i % 16 = _; rw [Nat.zero_div, if_neg (by omega)]
  | succ n ih =>
    intro i h
    have hl := rwN_lt (n := n) (w := w) (fun i hi => h i (by omega))
    have hi := ih (i := i) (fun i hi => h i (by omega))
    have hw := h n (by omega)
    show (rwN w n + (w n + 1) * 16 ^ n) / 16 ^ i % 16 = _
    by_cases c : i < n
    · rw [if_pos (by omega)]
      rw [if_pos c] at hi
      have e : (w n + 1) * 16 ^ n = 16 ^ i * (16 * ((w n + 1) * 16 ^ (n - i - 1))) := by
        rw [show n = i + 1 + (n - i - 1) by omega, Nat.pow_add, Nat.pow_succ]
        rw [show i + 1 + (n - i - 1) - i - 1 = n - i - 1 by omega]
        simp only [Nat.mul_left_comm, Nat.mul_comm, Nat.mul_assoc]
      rw [e, Nat.add_mul_div_left _ _ (Nat.pow_pos (by decide)), Nat.add_mul_mod_self_left, hi]
    · by_cases c2 : i = n
      · subst c2
        rw [if_pos (by omega), Nat.add_mul_div_right _ _ (Nat.pow_pos (by decide)), Nat.div_eq_of_lt hl]
        omega
      · rw [if_neg (by omega)]
        have e2 : rwN w n + (w n + 1) * 16 ^ n < 16 ^ i := by
          have := rwN_lt (n := n + 1) (w := w) h
          exact Nat.lt_of_lt_of_le this (Nat.pow_le_pow_right (by decide) (by omega))
        rw [Nat.div_eq_of_lt e2]
theorem rwN_c {w u : Nat → Nat} : ∀ {n : Nat}, (∀ i, i < n → w i = u i) → rwN w n = rwN u n := by
  intro n
  induction n with
  | zero => intro h; rfl
  | succ n ih =>
    intro h
    show rwN w n + (w n + 1) * 16 ^ n = rwN u n + (u n + 1) * 16 ^ n
    rw [ih (fun i hi => h i (by omega)), h n (by omega)]
theorem rw4 {w : Nat → Nat} {n : Nat} (hn : n ≤ 4) (h : ∀ i, i < n → w i < 15) : rwN w n < 65536 := Nat.lt_of_lt_of_le (rwN_lt h) (Nat.pow_le_pow_right (by decide) hn : 16 ^ n ≤ 16 ^ 4)
theorem sm4 : ∀ i, i < 4 → (((((4 : Int32) * nN i) &&& 31)).toBitVec.smod 32).toNat = 4 * i := by decide +kernel
theorem rw_nib {R i : Nat} (hR : R < 65536) (hi : i < 4) : (nN R >>> (((4 : Int32) * nN i) &&& 31)) &&& (15 : Int32) = nN (R / 16 ^ i % 16) := by
  have e : (16 : Nat) ^ i = 2 ^ (4 * i) := by rw [Nat.pow_mul]
  rw [nN_nI, pk_shrN (by omega) _ (4 * i) (sm4 i hi), e]
  have ft : (15 : Int32) = nI (2 ^ 4 - 1) := rfl
  rw [ft, fa_mask, ← nN_nI]
theorem c_rowEntry {w : Nat → Nat} {n i : Nat} {M : Mem} (hn : n ≤ 4) (h : ∀ i, i < n → w i < 15) (hi : i < 4) : p_X6_rowEntry (nN (rwN w n)) (nN i) M = some (oN (if i < n then some (w i) else none)) := by
  unfold p_X6_rowEntry
  rw [if_neg (nN_neg0 (by omega)), rw_nib (rw4 hn h) hi, rwN_at h]
  rw [if_pos (show nN i < (4 : Int32) from nlt_t (b := 4) (by omega) (by omega) hi)]
  by_cases c : i < n
  · rw [if_pos c, if_pos c]
    show some (nN (w i + 1) - nN 1) = some (nN (w i))
    rw [nN_subN (by omega)]
    rfl
  · rw [if_neg c, if_neg c]; rfl
theorem c_rowEntry_no {R x : Int32} {M : Mem} (h : x.toInt < 0 ∨ 4 ≤ x.toInt) : p_X6_rowEntry R x M = some mI := by
  unfold p_X6_rowEntry
  by_cases c : x < 0
  · rw [if_pos c]; rfl
  · rw [if_neg c, if_neg]
    · rfl
    · rw [i_lt] at c ⊢
      have e4 : (4 : Int32).toInt = 4 := rfl
      have e0 : (0 : Int32).toInt = 0 := rfl
      omega
theorem c_rowIndex {w : Nat → Nat} {n s : Nat} {M : Mem} (hn : n ≤ 4) (h : ∀ i, i < n → w i < 15) (hs : s < 15) : p_X6_rowIndex (nN (rwN w n)) (nN s) M = some (oN (fnd (fun i => w i = s) 0 n)) := by
  unfold p_X6_rowIndex
  have key : ∀ d k fu, k + d = 4 → d < fu → pl_X6_rowIndex_2 (fun z4 => some z4) (fun _ => some (-1 : Int32)) (nN (rwN w n)) (nN s) M fu (nN k) = some (oN (fnd (fun i => w i = s) k (n - k))) := by
    intro d
    induction d with
    | zero =>
      intro k fu hk hf
      obtain ⟨f, rfl⟩ : ∃ f, fu = f + 1 := ⟨fu - 1, by omega⟩
      rw [pl_X6_rowIndex_2]
      rw [if_pos (show (4 : Int32) ≤ nN k from nle_t (a := 4) (by omega) (by omega) (by omega)), show n - k = 0 by omega]
      rfl
    | succ d ih =>
      intro k fu hk hf
      obtain ⟨f, rfl⟩ : ∃ f, fu = f + 1 := ⟨fu - 1, by omega⟩
      rw [pl_X6_rowIndex_2]
      have e4 : (4 : Int32) = nN 4 := rfl
      have em : (-1 : Int32) = mI := rfl
      have ek : nN k + (1 : Int32) = nN (k + 1) := nN_add k 1
      have es : nN s + (1 : Int32) = nN (s + 1) := nN_add s 1
      rw [rw_nib (rw4 hn h) (by omega), rwN_at h, ek, es, ih (k + 1) f (by omega) (by omega)]
      rw [if_neg (show ¬ (4 : Int32) ≤ nN k from nle_f (a := 4) (by omega) (by omega) (by omega))]
      rw [if_neg (show ¬ nN s = (-1 : Int32) from nNm (by omega))]
      by_cases c : k < n
      · rw [if_pos c]
        rw [show n - k = (n - (k + 1)) + 1 by omega, fnd]
        by_cases c2 : w k = s
        · rw [if_pos (by rw [c2]), if_pos c2]; rfl
        · rw [if_neg (neq_f (by have := h k c; omega) (by omega) (by omega)), if_neg c2]
      · rw [if_neg c, if_neg (neq_f (by omega) (by omega) (by omega)), show n - k = 0 by omega, show n - (k + 1) = 0 by omega]
        rfl
  exact key 4 0 FU (by omega) (FU_pos (by omega))
theorem c_rowIndex_mI {R : Int32} {M : Mem} : p_X6_rowIndex R mI M = some mI := by
  unfold p_X6_rowIndex
  have key : ∀ d k fu, k + d = 4 → d < fu → pl_X6_rowIndex_2 (fun z4 => some z4) (fun _ => some (-1 : Int32)) R mI M fu (nN k) = some mI := by
    intro d
    induction d with
    | zero =>
      intro k fu hk hf
      obtain ⟨f, rfl⟩ : ∃ f, fu = f + 1 := ⟨fu - 1, by omega⟩
      rw [pl_X6_rowIndex_2]
      rw [if_pos (show (4 : Int32) ≤ nN k from nle_t (a := 4) (by omega) (by omega) (by omega))]
      rfl
    | succ d ih =>
      intro k fu hk hf
      obtain ⟨f, rfl⟩ : ∃ f, fu = f + 1 := ⟨fu - 1, by omega⟩
      rw [pl_X6_rowIndex_2]
      have ek : nN k + (1 : Int32) = nN (k + 1) := nN_add k 1
      rw [ek, ih (k + 1) f (by omega) (by omega)]
      rw [if_neg (show ¬ (4 : Int32) ≤ nN k from nle_f (a := 4) (by omega) (by omega) (by omega))]
      rw [if_pos (show mI = (-1 : Int32) from rfl)]
  exact key 4 0 FU (by omega) (FU_pos (by omega))
theorem c_rowLength {w : Nat → Nat} {n : Nat} {M : Mem} (hn : n ≤ 4) (h : ∀ i, i < n → w i < 15) : p_X6_rowLength (nN (rwN w n)) M = some (nN n) := by
  unfold p_X6_rowLength
  have key : ∀ d k fu, k + d = 4 → d < fu → pl_X6_rowLength_4 (fun z => some z) (nN (rwN w n)) M fu (nN (if k < n then k else n)) (nN k) = some (nN n) := by
    intro d
    induction d with
    | zero =>
      intro k fu hk hf
      obtain ⟨f, rfl⟩ : ∃ f, fu = f + 1 := ⟨fu - 1, by omega⟩
      rw [pl_X6_rowLength_4]
      rw [if_pos (show (4 : Int32) ≤ nN k from nle_t (a := 4) (by omega) (by omega) (by omega)), if_neg (show ¬ k < n by omega)]
    | succ d ih =>
      intro k fu hk hf
      obtain ⟨f, rfl⟩ : ∃ f, fu = f + 1 := ⟨fu - 1, by omega⟩
      rw [pl_X6_rowLength_4]
      have e0 := c_rowEntry (M := M) hn h (show k < 4 by omega)
      have ek : nN k + (1 : Int32) = nN (k + 1) := nN_add k 1
      rw [if_neg (show ¬ (4 : Int32) ≤ nN k from nle_f (a := 4) (by omega) (by omega) (by omega)), e0, bS, ek]
      have i2 := ih (k + 1) f (by omega) (by omega)
      by_cases c : k < n
      · have hw := h k c
        simp only [if_pos c, oN, show (-1 : Int32) = mI from rfl, nN_mI (show w k < 2147483648 by omega), if_false]
        have e1 : nN k + (1 : Int32) = nN (k + 1) := nN_add k 1
        have e2 : (if k + 1 < n then k + 1 else n) = k + 1 := by split <;> omega
        rw [e2] at i2
        simpa [e1, jn_def] using i2
      · simp only [if_neg c, oN, show (-1 : Int32) = mI from rfl, if_true]
        have e1 : nN n + (0 : Int32) = nN n := nN_add n 0
        have e2 : (if k + 1 < n then k + 1 else n) = n := by rw [if_neg (by omega)]
        rw [e2] at i2
        simpa [e1, jn_def] using i2
  have h0 := key 4 0 FU (by omega) (FU_pos (by omega))
  by_cases c : 0 < n
  · rw [if_pos c] at h0; exact h0
  · rw [if_neg c, show n = 0 by omega] at h0; rw [show n = 0 by omega]; exact h0
