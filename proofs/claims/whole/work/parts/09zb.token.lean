/-! the setup text: tokens -/
section TK
def kdC (x : Nat) : Nat := if 97 ≤ x ∧ x ≤ 122 then 1 else if 48 ≤ x ∧ x ≤ 57 then 2 else if x = 59 then 3 else 4
def isW (x : Nat) : Bool := decide (x = 32 ∨ x = 10)
def isK (k x : Nat) : Bool := decide (kdC x = k)
def run (P : Nat → Bool) (f : Nat → Nat) (n : Nat) : Nat → Nat → Nat
  | 0, p => p
  | d + 1, p => if p < n ∧ P (f p) = true then run P f n d (p + 1) else p
def rnN (P : Nat → Bool) (f : Nat → Nat) (n p : Nat) : Nat := run P f n (n - p) p
variable {P : Nat → Bool} {f : Nat → Nat} {n p : Nat}
theorem rn_t (h : p < n) (hp : P (f p) = true) : rnN P f n p = rnN P f n (p + 1) := by
  unfold rnN
  rw [show n - p = (n - (p + 1)) + 1 by omega]
  show (if p < n ∧ P (f p) = true then run P f n (n - (p + 1)) (p + 1) else p) = _
  rw [if_pos ⟨h, hp⟩]
theorem rn_f (h : ¬ (p < n ∧ P (f p) = true)) : rnN P f n p = p := by
  unfold rnN
  cases n - p with
  | zero => rfl
  | succ d =>
    show (if p < n ∧ P (f p) = true then run P f n d (p + 1) else p) = _
    rw [if_neg h]
theorem rn_all : ∀ d p, n - p = d → p ≤ rnN P f n p ∧ (p ≤ n → rnN P f n p ≤ n) ∧ (∀ i, p ≤ i → i < rnN P f n p → i < n ∧ P (f i) = true) := by
  intro d
  induction d with
  | zero =>
    intro p hp
    rw [rn_f (fun h => by omega)]
    exact ⟨Nat.le_refl _, fun h => h, fun i h1 h2 => by omega⟩
  | succ d ih =>
    intro p hp
    by_cases c : p < n ∧ P (f p) = true
    · obtain ⟨i1, i2, i3⟩ := ih (p + 1) (by omega)
      rw [rn_t c.1 c.2]
      refine ⟨by omega, fun h => i2 (by omega), fun i h1 h2 => ?_⟩
      by_cases e : i = p
      · subst e; exact c
      · exact i3 i (by omega) h2
    · rw [rn_f c]
      exact ⟨Nat.le_refl _, fun h => h, fun i h1 h2 => by omega⟩
theorem rn_ge : p ≤ rnN P f n p := (rn_all (n - p) p rfl).1
theorem rn_le (h : p ≤ n) : rnN P f n p ≤ n := (rn_all (n - p) p rfl).2.1 h
theorem rn_in {i : Nat} (h1 : p ≤ i) (h2 : i < rnN P f n p) : i < n ∧ P (f i) = true := (rn_all (n - p) p rfl).2.2 i h1 h2
def kdN (f : Nat → Nat) (n st : Nat) : Nat := if st < n then kdC (f st) else 0
def enN (f : Nat → Nat) (n st : Nat) : Nat := if kdN f n st = 1 ∨ kdN f n st = 2 then rnN (isK (kdN f n st)) f n (st + 1) else if kdN f n st = 0 then st else st + 1
def nxN (f : Nat → Nat) (n p : Nat) : Nat := rnN isW f n p
theorem kdC_r (x : Nat) : 1 ≤ kdC x ∧ kdC x ≤ 4 := by
  unfold kdC
  by_cases a : 97 ≤ x ∧ x ≤ 122
  · rw [if_pos a]; omega
  · rw [if_neg a]
    by_cases b : 48 ≤ x ∧ x ≤ 57
    · rw [if_pos b]; omega
    · rw [if_neg b]
      by_cases c : x = 59
      · rw [if_pos c]; omega
      · rw [if_neg c]; omega
theorem kdC_1 {x : Nat} : kdC x = 1 ↔ (97 ≤ x ∧ x ≤ 122) := by
  unfold kdC
  by_cases a : 97 ≤ x ∧ x ≤ 122
  · rw [if_pos a]; exact ⟨fun _ => a, fun _ => rfl⟩
  · rw [if_neg a]
    refine ⟨fun h => ?_, fun h => absurd h a⟩
    by_cases b : 48 ≤ x ∧ x ≤ 57
    · rw [if_pos b] at h; omega
    · rw [if_neg b] at h
      by_cases c : x = 59
      · rw [if_pos c] at h; omega
      · rw [if_neg c] at h; omega
theorem kdC_2 {x : Nat} : kdC x = 2 ↔ (48 ≤ x ∧ x ≤ 57) := by
  unfold kdC
  by_cases a : 97 ≤ x ∧ x ≤ 122
  · rw [if_pos a]; exact ⟨fun h => by omega, fun h => by omega⟩
  · rw [if_neg a]
    by_cases b : 48 ≤ x ∧ x ≤ 57
    · rw [if_pos b]; exact ⟨fun _ => b, fun _ => rfl⟩
    · rw [if_neg b]
      refine ⟨fun h => ?_, fun h => absurd h b⟩
      by_cases c : x = 59
      · rw [if_pos c] at h; omega
      · rw [if_neg c] at h; omega
theorem kdN_0 {st : Nat} : kdN f n st = 0 ↔ n ≤ st := by
  unfold kdN
  by_cases c : st < n
  · rw [if_pos c]; have := kdC_r (f st); omega
  · rw [if_neg c]; omega
theorem kdN_4 {st : Nat} : kdN f n st ≤ 4 := by
  unfold kdN
  by_cases c : st < n
  · rw [if_pos c]; have := kdC_r (f st); omega
  · rw [if_neg c]; omega
theorem enN_b {st : Nat} (h : st ≤ n) : st ≤ enN f n st ∧ enN f n st ≤ n ∧ (kdN f n st ≠ 0 → st < enN f n st) := by
  unfold enN
  by_cases c : kdN f n st = 1 ∨ kdN f n st = 2
  · rw [if_pos c]
    have h1 : ¬ kdN f n st = 0 := by omega
    have h2 : st < n := by rw [kdN_0] at h1; omega
    have := rn_ge (P := isK (kdN f n st)) (f := f) (n := n) (p := st + 1)
    have := rn_le (P := isK (kdN f n st)) (f := f) (n := n) (p := st + 1) (by omega)
    omega
  · rw [if_neg c]
    by_cases c0 : kdN f n st = 0
    · rw [if_pos c0]; omega
    · rw [if_neg c0]
      have h2 : st < n := by rw [kdN_0] at c0; omega
      omega
theorem nxN_b (h : p ≤ n) : p ≤ nxN f n p ∧ nxN f n p ≤ n := ⟨rn_ge, rn_le h⟩
/-- within a word or a number all are of its kind -/
theorem tok_in {st i : Nat} (h : kdN f n st = 1 ∨ kdN f n st = 2) (h1 : st ≤ i) (h2 : i < enN f n st) : i < n ∧ kdC (f i) = kdN f n st := by
  have h0 : ¬ kdN f n st = 0 := by omega
  have hs : st < n := by rw [kdN_0] at h0; omega
  have hk : kdN f n st = kdC (f st) := by unfold kdN; rw [if_pos hs]
  by_cases e : i = st
  · subst e; exact ⟨hs, hk.symm⟩
  · unfold enN at h2
    rw [if_pos h] at h2
    obtain ⟨a, b⟩ := rn_in (p := st + 1) (by omega) h2
    exact ⟨a, of_decide_eq_true b⟩
-- the words
def zLn (i : Nat) : Nat := zLen.getD i 0
def zB (i k : Nat) : Nat := ((zBy.getD i []).getD k 0).toInt.toNat
theorem zLn_r : ∀ i : Fin 11, 4 ≤ zLn i.val ∧ zLn i.val ≤ 7 := by decide
theorem sLen_n {i : Nat} (hi : i < 11) : sLen i = some (nN (zLn i)) := if_pos hi
theorem sAt_d : ∀ i : Fin 11, ∀ k : Fin 7, k.val < zLn i.val → sAt i.val (nN k.val) = some (nN (zB i.val k.val)) ∧ zB i.val k.val < 128 := by decide
theorem sAt_n {i k : Nat} (hi : i < 11) (hk : k < zLn i) : sAt i (nN k) = some (nN (zB i k)) ∧ zB i k < 128 := sAt_d ⟨i, hi⟩ ⟨k, by have : 4 ≤ zLn i ∧ zLn i ≤ 7 := zLn_r ⟨i, hi⟩; omega⟩ hk
theorem z_dst : ∀ i j : Fin 11, zLn i.val = zLn j.val → (∀ k : Fin 7, k.val < zLn i.val → zB i.val k.val = zB j.val k.val) → i = j := by decide
def wdm (f : Nat → Nat) (st en i : Nat) : Bool := decide (zLn i = en - st ∧ ∀ j, j < en - st → f (st + j) = zB i j)
def wdN (f : Nat → Nat) (n st : Nat) : Option Nat := if kdN f n st = 1 then fnd (fun i => wdm f st (enN f n st) i = true) 0 11 else none
theorem wdm_1 {st en i j : Nat} (hi : i < 11) (hj : j < 11) (h1 : wdm f st en i = true) (h2 : wdm f st en j = true) : i = j := by
  obtain ⟨a1, a2⟩ := of_decide_eq_true h1
  obtain ⟨b1, b2⟩ := of_decide_eq_true h2
  have := z_dst ⟨i, hi⟩ ⟨j, hj⟩ (by show zLn i = zLn j; omega) (fun k hk => by
    have hk : k.val < zLn i := hk
    exact (a2 k.val (by omega)).symm.trans (b2 k.val (by omega)))
  exact Fin.mk.inj_iff.mp this
theorem wdN_i {st i : Nat} (hi : i < 11) : wdN f n st = some i ↔ (kdN f n st = 1 ∧ wdm f st (enN f n st) i = true) := by
  unfold wdN
  by_cases c : kdN f n st = 1
  · rw [if_pos c]
    constructor
    · intro h
      exact ⟨c, (fnd_some h).2.2.1⟩
    · rintro ⟨-, h⟩
      exact fnd_eq hi h (fun j hj hq => by have := wdm_1 (by omega) hi hq h; omega)
  · rw [if_neg c]
    exact ⟨fun h => (by cases h), fun h => absurd h.1 c⟩
theorem wdN_lt {st i : Nat} (h : wdN f n st = some i) : i < 11 := by
  unfold wdN at h
  by_cases c : kdN f n st = 1
  · rw [if_pos c] at h; have := (fnd_some h).2.1; omega
  · rw [if_neg c] at h; cases h
theorem wdN_1 {st i : Nat} (h : wdN f n st = some i) : kdN f n st = 1 := by
  unfold wdN at h
  by_cases c : kdN f n st = 1
  · exact c
  · rw [if_neg c] at h; cases h
-- a signed byte
theorem sb_neg {x : Nat} (h1 : 128 ≤ x) (h2 : x < 256) : sbI x < 0 := by
  have key : ∀ k : Fin 128, (nN (128 + k.val)).toInt8.toInt32 < 0 := by decide +kernel
  have := key ⟨x - 128, by omega⟩
  unfold sbI
  rw [show 128 + (x - 128) = x by omega] at this
  exact this
theorem sb_eq {x c : Nat} (hx : x < 256) (hc : c < 128) : (sbI x = nN c) = (x = c) := by
  by_cases h : x < 128
  · rw [sb_low h, nN_eq (by omega) (by omega)]
  · have := sb_neg (x := x) (by omega) hx
    refine propext ⟨fun e => ?_, fun e => by omega⟩
    rw [e] at this
    exact absurd this (nN_neg0 (by omega))
theorem c_kind {x : Nat} {M : Mem} (hx : x < 256) : p_X3_kindOf (sbI x) M = some (nN (kdC x)) := by
  unfold p_X3_kindOf kdC
  simp only [jn_def]
  by_cases h : x < 128
  · rw [sb_low h]
    have e59 : (nN x = (59 : Int32)) = (x = 59) := nN_eq (b := 59) (by omega) (by omega)
    have e97 : (nN x < (97 : Int32)) = (x < 97) := nN_lt (b := 97) (by omega) (by omega)
    have e122 : ((122 : Int32) < nN x) = (122 < x) := nN_lt (a := 122) (by omega) (by omega)
    have e48 : (nN x < (48 : Int32)) = (x < 48) := nN_lt (b := 48) (by omega) (by omega)
    have e57 : ((57 : Int32) < nN x) = (57 < x) := nN_lt (a := 57) (by omega) (by omega)
    simp only [e59, e97, e122, e48, e57]
    by_cases a1 : x < 97
    · by_cases a2 : x < 48
      · rw [if_pos a1, if_pos a2, if_neg (show ¬ x = 59 by omega), if_neg (show ¬ (97 ≤ x ∧ x ≤ 122) by omega), if_neg (show ¬ (48 ≤ x ∧ x ≤ 57) by omega), if_neg (show ¬ x = 59 by omega)]; rfl
      · by_cases a3 : 57 < x
        · by_cases a4 : x = 59
          · rw [if_pos a1, if_neg a2, if_pos a3, if_pos a4, if_neg (show ¬ (97 ≤ x ∧ x ≤ 122) by omega), if_neg (show ¬ (48 ≤ x ∧ x ≤ 57) by omega), if_pos a4]; rfl
          · rw [if_pos a1, if_neg a2, if_pos a3, if_neg a4, if_neg (show ¬ (97 ≤ x ∧ x ≤ 122) by omega), if_neg (show ¬ (48 ≤ x ∧ x ≤ 57) by omega), if_neg a4]; rfl
        · rw [if_pos a1, if_neg a2, if_neg a3, if_neg (show ¬ (97 ≤ x ∧ x ≤ 122) by omega), if_pos (show 48 ≤ x ∧ x ≤ 57 by omega)]; rfl
    · by_cases a5 : 122 < x
      · rw [if_neg a1, if_pos a5, if_neg (show ¬ x < 48 by omega), if_pos (show 57 < x by omega), if_neg (show ¬ x = 59 by omega), if_neg (show ¬ (97 ≤ x ∧ x ≤ 122) by omega), if_neg (show ¬ (48 ≤ x ∧ x ≤ 57) by omega), if_neg (show ¬ x = 59 by omega)]; rfl
      · rw [if_neg a1, if_neg a5, if_pos (show 97 ≤ x ∧ x ≤ 122 by omega)]; rfl
  · have hn := sb_neg (x := x) (by omega) hx
    have h97 : sbI x < (97 : Int32) := by
      rw [i_lt] at hn ⊢
      have e0 : (0 : Int32).toInt = 0 := rfl
      have e97 : (97 : Int32).toInt = 97 := rfl
      omega
    have h48 : sbI x < (48 : Int32) := by
      rw [i_lt] at hn ⊢
      have e0 : (0 : Int32).toInt = 0 := rfl
      have e48 : (48 : Int32).toInt = 48 := rfl
      omega
    have e59 : (sbI x = (59 : Int32)) = (x = 59) := sb_eq (c := 59) hx (by omega)
    simp only [e59]
    rw [if_pos h97, if_pos h48, if_neg (show ¬ x = 59 by omega), if_neg (show ¬ (97 ≤ x ∧ x ≤ 122) by omega), if_neg (show ¬ (48 ≤ x ∧ x ≤ 57) by omega), if_neg (show ¬ x = 59 by omega)]
    rfl
end TK
section RD3
/-- the reader's cell -/
def rc3 (t2 : Nat) (ln er eo : Int32) (rr : Nat) (b5 b6 b7 kd st en : Int32) (w : Value) : mE := .inr (3, [.ref t2, .int ln, .int er, .int eo, .ref rr, .int b5, .int b6, .int b7, .int kd, .int st, .int en, w])
def RW (M : Mem) (a : Nat) (t2 : Nat) (ln er eo : Int32) (rr : Nat) (b5 b6 b7 kd st en : Int32) (w : Value) : Mem := upM M a (rc3 t2 ln er eo rr b5 b6 b7 kd st en w)
variable {M : Mem} {a t2 : Nat} {ln er eo : Int32} {rr : Nat} {b5 b6 b7 kd st en : Int32} {w : Value}
theorem upM_up {e1 e2 : mE} : upM (upM M a e1) a e2 = upM M a e2 := by
  funext x; unfold upM; by_cases c : x = a
  · rw [if_pos c, if_pos c]
  · rw [if_neg c, if_neg c, if_neg c]
theorem sV_w {ci i : Nat} {fs : List Value} {v : Value} (h : M a = some (.inr (ci, fs))) (hi : i < fs.length) : sV ci i M a v = some (upM M a (.inr (ci, fs.set i v))) := by
  unfold sV; rw [h]; exact if_pos ⟨rfl, hi⟩
theorem rw_at : RW M a t2 ln er eo rr b5 b6 b7 kd st en w a = some (rc3 t2 ln er eo rr b5 b6 b7 kd st en w) := upM_at
theorem rw_o {x : Nat} (h : x ≠ a) : RW M a t2 ln er eo rr b5 b6 b7 kd st en w x = M x := upM_o h
theorem rw_id (h : M a = some (rc3 t2 ln er eo rr b5 b6 b7 kd st en w)) : RW M a t2 ln er eo rr b5 b6 b7 kd st en w = M := upM_same h
theorem rw_C : isC 3 (RW M a t2 ln er eo rr b5 b6 b7 kd st en w) a = some () := by unfold isC; rw [rw_at]; rfl
theorem rw_txt {i : Int32} (h : t2 ≠ a) : aI 1 (RW M a t2 ln er eo rr b5 b6 b7 kd st en w) t2 i = aI 1 M t2 i := q_aI (rw_o h)
theorem rg_0 : gR 3 0 (RW M a t2 ln er eo rr b5 b6 b7 kd st en w) a = some t2 := by unfold gR gV; rw [rw_at]; rfl
theorem rg_1 : gI 3 1 (RW M a t2 ln er eo rr b5 b6 b7 kd st en w) a = some ln := by unfold gI gV; rw [rw_at]; rfl
theorem rs_1 (y : Int32) : sV 3 1 (RW M a t2 ln er eo rr b5 b6 b7 kd st en w) a (.int y) = some (RW M a t2 y er eo rr b5 b6 b7 kd st en w) := by rw [sV_w rw_at (by show 1 < 12; omega)]; exact congrArg some upM_up
theorem rg_2 : gI 3 2 (RW M a t2 ln er eo rr b5 b6 b7 kd st en w) a = some er := by unfold gI gV; rw [rw_at]; rfl
theorem rs_2 (y : Int32) : sV 3 2 (RW M a t2 ln er eo rr b5 b6 b7 kd st en w) a (.int y) = some (RW M a t2 ln y eo rr b5 b6 b7 kd st en w) := by rw [sV_w rw_at (by show 2 < 12; omega)]; exact congrArg some upM_up
theorem rg_3 : gI 3 3 (RW M a t2 ln er eo rr b5 b6 b7 kd st en w) a = some eo := by unfold gI gV; rw [rw_at]; rfl
theorem rs_3 (y : Int32) : sV 3 3 (RW M a t2 ln er eo rr b5 b6 b7 kd st en w) a (.int y) = some (RW M a t2 ln er y rr b5 b6 b7 kd st en w) := by rw [sV_w rw_at (by show 3 < 12; omega)]; exact congrArg some upM_up
theorem rg_4 : gR 3 4 (RW M a t2 ln er eo rr b5 b6 b7 kd st en w) a = some rr := by unfold gR gV; rw [rw_at]; rfl
theorem rg_5 : gI 3 5 (RW M a t2 ln er eo rr b5 b6 b7 kd st en w) a = some b5 := by unfold gI gV; rw [rw_at]; rfl
theorem rs_5 (y : Int32) : sV 3 5 (RW M a t2 ln er eo rr b5 b6 b7 kd st en w) a (.int y) = some (RW M a t2 ln er eo rr y b6 b7 kd st en w) := by rw [sV_w rw_at (by show 5 < 12; omega)]; exact congrArg some upM_up
theorem rg_6 : gI 3 6 (RW M a t2 ln er eo rr b5 b6 b7 kd st en w) a = some b6 := by unfold gI gV; rw [rw_at]; rfl
theorem rs_6 (y : Int32) : sV 3 6 (RW M a t2 ln er eo rr b5 b6 b7 kd st en w) a (.int y) = some (RW M a t2 ln er eo rr b5 y b7 kd st en w) := by rw [sV_w rw_at (by show 6 < 12; omega)]; exact congrArg some upM_up
theorem rg_7 : gI 3 7 (RW M a t2 ln er eo rr b5 b6 b7 kd st en w) a = some b7 := by unfold gI gV; rw [rw_at]; rfl
theorem rs_7 (y : Int32) : sV 3 7 (RW M a t2 ln er eo rr b5 b6 b7 kd st en w) a (.int y) = some (RW M a t2 ln er eo rr b5 b6 y kd st en w) := by rw [sV_w rw_at (by show 7 < 12; omega)]; exact congrArg some upM_up
theorem rg_8 : gI 3 8 (RW M a t2 ln er eo rr b5 b6 b7 kd st en w) a = some kd := by unfold gI gV; rw [rw_at]; rfl
theorem rs_8 (y : Int32) : sV 3 8 (RW M a t2 ln er eo rr b5 b6 b7 kd st en w) a (.int y) = some (RW M a t2 ln er eo rr b5 b6 b7 y st en w) := by rw [sV_w rw_at (by show 8 < 12; omega)]; exact congrArg some upM_up
theorem rg_9 : gI 3 9 (RW M a t2 ln er eo rr b5 b6 b7 kd st en w) a = some st := by unfold gI gV; rw [rw_at]; rfl
theorem rs_9 (y : Int32) : sV 3 9 (RW M a t2 ln er eo rr b5 b6 b7 kd st en w) a (.int y) = some (RW M a t2 ln er eo rr b5 b6 b7 kd y en w) := by rw [sV_w rw_at (by show 9 < 12; omega)]; exact congrArg some upM_up
theorem rg_10 : gI 3 10 (RW M a t2 ln er eo rr b5 b6 b7 kd st en w) a = some en := by unfold gI gV; rw [rw_at]; rfl
theorem rs_10 (y : Int32) : sV 3 10 (RW M a t2 ln er eo rr b5 b6 b7 kd st en w) a (.int y) = some (RW M a t2 ln er eo rr b5 b6 b7 kd st y w) := by rw [sV_w rw_at (by show 10 < 12; omega)]; exact congrArg some upM_up
theorem rs_11 (y : Value) : sV 3 11 (RW M a t2 ln er eo rr b5 b6 b7 kd st en w) a y = some (RW M a t2 ln er eo rr b5 b6 b7 kd st en y) := by rw [sV_w rw_at (by show 11 < 12; omega)]; exact congrArg some upM_up
theorem rg_11 {o : Option Nat} : gN 3 11 (RW M a t2 ln er eo rr b5 b6 b7 kd st en (va_rf o)) a = some o := by
  unfold gN gV
  rw [rw_at]
  cases o <;> rfl
end RD3