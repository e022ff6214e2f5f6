/-! the reference's row: v its numbers, pl where each child has a place -/
def oN (p : Option Nat) : Int32 := match p with
  | none => mI
  | some s => nN s
def enc (v : Nat → Nat) (pl : Nat → Option Nat) : Nat → Int32 := fun i => if 484 ≤ i ∧ i < 524 then oN (pl (i - 484)) else nN (v i)
theorem enc_v {v : Nat → Nat} {pl : Nat → Option Nat} {i : Nat} (h : ¬ (484 ≤ i ∧ i < 524)) : enc v pl i = nN (v i) := if_neg h
theorem enc_p {v : Nat → Nat} {pl : Nat → Option Nat} {c : Nat} (h : c < 40) : enc v pl (484 + c) = oN (pl c) := by
  unfold enc
  rw [if_pos (by omega), Nat.add_sub_cancel_left]
def updN (v : Nat → Nat) (i x : Nat) : Nat → Nat := fun k => if k = i then x else v k
def updO (p : Nat → Option Nat) (i : Nat) (x : Option Nat) : Nat → Option Nat := fun k => if k = i then x else p k
theorem enc_uv {v : Nat → Nat} {pl : Nat → Option Nat} {i x : Nat} (h : ¬ (484 ≤ i ∧ i < 524)) : upd (enc v pl) i (nN x) = enc (updN v i x) pl := by
  funext k
  unfold upd enc updN
  by_cases hk : k = i
  · subst hk; rw [if_pos rfl, if_neg h, if_pos rfl]
  · simp only [if_neg hk]
theorem enc_up {v : Nat → Nat} {pl : Nat → Option Nat} {c : Nat} {p : Option Nat} (h : c < 40) : upd (enc v pl) (484 + c) (oN p) = enc v (updO pl c p) := by
  funext k
  unfold upd enc updO
  by_cases hk : k = 484 + c
  · subst hk; rw [if_pos rfl, if_pos (by omega), if_pos (by omega)]
  · rw [if_neg hk]
    by_cases h2 : 484 ≤ k ∧ k < 524
    · rw [if_pos h2, if_pos h2, if_neg (by omega)]
    · rw [if_neg h2, if_neg h2]
/-- a Java boolean -/
def bI (P : Prop) [Decidable P] : Int32 := if P then nN 1 else nN 0
theorem bI_0 {P : Prop} [Decidable P] : (bI P = nN 0) = ¬ P := by
  unfold bI
  by_cases h : P
  · rw [if_pos h]; exact propext ⟨fun h2 => absurd h2 (by decide), fun h2 => absurd h h2⟩
  · rw [if_neg h]; exact propext ⟨fun _ => h, fun _ => rfl⟩
theorem bI_1 {P : Prop} [Decidable P] : (bI P = nN 1) = P := by
  unfold bI
  by_cases h : P
  · rw [if_pos h]; exact propext ⟨fun _ => h, fun _ => rfl⟩
  · rw [if_neg h]; exact propext ⟨fun h2 => absurd h2 (by decide), fun h2 => absurd h2 h⟩
theorem bI_01 {P : Prop} [Decidable P] : (bI P = nN 0 ∨ bI P = nN 1) = True := by
  rw [bI_0, bI_1]; exact propext ⟨fun _ => trivial, fun _ => (Decidable.em P).symm⟩
theorem bI_t {P : Prop} [Decidable P] (h : P) : nN 1 = bI P := (if_pos h).symm
theorem bI_f {P : Prop} [Decidable P] (h : ¬ P) : nN 0 = bI P := (if_neg h).symm
theorem bI_c {P Q : Prop} [Decidable P] [Decidable Q] (h : P ↔ Q) : bI P = bI Q := by
  by_cases hp : P
  · rw [← bI_t hp, ← bI_t (h.mp hp)]
  · rw [← bI_f hp, ← bI_f (fun q => hp (h.mpr q))]
theorem n01 : (nN 1 = nN 0) = False := by decide
theorem n10 : (nN 0 = nN 1) = False := by decide
theorem oN_eq {p : Option Nat} {s : Nat} (hp : ∀ t, p = some t → t < 2147483648) (hs : s < 2147483648) : (oN p = nN s) = (p = some s) := by
  cases p with
  | none => show (mI = nN s) = _; rw [mI_nN hs]; simp
  | some t => show (nN t = nN s) = _; rw [nN_eq (hp t rfl) hs]; simp
theorem oN_mI {p : Option Nat} (hp : ∀ t, p = some t → t < 2147483648) : (oN p = mI) = (p = none) := by
  cases p with
  | none => exact propext ⟨fun _ => rfl, fun _ => rfl⟩
  | some t => show (nN t = mI) = _; rw [nN_mI (hp t rfl)]; simp
/-- what holds of a row, all along -/
def Inv (v : Nat → Nat) (pl : Nat → Option Nat) : Prop :=
  (v 0 ≤ 8 ∧ v 1 ≤ 40 ∧ v 2 ≤ 20 ∧ v 6 ≤ 9 ∧ v 7 ≤ 1 ∧ v 8 ≤ 1 ∧ v 9 ≤ 160) ∧
  (∀ s, s < 8 → v (20 + s) ≤ 40 ∧ v (28 + s) ≤ 99 ∧ v (36 + s) ≤ 99 ∧ v (44 + s) ≤ 3 ∧ v (52 + s) ≤ 1) ∧
  (∀ s, s < 8 → ∀ k, k < 3 → v (68 + 3 * s + k) ≤ 2) ∧
  (∀ c, c < 40 → v (124 + c) ≤ 99 ∧ v (164 + c) ≤ 99 ∧ v (204 + c) ≤ 99 ∧ v (244 + c) ≤ 1 ∧ v (284 + c) < 10000 ∧ v (324 + c) ≤ 4 ∧ v (364 + c) ≤ 1 ∧ v (404 + c) ≤ 1 ∧ v (444 + c) ≤ 1) ∧
  (∀ c, c < v 1 → ∀ i, i < v (324 + c) → v (564 + 4 * c + i) < v 0) ∧
  (∀ c, c < v 1 → ∀ i j, i < v (324 + c) → j < v (324 + c) → v (564 + 4 * c + i) = v (564 + 4 * c + j) → i = j) ∧
  (∀ c s, pl c = some s → c < v 1 ∧ v (404 + c) = 0 ∧ ∃ i, i < v (324 + c) ∧ v (564 + 4 * c + i) = s) ∧
  (∀ i, i ≠ 10 → v i < 2147483648)
section INV
variable {v : Nat → Nat} {pl : Nat → Option Nat}
theorem Inv.h0 (hI : Inv v pl) : v 0 ≤ 8 := hI.1.1
theorem Inv.h1 (hI : Inv v pl) : v 1 ≤ 40 := hI.1.2.1
theorem Inv.h2 (hI : Inv v pl) : v 2 ≤ 20 := hI.1.2.2.1
theorem Inv.h7 (hI : Inv v pl) : v 7 ≤ 1 := hI.1.2.2.2.2.1
theorem Inv.h8 (hI : Inv v pl) : v 8 ≤ 1 := hI.1.2.2.2.2.2.1
theorem Inv.sch (hI : Inv v pl) : ∀ s, s < 8 → v (20 + s) ≤ 40 ∧ v (28 + s) ≤ 99 ∧ v (36 + s) ≤ 99 ∧ v (44 + s) ≤ 3 ∧ v (52 + s) ≤ 1 := hI.2.1
theorem Inv.rul (hI : Inv v pl) : ∀ s, s < 8 → ∀ k, k < 3 → v (68 + 3 * s + k) ≤ 2 := hI.2.2.1
theorem Inv.chi (hI : Inv v pl) : ∀ c, c < 40 → v (124 + c) ≤ 99 ∧ v (164 + c) ≤ 99 ∧ v (204 + c) ≤ 99 ∧ v (244 + c) ≤ 1 ∧ v (284 + c) < 10000 ∧ v (324 + c) ≤ 4 ∧ v (364 + c) ≤ 1 ∧ v (404 + c) ≤ 1 ∧ v (444 + c) ≤ 1 := hI.2.2.2.1
theorem Inv.wis (hI : Inv v pl) : ∀ c, c < v 1 → ∀ i, i < v (324 + c) → v (564 + 4 * c + i) < v 0 := hI.2.2.2.2.1
theorem Inv.inj (hI : Inv v pl) : ∀ c, c < v 1 → ∀ i j, i < v (324 + c) → j < v (324 + c) → v (564 + 4 * c + i) = v (564 + 4 * c + j) → i = j := hI.2.2.2.2.2.1
theorem Inv.plc (hI : Inv v pl) : ∀ c s, pl c = some s → c < v 1 ∧ v (404 + c) = 0 ∧ ∃ i, i < v (324 + c) ∧ v (564 + 4 * c + i) = s := hI.2.2.2.2.2.2.1
theorem Inv.hb (hI : Inv v pl) : ∀ i, i ≠ 10 → v i < 2147483648 := hI.2.2.2.2.2.2.2
theorem Inv.pl8 (hI : Inv v pl) : ∀ c s, pl c = some s → s < v 0 := fun c s h => by
  obtain ⟨h1, -, i, h2, h3⟩ := hI.plc c s h
  rw [← h3]; exact hI.wis c h1 i h2
theorem Inv.plb (hI : Inv v pl) : ∀ c s, pl c = some s → s < 2147483648 := fun c s h => by have := hI.pl8 c s h; have := hI.h0; omega
end INV
-- what the rules say
def hasP (v : Nat → Nat) (f s : Nat) : Bool := (fnd (fun k => v (724 + 2 * k) = f ∧ v (724 + 2 * k + 1) = s) 0 (v 2)).isSome
def zonB (v : Nat → Nat) (c s : Nat) : Bool := decide (v (52 + s) = 1 ∧ (v (92 + 4 * s) ≤ v (124 + c) ∧ v (124 + c) ≤ v (92 + 4 * s + 2)) ∧ v (92 + 4 * s + 1) ≤ v (164 + c) ∧ v (164 + c) ≤ v (92 + 4 * s + 3))
def meeB (v : Nat → Nat) (c s r : Nat) : Bool := if r = 0 then decide (v (244 + c) = 1) else if r = 1 then decide (v (204 + c) ≠ 0) && hasP v (v (204 + c)) s else zonB v c s
def clsS (v : Nat → Nat) (c s : Nat) : Nat := (fnd (fun k => meeB v c s (v (68 + 3 * s + k)) = true) 0 (v (44 + s))).getD (v (44 + s))
def farS (v : Nat → Nat) (c s : Nat) : Nat := (((v (124 + c) : Int) - v (28 + s)) * ((v (124 + c) : Int) - v (28 + s)) + ((v (164 + c) : Int) - v (36 + s)) * ((v (164 + c) : Int) - v (36 + s))).toNat
def latS (v : Nat → Nat) (c : Nat) : Nat := if v 7 = 1 ∧ v (364 + c) = 1 then 1 else 0
/-- one number for all that decides who comes first -/
def stS (v : Nat → Nat) (s c : Nat) : Nat := ((((latS v c) * 4 + clsS v c s) * 32768 + farS v c s) * 16384 + v (284 + c)) * 64 + c
def wisO (v : Nat → Nat) (c s : Nat) : Option Nat := fnd (fun i => v (564 + 4 * c + i) = s) 0 (v (324 + c))
def gotO (v : Nat → Nat) (pl : Nat → Option Nat) (c : Nat) : Option Nat := match pl c with
  | none => none
  | some s => wisO v c s
def hldN (v : Nat → Nat) (pl : Nat → Option Nat) (s : Nat) : Nat := cnt (fun k => pl k = some s) (v 1)
/-- whether a child would sooner have the place -/
def prfB (v : Nat → Nat) (pl : Nat → Option Nat) (c s : Nat) : Bool := match wisO v c s, gotO v pl c with
  | none, _ => false
  | some _, none => true
  | some i, some j => decide (i < j)
def waiB (v : Nat → Nat) (pl : Nat → Option Nat) (c s : Nat) : Bool := decide (v 8 = 1) && decide (v (404 + c) = 0) && prfB v pl c s
def wtgN (v : Nat → Nat) (pl : Nat → Option Nat) (s : Nat) : Nat := cnt (fun k => waiB v pl k s = true) (v 1)
theorem nP_P {P : Prop} [Decidable P] : (¬ P ∨ P) = True := propext ⟨fun _ => trivial, fun _ => (Decidable.em P).symm⟩
/-- the greatest by a key of those that are so -/
def mxO (P : Nat → Prop) [DecidablePred P] (key : Nat → Nat) : Nat → Option Nat
  | 0 => none
  | n + 1 => if P n ∧ ((mxO P key n).all (fun l => decide (key l < key n))) = true then some n else mxO P key n
def isoB (v : Nat → Nat) (pl : Nat → Option Nat) (W k s : Nat) : Bool := if W = 0 then decide (pl k = some s) else waiB v pl k s
def ahdN (v : Nat → Nat) (pl : Nat → Option Nat) (c s W : Nat) : Nat := cnt (fun k => isoB v pl W k s = true ∧ stS v s k < stS v s c) (v 1)
def staO (v : Nat → Nat) (pl : Nat → Option Nat) (s i W : Nat) : Option Nat := fnd (fun k => isoB v pl W k s = true ∧ ahdN v pl k s W = i) 0 (v 1)
def lstO (v : Nat → Nat) (pl : Nat → Option Nat) (s : Nat) : Option Nat := mxO (fun k => pl k = some s) (stS v s) (v 1)
def filO (v : Nat → Nat) (pl : Nat → Option Nat) : Option Nat := fnd (fun s => hldN v pl s < v (20 + s) ∧ 0 < wtgN v pl s) 0 (v 0)
theorem e_inRange {x lo hi : Int32} {M : Mem} : p_X7_inRange x lo hi M = some (bI (lo ≤ x ∧ x ≤ hi)) := by
  unfold p_X7_inRange
  by_cases h1 : x < lo
  · rw [if_pos h1, ← bI_f (fun h => by have := h.1; rw [i_le] at this; rw [i_lt] at h1; omega)]; rfl
  · rw [if_neg h1]
    by_cases h2 : hi < x
    · rw [if_pos h2, ← bI_f (fun h => by have := h.2; rw [i_le] at this; rw [i_lt] at h2; omega)]; rfl
    · rw [if_neg h2, ← bI_t ⟨by rw [i_le]; rw [i_lt] at h1; omega, by rw [i_le]; rw [i_lt] at h2; omega⟩]; rfl
theorem fnd_lt {P : Nat → Prop} [DecidablePred P] {n : Nat} : (fnd P 0 n).getD n ≤ n := by
  cases h : fnd P 0 n with
  | none => exact Nat.le_refl _
  | some i => have := fnd_some h; show i ≤ n; omega
theorem sq_le {a b : Nat} (ha : a ≤ 99) (hb : b ≤ 99) : ((a : Int) - b) * ((a : Int) - b) ≤ 9801 ∧ 0 ≤ ((a : Int) - b) * ((a : Int) - b) := by
  have h1 : -99 ≤ (a : Int) - b := by omega
  have h2 : (a : Int) - b ≤ 99 := by omega
  generalize (a : Int) - b = d at h1 h2
  constructor
  · have : (99 - d) * (99 + d) ≥ 0 := Int.mul_nonneg (by omega) (by omega)
    have e : (99 - d) * (99 + d) = 9801 - d * d := by rw [Int.sub_mul, Int.mul_add, Int.mul_add, Int.mul_comm d 99]; omega
    omega
  · by_cases h : 0 ≤ d
    · exact Int.mul_nonneg h h
    · exact Int.mul_nonneg_of_nonpos_of_nonpos (by omega) (by omega)
theorem mxO_lt {P : Nat → Prop} [DecidablePred P] {key : Nat → Nat} : ∀ {n i : Nat}, mxO P key n = some i → i < n ∧ P i := by
  intro n
  induction n with
  | zero => intro i h; cases h
  | succ n ih =>
    intro i h
    unfold mxO at h
    split at h
    · rename_i hc; cases h; exact ⟨by omega, hc.1⟩
    · have := ih h; exact ⟨by omega, this.2⟩
section SB
variable {v : Nat → Nat} {pl : Nat → Option Nat}
theorem far_le (hI : Inv v pl) {c s : Nat} (hc : c < 40) (hs : s < 8) : farS v c s ≤ 19602 := by
  have hch := hI.chi c hc; have hsc := hI.sch s hs
  have h1 := sq_le hch.1 hsc.2.1
  have h2 := sq_le hch.2.1 hsc.2.2.1
  unfold farS
  omega
theorem cls_le (hI : Inv v pl) {c s : Nat} (hs : s < 8) : clsS v c s ≤ 3 := by
  have := hI.sch s hs
  have := fnd_lt (P := fun k => meeB v c s (v (68 + 3 * s + k)) = true) (n := v (44 + s))
  unfold clsS
  omega
theorem wis_lt {c s i : Nat} (h : wisO v c s = some i) : i < v (324 + c) := by
  have := fnd_some h; omega
theorem wis_4 (hI : Inv v pl) {c s i : Nat} (hc : c < 40) (h : wisO v c s = some i) : i < 4 := by
  have := wis_lt h; have := hI.chi c hc; omega
theorem got_pl (hI : Inv v pl) {c : Nat} : gotO v pl c = none ↔ pl c = none := by
  unfold gotO
  cases h : pl c with
  | none => exact ⟨fun _ => rfl, fun _ => rfl⟩
  | some s =>
    obtain ⟨h1, h2, i, h3, h4⟩ := hI.plc c s h
    refine ⟨fun h5 => ?_, fun h5 => by cases h5⟩
    exact absurd h4 (fnd_none h5 i (by omega) (by omega))
end SB
