/-! the pure layer: numbers. nN n: a natural number as an int; iI z: a whole one; mI: -1 -/
def iI (z : Int) : Int32 := Int32.ofInt z
def nN (n : Nat) : Int32 := Int32.ofNat n
def mI : Int32 := -1
theorem nN_lit (n : Nat) : (OfNat.ofNat n : Int32) = nN (OfNat.ofNat n) := rfl
theorem nN_iI (n : Nat) : nN n = iI n := (Int32.ofInt_eq_ofNat).symm
theorem mI_lit : -nN 1 = mI := rfl
theorem mI_iI : mI = iI (-1) := rfl
theorem iI_add (a b : Int) : iI a + iI b = iI (a + b) := (Int32.ofInt_add a b).symm
theorem iI_sub (a b : Int) : iI a - iI b = iI (a - b) := (Int32.ofInt_sub a b).symm
theorem iI_mul (a b : Int) : iI a * iI b = iI (a * b) := (Int32.ofInt_mul a b).symm
theorem nN_add (a b : Nat) : nN a + nN b = nN (a + b) := by simp only [nN_iI, iI_add]; congr 1
theorem nN_mul (a b : Nat) : nN a * nN b = nN (a * b) := by simp only [nN_iI, iI_mul]; congr 1
theorem nN_sub (a b : Nat) : nN a - nN b = iI (a - b) := by simp only [nN_iI, iI_sub]
theorem nN_subN {a b : Nat} (h : b ≤ a) : nN a - nN b = nN (a - b) := by rw [nN_sub, nN_iI]; congr 1; omega
theorem iI_toInt {z : Int} (h : -2147483648 ≤ z ∧ z < 2147483648) : (iI z).toInt = z := by
  unfold iI
  rw [Int32.toInt_ofInt]
  have hs : Int32.size = 4294967296 := rfl
  rw [hs]
  exact Int.bmod_eq_of_le (by omega) (by omega)
theorem nN_toInt {n : Nat} (h : n < 2147483648) : (nN n).toInt = n := by rw [nN_iI, iI_toInt (by omega)]
theorem mI_toInt : mI.toInt = -1 := rfl
theorem iI_of (x : Int32) : iI x.toInt = x := Int32.ofInt_toInt x
theorem i_le (x y : Int32) : x ≤ y ↔ x.toInt ≤ y.toInt := Int32.le_iff_toInt_le
theorem i_lt (x y : Int32) : x < y ↔ x.toInt < y.toInt := Int32.lt_iff_toInt_lt
theorem i_eq (x y : Int32) : x = y ↔ x.toInt = y.toInt := ⟨fun h => by rw [h], fun h => Int32.toInt_inj.mp h⟩
theorem nN_of {x : Int32} {n : Nat} (h : x.toInt = n) : x = nN n := by rw [← iI_of x, h, nN_iI]
theorem nN_le {a b : Nat} (ha : a < 2147483648) (hb : b < 2147483648) : (nN a ≤ nN b) = (a ≤ b) := by
  rw [i_le, nN_toInt ha, nN_toInt hb]; exact propext Int.ofNat_le
theorem nN_lt {a b : Nat} (ha : a < 2147483648) (hb : b < 2147483648) : (nN a < nN b) = (a < b) := by
  rw [i_lt, nN_toInt ha, nN_toInt hb]; exact propext Int.ofNat_lt
theorem nN_eq {a b : Nat} (ha : a < 2147483648) (hb : b < 2147483648) : (nN a = nN b) = (a = b) := by
  rw [i_eq, nN_toInt ha, nN_toInt hb]; exact propext Int.ofNat_inj
theorem nN_inj {a b : Nat} (ha : a < 2147483648) (hb : b < 2147483648) (h : nN a = nN b) : a = b := by rwa [nN_eq ha hb] at h
theorem nN_mI {a : Nat} (ha : a < 2147483648) : (nN a = mI) = False := by
  rw [i_eq, nN_toInt ha, mI_toInt]; exact propext ⟨fun h => by omega, False.elim⟩
theorem mI_nN {a : Nat} (ha : a < 2147483648) : (mI = nN a) = False := by
  rw [i_eq, nN_toInt ha, mI_toInt]; exact propext ⟨fun h => by omega, False.elim⟩
theorem mI_lt {a : Nat} (ha : a < 2147483648) : (mI < nN a) = True := by
  rw [i_lt, nN_toInt ha, mI_toInt]; exact propext ⟨fun _ => trivial, fun _ => by omega⟩
theorem mI_le {a : Nat} (ha : a < 2147483648) : (mI ≤ nN a) = True := by
  rw [i_le, nN_toInt ha, mI_toInt]; exact propext ⟨fun _ => trivial, fun _ => by omega⟩
theorem lt_mI {a : Nat} (ha : a < 2147483648) : (nN a < mI) = False := by
  rw [i_lt, nN_toInt ha, mI_toInt]; exact propext ⟨fun h => by omega, False.elim⟩
theorem le_mI {a : Nat} (ha : a < 2147483648) : (nN a ≤ mI) = False := by
  rw [i_le, nN_toInt ha, mI_toInt]; exact propext ⟨fun h => by omega, False.elim⟩
theorem nN_clamp {n : Nat} (h : n < 2147483648) : (nN n).toNatClampNeg = n := by
  show (nN n).toInt.toNat = n
  rw [nN_toInt h]; omega
theorem nN_neg0 {n : Nat} (h : n < 2147483648) : ¬ nN n < 0 := by
  rw [i_lt, nN_toInt h]
  show ¬ (n : Int) < 0
  omega
theorem nN_ofNat (n : Nat) : Int32.ofNat n = nN n := rfl
theorem bS {α β : Type} (x : α) (f : α → Option β) : Option.bind (some x) f = f x := Eq.symm (Eq.symm rfl)
theorem jn_def {α β : Type} (k : α) (f : α → β) : jn k f = f k := Eq.symm (Eq.symm rfl)
theorem ob2_def {α β γ : Type} (x : α) (y : β) (f : α → β → Option γ) : ob2 (some (x, y)) f = f x y := Eq.symm (Eq.symm rfl)
theorem FU_pos {n : Nat} (h : n < 100000) : n < FU := h
/-! loops -/
def itr {α : Type} (body : Nat → α → α) : Nat → Nat → α → α
  | _, 0, x => x
  | k, d + 1, x => itr body (k + 1) d (body k x)
theorem loop_up {α R : Type} {L : Nat → Nat → α → Option R} {fin : α → Option R} {n : Nat} {body : Nat → α → α} (hstep : ∀ fu k x, k < n → L (fu + 1) k x = L fu (k + 1) (body k x)) (hend : ∀ fu x, L (fu + 1) n x = fin x) : ∀ d k x fu, k + d = n → d < fu → L fu k x = fin (itr body k d x) := by
  intro d
  induction d with
  | zero =>
    intro k x fu hk hf
    obtain ⟨f, rfl⟩ : ∃ f, fu = f + 1 := ⟨fu - 1, by omega⟩
    rw [show k = n by omega, hend]
    rfl
  | succ d ih =>
    intro k x fu hk hf
    obtain ⟨f, rfl⟩ : ∃ f, fu = f + 1 := ⟨fu - 1, by omega⟩
    rw [hstep f k x (by omega), ih (k + 1) _ f (by omega) (by omega)]
    rfl
theorem itr_snoc {α : Type} (body : Nat → α → α) : ∀ d k x, itr body k (d + 1) x = body (k + d) (itr body k d x) := by
  intro d
  induction d with
  | zero => intro k x; rfl
  | succ d ih =>
    intro k x
    show itr body (k + 1) (d + 1) (body k x) = _
    rw [ih]
    show body (k + 1 + d) _ = body (k + (d + 1)) (itr body (k + 1) d (body k x))
    rw [show k + 1 + d = k + (d + 1) by omega]
/-- how many of the first n are so -/
def cnt (P : Nat → Prop) [DecidablePred P] : Nat → Nat
  | 0 => 0
  | n + 1 => cnt P n + (if P n then 1 else 0)
theorem cnt_le (P : Nat → Prop) [DecidablePred P] (n : Nat) : cnt P n ≤ n := by
  induction n with
  | zero => exact Nat.le_refl _
  | succ n ih =>
    show cnt P n + (if P n then 1 else 0) ≤ n + 1
    by_cases h : P n
    · rw [if_pos h]; omega
    · rw [if_neg h]; omega
theorem loop_cnt {R : Type} {L : Nat → Nat → Nat → Option R} {fin : Nat → Option R} {n : Nat} {P : Nat → Prop} [DecidablePred P] (hstep : ∀ fu k x, k < n → x ≤ k → L (fu + 1) k x = if P k then L fu (k + 1) (x + 1) else L fu (k + 1) x) (hend : ∀ fu x, x ≤ n → L (fu + 1) n x = fin x) : ∀ fu, n < fu → L fu 0 0 = fin (cnt P n) := by
  have key : ∀ d k fu, k + d = n → d < fu → L fu k (cnt P k) = fin (cnt P n) := by
    intro d
    induction d with
    | zero =>
      intro k fu hk hf
      obtain ⟨f, rfl⟩ : ∃ f, fu = f + 1 := ⟨fu - 1, by omega⟩
      have hk : k = n := by omega
      rw [hk, hend f _ (cnt_le P n)]
    | succ d ih =>
      intro k fu hk hf
      obtain ⟨f, rfl⟩ : ∃ f, fu = f + 1 := ⟨fu - 1, by omega⟩
      rw [hstep f k _ (by omega) (cnt_le P k), ← ih (k + 1) f (by omega) (by omega)]
      show _ = L f (k + 1) (cnt P k + (if P k then 1 else 0))
      by_cases h : P k
      · rw [if_pos h, if_pos h]
      · rw [if_neg h, if_neg h]; rfl
  intro fu hf
  exact key n 0 fu (by omega) hf
/-- the first that is so -/
def fnd (P : Nat → Prop) [DecidablePred P] : Nat → Nat → Option Nat
  | _, 0 => none
  | k, d + 1 => if P k then some k else fnd P (k + 1) d
theorem loop_fnd {R : Type} {L : Nat → Nat → Option R} {fin : Option Nat → Option R} {n : Nat} {P : Nat → Prop} [DecidablePred P] (hstep : ∀ fu k, k < n → L (fu + 1) k = if P k then fin (some k) else L fu (k + 1)) (hend : ∀ fu, L (fu + 1) n = fin none) : ∀ d k fu, k + d = n → d < fu → L fu k = fin (fnd P k d) := by
  intro d
  induction d with
  | zero =>
    intro k fu hk hf
    obtain ⟨f, rfl⟩ : ∃ f, fu = f + 1 := ⟨fu - 1, by omega⟩
    rw [show k = n by omega, hend]
    rfl
  | succ d ih =>
    intro k fu hk hf
    obtain ⟨f, rfl⟩ : ∃ f, fu = f + 1 := ⟨fu - 1, by omega⟩
    rw [hstep f k (by omega), fnd]
    by_cases h : P k
    · rw [if_pos h, if_pos h]
    · rw [if_neg h, if_neg h, ih (k + 1) f (by omega) (by omega)]
theorem fnd_some {P : Nat → Prop} [DecidablePred P] : ∀ {d k i : Nat}, fnd P k d = some i → k ≤ i ∧ i < k + d ∧ P i ∧ ∀ j, k ≤ j → j < i → ¬ P j := by
  intro d
  induction d with
  | zero => intro k i h; cases h
  | succ d ih =>
    intro k i h
    unfold fnd at h
    by_cases hp : P k
    · rw [if_pos hp] at h
      cases h
      exact ⟨Nat.le_refl _, by omega, hp, fun j h1 h2 => by omega⟩
    · rw [if_neg hp] at h
      obtain ⟨h1, h2, h3, h4⟩ := ih h
      refine ⟨by omega, by omega, h3, fun j h5 h6 => ?_⟩
      by_cases hj : j = k
      · rw [hj]; exact hp
      · exact h4 j (by omega) h6
theorem fnd_none {P : Nat → Prop} [DecidablePred P] : ∀ {d k : Nat}, fnd P k d = none → ∀ j, k ≤ j → j < k + d → ¬ P j := by
  intro d
  induction d with
  | zero => intro k h j h1 h2; omega
  | succ d ih =>
    intro k h j h1 h2
    unfold fnd at h
    by_cases hp : P k
    · rw [if_pos hp] at h; cases h
    · rw [if_neg hp] at h
      by_cases hj : j = k
      · rw [hj]; exact hp
      · exact ih h j (by omega) (by omega)
