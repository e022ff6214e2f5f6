/-! who stands where: ranks by a key -/
theorem cnt_fb {P : Nat → Prop} [DecidablePred P] : ∀ n, cnt P n = fb_ct (fun k => decide (P k)) n := by
  intro n
  induction n with
  | zero => rfl
  | succ n ih =>
    show cnt P n + (if P n then 1 else 0) = fb_ct _ n + (if decide (P n) = true then 1 else 0)
    rw [ih]
    by_cases h : P n <;> simp [h]
theorem cnt_sub {P Q : Nat → Prop} [DecidablePred P] [DecidablePred Q] {n : Nat} (h : ∀ k, k < n → P k → Q k) : cnt P n ≤ cnt Q n := by
  rw [cnt_fb, cnt_fb]
  exact fb_ct_sub (fun k hk => by simpa using h k hk)
theorem cnt_lt {P Q : Nat → Prop} [DecidablePred P] [DecidablePred Q] : ∀ {n : Nat}, (∀ k, k < n → P k → Q k) → (∃ k, k < n ∧ Q k ∧ ¬ P k) → cnt P n < cnt Q n := by
  intro n
  induction n with
  | zero => rintro - ⟨k, h, -⟩; omega
  | succ n ih =>
    intro h ⟨k, hk, hq, hp⟩
    show cnt P n + (if P n then 1 else 0) < cnt Q n + (if Q n then 1 else 0)
    by_cases e : k = n
    · subst e
      rw [if_neg hp, if_pos hq]
      have := cnt_sub (n := k) (fun j hj => h j (by omega))
      omega
    · have i := ih (fun j hj => h j (by omega)) ⟨k, by omega, hq, hp⟩
      by_cases c : P n
      · rw [if_pos c, if_pos (h n (by omega) c)]; omega
      · rw [if_neg c]; omega
theorem cnt_zero {P : Nat → Prop} [DecidablePred P] {n : Nat} : cnt P n = 0 ↔ ∀ k, k < n → ¬ P k := by
  rw [cnt_fb, fb_ct_zero]
  simp
theorem cnt_pos {P : Nat → Prop} [DecidablePred P] {n : Nat} : 0 < cnt P n ↔ ∃ k, k < n ∧ P k := by
  rw [cnt_fb, fb_ct_pos]
  simp
theorem cnt_upd {P Q : Nat → Prop} [DecidablePred P] [DecidablePred Q] {n c : Nat} (hc : c < n) (hP : ¬ P c) (hQ : Q c) (h : ∀ k, k < n → k ≠ c → (P k ↔ Q k)) : cnt Q n = cnt P n + 1 := by
  have key : ∀ m, cnt Q m = cnt P m + (if c < m ∧ m ≤ n then 1 else if c < m then 1 else 0) ∨ n < m := by
    intro m
    induction m with
    | zero => left; rfl
    | succ m ih =>
      by_cases hm : n < m + 1
      · right; exact hm
      · left
        rcases ih with ih | ih
        · show cnt Q m + (if Q m then 1 else 0) = cnt P m + (if P m then 1 else 0) + _
          rw [ih]
          by_cases e : m = c
          · subst e; rw [if_pos hQ, if_neg hP]; (repeat' split) <;> omega
          · have := h m (by omega) e
            by_cases q : Q m
            · rw [if_pos q, if_pos (this.mpr q)]; (repeat' split) <;> omega
            · rw [if_neg q, if_neg (fun z => q (this.mp z))]; (repeat' split) <;> omega
        · omega
  rcases key n with k | k
  · rw [k, if_pos (by omega)]
  · omega
def rnk (P : Nat → Prop) [DecidablePred P] (key : Nat → Nat) (n k : Nat) : Nat := cnt (fun l => P l ∧ key l < key k) n
section RK
variable {P : Nat → Prop} {key : Nat → Nat} {n : Nat}
theorem rnk_lt [DecidablePred P] {k : Nat} (hk : k < n) (hp : P k) : rnk P key n k < cnt P n :=
  cnt_lt (fun l _ h => h.1) ⟨k, hk, hp, fun h => Nat.lt_irrefl _ h.2⟩
theorem rnk_mono [DecidablePred P] {k k2 : Nat} (hk : k < n) (hp : P k) (h : key k < key k2) : rnk P key n k < rnk P key n k2 :=
  cnt_lt (fun l _ h2 => ⟨h2.1, Nat.lt_trans h2.2 h⟩) ⟨k, hk, ⟨hp, h⟩, fun h2 => Nat.lt_irrefl _ h2.2⟩
theorem rnk_inj [DecidablePred P] {i j : Nat} (hk : ∀ i j, i < n → j < n → key i = key j → i = j) (hi : i < n) (hj : j < n) (pi : P i) (pj : P j) (h : rnk P key n i = rnk P key n j) : i = j := by
  rcases Nat.lt_trichotomy (key i) (key j) with c | c | c
  · have := rnk_mono (n := n) hi pi c; omega
  · exact hk i j hi hj c
  · have := rnk_mono (n := n) hj pj c; omega
theorem rnk_ex [DecidablePred P] {i : Nat} (hk : ∀ i j, i < n → j < n → key i = key j → i = j) (hi : i < cnt P n) : ∃ k, k < n ∧ P k ∧ rnk P key n k = i := by
  have kth : ∀ j, j < cnt P n → ∃ x, x < n ∧ P x ∧ fb_ct (fun k => decide (P k)) x = j := by
    intro j hj
    rw [cnt_fb] at hj
    obtain ⟨x, h1, h2, h3⟩ := fb_ct_kth hj
    exact ⟨x, h1, by simpa using h2, h3⟩
  obtain ⟨e, he⟩ : ∃ e : Nat → Nat, ∀ j, j < cnt P n → e j < n ∧ P (e j) ∧ fb_ct (fun k => decide (P k)) (e j) = j := by
    refine ⟨fun j => if h : j < cnt P n then Classical.choose (kth j h) else 0, fun j hj => ?_⟩
    simp only [dif_pos hj]
    exact Classical.choose_spec (kth j hj)
  obtain ⟨j, hj, hx⟩ := fb_onto (n := cnt P n) (f := fun j => rnk P key n (e j)) (fun j hj => rnk_lt (he j hj).1 (he j hj).2.1) (fun a b hab hb hEq => by
    have := rnk_inj hk (he a (by omega)).1 (he b hb).1 (he a (by omega)).2.1 (he b hb).2.1 hEq
    have h1 := (he a (by omega)).2.2
    have h2 := (he b hb).2.2
    rw [this, h2] at h1
    omega) hi
  exact ⟨e j, (he j hj).1, (he j hj).2.1, hx⟩
theorem fnd_eq {Q : Nat → Prop} [DecidablePred Q] {k : Nat} (hk : k < n) (hq : Q k) (h : ∀ j, j < k → ¬ Q j) : fnd Q 0 n = some k := by
  cases e : fnd Q 0 n with
  | none => exact absurd hq (fnd_none e k (by omega) (by omega))
  | some i =>
    obtain ⟨h1, h2, h3, h4⟩ := fnd_some e
    rcases Nat.lt_trichotomy i k with c | c | c
    · exact absurd h3 (h i c)
    · rw [c]
    · exact absurd hq (h4 k (by omega) c)
theorem fnd_no {Q : Nat → Prop} [DecidablePred Q] (h : ∀ j, j < n → ¬ Q j) : fnd Q 0 n = none := by
  cases e : fnd Q 0 n with
  | none => rfl
  | some i =>
    obtain ⟨h1, h2, h3, h4⟩ := fnd_some e
    exact absurd h3 (h i (by omega))
theorem fnd_c {Q R : Nat → Prop} [DecidablePred Q] [DecidablePred R] : ∀ {n k : Nat}, (∀ j, k ≤ j → j < k + n → (Q j ↔ R j)) → fnd Q k n = fnd R k n := by
  intro n
  induction n with
  | zero => intro k h; rfl
  | succ n ih =>
    intro k h
    unfold fnd
    by_cases c : Q k
    · rw [if_pos c, if_pos ((h k (by omega) (by omega)).mp c)]
    · rw [if_neg c, if_neg (fun z => c ((h k (by omega) (by omega)).mpr z)), ih (fun j h1 h2 => h j (by omega) (by omega))]
theorem mnO_none [DecidablePred P] : ∀ {n : Nat}, mnO P key n = none ↔ ∀ k, k < n → ¬ P k := by
  intro n
  induction n with
  | zero => exact ⟨fun _ k h => by omega, fun _ => rfl⟩
  | succ n ih =>
    unfold mnO
    by_cases c : P n
    · constructor
      · intro h
        by_cases c2 : P n ∧ ((mnO P key n).all (fun l => decide (key n < key l))) = true
        · rw [if_pos c2] at h; cases h
        · rw [if_neg c2] at h
          exact absurd ⟨c, by rw [h]; rfl⟩ c2
      · intro h; exact absurd c (h n (by omega))
    · rw [if_neg (fun z => c z.1), ih]
      exact ⟨fun h k hk => (Nat.lt_or_ge k n).elim (fun e => h k e) (fun e => by rw [show k = n from Nat.le_antisymm (Nat.le_of_lt_succ hk) e]; exact c), fun h k hk => h k (by omega)⟩
theorem mnO_min [DecidablePred P] : ∀ {n i : Nat}, mnO P key n = some i → ∀ k, k < n → P k → key i ≤ key k := by
  intro n
  induction n with
  | zero => intro i h; cases h
  | succ n ih =>
    intro i h k hk hp
    unfold mnO at h
    by_cases c2 : P n ∧ ((mnO P key n).all (fun l => decide (key n < key l))) = true
    · rw [if_pos c2] at h
      cases h
      by_cases e : k = n
      · subst e; exact Nat.le_refl _
      · cases hm : mnO P key n with
        | none => exact absurd hp (mnO_none.mp hm k (by omega))
        | some l =>
          rw [hm] at c2
          have h1 := ih hm k (by omega) hp
          have h2 : key n < key l := by simpa using c2.2
          omega
    · rw [if_neg c2] at h
      by_cases e : k = n
      · subst e
        rw [h] at c2
        have : ¬ key k < key i := fun z => c2 ⟨hp, by simpa using z⟩
        omega
      · exact ih h k (by omega) hp
theorem mnO_eq [DecidablePred P] {i : Nat} (hi : i < n) (hp : P i) (h : ∀ k, k < n → P k → k ≠ i → key i < key k) : mnO P key n = some i := by
  cases e : mnO P key n with
  | none => exact absurd hp (mnO_none.mp e i hi)
  | some j =>
    have h1 := mnO_lt e
    have h2 := mnO_min e i hi hp
    by_cases c : j = i
    · rw [c]
    · have := h j h1.1 h1.2 c; omega
theorem mxO_none [DecidablePred P] : ∀ {n : Nat}, mxO P key n = none ↔ ∀ k, k < n → ¬ P k := by
  intro n
  induction n with
  | zero => exact ⟨fun _ k h => by omega, fun _ => rfl⟩
  | succ n ih =>
    unfold mxO
    by_cases c : P n
    · constructor
      · intro h
        by_cases c2 : P n ∧ ((mxO P key n).all (fun l => decide (key l < key n))) = true
        · rw [if_pos c2] at h; cases h
        · rw [if_neg c2] at h
          exact absurd ⟨c, by rw [h]; rfl⟩ c2
      · intro h; exact absurd c (h n (by omega))
    · rw [if_neg (fun z => c z.1), ih]
      exact ⟨fun h k hk => (Nat.lt_or_ge k n).elim (fun e => h k e) (fun e => by rw [show k = n from Nat.le_antisymm (Nat.le_of_lt_succ hk) e]; exact c), fun h k hk => h k (by omega)⟩
theorem mxO_max [DecidablePred P] : ∀ {n i : Nat}, mxO P key n = some i → ∀ k, k < n → P k → key k ≤ key i := by
  intro n
  induction n with
  | zero => intro i h; cases h
  | succ n ih =>
    intro i h k hk hp
    unfold mxO at h
    by_cases c2 : P n ∧ ((mxO P key n).all (fun l => decide (key l < key n))) = true
    · rw [if_pos c2] at h
      cases h
      by_cases e : k = n
      · subst e; exact Nat.le_refl _
      · cases hm : mxO P key n with
        | none => exact absurd hp (mxO_none.mp hm k (by omega))
        | some l =>
          rw [hm] at c2
          have h1 := ih hm k (by omega) hp
          have h2 : key l < key n := by simpa using c2.2
          omega
    · rw [if_neg c2] at h
      by_cases e : k = n
      · subst e
        rw [h] at c2
        have : ¬ key i < key k := fun z => c2 ⟨hp, by simpa using z⟩
        omega
      · exact ih h k (by omega) hp
theorem mxO_c {P Q : Nat → Prop} [DecidablePred P] [DecidablePred Q] {key : Nat → Nat} : ∀ {n : Nat}, (∀ k, k < n → (P k ↔ Q k)) → mxO P key n = mxO Q key n := by
  intro n
  induction n with
  | zero => intro h; rfl
  | succ n ih =>
    intro h
    unfold mxO
    rw [ih (fun k hk => h k (by omega))]
    by_cases c : P n ∧ ((mxO Q key n).all (fun l => decide (key l < key n))) = true
    · rw [if_pos c, if_pos ⟨(h n (by omega)).mp c.1, c.2⟩]
    · rw [if_neg c, if_neg (fun z => c ⟨(h n (by omega)).mpr z.1, z.2⟩)]
/-- the least of those of rank i and more is the one of rank i -/
theorem mnO_rank [DecidablePred P] {i : Nat} (hk : ∀ i j, i < n → j < n → key i = key j → i = j) : mnO (fun k => P k ∧ i ≤ rnk P key n k) key n = fnd (fun k => P k ∧ rnk P key n k = i) 0 n := by
  by_cases c : i < cnt P n
  · obtain ⟨k, h1, h2, h3⟩ := rnk_ex hk c
    rw [fnd_eq h1 ⟨h2, h3⟩ (fun j hj hq => by have := rnk_inj hk (by omega) h1 hq.1 h2 (by rw [hq.2, h3]); omega)]
    refine mnO_eq h1 ⟨h2, by omega⟩ (fun l hl hp hne => ?_)
    rcases Nat.lt_trichotomy (key k) (key l) with e | e | e
    · exact e
    · exact absurd (hk k l h1 hl e).symm hne
    · have := rnk_mono (n := n) hl hp.1 e
      omega
  · rw [fnd_no (fun j hj hq => by have := rnk_lt (key := key) hj hq.1; omega), mnO_none]
    intro k hk hq
    have := rnk_lt (key := key) hk hq.1
    omega
theorem mnO_c {P Q : Nat → Prop} [DecidablePred P] [DecidablePred Q] {key : Nat → Nat} : ∀ {n : Nat}, (∀ k, k < n → (P k ↔ Q k)) → mnO P key n = mnO Q key n := by
  intro n
  induction n with
  | zero => intro h; rfl
  | succ n ih =>
    intro h
    unfold mnO
    rw [ih (fun k hk => h k (by omega))]
    by_cases c : P n ∧ ((mnO Q key n).all (fun l => decide (key n < key l))) = true
    · rw [if_pos c, if_pos ⟨(h n (by omega)).mp c.1, c.2⟩]
    · rw [if_neg c, if_neg (fun z => c ⟨(h n (by omega)).mpr z.1, z.2⟩)]
theorem mnO_first [DecidablePred P] (hk : ∀ i j, i < n → j < n → key i = key j → i = j) : mnO P key n = fnd (fun k => P k ∧ rnk P key n k = 0) 0 n := by
  rw [← mnO_rank hk]
  exact mnO_c (fun k _ => ⟨fun h => ⟨h, Nat.zero_le _⟩, fun h => h.1⟩)
end RK
theorem stS_inj {v : Nat → Nat} {s n : Nat} (hn : n ≤ 64) : ∀ i j, i < n → j < n → stS v s i = stS v s j → i = j := by
  intro i j hi hj h
  unfold stS at h
  omega
theorem staO_0 {v : Nat → Nat} {pl : Nat → Option Nat} (h1 : v 1 ≤ 40) (s : Nat) : staO v pl s 0 1 = mnO (fun k => waiB v pl k s = true) (stS v s) (v 1) := by
  rw [mnO_first (stS_inj (by omega))]
  rfl
