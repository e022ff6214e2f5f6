/-! invariants under changes; filling; allocation: what they do to a row -/
theorem le_upd {v : Nat → Nat} {i x j n : Nat} (h : v j ≤ n) (h2 : j = i → x ≤ n) : updN v i x j ≤ n := by
  unfold updN; by_cases c : j = i
  · rw [if_pos c]; exact h2 c
  · rw [if_neg c]; exact h
theorem lt_upd {v : Nat → Nat} {i x j n : Nat} (h : v j < n) (h2 : j = i → x < n) : updN v i x j < n := by
  unfold updN; by_cases c : j = i
  · rw [if_pos c]; exact h2 c
  · rw [if_neg c]; exact h
def okW (i x : Nat) : Prop := (i = 6 ∧ x ≤ 9) ∨ (i = 7 ∧ x ≤ 1) ∨ (i = 8 ∧ x ≤ 1) ∨ (i = 9 ∧ x ≤ 160) ∨ i = 10 ∨ (i = 11 ∧ x < 2147483648) ∨ (20 ≤ i ∧ i < 28 ∧ x ≤ 40) ∨ (60 ≤ i ∧ i < 68 ∧ x < 2147483648) ∨ (124 ≤ i ∧ i < 244 ∧ x ≤ 99) ∨ (244 ≤ i ∧ i < 284 ∧ x ≤ 1) ∨ (284 ≤ i ∧ i < 324 ∧ x < 10000) ∨ (364 ≤ i ∧ i < 404 ∧ x ≤ 1) ∨ (444 ≤ i ∧ i < 484 ∧ x ≤ 1) ∨ (484 ≤ i ∧ i < 564 ∧ x < 2147483648)
theorem Inv.w {v : Nat → Nat} {pl : Nat → Option Nat} (hI : Inv v pl) {i x : Nat} (hw : okW i x) : Inv (updN v i x) pl := by
  unfold okW at hw
  have e : ∀ j, j ≠ i → updN v i x j = v j := fun j hj => if_neg hj
  obtain ⟨⟨a0, a1, a2, a6, a7, a8, a9⟩, hS, hU, hC, hW, hJ, hP, hB⟩ := hI
  have e0 := e 0 (by omega)
  have e1 := e 1 (by omega)
  refine ⟨⟨le_upd a0 (fun z => by omega), le_upd a1 (fun z => by omega), le_upd a2 (fun z => by omega), le_upd a6 (fun z => by omega), le_upd a7 (fun z => by omega), le_upd a8 (fun z => by omega), le_upd a9 (fun z => by omega)⟩, fun s hs => ?_, fun s hs k hk => le_upd (hU s hs k hk) (fun z => by omega), fun c hc => ?_, fun c hc k hk => ?_, fun c hc k l hk hl hkl => ?_, fun c s hp => ?_, fun k hk => lt_upd (hB k hk) (fun z => by omega)⟩
  · obtain ⟨q1, q2, q3, q4, q5⟩ := hS s hs
    exact ⟨le_upd q1 (fun z => by omega), le_upd q2 (fun z => by omega), le_upd q3 (fun z => by omega), le_upd q4 (fun z => by omega), le_upd q5 (fun z => by omega)⟩
  · obtain ⟨q1, q2, q3, q4, q5, q6, q7, q8, q9⟩ := hC c hc
    exact ⟨le_upd q1 (fun z => by omega), le_upd q2 (fun z => by omega), le_upd q3 (fun z => by omega), le_upd q4 (fun z => by omega), lt_upd q5 (fun z => by omega), le_upd q6 (fun z => by omega), le_upd q7 (fun z => by omega), le_upd q8 (fun z => by omega), le_upd q9 (fun z => by omega)⟩
  · rw [e1] at hc
    rw [e (324 + c) (by omega)] at hk
    rw [e0, e (564 + 4 * c + k) (by omega)]
    exact hW c hc k hk
  · rw [e1] at hc
    rw [e (324 + c) (by omega)] at hk hl
    rw [e (564 + 4 * c + k) (by omega), e (564 + 4 * c + l) (by omega)] at hkl
    exact hJ c hc k l hk hl hkl
  · obtain ⟨q1, q2, k, q3, q4⟩ := hP c s hp
    refine ⟨by rw [e1]; exact q1, by rw [e (404 + c) (by omega)]; exact q2, k, by rw [e (324 + c) (by omega)]; exact q3, by rw [e (564 + 4 * c + k) (by omega)]; exact q4⟩
theorem Inv.pn {v : Nat → Nat} {pl : Nat → Option Nat} (hI : Inv v pl) {c : Nat} : Inv v (updO pl c none) := by
  refine ⟨hI.1, hI.2.1, hI.2.2.1, hI.2.2.2.1, hI.2.2.2.2.1, hI.2.2.2.2.2.1, fun d s hd => ?_, hI.2.2.2.2.2.2.2⟩
  by_cases e : d = c
  · subst e; rw [updO_s] at hd; cases hd
  · rw [updO_n e] at hd; exact hI.plc d s hd
theorem Inv.ps {v : Nat → Nat} {pl : Nat → Option Nat} (hI : Inv v pl) {c s i : Nat} (hc : c < v 1) (hg : v (404 + c) = 0) (hi : i < v (324 + c)) (hs : v (564 + 4 * c + i) = s) : Inv v (updO pl c (some s)) := by
  refine ⟨hI.1, hI.2.1, hI.2.2.1, hI.2.2.2.1, hI.2.2.2.2.1, hI.2.2.2.2.2.1, fun d q hd => ?_, hI.2.2.2.2.2.2.2⟩
  by_cases e : d = c
  · subst e; rw [updO_s] at hd; cases hd; exact ⟨hc, hg, i, hi, hs⟩
  · rw [updO_n e] at hd; exact hI.plc d q hd
theorem Inv.pa {v : Nat → Nat} {pl pl' : Nat → Option Nat} (hI : Inv v pl) (h : ∀ c s, pl' c = some s → c < v 1 ∧ v (404 + c) = 0 ∧ ∃ i, i < v (324 + c) ∧ v (564 + 4 * c + i) = s) : Inv v pl' :=
  ⟨hI.1, hI.2.1, hI.2.2.1, hI.2.2.2.1, hI.2.2.2.2.1, hI.2.2.2.2.2.1, h, hI.2.2.2.2.2.2.2⟩
theorem Inv.gone {v : Nat → Nat} {pl : Nat → Option Nat} (hI : Inv v pl) {c x : Nat} (hx : x ≤ 1) (hc : c < 40) (hp : pl c = none) : Inv (updN v (404 + c) x) pl := by
  have e : ∀ j, j ≠ 404 + c → updN v (404 + c) x j = v j := fun j hj => if_neg hj
  obtain ⟨⟨a0, a1, a2, a6, a7, a8, a9⟩, hS, hU, hC, hW, hJ, hP, hB⟩ := hI
  have e0 := e 0 (by omega)
  have e1 := e 1 (by omega)
  refine ⟨⟨le_upd a0 (fun z => by omega), le_upd a1 (fun z => by omega), le_upd a2 (fun z => by omega), le_upd a6 (fun z => by omega), le_upd a7 (fun z => by omega), le_upd a8 (fun z => by omega), le_upd a9 (fun z => by omega)⟩, fun s hs => ?_, fun s hs k hk => le_upd (hU s hs k hk) (fun z => by omega), fun c hc => ?_, fun c hc k hk => ?_, fun c hc k l hk hl hkl => ?_, fun d s hp2 => ?_, fun k hk => lt_upd (hB k hk) (fun z => by omega)⟩
  · obtain ⟨q1, q2, q3, q4, q5⟩ := hS s hs
    exact ⟨le_upd q1 (fun z => by omega), le_upd q2 (fun z => by omega), le_upd q3 (fun z => by omega), le_upd q4 (fun z => by omega), le_upd q5 (fun z => by omega)⟩
  · obtain ⟨q1, q2, q3, q4, q5, q6, q7, q8, q9⟩ := hC c hc
    exact ⟨le_upd q1 (fun z => by omega), le_upd q2 (fun z => by omega), le_upd q3 (fun z => by omega), le_upd q4 (fun z => by omega), lt_upd q5 (fun z => by omega), le_upd q6 (fun z => by omega), le_upd q7 (fun z => by omega), le_upd q8 (fun z => by omega), le_upd q9 (fun z => by omega)⟩
  · rw [e1] at hc
    rw [e (324 + c) (by omega)] at hk
    rw [e0, e (564 + 4 * c + k) (by omega)]
    exact hW c hc k hk
  · rw [e1] at hc
    rw [e (324 + c) (by omega)] at hk hl
    rw [e (564 + 4 * c + k) (by omega), e (564 + 4 * c + l) (by omega)] at hkl
    exact hJ c hc k l hk hl hkl
  · obtain ⟨q1, q2, k, q3, q4⟩ := hP d s hp2
    have hd : d ≠ c := fun z => by subst z; rw [hp] at hp2; cases hp2
    refine ⟨by rw [e1]; exact q1, by rw [e (404 + d) (by omega)]; exact q2, k, by rw [e (324 + d) (by omega)]; exact q3, by rw [e (564 + 4 * d + k) (by omega)]; exact q4⟩
theorem Inv.many {v : Nat → Nat} {pl : Nat → Option Nat} (hI : Inv v pl) {c x : Nat} (hc : c < 40) (hx : x ≤ v (324 + c)) (hp : pl c = none) : Inv (updN v (324 + c) x) pl := by
  have e : ∀ j, j ≠ 324 + c → updN v (324 + c) x j = v j := fun j hj => if_neg hj
  have h4 := (hI.chi c hc).2.2.2.2.2.1
  obtain ⟨⟨a0, a1, a2, a6, a7, a8, a9⟩, hS, hU, hC, hW, hJ, hP, hB⟩ := hI
  have e0 := e 0 (by omega)
  have e1 := e 1 (by omega)
  have m : ∀ d, updN v (324 + c) x (324 + d) ≤ v (324 + d) := fun d => by
    by_cases h : d = c
    · subst h; rw [updN_s]; exact hx
    · rw [e _ (by omega)]; exact Nat.le_refl _
  refine ⟨⟨le_upd a0 (fun z => by omega), le_upd a1 (fun z => by omega), le_upd a2 (fun z => by omega), le_upd a6 (fun z => by omega), le_upd a7 (fun z => by omega), le_upd a8 (fun z => by omega), le_upd a9 (fun z => by omega)⟩, fun s hs => ?_, fun s hs k hk => le_upd (hU s hs k hk) (fun z => by omega), fun c hc => ?_, fun c hc k hk => ?_, fun c hc k l hk hl hkl => ?_, fun d s hp2 => ?_, fun k hk => lt_upd (hB k hk) (fun z => by omega)⟩
  · obtain ⟨q1, q2, q3, q4, q5⟩ := hS s hs
    exact ⟨le_upd q1 (fun z => by omega), le_upd q2 (fun z => by omega), le_upd q3 (fun z => by omega), le_upd q4 (fun z => by omega), le_upd q5 (fun z => by omega)⟩
  · obtain ⟨q1, q2, q3, q4, q5, q6, q7, q8, q9⟩ := hC c hc
    exact ⟨le_upd q1 (fun z => by omega), le_upd q2 (fun z => by omega), le_upd q3 (fun z => by omega), le_upd q4 (fun z => by omega), lt_upd q5 (fun z => by omega), le_upd q6 (fun z => by omega), le_upd q7 (fun z => by omega), le_upd q8 (fun z => by omega), le_upd q9 (fun z => by omega)⟩
  · rw [e1] at hc
    have := m c
    rw [e0, e (564 + 4 * c + k) (by omega)]
    exact hW c hc k (by omega)
  · rw [e1] at hc
    have := m c
    rw [e (564 + 4 * c + k) (by omega), e (564 + 4 * c + l) (by omega)] at hkl
    exact hJ c hc k l (by omega) (by omega) hkl
  · obtain ⟨q1, q2, k, q3, q4⟩ := hP d s hp2
    have hd : d ≠ c := fun z => by subst z; rw [hp] at hp2; cases hp2
    refine ⟨by rw [e1]; exact q1, by rw [e (404 + d) (by omega)]; exact q2, k, by rw [e (324 + d) (by omega)]; exact q3, by rw [e (564 + 4 * d + k) (by omega)]; exact q4⟩
/-- the row's lasting part is the same: all but rounds, filled, granted, by appeal, round -/
def sameQ (v v' : Nat → Nat) : Prop := ∀ i, ¬ (i = 8 ∨ i = 9 ∨ i = 10 ∨ (60 ≤ i ∧ i < 68) ∨ (444 ≤ i ∧ i < 484) ∨ (524 ≤ i ∧ i < 564)) → v' i = v i
theorem sameQ.r (v : Nat → Nat) : sameQ v v := fun _ _ => rfl
theorem sameQ.t {v v' v'' : Nat → Nat} (h : sameQ v v') (h2 : sameQ v' v'') : sameQ v v'' := fun i hi => (h2 i hi).trans (h i hi)
theorem sameQ.sy {v v' : Nat → Nat} (h : sameQ v v') : sameQ v' v := fun i hi => (h i hi).symm
theorem sameQ.w {v : Nat → Nat} {i x : Nat} (hi : i = 8 ∨ i = 9 ∨ i = 10 ∨ (60 ≤ i ∧ i < 68) ∨ (444 ≤ i ∧ i < 484) ∨ (524 ≤ i ∧ i < 564)) : sameQ v (updN v i x) := fun j hj => updN_n (fun z => hj (z ▸ hi))
theorem sameQ.T {v v' : Nat → Nat} (h : sameQ v v') : sameT v v' := fun i hi => h i (by omega)
section SQ
variable {v v' : Nat → Nat} {pl : Nat → Option Nat}
theorem q_mee (h : sameQ v v') (hI : Inv v pl) {c s r : Nat} (hc : c < 40) (hs : s < 8) : meeB v' c s r = meeB v c s r := by
  unfold meeB zonB
  rw [h (244 + c) (by omega), h (204 + c) (by omega), hasP_same h.T, h (52 + s) (by omega), h (92 + 4 * s) (by omega), h (92 + 4 * s + 1) (by omega), h (92 + 4 * s + 2) (by omega), h (92 + 4 * s + 3) (by omega), h (124 + c) (by omega), h (164 + c) (by omega)]
theorem q_cls (h : sameQ v v') (hI : Inv v pl) {c s : Nat} (hc : c < 40) (hs : s < 8) : clsS v' c s = clsS v c s := by
  have := hI.sch s hs
  unfold clsS
  rw [h (44 + s) (by omega)]
  congr 1
  exact fnd_c (fun k h1 h2 => by rw [h (68 + 3 * s + k) (by omega), q_mee h hI hc hs])
theorem q_far (h : sameQ v v') {c s : Nat} (hc : c < 40) (hs : s < 8) : farS v' c s = farS v c s := by
  unfold farS
  rw [h (124 + c) (by omega), h (164 + c) (by omega), h (28 + s) (by omega), h (36 + s) (by omega)]
theorem q_st (h : sameQ v v') (hI : Inv v pl) {c s : Nat} (hc : c < 40) (hs : s < 8) : stS v' s c = stS v s c := by
  unfold stS latS
  rw [q_cls h hI hc hs, q_far h hc hs, h 7 (by omega), h (364 + c) (by omega), h (284 + c) (by omega)]
theorem q_wis (h : sameQ v v') (hI : Inv v pl) {c s : Nat} (hc : c < 40) : wisO v' c s = wisO v c s := by
  have := hI.chi c hc
  unfold wisO
  rw [h (324 + c) (by omega)]
  exact fnd_c (fun k h1 h2 => by rw [h (564 + 4 * c + k) (by omega)])
theorem q_got (h : sameQ v v') (hI : Inv v pl) {p : Nat → Option Nat} {c : Nat} (hc : c < 40) : gotO v' p c = gotO v p c := by
  unfold gotO
  cases p c with
  | none => rfl
  | some s => exact q_wis h hI hc
theorem q_prf (h : sameQ v v') (hI : Inv v pl) {p : Nat → Option Nat} {c s : Nat} (hc : c < 40) : prfB v' p c s = prfB v p c s := by
  unfold prfB
  rw [q_wis h hI hc, q_got h hI hc]
theorem q_hld (h : sameQ v v') {p : Nat → Option Nat} {s : Nat} : hldN v' p s = hldN v p s := by
  unfold hldN
  rw [h 1 (by omega)]
theorem mxO_k {P : Nat → Prop} [DecidablePred P] {key key2 : Nat → Nat} : ∀ {n : Nat}, (∀ k, k < n → key k = key2 k) → mxO P key n = mxO P key2 n := by
  intro n
  induction n with
  | zero => intro h; rfl
  | succ n ih =>
    intro h
    unfold mxO
    rw [ih (fun k hk => h k (by omega))]
    have e : ((mxO P key2 n).all fun l => decide (key l < key n)) = ((mxO P key2 n).all fun l => decide (key2 l < key2 n)) := by
      cases hm : mxO P key2 n with
      | none => rfl
      | some l =>
        have := mxO_lt hm
        show decide (key l < key n) = decide (key2 l < key2 n)
        rw [h l (by omega), h n (by omega)]
    rw [e]
theorem mnO_k {P : Nat → Prop} [DecidablePred P] {key key2 : Nat → Nat} : ∀ {n : Nat}, (∀ k, k < n → key k = key2 k) → mnO P key n = mnO P key2 n := by
  intro n
  induction n with
  | zero => intro h; rfl
  | succ n ih =>
    intro h
    unfold mnO
    rw [ih (fun k hk => h k (by omega))]
    have e : ((mnO P key2 n).all fun l => decide (key n < key l)) = ((mnO P key2 n).all fun l => decide (key2 n < key2 l)) := by
      cases hm : mnO P key2 n with
      | none => rfl
      | some l =>
        have := mnO_lt hm
        show decide (key n < key l) = decide (key2 n < key2 l)
        rw [h l (by omega), h n (by omega)]
    rw [e]
theorem q_lst (h : sameQ v v') (hI : Inv v pl) {p : Nat → Option Nat} {s : Nat} (hs : s < 8) : lstO v' p s = lstO v p s := by
  have h1 := hI.h1
  unfold lstO
  rw [h 1 (by omega)]
  exact mxO_k (fun k hk => q_st h hI (by omega) hs)
end SQ
-- filling
def fstO (v : Nat → Nat) (pl : Nat → Option Nat) : Option (Nat × Nat) := (filO v pl).bind (fun s => (mnO (fun k => waiB v pl k s = true) (stS v s) (v 1)).map (fun c => (s, c)))
def fit : Nat → (Nat → Nat) × (Nat → Option Nat) → (Nat → Nat) × (Nat → Option Nat)
  | 0, x => x
  | n + 1, x => match fstO x.1 x.2 with
    | none => x
    | some (s, c) => fit n (updN (updN x.1 (444 + c) 0) 10 (x.1 10 + 1), updO x.2 c (some s))
section FI
variable {v : Nat → Nat} {pl : Nat → Option Nat}
theorem wai_wis {c s : Nat} (h : waiB v pl c s = true) : v 8 = 1 ∧ v (404 + c) = 0 ∧ ∃ i, wisO v c s = some i ∧ i < v (324 + c) ∧ v (564 + 4 * c + i) = s := by
  unfold waiB at h
  simp only [Bool.and_eq_true, decide_eq_true_eq] at h
  refine ⟨h.1.1, h.1.2, ?_⟩
  have h2 := h.2
  unfold prfB at h2
  cases hw : wisO v c s with
  | none => rw [hw] at h2; cases h2
  | some i => exact ⟨i, rfl, wis_lt hw, (fnd_some hw).2.2.1⟩
theorem fst_some {s c : Nat} (h : fstO v pl = some (s, c)) : filO v pl = some s ∧ mnO (fun k => waiB v pl k s = true) (stS v s) (v 1) = some c ∧ s < v 0 ∧ c < v 1 ∧ waiB v pl c s = true := by
  unfold fstO at h
  cases hf : filO v pl with
  | none => rw [hf] at h; cases h
  | some q =>
    rw [hf] at h
    cases hm : mnO (fun k => waiB v pl k q = true) (stS v q) (v 1) with
    | none => simp [hm] at h
    | some d =>
      simp [hm] at h
      obtain ⟨rfl, rfl⟩ := h
      have h1 := mnO_lt hm
      have h2 := fnd_some hf
      exact ⟨rfl, hm, by omega, h1.1, h1.2⟩
theorem fst_none (h : fstO v pl = none) : filO v pl = none := by
  unfold fstO at h
  cases hf : filO v pl with
  | none => rfl
  | some q =>
    rw [hf] at h
    have h2 := (fnd_some hf).2.2.1
    cases hm : mnO (fun k => waiB v pl k q = true) (stS v q) (v 1) with
    | none =>
      have := mnO_none.mp hm
      obtain ⟨k, hk, hp⟩ := cnt_pos.mp h2.2
      exact absurd hp (this k hk)
    | some d => simp [hm] at h
theorem Inv.fst (hI : Inv v pl) {s c : Nat} (h : fstO v pl = some (s, c)) : Inv (updN (updN v (444 + c) 0) 10 (v 10 + 1)) (updO pl c (some s)) := by
  obtain ⟨h1, h2, h3, h4, h5⟩ := fst_some h
  obtain ⟨g8, gg, i, g1, g2, g3⟩ := wai_wis h5
  have h40 := hI.h1
  refine Inv.w (Inv.w ?_ (i := 444 + c) (x := 0) (by unfold okW; omega)) (i := 10) (by unfold okW; omega)
  exact hI.ps h4 gg g2 g3
theorem fit_Inv : ∀ n {x : (Nat → Nat) × (Nat → Option Nat)}, Inv x.1 x.2 → Inv (fit n x).1 (fit n x).2 := by
  intro n
  induction n with
  | zero => intro x h; exact h
  | succ n ih =>
    intro x h
    unfold fit
    cases hf : fstO x.1 x.2 with
    | none => exact h
    | some sc =>
      obtain ⟨s, c⟩ := sc
      exact ih (h.fst hf)
theorem fit_Q : ∀ n {x : (Nat → Nat) × (Nat → Option Nat)}, Inv x.1 x.2 → sameQ x.1 (fit n x).1 ∧ (fit n x).1 8 = x.1 8 ∧ ∀ i, (i = 9 ∨ (60 ≤ i ∧ i < 68) ∨ (524 ≤ i ∧ i < 564)) → (fit n x).1 i = x.1 i := by
  intro n
  induction n with
  | zero => intro x h; exact ⟨sameQ.r _, rfl, fun _ _ => rfl⟩
  | succ n ih =>
    intro x h
    unfold fit
    cases hf : fstO x.1 x.2 with
    | none => exact ⟨sameQ.r _, rfl, fun _ _ => rfl⟩
    | some sc =>
      obtain ⟨s, c⟩ := sc
      obtain ⟨h1, h2, h3, h4, h5⟩ := fst_some hf
      have h40 := h.h1
      obtain ⟨i1, i2, i3⟩ := ih (x := (updN (updN x.1 (444 + c) 0) 10 (x.1 10 + 1), updO x.2 c (some s))) (h.fst hf)
      refine ⟨(sameQ.t (sameQ.w (by omega)) (sameQ.w (by omega))).t i1, ?_, fun i hi => ?_⟩
      · rw [i2]; show updN (updN x.1 (444 + c) 0) 10 (x.1 10 + 1) 8 = _; rw [updN_n (by omega), updN_n (by omega)]
      · rw [i3 i hi]; show updN (updN x.1 (444 + c) 0) 10 (x.1 10 + 1) i = _; rw [updN_n (by omega), updN_n (by omega)]
end FI
