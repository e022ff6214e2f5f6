/-! deferred acceptance: stable, best for every child, and no child gains by another order -/
theorem cnt_full {P Q : Nat → Prop} [DecidablePred P] [DecidablePred Q] {n : Nat} (h : ∀ k, k < n → P k → Q k) (hc : cnt Q n ≤ cnt P n) : ∀ k, k < n → Q k → P k := by
  intro k hk hq
  by_cases hp : P k
  · exact hp
  · have := cnt_lt h ⟨k, hk, hq, hp⟩; omega
theorem cnt_out {P Q : Nat → Prop} [DecidablePred P] [DecidablePred Q] {n l : Nat} (hl : l < n) (hQ : Q l) (hP : ¬ P l) (hc : cnt Q n ≤ cnt P n) : ∃ d, d < n ∧ P d ∧ ¬ Q d := by
  by_cases h : ∃ d, d < n ∧ P d ∧ ¬ Q d
  · exact h
  · have h2 : ∀ k, k < n → P k → Q k := fun k hk hp => by
      by_cases hq : Q k
      · exact hq
      · exact absurd ⟨k, hk, hp, hq⟩ h
    have := cnt_lt h2 ⟨l, hl, hQ, hP⟩
    omega
/-- the wish of a child at a place -/
def wsh (v : Nat → Nat) (c i : Nat) : Nat := v (564 + 4 * c + i)
/-- what keeping does to places: y before, z after, the first k schools -/
def KP (v : Nat → Nat) (y z : Nat → Option Nat) (k : Nat) : Prop :=
  (∀ c, z c = y c ∨ (z c = none ∧ ∃ s, y c = some s ∧ s < k)) ∧
  (∀ c s, y c = some s → z c = none → ∀ l, z l = some s → stS v s l < stS v s c) ∧
  (∀ s, s < k → hldN v z s = if hldN v y s ≤ v (20 + s) then hldN v y s else v (20 + s)) ∧
  (∀ s, k ≤ s → hldN v z s = hldN v y s)
section DA
variable {v : Nat → Nat} {p0 : Nat → Option Nat}
theorem krn_K (hI0 : Inv v p0) {s : Nat} (hs : s < 8) : ∀ n {z : (Nat → Nat) × (Nat → Option Nat)}, Inv z.1 z.2 → sameQ v z.1 → (∀ c, (krn s n z).2 c = z.2 c ∨ ((krn s n z).2 c = none ∧ z.2 c = some s)) ∧ (∀ c, z.2 c = some s → (krn s n z).2 c = none → ∀ l, (krn s n z).2 l = some s → stS v s l < stS v s c) := by
  intro n
  induction n with
  | zero => intro z h q; exact ⟨fun c => Or.inl rfl, fun c h1 h2 => by rw [show (krn s 0 z).2 c = z.2 c from rfl, h1] at h2; cases h2⟩
  | succ n ih =>
    intro z h q
    have I1 := krm_Inv (s := s) h
    have Q1 := q.t (krm_Q (s := s) h).1
    obtain ⟨i1, i2⟩ := ih I1 Q1
    have h1 := h.h1
    have v1 : z.1 1 = v 1 := q 1 (by omega)
    cases hl : lstO z.1 z.2 s with
    | none =>
      have e : krm s z = z := by unfold krm; rw [hl]
      rw [e] at i1 i2
      show (∀ c, (krn s n (krm s z)).2 c = z.2 c ∨ _) ∧ _
      have e2 : krn s (n + 1) z = krn s n z := by show krn s n (krm s z) = _; rw [e]
      rw [e2]
      exact ⟨by rw [e]; exact i1, i2⟩
    | some l0 =>
      have e : krm s z = (updN z.1 (524 + l0) 0, updO z.2 l0 none) := by unfold krm; rw [hl]
      have e2 : krn s (n + 1) z = krn s n (krm s z) := rfl
      have hz := lst_some hl
      have hmax := mxO_max hl
      have k1 : ∀ c, (krm s z).2 c = if c = l0 then none else z.2 c := fun c => by rw [e]; rfl
      rw [e2]
      constructor
      · intro c
        rcases i1 c with c1 | ⟨c1, c2⟩
        · rw [c1, k1]
          by_cases hc : c = l0
          · rw [if_pos hc]; right; exact ⟨rfl, by rw [hc]; exact hz.2⟩
          · rw [if_neg hc]; left; rfl
        · right
          refine ⟨c1, ?_⟩
          rw [k1] at c2
          by_cases hc : c = l0
          · rw [if_pos hc] at c2; cases c2
          · rw [if_neg hc] at c2; exact c2
      · intro c hc1 hc2 l hl2
        by_cases hc : c = l0
        · have hzl : (krm s z).2 l = some s := by
            rcases i1 l with d | ⟨d, _⟩
            · rw [← d]; exact hl2
            · rw [d] at hl2; cases hl2
          rw [k1] at hzl
          by_cases hll : l = l0
          · rw [if_pos hll] at hzl; cases hzl
          · rw [if_neg hll] at hzl
            have hlt := (h.plc l s hzl).1
            have m := hmax l hlt hzl
            rw [q_st q hI0 (by omega) hs, q_st q hI0 (by omega) hs] at m
            subst hc
            rcases Nat.lt_or_ge (stS v s l) (stS v s c) with m2 | m2
            · exact m2
            · exact absurd (stS_inj (v := v) (s := s) (n := 40) (by omega) l c (by omega) (by omega) (by omega)) hll
        · refine i2 c ?_ hc2 l hl2
          rw [k1, if_neg hc]; exact hc1
theorem kpA_K (hI0 : Inv v p0) : ∀ k {y : (Nat → Nat) × (Nat → Option Nat)}, Inv y.1 y.2 → sameQ v y.1 → k ≤ 8 → KP v y.2 (kpA k y).2 k := by
  intro k
  induction k with
  | zero => intro y h q _; exact ⟨fun c => Or.inl rfl, fun c s h1 h2 => (by rw [show (kpA 0 y).2 c = y.2 c from rfl, h1] at h2; cases h2), fun s hs => (by omega), fun s hs => rfl⟩
  | succ k ih =>
    intro y h q hk
    obtain ⟨a1, a2, a3, a4⟩ := ih h q (by omega)
    have IK := kpA_Inv k h
    have QK : sameQ v (kpA k y).1 := q.t (kpA_Q k h).1
    have h1 := IK.h1
    obtain ⟨b1, b2⟩ := krn_K hI0 (s := k) (by omega) (hldN (kpA k y).1 (kpA k y).2 k - (kpA k y).1 (20 + k)) IK QK
    have hh := krn_hld (s := k) (hldN (kpA k y).1 (kpA k y).2 k - (kpA k y).1 (20 + k)) IK (by omega)
    have IZ := krn_Inv (s := k) (hldN (kpA k y).1 (kpA k y).2 k - (kpA k y).1 (20 + k)) IK
    have QZ := (krn_Q (s := k) (hldN (kpA k y).1 (kpA k y).2 k - (kpA k y).1 (20 + k)) IK).1
    have e20 : (kpA k y).1 (20 + k) = v (20 + k) := QK _ (by omega)
    have hq : ∀ s, hldN (kpA k y).1 (kpA k y).2 s = hldN v (kpA k y).2 s := fun s => q_hld QK
    have hq2 : ∀ s, hldN (kpS k (kpA k y)).1 (kpS k (kpA k y)).2 s = hldN v (kpS k (kpA k y)).2 s := fun s => q_hld (QK.t QZ)
    refine ⟨fun c => ?_, fun c s hy hz l hl => ?_, fun s hs => ?_, fun s hs => ?_⟩
    · show (kpS k (kpA k y)).2 c = y.2 c ∨ ((kpS k (kpA k y)).2 c = none ∧ _)
      rcases b1 c with c1 | ⟨c1, c2⟩
      · rcases a1 c with d1 | ⟨d1, s, d2, d3⟩
        · left; exact c1.trans d1
        · right; exact ⟨c1.trans d1, s, d2, by omega⟩
      · right
        refine ⟨c1, k, ?_, by omega⟩
        rcases a1 c with d1 | ⟨d1, _⟩
        · rw [← d1]; exact c2
        · rw [d1] at c2; cases c2
    · have hz : (kpS k (kpA k y)).2 c = none := hz
      have hl : (kpS k (kpA k y)).2 l = some s := hl
      have hl1 : (kpA k y).2 l = some s := by
        rcases b1 l with d | ⟨d, _⟩
        · exact d.symm.trans hl
        · have := d.symm.trans hl; cases this
      rcases a1 c with d1 | ⟨d1, q1, q2, q3⟩
      · have hc2 : (kpA k y).2 c = some s := d1.trans hy
        rcases b1 c with c1 | ⟨c1, c2⟩
        · have := (c1.symm.trans hz); rw [hc2] at this; cases this
        · have : s = k := by rw [hc2] at c2; cases c2; rfl
          subst this
          exact b2 c c2 c1 l hl
      · exact a2 c s hy d1 l hl1
    · show hldN v (kpS k (kpA k y)).2 s = _
      by_cases e : s = k
      · subst e
        rw [← hq2]
        have hh2 : hldN (kpS s (kpA s y)).1 (kpS s (kpA s y)).2 s + (hldN (kpA s y).1 (kpA s y).2 s - (kpA s y).1 (20 + s)) = hldN (kpA s y).1 (kpA s y).2 s := hh
        rw [hq, e20, a4 s (Nat.le_refl _)] at hh2
        split <;> omega
      · rw [← a3 s (by omega), ← hq2, ← hq]
        exact krn_oth e _ IK
    · show hldN v (kpS k (kpA k y)).2 s = _
      rw [← a4 s (by omega), ← hq2, ← hq]
      exact krn_oth (by omega) _ IK
/-- what holds between rounds -/
def JD (v : Nat → Nat) (p : Nat → Option Nat) (nx : Nat → Nat) : Prop :=
  (∀ c s, p c = some s → 0 < nx c ∧ wsh v c (nx c - 1) = s) ∧
  (∀ c, c < v 1 → nx c ≤ v (324 + c)) ∧
  (∀ c, c < v 1 → v (404 + c) ≠ 0 → nx c = 0) ∧
  (∀ c i, c < v 1 → i < nx c → p c ≠ some (wsh v c i) → v (20 + wsh v c i) ≤ hldN v p (wsh v c i) ∧ ∀ l, p l = some (wsh v c i) → stS v (wsh v c i) l < stS v (wsh v c i) c) ∧
  (∀ s, s < v 0 → hldN v p s ≤ v (20 + s))
/-- no pair would rather have each other -/
def STB (v : Nat → Nat) (p : Nat → Option Nat) : Prop :=
  (∀ c s, p c = some s → c < v 1 ∧ v (404 + c) = 0 ∧ ∃ i, i < v (324 + c) ∧ wsh v c i = s) ∧
  (∀ s, s < v 0 → hldN v p s ≤ v (20 + s)) ∧
  (∀ c i, c < v 1 → v (404 + c) = 0 → i < v (324 + c) → (∀ j, j ≤ i → p c ≠ some (wsh v c j)) → v (20 + wsh v c i) ≤ hldN v p (wsh v c i) ∧ ∀ l, p l = some (wsh v c i) → stS v (wsh v c i) l < stS v (wsh v c i) c)
def JO (v : Nat → Nat) (p : Nat → Option Nat) (nx : Nat → Nat) (mu : Nat → Option Nat) : Prop := ∀ c i, c < v 1 → i < nx c → p c ≠ some (wsh v c i) → mu c ≠ some (wsh v c i)
theorem try_sp {p : Nat → Option Nat} {nx : Nat → Nat} {c : Nat} (h : tryB v p nx c = true) : v (404 + c) = 0 ∧ p c = none ∧ nx c < v (324 + c) := by
  unfold tryB at h
  simp only [Bool.and_eq_true, decide_eq_true_eq] at h
  exact ⟨h.1.1, h.1.2, h.2⟩
theorem JD_round (hI : Inv v p0) {p z : Nat → Option Nat} {nx : Nat → Nat} (hpv : ∀ c s, p c = some s → c < v 1) (hJ : JD v p nx) (hK : KP v (tryP v p nx (v 1)) z (v 0)) : JD v z (tryX v p nx (v 1)) := by
  obtain ⟨j1, j2, j3, j4, j5⟩ := hJ
  obtain ⟨k1, k2, k3, k4⟩ := hK
  have h1 := hI.h1
  have zy : ∀ c s, z c = some s → tryP v p nx (v 1) c = some s := fun c s hz => by
    rcases k1 c with d | ⟨d, _⟩
    · rw [← d]; exact hz
    · rw [d] at hz; cases hz
  have yx : ∀ c s, p c = some s → tryP v p nx (v 1) c = some s := fun c s hp => by
    unfold tryP
    rw [if_neg (fun z => by rw [(try_sp z.2).2.1] at hp; cases hp)]
    exact hp
  have hyv : ∀ c s, tryP v p nx (v 1) c = some s → c < v 1 := fun c s hy => by
    unfold tryP at hy
    by_cases t : c < v 1 ∧ tryB v p nx c = true
    · exact t.1
    · rw [if_neg t] at hy; exact hpv c s hy
  have ww : ∀ c i, c < v 1 → i < v (324 + c) → wsh v c i < v 0 := fun c i hc hi => hI.wis c hc i hi
  refine ⟨fun c s hz => ?_, fun c hc => ?_, fun c hc hg => ?_, fun c i hc hi hn => ?_, fun s hs => ?_⟩
  · have hy := zy c s hz
    unfold tryP at hy
    unfold tryX
    by_cases t : c < v 1 ∧ tryB v p nx c = true
    · rw [if_pos t] at hy ⊢
      cases hy
      exact ⟨by omega, by rw [Nat.add_sub_cancel]; rfl⟩
    · rw [if_neg t] at hy ⊢
      exact j1 c s hy
  · unfold tryX
    by_cases t : c < v 1 ∧ tryB v p nx c = true
    · rw [if_pos t]; have := (try_sp t.2).2.2; omega
    · rw [if_neg t]; exact j2 c hc
  · unfold tryX
    rw [if_neg (fun t => hg (try_sp t.2).1)]
    exact j3 c hc hg
  · have hs8 : wsh v c i < v 0 := by
      refine ww c i hc ?_
      unfold tryX at hi
      by_cases t : c < v 1 ∧ tryB v p nx c = true
      · rw [if_pos t] at hi; have := (try_sp t.2).2.2; omega
      · rw [if_neg t] at hi; have := j2 c hc; omega
    generalize hS : wsh v c i = s at *
    by_cases hy : tryP v p nx (v 1) c = some s
    · have hz : z c = none := by
        rcases k1 c with d | ⟨d, _⟩
        · exact absurd (d.trans hy) hn
        · exact d
      refine ⟨?_, k2 c s hy hz⟩
      rw [k3 s hs8]
      split
      · rename_i hle
        -- none would go
        have : cnt (fun k => tryP v p nx (v 1) k = some s) (v 1) ≤ cnt (fun k => z k = some s) (v 1) := by
          have e := k3 s hs8
          rw [if_pos hle] at e
          unfold hldN at e
          omega
        have := cnt_full (P := fun k => z k = some s) (Q := fun k => tryP v p nx (v 1) k = some s) (fun k _ hk => zy k s hk) this c hc hy
        exact absurd this hn
      · exact Nat.le_refl _
    · have hpn : p c ≠ some s := fun z => hy (yx c s z)
      have hin : i < nx c := by
        unfold tryX at hi
        by_cases t : c < v 1 ∧ tryB v p nx c = true
        · rw [if_pos t] at hi
          by_cases e : i = nx c
          · exfalso
            apply hy
            unfold tryP
            rw [if_pos t]
            show some (wsh v c (nx c)) = some s
            rw [← e, hS]
          · omega
        · rw [if_neg t] at hi; exact hi
      obtain ⟨o1, o2⟩ := j4 c i hc hin (by rw [hS]; exact hpn)
      rw [hS] at o1 o2
      have xy : hldN v p s ≤ hldN v (tryP v p nx (v 1)) s := cnt_sub (fun k _ hk => yx k s hk)
      have zc : hldN v z s ≤ v (20 + s) ∧ v (20 + s) ≤ hldN v z s := by
        rw [k3 s hs8]; split <;> omega
      refine ⟨zc.2, fun l hl => ?_⟩
      by_cases hpl : p l = some s
      · exact o2 l hpl
      · obtain ⟨d, d1, d2, d3⟩ := cnt_out (P := fun k => p k = some s) (Q := fun k => z k = some s) (n := v 1) (l := l) (hyv l s (zy l s hl)) hl hpl (by show hldN v z s ≤ hldN v p s; omega)
        have hzd : z d = none := by
          rcases k1 d with e | ⟨e, _⟩
          · exact absurd (e.trans (yx d s d2)) d3
          · exact e
        have := k2 d s (yx d s d2) hzd l hl
        have := o2 d d2
        omega
  · rw [k3 s hs]; split <;> omega
theorem JO_round (hI : Inv v p0) {p z mu : Nat → Option Nat} {nx : Nat → Nat} (hpv : ∀ c s, p c = some s → c < v 1) (hJ : JD v p nx) (hO : JO v p nx mu) (hS : STB v mu) (hK : KP v (tryP v p nx (v 1)) z (v 0)) : JO v z (tryX v p nx (v 1)) mu := by
  have hJ2 := JD_round hI hpv hJ hK
  obtain ⟨j1, j2, j3, j4, j5⟩ := hJ
  obtain ⟨r1, r2, r3, r4, r5⟩ := hJ2
  obtain ⟨k1, k2, k3, k4⟩ := hK
  obtain ⟨s1', s2', s3'⟩ := hS
  have h1 := hI.h1
  have yx : ∀ c s, p c = some s → tryP v p nx (v 1) c = some s := fun c s hp => by
    unfold tryP
    rw [if_neg (fun z => by rw [(try_sp z.2).2.1] at hp; cases hp)]
    exact hp
  have hyv : ∀ c s, tryP v p nx (v 1) c = some s → c < v 1 := fun c s hy => by
    unfold tryP at hy
    by_cases t : c < v 1 ∧ tryB v p nx c = true
    · exact t.1
    · rw [if_neg t] at hy; exact hpv c s hy
  have zy : ∀ c s, z c = some s → tryP v p nx (v 1) c = some s := fun c s hz => by
    rcases k1 c with d | ⟨d, _⟩
    · rw [← d]; exact hz
    · rw [d] at hz; cases hz
  intro c i hc hi hn hmu
  by_cases hy : tryP v p nx (v 1) c = some (wsh v c i)
  · obtain ⟨o1, o2⟩ := r4 c i hc hi hn
    have hs8 : wsh v c i < v 0 := hI.wis c hc i (by have := r2 c hc; omega)
    have m2 := s2' (wsh v c i) hs8
    obtain ⟨l, l1, l2, l3⟩ := cnt_out (P := fun k => z k = some (wsh v c i)) (Q := fun k => mu k = some (wsh v c i)) (n := v 1) (l := c) hc hmu hn (by show hldN v mu (wsh v c i) ≤ hldN v z (wsh v c i); omega)
    obtain ⟨e1, e2⟩ := r1 l _ l2
    have hgl : v (404 + l) = 0 := by
      by_cases g0 : v (404 + l) = 0
      · exact g0
      · have := r3 l l1 g0; omega
    have hlt : tryX v p nx (v 1) l - 1 < v (324 + l) := by have := r2 l l1; omega
    have := s3' l (tryX v p nx (v 1) l - 1) l1 hgl hlt (fun j hj => by
      by_cases ej : j = tryX v p nx (v 1) l - 1
      · rw [ej, e2]; exact l3
      · have hlp : tryP v p nx (v 1) l = some (wsh v c i) := zy l _ l2
        have hpj : j < nx l ∧ p l ≠ some (wsh v l j) := by
          unfold tryP at hlp
          unfold tryX at hj ej e2 hlt
          by_cases t : l < v 1 ∧ tryB v p nx l = true
          · rw [if_pos t] at hj ej
            refine ⟨by omega, ?_⟩
            rw [(try_sp t.2).2.1]; intro z; cases z
          · rw [if_neg t] at hj ej hlp e2 hlt
            refine ⟨by omega, ?_⟩
            rw [hlp, ← e2]
            intro z
            have := hI.inj l l1 (nx l - 1) j hlt (by omega) (Option.some.inj z)
            omega
        exact hO l j l1 hpj.1 hpj.2)
    rw [e2] at this
    have a1 := this.2 c hmu
    have a2 := o2 l l2
    omega
  · have hpn : p c ≠ some (wsh v c i) := fun z => hy (yx c _ z)
    have hin : i < nx c := by
      unfold tryX at hi
      by_cases t : c < v 1 ∧ tryB v p nx c = true
      · rw [if_pos t] at hi
        by_cases e : i = nx c
        · exfalso
          apply hy
          unfold tryP
          rw [if_pos t, e]
          rfl
        · omega
      · rw [if_neg t] at hi; exact hi
    exact hO c i hc hin hpn hmu
theorem tryB_Q {v' : Nat → Nat} (hQ : sameQ v v') {p : Nat → Option Nat} {nx : Nat → Nat} {c : Nat} (hc : c < 40) : tryB v' p nx c = tryB v p nx c := by
  unfold tryB
  rw [hQ (404 + c) (by omega), hQ (324 + c) (by omega)]
theorem tryP_Q {v' : Nat → Nat} (hQ : sameQ v v') (h1 : v 1 ≤ 40) (hI : Inv v p0) {p : Nat → Option Nat} {nx : Nat → Nat} : tryP v' p nx (v 1) = tryP v p nx (v 1) := by
  funext c
  unfold tryP
  by_cases hc : c < v 1
  · rw [tryB_Q hQ (by omega)]
    by_cases t : c < v 1 ∧ tryB v p nx c = true
    · have := (try_sp t.2).2.2
      have := (hI.chi c (by omega)).2.2.2.2.2.1
      rw [if_pos t, if_pos t, hQ (564 + 4 * c + nx c) (by omega)]
    · rw [if_neg t, if_neg t]
  · rw [if_neg (fun z => hc z.1), if_neg (fun z => hc z.1)]
theorem tryX_Q {v' : Nat → Nat} (hQ : sameQ v v') (h1 : v 1 ≤ 40) {p : Nat → Option Nat} {nx : Nat → Nat} : tryX v' p nx (v 1) = tryX v p nx (v 1) := by
  funext c
  unfold tryX
  by_cases hc : c < v 1
  · rw [tryB_Q hQ (by omega)]
  · rw [if_neg (fun z => hc z.1), if_neg (fun z => hc z.1)]
theorem alo_J (hI0 : Inv v p0) : ∀ n st {x : (Nat → Nat) × (Nat → Option Nat)} {nx : Nat → Nat}, Inv x.1 x.2 → sameQ v x.1 → st + n ≤ 161 → muS v nx ≤ n → JD v x.2 nx → Inv (alo n st x nx).1.1 (alo n st x nx).1.2 ∧ sameQ v (alo n st x nx).1.1 ∧ (alo n st x nx).1.1 8 = x.1 8 ∧ JD v (alo n st x nx).1.2 (alo n st x nx).2 ∧ (∀ mu, STB v mu → JO v x.2 nx mu → JO v (alo n st x nx).1.2 (alo n st x nx).2 mu) ∧ ∀ c, c < v 1 → ¬ tryB v (alo n st x nx).1.2 (alo n st x nx).2 c = true := by
  have h0 := hI0.h0
  have h1 := hI0.h1
  have stop : ∀ n st {x : (Nat → Nat) × (Nat → Option Nat)} {nx : Nat → Nat}, Inv x.1 x.2 → sameQ v x.1 → JD v x.2 nx → ¬ 0 < cnt (fun c => tryB x.1 x.2 nx c = true) (x.1 1) → Inv (alo n st x nx).1.1 (alo n st x nx).1.2 ∧ sameQ v (alo n st x nx).1.1 ∧ (alo n st x nx).1.1 8 = x.1 8 ∧ JD v (alo n st x nx).1.2 (alo n st x nx).2 ∧ (∀ mu, STB v mu → JO v x.2 nx mu → JO v (alo n st x nx).1.2 (alo n st x nx).2 mu) ∧ ∀ c, c < v 1 → ¬ tryB v (alo n st x nx).1.2 (alo n st x nx).2 c = true := by
    intro n st x nx hI hQ hJ hn
    rw [alo_no hn]
    refine ⟨hI, hQ, rfl, hJ, fun mu _ h => h, fun c hc t => ?_⟩
    have := cnt_zero.mp (show cnt (fun c => tryB x.1 x.2 nx c = true) (x.1 1) = 0 by omega) c (by rw [hQ 1 (by omega)]; exact hc)
    exact this (by rw [tryB_Q hQ (by omega)]; exact t)
  intro n
  induction n with
  | zero =>
    intro st x nx hI hQ hst hm hJ
    refine stop 0 st hI hQ hJ (fun z => ?_)
    have v1 : x.1 1 = v 1 := hQ 1 (by omega)
    have := mu_dec (sameQ.r x.1) (by omega) z
    have e : muS x.1 nx = muS v nx := by unfold muS; rw [v1]; exact fb_sm_cong (fun k hk => by rw [hQ (324 + k) (by omega)])
    omega
  | succ n ih =>
    intro st x nx hI hQ hst hm hJ
    by_cases hc : 0 < cnt (fun c => tryB x.1 x.2 nx c = true) (x.1 1)
    · have v1 : x.1 1 = v 1 := hQ 1 (by omega)
      have v0 : x.1 0 = v 0 := hQ 0 (by omega)
      obtain ⟨I3, Q3, e9, e8, cap3⟩ := rnd_ok (st := st) (nx := nx) hI (by omega)
      have QV : sameQ v _ := hQ.t Q3
      have IT := try_Inv (nx := nx) (st := st) hI (by omega) (x.1 1) (Nat.le_refl _)
      have QT : sameQ x.1 (tryV x.1 x.2 nx st (x.1 1)) := (tryV_Q (k := x.1 1)).resolve_right (by omega)
      have I2 : Inv (updN (tryV x.1 x.2 nx st (x.1 1)) 9 st) (tryP x.1 x.2 nx (x.1 1)) := IT.w (by unfold okW; omega)
      have Q2 : sameQ v (updN (tryV x.1 x.2 nx st (x.1 1)) 9 st) := hQ.t (QT.t (sameQ.w (by omega)))
      have K := kpA_K hI0 (x.1 0) (y := (updN (tryV x.1 x.2 nx st (x.1 1)) 9 st, tryP x.1 x.2 nx (x.1 1))) I2 Q2 (by omega)
      have eP : tryP x.1 x.2 nx (x.1 1) = tryP v x.2 nx (v 1) := by rw [v1]; exact tryP_Q hQ h1 hI0
      have eX : tryX x.1 x.2 nx (x.1 1) = tryX v x.2 nx (v 1) := by rw [v1]; exact tryX_Q hQ h1
      have hpv : ∀ c s, x.2 c = some s → c < v 1 := fun c s h => by rw [← v1]; exact (hI.plc c s h).1
      have K2 : KP v (tryP v x.2 nx (v 1)) (kpA (x.1 0) (updN (tryV x.1 x.2 nx st (x.1 1)) 9 st, tryP x.1 x.2 nx (x.1 1))).2 (v 0) := by
        rw [← eP, ← v0]; exact K
      have J2 := JD_round hI0 hpv hJ K2
      rw [← eX] at J2
      have md := mu_dec Q3 (by omega) hc
      have em : muS x.1 nx = muS v nx := by unfold muS; rw [v1]; exact fb_sm_cong (fun k hk => by rw [hQ (324 + k) (by omega)])
      have em2 : muS (kpA (x.1 0) (updN (tryV x.1 x.2 nx st (x.1 1)) 9 st, tryP x.1 x.2 nx (x.1 1))).1 (tryX x.1 x.2 nx (x.1 1)) = muS v (tryX x.1 x.2 nx (x.1 1)) := by
        unfold muS
        rw [QV 1 (by omega)]
        exact fb_sm_cong (fun k hk => by rw [QV (324 + k) (by omega)])
      rw [alo_go hc]
      obtain ⟨i1, i2, i3, i4, i5, i6⟩ := ih (st + 1) I3 QV (by omega) (by omega) J2
      refine ⟨i1, i2, i3.trans e8, i4, fun mu hS hO => i5 mu hS ?_, i6⟩
      have := JO_round hI0 hpv hJ hO hS K2
      rw [← eX] at this
      exact this
    · exact stop (n + 1) st hI hQ hJ hc
end DA
/-- an allocation of the row v: its row, its places, how far each child tried -/
def daR (v : Nat → Nat) : Nat → Nat := (alo 160 1 (tbS v, fun _ => none) (fun _ => 0)).1.1
def daP (v : Nat → Nat) : Nat → Option Nat := (alo 160 1 (tbS v, fun _ => none) (fun _ => 0)).1.2
def daX (v : Nat → Nat) : Nat → Nat := (alo 160 1 (tbS v, fun _ => none) (fun _ => 0)).2
section DF
variable {v : Nat → Nat} {p0 : Nat → Option Nat}
theorem da_all (hI : Inv v p0) : Inv (daR v) (daP v) ∧ sameQ v (daR v) ∧ daR v 8 = 1 ∧ JD v (daP v) (daX v) ∧ (∀ mu, STB v mu → JO v (daP v) (daX v) mu) ∧ ∀ c, c < v 1 → ¬ tryB v (daP v) (daX v) c = true := by
  have IT := tbS_Inv hI
  obtain ⟨i1, i2, i3, i4, i5, i6⟩ := alo_J hI 160 1 (x := (tbS v, fun _ => none)) (nx := fun _ => 0) IT (tbS_Q v) (by omega) (mu_le hI _) ⟨fun c s h => (by cases h), fun c hc => Nat.zero_le _, fun c hc _ => rfl, fun c i hc hi => absurd hi (Nat.not_lt_zero _), fun s hs => by
    have : hldN v (fun _ => none) s = 0 := cnt_zero.mpr (fun k hk z => by cases z)
    show hldN v (fun _ => none) s ≤ _
    omega⟩
  exact ⟨i1, i2, i3, i4, fun mu hS => i5 mu hS (fun c i hc hi => absurd hi (Nat.not_lt_zero _)), i6⟩
theorem da_P (hI : Inv v p0) {c s : Nat} (h : daP v c = some s) : c < v 1 ∧ v (404 + c) = 0 ∧ ∃ i, i < v (324 + c) ∧ wsh v c i = s := by
  obtain ⟨i1, i2, _⟩ := da_all hI
  have h1 := hI.h1
  obtain ⟨q1, q2, i, q3, q4⟩ := i1.plc c s h
  rw [i2 1 (by omega)] at q1
  rw [i2 (404 + c) (by omega)] at q2
  rw [i2 (324 + c) (by omega)] at q3
  have := (hI.chi c (by omega)).2.2.2.2.2.1
  rw [i2 (564 + 4 * c + i) (by omega)] at q4
  exact ⟨q1, q2, i, q3, q4⟩
theorem da_end (hI : Inv v p0) {c : Nat} (hc : c < v 1) (hg : v (404 + c) = 0) (hp : daP v c = none) : daX v c = v (324 + c) := by
  obtain ⟨_, _, _, ⟨_, j2, _⟩, _, i6⟩ := da_all hI
  have := i6 c hc
  have h2 := j2 c hc
  by_cases e : daX v c < v (324 + c)
  · exact absurd (show tryB v (daP v) (daX v) c = true by unfold tryB; simp [hg, hp, e]) this
  · omega
theorem da_STB (hI : Inv v p0) : STB v (daP v) := by
  obtain ⟨_, _, _, ⟨j1, j2, j3, j4, j5⟩, _, i6⟩ := da_all hI
  refine ⟨fun c s h => da_P hI h, j5, fun c i hc hg hi hn => ?_⟩
  refine j4 c i hc ?_ (hn i (Nat.le_refl _))
  cases hp : daP v c with
  | none => rw [da_end hI hc hg hp]; exact hi
  | some s =>
    obtain ⟨e1, e2⟩ := j1 c s hp
    by_cases e : i < daX v c
    · exact e
    · exact absurd (show daP v c = some (wsh v c (daX v c - 1)) by rw [e2, hp]) (hn (daX v c - 1) (by omega))
theorem da_best (hI : Inv v p0) {mu : Nat → Option Nat} (hS : STB v mu) {c i : Nat} (hc : c < v 1) (hi : i < v (324 + c)) (hm : mu c = some (wsh v c i)) : ∃ j, j ≤ i ∧ daP v c = some (wsh v c j) := by
  obtain ⟨_, _, _, ⟨j1, j2, j3, j4, j5⟩, i5, i6⟩ := da_all hI
  have hO := i5 mu hS
  have hg := (hS.1 c _ hm).2.1
  by_cases e : i < daX v c
  · refine ⟨i, Nat.le_refl _, ?_⟩
    by_cases hp : daP v c = some (wsh v c i)
    · exact hp
    · exact absurd hm (hO c i hc e hp)
  · cases hp : daP v c with
    | none => have := da_end hI hc hg hp; omega
    | some s =>
      obtain ⟨e1, e2⟩ := j1 c s hp
      exact ⟨daX v c - 1, by omega, by rw [e2]⟩
theorem STB_wait {p : Nat → Option Nat} (hI : Inv v p) (hS : STB v p) {c s : Nat} (hc : c < v 1) (hg : v (404 + c) = 0) (h : prfB v p c s = true) : v (20 + s) ≤ hldN v p s := by
  unfold prfB at h
  cases hw : wisO v c s with
  | none => rw [hw] at h; cases h
  | some i =>
    rw [hw] at h
    obtain ⟨w1, w2, w3, w4⟩ := fnd_some hw
    have w3 : wsh v c i = s := w3
    have := (hS.2.2 c i hc hg (by omega) (fun j hj z => ?_)).1
    · rw [w3] at this; exact this
    · cases hgo : gotO v p c with
      | none =>
        have := (got_pl hI).mp hgo
        rw [this] at z; cases z
      | some j' =>
        rw [hgo] at h
        have hlt : i < j' := by simpa using h
        unfold gotO at hgo
        rw [z] at hgo
        obtain ⟨u1, u2, u3, u4⟩ := fnd_some hgo
        exact u4 j (by omega) (by omega) rfl
theorem prf_Q {v' : Nat → Nat} (hQ : sameQ v v') (hI : Inv v p0) {p : Nat → Option Nat} {c s : Nat} (hc : c < 40) : prfB v' p c s = prfB v p c s := q_prf hQ hI hc
theorem da_fil (hI : Inv v p0) : filO (daR v) (daP v) = none := by
  obtain ⟨i1, i2, i3, _⟩ := da_all hI
  have hS := da_STB hI
  have h0 := hI.h0; have h1 := hI.h1
  have IP : Inv v (daP v) := hI.pa (fun c s h => da_P hI h)
  refine fnd_no (fun s hs h => ?_)
  obtain ⟨hlt, hw⟩ := h
  rw [i2 0 (by omega)] at hs
  obtain ⟨c, hc, hp⟩ := cnt_pos.mp hw
  rw [i2 1 (by omega)] at hc
  unfold waiB at hp
  simp only [Bool.and_eq_true, decide_eq_true_eq] at hp
  rw [i2 (404 + c) (by omega), prf_Q i2 hI (by omega)] at hp
  have := STB_wait IP hS hc hp.1.2 hp.2
  rw [i2 (20 + s) (by omega), q_hld i2] at hlt
  omega
theorem fil_fst (h : filO v p0 = none) : fstO v p0 = none := by unfold fstO; rw [h]; rfl
/-- who tried: in the end -/
theorem da_tried (hI : Inv v p0) {c s : Nat} (hc : c < v 1) : (∃ i, wisO v c s = some i ∧ i < daX v c) ↔ (v (404 + c) = 0 ∧ (daP v c = some s ∨ prfB v (daP v) c s = true)) := by
  obtain ⟨_, _, _, ⟨j1, j2, j3, j4, j5⟩, _, i6⟩ := da_all hI
  have h1 := hI.h1
  have IP : Inv v (daP v) := hI.pa (fun c s h => da_P hI h)
  have gp : ∀ s', daP v c = some s' → gotO v (daP v) c = some (daX v c - 1) := fun s' hp => by
    obtain ⟨e1, e2⟩ := j1 c s' hp
    unfold gotO
    rw [hp]
    show wisO v c s' = _
    have hx := j2 c hc
    refine fnd_eq (n := v (324 + c)) (k := daX v c - 1) (by omega) e2 (fun j hj hq => ?_)
    have := hI.inj c hc j (daX v c - 1) (by omega) (by omega) (by show v (564 + 4 * c + j) = wsh v c (daX v c - 1); rw [e2]; exact hq)
    omega
  constructor
  · rintro ⟨i, hw, hi⟩
    have hg : v (404 + c) = 0 := by
      by_cases g : v (404 + c) = 0
      · exact g
      · have := j3 c hc g; omega
    refine ⟨hg, ?_⟩
    have w3 := (fnd_some hw).2.2.1
    cases hp : daP v c with
    | none =>
      right
      unfold prfB
      rw [hw, (got_pl IP).mpr hp]
    | some s' =>
      obtain ⟨e1, e2⟩ := j1 c s' hp
      by_cases e : i = daX v c - 1
      · left
        rw [← e2, ← e]
        exact congrArg some w3
      · right
        unfold prfB
        rw [hw, gp s' hp]
        show decide (i < daX v c - 1) = true
        simp; omega
  · rintro ⟨hg, h | h⟩
    · obtain ⟨e1, e2⟩ := j1 c s h
      have := gp s h
      unfold gotO at this
      rw [h] at this
      exact ⟨_, this, by omega⟩
    · unfold prfB at h
      cases hw : wisO v c s with
      | none => rw [hw] at h; cases h
      | some i =>
        rw [hw] at h
        refine ⟨i, rfl, ?_⟩
        have := wis_lt hw
        cases hp : daP v c with
        | none => rw [da_end hI hc hg hp]; exact this
        | some s' =>
          rw [gp s' hp] at h
          have : i < daX v c - 1 := by simpa using h
          omega
-- no child gains by another order
theorem sm_one {N : Nat} : ∀ {a : Nat}, a < N → fb_sm (fun s => if s = a then 1 else 0) N = 1 := by
  intro a ha
  have u := fb_sm_upd (fun _ => 0) 1 ha
  have z : fb_sm (fun _ => 0) N = 0 := by rw [fb_sm_const]; omega
  rw [z] at u
  have : fb_sm (fun s => if s = a then 1 else 0) N = fb_sm (fun k => if k = a then 1 else (fun _ => 0) k) N := rfl
  omega
theorem sm_hld {p : Nat → Option Nat} {N : Nat} (hp : ∀ c s, p c = some s → s < N) : ∀ n, fb_sm (fun s => cnt (fun k => p k = some s) n) N = cnt (fun k => p k ≠ none) n := by
  intro n
  induction n with
  | zero => show fb_sm (fun _ => 0) N = 0; rw [fb_sm_const]; omega
  | succ n ih =>
    show fb_sm (fun s => cnt (fun k => p k = some s) n + (if p n = some s then 1 else 0)) N = cnt (fun k => p k ≠ none) n + (if p n ≠ none then 1 else 0)
    rw [fb_sm_add, ih]
    congr 1
    cases h : p n with
    | none =>
      rw [if_neg (by simp)]
      have : fb_sm (fun s => if (none : Option Nat) = some s then 1 else 0) N = fb_sm (fun _ => 0) N := fb_sm_cong (fun k hk => if_neg (by simp))
      rw [this, fb_sm_const]; omega
    | some a =>
      rw [if_pos (by simp)]
      have : fb_sm (fun s => if some a = some s then 1 else 0) N = fb_sm (fun s => if s = a then 1 else 0) N := fb_sm_cong (fun k hk => by
        by_cases e : k = a
        · rw [if_pos (by rw [e]), if_pos e]
        · rw [if_neg (by intro z; exact e (Option.some.inj z).symm), if_neg e])
      rw [this, sm_one (hp n a h)]
/-- but for the preferences the rows are the same -/
def sameS (v v' : Nat → Nat) : Prop := ∀ i, ¬ ((324 ≤ i ∧ i < 364) ∨ (564 ≤ i ∧ i < 724)) → v' i = v i
theorem S_st {v' : Nat → Nat} (h : sameS v v') (hI : Inv v p0) {c s : Nat} (hc : c < 40) (hs : s < 8) : stS v' s c = stS v s c := by
  have hP : ∀ f, hasP v' f s = hasP v f s := fun f => by
    unfold hasP
    rw [h 2 (by omega)]
    congr 2
    funext k
    rw [h (724 + 2 * k) (by omega), h (724 + 2 * k + 1) (by omega)]
  have hM : ∀ r, meeB v' c s r = meeB v c s r := fun r => by
    unfold meeB zonB
    rw [h (244 + c) (by omega), h (204 + c) (by omega), hP, h (52 + s) (by omega), h (92 + 4 * s) (by omega), h (92 + 4 * s + 1) (by omega), h (92 + 4 * s + 2) (by omega), h (92 + 4 * s + 3) (by omega), h (124 + c) (by omega), h (164 + c) (by omega)]
  have hC : clsS v' c s = clsS v c s := by
    have := hI.sch s hs
    unfold clsS
    rw [h (44 + s) (by omega)]
    congr 1
    exact fnd_c (fun k h1 h2 => by rw [h (68 + 3 * s + k) (by omega), hM])
  have hF : farS v' c s = farS v c s := by
    unfold farS
    rw [h (124 + c) (by omega), h (164 + c) (by omega), h (28 + s) (by omega), h (36 + s) (by omega)]
  unfold stS latS
  rw [hC, hF, h 7 (by omega), h (364 + c) (by omega), h (284 + c) (by omega)]
theorem S_hld {v' : Nat → Nat} (h : sameS v v') {p : Nat → Option Nat} {s : Nat} : hldN v' p s = hldN v p s := by
  unfold hldN
  rw [h 1 (by omega)]
/-- stable there, stable here: where each child's wishes that would be preferred are wishes there, preferred too -/
theorem STB_to {v' : Nat → Nat} (h : sameS v v') (hI : Inv v p0) {p : Nat → Option Nat} (hS : STB v' p) (h1 : ∀ c s, p c = some s → ∃ i, i < v (324 + c) ∧ wsh v c i = s) (h2 : ∀ c i, c < v 1 → i < v (324 + c) → (∀ j, j ≤ i → p c ≠ some (wsh v c j)) → ∃ i', i' < v' (324 + c) ∧ wsh v' c i' = wsh v c i ∧ ∀ j, j ≤ i' → p c ≠ some (wsh v' c j)) : STB v p := by
  have g0 := hI.h0; have g1 := hI.h1
  obtain ⟨s1, s2, s3⟩ := hS
  refine ⟨fun c s hp => ?_, fun s hs => ?_, fun c i hc hg hi hn => ?_⟩
  · obtain ⟨q1, q2, _⟩ := s1 c s hp
    rw [h 1 (by omega)] at q1
    rw [h (404 + c) (by omega)] at q2
    exact ⟨q1, q2, h1 c s hp⟩
  · have := s2 s (by rw [h 0 (by omega)]; exact hs)
    rw [S_hld h, h (20 + s) (by omega)] at this
    exact this
  · obtain ⟨i', q1, q2, q3⟩ := h2 c i hc hi hn
    have hs8 : wsh v c i < v 0 := hI.wis c hc i hi
    obtain ⟨t1, t2⟩ := s3 c i' (by rw [h 1 (by omega)]; exact hc) (by rw [h (404 + c) (by omega)]; exact hg) q1 q3
    rw [q2, S_hld h, h (20 + wsh v c i) (by omega)] at t1
    refine ⟨t1, fun l hl => ?_⟩
    have hl1 := (s1 l _ hl).1
    rw [h 1 (by omega)] at hl1
    have := t2 l (by rw [q2]; exact hl)
    rw [q2, S_st h hI (by omega) (by omega), S_st h hI (by omega) (by omega)] at this
    exact this
/-- NO CHILD GAINS BY ANOTHER ORDER: v' is the row with another order of the wishes of c -/
theorem no_gain (hI : Inv v p0) {v' : Nat → Nat} (hI' : Inv v' p0) (h : sameS v v') {c : Nat} (hc : c < v 1) (hm : v' (324 + c) = v (324 + c)) (ho : ∀ d, d ≠ c → v' (324 + d) = v (324 + d) ∧ ∀ i, i < 4 → wsh v' d i = wsh v d i) {i : Nat} (hi : i < v (324 + c)) (hD : daP v' c = some (wsh v c i)) : ∃ j, j ≤ i ∧ daP v c = some (wsh v c j) := by
  have h0 := hI.h0; have h1 := hI.h1
  have hc4 := (hI.chi c (by omega)).2.2.2.2.2.1
  by_cases hyp : ∃ j, j ≤ i ∧ daP v c = some (wsh v c j)
  · exact hyp
  exfalso
  have hno : ∀ j, j ≤ i → daP v c ≠ some (wsh v c j) := fun j hj z => hyp ⟨j, hj, z⟩
  -- its list cut behind that school
  have It0 : Inv v (fun _ => none) := hI.pa (fun c s h => by cases h)
  have It : Inv (updN v (324 + c) (i + 1)) (fun _ => none) := It0.many (by omega) (by omega) rfl
  have St : sameS v (updN v (324 + c) (i + 1)) := fun j hj => updN_n (by omega)
  have wt : ∀ d j, j < 4 → d < 40 → wsh (updN v (324 + c) (i + 1)) d j = wsh v d j := fun d j hj hd => updN_n (by omega)
  have mt : updN v (324 + c) (i + 1) (324 + c) = i + 1 := updN_s
  have mo : ∀ d, d ≠ c → updN v (324 + c) (i + 1) (324 + d) = v (324 + d) := fun d hd => updN_n (by omega)
  have m4 : ∀ d, d < v 1 → v (324 + d) ≤ 4 := fun d hd => (hI.chi d (by omega)).2.2.2.2.2.1
  have Bt := da_STB It
  have hct : daP (updN v (324 + c) (i + 1)) c = none := by
    cases hp : daP (updN v (324 + c) (i + 1)) c with
    | none => rfl
    | some s =>
      exfalso
      obtain ⟨_, _, j, q1, q2⟩ := Bt.1 c s hp
      rw [mt] at q1
      rw [wt c j (by omega) (by omega)] at q2
      have BV : STB v (daP (updN v (324 + c) (i + 1))) := by
        refine STB_to St hI Bt (fun d s' hd => ?_) (fun d i2 hd hi2 hn => ?_)
        · obtain ⟨e1, _, k, e2, e3⟩ := Bt.1 d s' hd
          rw [St 1 (by omega)] at e1
          have := m4 d e1
          by_cases e : d = c
          · subst e; rw [mt] at e2; rw [wt d k (by omega) (by omega)] at e3; exact ⟨k, by omega, e3⟩
          · rw [mo d e] at e2; rw [wt d k (by omega) (by omega)] at e3; exact ⟨k, e2, e3⟩
        · have := m4 d hd
          by_cases e : d = c
          · subst e
            have hlt : i2 < j := by
              rcases Nat.lt_or_ge i2 j with e4 | e4
              · exact e4
              · exact absurd (by rw [hp, q2]) (hn j e4)
            exact ⟨i2, by rw [mt]; omega, wt d i2 (by omega) (by omega), fun j' hj' => by rw [wt d j' (by omega) (by omega)]; exact hn j' hj'⟩
          · exact ⟨i2, by rw [mo d e]; exact hi2, wt d i2 (by omega) (by omega), fun j' hj' => by rw [wt d j' (by omega) (by omega)]; exact hn j' hj'⟩
      obtain ⟨j', e1, e2⟩ := da_best hI BV hc (i := j) (by omega) (by rw [hp, q2])
      exact hno j' (by omega) e2
  -- that school alone
  have Sq : sameS v (updN (updN v (564 + 4 * c) (wsh v c i)) (324 + c) 1) := fun j hj => (updN_n (by omega)).trans (updN_n (by omega))
  have mq : updN (updN v (564 + 4 * c) (wsh v c i)) (324 + c) 1 (324 + c) = 1 := updN_s
  have wq : wsh (updN (updN v (564 + 4 * c) (wsh v c i)) (324 + c) 1) c 0 = wsh v c i := (updN_n (by omega)).trans updN_s
  have mqo : ∀ d, d ≠ c → d < 40 → updN (updN v (564 + 4 * c) (wsh v c i)) (324 + c) 1 (324 + d) = v (324 + d) := fun d hd hd4 => (updN_n (by omega)).trans (updN_n (by omega))
  have wqo : ∀ d j, d ≠ c → j < 4 → d < 40 → wsh (updN (updN v (564 + 4 * c) (wsh v c i)) (324 + c) 1) d j = wsh v d j := fun d j hd hj h40 => by
    unfold wsh; rw [updN_n (by omega), updN_n (by omega)]
  have Iq : Inv (updN (updN v (564 + 4 * c) (wsh v c i)) (324 + c) 1) (fun _ => none) := by
    have hw := hI.wis c hc i hi
    obtain ⟨⟨a0, a1, a2, a6, a7, a8, a9⟩, hS, hU, hC, hW, hJ, hP, hB⟩ := It0
    have e : ∀ j, ¬ (j = 324 + c ∨ j = 564 + 4 * c) → updN (updN v (564 + 4 * c) (wsh v c i)) (324 + c) 1 j = v j := fun j hj => (updN_n (by omega)).trans (updN_n (by omega))
    refine ⟨⟨by rw [e 0 (by omega)]; exact a0, by rw [e 1 (by omega)]; exact a1, by rw [e 2 (by omega)]; exact a2, by rw [e 6 (by omega)]; exact a6, by rw [e 7 (by omega)]; exact a7, by rw [e 8 (by omega)]; exact a8, by rw [e 9 (by omega)]; exact a9⟩, fun s hs => ?_, fun s hs k hk => by rw [e (68 + 3 * s + k) (by omega)]; exact hU s hs k hk, fun d hd => ?_, fun d hd k hk => ?_, fun d hd k l hk hl hkl => ?_, fun d s hp => (by cases hp), fun k hk => ?_⟩
    · rw [e (20 + s) (by omega), e (28 + s) (by omega), e (36 + s) (by omega), e (44 + s) (by omega), e (52 + s) (by omega)]; exact hS s hs
    · have hd' := hC d hd
      rw [e (124 + d) (by omega), e (164 + d) (by omega), e (204 + d) (by omega), e (244 + d) (by omega), e (284 + d) (by omega), e (364 + d) (by omega), e (404 + d) (by omega), e (444 + d) (by omega)]
      refine ⟨hd'.1, hd'.2.1, hd'.2.2.1, hd'.2.2.2.1, hd'.2.2.2.2.1, ?_, hd'.2.2.2.2.2.2.1, hd'.2.2.2.2.2.2.2.1, hd'.2.2.2.2.2.2.2.2⟩
      by_cases ed : d = c
      · rw [ed, mq]; omega
      · rw [mqo d ed (by omega)]; exact hd'.2.2.2.2.2.1
    · rw [e 1 (by omega)] at hd
      rw [e 0 (by omega)]
      by_cases ed : d = c
      · subst ed; rw [mq] at hk
        rw [show k = 0 by omega]
        show wsh (updN (updN v (564 + 4 * d) (wsh v d i)) (324 + d) 1) d 0 < v 0
        rw [wq]; exact hw
      · rw [mqo d ed (by omega)] at hk
        have := m4 d hd
        show wsh (updN (updN v (564 + 4 * c) (wsh v c i)) (324 + c) 1) d k < v 0
        rw [wqo d k ed (by omega) (by omega)]
        exact hW d hd k hk
    · rw [e 1 (by omega)] at hd
      by_cases ed : d = c
      · subst ed; rw [mq] at hk hl; omega
      · rw [mqo d ed (by omega)] at hk hl
        have := m4 d hd
        have hkl : wsh (updN (updN v (564 + 4 * c) (wsh v c i)) (324 + c) 1) d k = wsh (updN (updN v (564 + 4 * c) (wsh v c i)) (324 + c) 1) d l := hkl
        rw [wqo d k ed (by omega) (by omega), wqo d l ed (by omega) (by omega)] at hkl
        exact hJ d hd k l hk hl hkl
    · refine lt_upd (lt_upd (hB k hk) (fun z => ?_)) (fun z => by omega)
      have : wsh v c i < v 0 := hw
      omega
  -- the other order's outcome is stable there
  have B' := da_STB hI'
  have Bq' : STB (updN (updN v (564 + 4 * c) (wsh v c i)) (324 + c) 1) (daP v') := by
    have S2 : sameS (updN (updN v (564 + 4 * c) (wsh v c i)) (324 + c) 1) v' := fun j hj => (h j hj).trans (Sq j hj).symm
    refine STB_to S2 Iq B' (fun d s' hd => ?_) (fun d i2 hd hi2 hn => ?_)
    · obtain ⟨e1, _, k, e2, e3⟩ := B'.1 d s' hd
      rw [h 1 (by omega)] at e1
      by_cases e : d = c
      · subst e; rw [hD] at hd; cases hd; exact ⟨0, by rw [mq]; omega, wq⟩
      · have := m4 d e1
        rw [(ho d e).1] at e2
        exact ⟨k, by rw [mqo d e (by omega)]; exact e2, by rw [wqo d k e (by omega) (by omega), ← (ho d e).2 k (by omega)]; exact e3⟩
    · rw [Sq 1 (by omega)] at hd
      by_cases e : d = c
      · subst e
        rw [mq] at hi2
        exact absurd (show daP v' d = some (wsh (updN (updN v (564 + 4 * d) (wsh v d i)) (324 + d) 1) d 0) by rw [wq]; exact hD) (hn 0 (Nat.zero_le _))
      · have := m4 d hd
        rw [mqo d e (by omega)] at hi2
        refine ⟨i2, by rw [(ho d e).1]; exact hi2, by rw [(ho d e).2 i2 (by omega), wqo d i2 e (by omega) (by omega)], fun j' hj' => ?_⟩
        rw [(ho d e).2 j' (by omega), ← wqo d j' e (by omega) (by omega)]
        exact hn j' hj'
  have Bqt : STB (updN (updN v (564 + 4 * c) (wsh v c i)) (324 + c) 1) (daP (updN v (324 + c) (i + 1))) := by
    have S2 : sameS (updN (updN v (564 + 4 * c) (wsh v c i)) (324 + c) 1) (updN v (324 + c) (i + 1)) := fun j hj => (St j hj).trans (Sq j hj).symm
    refine STB_to S2 Iq Bt (fun d s' hd => ?_) (fun d i2 hd hi2 hn => ?_)
    · obtain ⟨e1, _, k, e2, e3⟩ := Bt.1 d s' hd
      rw [St 1 (by omega)] at e1
      by_cases e : d = c
      · subst e; rw [hct] at hd; cases hd
      · have := m4 d e1
        rw [mo d e] at e2
        exact ⟨k, by rw [mqo d e (by omega)]; exact e2, by rw [wqo d k e (by omega) (by omega), ← wt d k (by omega) (by omega)]; exact e3⟩
    · rw [Sq 1 (by omega)] at hd
      by_cases e : d = c
      · subst e
        rw [mq] at hi2
        refine ⟨i, by rw [mt]; omega, ?_, fun j' _ => by rw [hct]; intro z; cases z⟩
        rw [show i2 = 0 by omega, wq, wt d i (by omega) (by omega)]
      · have := m4 d hd
        rw [mqo d e (by omega)] at hi2
        refine ⟨i2, by rw [mo d e]; exact hi2, by rw [wt d i2 (by omega) (by omega), wqo d i2 e (by omega) (by omega)], fun j' hj' => ?_⟩
        rw [wt d j' (by omega) (by omega), ← wqo d j' e (by omega) (by omega)]
        exact hn j' hj'
  have Bo := da_STB Iq
  have q1v : updN (updN v (564 + 4 * c) (wsh v c i)) (324 + c) 1 1 = v 1 := Sq 1 (by omega)
  have q0v : updN (updN v (564 + 4 * c) (wsh v c i)) (324 + c) 1 0 = v 0 := Sq 0 (by omega)
  generalize hvq : updN (updN v (564 + 4 * c) (wsh v c i)) (324 + c) 1 = vq at *
  generalize hvt : daP (updN v (324 + c) (i + 1)) = pt at *
  -- as many have places
  have sub : ∀ k, k < v 1 → pt k ≠ none → daP vq k ≠ none := fun k hk hp z => by
    cases hpt : pt k with
    | none => exact hp hpt
    | some s =>
      obtain ⟨_, _, j, e1, e2⟩ := Bqt.1 k s hpt
      obtain ⟨j', _, e4⟩ := da_best Iq Bqt (c := k) (i := j) (by omega) e1 (by rw [hpt, e2])
      rw [e4] at z; cases z
  have hqc : daP vq c ≠ none := fun z => by
    obtain ⟨j', _, e4⟩ := da_best Iq Bq' (c := c) (i := 0) (by omega) (by omega) (by rw [wq]; exact hD)
    rw [e4] at z; cases z
  have le : ∀ s, s < v 0 → hldN vq (daP vq) s ≤ hldN vq pt s := fun s hs => by
    by_cases full : v (20 + s) ≤ hldN vq pt s
    · have := Bo.2.1 s (by omega)
      rw [Sq (20 + s) (by omega)] at this
      omega
    · refine cnt_sub (fun k hk hp => ?_)
      rw [q1v] at hk
      obtain ⟨_, hgk, j, e1, e2⟩ := Bo.1 k s hp
      by_cases hpt : pt k = some s
      · exact hpt
      · exfalso
        have := (Bqt.2.2 k j (by omega) hgk e1 (fun j2 hj2 z => by
          obtain ⟨j3, f1, f2⟩ := da_best Iq Bqt (c := k) (i := j2) (by omega) (by omega) z
          rw [hp, ← e2] at f2
          have := Iq.inj k (by omega) j j3 e1 (by omega) (Option.some.inj f2)
          have e5 : j2 = j := by omega
          rw [e5, e2] at z
          exact hpt z)).1
        rw [e2, Sq (20 + s) (by omega)] at this
        omega
  have n1 := sm_hld (p := daP vq) (N := v 0) (fun k s hp => by
    obtain ⟨q1, _, j, e1, e2⟩ := Bo.1 k s hp
    rw [← e2, ← q0v]; exact Iq.wis k q1 j e1) (v 1)
  have n2 := sm_hld (p := pt) (N := v 0) (fun k s hp => by
    obtain ⟨q1, _, j, e1, e2⟩ := Bqt.1 k s hp
    rw [← e2, ← q0v]; exact Iq.wis k q1 j e1) (v 1)
  have n3 : fb_sm (fun s => cnt (fun k => daP vq k = some s) (v 1)) (v 0) ≤ fb_sm (fun s => cnt (fun k => pt k = some s) (v 1)) (v 0) := fb_sm_le (fun s hs => by
    have := le s hs
    unfold hldN at this
    rw [q1v] at this
    exact this)
  have n4 : cnt (fun k => pt k ≠ none) (v 1) < cnt (fun k => daP vq k ≠ none) (v 1) := cnt_lt sub ⟨c, hc, hqc, fun z => z hct⟩
  omega
end DF
