/-! deferred acceptance: stable, best for every child, and no child gains by another order -/
theorem cnt_full {P Q : Nat → Prop} [DecidablePred P] [DecidablePred Q] {n : Nat} (h : ∀ k, k < n → P k → Q k) (hc : cnt Q n ≤ cnt P n) : ∀ k, k < n → Q k → P k := by
  intro k hk hq
  by_cases hp : P k
  · exact hp
  · have := cnt_lt h ⟨k, hk, hq, hp⟩; omega
theorem cnt_out {P Q : Nat → Prop} [DecidablePred P] [DecidablePred Q] {n l : Nat} (hl : l < n) (hQ : Q l) (hP : ¬ P l) (hc : cnt Q n ≤ cnt P n) : ∃ d, d < n ∧ P d ∧ ¬ Q d := by
  by_cases h : ∃ d, d < n ∧ P d ∧ ¬ Q d
  · exact h
  · have h2 : ∀ k, k < n → P k → Q k := fun k hk hp => by
      by_cases hq : Q k
      · exact hq
      · exact absurd ⟨k, hk, hp, hq⟩ h
    have := cnt_lt h2 ⟨l, hl, hQ, hP⟩
    omega
/-- the wish of a child at a place -/
def wsh (v : Nat → Nat) (c i : Nat) : Nat := v (564 + 4 * c + i)
/-- what keeping does to places: y before, z after, the first k schools -/
def KP (v : Nat → Nat) (y z : Nat → Option Nat) (k : Nat) : Prop :=
  (∀ c, z c = y c ∨ (z c = none ∧ ∃ s, y c = some s ∧ s < k)) ∧
  (∀ c s, y c = some s → z c = none → ∀ l, z l = some s → stS v s l < stS v s c) ∧
  (∀ s, s < k → hldN v z s = if hldN v y s ≤ v (20 + s) then hldN v y s else v (20 + s)) ∧
  (∀ s, k ≤ s → hldN v z s = hldN v y s)
section DA
variable {v : Nat → Nat} {p0 : Nat → Option Nat}
theorem krn_K (hI0 : Inv v p0) {s : Nat} (hs : s < 8) : ∀ n {z : (Nat → Nat) × (Nat → Option Nat)}, Inv z.1 z.2 → sameQ v z.1 → (∀ c, (krn s n z).2 c = z.2 c ∨ ((krn s n z).2 c = none ∧ z.2 c = some s)) ∧ (∀ c, z.2 c = some s → (krn s n z).2 c = none → ∀ l, (krn s n z).2 l = some s → stS v s l < stS v s c) := by
  intro n
  induction n with
  | zero => intro z h q; exact ⟨fun c => Or.inl rfl, fun c h1 h2 => by rw [show (krn s 0 z).2 c = z.2 c from rfl, h1] at h2; cases h2⟩
  | succ n ih =>
    intro z h q
    have I1 := krm_Inv (s := s) h
    have Q1 := q.t (krm_Q (s := s) h).1
    obtain ⟨i1, i2⟩ := ih I1 Q1
    have h1 := h.h1
    have v1 : z.1 1 = v 1 := q 1 (by omega)
    cases hl : lstO z.1 z.2 s with
    | none =>
      have e : krm s z = z := by unfold krm; rw [hl]
      rw [e] at i1 i2
      show (∀ c, (krn s n (krm s z)).2 c = z.2 c ∨ _) ∧ _
      have e2 : krn s (n + 1) z = krn s n z := by show krn s n (krm s z) = _; rw [e]
      rw [e2]
      exact ⟨by rw [e]; exact i1, i2⟩
    | some l0 =>
      have e : krm s z = (updN z.1 (524 + l0) 0, updO z.2 l0 none) := by unfold krm; rw [hl]
      have e2 : krn s (n + 1) z = krn s n (krm s z) := rfl
      have hz := lst_some hl
      have hmax := mxO_max hl
      have k1 : ∀ c, (krm s z).2 c = if c = l0 then none else z.2 c := fun c => by rw [e]; rfl
      rw [e2]
      constructor
      · intro c
        rcases i1 c with c1 | ⟨c1, c2⟩
        · rw [c1, k1]
          by_cases hc : c = l0
          · rw [if_pos hc]; right; exact ⟨rfl, by rw [hc]; exact hz.2⟩
          · rw [if_neg hc]; left; rfl
        · right
          refine ⟨c1, ?_⟩
          rw [k1] at c2
          by_cases hc : c = l0
          · rw [if_pos hc] at c2; cases c2
          · rw [if_neg hc] at c2; exact c2
      · intro c hc1 hc2 l hl2
        by_cases hc : c = l0
        · have hzl : (krm s z).2 l = some s := by
            rcases i1 l with d | ⟨d, _⟩
            · rw [← d]; exact hl2
            · rw [d] at hl2; cases hl2
          rw [k1] at hzl
          by_cases hll : l = l0
          · rw [if_pos hll] at hzl; cases hzl
          · rw [if_neg hll] at hzl
            have hlt := (h.plc l s hzl).1
            have m := hmax l hlt hzl
            rw [q_st q hI0 (by omega) hs, q_st q hI0 (by omega) hs] at m
            subst hc
            rcases Nat.lt_or_ge (stS v s l) (stS v s c) with m2 | m2
            · exact m2
            · exact absurd (stS_inj (v := v) (s := s) (n := 40) (by omega) l c (by omega) (by omega) (by omega)) hll
        · refine i2 c ?_ hc2 l hl2
          rw [k1, if_neg hc]; exact hc1
theorem kpA_K (hI0 : Inv v p0) : ∀ k {y : (Nat → Nat) × (Nat → Option Nat)}, Inv y.1 y.2 → sameQ v y.1 → k ≤ 8 → KP v y.2 (kpA k y).2 k := by
  intro k
  induction k with
  | zero => intro y h q _; exact ⟨fun c => Or.inl rfl, fun c s h1 h2 => (by rw [show (kpA 0 y).2 c = y.2 c from rfl, h1] at h2; cases h2), fun s hs => (by omega), fun s hs => rfl⟩
  | succ k ih =>
    intro y h q hk
    obtain ⟨a1, a2, a3, a4⟩ := ih h q (by omega)
    have IK := kpA_Inv k h
    have QK : sameQ v (kpA k y).1 := q.t (kpA_Q k h).1
    have h1 := IK.h1
    obtain ⟨b1, b2⟩ := krn_K hI0 (s := k) (by omega) (hldN (kpA k y).1 (kpA k y).2 k - (kpA k y).1 (20 + k)) IK QK
    have hh := krn_hld (s := k) (hldN (kpA k y).1 (kpA k y).2 k - (kpA k y).1 (20 + k)) IK (by omega)
    have IZ := krn_Inv (s := k) (hldN (kpA k y).1 (kpA k y).2 k - (kpA k y).1 (20 + k)) IK
    have QZ := (krn_Q (s := k) (hldN (kpA k y).1 (kpA k y).2 k - (kpA k y).1 (20 + k)) IK).1
    have e20 : (kpA k y).1 (20 + k) = v (20 + k) := QK _ (by omega)
    have hq : ∀ s, hldN (kpA k y).1 (kpA k y).2 s = hldN v (kpA k y).2 s := fun s => q_hld QK
    have hq2 : ∀ s, hldN (kpS k (kpA k y)).1 (kpS k (kpA k y)).2 s = hldN v (kpS k (kpA k y)).2 s := fun s => q_hld (QK.t QZ)
    refine ⟨fun c => ?_, fun c s hy hz l hl => ?_, fun s hs => ?_, fun s hs => ?_⟩
    · show (kpS k (kpA k y)).2 c = y.2 c ∨ ((kpS k (kpA k y)).2 c = none ∧ _)
      rcases b1 c with c1 | ⟨c1, c2⟩
      · rcases a1 c with d1 | ⟨d1, s, d2, d3⟩
        · left; exact c1.trans d1
        · right; exact ⟨c1.trans d1, s, d2, by omega⟩
      · right
        refine ⟨c1, k, ?_, by omega⟩
        rcases a1 c with d1 | ⟨d1, _⟩
        · rw [← d1]; exact c2
        · rw [d1] at c2; cases c2
    · have hz : (kpS k (kpA k y)).2 c = none := hz
      have hl : (kpS k (kpA k y)).2 l = some s := hl
      have hl1 : (kpA k y).2 l = some s := by
        rcases b1 l with d | ⟨d, _⟩
        · exact d.symm.trans hl
        · have := d.symm.trans hl; cases this
      rcases a1 c with d1 | ⟨d1, q1, q2, q3⟩
      · have hc2 : (kpA k y).2 c = some s := d1.trans hy
        rcases b1 c with c1 | ⟨c1, c2⟩
        · have := (c1.symm.trans hz); rw [hc2] at this; cases this
        · have : s = k := by rw [hc2] at c2; cases c2; rfl
          subst this
          exact b2 c c2 c1 l hl
      · exact a2 c s hy d1 l hl1
    · show hldN v (kpS k (kpA k y)).2 s = _
      by_cases e : s = k
      · subst e
        rw [← hq2]
        have hh2 : hldN (kpS s (kpA s y)).1 (kpS s (kpA s y)).2 s + (hldN (kpA s y).1 (kpA s y).2 s - (kpA s y).1 (20 + s)) = hldN (kpA s y).1 (kpA s y).2 s := hh
        rw [hq, e20, a4 s (Nat.le_refl _)] at hh2
        split <;> omega
      · rw [← a3 s (by omega), ← hq2, ← hq]
        exact krn_oth e _ IK
    · show hldN v (kpS k (kpA k y)).2 s = _
      rw [← a4 s (by omega), ← hq2, ← hq]
      exact krn_oth (by omega) _ IK
/-- what holds between rounds -/
def JD (v : Nat → Nat) (p : Nat → Option Nat) (nx : Nat → Nat) : Prop :=
  (∀ c s, p c = some s → 0 < nx c ∧ wsh v c (nx c - 1) = s) ∧
  (∀ c, c < v 1 → nx c ≤ v (324 + c)) ∧
  (∀ c, c < v 1 → v (404 + c) ≠ 0 → nx c = 0) ∧
  (∀ c i, c < v 1 → i < nx c → p c ≠ some (wsh v c i) → v (20 + wsh v c i) ≤ hldN v p (wsh v c i) ∧ ∀ l, p l = some (wsh v c i) → stS v (wsh v c i) l < stS v (wsh v c i) c) ∧
  (∀ s, s < v 0 → hldN v p s ≤ v (20 + s))
/-- no pair would rather have each other -/
def STB (v : Nat → Nat) (p : Nat → Option Nat) : Prop :=
  (∀ c s, p c = some s → c < v 1 ∧ v (404 + c) = 0 ∧ ∃ i, i < v (324 + c) ∧ wsh v c i = s) ∧
  (∀ s, s < v 0 → hldN v p s ≤ v (20 + s)) ∧
  (∀ c i, c < v 1 → v (404 + c) = 0 → i < v (324 + c) → (∀ j, j ≤ i → p c ≠ some (wsh v c j)) → v (20 + wsh v c i) ≤ hldN v p (wsh v c i) ∧ ∀ l, p l = some (wsh v c i) → stS v (wsh v c i) l < stS v (wsh v c i) c)
def JO (v : Nat → Nat) (p : Nat → Option Nat) (nx : Nat → Nat) (mu : Nat → Option Nat) : Prop := ∀ c i, c < v 1 → i < nx c → p c ≠ some (wsh v c i) → mu c ≠ some (wsh v c i)
theorem try_sp {p : Nat → Option Nat} {nx : Nat → Nat} {c : Nat} (h : tryB v p nx c = true) : v (404 + c) = 0 ∧ p c = none ∧ nx c < v (324 + c) := by
  unfold tryB at h
  simp only [Bool.and_eq_true, decide_eq_true_eq] at h
  exact ⟨h.1.1, h.1.2, h.2⟩
theorem JD_round (hI : Inv v p0) {p z : Nat → Option Nat} {nx : Nat → Nat} (hpv : ∀ c s, p c = some s → c < v 1) (hJ : JD v p nx) (hK : KP v (tryP v p nx (v 1)) z (v 0)) : JD v z (tryX v p nx (v 1)) := by
  obtain ⟨j1, j2, j3, j4, j5⟩ := hJ
  obtain ⟨k1, k2, k3, k4⟩ := hK
  have h1 := hI.h1
  have zy : ∀ c s, z c = some s → tryP v p nx (v 1) c = some s := fun c s hz => by
    rcases k1 c with d | ⟨d, _⟩
    · rw [← d]; exact hz
    · rw [d] at hz; cases hz
  have yx : ∀ c s, p c = some s → tryP v p nx (v 1) c = some s := fun c s hp => by
    unfold tryP
    rw [if_neg (fun z => by rw [(try_sp z.2).2.1] at hp; cases hp)]
    exact hp
  have hyv : ∀ c s, tryP v p nx (v 1) c = some s → c < v 1 := fun c s hy => by
    unfold tryP at hy
    by_cases t : c < v 1 ∧ tryB v p nx c = true
    · exact t.1
    · rw [if_neg t] at hy; exact hpv c s hy
  have ww : ∀ c i, c < v 1 → i < v (324 + c) → wsh v c i < v 0 := fun c i hc hi => hI.wis c hc i hi
  refine ⟨fun c s hz => ?_, fun c hc => ?_, fun c hc hg => ?_, fun c i hc hi hn => ?_, fun s hs => ?_⟩
  · have hy := zy c s hz
    unfold tryP at hy
    unfold tryX
    by_cases t : c < v 1 ∧ tryB v p nx c = true
    · rw [if_pos t] at hy ⊢
      cases hy
      exact ⟨by omega, by rw [Nat.add_sub_cancel]; rfl⟩
    · rw [if_neg t] at hy ⊢
      exact j1 c s hy
  · unfold tryX
    by_cases t : c < v 1 ∧ tryB v p nx c = true
    · rw [if_pos t]; have := (try_sp t.2).2.2; omega
    · rw [if_neg t]; exact j2 c hc
  · unfold tryX
    rw [if_neg (fun t => hg (try_sp t.2).1)]
    exact j3 c hc hg
  · have hs8 : wsh v c i < v 0 := by
      refine ww c i hc ?_
      unfold tryX at hi
      by_cases t : c < v 1 ∧ tryB v p nx c = true
      · rw [if_pos t] at hi; have := (try_sp t.2).2.2; omega
      · rw [if_neg t] at hi; have := j2 c hc; omega
    generalize hS : wsh v c i = s at *
    by_cases hy : tryP v p nx (v 1) c = some s
    · have hz : z c = none := by
        rcases k1 c with d | ⟨d, _⟩
        · exact absurd (d.trans hy) hn
        · exact d
      refine ⟨?_, k2 c s hy hz⟩
      rw [k3 s hs8]
      split
      · rename_i hle
        -- none would go
        have : cnt (fun k => tryP v p nx (v 1) k = some s) (v 1) ≤ cnt (fun k => z k = some s) (v 1) := by
          have e := k3 s hs8
          rw [if_pos hle] at e
          unfold hldN at e
          omega
        have := cnt_full (P := fun k => z k = some s) (Q := fun k => tryP v p nx (v 1) k = some s) (fun k _ hk => zy k s hk) this c hc hy
        exact absurd this hn
      · exact Nat.le_refl _
    · have hpn : p c ≠ some s := fun z => hy (yx c s z)
      have hin : i < nx c := by
        unfold tryX at hi
        by_cases t : c < v 1 ∧ tryB v p nx c = true
        · rw [if_pos t] at hi
          by_cases e : i = nx c
          · exfalso
            apply hy
            unfold tryP
            rw [if_pos t]
            show some (wsh v c (nx c)) = some s
            rw [← e, hS]
          · omega
        · rw [if_neg t] at hi; exact hi
      obtain ⟨o1, o2⟩ := j4 c i hc hin (by rw [hS]; exact hpn)
      rw [hS] at o1 o2
      have xy : hldN v p s ≤ hldN v (tryP v p nx (v 1)) s := cnt_sub (fun k _ hk => yx k s hk)
      have zc : hldN v z s ≤ v (20 + s) ∧ v (20 + s) ≤ hldN v z s := by
        rw [k3 s hs8]; split <;> omega
      refine ⟨zc.2, fun l hl => ?_⟩
      by_cases hpl : p l = some s
      · exact o2 l hpl
      · obtain ⟨d, d1, d2, d3⟩ := cnt_out (P := fun k => p k = some s) (Q := fun k => z k = some s) (n := v 1) (l := l) (hyv l s (zy l s hl)) hl hpl (by show hldN v z s ≤ hldN v p s; omega)
        have hzd : z d = none := by
          rcases k1 d with e | ⟨e, _⟩
          · exact absurd (e.trans (yx d s d2)) d3
          · exact e
        have := k2 d s (yx d s d2) hzd l hl
        have := o2 d d2
        omega
  · rw [k3 s hs]; split <;> omega
theorem JO_round (hI : Inv v p0) {p z mu : Nat → Option Nat} {nx : Nat → Nat} (hpv : ∀ c s, p c = some s → c < v 1) (hJ : JD v p nx) (hO : JO v p nx mu) (hS : STB v mu) (hK : KP v (tryP v p nx (v 1)) z (v 0)) : JO v z (tryX v p nx (v 1)) mu := by
  have hJ2 := JD_round hI hpv hJ hK
  obtain ⟨j1, j2, j3, j4, j5⟩ := hJ
  obtain ⟨r1, r2, r3, r4, r5⟩ := hJ2
  obtain ⟨k1, k2, k3, k4⟩ := hK
  obtain ⟨s1', s2', s3'⟩ := hS
  have h1 := hI.h1
  have yx : ∀ c s, p c = some s → tryP v p nx (v 1) c = some s := fun c s hp => by
    unfold tryP
    rw [if_neg (fun z => by rw [(try_sp z.2).2.1] at hp; cases hp)]
    exact hp
  have hyv : ∀ c s, tryP v p nx (v 1) c = some s → c < v 1 := fun c s hy => by
    unfold tryP at hy
    by_cases t : c < v 1 ∧ tryB v p nx c = true
    · exact t.1
    · rw [if_neg t] at hy; exact hpv c s hy
  have zy : ∀ c s, z c = some s → tryP v p nx (v 1) c = some s := fun c s hz => by
    rcases k1 c with d | ⟨d, _⟩
    · rw [← d]; exact hz
    · rw [d] at hz; cases hz
  intro c i hc hi hn hmu
  by_cases hy : tryP v p nx (v 1) c = some (wsh v c i)
  · obtain ⟨o1, o2⟩ := r4 c i hc hi hn
    have hs8 : wsh v c i < v 0 := hI.wis c hc i (by have := r2 c hc; omega)
    have m2 := s2' (wsh v c i) hs8
    obtain ⟨l, l1, l2, l3⟩ := cnt_out (P := fun k => z k = some (wsh v c i)) (Q := fun k => mu k = some (wsh v c i)) (n := v 1) (l := c) hc hmu hn (by show hldN v mu (wsh v c i) ≤ hldN v z (wsh v c i); omega)
    obtain ⟨e1, e2⟩ := r1 l _ l2
    have hgl : v (404 + l) = 0 := by
      by_cases g0 : v (404 + l) = 0
      · exact g0
      · have := r3 l l1 g0; omega
    have hlt : tryX v p nx (v 1) l - 1 < v (324 + l) := by have := r2 l l1; omega
    have := s3' l (tryX v p nx (v 1) l - 1) l1 hgl hlt (fun j hj => by
      by_cases ej : j = tryX v p nx (v 1) l - 1
      · rw [ej, e2]; exact l3
      · have hlp : tryP v p nx (v 1) l = some (wsh v c i) := zy l _ l2
        have hpj : j < nx l ∧ p l ≠ some (wsh v l j) := by
          unfold tryP at hlp
          unfold tryX at hj ej e2 hlt
          by_cases t : l < v 1 ∧ tryB v p nx l = true
          · rw [if_pos t] at hj ej
            refine ⟨by omega, ?_⟩
            rw [(try_sp t.2).2.1]; intro z; cases z
          · rw [if_neg t] at hj ej hlp e2 hlt
            refine ⟨by omega, ?_⟩
            rw [hlp, ← e2]
            intro z
            have := hI.inj l l1 (nx l - 1) j hlt (by omega) (Option.some.inj z)
            omega
        exact hO l j l1 hpj.1 hpj.2)
    rw [e2] at this
    have a1 := this.2 c hmu
    have a2 := o2 l l2
    omega
  · have hpn : p c ≠ some (wsh v c i) := fun z => hy (yx c _ z)
    have hin : i < nx c := by
      unfold tryX at hi
      by_cases t : c < v 1 ∧ tryB v p nx c = true
      · rw [if_pos t] at hi
        by_cases e : i = nx c
        · exfalso
          apply hy
          unfold tryP
          rw [if_pos t, e]
          rfl
        · omega
      · rw [if_neg t] at hi; exact hi
    exact hO c i hc hin hpn hmu
theorem tryB_Q {v' : Nat → Nat} (hQ : sameQ v v') {p : Nat → Option Nat} {nx : Nat → Nat} {c : Nat} (hc : c < 40) : tryB v' p nx c = tryB v p nx c := by
  unfold tryB
  rw [hQ (404 + c) (by omega), hQ (324 + c) (by omega)]
theorem tryP_Q {v' : Nat → Nat} (hQ : sameQ v v') (h1 : v 1 ≤ 40) (hI : Inv v p0) {p : Nat → Option Nat} {nx : Nat → Nat} : tryP v' p nx (v 1) = tryP v p nx (v 1) := by
  funext c
  unfold tryP
  by_cases hc : c < v 1
  · rw [tryB_Q hQ (by omega)]
    by_cases t : c < v 1 ∧ tryB v p nx c = true
    · have := (try_sp t.2).2.2
      have := (hI.chi c (by omega)).2.2.2.2.2.1
      rw [if_pos t, if_pos t, hQ (564 + 4 * c + nx c) (by omega)]
    · rw [if_neg t, if_neg t]
  · rw [if_neg (fun z => hc z.1), if_neg (fun z => hc z.1)]
theorem tryX_Q {v' : Nat → Nat} (hQ : sameQ v v') (h1 : v 1 ≤ 40) {p : Nat → Option Nat} {nx : Nat → Nat} : tryX v' p nx (v 1) = tryX v p nx (v 1) := by
  funext c
  unfold tryX
  by_cases hc : c < v 1
  · rw [tryB_Q hQ (by omega)]
  · rw [if_neg (fun z => hc z.1), if_neg (fun z => hc z.1)]
theorem alo_J (hI0 : Inv v p0) : ∀ n st {x : (Nat → Nat) × (Nat → Option Nat)} {nx : Nat → Nat}, Inv x.1 x.2 → sameQ v x.1 → st + n ≤ 161 → muS v nx ≤ n → JD v x.2 nx → Inv (alo n st x nx).1.1 (alo n st x nx).1.2 ∧ sameQ v (alo n st x nx).1.1 ∧ (alo n st x nx).1.1 8 = x.1 8 ∧ JD v (alo n st x nx).1.2 (alo n st x nx).2 ∧ (∀ mu, STB v mu → JO v x.2 nx mu → JO v (alo n st x nx).1.2 (alo n st x nx).2 mu) ∧ ∀ c, c < v 1 → ¬ tryB v (alo n st x nx).1.2 (alo n st x nx).2 c = true := by
  have h0 := hI0.h0
  have h1 := hI0.h1
  have stop : ∀ n st {x : (Nat → Nat) × (Nat → Option Nat)} {nx : Nat → Nat}, Inv x.1 x.2 → sameQ v x.1 → JD v x.2 nx → ¬ 0 < cnt (fun c => tryB x.1 x.2 nx c = true) (x.1 1) → Inv (alo n st x nx).1.1 (alo n st x nx).1.2 ∧ sameQ v (alo n st x nx).1.1 ∧ (alo n st x nx).1.1 8 = x.1 8 ∧ JD v (alo n st x nx).1.2 (alo n st x nx).2 ∧ (∀ mu, STB v mu → JO v x.2 nx mu → JO v (alo n st x nx).1.2 (alo n st x nx).2 mu) ∧ ∀ c, c < v 1 → ¬ tryB v (alo n st x nx).1.2 (alo n st x nx).2 c = true := by
    intro n st x nx hI hQ hJ hn
    rw [alo_no hn]
    refine ⟨hI, hQ, rfl, hJ, fun mu _ h => h, fun c hc t => ?_⟩
    have := cnt_zero.mp (show cnt (fun c => tryB x.1 x.2 nx c = true) (x.1 1) = 0 by omega) c (by rw [hQ 1 (by omega)]; exact hc)
    exact this (by rw [tryB_Q hQ (by omega)]; exact t)
  intro n
  induction n with
  | zero =>
    intro st x nx hI hQ hst hm hJ
    refine stop 0 st hI hQ hJ (fun z => ?_)
    have v1 : x.1 1 = v 1 := hQ 1 (by omega)
    have := mu_dec (sameQ.r x.1) (by omega) z
    have e : muS x.1 nx = muS v nx := by unfold muS; rw [v1]; exact fb_sm_cong (fun k hk => by rw [hQ (324 + k) (by omega)])
    omega
  | succ n ih =>
    intro st x nx hI hQ hst hm hJ
    by_cases hc : 0 < cnt (fun c => tryB x.1 x.2 nx c = true) (x.1 1)
    · have v1 : x.1 1 = v 1 := hQ 1 (by omega)
      have v0 : x.1 0 = v 0 := hQ 0 (by omega)
      obtain ⟨I3, Q3, e9, e8, cap3⟩ := rnd_ok (st := st) (nx := nx) hI (by omega)
      have QV : sameQ v _ := hQ.t Q3
      have IT := try_Inv (nx := nx) (st := st) hI (by omega) (x.1 1) (Nat.le_refl _)
      have QT : sameQ x.1 (tryV x.1 x.2 nx st (x.1 1)) := (tryV_Q (k := x.1 1)).resolve_right (by omega)
      have I2 : Inv (updN (tryV x.1 x.2 nx st (x.1 1)) 9 st) (tryP x.1 x.2 nx (x.1 1)) := IT.w (by unfold okW; omega)
      have Q2 : sameQ v (updN (tryV x.1 x.2 nx st (x.1 1)) 9 st) := hQ.t (QT.t (sameQ.w (by omega)))
      have K := kpA_K hI0 (x.1 0) (y := (updN (tryV x.1 x.2 nx st (x.1 1)) 9 st, tryP x.1 x.2 nx (x.1 1))) I2 Q2 (by omega)
      have eP : tryP x.1 x.2 nx (x.1 1) = tryP v x.2 nx (v 1) := by rw [v1]; exact tryP_Q hQ h1 hI0
      have eX : tryX x.1 x.2 nx (x.1 1) = tryX v x.2 nx (v 1) := by rw [v1]; exact tryX_Q hQ h1
      have hpv : ∀ c s, x.2 c = some s → c < v 1 := fun c s h => by rw [← v1]; exact (hI.plc c s h).1
      have K2 : KP v (tryP v x.2 nx (v 1)) (kpA (x.1 0) (updN (tryV x.1 x.2 nx st (x.1 1)) 9 st, tryP x.1 x.2 nx (x.1 1))).2 (v 0) := by
        rw [← eP, ← v0]; exact K
      have J2 := JD_round hI0 hpv hJ K2
      rw [← eX] at J2
      have md := mu_dec Q3 (by omega) hc
      have em : muS x.1 nx = muS v nx := by unfold muS; rw [v1]; exact fb_sm_cong (fun k hk => by rw [hQ (324 + k) (by omega)])
      have em2 : muS (kpA (x.1 0) (updN (tryV x.1 x.2 nx st (x.1 1)) 9 st, tryP x.1 x.2 nx (x.1 1))).1 (tryX x.1 x.2 nx (x.1 1)) = muS v (tryX x.1 x.2 nx (x.1 1)) := by
        unfold muS
        rw [QV 1 (by omega)]
        exact fb_sm_cong (fun k hk => by rw [QV (324 + k) (by omega)])
      rw [alo_go hc]
      obtain ⟨i1, i2, i3, i4, i5, i6⟩ := ih (st + 1) I3 QV (by omega) (by omega) J2
      refine ⟨i1, i2, i3.trans e8, i4, fun mu hS hO => i5 mu hS ?_, i6⟩
      have := JO_round hI0 hpv hJ hO hS K2
      rw [← eX] at this
      exact this
    · exact stop (n + 1) st hI hQ hJ hc
end DA
