/-! the setup text: what stays so; the reference reads the whole text -/
section SIV
def SI (f : Nat → Nat) (n : Nat) (v nm : Nat → Nat) (o q : Nat) : Prop := (Inv v (fun _ => none)) ∧ (∀ i, 764 ≤ i → v i = 0) ∧ (NMS nm (v 0)) ∧ (o < 8) ∧ (q ≤ n) ∧ (∀ s, v 0 ≤ s → s < 8 → v (44 + s) = 0 ∧ v (52 + s) = 0 ∧ v (60 + s) = 0) ∧ (∀ c, v 1 ≤ c → c < 40 → v (204 + c) = 0 ∧ v (244 + c) = 0 ∧ v (324 + c) = 0 ∧ v (364 + c) = 0 ∧ v (404 + c) = 0 ∧ v (444 + c) = 0 ∧ v (524 + c) = 0) ∧ (v 8 = 0) ∧ (∀ k, k < v 2 → v (724 + 2 * k + 1) < v 0)
variable {f : Nat → Nat} {n : Nat} {v nm : Nat → Nat} {o q : Nat}
theorem SI.inv (h : SI f n v nm o q) : Inv v (fun _ => none) := h.1
theorem SI.big (h : SI f n v nm o q) : ∀ i, 764 ≤ i → v i = 0 := h.2.1
theorem SI.nms (h : SI f n v nm o q) : NMS nm (v 0) := h.2.2.1
theorem SI.o8 (h : SI f n v nm o q) : o < 8 := h.2.2.2.1
theorem SI.qn (h : SI f n v nm o q) : q ≤ n := h.2.2.2.2.1
theorem SI.zs (h : SI f n v nm o q) : ∀ s, v 0 ≤ s → s < 8 → v (44 + s) = 0 ∧ v (52 + s) = 0 ∧ v (60 + s) = 0 := h.2.2.2.2.2.1
theorem SI.zc (h : SI f n v nm o q) : ∀ c, v 1 ≤ c → c < 40 → v (204 + c) = 0 ∧ v (244 + c) = 0 ∧ v (324 + c) = 0 ∧ v (364 + c) = 0 ∧ v (404 + c) = 0 ∧ v (444 + c) = 0 ∧ v (524 + c) = 0 := h.2.2.2.2.2.2.1
theorem SI.z8 (h : SI f n v nm o q) : v 8 = 0 := h.2.2.2.2.2.2.2.1
theorem SI.pu (h : SI f n v nm o q) : ∀ k, k < v 2 → v (724 + 2 * k + 1) < v 0 := h.2.2.2.2.2.2.2.2
theorem num_inv {lo hi : Nat} {k : Nat → Nat → QS} {y} (h : numS f n lo hi q k = .inr y) (hq : q ≤ n) : ∃ x q', lo ≤ x ∧ x ≤ hi ∧ q ≤ q' ∧ q' ≤ n ∧ k x q' = .inr y := by
  unfold numS at h
  by_cases c : nuB f n q = true
  · rw [if_pos c] at h
    by_cases c2 : raB f n q lo hi = true
    · rw [if_pos c2] at h
      have c3 := of_decide_eq_true c2
      have hx := nxt_b (f := f) hq
      exact ⟨_, _, c3.1, c3.2, hx.1, hx.2.1, h⟩
    · rw [if_neg c2] at h; cases h
  · rw [if_neg c] at h; cases h
theorem sch_inv {k0 : Nat} {k : Nat → Nat → QS} {y} (h : schS nm k0 f n q k = .inr y) (hq : q ≤ n) : ∃ s q', s < k0 ∧ q ≤ q' ∧ q' ≤ n ∧ k s q' = .inr y := by
  unfold schS at h
  by_cases c : nmB f n q = true
  · rw [if_pos c] at h
    cases hf : fdN nm k0 f n q with
    | none => rw [hf] at h; cases h
    | some s =>
      rw [hf] at h
      have hx := nxt_b (f := f) hq
      have := (fnd_some hf).2.1
      exact ⟨s, _, by omega, hx.1, hx.2.1, h⟩
  · rw [if_neg c] at h; cases h
theorem Inv.tw (hI : Inv v (fun _ => none)) {v' : Nat → Nat} (h0 : v 0 ≤ v' 0 ∧ v' 0 ≤ 8) (h1 : v' 1 = v 1) (h2 : v' 2 ≤ 20) (h6 : v' 6 ≤ 9) (h7 : v' 7 ≤ 1) (h8 : v' 8 = v 8) (h9 : v' 9 = v 9) (hS : ∀ s, s < 8 → v' (20 + s) ≤ 40 ∧ v' (28 + s) ≤ 99 ∧ v' (36 + s) ≤ 99 ∧ v' (44 + s) ≤ 3 ∧ v' (52 + s) ≤ 1) (hU : ∀ s, s < 8 → ∀ k, k < 3 → v' (68 + 3 * s + k) ≤ 2) (he : ∀ i, 124 ≤ i → i < 724 → v' i = v i) (hB : ∀ i, i ≠ 10 → v' i < 2147483648) : Inv v' (fun _ => none) := by
  obtain ⟨⟨a0, a1, a2, a6, a7, a8, a9⟩, bS, bU, bC, bW, bJ, bP, bB⟩ := hI
  refine ⟨⟨h0.2, by omega, h2, h6, h7, by omega, by omega⟩, hS, hU, fun c hc => ?_, fun c hc i hi => ?_, fun c hc i j hi hj => ?_, fun c s h => (by cases h), hB⟩
  · rw [he _ (by omega) (by omega), he _ (by omega) (by omega), he _ (by omega) (by omega), he _ (by omega) (by omega), he _ (by omega) (by omega), he _ (by omega) (by omega), he _ (by omega) (by omega), he _ (by omega) (by omega), he _ (by omega) (by omega)]
    exact bC c hc
  · rw [h1] at hc
    have := (bC c (by omega)).2.2.2.2.2.1
    rw [he (324 + c) (by omega) (by omega)] at hi
    rw [he _ (by omega) (by omega)]
    have := bW c hc i hi
    omega
  · rw [h1] at hc
    have := (bC c (by omega)).2.2.2.2.2.1
    rw [he (324 + c) (by omega) (by omega)] at hi hj
    rw [he _ (by omega) (by omega), he _ (by omega) (by omega)]
    exact bJ c hc i j hi hj
theorem rlV_P {s : Nat} (hs : s < 8) : ∀ d v k q, k + d = 3 → v (44 + s) = k → (∀ i, i < k → v (68 + 3 * s + i) < 3) → ((rlV f n s d v k q).1 (44 + s) = (rlV f n s d v k q).2.1 ∧ (rlV f n s d v k q).2.1 ≤ 3 ∧ ∀ i, i < 3 → (rlV f n s d v k q).1 (68 + 3 * s + i) < 3 ∨ (rlV f n s d v k q).1 (68 + 3 * s + i) = v (68 + 3 * s + i)) := by
  intro d
  induction d with
  | zero => intro v k q hk h44 hv; exact ⟨h44, by show k ≤ 3; omega, fun i hi => Or.inr rfl⟩
  | succ d ih =>
    intro v k q hk h44 hv
    cases hr : rlN f n q with
    | none => rw [rlV_n hr]; exact ⟨h44, by show k ≤ 3; omega, fun i hi => Or.inr rfl⟩
    | some r =>
      have hr3 := (rlN_lt hr).1
      by_cases c : fnd (fun i => v (68 + 3 * s + i) = r) 0 k = none
      · rw [rlV_y hr c]
        have ew : ∀ i, i ≠ k → i < 3 → updN (updN v (68 + 3 * s + k) r) (44 + s) (k + 1) (68 + 3 * s + i) = v (68 + 3 * s + i) := fun i hi _ => (if_neg (by omega)).trans (if_neg (by omega))
        have ew2 : updN (updN v (68 + 3 * s + k) r) (44 + s) (k + 1) (68 + 3 * s + k) = r := (if_neg (by omega)).trans (if_pos rfl)
        have := ih (updN (updN v (68 + 3 * s + k) r) (44 + s) (k + 1)) (k + 1) (nxt f n q) (by omega) (if_pos rfl) (fun i hi => by
          by_cases e : i = k
          · rw [e, ew2]; exact hr3
          · rw [ew i e (by omega)]; exact hv i (by omega))
        refine ⟨this.1, this.2.1, fun i hi => ?_⟩
        rcases this.2.2 i hi with h | h
        · exact Or.inl h
        · by_cases e : i = k
          · rw [e, ew2] at h; rw [e, h]; exact Or.inl hr3
          · rw [ew i e hi] at h; exact Or.inr h
      · rw [rlV_d hr c]; exact ⟨h44, by show k ≤ 3; omega, fun i hi => Or.inr rfl⟩
theorem sc_SI (hS : SI f n v nm o q) {y} (h : schoolS f n v nm o q = .inr y) : SI f n y.1 y.2.1 y.2.2.1 y.2.2.2 ∧ q ≤ y.2.2.2 := by
  have hI := hS.inv
  have hx := nxt_b (f := f) hS.qn
  have hxx := nxt_b (f := f) hx.2.1
  unfold schoolS at h
  by_cases c : 8 ≤ v 0
  · rw [if_pos c] at h; cases h
  · rw [if_neg c] at h
    by_cases cn : nmB f n (nxt f n q) = true
    · rw [if_pos cn] at h
      cases hf : fdN nm (v 0) f n (nxt f n q) with
      | some s => rw [hf] at h; cases h
      | none =>
        rw [hf] at h
        obtain ⟨p, q3, -, p2, p3, p4, h⟩ := num_inv h hxx.2.1
        obtain ⟨x, q4, -, x2, x3, x4, h⟩ := num_inv h p4
        obtain ⟨z, q5, -, z2, z3, z4, h⟩ := num_inv h x4
        have hs : v 0 < 8 := by omega
        have zz := hS.zs (v 0) (Nat.le_refl _) hs
        unfold schE at h
        have e : ∀ i, i ≠ 20 + v 0 → i ≠ 28 + v 0 → i ≠ 36 + v 0 → updN (updN (updN v (20 + v 0) p) (28 + v 0) x) (36 + v 0) z i = v i := fun i a b c => (if_neg c).trans ((if_neg b).trans (if_neg a))
        have e20 : updN (updN (updN v (20 + v 0) p) (28 + v 0) x) (36 + v 0) z (20 + v 0) = p := (if_neg (by omega)).trans ((if_neg (by omega)).trans (if_pos rfl))
        have e28 : updN (updN (updN v (20 + v 0) p) (28 + v 0) x) (36 + v 0) z (28 + v 0) = x := (if_neg (by omega)).trans (if_pos rfl)
        have e36 : updN (updN (updN v (20 + v 0) p) (28 + v 0) x) (36 + v 0) z (36 + v 0) = z := if_pos rfl
        generalize updN (updN (updN v (20 + v 0) p) (28 + v 0) x) (36 + v 0) z = V at h e e20 e28 e36
        have hP := rlV_P (f := f) (n := n) hs 3 V 0 q5 (by omega) ((e _ (by omega) (by omega) (by omega)).trans zz.1) (fun i hi => by omega)
        have hB := rlV_b (f := f) (n := n) (s := v 0) 3 V 0 q5 z4
        have hO := fun i hi => rlV_o (f := f) (n := n) (s := v 0) (i := i) hi 3 V 0 q5 (by omega)
        generalize rlV f n (v 0) 3 V 0 q5 = R at h hP hB hO
        by_cases cr : rlN f n R.2.2 = none
        · rw [if_pos cr] at h
          have h := Sum.inr.inj h
          subst h
          have w : ∀ i, i ≠ 0 → updN R.1 0 (v 0 + 1) i = R.1 i := fun i hi => if_neg hi
          have w0 : updN R.1 0 (v 0 + 1) 0 = v 0 + 1 := if_pos rfl
          have a : ∀ i, ¬ (i = 0 ∨ i = 20 + v 0 ∨ i = 28 + v 0 ∨ i = 36 + v 0 ∨ i = 44 + v 0 ∨ (68 + 3 * v 0 ≤ i ∧ i < 68 + 3 * v 0 + 3)) → updN R.1 0 (v 0 + 1) i = v i := fun i hn => (w i (by omega)).trans ((hO i ⟨by omega, by omega⟩).trans (e i (by omega) (by omega) (by omega)))
          have a20 : updN R.1 0 (v 0 + 1) (20 + v 0) = p := (w _ (by omega)).trans ((hO _ ⟨by omega, by omega⟩).trans e20)
          have a28 : updN R.1 0 (v 0 + 1) (28 + v 0) = x := (w _ (by omega)).trans ((hO _ ⟨by omega, by omega⟩).trans e28)
          have a36 : updN R.1 0 (v 0 + 1) (36 + v 0) = z := (w _ (by omega)).trans ((hO _ ⟨by omega, by omega⟩).trans e36)
          have a44 : updN R.1 0 (v 0 + 1) (44 + v 0) ≤ 3 := by rw [w _ (by omega), hP.1]; exact hP.2.1
          have a68 : ∀ i, i < 3 → updN R.1 0 (v 0 + 1) (68 + 3 * v 0 + i) ≤ 2 := fun i hi => by
            rw [w _ (by omega)]
            rcases hP.2.2 i hi with u | u
            · omega
            · rw [u, e _ (by omega) (by omega) (by omega)]; exact hI.2.2.1 (v 0) hs i hi
          show SI f n (updN R.1 0 (v 0 + 1)) (nmW nm f n (nxt f n q) (v 0) 6) o R.2.2 ∧ q ≤ R.2.2
          generalize updN R.1 0 (v 0 + 1) = W at w0 a a20 a28 a36 a44 a68 ⊢
          clear w hO e hP e20 e28 e36
          refine ⟨⟨?_, fun i hi => ?_, ?_, hS.o8, hB.1, fun s h1 h2 => ?_, fun c h1 h2 => ?_, ?_, fun k hk => ?_⟩, by show q ≤ R.2.2; omega⟩
          · have hB2 := hI.2.2.2.2.2.2.2
            refine hI.tw ⟨by rw [w0]; omega, by rw [w0]; omega⟩ (a 1 (by omega)) (by rw [a 2 (by omega)]; exact hI.h2) (by rw [a 6 (by omega)]; exact hI.1.2.2.2.1) (by rw [a 7 (by omega)]; exact hI.h7) (a 8 (by omega)) (a 9 (by omega)) (fun s hs2 => ?_) (fun s hs2 k hk => ?_) (fun i h1 h2 => a i (by omega)) (fun i hi => ?_)
            · by_cases e : s = v 0
              · subst e
                rw [a20, a28, a36, a (52 + v 0) (by omega), zz.2.1]
                omega
              · rw [a (20 + s) (by omega), a (28 + s) (by omega), a (36 + s) (by omega), a (44 + s) (by omega), a (52 + s) (by omega)]
                exact hI.2.1 s hs2
            · by_cases e : s = v 0
              · rw [e]; exact a68 k hk
              · rw [a (68 + 3 * s + k) (by omega)]
                exact hI.2.2.1 s hs2 k hk
            · by_cases i0 : i = 0
              · rw [i0, w0]; omega
              by_cases i1 : i = 20 + v 0
              · rw [i1, a20]; omega
              by_cases i2 : i = 28 + v 0
              · rw [i2, a28]; omega
              by_cases i3 : i = 36 + v 0
              · rw [i3, a36]; omega
              by_cases i4 : i = 44 + v 0
              · rw [i4]; omega
              by_cases i5 : 68 + 3 * v 0 ≤ i ∧ i < 68 + 3 * v 0 + 3
              · have := a68 (i - (68 + 3 * v 0)) (by omega)
                rw [show 68 + 3 * v 0 + (i - (68 + 3 * v 0)) = i by omega] at this
                omega
              rw [a i (by omega)]; exact hB2 i hi
          · rw [a i (by omega)]; exact hS.big i hi
          · show NMS (nmW nm f n (nxt f n q) (v 0) 6) (W 0)
            rw [w0]
            intro s hs2
            by_cases e : s = v 0
            · subst e
              obtain ⟨b1, b2⟩ := nm_ltr cn hx.2.1
              have en : ∀ i, i < 6 → nmW nm f n (nxt f n q) (v 0) 6 (6 * v 0 + i) = ltr f n (nxt f n q) i := fun i hi => by
                unfold nmW
                rw [if_pos (by omega), show 6 * v 0 + i - 6 * v 0 = i by omega]
              refine ⟨_, b1.1, b1.2, fun i hi => ?_, fun i h1 h2 => ?_⟩
              · rw [en i (by omega)]; unfold ltr; rw [if_pos hi]; exact b2 i hi
              · rw [en i h2]; unfold ltr; rw [if_neg (by omega)]
            · have en : ∀ i, i < 6 → nmW nm f n (nxt f n q) (v 0) 6 (6 * s + i) = nm (6 * s + i) := fun i hi => by
                unfold nmW
                rw [if_neg (by omega)]
              obtain ⟨l, l1, l2, l3, l4⟩ := hS.nms s (by omega)
              refine ⟨l, l1, l2, fun i hi => ?_, fun i h1 h2 => ?_⟩
              · rw [en i (by omega)]; exact l3 i hi
              · rw [en i h2]; exact l4 i h1 h2
          · have h1 : v 0 + 1 ≤ s := by have h1 : W 0 ≤ s := h1; rw [w0] at h1; exact h1
            show W (44 + s) = 0 ∧ W (52 + s) = 0 ∧ W (60 + s) = 0
            rw [a (44 + s) (by omega), a (52 + s) (by omega), a (60 + s) (by omega)]
            exact hS.zs s (by omega) h2
          · have h1 : v 1 ≤ c := by have h1 : W 1 ≤ c := h1; rw [a 1 (by omega)] at h1; exact h1
            have z := hS.zc c h1 h2
            have a' : ∀ i, 124 ≤ i → W i = v i := fun i hi => a i (by omega)
            show W (204 + c) = 0 ∧ W (244 + c) = 0 ∧ W (324 + c) = 0 ∧ W (364 + c) = 0 ∧ W (404 + c) = 0 ∧ W (444 + c) = 0 ∧ W (524 + c) = 0
            rw [a' _ (by omega), a' _ (by omega), a' _ (by omega), a' _ (by omega), a' _ (by omega), a' _ (by omega), a' _ (by omega)]
            exact z
          · exact (a 8 (by omega)).trans hS.z8
          · have hk : k < v 2 := by have hk : k < W 2 := hk; rw [a 2 (by omega)] at hk; exact hk
            show W (724 + 2 * k + 1) < W 0
            rw [w0, a (724 + 2 * k + 1) (by omega)]
            have := hS.pu k hk
            omega
        · rw [if_neg cr] at h; cases h
    · rw [if_neg cn] at h; cases h
/-- changes that keep schools' and children's numbers, what stands beyond them, and the pupils -/
theorem SI.ch (hS : SI f n v nm o q) {v' : Nat → Nat} {o' q' : Nat} (ho : o' < 8) (hq : q' ≤ n) (hI : Inv v' (fun _ => none)) (hb : ∀ i, 764 ≤ i → v' i = v i) (h0 : v' 0 = v 0) (h1 : v' 1 = v 1) (h8 : v' 8 = v 8) (hs : ∀ s, v 0 ≤ s → s < 8 → v' (44 + s) = v (44 + s) ∧ v' (52 + s) = v (52 + s) ∧ v' (60 + s) = v (60 + s)) (hc : ∀ i, 204 ≤ i → i < 724 → v' i = v i) (hp : ∀ k, k < v' 2 → v' (724 + 2 * k + 1) < v 0) : SI f n v' nm o' q' :=
  ⟨hI, fun i hi => (hb i hi).trans (hS.big i hi), by rw [h0]; exact hS.nms, ho, hq, fun s a b => by rw [(hs s (by omega) b).1, (hs s (by omega) b).2.1, (hs s (by omega) b).2.2]; exact hS.zs s (by omega) b, fun c a b => by rw [hc _ (by omega) (by omega), hc _ (by omega) (by omega), hc _ (by omega) (by omega), hc _ (by omega) (by omega), hc _ (by omega) (by omega), hc _ (by omega) (by omega), hc _ (by omega) (by omega)]; exact hS.zc c (by omega) b, h8.trans hS.z8, fun k hk => by rw [h0]; exact hp k hk⟩
theorem set_SI (hS : SI f n v nm o q) {i hi o' : Nat} (ho : o' < 8) (hi1 : (i = 6 ∧ hi ≤ 9) ∨ (i = 7 ∧ hi ≤ 1) ∨ (i = 11 ∧ hi < 1000)) {y} (h : setS f n i hi v nm o' q = .inr y) : SI f n y.1 y.2.1 y.2.2.1 y.2.2.2 ∧ q ≤ y.2.2.2 := by
  have hx := nxt_b (f := f) hS.qn
  unfold setS at h
  obtain ⟨x, q2, -, x2, x3, x4, h⟩ := num_inv h hx.2.1
  have h := Sum.inr.inj h
  subst h
  have hw : okW i x := by
    rcases hi1 with ⟨a, b⟩ | ⟨a, b⟩ | ⟨a, b⟩
    · exact Or.inl ⟨a, by omega⟩
    · exact Or.inr (Or.inl ⟨a, by omega⟩)
    · exact Or.inr (Or.inr (Or.inr (Or.inr (Or.inr (Or.inl ⟨a, by omega⟩)))))
  have hi3 : i ≤ 11 ∧ 6 ≤ i ∧ i ≠ 8 := by omega
  clear hi1
  have w : ∀ j, j ≠ i → updN v i x j = v j := fun j hj => if_neg hj
  show SI f n (updN v i x) nm o' q2 ∧ q ≤ q2
  refine ⟨hS.ch ho x4 (hS.inv.w hw) (fun j hj => w j (by omega)) (w 0 (by omega)) (w 1 (by omega)) (w 8 (by omega)) (fun s a b => ⟨w _ (by omega), w _ (by omega), w _ (by omega)⟩) (fun j a b => w j (by omega)) (fun k hk => ?_), by show q ≤ q2; omega⟩
  rw [w 2 (by omega)] at hk
  have := hS.inv.h2
  rw [w _ (by omega)]
  exact hS.pu k hk
theorem zo_SI (hS : SI f n v nm o q) {y} (h : zoneS f n v nm o q = .inr y) : SI f n y.1 y.2.1 y.2.2.1 y.2.2.2 ∧ q ≤ y.2.2.2 := by
  have hI := hS.inv
  have hx := nxt_b (f := f) hS.qn
  have hxx := nxt_b (f := f) hx.2.1
  unfold zoneS at h
  by_cases cn : nmB f n (nxt f n q) = true
  · rw [if_pos cn] at h
    cases hf : fdN nm (v 0) f n (nxt f n q) with
    | none => rw [hf] at h; cases h
    | some s =>
      have hs := (fnd_some hf).2.1
      have h0 := hI.h0
      rw [hf] at h
      have h : (if v (52 + s) = 1 then _ else _ : QS) = Sum.inr y := h
      by_cases c52 : v (52 + s) = 1
      · rw [if_pos c52] at h; cases h
      · rw [if_neg c52] at h
        obtain ⟨a, q3, -, a2, a3, a4, h⟩ := num_inv h hxx.2.1
        obtain ⟨b, q4, -, b2, b3, b4, h⟩ := num_inv h a4
        obtain ⟨c, q5, -, c2, c3, c4, h⟩ := num_inv h b4
        obtain ⟨d, q6, -, d2, d3, d4, h⟩ := num_inv h c4
        have h := Sum.inr.inj h
        subst h
        have w : ∀ i, i ≠ 52 + s → ¬ (92 + 4 * s ≤ i ∧ i < 92 + 4 * s + 4) → updN (updN (updN (updN (updN v (52 + s) 1) (92 + 4 * s) a) (92 + 4 * s + 1) b) (92 + 4 * s + 2) c) (92 + 4 * s + 3) d i = v i := fun i h1 h2 => (if_neg (by omega)).trans ((if_neg (by omega)).trans ((if_neg (by omega)).trans ((if_neg (by omega)).trans (if_neg h1))))
        have w52 : updN (updN (updN (updN (updN v (52 + s) 1) (92 + 4 * s) a) (92 + 4 * s + 1) b) (92 + 4 * s + 2) c) (92 + 4 * s + 3) d (52 + s) = 1 := (if_neg (by omega)).trans ((if_neg (by omega)).trans ((if_neg (by omega)).trans ((if_neg (by omega)).trans (if_pos rfl))))
        have wz : ∀ i, (92 + 4 * s ≤ i ∧ i < 92 + 4 * s + 4) → updN (updN (updN (updN (updN v (52 + s) 1) (92 + 4 * s) a) (92 + 4 * s + 1) b) (92 + 4 * s + 2) c) (92 + 4 * s + 3) d i < 1000 := fun i hi => by
          unfold updN
          by_cases e3 : i = 92 + 4 * s + 3
          · rw [if_pos e3]; omega
          rw [if_neg e3]
          by_cases e2 : i = 92 + 4 * s + 2
          · rw [if_pos e2]; omega
          rw [if_neg e2]
          by_cases e1 : i = 92 + 4 * s + 1
          · rw [if_pos e1]; omega
          rw [if_neg e1, if_pos (by omega)]; omega
        show SI f n (updN (updN (updN (updN (updN v (52 + s) 1) (92 + 4 * s) a) (92 + 4 * s + 1) b) (92 + 4 * s + 2) c) (92 + 4 * s + 3) d) nm o q6 ∧ q ≤ q6
        generalize updN (updN (updN (updN (updN v (52 + s) 1) (92 + 4 * s) a) (92 + 4 * s + 1) b) (92 + 4 * s + 2) c) (92 + 4 * s + 3) d = V at w w52 wz ⊢
        refine ⟨hS.ch hS.o8 d4 (hI.tw ⟨by rw [w 0 (by omega) (by omega)]; exact Nat.le_refl _, by rw [w 0 (by omega) (by omega)]; exact h0⟩ (w 1 (by omega) (by omega)) (by rw [w 2 (by omega) (by omega)]; exact hI.h2) (by rw [w 6 (by omega) (by omega)]; exact hI.1.2.2.2.1) (by rw [w 7 (by omega) (by omega)]; exact hI.h7) (w 8 (by omega) (by omega)) (w 9 (by omega) (by omega)) (fun s2 hs2 => ?_) (fun s2 hs2 k hk => by rw [w _ (by omega) (by omega)]; exact hI.2.2.1 s2 hs2 k hk) (fun i h1 h2 => w i (by omega) (by omega)) (fun i hi => ?_)) (fun i hi => w i (by omega) (by omega)) (w 0 (by omega) (by omega)) (w 1 (by omega) (by omega)) (w 8 (by omega) (by omega)) (fun s2 h1 h2 => ⟨w _ (by omega) (by omega), w _ (by omega) (by omega), w _ (by omega) (by omega)⟩) (fun i h1 h2 => w i (by omega) (by omega)) (fun k hk => ?_), by show q ≤ q6; omega⟩
        · rw [w (20 + s2) (by omega) (by omega), w (28 + s2) (by omega) (by omega), w (36 + s2) (by omega) (by omega), w (44 + s2) (by omega) (by omega)]
          have := hI.2.1 s2 hs2
          by_cases e : s2 = s
          · rw [e] at this ⊢; rw [w52]; omega
          · rw [w (52 + s2) (by omega) (by omega)]; exact this
        · by_cases e : i = 52 + s
          · rw [e, w52]; omega
          by_cases e2 : 92 + 4 * s ≤ i ∧ i < 92 + 4 * s + 4
          · have := wz i e2; omega
          rw [w i e e2]; exact hI.2.2.2.2.2.2.2 i hi
        · rw [w 2 (by omega) (by omega)] at hk
          have := hI.h2
          rw [w _ (by omega) (by omega)]
          exact hS.pu k hk
  · rw [if_neg cn] at h; cases h
theorem pu_SI (hS : SI f n v nm o q) {y} (h : pupilS f n v nm o q = .inr y) : SI f n y.1 y.2.1 y.2.2.1 y.2.2.2 ∧ q ≤ y.2.2.2 := by
  have hI := hS.inv
  have hx := nxt_b (f := f) hS.qn
  unfold pupilS at h
  by_cases c : 20 ≤ v 2
  · rw [if_pos c] at h; cases h
  · rw [if_neg c] at h
    obtain ⟨a, q2, -, a2, a3, a4, h⟩ := num_inv h hx.2.1
    obtain ⟨s, q3, s1, s2, s3, h⟩ := sch_inv h a4
    have h0 := hI.h0
    have h := Sum.inr.inj h
    subst h
    have w : ∀ i, i ≠ 2 → i ≠ 724 + 2 * v 2 → i ≠ 724 + 2 * v 2 + 1 → updN (updN (updN v (724 + 2 * v 2) a) (724 + 2 * v 2 + 1) s) 2 (v 2 + 1) i = v i := fun i h1 h2 h3 => (if_neg h1).trans ((if_neg h3).trans (if_neg h2))
    have w2 : updN (updN (updN v (724 + 2 * v 2) a) (724 + 2 * v 2 + 1) s) 2 (v 2 + 1) 2 = v 2 + 1 := if_pos rfl
    have wa : updN (updN (updN v (724 + 2 * v 2) a) (724 + 2 * v 2 + 1) s) 2 (v 2 + 1) (724 + 2 * v 2) = a := (if_neg (by omega)).trans ((if_neg (by omega)).trans (if_pos rfl))
    have wb : updN (updN (updN v (724 + 2 * v 2) a) (724 + 2 * v 2 + 1) s) 2 (v 2 + 1) (724 + 2 * v 2 + 1) = s := (if_neg (by omega)).trans (if_pos rfl)
    show SI f n (updN (updN (updN v (724 + 2 * v 2) a) (724 + 2 * v 2 + 1) s) 2 (v 2 + 1)) nm o q3 ∧ q ≤ q3
    generalize updN (updN (updN v (724 + 2 * v 2) a) (724 + 2 * v 2 + 1) s) 2 (v 2 + 1) = V at w w2 wa wb ⊢
    refine ⟨hS.ch hS.o8 s3 (hI.tw ⟨by rw [w 0 (by omega) (by omega) (by omega)]; exact Nat.le_refl _, by rw [w 0 (by omega) (by omega) (by omega)]; exact h0⟩ (w 1 (by omega) (by omega) (by omega)) (by rw [w2]; omega) (by rw [w 6 (by omega) (by omega) (by omega)]; exact hI.1.2.2.2.1) (by rw [w 7 (by omega) (by omega) (by omega)]; exact hI.h7) (w 8 (by omega) (by omega) (by omega)) (w 9 (by omega) (by omega) (by omega)) (fun s2 hs2 => ?_) (fun s2 hs2 k hk => by rw [w _ (by omega) (by omega) (by omega)]; exact hI.2.2.1 s2 hs2 k hk) (fun i h1 h2 => w i (by omega) (by omega) (by omega)) (fun i hi => ?_)) (fun i hi => w i (by omega) (by omega) (by omega)) (w 0 (by omega) (by omega) (by omega)) (w 1 (by omega) (by omega) (by omega)) (w 8 (by omega) (by omega) (by omega)) (fun s2 h1 h2 => ⟨w _ (by omega) (by omega) (by omega), w _ (by omega) (by omega) (by omega), w _ (by omega) (by omega) (by omega)⟩) (fun i h1 h2 => w i (by omega) (by omega) (by omega)) (fun k hk => ?_), by show q ≤ q3; omega⟩
    · rw [w (20 + s2) (by omega) (by omega) (by omega), w (28 + s2) (by omega) (by omega) (by omega), w (36 + s2) (by omega) (by omega) (by omega), w (44 + s2) (by omega) (by omega) (by omega), w (52 + s2) (by omega) (by omega) (by omega)]
      exact hI.2.1 s2 hs2
    · by_cases e1 : i = 2
      · rw [e1, w2]; omega
      by_cases e2 : i = 724 + 2 * v 2
      · rw [e2, wa]; omega
      by_cases e3 : i = 724 + 2 * v 2 + 1
      · rw [e3, wb]; omega
      rw [w i e1 e2 e3]; exact hI.2.2.2.2.2.2.2 i hi
    · rw [w2] at hk
      by_cases e : k = v 2
      · rw [e, wb]; exact s1
      · rw [w _ (by omega) (by omega) (by omega)]; exact hS.pu k (by omega)
end SIV
