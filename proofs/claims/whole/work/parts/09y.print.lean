/-! printSchool: what is written -/
section PS1
abbrev outT : Type := (Nat → Nat) × Nat
def wO (q : outT) (x : Nat) : outT := (updN q.1 q.2 x, q.2 + 1)
def wN (q : outT) (c : Nat) : outT := wO (if c ≤ 9 then wO q 32 else wO (wO q 32) (48 + c / 10)) (48 + c % 10)
def wK (v : Nat → Nat) (pl : Nat → Option Nat) (s : Nat) (q : outT) (c : Nat) : outT := if pl c = some s ∧ v (444 + c) = 1 then wO (wN q c) 42 else wN q c
def prO (v : Nat → Nat) (pl : Nat → Option Nat) (s W : Nat) (q : outT) : Nat → outT
  | 0 => q
  | i + 1 => match staO v pl s i W with
    | none => prO v pl s W q i
    | some c => wK v pl s (prO v pl s W q i) c
def nmO (nm : Nat → Nat) (s : Nat) (q : outT) : Nat → outT
  | 0 => q
  | i + 1 => if nm (6 * s + i) = 0 then nmO nm s q i else wO (nmO nm s q i) (nm (6 * s + i))
def OKO (q : outT) : Prop := ∀ i, i < q.2 → q.1 i < 128
theorem wO_ok {q : outT} {x : Nat} (h : OKO q) (hx : x < 128) : OKO (wO q x) := fun i hi => by
  have hi : i < q.2 + 1 := hi
  show updN q.1 q.2 x i < 128
  by_cases e : i = q.2
  · rw [e, updN_s]; exact hx
  · rw [updN_n e]; exact h i (by omega)
theorem wO_2 {q : outT} {x : Nat} : (wO q x).2 = q.2 + 1 := rfl
theorem wN_ok {q : outT} {c : Nat} (h : OKO q) (hc : c < 40) : OKO (wN q c) ∧ (wN q c).2 ≤ q.2 + 3 := by
  unfold wN
  by_cases e : c ≤ 9
  · rw [if_pos e]
    exact ⟨wO_ok (wO_ok h (by omega)) (by omega), by rw [wO_2, wO_2]; omega⟩
  · rw [if_neg e]
    exact ⟨wO_ok (wO_ok (wO_ok h (by omega)) (by omega)) (by omega), by rw [wO_2, wO_2, wO_2]; omega⟩
theorem wK_ok {v : Nat → Nat} {pl : Nat → Option Nat} {s : Nat} {q : outT} {c : Nat} (h : OKO q) (hc : c < 40) : OKO (wK v pl s q c) ∧ (wK v pl s q c).2 ≤ q.2 + 4 := by
  obtain ⟨h1, h2⟩ := wN_ok h hc
  unfold wK
  by_cases e : pl c = some s ∧ v (444 + c) = 1
  · rw [if_pos e]
    exact ⟨wO_ok h1 (by omega), by rw [wO_2]; omega⟩
  · rw [if_neg e]
    exact ⟨h1, by omega⟩
theorem prO_s {v : Nat → Nat} {pl : Nat → Option Nat} {s W i c : Nat} {q : outT} (h : staO v pl s i W = some c) : prO v pl s W q (i + 1) = wK v pl s (prO v pl s W q i) c := by
  show (match staO v pl s i W with | none => prO v pl s W q i | some c => wK v pl s (prO v pl s W q i) c) = _
  rw [h]
theorem prO_ok {v : Nat → Nat} {pl : Nat → Option Nat} {s W : Nat} {q : outT} (h : OKO q) (h1 : v 1 ≤ 40) : ∀ i, OKO (prO v pl s W q i) ∧ (prO v pl s W q i).2 ≤ q.2 + 4 * i := by
  intro i
  induction i with
  | zero => exact ⟨h, Nat.le_refl _⟩
  | succ i ih =>
    cases hs : staO v pl s i W with
    | none =>
      have : prO v pl s W q (i + 1) = prO v pl s W q i := by
        show (match staO v pl s i W with | none => prO v pl s W q i | some c => wK v pl s (prO v pl s W q i) c) = _
        rw [hs]
      rw [this]
      exact ⟨ih.1, by omega⟩
    | some c =>
      have hc := (fnd_some hs).2.1
      rw [prO_s hs]
      obtain ⟨k1, k2⟩ := wK_ok (v := v) (pl := pl) (s := s) ih.1 (c := c) (by omega)
      exact ⟨k1, by omega⟩
theorem nmO_ok {nm : Nat → Nat} {s : Nat} {q : outT} (h : OKO q) : ∀ i, (∀ k, k < i → nm (6 * s + k) < 128) → OKO (nmO nm s q i) ∧ (nmO nm s q i).2 ≤ q.2 + i := by
  intro i
  induction i with
  | zero => exact fun _ => ⟨h, Nat.le_refl _⟩
  | succ i ih =>
    intro hk
    obtain ⟨k1, k2⟩ := ih (fun k hk2 => hk k (by omega))
    show OKO (if nm (6 * s + i) = 0 then nmO nm s q i else wO (nmO nm s q i) (nm (6 * s + i))) ∧ (if nm (6 * s + i) = 0 then nmO nm s q i else wO (nmO nm s q i) (nm (6 * s + i))).2 ≤ q.2 + (i + 1)
    by_cases e : nm (6 * s + i) = 0
    · rw [if_pos e]; exact ⟨k1, by omega⟩
    · rw [if_neg e]; exact ⟨wO_ok k1 (hk i (by omega)), by rw [wO_2]; omega⟩
theorem cnt_dis {P Q : Nat → Prop} [DecidablePred P] [DecidablePred Q] {n : Nat} (h : ∀ k, k < n → ¬ (P k ∧ Q k)) : cnt P n + cnt Q n ≤ n := by
  induction n with
  | zero => exact Nat.le_refl _
  | succ n ih =>
    have i1 := ih (fun k hk => h k (by omega))
    show cnt P n + (if P n then 1 else 0) + (cnt Q n + (if Q n then 1 else 0)) ≤ n + 1
    by_cases a : P n
    · rw [if_pos a, if_neg (fun b => h n (by omega) ⟨a, b⟩)]; omega
    · rw [if_neg a]
      by_cases b : Q n
      · rw [if_pos b]; omega
      · rw [if_neg b]; omega
-- a name's number
def dgt (a j : Nat) : Nat := a / 32 ^ j % 32
theorem dgt_s {a d j : Nat} (hd : d < 32) : dgt (a * 32 + d) (j + 1) = dgt a j := by
  unfold dgt
  rw [Nat.pow_succ, Nat.mul_comm (32 ^ j) 32, ← Nat.div_div_eq_div_mul, show (a * 32 + d) / 32 = a by omega]
theorem dgt_0 {a d : Nat} (hd : d < 32) : dgt (a * 32 + d) 0 = d := by
  unfold dgt
  rw [Nat.pow_zero, Nat.div_one]; omega
theorem code_dg {f : Nat → Nat} : ∀ l, (∀ i, i < l → 97 ≤ f i ∧ f i ≤ 122) → ∀ j, dgt (codeN f l) j = if j < l then f (l - 1 - j) - 96 else 0 := by
  intro l
  induction l with
  | zero =>
    intro _ j
    rw [if_neg (by omega)]
    show dgt 0 j = 0
    unfold dgt
    rw [Nat.zero_div]
  | succ l ih =>
    intro h j
    have hl := h l (by omega)
    have e : codeN f (l + 1) = codeN f l * 32 + (f l - 96) := by
      show (if f l = 0 then codeN f l else codeN f l * 32 + (f l - 96)) = _
      rw [if_neg (by omega)]
    rw [e]
    cases j with
    | zero => rw [dgt_0 (by omega), if_pos (by omega), show l + 1 - 1 - 0 = l by omega]
    | succ j =>
      rw [dgt_s (by omega), ih (fun i hi => h i (by omega)) j]
      by_cases c : j < l
      · rw [if_pos c, if_pos (by omega), show l + 1 - 1 - (j + 1) = l - 1 - j by omega]
      · rw [if_neg c, if_neg (by omega)]
theorem code_cut {f : Nat → Nat} {l : Nat} : ∀ d, (∀ i, l ≤ i → i < l + d → f i = 0) → codeN f (l + d) = codeN f l := by
  intro d
  induction d with
  | zero => intro _; rfl
  | succ d ih =>
    intro h
    show (if f (l + d) = 0 then codeN f (l + d) else codeN f (l + d) * 32 + (f (l + d) - 96)) = _
    rw [if_pos (h (l + d) (by omega) (by omega))]
    exact ih (fun i h1 h2 => h i h1 (by omega))
theorem code_lt {f : Nat → Nat} : ∀ l, (∀ i, i < l → f i ≤ 122) → codeN f l < 32 ^ l := by
  intro l
  induction l with
  | zero => intro _; show 0 < 1; omega
  | succ l ih =>
    intro h
    have i1 := ih (fun i hi => h i (by omega))
    have hl := h l (by omega)
    show (if f l = 0 then codeN f l else codeN f l * 32 + (f l - 96)) < _
    rw [Nat.pow_succ]
    by_cases e : f l = 0
    · rw [if_pos e]; omega
    · rw [if_neg e]; omega
def clN (a : Nat) : Nat → outT → outT
  | 0, q => q
  | j + 1, q => clN a j (if dgt a j = 0 then q else wO q (96 + dgt a j))
theorem clN_z {a l : Nat} {q : outT} : ∀ d, (∀ j, l ≤ j → j < l + d → dgt a j = 0) → clN a (l + d) q = clN a l q := by
  intro d
  induction d with
  | zero => intro _; rfl
  | succ d ih =>
    intro h
    show clN a (l + d) (if dgt a (l + d) = 0 then q else wO q (96 + dgt a (l + d))) = _
    rw [if_pos (h (l + d) (by omega) (by omega))]
    exact ih (fun j h1 h2 => h j h1 (by omega))
theorem nmO_z {nm : Nat → Nat} {s l : Nat} {q : outT} : ∀ d, (∀ i, l ≤ i → i < l + d → nm (6 * s + i) = 0) → nmO nm s q (l + d) = nmO nm s q l := by
  intro d
  induction d with
  | zero => intro _; rfl
  | succ d ih =>
    intro h
    show (if nm (6 * s + (l + d)) = 0 then nmO nm s q (l + d) else _) = _
    rw [if_pos (h (l + d) (by omega) (by omega))]
    exact ih (fun j h1 h2 => h j h1 (by omega))
theorem clN_eq {nm : Nat → Nat} {k s : Nat} {q : outT} (hN : NMS nm k) (hs : s < k) : clN (cdS nm s) 6 q = nmO nm s q 6 ∧ cdS nm s < 1073741824 ∧ ∀ i, i < 6 → nm (6 * s + i) < 128 := by
  obtain ⟨l, l1, l2, l3, l4⟩ := hN s hs
  have ec : cdS nm s = codeN (fun i => nm (6 * s + i)) l := by
    have := code_cut (f := fun i => nm (6 * s + i)) (l := l) (6 - l) (fun i h1 h2 => l4 i h1 (by omega))
    rw [show l + (6 - l) = 6 by omega] at this
    exact this
  have dg := code_dg (f := fun i => nm (6 * s + i)) l l3
  refine ⟨?_, ?_, fun i hi => ?_⟩
  · rw [ec]
    have e1 := clN_z (a := codeN (fun i => nm (6 * s + i)) l) (l := l) (q := q) (6 - l) (fun j h1 h2 => by rw [dg j, if_neg (by omega)])
    rw [show l + (6 - l) = 6 by omega] at e1
    have e2 := nmO_z (nm := nm) (s := s) (l := l) (q := q) (6 - l) (fun i h1 h2 => l4 i h1 (by omega))
    rw [show l + (6 - l) = 6 by omega] at e2
    rw [e1, e2]
    have key : ∀ j, j ≤ l → clN (codeN (fun i => nm (6 * s + i)) l) j (nmO nm s q (l - j)) = nmO nm s q l := by
      intro j
      induction j with
      | zero => intro _; rfl
      | succ j ih =>
        intro hj
        have hl := l3 (l - 1 - j) (by omega)
        have hdj := dg j
        rw [if_pos (by omega)] at hdj
        have hdj : dgt (codeN (fun i => nm (6 * s + i)) l) j = nm (6 * s + (l - 1 - j)) - 96 := hdj
        show clN _ j (if dgt (codeN (fun i => nm (6 * s + i)) l) j = 0 then nmO nm s q (l - (j + 1)) else wO (nmO nm s q (l - (j + 1))) (96 + dgt (codeN (fun i => nm (6 * s + i)) l) j)) = _
        rw [hdj, if_neg (by omega), show 96 + (nm (6 * s + (l - 1 - j)) - 96) = nm (6 * s + (l - 1 - j)) by omega, ← ih (by omega)]
        congr 1
        rw [show l - j = (l - (j + 1)) + 1 by omega]
        show _ = (if nm (6 * s + (l - (j + 1))) = 0 then _ else wO (nmO nm s q (l - (j + 1))) (nm (6 * s + (l - (j + 1)))))
        rw [show l - (j + 1) = l - 1 - j by omega, if_neg (by omega)]
    have := key l (Nat.le_refl _)
    rw [Nat.sub_self] at this
    exact this
  · rw [ec]
    have h1 := code_lt (f := fun i => nm (6 * s + i)) l (fun i hi => (l3 i hi).2)
    have h2 : 32 ^ l ≤ 32 ^ 6 := Nat.pow_le_pow_right (by decide) l2
    have h3 : 32 ^ 6 = 1073741824 := by decide
    omega
  · by_cases e : i < l
    · have := l3 i e; omega
    · rw [l4 i (by omega) hi]; omega
end PS1
section PS2
theorem sb_low {x : Nat} (hx : x < 128) : sbI x = nN x := by
  unfold sbI
  exact fb_byte (by rw [nN_toInt (by omega)]; omega) (by rw [nN_toInt (by omega)]; omega)
def PGS (M0 M : Mem) (z : Nat) (q : outT) : Prop := (∃ bt, M (z + 26) = some (.inr (1, [.ref (z + 27), .int (nN q.2)])) ∧ M (z + 27) = some (.inl (1, 200, .inl bt)) ∧ ∀ i, i < q.2 → bt i = nN (q.1 i)) ∧ ∀ x, x ≠ z + 26 → x ≠ z + 27 → M x = M0 x
variable {M0 M : Mem} {z : Nat} {q : outT}
theorem PGS.c (h : PGS M0 M z q) : isC 1 M (z + 26) = some () := by
  obtain ⟨⟨bt, h1, -, -⟩, -⟩ := h
  unfold isC; rw [h1]; rfl
theorem c_put (h : PGS M0 M z q) (hq : q.2 < 200) {x : Nat} (hx : x < 128) : ∃ M', p_X1_put (z + 26) (nN x) M = some M' ∧ PGS M0 M' z (wO q x) := by
  obtain ⟨⟨bt, h1, h2, h3⟩, h4⟩ := h
  have g1 : gI 1 1 M (z + 26) = some (nN q.2) := by unfold gI gV; rw [h1]; rfl
  have g0 : gR 1 0 M (z + 26) = some (z + 27) := by unfold gR gV; rw [h1]; rfl
  have ex : Int8.toInt32 (Int32.toInt8 (nN x)) = nN x := by
    have e1 : sbI x = nN x := sb_low hx
    exact e1
  have w1 : aBs M (z + 27) (nN q.2) (nN x) = some (upM M (z + 27) (.inl (1, 200, .inl (upd bt q.2 (nN x))))) := by
    unfold aBs; rw [h2]
    have n1 := nN_neg0 (n := q.2) (by omega)
    have n2 := nN_clamp (n := q.2) (by omega)
    simp only [n2]
    rw [if_pos ⟨trivial, fun y => by rcases y with y | y; exact n1 y; omega⟩]
    have e : vp_nar .byte (nN x) = nN x := ex
    rw [e]
  have h1' : upM M (z + 27) (.inl (1, 200, .inl (upd bt q.2 (nN x)))) (z + 26) = some (.inr (1, [.ref (z + 27), .int (nN q.2)])) := (upM_o (by omega)).trans h1
  have g2 : gI 1 1 (upM M (z + 27) (.inl (1, 200, .inl (upd bt q.2 (nN x))))) (z + 26) = some (nN q.2) := by unfold gI gV; rw [h1']; rfl
  have w2 : sV 1 1 (upM M (z + 27) (.inl (1, 200, .inl (upd bt q.2 (nN x))))) (z + 26) (.int (nN (q.2 + 1))) = some (upM (upM M (z + 27) (.inl (1, 200, .inl (upd bt q.2 (nN x))))) (z + 26) (.inr (1, [.ref (z + 27), .int (nN (q.2 + 1))]))) := by
    unfold sV; rw [h1']; exact if_pos ⟨rfl, (by show 1 < 2; omega)⟩
  refine ⟨_, ?_, ⟨upd bt q.2 (nN x), upM_at, (upM_o (by omega)).trans upM_at, fun i hi => ?_⟩, fun y a1 a2 => ((upM_o a1).trans (upM_o a2)).trans (h4 y a1 a2)⟩
  · have ek : nN q.2 + (1 : Int32) = nN (q.2 + 1) := nN_add q.2 1
    unfold p_X1_put
    rw [g1, bS, if_neg (show ¬ (200 : Int32) ≤ nN q.2 from nle_f (a := 200) (by omega) (by omega) (by omega)), g0, bS, bS, ex, w1, bS, g2, bS, ek, w2, bS]
    rfl
  · have hi : i < q.2 + 1 := hi
    show (if i = q.2 then nN x else bt i) = nN (updN q.1 q.2 x i)
    by_cases e : i = q.2
    · rw [if_pos e, e, updN_s]
    · rw [if_neg e, updN_n e]; exact h3 i (by omega)
theorem c_putNumber (h : PGS M0 M z q) (hq : q.2 + 2 ≤ 200) {c : Nat} (hc : c < 40) : ∃ M', p_X1_putNumber (z + 26) (nN c) M = some M' ∧ PGS M0 M' z (wO (if c ≤ 9 then q else wO q (48 + c / 10)) (48 + c % 10)) := by
  have er : nN c - nN c / (10 : Int32) * (10 : Int32) = nN (c % 10) := d_rem (by omega)
  have ed : nN c / (10 : Int32) = nN (c / 10) := d_div (by omega)
  have e48 : ∀ k, (48 : Int32) + nN k = nN (48 + k) := fun k => nN_add 48 k
  unfold p_X1_putNumber
  rw [jn_def]
  by_cases e : c ≤ 9
  · rw [if_pos (show nN c < (10 : Int32) from nlt_t (b := 10) (by omega) (by omega) (by omega)), if_pos e]
    obtain ⟨M1, q1, h1⟩ := c_put h (by omega) (x := 48 + c % 10) (by omega)
    refine ⟨M1, ?_, h1⟩
    show Option.bind (isC 1 M (z + 26)) _ = _
    rw [h.c, bS, er, e48, q1, bS]
  · rw [if_neg (show ¬ nN c < (10 : Int32) from nlt_f (b := 10) (by omega) (by omega) (by omega)), if_neg e, h.c, bS, ed, e48]
    obtain ⟨M1, q1, h1⟩ := c_put h (by omega) (x := 48 + c / 10) (by omega)
    obtain ⟨M2, q2, h2⟩ := c_put h1 (by rw [wO_2]; omega) (x := 48 + c % 10) (by omega)
    refine ⟨M2, ?_, h2⟩
    rw [q1, bS]
    show Option.bind (isC 1 M1 (z + 26)) _ = _
    rw [h1.c, bS, ← ed, er, e48, q2, bS]
theorem c_putName (a : Nat) (ha : a < 1073741824) (k1 : Mem → Option Mem) : ∀ j fu (M : Mem) (q : outT), j ≤ 6 → j < fu → PGS M0 M z q → q.2 + j ≤ 200 → ∃ M', pl_X1_putName_3 k1 (z + 26) (nN a) fu (if j = 0 then (-5 : Int32) else nN (5 * (j - 1))) M = k1 M' ∧ PGS M0 M' z (clN a j q) := by
  intro j
  induction j with
  | zero =>
    intro fu M q hj hf h hq
    obtain ⟨f, rfl⟩ : ∃ f, fu = f + 1 := ⟨fu - 1, by omega⟩
    refine ⟨M, ?_, h⟩
    rw [if_pos rfl, pl_X1_putName_3, if_pos (by decide)]
  | succ j ih =>
    intro fu M q hj hf h hq
    obtain ⟨f, rfl⟩ : ∃ f, fu = f + 1 := ⟨fu - 1, by omega⟩
    rw [if_neg (by omega), show j + 1 - 1 = j by omega]
    have ed : ((nN a >>> (nN (5 * j) &&& 31)) &&& (31 : Int32)) = nN (dgt a j) := by
      have e0 : nN a >>> (nN (5 * j) &&& 31) = nI (a / 2 ^ (5 * j)) := pk_shrN (n := a) (by omega) _ (5 * j) (s_l (5 * j) (by omega))
      have e1 : (2 : Nat) ^ (5 * j) = 32 ^ j := by rw [Nat.pow_mul]
      rw [e0, e1]
      exact fa_mask _ 5
    have en : nN (5 * j) + (-5 : Int32) = if j = 0 then (-5 : Int32) else nN (5 * (j - 1)) := by
      have h5 : ∀ j : Fin 6, nN (5 * j.val) + (-5 : Int32) = if j.val = 0 then (-5 : Int32) else nN (5 * (j.val - 1)) := by decide
      exact h5 ⟨j, by omega⟩
    have hd : dgt a j < 32 := Nat.mod_lt _ (by decide)
    rw [pl_X1_putName_3, if_neg (nN_neg0 (by omega)), ed]
    by_cases e : dgt a j = 0
    · obtain ⟨M', q1, h1⟩ := ih f M q (by omega) (by omega) h (by omega)
      refine ⟨M', ?_, ?_⟩
      · rw [if_pos (show nN (dgt a j) = (0 : Int32) by rw [e]; rfl), en, q1]
      · show PGS M0 M' z (clN a j (if dgt a j = 0 then q else wO q (96 + dgt a j)))
        rw [if_pos e]; exact h1
    · obtain ⟨M1, q0, h0⟩ := c_put h (by omega) (x := 96 + dgt a j) (by omega)
      obtain ⟨M', q1, h1⟩ := ih f M1 _ (by omega) (by omega) h0 (by rw [wO_2]; omega)
      refine ⟨M', ?_, ?_⟩
      · have e97 : ((97 : Int32) + nN (dgt a j)) - (1 : Int32) = nN (96 + dgt a j) := by
          rw [show (97 : Int32) + nN (dgt a j) = nN (97 + dgt a j) from nN_add 97 _, show nN (97 + dgt a j) - (1 : Int32) = nN (97 + dgt a j - 1) from nN_subN (b := 1) (by omega), show 97 + dgt a j - 1 = 96 + dgt a j by omega]
        rw [if_neg (show ¬ nN (dgt a j) = (0 : Int32) from neq_f (b := 0) (by omega) (by omega) e), h.c, bS, e97, q0, bS, en, q1]
      · show PGS M0 M' z (clN a j (if dgt a j = 0 then q else wO q (96 + dgt a j)))
        rw [if_neg e]; exact h1
/-- what a roll's readers need, whatever the page holds -/
def PCX (M0 : Mem) (z r b t tb : Nat) (g : Nat → Int32) (h : Nat → Int64) (ar : Nat → Nat → Int32) (u : Nat → Int32) (ta : Nat → Nat → Int32) : Prop := ∀ M, (∀ x, x ≠ z + 26 → x ≠ z + 27 → M x = M0 x) → M = ofc M r b t tb g h ar u ta ∧ gR 5 3 M z = some r ∧ gR 5 2 M z = some (z + 26) ∧ isC 5 M z = some ()
variable {r b t tb : Nat} {g : Nat → Int32} {h : Nat → Int64} {ar : Nat → Nat → Int32} {u : Nat → Int32} {ta : Nat → Nat → Int32} {v : Nat → Nat} {pl : Nat → Option Nat} {cd : Nat → Nat}
theorem c_children (hX : PCX M0 z r b t tb g h ar u ta) (hG : GE r b t tb) (hR : RG g h ar v pl) (hT : TG u ta v cd) (hI : Inv v pl) {s W : Nat} (hs : s < v 0) (hq0 : OKO q) (hq : q.2 + 4 * cnt (fun k => isoB v pl W k s = true) (v 1) ≤ 200) (k1 k2 : Mem → Option Mem) : ∀ d i fu (M : Mem), i + d = cnt (fun k => isoB v pl W k s = true) (v 1) → d < fu → PGS M0 M z (prO v pl s W q i) → ∃ M', pl_X6_printChildren_9 k1 k2 z (nN s) fu (mkL (fun k => isoB v pl W k s = true ∧ i ≤ rnk (fun k => isoB v pl W k s = true) (stS v s) (v 1) k) (v 1)) (nN d) M = k2 M' ∧ PGS M0 M' z (prO v pl s W q (cnt (fun k => isoB v pl W k s = true) (v 1))) := by
  have hb := hI.hb; have h0 := hI.h0; have h1 := hI.h1; have h2 := hI.h2; have h7 := hI.h7; have h8 := hI.h8
  intro d
  induction d with
  | zero =>
    intro i fu M hi hf hp
    obtain ⟨f, rfl⟩ : ∃ f, fu = f + 1 := ⟨fu - 1, by omega⟩
    refine ⟨M, ?_, by rw [← show i = cnt (fun k => isoB v pl W k s = true) (v 1) by omega]; exact hp⟩
    rw [pl_X6_printChildren_9, if_pos (show nN 0 ≤ (0 : Int32) by decide)]
  | succ d ih =>
    intro i fu M hi hf hp
    obtain ⟨f, rfl⟩ : ∃ f, fu = f + 1 := ⟨fu - 1, by omega⟩
    have hcl := cnt_le (fun k => isoB v pl W k s = true) (v 1)
    have hinj := stS_inj (v := v) (s := s) (n := v 1) (by omega)
    obtain ⟨c, c1, c2, c3⟩ := rnk_ex (P := fun k => isoB v pl W k s = true) (key := stS v s) (n := v 1) (i := i) hinj (by omega)
    have est : staO v pl s i W = some c := fnd_eq c1 ⟨c2, c3⟩ (fun j hj hqq => by
      have := rnk_inj (P := fun k => isoB v pl W k s = true) (key := stS v s) (n := v 1) hinj (i := j) (j := c) (by omega) c1 hqq.1 c2 (by rw [c3]; exact hqq.2)
      omega)
    have emn : mnO (fun k => isoB v pl W k s = true ∧ i ≤ rnk (fun k => isoB v pl W k s = true) (stS v s) (v 1) k) (stS v s) (v 1) = some c := by
      rw [mnO_rank hinj]; exact est
    have erm : mkL (fun k => isoB v pl W k s = true ∧ i ≤ rnk (fun k => isoB v pl W k s = true) (stS v s) (v 1) k) (v 1) &&& (((1 : Int64) <<< (Int32.toInt64 (nN c) &&& 63)) ^^^ (-1 : Int64)) = mkL (fun k => isoB v pl W k s = true ∧ i + 1 ≤ rnk (fun k => isoB v pl W k s = true) (stS v s) (v 1) k) (v 1) := by
      rw [mk_clr (by omega)]
      refine mk_c (fun k hk => ?_)
      constructor
      · rintro ⟨⟨a1, a2⟩, a3⟩
        refine ⟨a1, ?_⟩
        by_cases e : rnk (fun k => isoB v pl W k s = true) (stS v s) (v 1) k = i
        · exact absurd (rnk_inj (P := fun k => isoB v pl W k s = true) (key := stS v s) (n := v 1) hinj hk c1 a1 c2 (by rw [c3, e])) a3
        · omega
      · rintro ⟨a1, a2⟩
        exact ⟨⟨a1, by omega⟩, fun e => by rw [e, c3] at a2; omega⟩
    obtain ⟨k1', k2'⟩ := prO_ok (v := v) (pl := pl) (s := s) (W := W) hq0 h1 i
    have hlen : (prO v pl s W q i).2 + 4 ≤ 200 := by omega
    obtain ⟨x1, x2, x3, x4⟩ := hX M hp.2
    have f1 : p_X2_firstOf r (mkL (fun k => isoB v pl W k s = true ∧ i ≤ rnk (fun k => isoB v pl W k s = true) (stS v s) (v 1) k) (v 1)) (nN s) M = some (nN c) := by
      rw [x1, c_firstOf M hG hR hT hI hs, emn]; rfl
    have fC : isC 2 M r = some () := by rw [x1]; exact fv_isC
    obtain ⟨M1, p1, g1⟩ := c_put hp (by omega) (x := 32) (by omega)
    obtain ⟨y1, y2, y3, y4⟩ := hX M1 g1.2
    obtain ⟨M2, p2, g2⟩ := c_putNumber g1 (by rw [wO_2]; omega) (c := c) (by omega)
    obtain ⟨z1, z2, z3, z4⟩ := hX M2 g2.2
    have eN : wO (if c ≤ 9 then wO (prO v pl s W q i) 32 else wO (wO (prO v pl s W q i) 32) (48 + c / 10)) (48 + c % 10) = wN (prO v pl s W q i) c := rfl
    rw [eN] at g2
    obtain ⟨-, wl⟩ := wN_ok (q := prO v pl s W q i) (c := c) k1' (by omega)
    have f16 : gR 2 16 M2 r = some (b + 5) := by rw [z1]; exact fv_16
    have f5 : aI 0 M2 (b + 5) (nN c) = some (oN (pl c)) := by rw [z1, fd_5 hG, rd_nN (by omega) (by omega), hR.a5 c1]
    have f10 : gL 2 10 M2 r = some (mkL (fun c => v (444 + c) = 1) (v 1)) := by rw [z1, fv_10, hR.h10]
    have es : nN (d + 1) + (-1 : Int32) = nN d := by
      rw [show (-1 : Int32) = -nN 1 from rfl, ← Int32.sub_eq_add_neg]
      exact nN_subN (a := d + 1) (b := 1) (by omega)
    have n0 : ¬ nN (d + 1) ≤ (0 : Int32) := nle_f (b := 0) (by omega) (by omega) (by omega)
    have hhc := hI.chi c (by omega)
    have hpe : (oN (pl c) = nN s) = (pl c = some s) := oN_eq (hI.plb c) (by omega)
    have st : pl_X6_printChildren_9 k1 k2 z (nN s) (f + 1) (mkL (fun k => isoB v pl W k s = true ∧ i ≤ rnk (fun k => isoB v pl W k s = true) (stS v s) (v 1) k) (v 1)) (nN (d + 1)) M = (if oN (pl c) = nN s then (Option.bind (gR 5 3 M2 z) fun v17 => Option.bind (gL 2 10 M2 v17) fun v18 => Option.bind (p_X6_isIn v18 (nN c) M2) fun v19 => if v19 = 0 then pl_X6_printChildren_9 k1 k2 z (nN s) f (mkL (fun k => isoB v pl W k s = true ∧ i + 1 ≤ rnk (fun k => isoB v pl W k s = true) (stS v s) (v 1) k) (v 1)) (nN d) M2 else (Option.bind (gR 5 2 M2 z) fun v21 => Option.bind (isC 1 M2 v21) fun _ => Option.bind (p_X1_put v21 (42 : Int32) M2) fun M23 => pl_X6_printChildren_9 k1 k2 z (nN s) f (mkL (fun k => isoB v pl W k s = true ∧ i + 1 ≤ rnk (fun k => isoB v pl W k s = true) (stS v s) (v 1) k) (v 1)) (nN d) M23)) else pl_X6_printChildren_9 k1 k2 z (nN s) f (mkL (fun k => isoB v pl W k s = true ∧ i + 1 ≤ rnk (fun k => isoB v pl W k s = true) (stS v s) (v 1) k) (v 1)) (nN d) M2) := by
      rw [pl_X6_printChildren_9, if_neg n0, x2, bS, fC, bS, f1, bS, if_neg (show ¬ nN c = (-1 : Int32) from nNm (by omega)), x3, bS, hp.c, bS, show (32 : Int32) = nN 32 from rfl, p1, bS, y3, bS, g1.c, bS, p2, bS, z2, bS, f16, bS, f5, bS, erm, es]
    by_cases e1 : pl c = some s
    · by_cases e2 : v (444 + c) = 1
      · obtain ⟨M3, p3, g3⟩ := c_put g2 (by omega) (x := 42) (by omega)
        have ek : wO (wN (prO v pl s W q i) c) 42 = prO v pl s W q (i + 1) := by
          rw [prO_s est]; unfold wK; rw [if_pos ⟨e1, e2⟩]
        rw [ek] at g3
        obtain ⟨M', q1, q2⟩ := ih (i + 1) f M3 (by omega) (by omega) g3
        refine ⟨M', ?_, q2⟩
        rw [st, if_pos (by rw [hpe]; exact e1), z2, bS, f10, bS, c_isIn h1 c1, bS, if_neg (by rw [← bI_t e2]; decide), z3, bS, g2.c, bS, show (42 : Int32) = nN 42 from rfl, p3, bS, q1]
      · have ek : wN (prO v pl s W q i) c = prO v pl s W q (i + 1) := by
          rw [prO_s est]; unfold wK; rw [if_neg (fun x => e2 x.2)]
        rw [ek] at g2
        obtain ⟨M', q1, q2⟩ := ih (i + 1) f M2 (by omega) (by omega) g2
        refine ⟨M', ?_, q2⟩
        rw [st, if_pos (by rw [hpe]; exact e1), z2, bS, f10, bS, c_isIn h1 c1, bS, if_pos (by rw [← bI_f e2]; rfl), q1]
    · have ek : wN (prO v pl s W q i) c = prO v pl s W q (i + 1) := by
        rw [prO_s est]; unfold wK; rw [if_neg (fun x => e1 x.1)]
      rw [ek] at g2
      obtain ⟨M', q1, q2⟩ := ih (i + 1) f M2 (by omega) (by omega) g2
      refine ⟨M', ?_, q2⟩
      rw [st, if_neg (by rw [hpe]; exact e1), q1]
theorem c_printChildren (hX : PCX M0 z r b t tb g h ar u ta) (hG : GE r b t tb) (hR : RG g h ar v pl) (hT : TG u ta v cd) (hI : Inv v pl) {s W : Nat} (hs : s < v 0) (hq0 : OKO q) (hq : q.2 + 4 * cnt (fun k => isoB v pl W k s = true) (v 1) ≤ 200) (hp : PGS M0 M z q) : ∃ M', p_X6_printChildren z (mkL (fun k => isoB v pl W k s = true) (v 1)) (nN s) M = some M' ∧ PGS M0 M' z (prO v pl s W q (cnt (fun k => isoB v pl W k s = true) (v 1))) := by
  have h1 := hI.h1
  have hcl := cnt_le (fun k => isoB v pl W k s = true) (v 1)
  have e0 : mkL (fun k => isoB v pl W k s = true) (v 1) = mkL (fun k => isoB v pl W k s = true ∧ 0 ≤ rnk (fun k => isoB v pl W k s = true) (stS v s) (v 1) k) (v 1) := mk_c (fun k hk => ⟨fun a => ⟨a, Nat.zero_le _⟩, fun a => a.1⟩)
  obtain ⟨M', q1, q2⟩ := c_children hX hG hR hT hI hs hq0 hq (fun M24 => some M24) (fun M25 => some M25) (cnt (fun k => isoB v pl W k s = true) (v 1)) 0 FU M (by omega) (FU_pos (by omega)) hp
  refine ⟨M', ?_, q2⟩
  unfold p_X6_printChildren
  rw [c_bitc h1, bS]
  rw [e0]
  exact q1
end PS2
section PS3
def SW (B : Mem) (m : Nat) (g : Nat → Int32) (A : Nat → Nat → Int32) (F : Nat → Int32) (q : outT) (v : Nat → Nat) (pl : Nat → Option Nat) : Mem := ovl B m (upd g 27 (nN q.2)) (up2 (up2 A 13 F) 1 (enc v pl))
def PRF (F : Nat → Int32) (q : outT) : Prop := ∀ i, i < q.2 → F i = nN (q.1 i)
variable {B : Mem} {m : Nat} {g : Nat → Int32} {A : Nat → Nat → Int32} {F : Nat → Int32} {q : outT} {v : Nat → Nat} {pl : Nat → Option Nat}
theorem SW.c : isC 6 (SW B m g A F q v pl) m = some () := oc _ _ _ _
theorem SW.r0 : gR 6 0 (SW B m g A F q v pl) m = some (m + 1) := or_0 _ _ _ _
theorem e_wr (h : PRF F q) (hq : q.2 < 400) (x : Nat) : ∃ F', p_X7_write m (nN x) (SW B m g A F q v pl) = some (SW B m g A F' (wO q x) v pl) ∧ PRF F' (wO q x) := by
  refine ⟨upd F q.2 (nN x), ?_, fun i hi => ?_⟩
  · unfold p_X7_write SW
    have ek : nN q.2 + (1 : Int32) = nN (q.2 + 1) := nN_add q.2 1
    rw [or_26, bS, oi_27, bS, pk_us, ow_13, up2_n (by decide), up2_s, wr_nN (by omega) (by omega), Option.map_some, bS, oi_27, bS, pk_us, ek, op_27, bS, upd_2, up2_sw (i := 1) (j := 13) (by decide), up2_up2]
    rfl
  · have hi : i < q.2 + 1 := hi
    show (if i = q.2 then nN x else F i) = nN (updN q.1 q.2 x i)
    by_cases e : i = q.2
    · rw [if_pos e, e, updN_s]
    · rw [if_neg e, updN_n e]; exact h i (by omega)
theorem e_wc (h : PRF F q) (hq : q.2 + 3 ≤ 400) {c : Nat} (hc : c < 40) : ∃ F', p_X7_writeChild m (nN c) (SW B m g A F q v pl) = some (SW B m g A F' (wN q c) v pl) ∧ PRF F' (wN q c) := by
  have er : nN c - nN c / (10 : Int32) * (10 : Int32) = nN (c % 10) := d_rem (by omega)
  have ed : nN c / (10 : Int32) = nN (c / 10) := d_div (by omega)
  have e48 : ∀ k, (48 : Int32) + nN k = nN (48 + k) := fun k => nN_add 48 k
  obtain ⟨F1, p1, g1⟩ := e_wr (B := B) (m := m) (g := g) (A := A) (v := v) (pl := pl) h (by omega) 32
  have p1 : p_X7_write m (32 : Int32) (SW B m g A F q v pl) = some (SW B m g A F1 (wO q 32) v pl) := p1
  unfold p_X7_writeChild wN
  rw [SW.c, bS, p1, bS, jn_def]
  by_cases e : c ≤ 9
  · rw [if_pos (show nN c ≤ (9 : Int32) from nle_t (b := 9) (by omega) (by omega) (by omega)), if_pos e]
    obtain ⟨F2, p2, g2⟩ := e_wr (B := B) (m := m) (g := g) (A := A) (v := v) (pl := pl) g1 (by rw [wO_2]; omega) (48 + c % 10)
    refine ⟨F2, ?_, g2⟩
    show Option.bind (isC 6 _ m) _ = _
    rw [SW.c, bS, er, e48, p2, bS]
  · rw [if_neg (show ¬ nN c ≤ (9 : Int32) from nle_f (b := 9) (by omega) (by omega) (by omega)), if_neg e, SW.c, bS, ed, e48]
    obtain ⟨F2, p2, g2⟩ := e_wr (B := B) (m := m) (g := g) (A := A) (v := v) (pl := pl) g1 (by rw [wO_2]; omega) (48 + c / 10)
    obtain ⟨F3, p3, g3⟩ := e_wr (B := B) (m := m) (g := g) (A := A) (v := v) (pl := pl) g2 (by rw [wO_2, wO_2]; omega) (48 + c % 10)
    refine ⟨F3, ?_, g3⟩
    rw [p2, bS]
    show Option.bind (isC 6 _ m) _ = _
    rw [SW.c, bS, ← ed, er, e48, p3, bS]
theorem e_name {nm : Nat → Nat} {s : Nat} (hs : s < 8) (hA : ∀ i, i < 48 → A 6 i = nN (nm i)) (hn : ∀ i, i < 6 → nm (6 * s + i) < 128) (k1 : Mem → Option (Int32 × Mem)) : ∀ d k fu (F : Nat → Int32), k + d = 6 → d < fu → PRF F (nmO nm s q k) → OKO q → q.2 + 6 ≤ 400 → ∃ F', pl_X7_printSchool_17 k1 m (nN s) fu (nN k) (SW B m g A F (nmO nm s q k) v pl) = k1 (SW B m g A F' (nmO nm s q 6) v pl) ∧ PRF F' (nmO nm s q 6) := by
  intro d
  induction d with
  | zero =>
    intro k fu F hk hf hp ho hq
    obtain ⟨f, rfl⟩ : ∃ f, fu = f + 1 := ⟨fu - 1, by omega⟩
    have ek : k = 6 := by omega
    subst ek
    refine ⟨F, ?_, hp⟩
    rw [pl_X7_printSchool_17, if_pos (show (6 : Int32) ≤ nN 6 from nle_t (a := 6) (by omega) (by omega) (by omega))]
  | succ d ih =>
    intro k fu F hk hf hp ho hq
    obtain ⟨f, rfl⟩ : ∃ f, fu = f + 1 := ⟨fu - 1, by omega⟩
    have ek : nN k + (1 : Int32) = nN (k + 1) := nN_add k 1
    have ei : (6 : Int32) * nN s + nN k = nN (6 * s + k) := by
      rw [show (6 : Int32) = nN 6 from rfl, nN_mul, nN_add]
    have r7 : gR 6 7 (SW B m g A F (nmO nm s q k) v pl) m = some (m + 6) := or_7 _ _ _ _
    have rd6 : aI 0 (SW B m g A F (nmO nm s q k) v pl) (m + 6) (nN (6 * s + k)) = some (nN (nm (6 * s + k))) := by
      unfold SW
      rw [od_6, up2_n (by decide), up2_n (by decide), rd_nN (by omega) (by omega), hA _ (by omega)]
    have hnk := hn k (by omega)
    obtain ⟨-, hl⟩ := nmO_ok (nm := nm) (s := s) ho k (fun i hi => hn i (by omega))
    rw [pl_X7_printSchool_17, if_neg (show ¬ (6 : Int32) ≤ nN k from nle_f (a := 6) (by omega) (by omega) (by omega)), r7, bS, ei, rd6, bS]
    have es : nmO nm s q (k + 1) = if nm (6 * s + k) = 0 then nmO nm s q k else wO (nmO nm s q k) (nm (6 * s + k)) := rfl
    by_cases e : nm (6 * s + k) = 0
    · rw [if_pos e] at es
      obtain ⟨F', q1, q2⟩ := ih (k + 1) f F (by omega) (by omega) (by rw [es]; exact hp) ho hq
      refine ⟨F', ?_, q2⟩
      rw [es] at q1
      rw [if_pos (show nN (nm (6 * s + k)) = (0 : Int32) by rw [e]; rfl), ek, q1]
    · rw [if_neg e] at es
      obtain ⟨F1, p1, g1⟩ := e_wr (B := B) (m := m) (g := g) (A := A) (v := v) (pl := pl) hp (by omega) (nm (6 * s + k))
      obtain ⟨F', q1, q2⟩ := ih (k + 1) f F1 (by omega) (by omega) (by rw [es]; exact g1) ho hq
      refine ⟨F', ?_, q2⟩
      rw [es] at q1
      rw [if_neg (show ¬ nN (nm (6 * s + k)) = (0 : Int32) from neq_f (b := 0) (by omega) (by omega) e), bS, rd6, bS, SW.c, bS, p1, bS, ek, q1]
theorem sta_ex (hI : Inv v pl) {s W i : Nat} (hi : i < cnt (fun k => isoB v pl W k s = true) (v 1)) : ∃ c, c < v 1 ∧ isoB v pl W c s = true ∧ staO v pl s i W = some c := by
  have h1 := hI.h1
  have hinj := stS_inj (v := v) (s := s) (n := v 1) (by omega)
  obtain ⟨c, c1, c2, c3⟩ := rnk_ex (P := fun k => isoB v pl W k s = true) (key := stS v s) (n := v 1) (i := i) hinj hi
  exact ⟨c, c1, c2, fnd_eq c1 ⟨c2, c3⟩ (fun j hj hqq => by
    have := rnk_inj (P := fun k => isoB v pl W k s = true) (key := stS v s) (n := v 1) hinj (i := j) (j := c) (by omega) c1 hqq.1 c2 (by rw [c3]; exact hqq.2)
    omega)⟩
theorem e_hold (hI : Inv v pl) {s : Nat} (hs : s < 8) (hq0 : OKO q) (hq : q.2 + 160 ≤ 400) (k1 : Mem → Option (Int32 × Mem)) : ∀ d i fu (F : Nat → Int32), i + d = hldN v pl s → d < fu → PRF F (prO v pl s 0 q i) → ∃ F', pl_X7_printSchool_66 k1 m (nN s) fu (nN i) (SW B m g A F (prO v pl s 0 q i) v pl) = k1 (SW B m g A F' (prO v pl s 0 q (hldN v pl s)) v pl) ∧ PRF F' (prO v pl s 0 q (hldN v pl s)) := by
  have hb := hI.hb; have h0 := hI.h0; have h1 := hI.h1; have h2 := hI.h2; have h7 := hI.h7; have h8 := hI.h8
  have hcl : hldN v pl s ≤ v 1 := cnt_le _ _
  intro d
  induction d with
  | zero =>
    intro i fu F hi hf hp
    obtain ⟨f, rfl⟩ : ∃ f, fu = f + 1 := ⟨fu - 1, by omega⟩
    have ei : i = hldN v pl s := by omega
    refine ⟨F, ?_, by rw [← ei]; exact hp⟩
    have eh : p_X7_holders m (nN s) (SW B m g A F (prO v pl s 0 q i) v pl) = some (nN (hldN v pl s)) := e_holders up2_s hI hs
    rw [pl_X7_printSchool_66, SW.c, bS, eh, bS, if_pos (nle_t (by omega) (by omega) (by omega)), ← ei]
  | succ d ih =>
    intro i fu F hi hf hp
    obtain ⟨f, rfl⟩ : ∃ f, fu = f + 1 := ⟨fu - 1, by omega⟩
    have ek : nN i + (1 : Int32) = nN (i + 1) := nN_add i 1
    have eh : p_X7_holders m (nN s) (SW B m g A F (prO v pl s 0 q i) v pl) = some (nN (hldN v pl s)) := e_holders up2_s hI hs
    have ecc : cnt (fun k => isoB v pl 0 k s = true) (v 1) = hldN v pl s := cnt_c (fun k hk => by show (decide (pl k = some s) = true) ↔ _; rw [decide_eq_true_eq])
    obtain ⟨c, c1, c2, c3⟩ := sta_ex hI (s := s) (W := 0) (i := i) (by rw [ecc]; omega)
    have hps : pl c = some s := of_decide_eq_true (show decide (pl c = some s) = true from c2)
    have eS : p_X7_standsAt m (nN s) (nN i) (0 : Int32) (SW B m g A F (prO v pl s 0 q i) v pl) = some (nN c) := by
      have := e_standsAt (B := B) (m := m) (g := upd g 27 (nN (prO v pl s 0 q i).2)) (a := up2 (up2 A 13 F) 1 (enc v pl)) up2_s hI hs (i := i) (W := 0) (by omega) (by omega)
      rw [c3] at this
      exact this
    obtain ⟨o1, o2⟩ := prO_ok (v := v) (pl := pl) (s := s) (W := 0) hq0 h1 i
    obtain ⟨w1, w2⟩ := wN_ok o1 (c := c) (by omega)
    obtain ⟨F1, p1, g1⟩ := e_wc (B := B) (m := m) (g := g) (A := A) (v := v) (pl := pl) hp (by omega) (c := c) (by omega)
    have hch := hI.chi c (by omega)
    have e4 : aI 0 (SW B m g A F1 (wN (prO v pl s 0 q i) c) v pl) (m + 1) (nN (444 + c)) = some (nN (v (444 + c))) := er_v (by omega) (by omega)
    by_cases e2 : v (444 + c) = 1
    · obtain ⟨F2, p2, g2⟩ := e_wr (B := B) (m := m) (g := g) (A := A) (v := v) (pl := pl) g1 (by omega) 42
      have ep : wO (wN (prO v pl s 0 q i) c) 42 = prO v pl s 0 q (i + 1) := by
        rw [prO_s c3]; unfold wK; rw [if_pos ⟨hps, e2⟩]
      rw [ep] at p2 g2
      obtain ⟨F', q1, q2⟩ := ih (i + 1) f F2 (by omega) (by omega) g2
      refine ⟨F', ?_, q2⟩
      rw [pl_X7_printSchool_66, SW.c, bS, eh, bS, if_neg (nle_f (by omega) (by omega) (by omega)), bS, eS, bS, bS, p1, bS, SW.r0, bS, show (444 : Int32) + nN c = nN (444 + c) from nN_add 444 c, e4, bS, if_pos (show nN (v (444 + c)) = (1 : Int32) by rw [e2]; rfl), SW.c, bS, show (42 : Int32) = nN 42 from rfl, p2, bS, ek, q1]
    · have ep : wN (prO v pl s 0 q i) c = prO v pl s 0 q (i + 1) := by
        rw [prO_s c3]; unfold wK; rw [if_neg (fun x => e2 x.2)]
      rw [ep] at p1 g1 e4
      obtain ⟨F', q1, q2⟩ := ih (i + 1) f F1 (by omega) (by omega) g1
      refine ⟨F', ?_, q2⟩
      rw [pl_X7_printSchool_66, SW.c, bS, eh, bS, if_neg (nle_f (by omega) (by omega) (by omega)), bS, eS, bS, bS, p1, bS, SW.r0, bS, show (444 : Int32) + nN c = nN (444 + c) from nN_add 444 c, e4, bS, if_neg (show ¬ nN (v (444 + c)) = (1 : Int32) from neq_f (b := 1) (by omega) (by omega) e2), ek, q1]
theorem wai_np {c s : Nat} (h : waiB v pl c s = true) : pl c ≠ some s := fun hp => by
  unfold waiB at h
  have h2 : prfB v pl c s = true := by
    rw [Bool.and_eq_true] at h; exact h.2
  have hgo : gotO v pl c = wisO v c s := by unfold gotO; rw [hp]
  unfold prfB at h2
  rw [hgo] at h2
  cases hw : wisO v c s with
  | none => rw [hw] at h2; cases h2
  | some i =>
    rw [hw] at h2
    have h2 : decide (i < i) = true := h2
    exact absurd (of_decide_eq_true h2) (Nat.lt_irrefl _)
theorem e_wait (hI : Inv v pl) {s : Nat} (hs : s < 8) (hq0 : OKO q) (hq : q.2 + 160 ≤ 400) (k1 : Mem → Option (Int32 × Mem)) : ∀ d i fu (F : Nat → Int32), i + d = wtgN v pl s → d < fu → PRF F (prO v pl s 1 q i) → ∃ F', pl_X7_printSchool_122 k1 m (nN s) fu (nN i) (SW B m g A F (prO v pl s 1 q i) v pl) = k1 (SW B m g A F' (prO v pl s 1 q (wtgN v pl s)) v pl) ∧ PRF F' (prO v pl s 1 q (wtgN v pl s)) := by
  have hb := hI.hb; have h0 := hI.h0; have h1 := hI.h1; have h2 := hI.h2; have h7 := hI.h7; have h8 := hI.h8
  have hcl : wtgN v pl s ≤ v 1 := cnt_le _ _
  intro d
  induction d with
  | zero =>
    intro i fu F hi hf hp
    obtain ⟨f, rfl⟩ : ∃ f, fu = f + 1 := ⟨fu - 1, by omega⟩
    have ei : i = wtgN v pl s := by omega
    refine ⟨F, ?_, by rw [← ei]; exact hp⟩
    have eh : p_X7_waitingMany m (nN s) (SW B m g A F (prO v pl s 1 q i) v pl) = some (nN (wtgN v pl s)) := e_waitingMany up2_s hI hs
    rw [pl_X7_printSchool_122, SW.c, bS, eh, bS, if_pos (nle_t (by omega) (by omega) (by omega)), ← ei]
  | succ d ih =>
    intro i fu F hi hf hp
    obtain ⟨f, rfl⟩ : ∃ f, fu = f + 1 := ⟨fu - 1, by omega⟩
    have ek : nN i + (1 : Int32) = nN (i + 1) := nN_add i 1
    have eh : p_X7_waitingMany m (nN s) (SW B m g A F (prO v pl s 1 q i) v pl) = some (nN (wtgN v pl s)) := e_waitingMany up2_s hI hs
    have ecc : cnt (fun k => isoB v pl 1 k s = true) (v 1) = wtgN v pl s := cnt_c (fun k hk => Iff.rfl)
    obtain ⟨c, c1, c2, c3⟩ := sta_ex hI (s := s) (W := 1) (i := i) (by rw [ecc]; omega)
    have hps : pl c ≠ some s := wai_np (show waiB v pl c s = true from c2)
    have eS : p_X7_standsAt m (nN s) (nN i) (1 : Int32) (SW B m g A F (prO v pl s 1 q i) v pl) = some (nN c) := by
      have := e_standsAt (B := B) (m := m) (g := upd g 27 (nN (prO v pl s 1 q i).2)) (a := up2 (up2 A 13 F) 1 (enc v pl)) up2_s hI hs (i := i) (W := 1) (by omega) (by omega)
      rw [c3] at this
      exact this
    obtain ⟨o1, o2⟩ := prO_ok (v := v) (pl := pl) (s := s) (W := 1) hq0 h1 i
    obtain ⟨F1, p1, g1⟩ := e_wc (B := B) (m := m) (g := g) (A := A) (v := v) (pl := pl) hp (by omega) (c := c) (by omega)
    have ep : wN (prO v pl s 1 q i) c = prO v pl s 1 q (i + 1) := by
      rw [prO_s c3]; unfold wK; rw [if_neg (fun x => hps x.1)]
    rw [ep] at p1 g1
    obtain ⟨F', q1, q2⟩ := ih (i + 1) f F1 (by omega) (by omega) g1
    refine ⟨F', ?_, q2⟩
    rw [pl_X7_printSchool_122, SW.c, bS, eh, bS, if_neg (nle_f (by omega) (by omega) (by omega)), bS, eS, bS, bS, p1, bS, ek, q1]
end PS3
