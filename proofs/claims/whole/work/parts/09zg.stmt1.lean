/-! the setup text: what a statement says; the reference reads it so -/
section SPC
abbrev QS : Type := Sum (Nat × Nat) ((Nat → Nat) × (Nat → Nat) × Nat × Nat)
def numS (f : Nat → Nat) (n lo hi q : Nat) (k : Nat → Nat → QS) : QS := if nuB f n q = true then (if raB f n q lo hi = true then k (vlN f n q) (nxt f n q) else .inl (2, q)) else .inl (1, q)
def schS (nm : Nat → Nat) (k0 : Nat) (f : Nat → Nat) (n q : Nat) (k : Nat → Nat → QS) : QS := if nmB f n q = true then (match fdN nm k0 f n q with | none => .inl (3, q) | some s => k s (nxt f n q)) else .inl (1, q)
def rlV (f : Nat → Nat) (n s : Nat) : Nat → (Nat → Nat) → Nat → Nat → (Nat → Nat) × Nat × Nat
  | 0, v, k, q => (v, k, q)
  | d + 1, v, k, q => match rlN f n q with
    | none => (v, k, q)
    | some r => if fnd (fun i => v (68 + 3 * s + i) = r) 0 k = none then rlV f n s d (updN (updN v (68 + 3 * s + k) r) (44 + s) (k + 1)) (k + 1) (nxt f n q) else (v, k, q)
def wshV (f : Nat → Nat) (n : Nat) (nm : Nat → Nat) (k0 c : Nat) : Nat → (Nat → Nat) → Nat → Nat → Sum (Nat × Nat) ((Nat → Nat) × Nat × Nat)
  | 0, _, _, q => .inl (1, q)
  | d + 1, v, k, q => if nmB f n q = true then (match fdN nm k0 f n q with
    | none => .inl (3, q)
    | some s => if fnd (fun i => v (564 + 4 * c + i) = s) 0 k = none then (if kdN f n (nxt f n q) = 1 then wshV f n nm k0 c d (updN (updN v (564 + 4 * c + k) s) (324 + c) (k + 1)) (k + 1) (nxt f n q) else .inr (updN (updN v (564 + 4 * c + k) s) (324 + c) (k + 1), k + 1, nxt f n q)) else .inl (3, q)) else .inl (1, q)
def nmW (nm : Nat → Nat) (f : Nat → Nat) (n q s k : Nat) : Nat → Nat := fun j => if 6 * s ≤ j ∧ j < 6 * s + k then ltr f n q (j - 6 * s) else nm j
def schE (f : Nat → Nat) (n : Nat) (v : Nat → Nat) (s : Nat) (nm : Nat → Nat) (o q : Nat) : QS := if rlN f n (rlV f n s 3 v 0 q).2.2 = none then .inr (updN (rlV f n s 3 v 0 q).1 0 (s + 1), nm, o, (rlV f n s 3 v 0 q).2.2) else .inl (1, (rlV f n s 3 v 0 q).2.2)
def schoolS (f : Nat → Nat) (n : Nat) (v nm : Nat → Nat) (o q : Nat) : QS :=
  if 8 ≤ v 0 then .inl (4, q) else
  if nmB f n (nxt f n q) = true then (match fdN nm (v 0) f n (nxt f n q) with
    | some _ => .inl (3, nxt f n q)
    | none => numS f n 0 40 (nxt f n (nxt f n q)) fun p q3 => numS f n 0 99 q3 fun x q4 => numS f n 0 99 q4 fun y q5 => schE f n (updN (updN (updN v (20 + v 0) p) (28 + v 0) x) (36 + v 0) y) (v 0) (nmW nm f n (nxt f n q) (v 0) 6) o q5)
  else .inl (1, nxt f n q)
def zoneS (f : Nat → Nat) (n : Nat) (v nm : Nat → Nat) (o q : Nat) : QS :=
  if nmB f n (nxt f n q) = true then (match fdN nm (v 0) f n (nxt f n q) with
    | none => .inl (3, nxt f n q)
    | some s => if v (52 + s) = 1 then .inl (3, nxt f n q) else numS f n 0 99 (nxt f n (nxt f n q)) fun a q2 => numS f n 0 99 q2 fun b q3 => numS f n a 99 q3 fun c q4 => numS f n b 99 q4 fun d q5 => .inr (updN (updN (updN (updN (updN v (52 + s) 1) (92 + 4 * s) a) (92 + 4 * s + 1) b) (92 + 4 * s + 2) c) (92 + 4 * s + 3) d, nm, o, q5))
  else .inl (1, nxt f n q)
def pupilS (f : Nat → Nat) (n : Nat) (v nm : Nat → Nat) (o q : Nat) : QS :=
  if 20 ≤ v 2 then .inl (4, q) else numS f n 1 99 (nxt f n q) fun a q2 => schS nm (v 0) f n q2 fun s q3 => .inr (updN (updN (updN v (724 + 2 * v 2) a) (724 + 2 * v 2 + 1) s) 2 (v 2 + 1), nm, o, q3)
def drwV (v : Nat → Nat) (c : Nat) : Nat → Nat := updN (updN v 11 ((v 11 * 1103515245 + 12345) % 2147483648)) (284 + c) ((v 11 * 1103515245 + 12345) % 2147483648 / 65536 % 10000)
def chiP (f : Nat → Nat) (n : Nat) (nm : Nat → Nat) (o c : Nat) (v : Nat → Nat) (q : Nat) : QS :=
  if wdN f n q = some 10 then (match wshV f n nm (v 0) c 4 v 0 (nxt f n q) with | .inl e => .inl e | .inr y => .inr (updN (drwV y.1 c) 1 (c + 1), nm, o, y.2.2)) else .inl (1, q)
def chiF (f : Nat → Nat) (n : Nat) (nm : Nat → Nat) (o c : Nat) (v : Nat → Nat) (q : Nat) : QS :=
  if wdN f n q = some 9 then numS f n 1 99 (nxt f n q) fun a q2 => chiP f n nm o c (updN v (204 + c) a) q2 else chiP f n nm o c v q
def chiC (f : Nat → Nat) (n : Nat) (nm : Nat → Nat) (o c : Nat) (v : Nat → Nat) (q : Nat) : QS :=
  if wdN f n q = some 7 then chiF f n nm o c (updN v (244 + c) 1) (nxt f n q) else chiF f n nm o c v q
def childS (f : Nat → Nat) (n : Nat) (v nm : Nat → Nat) (o q : Nat) : QS :=
  if 40 ≤ v 1 then .inl (4, q) else numS f n 0 99 (nxt f n q) fun x q2 => numS f n 0 99 q2 fun y q3 => chiC f n nm o (v 1) (updN (updN v (124 + v 1) x) (164 + v 1) y) q3
def setS (f : Nat → Nat) (n i hi : Nat) (v nm : Nat → Nat) (o q : Nat) : QS := numS f n 0 hi (nxt f n q) fun x q2 => .inr (updN v i x, nm, o, q2)
def seedS (f : Nat → Nat) (n : Nat) (v nm : Nat → Nat) (o q : Nat) : QS := if o &&& 1 = 0 ∧ v 1 = 0 then setS f n 11 999 v nm (o ||| 1) q else .inl (4, q)
def appeS (f : Nat → Nat) (n : Nat) (v nm : Nat → Nat) (o q : Nat) : QS := if o &&& 2 = 0 then setS f n 6 9 v nm (o ||| 2) q else .inl (4, q)
def lateS (f : Nat → Nat) (n : Nat) (v nm : Nat → Nat) (o q : Nat) : QS := if o &&& 4 = 0 then setS f n 7 1 v nm (o ||| 4) q else .inl (4, q)
def stS' (f : Nat → Nat) (n : Nat) (v nm : Nat → Nat) (o q : Nat) : QS :=
  if wdN f n q = some 0 then schoolS f n v nm o q else if wdN f n q = some 1 then zoneS f n v nm o q else if wdN f n q = some 2 then pupilS f n v nm o q
  else if wdN f n q = some 3 then childS f n v nm o q else if wdN f n q = some 4 then seedS f n v nm o q else if wdN f n q = some 5 then appeS f n v nm o q
  else if wdN f n q = some 6 then lateS f n v nm o q else .inl (1, q)
theorem nmW_0 {nm f : Nat → Nat} {n q s : Nat} : nmW nm f n q s 0 = nm := funext fun j => if_neg (by omega)
theorem nmW_s {nm f : Nat → Nat} {n q s k : Nat} : updN (nmW nm f n q s k) (6 * s + k) (ltr f n q k) = nmW nm f n q s (k + 1) := by
  funext j
  show (if j = 6 * s + k then ltr f n q k else nmW nm f n q s k j) = _
  unfold nmW
  by_cases c : j = 6 * s + k
  · rw [if_pos c, if_pos (by omega), show j - 6 * s = k by omega]
  · rw [if_neg c]
    by_cases c2 : 6 * s ≤ j ∧ j < 6 * s + k
    · rw [if_pos c2, if_pos (by omega)]
    · rw [if_neg c2, if_neg (by omega)]
end SPC
section RST
variable {B : Mem} {m : Nat} {g : Nat → Int32} {f : Nat → Nat} {n : Nat} {A : Nat → Nat → Int32} {v nm : Nat → Nat} {q : Nat}
def PE (B : Mem) (m : Nat) (g : Nat → Int32) (f : Nat → Nat) (n : Nat) (A : Nat → Nat → Int32) (x : QS) (r : Option (Int32 × Mem)) : Prop := match x with
  | .inl e => ∃ g' v' nm', r = some ((0 : Int32), RS B m g' f n A v' nm' e.2) ∧ g' 15 = nN e.1 ∧ g' 16 = nN e.2 ∧ ∀ i, i ≠ 15 → i ≠ 16 → i ≠ 21 → g' i = g i
  | .inr y => ∃ g', r = some ((1 : Int32), RS B m g' f n A y.1 y.2.1 y.2.2.2) ∧ g' 21 = nN y.2.2.1 ∧ ∀ i, i ≠ 21 → g' i = g i
theorem pe_f {c : Nat} {c' : Int32} (hc : c' = nN c) : PE B m g f n A (.inl (c, q)) (some ((0 : Int32), RS B m (gFl g c' q) f n A v nm q)) := by
  subst hc
  refine ⟨_, v, nm, rfl, rfl, rfl, fun i h1 h2 _ => ?_⟩
  show (if i = 16 then _ else if i = 15 then _ else g i) = g i
  rw [if_neg h2, if_neg h1]
theorem pe_ok {o : Nat} (ho : g 21 = nN o) : PE B m g f n A (.inr (v, nm, o, q)) (some ((1 : Int32), RS B m g f n A v nm q)) := ⟨g, rfl, ho, fun _ _ => rfl⟩
theorem PE.g21 {x : Int32} {y : QS} {r : Option (Int32 × Mem)} (h : PE B m (upd g 21 x) f n A y r) : PE B m g f n A y r := by
  have u : ∀ i, i ≠ 21 → upd g 21 x i = g i := fun i hi => if_neg hi
  cases y with
  | inl e =>
    obtain ⟨g', v', nm', h1, h2, h3, h4⟩ := h
    exact ⟨g', v', nm', h1, h2, h3, fun i a b c => (h4 i a b c).trans (u i c)⟩
  | inr e =>
    obtain ⟨g', h1, h2, h3⟩ := h
    exact ⟨g', h1, h2, fun i a => (h3 i a).trans (u i a)⟩
theorem PE.wr {x : QS} {r : Option (Int32 × Mem)} (h : PE B m g f n A x r) : PE B m g f n A x (ob2 r (fun v4 M5 => if v4 = 0 ∨ v4 = 1 then some (v4, M5) else none)) := by
  cases x with
  | inl e =>
    obtain ⟨g', v', nm', h1, hh⟩ := h
    exact ⟨g', v', nm', by rw [h1, ob2_def, if_pos (Or.inl rfl)], hh⟩
  | inr e =>
    obtain ⟨g', h1, hh⟩ := h
    exact ⟨g', by rw [h1, ob2_def, if_pos (Or.inr rfl)], hh⟩
theorem pe_num (h : TXE g A n f) (hq : q ≤ n) (h15 : g 15 = 0) {i lo hi : Nat} (hi1 : i < 764) (hi2 : ¬ (484 ≤ i ∧ i < 524)) (hlo : lo < 1000) (hhi : hi < 1000) {k : Nat → Nat → QS} {K : Int32 → Mem → Option (Int32 × Mem)} (hK : ∀ M, K 0 M = some ((0 : Int32), M)) (H : nuB f n q = true → (lo ≤ vlN f n q ∧ vlN f n q ≤ hi) → nxt f n q ≤ n → PE B m g f n A (k (vlN f n q) (nxt f n q)) (K 1 (RS B m g f n A (updN v i (vlN f n q)) nm (nxt f n q)))) : PE B m g f n A (numS f n lo hi q k) (ob2 (p_X7_takesInto m (nN i) (nN lo) (nN hi) (RS B m g f n A v nm q)) K) := by
  rw [r_into h hq h15 hi1 hi2 hlo hhi]
  unfold numS
  by_cases c : nuB f n q = true
  · rw [if_pos c, if_pos c]
    by_cases c2 : raB f n q lo hi = true
    · rw [if_pos c2, if_pos c2, ob2_def]
      exact H c (of_decide_eq_true c2) (nxt_b hq).2.1
    · rw [if_neg c2, if_neg c2, ob2_def, hK]
      exact pe_f rfl
  · rw [if_neg c, if_neg c, ob2_def, hK]
    exact pe_f rfl
theorem pe_sch (h : TXE g A n f) (hq : q ≤ n) (h15 : g 15 = 0) (h0 : v 0 ≤ 8) (hN : NMS nm (v 0)) {i : Nat} (hi1 : i < 764) (hi2 : ¬ (484 ≤ i ∧ i < 524)) {k : Nat → Nat → QS} {K : Int32 → Mem → Option (Int32 × Mem)} (hK : ∀ M, K 0 M = some ((0 : Int32), M)) (H : ∀ s, fdN nm (v 0) f n q = some s → nxt f n q ≤ n → PE B m g f n A (k s (nxt f n q)) (K 1 (RS B m g f n A (updN v i s) nm (nxt f n q)))) : PE B m g f n A (schS nm (v 0) f n q k) (ob2 (p_X7_takesSchool m (nN i) (RS B m g f n A v nm q)) K) := by
  rw [r_school h hq h15 h0 hN hi1 hi2]
  unfold schS
  by_cases c : nmB f n q = true
  · rw [if_pos c, if_pos c]
    cases hf : fdN nm (v 0) f n q with
    | none =>
      show PE B m g f n A (.inl (3, q)) (ob2 (some _) K)
      rw [ob2_def, hK]
      exact pe_f rfl
    | some s =>
      show PE B m g f n A (k s (nxt f n q)) (ob2 (some _) K)
      rw [ob2_def]
      exact H s hf (nxt_b hq).2.1
  · rw [if_neg c, if_neg c, ob2_def, hK]
    exact pe_f rfl
theorem vl_lt {hi : Nat} {lo : Nat} (h : lo ≤ vlN f n q ∧ vlN f n q ≤ hi) : vlN f n q ≤ hi := h.2
theorem r_setS (h : TXE g A n f) (hq : q ≤ n) (h15 : g 15 = 0) {o : Nat} (ho : g 21 = nN o) {i hi : Nat} (hi1 : i < 764) (hi2 : ¬ (484 ≤ i ∧ i < 524)) (hhi : hi < 1000) : PE B m g f n A (setS f n i hi v nm o q) (ob2 (p_X7_takesInto m (nN i) (nN 0) (nN hi) (RS B m g f n A v nm (nxt f n q))) (fun v11 M12 => if v11 = 0 then some ((0 : Int32), M12) else some ((1 : Int32), M12))) := by
  unfold setS
  refine pe_num h (nxt_b hq).2.1 h15 hi1 hi2 (by decide) hhi (fun M => if_pos rfl) (fun c1 c2 c3 => ?_)
  show PE B m g f n A _ (if (1 : Int32) = 0 then _ else _)
  rw [if_neg (by decide)]
  exact pe_ok ho
theorem r_once (h : TXE g A n f) (hq : q ≤ n) (h15 : g 15 = 0) {o a : Nat} (ho : g 21 = nN o) (h8 : o < 8) (ha : a = 1 ∨ a = 2 ∨ a = 4) {i hi : Nat} (hi1 : i < 764) (hi2 : ¬ (484 ≤ i ∧ i < 524)) (hhi : hi < 1000) : PE B m g f n A (if o &&& a = 0 then setS f n i hi v nm (o ||| a) q else .inl (4, q)) (ob2 (p_X7_startsOnce m (nN a) (RS B m g f n A v nm q)) (fun v26 M27 => if v26 = 0 then some ((0 : Int32), M27) else (Option.bind (isC 6 M27 m) fun _ => ob2 (p_X7_takesInto m (nN i) (nN 0) (nN hi) M27) (fun v11 M12 => if v11 = 0 then some ((0 : Int32), M12) else some ((1 : Int32), M12))))) := by
  have e1 : (nN o &&& nN a = 0) = (o &&& a = 0) := by
    have hd : ∀ x : Fin 8, ((nN x.val &&& nN 1 = 0) = (x.val &&& 1 = 0)) ∧ ((nN x.val &&& nN 2 = 0) = (x.val &&& 2 = 0)) ∧ ((nN x.val &&& nN 4 = 0) = (x.val &&& 4 = 0)) := by
      intro x
      have : ((nN x.val &&& nN 1 = 0) ↔ (x.val &&& 1 = 0)) ∧ ((nN x.val &&& nN 2 = 0) ↔ (x.val &&& 2 = 0)) ∧ ((nN x.val &&& nN 4 = 0) ↔ (x.val &&& 4 = 0)) := by revert x; decide +kernel
      exact ⟨propext this.1, propext this.2.1, propext this.2.2⟩
    have := hd ⟨o, h8⟩
    rcases ha with ha | ha | ha <;> subst ha
    · exact this.1
    · exact this.2.1
    · exact this.2.2
  have h' : TXE (upd g 21 (nN (o ||| a))) A n f := ⟨h.1, h.2⟩
  have h15' : upd g 21 (nN (o ||| a)) 15 = 0 := h15
  unfold p_X7_startsOnce
  rw [RS_21, bS, jn_def, ho]
  by_cases c : o &&& a = 0
  · rw [if_pos (show nN o &&& nN a = 0 by rw [e1]; exact c), if_pos c]
    refine PE.g21 (x := nN (o ||| a)) ?_
    show PE _ _ _ _ _ _ _ (ob2 (Option.bind (some (nN o)) _) _)
    rw [bS, orI, RS_w21, bS, RS_b, (r_starts h' hq h15').2, ob2_def, if_pos (Or.inr rfl), ob2_def, if_neg (by decide), RS_b]
    exact r_setS h' hq h15' rfl hi1 hi2 hhi
  · rw [if_neg (show ¬ nN o &&& nN a = 0 by rw [e1]; exact c), if_neg c]
    refine PE.g21 (x := nN (o ||| a)) ?_
    show PE _ _ _ _ _ _ _ (ob2 (Option.bind (some (nN o)) _) _)
    rw [bS, orI, RS_w21, bS, RS_b, (r_starts h' hq h15').1, ob2_def, if_pos (Or.inl rfl), ob2_def, if_pos rfl]
    exact pe_f rfl
theorem r_seed (h : TXE g A n f) (hq : q ≤ n) (h15 : g 15 = 0) {o : Nat} (ho : g 21 = nN o) (h8 : o < 8) (h1 : v 1 ≤ 40) : PE B m g f n A (seedS f n v nm o q) (p_X7_readSeed m (RS B m g f n A v nm q)) := by
  have e1 : (nN o &&& (1 : Int32) = 0) = (o &&& 1 = 0) := by
    have hd : ∀ x : Fin 8, ((nN x.val &&& (1 : Int32) = 0) ↔ (x.val &&& 1 = 0)) := by decide +kernel
    exact propext (hd ⟨o, h8⟩)
  have h' : TXE (upd g 21 (nN (o ||| 1))) A n f := ⟨h.1, h.2⟩
  have h15' : upd g 21 (nN (o ||| 1)) 15 = 0 := h15
  have eo : nN o ||| (1 : Int32) = nN (o ||| 1) := orI o 1
  have r1 : aI 0 (RS B m g f n A v nm q) (m + 1) (1 : Int32) = some (nN (v 1)) := RS_rd (i := 1) (by decide) (by decide)
  have bad : PE B m g f n A (.inl (4, q)) (Option.bind (some (nN o)) fun v4 => Option.bind (sV 6 21 (RS B m g f n A v nm q) m (.int (v4 ||| (1 : Int32)))) fun M5 => Option.bind (isC 6 M5 m) fun _ => ob2 (p_X7_starts m (0 : Int32) M5) fun v7 M8 => if v7 = 0 then some ((0 : Int32), M8) else Option.bind (isC 6 M8 m) fun _ => ob2 (p_X7_takesInto m (11 : Int32) (0 : Int32) (999 : Int32) M8) fun v11 M12 => if v11 = 0 then some ((0 : Int32), M12) else some ((1 : Int32), M12)) := by
    refine PE.g21 (x := nN (o ||| 1)) ?_
    rw [bS, eo, RS_w21, bS, RS_b, (r_starts h' hq h15').1, ob2_def, if_pos rfl]
    exact pe_f rfl
  unfold p_X7_readSeed seedS
  rw [RS_21, bS, jn_def, ho, RS_0]
  by_cases c : o &&& 1 = 0
  · rw [if_pos (show nN o &&& (1 : Int32) = 0 by rw [e1]; exact c), bS, r1, bS]
    by_cases c2 : v 1 = 0
    · rw [if_pos (show nN (v 1) = (0 : Int32) by rw [c2]; rfl), if_pos ⟨c, c2⟩]
      refine PE.g21 (x := nN (o ||| 1)) ?_
      show PE _ _ _ _ _ _ _ (Option.bind (some (nN o)) _)
      rw [bS, eo, RS_w21, bS, RS_b, (r_starts h' hq h15').2, ob2_def, if_neg (by decide), RS_b]
      exact r_setS (i := 11) (hi := 999) h' hq h15' rfl (by decide) (by decide) (by decide)
    · rw [if_neg (show ¬ nN (v 1) = (0 : Int32) from neq_f (b := 0) (by omega) (by omega) c2), if_neg (fun w => c2 w.2)]
      exact bad
  · rw [if_neg (show ¬ nN o &&& (1 : Int32) = 0 by rw [e1]; exact c), if_neg (fun w => c w.1)]
    exact bad
theorem r_pupil (h : TXE g A n f) (hq : q ≤ n) (h15 : g 15 = 0) {o : Nat} (ho : g 21 = nN o) (h0 : v 0 ≤ 8) (h2 : v 2 ≤ 20) (hN : NMS nm (v 0)) : PE B m g f n A (pupilS f n v nm o q) (p_X7_readPupil m (RS B m g f n A v nm q)) := by
  have r2 : aI 0 (RS B m g f n A v nm q) (m + 1) (2 : Int32) = some (nN (v 2)) := RS_rd (i := 2) (by decide) (by decide)
  unfold p_X7_readPupil pupilS
  rw [RS_0, bS, r2, bS, jn_def]
  by_cases c : 20 ≤ v 2
  · rw [if_pos (show (20 : Int32) ≤ nN (v 2) from nle_t (a := 20) (by omega) (by omega) c), if_pos c]
    show PE B m g f n A _ (Option.bind (isC 6 (RS B m g f n A v nm q) m) _)
    rw [RS_b, (r_starts h hq h15).1, ob2_def, if_pos rfl]
    exact pe_f rfl
  · rw [if_neg (show ¬ (20 : Int32) ≤ nN (v 2) from nle_f (a := 20) (by omega) (by omega) c), if_neg c]
    have ei : (724 : Int32) + (2 : Int32) * nN (v 2) = nN (724 + 2 * v 2) := by
      have a1 : (2 : Int32) * nN (v 2) = nN (2 * v 2) := nN_mul 2 (v 2)
      have a2 : (724 : Int32) + nN (2 * v 2) = nN (724 + 2 * v 2) := nN_add 724 (2 * v 2)
      rw [a1, a2]
    have ej : nN (724 + 2 * v 2) + (1 : Int32) = nN (724 + 2 * v 2 + 1) := nN_add _ 1
    have ek : nN (v 2) + (1 : Int32) = nN (v 2 + 1) := nN_add _ 1
    show PE B m g f n A _ (Option.bind (isC 6 (RS B m g f n A v nm q) m) _)
    rw [RS_b, (r_starts h hq h15).2, ob2_def, if_neg (by decide), RS_b, ei, ej]
    refine pe_num (lo := 1) (hi := 99) h (nxt_b hq).2.1 h15 (by omega) (by omega) (by decide) (by decide) (fun M => if_pos rfl) (fun c1 c2 c3 => ?_)
    show PE B m g f n A _ (if (1 : Int32) = 0 then _ else _)
    rw [if_neg (by decide), RS_b]
    have u0 : ∀ x, updN v (724 + 2 * v 2) x 0 = v 0 := fun x => if_neg (by omega)
    rw [← u0 (vlN f n (nxt f n q))]
    refine pe_sch h c3 h15 (by rw [u0]; exact h0) (by rw [u0]; exact hN) (by omega) (by omega) (fun M => if_pos rfl) (fun s hs c4 => ?_)
    show PE B m g f n A _ (if (1 : Int32) = 0 then _ else _)
    rw [if_neg (by decide), RS_0, bS]
    have r2' : ∀ x y w z, aI 0 (RS B m g f n A (updN (updN v (724 + 2 * v 2) x) (724 + 2 * v 2 + 1) y) w z) (m + 1) (2 : Int32) = some (nN (v 2)) := fun x y w z => by
      have := RS_rd (B := B) (m := m) (g := g) (f := f) (n := n) (A := A) (v := updN (updN v (724 + 2 * v 2) x) (724 + 2 * v 2 + 1) y) (nm := w) (q := z) (i := 2) (by decide) (by decide)
      have e : updN (updN v (724 + 2 * v 2) x) (724 + 2 * v 2 + 1) y 2 = v 2 := (if_neg (by omega)).trans (if_neg (by omega))
      rw [e] at this
      exact this
    have w2 : ∀ (V : Nat → Nat) x z, aIs (RS B m g f n A V nm z) (m + 1) (2 : Int32) (nN x) = some (RS B m g f n A (updN V 2 x) nm z) := fun V x z => RS_wr (i := 2) (by decide) (by decide)
    rw [r2', bS, ek, w2, bS]
    exact pe_ok ho
end RST
