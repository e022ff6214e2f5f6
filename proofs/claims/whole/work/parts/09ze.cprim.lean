/-! the setup text: the class's small steps -/
section SP
def nxt (f : Nat → Nat) (n q : Nat) : Nat := nxN f n (enN f n q)
def nmB (f : Nat → Nat) (n q : Nat) : Bool := decide (kdN f n q = 1 ∧ enN f n q - q ≤ 6 ∧ wdN f n q = none)
def ltr (f : Nat → Nat) (n q i : Nat) : Nat := if i < enN f n q - q then f (q + i) else 0
def smC (nm : Nat → Nat) (f : Nat → Nat) (n q s k : Nat) : Bool := decide (∀ i, i < k → nm (6 * s + i) = ltr f n q i)
def smB (nm : Nat → Nat) (f : Nat → Nat) (n q s : Nat) : Bool := smC nm f n q s 6
/-- the words' addresses differ -/
def ZI (Z : gZ) : Prop := ∀ i j, i < 11 → j < 11 → Z.2.2.1 i = Z.2.2.1 j → i = j
def fdN (nm : Nat → Nat) (k : Nat) (f : Nat → Nat) (n q : Nat) : Option Nat := fnd (fun s => smB nm f n q s = true) 0 k
def nuB (f : Nat → Nat) (n q : Nat) : Bool := decide (kdN f n q = 2 ∧ enN f n q - q ≤ 3)
def raB (f : Nat → Nat) (n q lo hi : Nat) : Bool := decide (lo ≤ vlN f n q ∧ vlN f n q ≤ hi)
variable {f : Nat → Nat} {n q : Nat}
theorem nxt_b (h : q ≤ n) : q ≤ nxt f n q ∧ nxt f n q ≤ n ∧ (kdN f n q ≠ 0 → q < nxt f n q) := by
  have e := enN_b (f := f) h
  have x := nxN_b (f := f) (p := enN f n q) e.2.1
  unfold nxt
  exact ⟨by omega, x.2, fun h2 => by have := e.2.2 h2; omega⟩
/-- letters, then zeros: equal numbers are equal names -/
theorem code_inj {F G : Nat → Nat} {l l' : Nat} (h1 : l ≤ 6) (h2 : l' ≤ 6) (hF : ∀ i, i < l → 97 ≤ F i ∧ F i ≤ 122) (hF0 : ∀ i, l ≤ i → i < 6 → F i = 0) (hG : ∀ i, i < l' → 97 ≤ G i ∧ G i ≤ 122) (hG0 : ∀ i, l' ≤ i → i < 6 → G i = 0) (h : codeN F l = codeN G l') : ∀ i, i < 6 → F i = G i := by
  have a := code_dg l hF
  have b := code_dg l' hG
  have hl : l = l' := by
    rcases Nat.lt_trichotomy l l' with c | c | c
    · have e1 := a l
      have e2 := b l
      rw [h, e2, if_pos c, if_neg (Nat.lt_irrefl _)] at e1
      have := hG (l' - 1 - l) (by omega)
      omega
    · exact c
    · have e1 := a l'
      have e2 := b l'
      rw [h, e2, if_pos c, if_neg (Nat.lt_irrefl _)] at e1
      have := hF (l - 1 - l') (by omega)
      omega
  subst hl
  intro i hi
  by_cases c : i < l
  · have e1 := a (l - 1 - i)
    have e2 := b (l - 1 - i)
    rw [h, e2, if_pos (by omega), if_pos (by omega), show l - 1 - (l - 1 - i) = i by omega] at e1
    have := hF i c
    have := hG i c
    omega
  · rw [hF0 i (by omega) hi, hG0 i (by omega) hi]
theorem nm_ltr (h : nmB f n q = true) (hn : q ≤ n) : (1 ≤ enN f n q - q ∧ enN f n q - q ≤ 6) ∧ (∀ i, i < enN f n q - q → 97 ≤ f (q + i) ∧ f (q + i) ≤ 122) := by
  obtain ⟨h1, h2, h3⟩ := of_decide_eq_true h
  have e := enN_b (f := f) hn
  have := e.2.2 (by omega)
  refine ⟨by omega, fun i hi => ?_⟩
  have t := tok_in (f := f) (n := n) (st := q) (i := q + i) (Or.inl h1) (by omega) (by omega)
  rw [h1] at t
  exact kdC_1.mp t.2
theorem cd_eq {nm : Nat → Nat} {k s : Nat} (hN : NMS nm k) (hs : s < k) (h : nmB f n q = true) (hn : q ≤ n) : (cdS nm s = codeN (fun i => f (q + i)) (enN f n q - q)) ↔ smB nm f n q s = true := by
  obtain ⟨a1, a2⟩ := nm_ltr h hn
  obtain ⟨l, l1, l2, l3, l4⟩ := hN s hs
  have ec : cdS nm s = codeN (fun i => nm (6 * s + i)) l := by
    have := code_cut (f := fun i => nm (6 * s + i)) (l := l) (6 - l) (fun i h1 h2 => l4 i h1 (by omega))
    rw [show l + (6 - l) = 6 by omega] at this
    exact this
  have el : codeN (fun i => f (q + i)) (enN f n q - q) = codeN (fun i => ltr f n q i) (enN f n q - q) := by
    have key : ∀ m, m ≤ enN f n q - q → codeN (fun i => f (q + i)) m = codeN (fun i => ltr f n q i) m := by
      intro m
      induction m with
      | zero => intro _; rfl
      | succ m ih =>
        intro hm
        have e0 : ltr f n q m = f (q + m) := by unfold ltr; rw [if_pos (by omega)]
        show (if f (q + m) = 0 then codeN _ m else codeN _ m * 32 + (f (q + m) - 96)) = (if ltr f n q m = 0 then codeN _ m else codeN _ m * 32 + (ltr f n q m - 96))
        rw [e0, ih (by omega)]
    exact key _ (Nat.le_refl _)
  constructor
  · intro he
    rw [ec, el] at he
    refine decide_eq_true (p := ∀ i, i < 6 → nm (6 * s + i) = ltr f n q i) (code_inj l2 a1.2 l3 l4 (fun i hi => by
      show 97 ≤ ltr f n q i ∧ ltr f n q i ≤ 122
      unfold ltr; rw [if_pos hi]; exact a2 i hi) (fun i h1 h2 => by unfold ltr; rw [if_neg (by omega)]) he)
  · intro he
    have he : ∀ i, i < 6 → nm (6 * s + i) = ltr f n q i := of_decide_eq_true he
    have e6 : cdS nm s = codeN (fun i => ltr f n q i) 6 := by
      show codeN (fun i => nm (6 * s + i)) 6 = _
      have key : ∀ m, m ≤ 6 → codeN (fun i => nm (6 * s + i)) m = codeN (fun i => ltr f n q i) m := by
        intro m
        induction m with
        | zero => intro _; rfl
        | succ m ih =>
          intro hm
          have e0 : nm (6 * s + m) = ltr f n q m := he m (by omega)
          show (if nm (6 * s + m) = 0 then codeN _ m else codeN _ m * 32 + (nm (6 * s + m) - 96)) = (if ltr f n q m = 0 then codeN _ m else codeN _ m * 32 + (ltr f n q m - 96))
          rw [e0, ih (by omega)]
      exact key 6 (Nat.le_refl _)
    have := code_cut (f := fun i => ltr f n q i) (l := enN f n q - q) (6 - (enN f n q - q)) (fun i h1 h2 => by unfold ltr; rw [if_neg (by omega)])
    rw [show enN f n q - q + (6 - (enN f n q - q)) = 6 by omega] at this
    rw [e6, this, el]
end SP
section CP3
def T3 (Z : gZ) (f : Nat → Nat) (n : Nat) (M : Mem) (a t2 : Nat) (er eo : Int32) (rr : Nat) (b5 b6 b7 : Int32) (q : Nat) : Mem := RW M a t2 (nN n) er eo rr b5 b6 b7 (nN (kdN f n q)) (nN q) (nN (enN f n q)) (va_rf ((wdN f n q).map Z.2.2.1))
variable {Z : gZ} {M : Mem} {a t2 n : Nat} {f : Nat → Nat} {er eo : Int32} {rr : Nat} {b5 b6 b7 : Int32} {q : Nat}
theorem c_nxt (h : TXT M t2 n f) (ht : t2 ≠ a) (hq : q ≤ n) : p_X3_advance Z a (T3 Z f n M a t2 er eo rr b5 b6 b7 q) = some (T3 Z f n M a t2 er eo rr b5 b6 b7 (nxt f n q)) := by
  have e := enN_b (f := f) hq
  exact c_adv h ht e.2.1
theorem t3_C : isC 3 (T3 Z f n M a t2 er eo rr b5 b6 b7 q) a = some () := rw_C
theorem t3_4 : gR 3 4 (T3 Z f n M a t2 er eo rr b5 b6 b7 q) a = some rr := rg_4
theorem t3_8 : gI 3 8 (T3 Z f n M a t2 er eo rr b5 b6 b7 q) a = some (nN (kdN f n q)) := rg_8
theorem t3_2 : gI 3 2 (T3 Z f n M a t2 er eo rr b5 b6 b7 q) a = some er := rg_2
theorem t3_11 : gN 3 11 (T3 Z f n M a t2 er eo rr b5 b6 b7 q) a = some ((wdN f n q).map Z.2.2.1) := rg_11
theorem t3_o {x : Nat} (h : x ≠ a) : (T3 Z f n M a t2 er eo rr b5 b6 b7 q) x = M x := rw_o h
theorem wd_is (hZ : ZI Z) {i : Nat} (hi : i < 11) : ((wdN f n q).map Z.2.2.1 = some (Z.2.2.1 i)) = (wdN f n q = some i) := by
  cases hw : wdN f n q with
  | none => exact propext ⟨fun h => (by cases h), fun h => (by cases h)⟩
  | some j =>
    have hj := wdN_lt hw
    refine propext ⟨fun h => ?_, fun h => by rw [h]; rfl⟩
    have : Z.2.2.1 j = Z.2.2.1 i := Option.some.inj h
    rw [hZ j i hj hi this]
theorem c_fail (c : Int32) : p_X3_fail a c (T3 Z f n M a t2 er eo rr b5 b6 b7 q) = some (T3 Z f n M a t2 c (nN q) rr b5 b6 b7 q) := by
  unfold p_X3_fail T3
  rw [rs_2, bS, rg_9, bS, rs_3, bS]
theorem c_sem (h : TXT M t2 n f) (ht : t2 ≠ a) (hq : q ≤ n) : p_X3_passSemicolon Z a (T3 Z f n M a t2 er eo rr b5 b6 b7 q) = if kdN f n q = 3 then some ((1 : Int32), T3 Z f n M a t2 er eo rr b5 b6 b7 (nxt f n q)) else some ((0 : Int32), T3 Z f n M a t2 1 (nN q) rr b5 b6 b7 q) := by
  have h4 := kdN_4 (f := f) (n := n) (st := q)
  unfold p_X3_passSemicolon
  rw [t3_8, bS]
  by_cases c : kdN f n q = 3
  · rw [if_pos (show nN (kdN f n q) = (3 : Int32) by rw [c]; rfl), t3_C, bS, c_nxt h ht hq, bS, if_pos c]
  · rw [if_neg (show ¬ nN (kdN f n q) = (3 : Int32) from neq_f (b := 3) (by omega) (by omega) c), t3_C, bS, c_fail, bS, if_neg c]
theorem c_pw (hZ : ZI Z) (h : TXT M t2 n f) (ht : t2 ≠ a) (hq : q ≤ n) {i : Nat} (hi : i < 11) : p_X3_passWord Z a (some (Z.2.2.1 i)) (T3 Z f n M a t2 er eo rr b5 b6 b7 q) = if wdN f n q = some i then some ((1 : Int32), T3 Z f n M a t2 er eo rr b5 b6 b7 (nxt f n q)) else some ((0 : Int32), (T3 Z f n M a t2 er eo rr b5 b6 b7 q)) := by
  unfold p_X3_passWord
  rw [t3_11, bS]
  by_cases c : wdN f n q = some i
  · rw [if_pos (show (wdN f n q).map Z.2.2.1 = some (Z.2.2.1 i) by rw [wd_is hZ hi]; exact c), t3_C, bS, c_nxt h ht hq, bS, if_pos c]
  · rw [if_neg (show ¬ (wdN f n q).map Z.2.2.1 = some (Z.2.2.1 i) by rw [wd_is hZ hi]; exact c), if_neg c]
theorem c_n36 (h : TXT M t2 n f) (ht : t2 ≠ a) (hq : q ≤ n) (hk : kdN f n q = 2) (hl : enN f n q - q ≤ 3) (k1 : Int32 → Option (Int32 × Mem)) (f1 f2 : Int32) : ∀ d i fu, i + d = enN f n q → q ≤ i → d < fu → pl_X3_readNumber_36 Z k1 a f1 f2 (T3 Z f n M a t2 er eo rr b5 b6 b7 q) fu (nN (vlF f q (i - q))) (nN i) = k1 (nN (vlF f q (enN f n q - q))) := by
  have e := enN_b (f := f) hq
  have hn := h.le
  intro d
  induction d with
  | zero =>
    intro i fu hi hs hf
    obtain ⟨F, rfl⟩ : ∃ F, fu = F + 1 := ⟨fu - 1, by omega⟩
    have r10 : gI 3 10 (T3 Z f n M a t2 er eo rr b5 b6 b7 q) a = some (nN (enN f n q)) := rg_10
    rw [pl_X3_readNumber_36, r10, bS, if_pos (nle_t (by omega) (by omega) (by omega)), show i = enN f n q by omega]
  | succ d ih =>
    intro i fu hi hs hf
    obtain ⟨F, rfl⟩ : ∃ F, fu = F + 1 := ⟨fu - 1, by omega⟩
    have r10 : gI 3 10 (T3 Z f n M a t2 er eo rr b5 b6 b7 q) a = some (nN (enN f n q)) := rg_10
    have r0 : gR 3 0 (T3 Z f n M a t2 er eo rr b5 b6 b7 q) a = some t2 := rg_0
    have ek : nN i + (1 : Int32) = nN (i + 1) := nN_add i 1
    have t := tok_in (f := f) (n := n) (st := q) (i := i) (Or.inr hk) hs (by omega)
    rw [hk] at t
    have hd := kdC_2.mp t.2
    have rt : aI 1 (T3 Z f n M a t2 er eo rr b5 b6 b7 q) t2 (nN i) = some (sbI (f i)) := rw_td h ht t.1
    have hv := vlF_lt (f := f) (st := q) (i - q) (fun j hj => by
      have t2 := tok_in (f := f) (n := n) (st := q) (i := q + j) (Or.inr hk) (by omega) (by omega)
      rw [hk] at t2
      have := kdC_2.mp t2.2
      omega)
    have hp : 10 ^ (i - q) ≤ 10 ^ 3 := Nat.pow_le_pow_right (by decide) (by omega)
    have h103 : 10 ^ 3 = 1000 := by decide
    have ev : ((nN (vlF f q (i - q)) * (10 : Int32)) + nN (f i)) - (48 : Int32) = nN (vlF f q (i + 1 - q)) := by
      rw [show (10 : Int32) = nN 10 from rfl, nN_mul, nN_add, show (48 : Int32) = nN 48 from rfl, nN_subN (by omega), show i + 1 - q = (i - q) + 1 by omega]
      show _ = nN (10 * vlF f q (i - q) + (f (q + (i - q)) - 48))
      rw [show q + (i - q) = i by omega]
      congr 1
      omega
    rw [pl_X3_readNumber_36, r10, bS, if_neg (nle_f (by omega) (by omega) (by omega)), r0, bS, rt, bS, sb_low (by omega), ev, ek, ih (i + 1) F (by omega) (by omega) (by omega)]
theorem c_num (h : TXT M t2 n f) (ht : t2 ≠ a) (hq : q ≤ n) {lo hi : Nat} (hlo : lo < 1000) (hhi : hi < 1000) : p_X3_readNumber Z a (nN lo) (nN hi) (T3 Z f n M a t2 er eo rr b5 b6 b7 q) = if nuB f n q = true then (if raB f n q lo hi = true then some (nN (vlN f n q), T3 Z f n M a t2 er eo rr b5 b6 b7 (nxt f n q)) else some ((-1 : Int32), T3 Z f n M a t2 2 (nN q) rr b5 b6 b7 q)) else some ((-1 : Int32), T3 Z f n M a t2 1 (nN q) rr b5 b6 b7 q) := by
  have e := enN_b (f := f) hq
  have hn := h.le
  have h4 := kdN_4 (f := f) (n := n) (st := q)
  have r10 : gI 3 10 (T3 Z f n M a t2 er eo rr b5 b6 b7 q) a = some (nN (enN f n q)) := rg_10
  have r9 : gI 3 9 (T3 Z f n M a t2 er eo rr b5 b6 b7 q) a = some (nN q) := rg_9
  have es : nN (enN f n q) - nN q = nN (enN f n q - q) := nN_subN e.1
  unfold p_X3_readNumber
  rw [t3_8, bS, jn_def]
  by_cases c : kdN f n q = 2
  · rw [if_pos (show nN (kdN f n q) = (2 : Int32) by rw [c]; rfl), r10, bS, r9, bS, es]
    by_cases c2 : enN f n q - q ≤ 3
    · have hnu : nuB f n q = true := decide_eq_true ⟨c, c2⟩
      have hv : vlN f n q = vlF f q (enN f n q - q) := by
        unfold vlN m3; rw [if_pos c, if_pos c2]
      have hvl := vlF_lt (f := f) (st := q) (enN f n q - q) (fun j hj => by
        have t2 := tok_in (f := f) (n := n) (st := q) (i := q + j) (Or.inr c) (by omega) (by omega)
        rw [c] at t2
        have := kdC_2.mp t2.2
        omega)
      have hp : 10 ^ (enN f n q - q) ≤ 10 ^ 3 := Nat.pow_le_pow_right (by decide) c2
      have h103 : 10 ^ 3 = 1000 := by decide
      have q36 := c_n36 (Z := Z) (er := er) (eo := eo) (rr := rr) (b5 := b5) (b6 := b6) (b7 := b7) h ht hq c c2 (fun z14 => jn (fun (_ : Unit) => Option.bind (isC 3 (T3 Z f n M a t2 er eo rr b5 b6 b7 q) a) fun _ => Option.bind (p_X3_fail a (2 : Int32) (T3 Z f n M a t2 er eo rr b5 b6 b7 q)) fun M17 => some ((-1 : Int32), M17)) fun k15 => if z14 < nN lo then k15 () else if z14 ≤ nN hi then Option.bind (isC 3 (T3 Z f n M a t2 er eo rr b5 b6 b7 q) a) fun _ => Option.bind (p_X3_advance Z a (T3 Z f n M a t2 er eo rr b5 b6 b7 q)) fun M21 => some (z14, M21) else k15 ()) (nN lo) (nN hi) (enN f n q - q) q FU (by omega) (Nat.le_refl _) (FU_pos (by omega))
      rw [Nat.sub_self, ← hv] at q36
      rw [if_pos (show nN (enN f n q - q) ≤ (3 : Int32) from nle_t (b := 3) (by omega) (by omega) c2), bS, if_pos hnu]
      refine Eq.trans q36 ?_
      rw [jn_def]
      have k2 : ∀ u : Unit, (fun (_ : Unit) => Option.bind (isC 3 (T3 Z f n M a t2 er eo rr b5 b6 b7 q) a) fun _ => Option.bind (p_X3_fail a (2 : Int32) (T3 Z f n M a t2 er eo rr b5 b6 b7 q)) fun M17 => some ((-1 : Int32), M17)) u = some ((-1 : Int32), T3 Z f n M a t2 2 (nN q) rr b5 b6 b7 q) := fun u => by
        show Option.bind (isC 3 (T3 Z f n M a t2 er eo rr b5 b6 b7 q) a) _ = _
        rw [t3_C, bS, c_fail, bS]
      by_cases c3 : lo ≤ vlN f n q
      · rw [if_neg (nlt_f (by omega) (by omega) (by omega))]
        by_cases c4 : vlN f n q ≤ hi
        · rw [if_pos (nle_t (by omega) (by omega) c4), t3_C, bS, c_nxt h ht hq, bS, if_pos (show raB f n q lo hi = true from decide_eq_true ⟨c3, c4⟩)]
        · rw [if_neg (nle_f (by omega) (by omega) c4), k2 (), if_neg (fun w => c4 (of_decide_eq_true w).2)]
      · rw [if_pos (nlt_t (by omega) (by omega) (by omega)), k2 (), if_neg (fun w => c3 (of_decide_eq_true w).1)]
    · rw [if_neg (show ¬ nN (enN f n q - q) ≤ (3 : Int32) from nle_f (b := 3) (by omega) (by omega) c2), if_neg (show ¬ nuB f n q = true from fun w => c2 (of_decide_eq_true w).2)]
      show Option.bind (isC 3 (T3 Z f n M a t2 er eo rr b5 b6 b7 q) a) _ = _
      rw [t3_C, bS, c_fail, bS]
  · rw [if_neg (show ¬ nN (kdN f n q) = (2 : Int32) from neq_f (b := 2) (by omega) (by omega) c), if_neg (show ¬ nuB f n q = true from fun w => c (of_decide_eq_true w).1)]
    show Option.bind (isC 3 (T3 Z f n M a t2 er eo rr b5 b6 b7 q) a) _ = _
    rw [t3_C, bS, c_fail, bS]
theorem c_n43 (h : TXT M t2 n f) (ht : t2 ≠ a) (hq : q ≤ n) (hb : nmB f n q = true) (k1 : Int32 → Option (Int32 × Mem)) : ∀ d i fu, i + d = enN f n q → q ≤ i → d < fu → pl_X3_nameHere_43 k1 a (T3 Z f n M a t2 er eo rr b5 b6 b7 q) fu (nN (codeN (fun j => f (q + j)) (i - q))) (nN i) = k1 (nN (codeN (fun j => f (q + j)) (enN f n q - q))) := by
  have e := enN_b (f := f) hq
  have hn := h.le
  obtain ⟨a1, a2⟩ := nm_ltr hb hq
  intro d
  induction d with
  | zero =>
    intro i fu hi hs hf
    obtain ⟨F, rfl⟩ : ∃ F, fu = F + 1 := ⟨fu - 1, by omega⟩
    have r10 : gI 3 10 (T3 Z f n M a t2 er eo rr b5 b6 b7 q) a = some (nN (enN f n q)) := rg_10
    rw [pl_X3_nameHere_43, r10, bS, if_pos (nle_t (by omega) (by omega) (by omega)), show i = enN f n q by omega]
  | succ d ih =>
    intro i fu hi hs hf
    obtain ⟨F, rfl⟩ : ∃ F, fu = F + 1 := ⟨fu - 1, by omega⟩
    have r10 : gI 3 10 (T3 Z f n M a t2 er eo rr b5 b6 b7 q) a = some (nN (enN f n q)) := rg_10
    have r0 : gR 3 0 (T3 Z f n M a t2 er eo rr b5 b6 b7 q) a = some t2 := rg_0
    have ek : nN i + (1 : Int32) = nN (i + 1) := nN_add i 1
    have hd := a2 (i - q) (by omega)
    rw [show q + (i - q) = i by omega] at hd
    have rt : aI 1 (T3 Z f n M a t2 er eo rr b5 b6 b7 q) t2 (nN i) = some (sbI (f i)) := rw_td h ht (by omega)
    have hc := code_lt (f := fun j => f (q + j)) (i - q) (fun j hj => (a2 j (by omega)).2)
    have hp : 32 ^ (i - q) ≤ 32 ^ 5 := Nat.pow_le_pow_right (by decide) (by omega)
    have h325 : 32 ^ 5 = 33554432 := by decide
    have e1 : nN (codeN (fun j => f (q + j)) (i - q)) <<< ((5 : Int32) &&& 31) = nN (codeN (fun j => f (q + j)) (i - q) * 2 ^ 5) := pk_shlN (n := codeN (fun j => f (q + j)) (i - q)) ((5 : Int32) &&& 31) 5 (by decide) (by omega)
    have e2 : (nN (f i) - (97 : Int32)) + (1 : Int32) = nN (f i - 96) := by
      rw [show (97 : Int32) = nN 97 from rfl, nN_subN (by omega), show nN (f i - 97) + (1 : Int32) = nN (f i - 97 + 1) from nN_add _ 1, show f i - 97 + 1 = f i - 96 by omega]
    have e3 : codeN (fun j => f (q + j)) (i + 1 - q) = codeN (fun j => f (q + j)) (i - q) * 32 + (f i - 96) := by
      rw [show i + 1 - q = (i - q) + 1 by omega]
      show (if f (q + (i - q)) = 0 then codeN (fun j => f (q + j)) (i - q) else codeN (fun j => f (q + j)) (i - q) * 32 + (f (q + (i - q)) - 96)) = _
      rw [show q + (i - q) = i by omega, if_neg (by omega)]
    rw [pl_X3_nameHere_43, r10, bS, if_neg (nle_f (by omega) (by omega) (by omega)), r0, bS, rt, bS, sb_low (by omega), e1, e2, orI, ek, Nat.mul_comm _ (2 ^ 5), ← Nat.two_pow_add_eq_or_of_lt (show f i - 96 < 2 ^ 5 by omega), show 2 ^ 5 * codeN (fun j => f (q + j)) (i - q) + (f i - 96) = codeN (fun j => f (q + j)) (i + 1 - q) by rw [e3]; omega, ih (i + 1) F (by omega) (by omega) (by omega)]
theorem c_nm (h : TXT M t2 n f) (ht : t2 ≠ a) (hq : q ≤ n) : p_X3_nameHere a (T3 Z f n M a t2 er eo rr b5 b6 b7 q) = if nmB f n q = true then some (nN (codeN (fun j => f (q + j)) (enN f n q - q)), (T3 Z f n M a t2 er eo rr b5 b6 b7 q)) else some ((-1 : Int32), T3 Z f n M a t2 1 (nN q) rr b5 b6 b7 q) := by
  have e := enN_b (f := f) hq
  have hn := h.le
  have h4 := kdN_4 (f := f) (n := n) (st := q)
  have r10 : gI 3 10 (T3 Z f n M a t2 er eo rr b5 b6 b7 q) a = some (nN (enN f n q)) := rg_10
  have r9 : gI 3 9 (T3 Z f n M a t2 er eo rr b5 b6 b7 q) a = some (nN q) := rg_9
  have es : nN (enN f n q) - nN q = nN (enN f n q - q) := nN_subN e.1
  unfold p_X3_nameHere
  rw [t3_8, bS, jn_def]
  by_cases c : kdN f n q = 1
  · rw [if_pos (show nN (kdN f n q) = (1 : Int32) by rw [c]; rfl), t3_11, bS]
    by_cases c1 : wdN f n q = none
    · rw [if_pos (show (wdN f n q).map Z.2.2.1 = none by rw [c1]; rfl), r10, bS, r9, bS, es]
      by_cases c2 : enN f n q - q ≤ 6
      · have hb : nmB f n q = true := decide_eq_true ⟨c, c2, c1⟩
        have q43 := c_n43 (Z := Z) (er := er) (eo := eo) (rr := rr) (b5 := b5) (b6 := b6) (b7 := b7) h ht hq hb (fun z16 => some (z16, (T3 Z f n M a t2 er eo rr b5 b6 b7 q))) (enN f n q - q) q FU (by omega) (Nat.le_refl _) (FU_pos (by omega))
        rw [Nat.sub_self] at q43
        rw [if_pos (show nN (enN f n q - q) ≤ (6 : Int32) from nle_t (b := 6) (by omega) (by omega) c2), bS, if_pos hb]
        exact q43
      · rw [if_neg (show ¬ nN (enN f n q - q) ≤ (6 : Int32) from nle_f (b := 6) (by omega) (by omega) c2), if_neg (show ¬ nmB f n q = true from fun w => c2 (of_decide_eq_true w).2.1)]
        show Option.bind (isC 3 (T3 Z f n M a t2 er eo rr b5 b6 b7 q) a) _ = _
        rw [t3_C, bS, c_fail, bS]
    · have c1' : ¬ (wdN f n q).map Z.2.2.1 = none := fun w => c1 (by
        cases hw : wdN f n q with
        | none => rfl
        | some j => rw [hw] at w; cases w)
      rw [if_neg c1', if_neg (show ¬ nmB f n q = true from fun w => c1 (of_decide_eq_true w).2.2)]
      show Option.bind (isC 3 (T3 Z f n M a t2 er eo rr b5 b6 b7 q) a) _ = _
      rw [t3_C, bS, c_fail, bS]
  · rw [if_neg (show ¬ nN (kdN f n q) = (1 : Int32) from neq_f (b := 1) (by omega) (by omega) c), if_neg (show ¬ nmB f n q = true from fun w => c (of_decide_eq_true w).1)]
    show Option.bind (isC 3 (T3 Z f n M a t2 er eo rr b5 b6 b7 q) a) _ = _
    rw [t3_C, bS, c_fail, bS]
end CP3
section CP4
variable {N : Mem} {t tb : Nat} {u : Nat → Int32} {ta : Nat → Nat → Int32}
theorem c_find (hT : TC N t tb u ta) {k code : Nat} {cd : Nat → Nat} (hk : k ≤ 8) (hu : u 0 = nN k) (hc : ∀ s, s < k → ta 0 s = nN (cd s) ∧ cd s < 2147483648) (hcode : code < 2147483648) : p_X4_find t (nN code) N = some (oN (fnd (fun s => cd s = code) 0 k)) := by
  have g0 : gI 4 0 N t = some (nN k) := by unfold gI gV; rw [hT.1, ← hu]; rfl
  have g3 : gR 4 3 N t = some tb := by unfold gR gV; rw [hT.1]; rfl
  have rd0 : ∀ s, s < k → aI 0 N tb (nN s) = some (nN (cd s)) := fun s hs => by
    have e := hT.2 0 (by decide)
    rw [Nat.add_zero] at e
    unfold aI; rw [e]
    have n1 := nN_neg0 (n := s) (by omega)
    have n2 := nN_clamp (n := s) (by omega)
    simp only [n2]
    rw [if_pos ⟨trivial, fun y => by rcases y with y | y; exact n1 y; have : lnT 0 = 8 := rfl; omega⟩, (hc s hs).1]
  unfold p_X4_find
  have key : ∀ d s fu, s + d = k → d < fu → pl_X4_find_2 (fun z6 => some z6) (fun _ => some (-1 : Int32)) t (nN code) N fu (nN s) = some (oN (fnd (fun s => cd s = code) s d)) := by
    intro d
    induction d with
    | zero =>
      intro s fu hs hf
      obtain ⟨F, rfl⟩ : ∃ F, fu = F + 1 := ⟨fu - 1, by omega⟩
      rw [pl_X4_find_2, g0, bS, if_pos (nle_t (by omega) (by omega) (by omega))]
      rfl
    | succ d ih =>
      intro s fu hs hf
      obtain ⟨F, rfl⟩ : ∃ F, fu = F + 1 := ⟨fu - 1, by omega⟩
      have ek : nN s + (1 : Int32) = nN (s + 1) := nN_add s 1
      have h2 := (hc s (by omega)).2
      rw [pl_X4_find_2, g0, bS, if_neg (nle_f (by omega) (by omega) (by omega)), g3, bS, rd0 s (by omega), bS, fnd_st]
      by_cases c : cd s = code
      · rw [if_pos (show nN (cd s) = nN code by rw [c]), if_pos c]; rfl
      · rw [if_neg (neq_f h2 hcode c), if_neg c, ek, ih (s + 1) F (by omega) (by omega)]
  exact key k 0 FU (by omega) (FU_pos (by omega))
end CP4
