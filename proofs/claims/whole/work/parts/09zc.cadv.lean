/-! the setup text: the class's tokens -/
section CA3
def TXT (M : Mem) (t2 n : Nat) (f : Nat → Nat) : Prop := ∃ tx : Nat → Int32, M t2 = some (.inl (1, 900, .inl tx)) ∧ (∀ i, i < n → tx i = sbI (f i)) ∧ n ≤ 900 ∧ ∀ i, i < n → f i < 256
variable {M : Mem} {a t2 n : Nat} {f : Nat → Nat} {er eo : Int32} {rr : Nat} {b5 b6 b7 kd st en : Int32} {w : Value}
theorem TXT.rd (h : TXT M t2 n f) {i : Nat} (hi : i < n) : aI 1 M t2 (nN i) = some (sbI (f i)) := by
  obtain ⟨tx, h1, h2, h3, -⟩ := h
  unfold aI; rw [h1]
  have n1 := nN_neg0 (n := i) (by omega)
  have n2 := nN_clamp (n := i) (by omega)
  simp only [n2]
  rw [if_pos ⟨trivial, fun y => by rcases y with y | y; exact n1 y; omega⟩, h2 i hi]
theorem rw_td (h : TXT M t2 n f) (ht : t2 ≠ a) {i : Nat} (hi : i < n) : aI 1 (RW M a t2 (nN n) er eo rr b5 b6 b7 kd st en w) t2 (nN i) = some (sbI (f i)) := (rw_txt ht).trans (h.rd hi)
theorem TXT.lt (h : TXT M t2 n f) {i : Nat} (hi : i < n) : f i < 256 := by
  obtain ⟨tx, -, -, -, h4⟩ := h
  exact h4 i hi
theorem TXT.le (h : TXT M t2 n f) : n ≤ 900 := by
  obtain ⟨tx, -, -, h3, -⟩ := h
  exact h3
def wmB (f : Nat → Nat) (st en i k : Nat) : Bool := decide (∀ j, j < en - st → k - st ≤ j → f (st + j) = zB i j)
theorem c_w52 {Z : gZ} (h : TXT M t2 n f) (ht : t2 ≠ a) {i s e : Nat} (hi : i < 11) (hl : zLn i = e - s) (he : e ≤ n) (k1 : Int32 → Option (Option Nat)) (f3 : Int32) : ∀ d k fu, k + d = e → s ≤ k → d < fu → pl_X3_wordHere_52 Z k1 a () (11 : Int32) f3 i (RW M a t2 (nN n) er eo rr b5 b6 b7 kd (nN s) (nN e) w) fu (1 : Int32) (nN k) = k1 (bI (wmB f s e i k = true)) := by
  have hn := h.le
  intro d
  induction d with
  | zero =>
    intro k fu hk hs hf
    obtain ⟨F, rfl⟩ : ∃ F, fu = F + 1 := ⟨fu - 1, by omega⟩
    rw [pl_X3_wordHere_52, if_neg (by decide), rg_10, bS, if_pos (nle_t (by omega) (by omega) (by omega)), ← bI_t (show wmB f s e i k = true from decide_eq_true (fun j h1 h2 => by omega))]
    rfl
  | succ d ih =>
    intro k fu hk hs hf
    obtain ⟨F, rfl⟩ : ∃ F, fu = F + 1 := ⟨fu - 1, by omega⟩
    have ek : nN k + (1 : Int32) = nN (k + 1) := nN_add k 1
    have es : nN k - nN s = nN (k - s) := nN_subN hs
    obtain ⟨a1, a2⟩ := sAt_n (i := i) (k := k - s) hi (by omega)
    have hf2 := h.lt (i := k) (by omega)
    have eT : eTx i = some i := if_pos hi
    rw [pl_X3_wordHere_52, if_neg (by decide), rg_10, bS, if_neg (nle_f (by omega) (by omega) (by omega)), eT, bS, rg_9, bS, es, a1, bS, rg_0, bS, rw_td h ht (by omega), bS, ek]
    by_cases c : f k = zB i (k - s)
    · rw [if_pos (show nN (zB i (k - s)) = sbI (f k) from by rw [c, sb_low a2]), ih (k + 1) F (by omega) (by omega) (by omega)]
      congr 1
      refine bI_c ⟨fun q => decide_eq_true (fun j h1 h2 => ?_), fun q => decide_eq_true (fun j h1 h2 => (of_decide_eq_true q) j h1 (by omega))⟩
      by_cases e2 : j = k - s
      · subst e2; rw [show s + (k - s) = k by omega]; exact c
      · exact (of_decide_eq_true q) j h1 (by omega)
    · have hne : ¬ nN (zB i (k - s)) = sbI (f k) := fun q => c ((sb_eq hf2 a2).mp q.symm)
      obtain ⟨F', rfl⟩ : ∃ F', F = F' + 1 := ⟨F - 1, by omega⟩
      rw [if_neg hne, pl_X3_wordHere_52, if_pos rfl, ← bI_f (show ¬ wmB f s e i k = true from fun q => c (by
        have := (of_decide_eq_true q) (k - s) (by omega) (Nat.le_refl _)
        rw [show s + (k - s) = k by omega] at this
        exact this))]
      rfl
theorem c_w9 {Z : gZ} (h : TXT M t2 n f) (ht : t2 ≠ a) {s e : Nat} (hse : s ≤ e) (he : e ≤ n) : ∀ d k fu, k + d = 11 → d < fu → pl_X3_wordHere_9 Z (fun z24 => some (some (Z.2.2.1 z24))) (fun _ => some none) a () (11 : Int32) (RW M a t2 (nN n) er eo rr b5 b6 b7 kd (nN s) (nN e) w) fu (nN k) = some ((fnd (fun i => wdm f s e i = true) k d).map Z.2.2.1) := by
  have hn := h.le
  intro d
  induction d with
  | zero =>
    intro k fu hk hf
    obtain ⟨F, rfl⟩ : ∃ F, fu = F + 1 := ⟨fu - 1, by omega⟩
    rw [pl_X3_wordHere_9, if_pos (show (11 : Int32) ≤ nN k from nle_t (a := 11) (by omega) (by omega) (by omega))]
    rfl
  | succ d ih =>
    intro k fu hk hf
    obtain ⟨F, rfl⟩ : ∃ F, fu = F + 1 := ⟨fu - 1, by omega⟩
    have ek : nN k + (1 : Int32) = nN (k + 1) := nN_add k 1
    have es : nN e - nN s = nN (e - s) := nN_subN hse
    have eA : eAt (nN k) = some k := by
      unfold eAt
      have n1 := nN_neg0 (n := k) (by omega)
      have n2 := nN_clamp (n := k) (by omega)
      rw [n2, if_pos]
      rintro (q | q)
      · exact n1 q
      · omega
    have eT : eTx k = some k := if_pos (by omega)
    have hz : 4 ≤ zLn k ∧ zLn k ≤ 7 := zLn_r ⟨k, by omega⟩
    rw [pl_X3_wordHere_9, if_neg (show ¬ (11 : Int32) ≤ nN k from nle_f (a := 11) (by omega) (by omega) (by omega)), eA, bS, eT, bS, sLen_n (by omega), bS, rg_10, bS, rg_9, bS, es, jn_def, fnd_st]
    by_cases c : zLn k = e - s
    · rw [if_pos (show nN (zLn k) = nN (e - s) from by rw [c])]
      show Option.bind (some (nN s)) _ = _
      rw [bS, jn_def, c_w52 h ht (by omega) c he _ _ (e - s) s FU (by omega) (Nat.le_refl _) (FU_pos (by omega))]
      have ew : (wmB f s e k s = true) ↔ (wdm f s e k = true) := ⟨fun q => decide_eq_true ⟨c, fun j hj => (of_decide_eq_true q) j hj (by omega)⟩, fun q => decide_eq_true (fun j hj _ => (of_decide_eq_true q).2 j hj)⟩
      rw [bI_c ew]
      show (if bI (wdm f s e k = true) = (0 : Int32) then pl_X3_wordHere_9 Z _ _ a () (11 : Int32) _ F (nN k + (1 : Int32)) else some (some (Z.2.2.1 k))) = _
      by_cases c2 : wdm f s e k = true
      · rw [if_neg (show ¬ bI (wdm f s e k = true) = (0 : Int32) by rw [← bI_t c2]; decide), if_pos c2]
        rfl
      · rw [if_pos (show bI (wdm f s e k = true) = (0 : Int32) by rw [← bI_f c2]; rfl), if_neg c2, ek, ih (k + 1) F (by omega) (by omega)]
    · have hnw : ¬ wdm f s e k = true := fun q => c (of_decide_eq_true q).1
      have h52 : ∀ k1 : Int32 → Option (Option Nat), pl_X3_wordHere_52 Z k1 a () (11 : Int32) (nN k) k (RW M a t2 (nN n) er eo rr b5 b6 b7 kd (nN s) (nN e) w) FU (0 : Int32) (nN s) = k1 (0 : Int32) := fun k1 => by
        obtain ⟨F', hF⟩ : ∃ F', FU = F' + 1 := ⟨FU - 1, by have := FU_pos (n := 1) (by omega); omega⟩
        rw [hF, pl_X3_wordHere_52, if_pos rfl]
      rw [if_neg (neq_f (by omega) (by omega) c)]
      show Option.bind (some (nN s)) _ = _
      rw [bS, jn_def, h52]
      show (if (0 : Int32) = (0 : Int32) then pl_X3_wordHere_9 Z _ _ a () (11 : Int32) _ F (nN k + (1 : Int32)) else some (some (Z.2.2.1 k))) = _
      rw [if_pos rfl, if_neg hnw, ek, ih (k + 1) F (by omega) (by omega)]
theorem c_wh {Z : gZ} (h : TXT M t2 n f) (ht : t2 ≠ a) {s e : Nat} (hse : s ≤ e) (he : e ≤ n) : p_X3_wordHere Z a (RW M a t2 (nN n) er eo rr b5 b6 b7 kd (nN s) (nN e) w) = some ((fnd (fun i => wdm f s e i = true) 0 11).map Z.2.2.1) := by
  unfold p_X3_wordHere
  exact c_w9 h ht hse he 11 0 FU (by omega) (FU_pos (by omega))
theorem c_a8 {Z : gZ} (h : TXT M t2 n f) (ht : t2 ≠ a) (k1 : Mem → Option Mem) : ∀ d k fu, n - k = d → d < fu → k ≤ n → pl_X3_advance_8 Z k1 a fu (RW M a t2 (nN n) er eo rr b5 b6 b7 kd (nN k) en w) = k1 (RW M a t2 (nN n) er eo rr b5 b6 b7 kd (nN (nxN f n k)) en w) := by
  have hn := h.le
  intro d
  induction d with
  | zero =>
    intro k fu hk hf hkn
    obtain ⟨F, rfl⟩ : ∃ F, fu = F + 1 := ⟨fu - 1, by omega⟩
    rw [pl_X3_advance_8, rg_9, bS, rg_1, bS, if_pos (nle_t (by omega) (by omega) (by omega))]
    unfold nxN
    rw [rn_f (fun q => by omega)]
  | succ d ih =>
    intro k fu hk hf hkn
    obtain ⟨F, rfl⟩ : ∃ F, fu = F + 1 := ⟨fu - 1, by omega⟩
    have ek : nN k + (1 : Int32) = nN (k + 1) := nN_add k 1
    have hf2 := h.lt (i := k) (by omega)
    have e32 : (sbI (f k) = (32 : Int32)) = (f k = 32) := sb_eq (c := 32) hf2 (by omega)
    have e10 : (sbI (f k) = (10 : Int32)) = (f k = 10) := sb_eq (c := 10) hf2 (by omega)
    have go : isW (f k) = true → (Option.bind (gI 3 9 (RW M a t2 (nN n) er eo rr b5 b6 b7 kd (nN k) en w) a) fun v50 => Option.bind (sV 3 9 (RW M a t2 (nN n) er eo rr b5 b6 b7 kd (nN k) en w) a (.int (v50 + (1 : Int32)))) fun M51 => pl_X3_advance_8 Z k1 a F M51) = k1 (RW M a t2 (nN n) er eo rr b5 b6 b7 kd (nN (nxN f n k)) en w) := fun q => by
      rw [rg_9, bS, ek, rs_9, bS, ih (k + 1) F (by omega) (by omega) (by omega)]
      unfold nxN
      rw [rn_t (p := k) (by omega) q]
    rw [pl_X3_advance_8, rg_9, bS, rg_1, bS, if_neg (nle_f (by omega) (by omega) (by omega)), rg_0, bS, bS, rw_td h ht (by omega), bS, jn_def]
    by_cases c1 : f k = 32
    · rw [if_pos (by rw [e32]; exact c1)]
      have g := go (decide_eq_true (Or.inl c1))
      rw [rg_9] at g
      exact g
    · rw [if_neg (by rw [e32]; exact c1), bS, bS, rw_td h ht (by omega), bS]
      by_cases c2 : f k = 10
      · rw [if_pos (by rw [e10]; exact c2)]
        have g := go (decide_eq_true (Or.inr c2))
        rw [rg_9] at g
        exact g
      · rw [if_neg (by rw [e10]; exact c2)]
        unfold nxN
        rw [rn_f (fun q => by have := of_decide_eq_true q.2; omega)]
theorem c_a132 {Z : gZ} (h : TXT M t2 n f) (ht : t2 ≠ a) {K : Nat} (hK : K ≤ 4) (k1 : Mem → Option Mem) : ∀ d k fu, n - k = d → d < fu → k ≤ n → pl_X3_advance_132 Z k1 a fu (RW M a t2 (nN n) er eo rr b5 b6 b7 (nN K) st (nN k) w) = k1 (RW M a t2 (nN n) er eo rr b5 b6 b7 (nN K) st (nN (rnN (isK K) f n k)) w) := by
  have hn := h.le
  intro d
  induction d with
  | zero =>
    intro k fu hk hf hkn
    obtain ⟨F, rfl⟩ : ∃ F, fu = F + 1 := ⟨fu - 1, by omega⟩
    rw [pl_X3_advance_132, rg_10, bS, rg_1, bS, if_pos (nle_t (by omega) (by omega) (by omega)), rn_f (fun q => by omega)]
  | succ d ih =>
    intro k fu hk hf hkn
    obtain ⟨F, rfl⟩ : ∃ F, fu = F + 1 := ⟨fu - 1, by omega⟩
    have ek : nN k + (1 : Int32) = nN (k + 1) := nN_add k 1
    have hf2 := h.lt (i := k) (by omega)
    have hkc := kdC_r (f k)
    rw [pl_X3_advance_132, rg_10, bS, rg_1, bS, if_neg (nle_f (by omega) (by omega) (by omega)), rg_0, bS, bS, rw_td h ht (by omega), bS, c_kind hf2, bS, rg_8, bS]
    by_cases c : kdC (f k) = K
    · rw [if_pos (show nN (kdC (f k)) = nN K from by rw [c]), bS, ek, rs_10, bS, ih (k + 1) F (by omega) (by omega) (by omega), rn_t (p := k) (by omega) (decide_eq_true c)]
    · rw [if_neg (neq_f (by omega) (by omega) c), rn_f (fun q => c (of_decide_eq_true q.2))]
/-- the class's next token -/
theorem c_adv {Z : gZ} (h : TXT M t2 n f) (ht : t2 ≠ a) {p : Nat} (hp : p ≤ n) : p_X3_advance Z a (RW M a t2 (nN n) er eo rr b5 b6 b7 kd st (nN p) w) = some (RW M a t2 (nN n) er eo rr b5 b6 b7 (nN (kdN f n (nxN f n p))) (nN (nxN f n p)) (nN (enN f n (nxN f n p))) (va_rf ((wdN f n (nxN f n p)).map Z.2.2.1))) := by
  have hn := h.le
  obtain ⟨q1, q2⟩ := nxN_b (f := f) hp
  unfold p_X3_advance
  rw [rg_10, bS, rs_9, bS, jn_def, c_a8 h ht _ (n - p) p FU rfl (FU_pos (by omega)) hp]
  show Option.bind (gI 3 9 _ a) _ = _
  generalize hq : nxN f n p = q at q1 q2 ⊢
  rw [rg_9, bS, rs_10, bS, rs_11, bS, rg_9, bS, rg_1, bS]
  by_cases c : q < n
  · have hf2 := h.lt c
    have ek : nN q + (1 : Int32) = nN (q + 1) := nN_add q 1
    have hk : kdN f n q = kdC (f q) := by unfold kdN; rw [if_pos c]
    have hkr := kdC_r (f q)
    rw [if_pos (nlt_t (by omega) (by omega) c), rg_0, bS, bS, rw_td h ht c, bS, c_kind hf2, bS, rs_8, bS, rg_10, bS, ek, rs_10, bS, rg_8, bS, jn_def, jn_def, ← hk]
    rw [← hk] at hkr
    by_cases k1 : kdN f n q = 1
    · have he : enN f n q = rnN (isK 1) f n (q + 1) := by unfold enN; rw [if_pos (Or.inl k1), k1]
      have hb := enN_b (f := f) q2
      have hw : wdN f n q = fnd (fun i => wdm f q (enN f n q) i = true) 0 11 := by unfold wdN; rw [if_pos k1]
      rw [if_pos (show nN (kdN f n q) = (1 : Int32) by rw [k1]; rfl)]
      show pl_X3_advance_132 Z _ a FU _ = _
      rw [c_a132 h ht (by omega) _ (n - (q + 1)) (q + 1) FU rfl (FU_pos (by omega)) (by omega), k1, ← he]
      show Option.bind (gI 3 8 _ a) _ = _
      rw [rg_8, bS, if_pos (show nN 1 = (1 : Int32) from rfl), rw_C, bS, c_wh h ht (by omega) hb.2.1, bS, rs_11, bS, hw]
    · rw [if_neg (show ¬ nN (kdN f n q) = (1 : Int32) from neq_f (b := 1) (by omega) (by omega) k1), bS]
      have hw : wdN f n q = none := by unfold wdN; rw [if_neg k1]
      by_cases k2 : kdN f n q = 2
      · have he : enN f n q = rnN (isK 2) f n (q + 1) := by unfold enN; rw [if_pos (Or.inr k2), k2]
        rw [if_pos (show nN (kdN f n q) = (2 : Int32) by rw [k2]; rfl)]
        show pl_X3_advance_132 Z _ a FU _ = _
        rw [c_a132 h ht (by omega) _ (n - (q + 1)) (q + 1) FU rfl (FU_pos (by omega)) (by omega), k2, ← he]
        show Option.bind (gI 3 8 _ a) _ = _
        rw [rg_8, bS, if_neg (by decide), hw]
        rfl
      · have he : enN f n q = q + 1 := by unfold enN; rw [if_neg (by omega), if_neg (by omega)]
        rw [if_neg (show ¬ nN (kdN f n q) = (2 : Int32) from neq_f (b := 2) (by omega) (by omega) k2)]
        show Option.bind (gI 3 8 _ a) _ = _
        rw [rg_8, bS, if_neg (show ¬ nN (kdN f n q) = (1 : Int32) from neq_f (b := 1) (by omega) (by omega) k1), he, hw]
        rfl
  · have hk : kdN f n q = 0 := kdN_0.mpr (by omega)
    have he : enN f n q = q := by unfold enN; rw [if_neg (by omega), if_pos hk]
    have hw : wdN f n q = none := by unfold wdN; rw [if_neg (by omega)]
    rw [if_neg (nlt_f (by omega) (by omega) c), show (0 : Int32) = nN 0 from rfl, rs_8, bS, hk, he, hw]
    rfl
end CA3
