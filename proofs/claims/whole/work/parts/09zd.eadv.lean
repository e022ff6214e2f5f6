/-! the setup text: the reference's tokens -/
section ET
def gTk (g : Nat → Int32) (p s v k : Int32) : Nat → Int32 := fun i => if i = 17 then p else if i = 18 then s else if i = 19 then v else if i = 20 then k else g i
variable {g : Nat → Int32} {p s v k x : Int32}
theorem gk_17 : gTk g p s v k 17 = p := rfl
theorem gk_18 : gTk g p s v k 18 = s := rfl
theorem gk_19 : gTk g p s v k 19 = v := rfl
theorem gk_20 : gTk g p s v k 20 = k := rfl
theorem gk_n {i : Nat} (h : i ≠ 17 ∧ i ≠ 18 ∧ i ≠ 19 ∧ i ≠ 20) : gTk g p s v k i = g i := by
  unfold gTk
  rw [if_neg h.1, if_neg h.2.1, if_neg h.2.2.1, if_neg h.2.2.2]
theorem gk_a : upd (gTk g p s v k) 17 x = gTk g x s v k := by
  funext i
  show (if i = 17 then x else gTk g p s v k i) = _
  unfold gTk
  by_cases c : i = 17
  · rw [if_pos c, if_pos c]
  · simp only [if_neg c]
theorem gk_b : upd (gTk g p s v k) 18 x = gTk g p x v k := by
  funext i
  show (if i = 18 then x else gTk g p s v k i) = _
  unfold gTk
  by_cases c : i = 17
  · rw [if_neg (by omega), if_pos c, if_pos c]
  · by_cases c2 : i = 18
    · simp only [if_neg c, if_pos c2]
    · simp only [if_neg c, if_neg c2]
theorem gk_c : upd (gTk g p s v k) 19 x = gTk g p s x k := by
  funext i
  show (if i = 19 then x else gTk g p s v k i) = _
  unfold gTk
  by_cases c3 : i = 19
  · rw [if_pos c3, if_neg (show ¬ i = 17 by omega), if_neg (show ¬ i = 18 by omega), if_pos c3]
  · simp only [if_neg c3]
theorem gk_d : upd (gTk g p s v k) 20 x = gTk g p s v x := by
  funext i
  show (if i = 20 then x else gTk g p s v k i) = _
  unfold gTk
  by_cases c3 : i = 20
  · rw [if_pos c3, if_neg (show ¬ i = 17 by omega), if_neg (show ¬ i = 18 by omega), if_neg (show ¬ i = 19 by omega), if_pos c3]
  · simp only [if_neg c3]
def vlF (f : Nat → Nat) (st : Nat) : Nat → Nat
  | 0 => 0
  | k + 1 => 10 * vlF f st k + (f (st + k) - 48)
def m3 (k : Nat) : Nat := if k ≤ 3 then k else 3
def vlN (f : Nat → Nat) (n st : Nat) : Nat := if kdN f n st = 2 then vlF f st (m3 (enN f n st - st)) else 0
/-- the reference's input -/
def TXE (g : Nat → Int32) (A : Nat → Nat → Int32) (n : Nat) (f : Nat → Nat) : Prop := g 12 = nN n ∧ (∀ i, i < n → A 9 i = nN (f i)) ∧ n ≤ 900 ∧ ∀ i, i < n → f i < 256
end ET
section ET2
variable {B : Mem} {m : Nat} {g : Nat → Int32} {A : Nat → Nat → Int32} {f : Nat → Nat} {n : Nat} {p s v k x : Int32}
theorem e_by (h : TXE g A n f) {i : Nat} (hi : i < 1000) : p_X7_byteAt m (nN i) (ovl B m (gTk g p s v k) A) = some (if i < n then nN (f i) else mI) := by
  obtain ⟨h1, h2, h3, h4⟩ := h
  unfold p_X7_byteAt
  rw [oi_12, bS, gk_n (by decide), h1]
  by_cases c : i < n
  · rw [if_neg (nle_f (by omega) (by omega) (by omega)), if_pos c, or_11, bS, od_9, rd_nN (by omega) (by omega), bS, h2 i c]
  · rw [if_pos (nle_t (by omega) (by omega) (by omega)), if_neg c]; rfl
theorem e_rk (h : TXE g A n f) {i : Nat} {N : Mem} : (p_X7_inRange (if i < n then nN (f i) else mI) (97 : Int32) (122 : Int32) N = some (bI (i < n ∧ kdC (f i) = 1))) ∧ (p_X7_inRange (if i < n then nN (f i) else mI) (48 : Int32) (57 : Int32) N = some (bI (i < n ∧ kdC (f i) = 2))) := by
  obtain ⟨h1, h2, h3, h4⟩ := h
  rw [e_inRange, e_inRange]
  by_cases c : i < n
  · have := h4 i c
    rw [if_pos c]
    refine ⟨congrArg some (bI_c ?_), congrArg some (bI_c ?_)⟩
    · rw [kdC_1]
      have e1 : ((97 : Int32) ≤ nN (f i)) = (97 ≤ f i) := nN_le (a := 97) (by omega) (by omega)
      have e2 : (nN (f i) ≤ (122 : Int32)) = (f i ≤ 122) := nN_le (b := 122) (by omega) (by omega)
      rw [e1, e2]
      exact ⟨fun q => ⟨c, q⟩, fun q => q.2⟩
    · rw [kdC_2]
      have e1 : ((48 : Int32) ≤ nN (f i)) = (48 ≤ f i) := nN_le (a := 48) (by omega) (by omega)
      have e2 : (nN (f i) ≤ (57 : Int32)) = (f i ≤ 57) := nN_le (b := 57) (by omega) (by omega)
      rw [e1, e2]
      exact ⟨fun q => ⟨c, q⟩, fun q => q.2⟩
  · rw [if_neg c]
    refine ⟨congrArg some (bI_c ⟨fun q => absurd q.1 (by decide), fun q => absurd q.1 c⟩), congrArg some (bI_c ⟨fun q => absurd q.1 (by decide), fun q => absurd q.1 c⟩)⟩
theorem e_eqc (h : TXE g A n f) {i c : Nat} (hc : c < 256) : ((if i < n then nN (f i) else mI) = nN c) = (i < n ∧ f i = c) := by
  obtain ⟨h1, h2, h3, h4⟩ := h
  by_cases e : i < n
  · have := h4 i e
    rw [if_pos e, nN_eq (by omega) (by omega)]
    exact propext ⟨fun q => ⟨e, q⟩, fun q => q.2⟩
  · rw [if_neg e, mI_nN (by omega)]
    exact propext ⟨fun q => q.elim, fun q => e q.1⟩
theorem e_t0 (h : TXE g A n f) (k1 : Mem → Option Mem) : ∀ d i fu, n - i = d → d < fu → i ≤ n → pl_X7_advanceToken_0 k1 m fu (ovl B m (gTk g (nN i) s v k) A) = k1 (ovl B m (gTk g (nN (nxN f n i)) s v k) A) := by
  have hn := h.2.2.1
  have step : ∀ i F, i ≤ n → pl_X7_advanceToken_0 k1 m (F + 1) (ovl B m (gTk g (nN i) s v k) A) = if i < n ∧ isW (f i) = true then pl_X7_advanceToken_0 k1 m F (ovl B m (gTk g (nN (i + 1)) s v k) A) else k1 (ovl B m (gTk g (nN i) s v k) A) := fun i F hi => by
    have ek : nN i + (1 : Int32) = nN (i + 1) := nN_add i 1
    have e32 : ((if i < n then nN (f i) else mI) = (32 : Int32)) = (i < n ∧ f i = 32) := e_eqc (c := 32) h (by omega)
    have e10 : ((if i < n then nN (f i) else mI) = (10 : Int32)) = (i < n ∧ f i = 10) := e_eqc (c := 10) h (by omega)
    rw [pl_X7_advanceToken_0, oi_17, bS, gk_17, oc, bS, e_by h (by omega), bS, jn_def]
    by_cases c1 : i < n ∧ f i = 32
    · rw [if_pos (show (if i < n then nN (f i) else mI) = (32 : Int32) by rw [e32]; exact c1), if_pos ⟨c1.1, decide_eq_true (Or.inl c1.2)⟩]
      show Option.bind (some (nN i)) _ = _
      rw [bS, ek, op_17, bS, gk_a]
    · rw [if_neg (show ¬ (if i < n then nN (f i) else mI) = (32 : Int32) by rw [e32]; exact c1), bS, bS, e_by h (by omega), bS]
      by_cases c2 : i < n ∧ f i = 10
      · rw [if_pos (show (if i < n then nN (f i) else mI) = (10 : Int32) by rw [e10]; exact c2), if_pos ⟨c2.1, decide_eq_true (Or.inr c2.2)⟩]
        show Option.bind (some (nN i)) _ = _
        rw [bS, ek, op_17, bS, gk_a]
      · rw [if_neg (show ¬ (if i < n then nN (f i) else mI) = (10 : Int32) by rw [e10]; exact c2), if_neg (show ¬ (i < n ∧ isW (f i) = true) from fun q => by
          rcases of_decide_eq_true q.2 with e | e
          · exact c1 ⟨q.1, e⟩
          · exact c2 ⟨q.1, e⟩)]
  intro d
  induction d with
  | zero =>
    intro i fu hk hf hi
    obtain ⟨F, rfl⟩ : ∃ F, fu = F + 1 := ⟨fu - 1, by omega⟩
    rw [step i F hi, if_neg (fun q => by omega)]
    unfold nxN
    rw [rn_f (fun q => by omega)]
  | succ d ih =>
    intro i fu hk hf hi
    obtain ⟨F, rfl⟩ : ∃ F, fu = F + 1 := ⟨fu - 1, by omega⟩
    rw [step i F hi]
    by_cases c : i < n ∧ isW (f i) = true
    · rw [if_pos c, ih (i + 1) F (by omega) (by omega) (by omega)]
      unfold nxN
      rw [rn_t c.1 c.2]
    · rw [if_neg c]
      unfold nxN
      rw [rn_f c]
theorem e_t90 (h : TXE g A n f) (k1 : Mem → Option Mem) : ∀ d i fu, n - i = d → d < fu → i ≤ n → pl_X7_advanceToken_90 k1 m fu (ovl B m (gTk g (nN i) s v k) A) = k1 (ovl B m (gTk g (nN (rnN (isK 1) f n i)) s v k) A) := by
  have hn := h.2.2.1
  have step : ∀ i F, i ≤ n → pl_X7_advanceToken_90 k1 m (F + 1) (ovl B m (gTk g (nN i) s v k) A) = if i < n ∧ isK 1 (f i) = true then pl_X7_advanceToken_90 k1 m F (ovl B m (gTk g (nN (i + 1)) s v k) A) else k1 (ovl B m (gTk g (nN i) s v k) A) := fun i F hi => by
    have ek : nN i + (1 : Int32) = nN (i + 1) := nN_add i 1
    rw [pl_X7_advanceToken_90, oi_17, bS, gk_17, oc, bS, e_by h (by omega), bS, (e_rk h).1, bS]
    by_cases c : i < n ∧ kdC (f i) = 1
    · rw [if_neg (show ¬ bI (i < n ∧ kdC (f i) = 1) = (0 : Int32) by rw [← bI_t c]; decide), if_pos ⟨c.1, decide_eq_true c.2⟩, bS, ek, op_17, bS, gk_a]
    · rw [if_pos (show bI (i < n ∧ kdC (f i) = 1) = (0 : Int32) by rw [← bI_f c]; rfl), if_neg (fun q => c ⟨q.1, of_decide_eq_true q.2⟩)]
  intro d
  induction d with
  | zero =>
    intro i fu hk hf hi
    obtain ⟨F, rfl⟩ : ∃ F, fu = F + 1 := ⟨fu - 1, by omega⟩
    rw [step i F hi, if_neg (fun q => by omega), rn_f (fun q => by omega)]
  | succ d ih =>
    intro i fu hk hf hi
    obtain ⟨F, rfl⟩ : ∃ F, fu = F + 1 := ⟨fu - 1, by omega⟩
    rw [step i F hi]
    by_cases c : i < n ∧ isK 1 (f i) = true
    · rw [if_pos c, ih (i + 1) F (by omega) (by omega) (by omega), rn_t c.1 c.2]
    · rw [if_neg c, rn_f c]
theorem vlF_lt {st : Nat} : ∀ k, (∀ j, j < k → f (st + j) ≤ 57) → vlF f st k < 10 ^ k := by
  intro k
  induction k with
  | zero => intro _; show 0 < 1; omega
  | succ k ih =>
    intro h
    have i1 := ih (fun j hj => h j (by omega))
    have := h k (by omega)
    show 10 * vlF f st k + (f (st + k) - 48) < 10 ^ (k + 1)
    rw [Nat.pow_succ]
    omega
theorem m3_r (k : Nat) : m3 k ≤ 3 ∧ m3 k ≤ k := by
  unfold m3
  by_cases c : k ≤ 3
  · rw [if_pos c]; omega
  · rw [if_neg c]; omega
theorem e_t137 (h : TXE g A n f) {st : Nat} (k1 : Mem → Option Mem) : ∀ d i fu, n - i = d → d < fu → i ≤ n → st ≤ i → (∀ j, st ≤ j → j < i → kdC (f j) = 2) → pl_X7_advanceToken_137 k1 m fu (ovl B m (gTk g (nN i) (nN st) (nN (vlF f st (m3 (i - st)))) k) A) = k1 (ovl B m (gTk g (nN (rnN (isK 2) f n i)) (nN st) (nN (vlF f st (m3 (rnN (isK 2) f n i - st)))) k) A) := by
  have hn := h.2.2.1
  have step : ∀ i F, i ≤ n → st ≤ i → (∀ j, st ≤ j → j < i → kdC (f j) = 2) → pl_X7_advanceToken_137 k1 m (F + 1) (ovl B m (gTk g (nN i) (nN st) (nN (vlF f st (m3 (i - st)))) k) A) = if i < n ∧ isK 2 (f i) = true then pl_X7_advanceToken_137 k1 m F (ovl B m (gTk g (nN (i + 1)) (nN st) (nN (vlF f st (m3 (i + 1 - st)))) k) A) else k1 (ovl B m (gTk g (nN i) (nN st) (nN (vlF f st (m3 (i - st)))) k) A) := fun i F hi hs hj => by
    have ek : nN i + (1 : Int32) = nN (i + 1) := nN_add i 1
    have es : nN i - nN st = nN (i - st) := nN_subN hs
    rw [pl_X7_advanceToken_137, oi_17, bS, gk_17, oc, bS, e_by h (by omega), bS, (e_rk h).2, bS]
    by_cases c : i < n ∧ kdC (f i) = 2
    · have hd := kdC_2.mp c.2
      rw [if_neg (show ¬ bI (i < n ∧ kdC (f i) = 2) = (0 : Int32) by rw [← bI_t c]; decide), if_pos ⟨c.1, decide_eq_true c.2⟩, bS, oi_18, bS, gk_18, es, jn_def]
      by_cases c3 : 3 ≤ i - st
      · rw [if_pos (show (3 : Int32) ≤ nN (i - st) from nle_t (a := 3) (by omega) (by omega) c3)]
        show Option.bind (gI 6 17 _ m) _ = _
        rw [oi_17, bS, gk_17, ek, op_17, bS, gk_a]
        have e1 : m3 (i + 1 - st) = m3 (i - st) := by unfold m3; rw [if_neg (by omega)]; by_cases q : i - st ≤ 3
                                                      · rw [if_pos q]; omega
                                                      · rw [if_neg q]
        rw [e1]
      · have e1 : m3 (i - st) = i - st := by unfold m3; rw [if_pos (by omega)]
        have e2 : m3 (i + 1 - st) = i - st + 1 := by unfold m3; rw [if_pos (by omega)]; omega
        have hv := vlF_lt (f := f) (st := st) (i - st) (fun j hj2 => by
          have := kdC_2.mp (hj (st + j) (by omega) (by omega)); omega)
        have hp : 10 ^ (i - st) ≤ 10 ^ 3 := Nat.pow_le_pow_right (by decide) (by omega)
        have h103 : 10 ^ 3 = 1000 := by decide
        rw [if_neg (show ¬ (3 : Int32) ≤ nN (i - st) from nle_f (a := 3) (by omega) (by omega) (by omega)), oi_19, bS, gk_19, bS, bS, e_by h (by omega), bS, if_pos c.1, e1]
        have ev : ((10 : Int32) * nN (vlF f st (i - st)) + nN (f i)) - (48 : Int32) = nN (vlF f st (i - st + 1)) := by
          rw [show (10 : Int32) = nN 10 from rfl, nN_mul, nN_add, show (48 : Int32) = nN 48 from rfl, nN_subN (by omega)]
          show _ = nN (10 * vlF f st (i - st) + (f (st + (i - st)) - 48))
          rw [show st + (i - st) = i by omega]
          congr 1
          omega
        rw [ev, op_19, bS, gk_c]
        show Option.bind (gI 6 17 _ m) _ = _
        rw [oi_17, bS, gk_17, ek, op_17, bS, gk_a, e2]
    · rw [if_pos (show bI (i < n ∧ kdC (f i) = 2) = (0 : Int32) by rw [← bI_f c]; rfl), if_neg (fun q => c ⟨q.1, of_decide_eq_true q.2⟩)]
  intro d
  induction d with
  | zero =>
    intro i fu hk hf hi hs hj
    obtain ⟨F, rfl⟩ : ∃ F, fu = F + 1 := ⟨fu - 1, by omega⟩
    rw [step i F hi hs hj, if_neg (fun q => by omega), rn_f (fun q => by omega)]
  | succ d ih =>
    intro i fu hk hf hi hs hj
    obtain ⟨F, rfl⟩ : ∃ F, fu = F + 1 := ⟨fu - 1, by omega⟩
    rw [step i F hi hs hj]
    by_cases c : i < n ∧ isK 2 (f i) = true
    · rw [if_pos c, ih (i + 1) F (by omega) (by omega) (by omega) (by omega) (fun j h1 h2 => by
        by_cases e : j = i
        · rw [e]; exact of_decide_eq_true c.2
        · exact hj j h1 (by omega)), rn_t c.1 c.2]
    · rw [if_neg c, rn_f c]
theorem e_adv (h : TXE g A n f) {i : Nat} (hi : i ≤ n) : p_X7_advanceToken m (ovl B m (gTk g (nN i) s v k) A) = some (ovl B m (gTk g (nN (enN f n (nxN f n i))) (nN (nxN f n i)) (nN (vlN f n (nxN f n i))) (nN (kdN f n (nxN f n i)))) A) := by
  have hn := h.2.2.1
  obtain ⟨q1, q2⟩ := nxN_b (f := f) hi
  unfold p_X7_advanceToken
  rw [e_t0 h _ (n - i) i FU rfl (FU_pos (by omega)) hi]
  generalize nxN f n i = q at q1 q2 ⊢
  show Option.bind (gI 6 17 _ m) _ = _
  rw [oi_17, bS, gk_17, op_18, bS, gk_b, oi_17, bS, gk_17, oc, bS, e_by h (by omega), bS, op_19, bS, gk_c]
  by_cases c : q < n
  · have hf2 := h.2.2.2 q c
    have hk : kdN f n q = kdC (f q) := by unfold kdN; rw [if_pos c]
    have hkr := kdC_r (f q)
    have hne : ¬ (if q < n then nN (f q) else mI) = (-1 : Int32) := by rw [if_pos c]; exact nNm (by omega)
    rw [if_neg hne, (e_rk h).1, bS]
    by_cases k1 : kdC (f q) = 1
    · have he : enN f n q = rnN (isK 1) f n q := by unfold enN; rw [hk, if_pos (Or.inl k1), k1]; exact (rn_t c (decide_eq_true k1)).symm
      have hv : vlN f n q = 0 := by unfold vlN; rw [if_neg (by omega)]
      rw [if_neg (show ¬ bI (q < n ∧ kdC (f q) = 1) = (0 : Int32) by rw [← bI_t ⟨c, k1⟩]; decide), show (1 : Int32) = nN 1 from rfl, op_20, bS, gk_d, e_t90 h _ (n - q) q FU rfl (FU_pos (by omega)) (by omega), hk, k1, he, hv]
      rfl
    · rw [if_pos (show bI (q < n ∧ kdC (f q) = 1) = (0 : Int32) by rw [← bI_f (fun w => k1 w.2)]; rfl), (e_rk h).2, bS]
      by_cases k2 : kdC (f q) = 2
      · have he : enN f n q = rnN (isK 2) f n q := by unfold enN; rw [hk, if_pos (Or.inr k2), k2]; exact (rn_t c (decide_eq_true k2)).symm
        have hv : vlN f n q = vlF f q (m3 (enN f n q - q)) := by unfold vlN; rw [if_pos (by rw [hk]; exact k2)]
        have e0 : (0 : Int32) = nN (vlF f q (m3 (q - q))) := by rw [Nat.sub_self]; rfl
        rw [if_neg (show ¬ bI (q < n ∧ kdC (f q) = 2) = (0 : Int32) by rw [← bI_t ⟨c, k2⟩]; decide), show (2 : Int32) = nN 2 from rfl, op_20, bS, gk_d, e0, e_t137 h _ (n - q) q FU rfl (FU_pos (by omega)) (by omega) (Nat.le_refl _) (fun j h1 h2 => by omega), hk, k2, hv, he]
      · have he : enN f n q = q + 1 := by unfold enN; rw [if_neg (by omega), if_neg (by omega)]
        have hv : vlN f n q = 0 := by unfold vlN; rw [if_neg (by omega)]
        have ek : nN q + (1 : Int32) = nN (q + 1) := nN_add q 1
        have e59 : ((if q < n then nN (f q) else mI) = (59 : Int32)) = (q < n ∧ f q = 59) := e_eqc (c := 59) h (by omega)
        rw [if_pos (show bI (q < n ∧ kdC (f q) = 2) = (0 : Int32) by rw [← bI_f (fun w => k2 w.2)]; rfl), jn_def]
        have hk1 : ¬ (97 ≤ f q ∧ f q ≤ 122) := fun w => k1 (kdC_1.mpr w)
        have hk2 : ¬ (48 ≤ f q ∧ f q ≤ 57) := fun w => k2 (kdC_2.mpr w)
        by_cases k3 : f q = 59
        · have hkd : kdN f n q = 3 := by rw [hk]; unfold kdC; rw [if_neg hk1, if_neg hk2, if_pos k3]
          rw [if_pos (show (if q < n then nN (f q) else mI) = (59 : Int32) by rw [e59]; exact ⟨c, k3⟩)]
          show Option.bind (sV 6 20 _ m (.int (nN 3))) _ = _
          rw [op_20, bS, gk_d, oi_17, bS, gk_17, ek, op_17, bS, gk_a, hkd, he, hv]
          rfl
        · have hkd : kdN f n q = 4 := by rw [hk]; unfold kdC; rw [if_neg hk1, if_neg hk2, if_neg k3]
          rw [if_neg (show ¬ (if q < n then nN (f q) else mI) = (59 : Int32) by rw [e59]; exact fun w => k3 w.2)]
          show Option.bind (sV 6 20 _ m (.int (nN 4))) _ = _
          rw [op_20, bS, gk_d, oi_17, bS, gk_17, ek, op_17, bS, gk_a, hkd, he, hv]
          rfl
  · have hk : kdN f n q = 0 := kdN_0.mpr (by omega)
    have he : enN f n q = q := by unfold enN; rw [if_neg (by omega), if_pos hk]
    have hv : vlN f n q = 0 := by unfold vlN; rw [if_neg (by omega)]
    rw [if_pos (show (if q < n then nN (f q) else mI) = (-1 : Int32) by rw [if_neg c]; rfl), show (0 : Int32) = nN 0 from rfl, op_20, bS, gk_d, hk, he, hv]
end ET2