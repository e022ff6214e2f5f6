/-! the setup text: the reference's small steps -/
section RP
def cutV (v : Nat → Nat) : Nat → Nat := fun i => if i < 764 then v i else 0
theorem cut_i {v : Nat → Nat} {i : Nat} (h : i < 764) : cutV v i = v i := if_pos h
theorem cut_u {v : Nat → Nat} {i x : Nat} (h : i < 764) : updN (cutV v) i x = cutV (updN v i x) := by
  funext j
  show (if j = i then x else if j < 764 then v j else 0) = (if j < 764 then (if j = i then x else v j) else 0)
  by_cases c : j = i
  · rw [if_pos c, if_pos c, if_pos (by omega)]
  · rw [if_neg c, if_neg c]
theorem cut_z {v : Nat → Nat} (h : ∀ i, 764 ≤ i → v i = 0) : cutV v = v := by
  funext j
  show (if j < 764 then v j else 0) = v j
  by_cases c : j < 764
  · rw [if_pos c]
  · rw [if_neg c, h j (by omega)]
def RS (B : Mem) (m : Nat) (g : Nat → Int32) (f : Nat → Nat) (n : Nat) (A : Nat → Nat → Int32) (v nm : Nat → Nat) (q : Nat) : Mem := ovl B m (gTk g (nN (enN f n q)) (nN q) (nN (vlN f n q)) (nN (kdN f n q))) (up2 (up2 A 6 (fun i => nN (nm i))) 1 (enc (cutV v) (fun _ => none)))
def gFl (g : Nat → Int32) (c : Int32) (q : Nat) : Nat → Int32 := upd (upd g 15 c) 16 (nN q)
theorem gk_u {g : Nat → Int32} {p s w k x : Int32} {i : Nat} (h : i ≠ 17 ∧ i ≠ 18 ∧ i ≠ 19 ∧ i ≠ 20) : upd (gTk g p s w k) i x = gTk (upd g i x) p s w k := by
  funext j
  show (if j = i then x else gTk g p s w k j) = _
  by_cases c : j = i
  · subst c; rw [if_pos rfl, gk_n h]; exact (if_pos rfl).symm
  · rw [if_neg c]
    unfold gTk
    by_cases c1 : j = 17
    · rw [if_pos c1, if_pos c1]
    · rw [if_neg c1, if_neg c1]
      by_cases c2 : j = 18
      · rw [if_pos c2, if_pos c2]
      · rw [if_neg c2, if_neg c2]
        by_cases c3 : j = 19
        · rw [if_pos c3, if_pos c3]
        · rw [if_neg c3, if_neg c3]
          by_cases c4 : j = 20
          · rw [if_pos c4, if_pos c4]
          · rw [if_neg c4, if_neg c4]; exact (if_neg c).symm
variable {B : Mem} {m : Nat} {g : Nat → Int32} {f : Nat → Nat} {n : Nat} {A : Nat → Nat → Int32} {v nm : Nat → Nat} {q : Nat}
theorem RS_C : isC 6 (RS B m g f n A v nm q) m = some () := oc _ _ _ _
theorem RS_b {α : Type} (k : Unit → Option α) : Option.bind (isC 6 (RS B m g f n A v nm q) m) k = k () := by rw [RS_C]; rfl
theorem z00 : nN 0 = (0 : Int32) := rfl
theorem RS_20 : gI 6 20 (RS B m g f n A v nm q) m = some (nN (kdN f n q)) := oi_20 _ _ _ _
theorem RS_19 : gI 6 19 (RS B m g f n A v nm q) m = some (nN (vlN f n q)) := oi_19 _ _ _ _
theorem RS_18 : gI 6 18 (RS B m g f n A v nm q) m = some (nN q) := oi_18 _ _ _ _
theorem RS_17 : gI 6 17 (RS B m g f n A v nm q) m = some (nN (enN f n q)) := oi_17 _ _ _ _
theorem RS_15 : gI 6 15 (RS B m g f n A v nm q) m = some (g 15) := oi_15 _ _ _ _
theorem RS_21 : gI 6 21 (RS B m g f n A v nm q) m = some (g 21) := oi_21 _ _ _ _
theorem RS_0 : gR 6 0 (RS B m g f n A v nm q) m = some (m + 1) := or_0 _ _ _ _
theorem RS_7 : gR 6 7 (RS B m g f n A v nm q) m = some (m + 6) := or_7 _ _ _ _
theorem RS_11 : gR 6 11 (RS B m g f n A v nm q) m = some (m + 9) := or_11 _ _ _ _
theorem RS_w21 (x : Int32) : sV 6 21 (RS B m g f n A v nm q) m (.int x) = some (RS B m (upd g 21 x) f n A v nm q) := by
  unfold RS
  rw [op_21, gk_u (by decide)]
theorem RS_rd {i : Nat} (h : i < 764) (h2 : ¬ (484 ≤ i ∧ i < 524)) : aI 0 (RS B m g f n A v nm q) (m + 1) (nN i) = some (nN (v i)) := (er_v (v := cutV v) h h2).trans (by rw [cut_i h])
theorem RS_wr {i x : Nat} (h : i < 764) (h2 : ¬ (484 ≤ i ∧ i < 524)) : aIs (RS B m g f n A v nm q) (m + 1) (nN i) (nN x) = some (RS B m g f n A (updN v i x) nm q) := (ew_v (v := cutV v) h h2).trans (by rw [cut_u h]; rfl)
theorem RS_nm {i : Nat} (h : i < 48) : aI 0 (RS B m g f n A v nm q) (m + 6) (nN i) = some (nN (nm i)) := by
  unfold RS
  rw [od_6, up2_n (by decide), up2_s, rd_nN h (by decide)]
theorem RS_wn {i x : Nat} (h : i < 48) : aIs (RS B m g f n A v nm q) (m + 6) (nN i) (nN x) = some (RS B m g f n A v (updN nm i x) q) := by
  have e : upd (fun i => nN (nm i)) i (nN x) = fun j => nN (updN nm i x j) := by
    funext j
    show (if j = i then nN x else nN (nm j)) = nN (if j = i then x else nm j)
    by_cases c : j = i
    · rw [if_pos c, if_pos c]
    · rw [if_neg c, if_neg c]
  unfold RS
  rw [ow_6, up2_n (by decide), up2_s, wr_nN h (by decide), Option.map_some, e, up2_sw (by decide : (1 : Nat) ≠ 6), up2_up2]
theorem RS_tx (h : TXE g A n f) {i : Nat} (hi : i < n) : aI 0 (RS B m g f n A v nm q) (m + 9) (nN i) = some (nN (f i)) := by
  have := h.2.2.1
  unfold RS
  rw [od_9, up2_n (by decide), up2_n (by decide), rd_nN (by omega) (by decide), h.2.1 i hi]
theorem TXE.up (h : TXE g A n f) {F G : Nat → Int32} : TXE g (up2 (up2 A 6 F) 1 G) n f := ⟨h.1, fun i hi => by rw [up2_n (by decide), up2_n (by decide)]; exact h.2.1 i hi, h.2.2⟩
theorem RS_adv (h : TXE g A n f) (hq : q ≤ n) : p_X7_advanceToken m (RS B m g f n A v nm q) = some (RS B m g f n A v nm (nxt f n q)) := by
  have e := enN_b (f := f) hq
  exact e_adv h.up e.2.1
theorem r_len (hq : q ≤ n) : p_X7_tokenLength m (RS B m g f n A v nm q) = some (nN (enN f n q - q)) := by
  have e := enN_b (f := f) hq
  unfold p_X7_tokenLength
  rw [RS_17, bS, RS_18, bS, nN_subN e.1]
theorem r_w23 (h : TXE g A n f) (hq : q ≤ n) {i : Nat} (hi : i < 11) (hk : kdN f n q = 1) (hl : zLn i = enN f n q - q) (k1 k2 : Unit → Option Int32) : ∀ d j fu, j + d = enN f n q - q → d < fu → ((∀ x, j ≤ x → x < enN f n q - q → f (q + x) = zB i x) → pl_X7_isWord_23 k1 k2 m i (RS B m g f n A v nm q) fu (nN j) = k2 ()) ∧ (¬ (∀ x, j ≤ x → x < enN f n q - q → f (q + x) = zB i x) → pl_X7_isWord_23 k1 k2 m i (RS B m g f n A v nm q) fu (nN j) = k1 ()) := by
  have e := enN_b (f := f) hq
  have hn := h.2.2.1
  intro d
  induction d with
  | zero =>
    intro j fu hj hf
    obtain ⟨F, rfl⟩ : ∃ F, fu = F + 1 := ⟨fu - 1, by omega⟩
    refine ⟨fun _ => ?_, fun w => absurd (fun x h1 h2 => by omega) w⟩
    rw [pl_X7_isWord_23, sLen_n hi, bS, if_pos (nle_t (by omega) (by omega) (by omega))]
  | succ d ih =>
    intro j fu hj hf
    obtain ⟨F, rfl⟩ : ∃ F, fu = F + 1 := ⟨fu - 1, by omega⟩
    have t := tok_in (f := f) (n := n) (st := q) (i := q + j) (Or.inl hk) (by omega) (by omega)
    have hs := sAt_n (i := i) (k := j) hi (by omega)
    have hb := h.2.2.2 (q + j) t.1
    have ek : nN j + (1 : Int32) = nN (j + 1) := nN_add j 1
    rw [pl_X7_isWord_23, sLen_n hi, bS, if_neg (nle_f (by omega) (by omega) (by omega)), RS_11, bS, RS_18, bS, nN_add, RS_tx h t.1, bS, hs.1, bS]
    by_cases c : f (q + j) = zB i j
    · rw [if_pos (show nN (f (q + j)) = nN (zB i j) by rw [c]), ek]
      obtain ⟨i1, i2⟩ := ih (j + 1) F (by omega) (by omega)
      exact ⟨fun w => i1 (fun x h1 h2 => w x (by omega) h2), fun w => i2 (fun w2 => w (fun x h1 h2 => by
        by_cases e : x = j
        · rw [e]; exact c
        · exact w2 x (by omega) h2))⟩
    · rw [if_neg (neq_f (by omega) (by omega) c)]
      exact ⟨fun w => absurd (w j (Nat.le_refl _) (by omega)) c, fun _ => rfl⟩
theorem r_word (h : TXE g A n f) (hq : q ≤ n) {i : Nat} (hi : i < 11) : p_X7_isWord m i (RS B m g f n A v nm q) = some (bI (wdN f n q = some i)) := by
  have e := enN_b (f := f) hq
  have hn := h.2.2.1
  have h4 := kdN_4 (f := f) (n := n) (st := q)
  have hz := zLn_r ⟨i, hi⟩
  unfold p_X7_isWord
  rw [RS_20, bS]
  by_cases c : kdN f n q = 1
  · rw [if_pos (show nN (kdN f n q) = (1 : Int32) by rw [c]; rfl), RS_C, bS, r_len hq, bS, sLen_n hi, bS]
    by_cases c2 : zLn i = enN f n q - q
    · rw [if_pos (show nN (enN f n q - q) = nN (zLn i) by rw [c2])]
      obtain ⟨i1, i2⟩ := r_w23 (B := B) (m := m) (v := v) (nm := nm) h hq hi c c2 (fun (_ : Unit) => some (0 : Int32)) (fun (_ : Unit) => some (1 : Int32)) (enN f n q - q) 0 FU (by omega) (FU_pos (by omega))
      by_cases c3 : ∀ x, 0 ≤ x → x < enN f n q - q → f (q + x) = zB i x
      · refine (i1 c3).trans ?_
        rw [← bI_t ((wdN_i hi).mpr ⟨c, decide_eq_true ⟨c2, fun j hj => c3 j (Nat.zero_le _) hj⟩⟩)]; rfl
      · refine (i2 c3).trans ?_
        rw [← bI_f (fun w => c3 (fun x _ hx => (of_decide_eq_true ((wdN_i hi).mp w).2).2 x hx))]; rfl
    · rw [if_neg (neq_f (by omega) (by have : zLn i ≤ 7 := hz.2; omega) (fun w => c2 w.symm)), ← bI_f (fun w => c2 (of_decide_eq_true ((wdN_i hi).mp w).2).1)]; rfl
  · rw [if_neg (show ¬ nN (kdN f n q) = (1 : Int32) from neq_f (b := 1) (by omega) (by omega) c), ← bI_f (fun w => c ((wdN_i hi).mp w).1)]; rfl
theorem r_let (h : TXE g A n f) (hq : q ≤ n) {k : Nat} (hk : k < 1000) : p_X7_letterHere m (nN k) (RS B m g f n A v nm q) = some (nN (ltr f n q k)) := by
  have e := enN_b (f := f) hq
  have hn := h.2.2.1
  unfold p_X7_letterHere
  rw [RS_C, bS, r_len hq, bS]
  by_cases c : k < enN f n q - q
  · rw [if_neg (nle_f (by omega) (by omega) (by omega)), RS_11, bS, RS_18, bS, nN_add, RS_tx h (by omega), bS]
    unfold ltr; rw [if_pos c]
  · rw [if_pos (nle_t (by omega) (by omega) (by omega))]
    unfold ltr; rw [if_neg c]; rfl
theorem ltr_lt (h : TXE g A n f) (hq : q ≤ n) {k : Nat} : ltr f n q k < 256 := by
  have e := enN_b (f := f) hq
  unfold ltr
  by_cases c : k < enN f n q - q
  · rw [if_pos c]; exact h.2.2.2 _ (by omega)
  · rw [if_neg c]; omega
theorem r_wdz (h : TXE g A n f) (hq : q ≤ n) (k4 : Int32 → Option Int32) {R : Option Int32} (h1 : ∀ i, i < 11 → wdN f n q = some i → k4 1 = R) (h0 : wdN f n q = none → k4 0 = R) : ((if bI (wdN f n q = some 0) = 0 then (Option.bind (isC 6 (RS B m g f n A v nm q) m) fun _ => (Option.bind (p_X7_isWord m 1 (RS B m g f n A v nm q)) fun v13 => (if v13 = 0 then (Option.bind (isC 6 (RS B m g f n A v nm q) m) fun _ => (Option.bind (p_X7_isWord m 2 (RS B m g f n A v nm q)) fun v16 => (if v16 = 0 then (Option.bind (isC 6 (RS B m g f n A v nm q) m) fun _ => (Option.bind (p_X7_isWord m 3 (RS B m g f n A v nm q)) fun v19 => (if v19 = 0 then (Option.bind (isC 6 (RS B m g f n A v nm q) m) fun _ => (Option.bind (p_X7_isWord m 4 (RS B m g f n A v nm q)) fun v22 => (if v22 = 0 then (Option.bind (isC 6 (RS B m g f n A v nm q) m) fun _ => (Option.bind (p_X7_isWord m 5 (RS B m g f n A v nm q)) fun v25 => (if v25 = 0 then (Option.bind (isC 6 (RS B m g f n A v nm q) m) fun _ => (Option.bind (p_X7_isWord m 6 (RS B m g f n A v nm q)) fun v28 => (if v28 = 0 then (Option.bind (isC 6 (RS B m g f n A v nm q) m) fun _ => (Option.bind (p_X7_isWord m 7 (RS B m g f n A v nm q)) fun v31 => (if v31 = 0 then (Option.bind (isC 6 (RS B m g f n A v nm q) m) fun _ => (Option.bind (p_X7_isWord m 8 (RS B m g f n A v nm q)) fun v34 => (if v34 = 0 then (Option.bind (isC 6 (RS B m g f n A v nm q) m) fun _ => (Option.bind (p_X7_isWord m 9 (RS B m g f n A v nm q)) fun v37 => (if v37 = 0 then (Option.bind (isC 6 (RS B m g f n A v nm q) m) fun _ => (Option.bind (p_X7_isWord m 10 (RS B m g f n A v nm q)) fun v40 => (if v40 = 0 then (k4 (0 : Int32)) else (k4 (1 : Int32))))) else (k4 (1 : Int32))))) else (k4 (1 : Int32))))) else (k4 (1 : Int32))))) else (k4 (1 : Int32))))) else (k4 (1 : Int32))))) else (k4 (1 : Int32))))) else (k4 (1 : Int32))))) else (k4 (1 : Int32))))) else (k4 (1 : Int32))))) else (k4 (1 : Int32)))) = R := by
  by_cases c0 : wdN f n q = some 0
  · rw [← bI_t c0, if_neg (by decide)]; exact h1 0 (by decide) c0
  rw [← bI_f c0, if_pos z00, RS_b, r_word h hq (by decide), bS]
  by_cases c1 : wdN f n q = some 1
  · rw [← bI_t c1, if_neg (by decide)]; exact h1 1 (by decide) c1
  rw [← bI_f c1, if_pos z00, RS_b, r_word h hq (by decide), bS]
  by_cases c2 : wdN f n q = some 2
  · rw [← bI_t c2, if_neg (by decide)]; exact h1 2 (by decide) c2
  rw [← bI_f c2, if_pos z00, RS_b, r_word h hq (by decide), bS]
  by_cases c3 : wdN f n q = some 3
  · rw [← bI_t c3, if_neg (by decide)]; exact h1 3 (by decide) c3
  rw [← bI_f c3, if_pos z00, RS_b, r_word h hq (by decide), bS]
  by_cases c4 : wdN f n q = some 4
  · rw [← bI_t c4, if_neg (by decide)]; exact h1 4 (by decide) c4
  rw [← bI_f c4, if_pos z00, RS_b, r_word h hq (by decide), bS]
  by_cases c5 : wdN f n q = some 5
  · rw [← bI_t c5, if_neg (by decide)]; exact h1 5 (by decide) c5
  rw [← bI_f c5, if_pos z00, RS_b, r_word h hq (by decide), bS]
  by_cases c6 : wdN f n q = some 6
  · rw [← bI_t c6, if_neg (by decide)]; exact h1 6 (by decide) c6
  rw [← bI_f c6, if_pos z00, RS_b, r_word h hq (by decide), bS]
  by_cases c7 : wdN f n q = some 7
  · rw [← bI_t c7, if_neg (by decide)]; exact h1 7 (by decide) c7
  rw [← bI_f c7, if_pos z00, RS_b, r_word h hq (by decide), bS]
  by_cases c8 : wdN f n q = some 8
  · rw [← bI_t c8, if_neg (by decide)]; exact h1 8 (by decide) c8
  rw [← bI_f c8, if_pos z00, RS_b, r_word h hq (by decide), bS]
  by_cases c9 : wdN f n q = some 9
  · rw [← bI_t c9, if_neg (by decide)]; exact h1 9 (by decide) c9
  rw [← bI_f c9, if_pos z00, RS_b, r_word h hq (by decide), bS]
  by_cases c10 : wdN f n q = some 10
  · rw [← bI_t c10, if_neg (by decide)]; exact h1 10 (by decide) c10
  rw [← bI_f c10, if_pos z00]
  refine h0 ?_
  cases hw : wdN f n q with
  | none => rfl
  | some j =>
    have hj := wdN_lt hw
    exfalso
    have hj2 : j = 0 ∨ j = 1 ∨ j = 2 ∨ j = 3 ∨ j = 4 ∨ j = 5 ∨ j = 6 ∨ j = 7 ∨ j = 8 ∨ j = 9 ∨ j = 10 := by omega
    rcases hj2 with e | e | e | e | e | e | e | e | e | e | e <;> rw [e] at hw
    · exact c0 hw
    · exact c1 hw
    · exact c2 hw
    · exact c3 hw
    · exact c4 hw
    · exact c5 hw
    · exact c6 hw
    · exact c7 hw
    · exact c8 hw
    · exact c9 hw
    · exact c10 hw
theorem r_name (h : TXE g A n f) (hq : q ≤ n) : p_X7_isName m (RS B m g f n A v nm q) = some (bI (nmB f n q = true)) := by
  have e := enN_b (f := f) hq
  have hn := h.2.2.1
  have h4 := kdN_4 (f := f) (n := n) (st := q)
  unfold p_X7_isName
  rw [RS_b, r_word h hq (by decide), bS, jn_def]
  refine r_wdz h hq (fun (s3 : Int32) => Option.bind (gI 6 20 (RS B m g f n A v nm q) m) fun v5 => (if v5 = (1 : Int32) then (Option.bind (isC 6 (RS B m g f n A v nm q) m) fun _ => (Option.bind (p_X7_tokenLength m (RS B m g f n A v nm q)) fun v8 => (if (6 : Int32) < v8 then some (0 : Int32) else (if s3 = 0 then some (1 : Int32) else some (0 : Int32))))) else some (0 : Int32))) (fun i hi hw => ?_) (fun hw => ?_)
  · show Option.bind (gI 6 20 (RS B m g f n A v nm q) m) _ = _
    rw [RS_20, bS, ← bI_f (fun w => by rw [(of_decide_eq_true w).2.2] at hw; cases hw)]
    by_cases c : nN (kdN f n q) = (1 : Int32)
    · rw [if_pos c, RS_C, bS, r_len hq, bS]
      by_cases c2 : (6 : Int32) < nN (enN f n q - q)
      · rw [if_pos c2]; rfl
      · rw [if_neg c2, if_neg (by decide)]; rfl
    · rw [if_neg c]; rfl
  · show Option.bind (gI 6 20 (RS B m g f n A v nm q) m) _ = _
    rw [RS_20, bS]
    by_cases c : kdN f n q = 1
    · rw [if_pos (show nN (kdN f n q) = (1 : Int32) by rw [c]; rfl), RS_C, bS, r_len hq, bS]
      by_cases c2 : enN f n q - q ≤ 6
      · rw [if_neg (show ¬ (6 : Int32) < nN (enN f n q - q) from nlt_f (a := 6) (by omega) (by omega) (by omega)), if_pos rfl, ← bI_t (show nmB f n q = true from decide_eq_true ⟨c, c2, hw⟩)]; rfl
      · rw [if_pos (show (6 : Int32) < nN (enN f n q - q) from nlt_t (a := 6) (by omega) (by omega) (by omega)), ← bI_f (fun w => c2 (of_decide_eq_true w).2.1)]; rfl
    · rw [if_neg (show ¬ nN (kdN f n q) = (1 : Int32) from neq_f (b := 1) (by omega) (by omega) c), ← bI_f (fun w => c (of_decide_eq_true w).1)]; rfl
theorem smC_s {s k : Nat} : smC nm f n q s (k + 1) = true ↔ (smC nm f n q s k = true ∧ nm (6 * s + k) = ltr f n q k) := by
  constructor
  · intro w
    have w := of_decide_eq_true w
    exact ⟨decide_eq_true (fun i hi => w i (by omega)), w k (by omega)⟩
  · rintro ⟨w1, w2⟩
    have w1 := of_decide_eq_true w1
    exact decide_eq_true (fun i hi => by
      by_cases e : i = k
      · rw [e]; exact w2
      · exact w1 i (by omega))
theorem smC_6 {s : Nat} : ∀ d k, k + d = 6 → smB nm f n q s = true → smC nm f n q s k = true := fun d k hk w => by
  have w : ∀ i, i < 6 → nm (6 * s + i) = ltr f n q i := of_decide_eq_true w
  exact decide_eq_true (fun i hi => w i (by omega))
theorem r_f16 (h : TXE g A n f) (hq : q ≤ n) {s : Nat} (hs : s < 8) (hN : ∀ i, i < 6 → nm (6 * s + i) < 256) (k1 : Int32 → Option Int32) : ∀ d k fu, k + d = 6 → d < fu → smC nm f n q s k = true → pl_X7_find_16 k1 m (nN s) (RS B m g f n A v nm q) fu (1 : Int32) (nN k) = k1 (bI (smB nm f n q s = true)) := by
  intro d
  induction d with
  | zero =>
    intro k fu hk hf hc
    obtain ⟨F, rfl⟩ : ∃ F, fu = F + 1 := ⟨fu - 1, by omega⟩
    have e6 : k = 6 := by omega
    subst e6
    rw [pl_X7_find_16, if_pos (show (6 : Int32) ≤ nN 6 by decide), ← bI_t (show smB nm f n q s = true from hc)]; rfl
  | succ d ih =>
    intro k fu hk hf hc
    obtain ⟨F, rfl⟩ : ∃ F, fu = F + 1 := ⟨fu - 1, by omega⟩
    have ek : nN k + (1 : Int32) = nN (k + 1) := nN_add k 1
    have em : (6 : Int32) * nN s + nN k = nN (6 * s + k) := by rw [show (6 : Int32) = nN 6 from rfl, nN_mul, nN_add]
    have hl := ltr_lt h hq (k := k)
    have hnm := hN k (by omega)
    rw [pl_X7_find_16, if_neg (show ¬ (6 : Int32) ≤ nN k from nle_f (a := 6) (by omega) (by omega) (by omega)), if_neg (by decide), RS_7, bS, em, RS_nm (by omega), bS, RS_C, bS, r_let h hq (by omega), bS, ek]
    by_cases c : nm (6 * s + k) = ltr f n q k
    · rw [if_pos (show nN (nm (6 * s + k)) = nN (ltr f n q k) by rw [c]), ih (k + 1) F (by omega) (by omega) (smC_s.mpr ⟨hc, c⟩)]
    · rw [if_neg (neq_f (by omega) (by omega) c), ← bI_f (fun w => c (smC_s.mp (smC_6 d (k + 1) (by omega) w)).2)]
      obtain ⟨F, rfl⟩ : ∃ F2, F = F2 + 1 := ⟨F - 1, by omega⟩
      rw [pl_X7_find_16]
      by_cases c6 : (6 : Int32) ≤ nN (k + 1)
      · rw [if_pos c6]; rfl
      · rw [if_neg c6, if_pos rfl]; rfl
theorem r_find (h : TXE g A n f) (hq : q ≤ n) (h0 : v 0 ≤ 8) (hN : NMS nm (v 0)) : p_X7_find m (RS B m g f n A v nm q) = some (oN (fdN nm (v 0) f n q)) := by
  unfold p_X7_find fdN
  have key : ∀ d s fu, s + d = v 0 → d < fu → pl_X7_find_2 (fun z15 => some z15) (fun _ => some (-1 : Int32)) m (RS B m g f n A v nm q) fu (nN s) = some (oN (fnd (fun s => smB nm f n q s = true) s d)) := by
    intro d
    induction d with
    | zero =>
      intro s fu hs hf
      obtain ⟨F, rfl⟩ : ∃ F, fu = F + 1 := ⟨fu - 1, by omega⟩
      rw [pl_X7_find_2, RS_0, bS, show (0 : Int32) = nN 0 from rfl, RS_rd (by omega) (by omega), bS, if_pos (nle_t (by omega) (by omega) (by omega))]; rfl
    | succ d ih =>
      intro s fu hs hf
      obtain ⟨F, rfl⟩ : ∃ F, fu = F + 1 := ⟨fu - 1, by omega⟩
      have ek : nN s + (1 : Int32) = nN (s + 1) := nN_add s 1
      obtain ⟨l, l1, l2, l3, l4⟩ := hN s (by omega)
      have hN6 : ∀ i, i < 6 → nm (6 * s + i) < 256 := fun i hi => by
        by_cases c : i < l
        · have := l3 i c; omega
        · have := l4 i (by omega) hi; omega
      rw [pl_X7_find_2, RS_0, bS, show (0 : Int32) = nN 0 from rfl, RS_rd (by omega) (by omega), bS, if_neg (nle_f (by omega) (by omega) (by omega)), jn_def]
      refine Eq.trans (r_f16 h hq (by omega) hN6 _ 6 0 FU (by omega) (FU_pos (by omega)) (decide_eq_true (fun i hi => absurd hi (Nat.not_lt_zero _)))) ?_
      rw [fnd_st]
      by_cases c : smB nm f n q s = true
      · rw [if_pos c, ← bI_t c]
        show (if nN 1 = (0 : Int32) then _ else some (nN s)) = _
        rw [if_neg (by decide)]; rfl
      · rw [if_neg c, ← bI_f c]
        show (if nN 0 = (0 : Int32) then _ else some (nN s)) = _
        rw [if_pos z00, ek, ih (s + 1) F (by omega) (by omega)]
  exact key (v 0) 0 FU (by omega) (FU_pos (by omega))
theorem r_fail (h15 : g 15 = 0) (c : Int32) : p_X7_failsAt m c (RS B m g f n A v nm q) = some ((0 : Int32), RS B m (gFl g c q) f n A v nm q) := by
  have e1 : sV 6 15 (RS B m g f n A v nm q) m (.int c) = some (RS B m (upd g 15 c) f n A v nm q) := by unfold RS; rw [op_15, gk_u (by decide)]
  have e2 : sV 6 16 (RS B m (upd g 15 c) f n A v nm q) m (.int (nN q)) = some (RS B m (gFl g c q) f n A v nm q) := by unfold RS gFl; rw [op_16, gk_u (by decide)]
  unfold p_X7_failsAt
  rw [RS_15, bS, if_pos h15, e1, bS, RS_18, bS, e2, bS]
theorem r_f2 (h15 : g 15 = 0) (c : Int32) : ob2 (p_X7_failsAt m c (RS B m g f n A v nm q)) (fun v4 M5 => if v4 = 0 ∨ v4 = 1 then some (v4, M5) else none) = some ((0 : Int32), RS B m (gFl g c q) f n A v nm q) := by
  rw [r_fail h15, ob2_def, if_pos (Or.inl rfl)]
theorem r_into (h : TXE g A n f) (hq : q ≤ n) (h15 : g 15 = 0) {i lo hi : Nat} (hi1 : i < 764) (hi2 : ¬ (484 ≤ i ∧ i < 524)) (hlo : lo < 1000) (hhi : hi < 1000) : p_X7_takesInto m (nN i) (nN lo) (nN hi) (RS B m g f n A v nm q) = if nuB f n q = true then (if raB f n q lo hi = true then some ((1 : Int32), RS B m g f n A (updN v i (vlN f n q)) nm (nxt f n q)) else some ((0 : Int32), RS B m (gFl g 2 q) f n A v nm q)) else some ((0 : Int32), RS B m (gFl g 1 q) f n A v nm q) := by
  have e := enN_b (f := f) hq
  have hn := h.2.2.1
  have h4 := kdN_4 (f := f) (n := n) (st := q)
  unfold p_X7_takesInto
  rw [RS_20, bS, jn_def]
  by_cases c : kdN f n q = 2
  · rw [if_pos (show nN (kdN f n q) = (2 : Int32) by rw [c]; rfl), RS_b, r_len hq, bS]
    by_cases c2 : enN f n q - q ≤ 3
    · have hvl := vlF_lt (f := f) (st := q) (enN f n q - q) (fun j hj => by
        have t2 := tok_in (f := f) (n := n) (st := q) (i := q + j) (Or.inr c) (by omega) (by omega)
        rw [c] at t2
        have := kdC_2.mp t2.2
        omega)
      have hp : 10 ^ (enN f n q - q) ≤ 10 ^ 3 := Nat.pow_le_pow_right (by decide) c2
      have h103 : 10 ^ 3 = 1000 := by decide
      have hv : vlN f n q < 1000 := by
        unfold vlN m3; rw [if_pos c, if_pos c2]; omega
      rw [if_pos (show nN (enN f n q - q) ≤ (3 : Int32) from nle_t (b := 3) (by omega) (by omega) c2), RS_19, bS, e_inRange, bS, bI_c (show (nN lo ≤ nN (vlN f n q) ∧ nN (vlN f n q) ≤ nN hi) ↔ (lo ≤ vlN f n q ∧ vlN f n q ≤ hi) by rw [nN_le (by omega) (by omega), nN_le (by omega) (by omega)]), if_pos (show nuB f n q = true from decide_eq_true ⟨c, c2⟩)]
      by_cases c3 : lo ≤ vlN f n q ∧ vlN f n q ≤ hi
      · rw [← bI_t c3, if_neg (by decide), RS_0, bS, bS, RS_wr hi1 hi2, bS, RS_b, RS_adv h hq, bS, if_pos (show raB f n q lo hi = true from decide_eq_true c3)]
      · rw [← bI_f c3, if_pos z00, RS_b, r_f2 h15, if_neg (show ¬ raB f n q lo hi = true from fun w => c3 (of_decide_eq_true w))]
    · rw [if_neg (show ¬ nN (enN f n q - q) ≤ (3 : Int32) from nle_f (b := 3) (by omega) (by omega) c2), if_neg (show ¬ nuB f n q = true from fun w => c2 (of_decide_eq_true w).2)]
      show Option.bind (isC 6 (RS B m g f n A v nm q) m) _ = _
      rw [RS_b, r_f2 h15]
  · rw [if_neg (show ¬ nN (kdN f n q) = (2 : Int32) from neq_f (b := 2) (by omega) (by omega) c), if_neg (show ¬ nuB f n q = true from fun w => c (of_decide_eq_true w).1)]
    show Option.bind (isC 6 (RS B m g f n A v nm q) m) _ = _
    rw [RS_b, r_f2 h15]
theorem r_starts (h : TXE g A n f) (hq : q ≤ n) (h15 : g 15 = 0) : p_X7_starts m (0 : Int32) (RS B m g f n A v nm q) = some ((0 : Int32), RS B m (gFl g 4 q) f n A v nm q) ∧ p_X7_starts m (1 : Int32) (RS B m g f n A v nm q) = some ((1 : Int32), RS B m g f n A v nm (nxt f n q)) := by
  constructor
  · unfold p_X7_starts
    rw [if_pos rfl, RS_b, r_f2 h15]
  · unfold p_X7_starts
    rw [if_neg (by decide), RS_b, RS_adv h hq, bS]
theorem r_school (h : TXE g A n f) (hq : q ≤ n) (h15 : g 15 = 0) (h0 : v 0 ≤ 8) (hN : NMS nm (v 0)) {i : Nat} (hi1 : i < 764) (hi2 : ¬ (484 ≤ i ∧ i < 524)) : p_X7_takesSchool m (nN i) (RS B m g f n A v nm q) = if nmB f n q = true then (match fdN nm (v 0) f n q with | none => some ((0 : Int32), RS B m (gFl g 3 q) f n A v nm q) | some s => some ((1 : Int32), RS B m g f n A (updN v i s) nm (nxt f n q))) else some ((0 : Int32), RS B m (gFl g 1 q) f n A v nm q) := by
  unfold p_X7_takesSchool
  rw [RS_b, r_name h hq, bS]
  by_cases c : nmB f n q = true
  · rw [← bI_t c, if_neg (by decide), RS_b, r_find h hq h0 hN, bS, if_pos c]
    cases hf : fdN nm (v 0) f n q with
    | none => rw [if_pos (show oN none = (-1 : Int32) from rfl), RS_b, r_f2 h15]
    | some s =>
      have hs := (fnd_some hf).2.1
      rw [if_neg (show ¬ oN (some s) = (-1 : Int32) from nNm (by omega)), RS_0, bS, show oN (some s) = nN s from rfl, RS_wr hi1 hi2, bS, RS_b, RS_adv h hq, bS]
  · rw [← bI_f c, if_pos z00, RS_b, r_f2 h15, if_neg c]
def rlN (f : Nat → Nat) (n q : Nat) : Option Nat := if wdN f n q = some 7 then some 0 else if wdN f n q = some 8 then some 1 else if wdN f n q = some 1 then some 2 else none
theorem rlN_lt {r : Nat} (h : rlN f n q = some r) : r < 3 ∧ kdN f n q = 1 := by
  unfold rlN at h
  by_cases a : wdN f n q = some 7
  · rw [if_pos a] at h; cases h; exact ⟨by omega, wdN_1 a⟩
  · rw [if_neg a] at h
    by_cases b : wdN f n q = some 8
    · rw [if_pos b] at h; cases h; exact ⟨by omega, wdN_1 b⟩
    · rw [if_neg b] at h
      by_cases c : wdN f n q = some 1
      · rw [if_pos c] at h; cases h; exact ⟨by omega, wdN_1 c⟩
      · rw [if_neg c] at h; cases h
theorem r_rule (h : TXE g A n f) (hq : q ≤ n) : p_X7_ruleHere m (RS B m g f n A v nm q) = some (oN (rlN f n q)) := by
  unfold p_X7_ruleHere rlN
  rw [RS_b, r_word h hq (by decide), bS]
  by_cases a : wdN f n q = some 7
  · rw [← bI_t a, if_neg (by decide), if_pos a]; rfl
  · rw [← bI_f a, if_pos z00, RS_b, r_word h hq (by decide), bS, if_neg a]
    by_cases b : wdN f n q = some 8
    · rw [← bI_t b, if_neg (by decide), if_pos b]; rfl
    · rw [← bI_f b, if_pos z00, RS_b, r_word h hq (by decide), bS, if_neg b]
      by_cases c : wdN f n q = some 1
      · rw [← bI_t c, if_neg (by decide), if_pos c]; rfl
      · rw [← bI_f c, if_pos z00, if_neg c]; rfl
end RP
