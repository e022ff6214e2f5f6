/-! the setup text: the reference's children -/
section RS4
variable {f : Nat → Nat} {n : Nat} {nm : Nat → Nat}
theorem wshV_0 {v : Nat → Nat} {k0 c k q : Nat} : wshV f n nm k0 c 0 v k q = .inl (1, q) := rfl
/-- a step of the wishes -/
theorem wsh_i {v : Nat → Nat} {k0 c d k q : Nat} {y : (Nat → Nat) × Nat × Nat} (h : wshV f n nm k0 c (d + 1) v k q = .inr y) : nmB f n q = true ∧ ∃ s, fdN nm k0 f n q = some s ∧ fnd (fun i => v (564 + 4 * c + i) = s) 0 k = none ∧ ((kdN f n (nxt f n q) = 1 ∧ wshV f n nm k0 c d (updN (updN v (564 + 4 * c + k) s) (324 + c) (k + 1)) (k + 1) (nxt f n q) = .inr y) ∨ (kdN f n (nxt f n q) ≠ 1 ∧ y = (updN (updN v (564 + 4 * c + k) s) (324 + c) (k + 1), k + 1, nxt f n q))) := by
  unfold wshV at h
  by_cases c1 : nmB f n q = true
  · rw [if_pos c1] at h
    refine ⟨c1, ?_⟩
    cases hf : fdN nm k0 f n q with
    | none => rw [hf] at h; cases h
    | some s =>
      rw [hf] at h
      refine ⟨s, rfl, ?_⟩
      have h : (if fnd (fun i => v (564 + 4 * c + i) = s) 0 k = none then (if kdN f n (nxt f n q) = 1 then wshV f n nm k0 c d (updN (updN v (564 + 4 * c + k) s) (324 + c) (k + 1)) (k + 1) (nxt f n q) else .inr (updN (updN v (564 + 4 * c + k) s) (324 + c) (k + 1), k + 1, nxt f n q)) else .inl (3, q)) = Sum.inr y := h
      by_cases c2 : fnd (fun i => v (564 + 4 * c + i) = s) 0 k = none
      · rw [if_pos c2] at h
        refine ⟨c2, ?_⟩
        by_cases c3 : kdN f n (nxt f n q) = 1
        · rw [if_pos c3] at h; exact Or.inl ⟨c3, h⟩
        · rw [if_neg c3] at h; exact Or.inr ⟨c3, (Sum.inr.inj h).symm⟩
      · rw [if_neg c2] at h; cases h
  · rw [if_neg c1] at h; cases h
def wsP (v : Nat → Nat) (k0 c : Nat) (V : Nat → Nat) (k : Nat) : Prop := (∀ i, i ≠ 324 + c → ¬ (564 + 4 * c ≤ i ∧ i < 564 + 4 * c + k) → V i = v i) ∧ V (324 + c) = k ∧ k ≤ 4 ∧ (∀ i, i < k → V (564 + 4 * c + i) < k0) ∧ ∀ i j, i < j → j < k → V (564 + 4 * c + i) ≠ V (564 + 4 * c + j)
theorem wsP.st {v V : Nat → Nat} {k0 c k s : Nat} (hc : c < 40) (h : wsP v k0 c V k) (hk : k < 4) (hs : s < k0) (hn : fnd (fun i => V (564 + 4 * c + i) = s) 0 k = none) : wsP v k0 c (updN (updN V (564 + 4 * c + k) s) (324 + c) (k + 1)) (k + 1) := by
  obtain ⟨h1, h2, h3, h4, h5⟩ := h
  have ew : ∀ i, i < k → updN (updN V (564 + 4 * c + k) s) (324 + c) (k + 1) (564 + 4 * c + i) = V (564 + 4 * c + i) := fun i hi => (if_neg (by omega)).trans (if_neg (by omega))
  have ew2 : updN (updN V (564 + 4 * c + k) s) (324 + c) (k + 1) (564 + 4 * c + k) = s := (if_neg (by omega)).trans (if_pos rfl)
  refine ⟨fun i a b => ((if_neg (by omega)).trans (if_neg (by omega))).trans (h1 i a (by omega)), if_pos rfl, by omega, fun i hi => ?_, fun i j hij hj => ?_⟩
  · by_cases e : i = k
    · rw [e, ew2]; exact hs
    · rw [ew i (by omega)]; exact h4 i (by omega)
  · by_cases e : j = k
    · rw [e, ew2, ew i (by omega)]; exact fnd_none hn i (Nat.zero_le _) (by omega)
    · rw [ew i (by omega), ew j (by omega)]; exact h5 i j hij (by omega)
theorem wsh_P {v : Nat → Nat} {k0 c : Nat} (hc : c < 40) {y : (Nat → Nat) × Nat × Nat} : ∀ d V k q, k + d = 4 → wsP v k0 c V k → q ≤ n → wshV f n nm k0 c d V k q = .inr y → wsP v k0 c y.1 y.2.1 ∧ q ≤ y.2.2 ∧ y.2.2 ≤ n := by
  intro d
  induction d with
  | zero => intro V k q _ _ _ h; cases h
  | succ d ih =>
    intro V k q hk hP hq h
    obtain ⟨c1, s, c2, c3, c4⟩ := wsh_i h
    have hs := (fnd_some c2).2.1
    have hP2 := hP.st hc (by omega) (by omega : s < k0) c3
    have hx := nxt_b (f := f) hq
    rcases c4 with ⟨-, c4⟩ | ⟨-, c4⟩
    · have := ih _ _ _ (by omega) hP2 hx.2.1 c4
      exact ⟨this.1, Nat.le_trans hx.1 this.2.1, this.2.2⟩
    · rw [c4]; exact ⟨hP2, hx.1, hx.2.1⟩
/-- the child's own fields so far -/
def CHV (v V : Nat → Nat) (c x y a cr : Nat) : Prop := (V (124 + c) = x ∧ V (164 + c) = y ∧ V (204 + c) = a ∧ V (244 + c) = cr) ∧ ∀ i, i ≠ 124 + c → i ≠ 164 + c → i ≠ 204 + c → i ≠ 244 + c → V i = v i
theorem chi_eq {v V W : Nat → Nat} {c x y a cr k0 k : Nat} (hc : c < 40) (h1 : v 1 = c) (hV : CHV v V c x y a cr) (hW : wsP V k0 c W k) (h8 : v 8 = 0) (hz : v (364 + c) = 0 ∧ v (404 + c) = 0 ∧ v (444 + c) = 0 ∧ v (524 + c) = 0) : updN (drwV W c) 1 (c + 1) = enrV v x y a cr (fun i => W (564 + 4 * c + i)) k := by
  obtain ⟨⟨e1, e2, e3, e4⟩, e5⟩ := hV
  obtain ⟨w1, w2, w3, w4, w5⟩ := hW
  have e11 : W 11 = v 11 := (w1 11 (by omega) (by omega)).trans (e5 11 (by omega) (by omega) (by omega) (by omega))
  funext i
  unfold enrV drwV
  rw [e11, h1]
  generalize (v 11 * 1103515245 + 12345) % 2147483648 = l
  by_cases c1 : i = 1
  · subst c1; rw [updN_s, if_pos rfl]
  rw [updN_n c1, if_neg c1]
  by_cases c2 : i = 11
  · subst c2; rw [updN_n (by omega), updN_s, if_pos rfl]
  rw [if_neg c2]
  by_cases c7 : i = 284 + c
  · subst c7
    rw [updN_s, if_neg (by omega), if_neg (by omega), if_neg (by omega), if_neg (by omega), if_pos rfl]
  rw [updN_n c7, updN_n c2]
  by_cases c8 : i = 324 + c
  · subst c8
    rw [w2, if_neg (by omega), if_neg (by omega), if_neg (by omega), if_neg (by omega), if_neg (by omega), if_pos rfl]
  by_cases c9 : 564 + 4 * c ≤ i ∧ i < 564 + 4 * c + k
  · rw [if_neg (by omega), if_neg (by omega), if_neg (by omega), if_neg (by omega), if_neg (by omega), if_neg (by omega), if_neg (by omega), if_neg (by omega), if_neg (by omega), if_neg (by omega), if_pos c9]
    show W i = W (564 + 4 * c + (i - (564 + 4 * c)))
    congr 1
    omega
  rw [w1 i c8 c9]
  by_cases c3 : i = 124 + c
  · subst c3; rw [if_pos rfl, e1]
  rw [if_neg c3]
  by_cases c4 : i = 164 + c
  · subst c4; rw [if_pos rfl, e2]
  rw [if_neg c4]
  by_cases c5 : i = 204 + c
  · subst c5; rw [if_pos rfl, e3]
  rw [if_neg c5]
  by_cases c6 : i = 244 + c
  · subst c6; rw [if_pos rfl, e4]
  rw [if_neg c6, if_neg c7, if_neg c8, e5 i c3 c4 c5 c6]
  by_cases d1 : i = 364 + c
  · subst d1; rw [if_pos rfl, h8]; exact hz.1
  rw [if_neg d1]
  by_cases d2 : i = 404 + c
  · subst d2; rw [if_pos rfl]; exact hz.2.1
  rw [if_neg d2]
  by_cases d3 : i = 444 + c
  · subst d3; rw [if_pos rfl]; exact hz.2.2.1
  rw [if_neg d3]
  by_cases d4 : i = 524 + c
  · subst d4; rw [if_pos rfl]; exact hz.2.2.2
  rw [if_neg d4, if_neg c9]
end RS4
section RS5
variable {B : Mem} {m : Nat} {g : Nat → Int32} {f : Nat → Nat} {n : Nat} {A : Nat → Nat → Int32} {v nm : Nat → Nat} {q : Nat}
def kpR (m c : Nat) (M23 : Mem) : Option (Int32 × Mem) := Option.bind (isC 6 M23 m) fun _ => Option.bind (p_X7_isWord m 10 M23) fun v26 => if v26 = 0 then (Option.bind (isC 6 M23 m) fun _ => ob2 (p_X7_failsAt m (1 : Int32) M23) fun v40 M41 => if v40 = 0 ∨ v40 = 1 then some (v40, M41) else none) else (Option.bind (isC 6 M23 m) fun _ => Option.bind (p_X7_advanceToken m M23) fun M29 => Option.bind (isC 6 M29 m) fun _ => ob2 (p_X7_readWishes m (nN c) M29) fun v31 M32 => if v31 = 0 then some ((0 : Int32), M32) else Option.bind (isC 6 M32 m) fun _ => Option.bind (p_X7_draws m (nN c) M32) fun M35 => Option.bind (gR 6 0 M35 m) fun v36 => Option.bind (aI 0 M35 v36 (1 : Int32)) fun v37 => Option.bind (aIs M35 v36 (1 : Int32) (v37 + (1 : Int32))) fun M38 => some ((1 : Int32), M38))
def kfR (m c : Nat) (M19 : Mem) : Option (Int32 × Mem) := Option.bind (isC 6 M19 m) fun _ => Option.bind (p_X7_isWord m 9 M19) fun v22 => jn (fun M23 => kpR m c M23) fun k24 => if v22 = 0 then k24 M19 else Option.bind (isC 6 M19 m) fun _ => Option.bind (p_X7_advanceToken m M19) fun M44 => Option.bind (isC 6 M44 m) fun _ => ob2 (p_X7_takesInto m ((204 : Int32) + nN c) (1 : Int32) (99 : Int32) M44) fun v46 M47 => if v46 = 0 then some ((0 : Int32), M47) else k24 M47
theorem r_chiP (h : TXE g A n f) (hq : q ≤ n) (h15 : g 15 = 0) {o c : Nat} (ho : g 21 = nN o) (hc : c < 40) (h0 : v 0 ≤ 8) (hN : NMS nm (v 0)) (h1 : v 1 = c) (h324 : v (324 + c) = 0) : PE B m g f n A (chiP f n nm o c v q) (kpR m c (RS B m g f n A v nm q)) := by
  have hx := (nxt_b (f := f) hq).2.1
  unfold kpR chiP
  rw [RS_b, r_word h hq (by decide), bS]
  by_cases cw : wdN f n q = some 10
  · rw [← bI_t cw, if_pos cw, if_neg n1z, RS_b, RS_adv h hq, bS, RS_b]
    have hw : PE B m g f n A (wsQ nm o (wshV f n nm (v 0) c 4 v 0 (nxt f n q))) (p_X7_readWishes m (nN c) (RS B m g f n A v nm (nxt f n q))) := by
      unfold p_X7_readWishes
      rw [jn_def, jn_def]
      exact r_wsh h h15 ho hc h0 hN 4 0 v (nxt f n q) FU (by omega) (FU_pos (by omega)) rfl h324 (fun i hi => by omega) hx
    cases hS : wshV f n nm (v 0) c 4 v 0 (nxt f n q) with
    | inl e =>
      rw [hS] at hw
      obtain ⟨g', v', nm', w1, w2⟩ := hw
      rw [w1, ob2_def, if_pos rfl]
      exact ⟨g', v', nm', rfl, w2⟩
    | inr y =>
      rw [hS] at hw
      obtain ⟨g', w1, w2, w3⟩ := hw
      have hP := (wsh_P (v := v) hc 4 v 0 _ (by omega) ⟨fun i _ _ => rfl, h324, by omega, fun i hi => by omega, fun i j _ hj => by omega⟩ hx hS).1
      have hd : p_X7_draws m (nN c) (RS B m g' f n A y.1 nm y.2.2) = some (RS B m g' f n A (drwV y.1 c) nm y.2.2) := (e_draws (v := cutV y.1) hc).trans (by rw [cut_i (by decide), cut_u (by decide), cut_u (by omega)]; rfl)
      have hy1 : drwV y.1 c 1 = c := ((if_neg (by omega)).trans (if_neg (by omega))).trans ((hP.1 1 (by omega) (by omega)).trans h1)
      have r1 : aI 0 (RS B m g' f n A (drwV y.1 c) nm y.2.2) (m + 1) (1 : Int32) = some (nN (drwV y.1 c 1)) := RS_rd (i := 1) (by decide) (by decide)
      have ek : nN c + (1 : Int32) = nN (c + 1) := nN_add c 1
      have w0 : aIs (RS B m g' f n A (drwV y.1 c) nm y.2.2) (m + 1) (1 : Int32) (nN (c + 1)) = some (RS B m g' f n A (updN (drwV y.1 c) 1 (c + 1)) nm y.2.2) := RS_wr (i := 1) (by decide) (by decide)
      rw [w1]
      show PE B m g f n A _ (ob2 (some ((1 : Int32), RS B m g' f n A y.1 nm y.2.2)) _)
      rw [ob2_def, if_neg i10, RS_b, hd, bS, RS_0, bS, r1, bS, hy1, ek, w0, bS]
      exact ⟨g', rfl, w2, w3⟩
  · rw [← bI_f cw, if_neg cw, if_pos z00, RS_b, r_f2 h15]
    exact pe_f rfl
theorem r_chiF (h : TXE g A n f) (hq : q ≤ n) (h15 : g 15 = 0) {o c : Nat} (ho : g 21 = nN o) (hc : c < 40) (h0 : v 0 ≤ 8) (hN : NMS nm (v 0)) (h1 : v 1 = c) (h324 : v (324 + c) = 0) : PE B m g f n A (chiF f n nm o c v q) (kfR m c (RS B m g f n A v nm q)) := by
  have hx := (nxt_b (f := f) hq).2.1
  have e204 : (204 : Int32) + nN c = nN (204 + c) := nN_add 204 c
  unfold kfR chiF
  rw [RS_b, r_word h hq (by decide), bS, jn_def]
  by_cases cw : wdN f n q = some 9
  · rw [← bI_t cw, if_pos cw, if_neg n1z, RS_b, RS_adv h hq, bS, RS_b, e204]
    refine pe_num (lo := 1) (hi := 99) h hx h15 (by omega) (by omega) (by decide) (by decide) (fun M => if_pos rfl) (fun c1 c2 c3 => ?_)
    show PE B m g f n A _ (if (1 : Int32) = 0 then _ else _)
    rw [if_neg i10]
    have u : ∀ i, i ≠ 204 + c → updN v (204 + c) (vlN f n (nxt f n q)) i = v i := fun i hi => if_neg hi
    exact r_chiP h c3 h15 ho hc (by rw [u 0 (by omega)]; exact h0) (by rw [u 0 (by omega)]; exact hN) (by rw [u 1 (by omega)]; exact h1) (by rw [u (324 + c) (by omega)]; exact h324)
  · rw [← bI_f cw, if_neg cw, if_pos z00]
    exact r_chiP h hq h15 ho hc h0 hN h1 h324
theorem r_childS (h : TXE g A n f) (hq : q ≤ n) (h15 : g 15 = 0) {o : Nat} (ho : g 21 = nN o) (h0 : v 0 ≤ 8) (h1 : v 1 ≤ 40) (hN : NMS nm (v 0)) (h324 : v 1 < 40 → v (324 + v 1) = 0) : PE B m g f n A (childS f n v nm o q) (p_X7_readChild m (RS B m g f n A v nm q)) := by
  have r1 : aI 0 (RS B m g f n A v nm q) (m + 1) (1 : Int32) = some (nN (v 1)) := RS_rd (i := 1) (by decide) (by decide)
  have hx := (nxt_b (f := f) hq).2.1
  unfold p_X7_readChild childS
  rw [RS_0, bS, r1, bS, jn_def]
  by_cases c : 40 ≤ v 1
  · rw [if_pos (show (40 : Int32) ≤ nN (v 1) from nle_t (a := 40) (by omega) (by omega) c), if_pos c]
    show PE B m g f n A _ (Option.bind (isC 6 (RS B m g f n A v nm q) m) _)
    rw [RS_b, (r_starts h hq h15).1, ob2_def, if_pos rfl]
    exact pe_f rfl
  · rw [if_neg (show ¬ (40 : Int32) ≤ nN (v 1) from nle_f (a := 40) (by omega) (by omega) c), if_neg c]
    have hc : v 1 < 40 := by omega
    have e124 : (124 : Int32) + nN (v 1) = nN (124 + v 1) := nN_add 124 _
    have e164 : (164 : Int32) + nN (v 1) = nN (164 + v 1) := nN_add 164 _
    have e244 : (244 : Int32) + nN (v 1) = nN (244 + v 1) := nN_add 244 _
    show PE B m g f n A _ (Option.bind (isC 6 (RS B m g f n A v nm q) m) _)
    rw [RS_b, (r_starts h hq h15).2, ob2_def, if_neg i10, RS_b, e124, e164, e244]
    refine pe_num (lo := 0) (hi := 99) h hx h15 (by omega) (by omega) (by decide) (by decide) (fun M => if_pos rfl) (fun c1 c2 c3 => ?_)
    show PE B m g f n A _ (if (1 : Int32) = 0 then _ else _)
    rw [if_neg i10, RS_b]
    refine pe_num (lo := 0) (hi := 99) h c3 h15 (by omega) (by omega) (by decide) (by decide) (fun M => if_pos rfl) (fun c4 c5 c6 => ?_)
    show PE B m g f n A _ (if (1 : Int32) = 0 then _ else _)
    rw [if_neg i10, RS_b]
    generalize hX : vlN f n (nxt f n q) = X at c2 ⊢
    generalize hY : vlN f n (nxt f n (nxt f n q)) = Y at c5 ⊢
    have u : ∀ i, i ≠ 124 + v 1 → i ≠ 164 + v 1 → updN (updN v (124 + v 1) X) (164 + v 1) Y i = v i := fun i h1 h2 => (if_neg h2).trans (if_neg h1)
    have u0 := u 0 (by omega) (by omega)
    have u1 := u 1 (by omega) (by omega)
    have u3 := (u (324 + v 1) (by omega) (by omega)).trans (h324 hc)
    generalize updN (updN v (124 + v 1) X) (164 + v 1) Y = V at u u0 u1 u3 ⊢
    rw [r_word h c6 (by decide), bS, jn_def]
    unfold chiC
    by_cases cw : wdN f n (nxt f n (nxt f n (nxt f n q))) = some 7
    · have w1 : ∀ z, aIs (RS B m g f n A V nm z) (m + 1) (nN (244 + v 1)) (1 : Int32) = some (RS B m g f n A (updN V (244 + v 1) 1) nm z) := fun z => RS_wr (x := 1) (by omega) (by omega)
      have w : ∀ i, i ≠ 244 + v 1 → updN V (244 + v 1) 1 i = V i := fun i hi => if_neg hi
      rw [← bI_t cw, if_pos cw, if_neg n1z, RS_0, bS, w1, bS, RS_b, RS_adv h c6, bS]
      exact r_chiF (v := updN V (244 + v 1) 1) h (nxt_b c6).2.1 h15 ho hc (by rw [w 0 (by omega), u0]; exact h0) (by rw [w 0 (by omega), u0]; exact hN) (by rw [w 1 (by omega), u1]) (by rw [w (324 + v 1) (by omega)]; exact u3)
    · rw [← bI_f cw, if_neg cw, if_pos z00]
      exact r_chiF h c6 h15 ho hc (by rw [u0]; exact h0) (by rw [u0]; exact hN) u1 u3
end RS5
